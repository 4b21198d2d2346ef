section
-- ===== PART A: goes FIRST, ahead of the names: the tables' words, and 'selects' of the private methods out of them =====
/-- a private method of a class that the tables say can be made, by its rows of tables_1 -/
def lw_okq (q : MethodName × Nat) : Prop := (q.1.cls ≠ "java/lang/invoke/MethodHandle" ∧ q.1.cls ≠ "java/lang/invoke/VarHandle") ∧ Cond.instantiable q.1.cls q.2 ∈ tables_1 ∧ Cond.privateMethod q.1 ∈ tables_1 ∧ Cond.instanceMethod q.1 ∈ tables_1
theorem lw_p0 : lw_okq (⟨"RoadWorks", "refusalOf", "(II)I"⟩, 8) := ⟨⟨by decide +kernel, by decide +kernel⟩, List.mem_of_getElem? (i := 13) (by decide +kernel), List.mem_of_getElem? (i := 401) (by decide +kernel), List.mem_of_getElem? (i := 402) (by decide +kernel)⟩
theorem lw_p1 : lw_okq (⟨"RoadWorks", "brokenFrom", "(LRoadWorks$Work;I)I"⟩, 8) := ⟨⟨by decide +kernel, by decide +kernel⟩, List.mem_of_getElem? (i := 13) (by decide +kernel), List.mem_of_getElem? (i := 409) (by decide +kernel), List.mem_of_getElem? (i := 410) (by decide +kernel)⟩
theorem lw_p2 : lw_okq (⟨"RoadWorks$Rules", "isLateNotice", "(LRoadWorks$Work;I)Z"⟩, 5) := ⟨⟨by decide +kernel, by decide +kernel⟩, List.mem_of_getElem? (i := 287) (by decide +kernel), List.mem_of_getElem? (i := 436) (by decide +kernel), List.mem_of_getElem? (i := 437) (by decide +kernel)⟩
theorem lw_p3 : lw_okq (⟨"RoadWorks$Rules", "found", "(II)Z"⟩, 5) := ⟨⟨by decide +kernel, by decide +kernel⟩, List.mem_of_getElem? (i := 287) (by decide +kernel), List.mem_of_getElem? (i := 444) (by decide +kernel), List.mem_of_getElem? (i := 445) (by decide +kernel)⟩
theorem lw_p4 : lw_okq (⟨"RoadWorks$Rules", "isPastEnd", "(LRoadWorks$Work;I)Z"⟩, 5) := ⟨⟨by decide +kernel, by decide +kernel⟩, List.mem_of_getElem? (i := 287) (by decide +kernel), List.mem_of_getElem? (i := 448) (by decide +kernel), List.mem_of_getElem? (i := 449) (by decide +kernel)⟩
theorem lw_p5 : lw_okq (⟨"RoadWorks$Rules", "isOnFeast", "(LRoadWorks$Work;II)Z"⟩, 5) := ⟨⟨by decide +kernel, by decide +kernel⟩, List.mem_of_getElem? (i := 287) (by decide +kernel), List.mem_of_getElem? (i := 452) (by decide +kernel), List.mem_of_getElem? (i := 453) (by decide +kernel)⟩
theorem lw_p6 : lw_okq (⟨"RoadWorks$Company", "lanesAddedBy", "(LRoadWorks$Work;I)I"⟩, 9) := ⟨⟨by decide +kernel, by decide +kernel⟩, List.mem_of_getElem? (i := 233) (by decide +kernel), List.mem_of_getElem? (i := 460) (by decide +kernel), List.mem_of_getElem? (i := 461) (by decide +kernel)⟩
theorem lw_p7 : lw_okq (⟨"RoadWorks$Company", "lanesOf", "(LRoadWorks$Work;I)I"⟩, 9) := ⟨⟨by decide +kernel, by decide +kernel⟩, List.mem_of_getElem? (i := 233) (by decide +kernel), List.mem_of_getElem? (i := 468) (by decide +kernel), List.mem_of_getElem? (i := 469) (by decide +kernel)⟩
theorem lw_p8 : lw_okq (⟨"RoadWorks$Rules", "lacksLanes", "(LRoadWorks$Work;II)Z"⟩, 5) := ⟨⟨by decide +kernel, by decide +kernel⟩, List.mem_of_getElem? (i := 287) (by decide +kernel), List.mem_of_getElem? (i := 473) (by decide +kernel), List.mem_of_getElem? (i := 474) (by decide +kernel)⟩
theorem lw_p9 : lw_okq (⟨"RoadWorks$Rules", "meetsDepth", "(LRoadWorks$Work;II)Z"⟩, 5) := ⟨⟨by decide +kernel, by decide +kernel⟩, List.mem_of_getElem? (i := 287) (by decide +kernel), List.mem_of_getElem? (i := 477) (by decide +kernel), List.mem_of_getElem? (i := 478) (by decide +kernel)⟩
theorem lw_p10 : lw_okq (⟨"RoadWorks$Rules", "breaksRest", "(LRoadWorks$Work;II)Z"⟩, 5) := ⟨⟨by decide +kernel, by decide +kernel⟩, List.mem_of_getElem? (i := 287) (by decide +kernel), List.mem_of_getElem? (i := 487) (by decide +kernel), List.mem_of_getElem? (i := 488) (by decide +kernel)⟩
theorem lw_p11 : lw_okq (⟨"RoadWorks$Rules", "blocksWay", "(LRoadWorks$Work;II)Z"⟩, 5) := ⟨⟨by decide +kernel, by decide +kernel⟩, List.mem_of_getElem? (i := 287) (by decide +kernel), List.mem_of_getElem? (i := 494) (by decide +kernel), List.mem_of_getElem? (i := 495) (by decide +kernel)⟩
theorem lw_p12 : lw_okq (⟨"RoadWorks$Rules", "closedBy", "(LRoadWorks$Work;I)J"⟩, 5) := ⟨⟨by decide +kernel, by decide +kernel⟩, List.mem_of_getElem? (i := 287) (by decide +kernel), List.mem_of_getElem? (i := 498) (by decide +kernel), List.mem_of_getElem? (i := 499) (by decide +kernel)⟩
theorem lw_p13 : lw_okq (⟨"RoadWorks$Shifts", "moveOn", "(LRoadWorks$Work;)V"⟩, 3) := ⟨⟨by decide +kernel, by decide +kernel⟩, List.mem_of_getElem? (i := 311) (by decide +kernel), List.mem_of_getElem? (i := 564) (by decide +kernel), List.mem_of_getElem? (i := 565) (by decide +kernel)⟩
theorem lw_p14 : lw_okq (⟨"RoadWorks$Shifts", "fits", "(LRoadWorks$Work;I)Z"⟩, 3) := ⟨⟨by decide +kernel, by decide +kernel⟩, List.mem_of_getElem? (i := 311) (by decide +kernel), List.mem_of_getElem? (i := 653) (by decide +kernel), List.mem_of_getElem? (i := 654) (by decide +kernel)⟩
theorem lw_p15 : lw_okq (⟨"RoadWorks$Shifts", "breaksBeside", "(ILRoadWorks$Work;)Z"⟩, 3) := ⟨⟨by decide +kernel, by decide +kernel⟩, List.mem_of_getElem? (i := 311) (by decide +kernel), List.mem_of_getElem? (i := 657) (by decide +kernel), List.mem_of_getElem? (i := 658) (by decide +kernel)⟩
def lw_privs_1 : List (MethodName × Nat) := [(⟨"RoadWorks", "refusalOf", "(II)I"⟩, 8), (⟨"RoadWorks", "brokenFrom", "(LRoadWorks$Work;I)I"⟩, 8), (⟨"RoadWorks$Rules", "isLateNotice", "(LRoadWorks$Work;I)Z"⟩, 5), (⟨"RoadWorks$Rules", "found", "(II)Z"⟩, 5), (⟨"RoadWorks$Rules", "isPastEnd", "(LRoadWorks$Work;I)Z"⟩, 5), (⟨"RoadWorks$Rules", "isOnFeast", "(LRoadWorks$Work;II)Z"⟩, 5), (⟨"RoadWorks$Company", "lanesAddedBy", "(LRoadWorks$Work;I)I"⟩, 9), (⟨"RoadWorks$Company", "lanesOf", "(LRoadWorks$Work;I)I"⟩, 9), (⟨"RoadWorks$Rules", "lacksLanes", "(LRoadWorks$Work;II)Z"⟩, 5), (⟨"RoadWorks$Rules", "meetsDepth", "(LRoadWorks$Work;II)Z"⟩, 5), (⟨"RoadWorks$Rules", "breaksRest", "(LRoadWorks$Work;II)Z"⟩, 5), (⟨"RoadWorks$Rules", "blocksWay", "(LRoadWorks$Work;II)Z"⟩, 5), (⟨"RoadWorks$Rules", "closedBy", "(LRoadWorks$Work;I)J"⟩, 5), (⟨"RoadWorks$Shifts", "moveOn", "(LRoadWorks$Work;)V"⟩, 3), (⟨"RoadWorks$Shifts", "fits", "(LRoadWorks$Work;I)Z"⟩, 3), (⟨"RoadWorks$Shifts", "breaksBeside", "(ILRoadWorks$Work;)Z"⟩, 3)]
theorem lw_r1 : ∀ q ∈ lw_privs_1, lw_okq q := List.forall_mem_cons.mpr ⟨lw_p0, List.forall_mem_cons.mpr ⟨lw_p1, List.forall_mem_cons.mpr ⟨lw_p2, List.forall_mem_cons.mpr ⟨lw_p3, List.forall_mem_cons.mpr ⟨lw_p4, List.forall_mem_cons.mpr ⟨lw_p5, List.forall_mem_cons.mpr ⟨lw_p6, List.forall_mem_cons.mpr ⟨lw_p7, List.forall_mem_cons.mpr ⟨lw_p8, List.forall_mem_cons.mpr ⟨lw_p9, List.forall_mem_cons.mpr ⟨lw_p10, List.forall_mem_cons.mpr ⟨lw_p11, List.forall_mem_cons.mpr ⟨lw_p12, List.forall_mem_cons.mpr ⟨lw_p13, List.forall_mem_cons.mpr ⟨lw_p14, List.forall_mem_cons.mpr ⟨lw_p15, fun _ h => absurd h List.not_mem_nil⟩⟩⟩⟩⟩⟩⟩⟩⟩⟩⟩⟩⟩⟩⟩⟩
theorem lw_p16 : lw_okq (⟨"RoadWorksModel", "isPiece", "(I)Z"⟩, 34) := ⟨⟨by decide +kernel, by decide +kernel⟩, List.mem_of_getElem? (i := 681) (by decide +kernel), List.mem_of_getElem? (i := 810) (by decide +kernel), List.mem_of_getElem? (i := 811) (by decide +kernel)⟩
theorem lw_p17 : lw_okq (⟨"RoadWorksModel", "isWork", "(I)Z"⟩, 34) := ⟨⟨by decide +kernel, by decide +kernel⟩, List.mem_of_getElem? (i := 681) (by decide +kernel), List.mem_of_getElem? (i := 818) (by decide +kernel), List.mem_of_getElem? (i := 819) (by decide +kernel)⟩
theorem lw_p18 : lw_okq (⟨"RoadWorksModel", "isOn", "(II)Z"⟩, 34) := ⟨⟨by decide +kernel, by decide +kernel⟩, List.mem_of_getElem? (i := 681) (by decide +kernel), List.mem_of_getElem? (i := 822) (by decide +kernel), List.mem_of_getElem? (i := 823) (by decide +kernel)⟩
theorem lw_p19 : lw_okq (⟨"RoadWorksModel", "refusal", "(I)I"⟩, 34) := ⟨⟨by decide +kernel, by decide +kernel⟩, List.mem_of_getElem? (i := 681) (by decide +kernel), List.mem_of_getElem? (i := 830) (by decide +kernel), List.mem_of_getElem? (i := 831) (by decide +kernel)⟩
theorem lw_p20 : lw_okq (⟨"RoadWorksModel", "look", "(II)I"⟩, 34) := ⟨⟨by decide +kernel, by decide +kernel⟩, List.mem_of_getElem? (i := 681) (by decide +kernel), List.mem_of_getElem? (i := 834) (by decide +kernel), List.mem_of_getElem? (i := 835) (by decide +kernel)⟩
theorem lw_p21 : lw_okq (⟨"RoadWorksModel", "rule", "(IIIZ)I"⟩, 34) := ⟨⟨by decide +kernel, by decide +kernel⟩, List.mem_of_getElem? (i := 681) (by decide +kernel), List.mem_of_getElem? (i := 838) (by decide +kernel), List.mem_of_getElem? (i := 839) (by decide +kernel)⟩
theorem lw_p22 : lw_okq (⟨"RoadWorksModel", "notice", "(I)I"⟩, 34) := ⟨⟨by decide +kernel, by decide +kernel⟩, List.mem_of_getElem? (i := 681) (by decide +kernel), List.mem_of_getElem? (i := 842) (by decide +kernel), List.mem_of_getElem? (i := 843) (by decide +kernel)⟩
theorem lw_p23 : lw_okq (⟨"RoadWorksModel", "lowest", "(I)I"⟩, 34) := ⟨⟨by decide +kernel, by decide +kernel⟩, List.mem_of_getElem? (i := 681) (by decide +kernel), List.mem_of_getElem? (i := 846) (by decide +kernel), List.mem_of_getElem? (i := 847) (by decide +kernel)⟩
theorem lw_p24 : lw_okq (⟨"RoadWorksModel", "broken", "(II)Z"⟩, 34) := ⟨⟨by decide +kernel, by decide +kernel⟩, List.mem_of_getElem? (i := 681) (by decide +kernel), List.mem_of_getElem? (i := 850) (by decide +kernel), List.mem_of_getElem? (i := 851) (by decide +kernel)⟩
theorem lw_p25 : lw_okq (⟨"RoadWorksModel", "breaksFeast", "(II)Z"⟩, 34) := ⟨⟨by decide +kernel, by decide +kernel⟩, List.mem_of_getElem? (i := 681) (by decide +kernel), List.mem_of_getElem? (i := 854) (by decide +kernel), List.mem_of_getElem? (i := 855) (by decide +kernel)⟩
theorem lw_p26 : lw_okq (⟨"RoadWorksModel", "breaksLanes", "(IIZ)Z"⟩, 34) := ⟨⟨by decide +kernel, by decide +kernel⟩, List.mem_of_getElem? (i := 681) (by decide +kernel), List.mem_of_getElem? (i := 858) (by decide +kernel), List.mem_of_getElem? (i := 859) (by decide +kernel)⟩
theorem lw_p27 : lw_okq (⟨"RoadWorksModel", "taken", "(IIIZI)I"⟩, 34) := ⟨⟨by decide +kernel, by decide +kernel⟩, List.mem_of_getElem? (i := 681) (by decide +kernel), List.mem_of_getElem? (i := 862) (by decide +kernel), List.mem_of_getElem? (i := 863) (by decide +kernel)⟩
theorem lw_p28 : lw_okq (⟨"RoadWorksModel", "lasts", "(IIIZI)Z"⟩, 34) := ⟨⟨by decide +kernel, by decide +kernel⟩, List.mem_of_getElem? (i := 681) (by decide +kernel), List.mem_of_getElem? (i := 866) (by decide +kernel), List.mem_of_getElem? (i := 867) (by decide +kernel)⟩
theorem lw_p29 : lw_okq (⟨"RoadWorksModel", "counts", "(IIZ)Z"⟩, 34) := ⟨⟨by decide +kernel, by decide +kernel⟩, List.mem_of_getElem? (i := 681) (by decide +kernel), List.mem_of_getElem? (i := 870) (by decide +kernel), List.mem_of_getElem? (i := 871) (by decide +kernel)⟩
theorem lw_p30 : lw_okq (⟨"RoadWorksModel", "hasDays", "(I)Z"⟩, 34) := ⟨⟨by decide +kernel, by decide +kernel⟩, List.mem_of_getElem? (i := 681) (by decide +kernel), List.mem_of_getElem? (i := 874) (by decide +kernel), List.mem_of_getElem? (i := 875) (by decide +kernel)⟩
theorem lw_p31 : lw_okq (⟨"RoadWorksModel", "breaksDepth", "(IIZ)Z"⟩, 34) := ⟨⟨by decide +kernel, by decide +kernel⟩, List.mem_of_getElem? (i := 681) (by decide +kernel), List.mem_of_getElem? (i := 878) (by decide +kernel), List.mem_of_getElem? (i := 879) (by decide +kernel)⟩
def lw_privs_2 : List (MethodName × Nat) := [(⟨"RoadWorksModel", "isPiece", "(I)Z"⟩, 34), (⟨"RoadWorksModel", "isWork", "(I)Z"⟩, 34), (⟨"RoadWorksModel", "isOn", "(II)Z"⟩, 34), (⟨"RoadWorksModel", "refusal", "(I)I"⟩, 34), (⟨"RoadWorksModel", "look", "(II)I"⟩, 34), (⟨"RoadWorksModel", "rule", "(IIIZ)I"⟩, 34), (⟨"RoadWorksModel", "notice", "(I)I"⟩, 34), (⟨"RoadWorksModel", "lowest", "(I)I"⟩, 34), (⟨"RoadWorksModel", "broken", "(II)Z"⟩, 34), (⟨"RoadWorksModel", "breaksFeast", "(II)Z"⟩, 34), (⟨"RoadWorksModel", "breaksLanes", "(IIZ)Z"⟩, 34), (⟨"RoadWorksModel", "taken", "(IIIZI)I"⟩, 34), (⟨"RoadWorksModel", "lasts", "(IIIZI)Z"⟩, 34), (⟨"RoadWorksModel", "counts", "(IIZ)Z"⟩, 34), (⟨"RoadWorksModel", "hasDays", "(I)Z"⟩, 34), (⟨"RoadWorksModel", "breaksDepth", "(IIZ)Z"⟩, 34)]
theorem lw_r2 : ∀ q ∈ lw_privs_2, lw_okq q := List.forall_mem_cons.mpr ⟨lw_p16, List.forall_mem_cons.mpr ⟨lw_p17, List.forall_mem_cons.mpr ⟨lw_p18, List.forall_mem_cons.mpr ⟨lw_p19, List.forall_mem_cons.mpr ⟨lw_p20, List.forall_mem_cons.mpr ⟨lw_p21, List.forall_mem_cons.mpr ⟨lw_p22, List.forall_mem_cons.mpr ⟨lw_p23, List.forall_mem_cons.mpr ⟨lw_p24, List.forall_mem_cons.mpr ⟨lw_p25, List.forall_mem_cons.mpr ⟨lw_p26, List.forall_mem_cons.mpr ⟨lw_p27, List.forall_mem_cons.mpr ⟨lw_p28, List.forall_mem_cons.mpr ⟨lw_p29, List.forall_mem_cons.mpr ⟨lw_p30, List.forall_mem_cons.mpr ⟨lw_p31, fun _ h => absurd h List.not_mem_nil⟩⟩⟩⟩⟩⟩⟩⟩⟩⟩⟩⟩⟩⟩⟩⟩
theorem lw_p32 : lw_okq (⟨"RoadWorksModel", "breaksRest", "(IIZ)Z"⟩, 34) := ⟨⟨by decide +kernel, by decide +kernel⟩, List.mem_of_getElem? (i := 681) (by decide +kernel), List.mem_of_getElem? (i := 882) (by decide +kernel), List.mem_of_getElem? (i := 883) (by decide +kernel)⟩
theorem lw_p33 : lw_okq (⟨"RoadWorksModel", "breaksWays", "(IIZ)Z"⟩, 34) := ⟨⟨by decide +kernel, by decide +kernel⟩, List.mem_of_getElem? (i := 681) (by decide +kernel), List.mem_of_getElem? (i := 886) (by decide +kernel), List.mem_of_getElem? (i := 887) (by decide +kernel)⟩
theorem lw_p34 : lw_okq (⟨"RoadWorksModel", "shutOn", "(IIZI)J"⟩, 34) := ⟨⟨by decide +kernel, by decide +kernel⟩, List.mem_of_getElem? (i := 681) (by decide +kernel), List.mem_of_getElem? (i := 890) (by decide +kernel), List.mem_of_getElem? (i := 891) (by decide +kernel)⟩
theorem lw_p35 : lw_okq (⟨"RoadWorksModel", "minutesOf", "(IIJ)I"⟩, 34) := ⟨⟨by decide +kernel, by decide +kernel⟩, List.mem_of_getElem? (i := 681) (by decide +kernel), List.mem_of_getElem? (i := 894) (by decide +kernel), List.mem_of_getElem? (i := 895) (by decide +kernel)⟩
theorem lw_p36 : lw_okq (⟨"RoadWorksModel", "put", "(II)V"⟩, 34) := ⟨⟨by decide +kernel, by decide +kernel⟩, List.mem_of_getElem? (i := 681) (by decide +kernel), List.mem_of_getElem? (i := 911) (by decide +kernel), List.mem_of_getElem? (i := 912) (by decide +kernel)⟩
theorem lw_p37 : lw_okq (⟨"RoadWorksModel", "draw", "(I)V"⟩, 34) := ⟨⟨by decide +kernel, by decide +kernel⟩, List.mem_of_getElem? (i := 681) (by decide +kernel), List.mem_of_getElem? (i := 919) (by decide +kernel), List.mem_of_getElem? (i := 920) (by decide +kernel)⟩
theorem lw_p38 : lw_okq (⟨"RoadWorksModel", "moveAll", "()I"⟩, 34) := ⟨⟨by decide +kernel, by decide +kernel⟩, List.mem_of_getElem? (i := 681) (by decide +kernel), List.mem_of_getElem? (i := 931) (by decide +kernel), List.mem_of_getElem? (i := 932) (by decide +kernel)⟩
theorem lw_p39 : lw_okq (⟨"RoadWorksModel", "cost", "(I)I"⟩, 34) := ⟨⟨by decide +kernel, by decide +kernel⟩, List.mem_of_getElem? (i := 681) (by decide +kernel), List.mem_of_getElem? (i := 947) (by decide +kernel), List.mem_of_getElem? (i := 948) (by decide +kernel)⟩
theorem lw_p40 : lw_okq (⟨"RoadWorksModel", "ranks", "(I)I"⟩, 34) := ⟨⟨by decide +kernel, by decide +kernel⟩, List.mem_of_getElem? (i := 681) (by decide +kernel), List.mem_of_getElem? (i := 951) (by decide +kernel), List.mem_of_getElem? (i := 952) (by decide +kernel)⟩
theorem lw_p41 : lw_okq (⟨"RoadWorksModel", "pays", "(I)I"⟩, 34) := ⟨⟨by decide +kernel, by decide +kernel⟩, List.mem_of_getElem? (i := 681) (by decide +kernel), List.mem_of_getElem? (i := 955) (by decide +kernel), List.mem_of_getElem? (i := 956) (by decide +kernel)⟩
theorem lw_p42 : lw_okq (⟨"RoadWorksModel", "delay", "(I)I"⟩, 34) := ⟨⟨by decide +kernel, by decide +kernel⟩, List.mem_of_getElem? (i := 681) (by decide +kernel), List.mem_of_getElem? (i := 959) (by decide +kernel), List.mem_of_getElem? (i := 960) (by decide +kernel)⟩
theorem lw_p43 : lw_okq (⟨"RoadWorksModel", "betters", "()Z"⟩, 34) := ⟨⟨by decide +kernel, by decide +kernel⟩, List.mem_of_getElem? (i := 681) (by decide +kernel), List.mem_of_getElem? (i := 983) (by decide +kernel), List.mem_of_getElem? (i := 984) (by decide +kernel)⟩
theorem lw_p44 : lw_okq (⟨"RoadWorksModel", "othersKeep", "(I)Z"⟩, 34) := ⟨⟨by decide +kernel, by decide +kernel⟩, List.mem_of_getElem? (i := 681) (by decide +kernel), List.mem_of_getElem? (i := 987) (by decide +kernel), List.mem_of_getElem? (i := 988) (by decide +kernel)⟩
def lw_privs_3 : List (MethodName × Nat) := [(⟨"RoadWorksModel", "breaksRest", "(IIZ)Z"⟩, 34), (⟨"RoadWorksModel", "breaksWays", "(IIZ)Z"⟩, 34), (⟨"RoadWorksModel", "shutOn", "(IIZI)J"⟩, 34), (⟨"RoadWorksModel", "minutesOf", "(IIJ)I"⟩, 34), (⟨"RoadWorksModel", "put", "(II)V"⟩, 34), (⟨"RoadWorksModel", "draw", "(I)V"⟩, 34), (⟨"RoadWorksModel", "moveAll", "()I"⟩, 34), (⟨"RoadWorksModel", "cost", "(I)I"⟩, 34), (⟨"RoadWorksModel", "ranks", "(I)I"⟩, 34), (⟨"RoadWorksModel", "pays", "(I)I"⟩, 34), (⟨"RoadWorksModel", "delay", "(I)I"⟩, 34), (⟨"RoadWorksModel", "betters", "()Z"⟩, 34), (⟨"RoadWorksModel", "othersKeep", "(I)Z"⟩, 34)]
theorem lw_r3 : ∀ q ∈ lw_privs_3, lw_okq q := List.forall_mem_cons.mpr ⟨lw_p32, List.forall_mem_cons.mpr ⟨lw_p33, List.forall_mem_cons.mpr ⟨lw_p34, List.forall_mem_cons.mpr ⟨lw_p35, List.forall_mem_cons.mpr ⟨lw_p36, List.forall_mem_cons.mpr ⟨lw_p37, List.forall_mem_cons.mpr ⟨lw_p38, List.forall_mem_cons.mpr ⟨lw_p39, List.forall_mem_cons.mpr ⟨lw_p40, List.forall_mem_cons.mpr ⟨lw_p41, List.forall_mem_cons.mpr ⟨lw_p42, List.forall_mem_cons.mpr ⟨lw_p43, List.forall_mem_cons.mpr ⟨lw_p44, fun _ h => absurd h List.not_mem_nil⟩⟩⟩⟩⟩⟩⟩⟩⟩⟩⟩⟩⟩
def lw_privs : List (MethodName × Nat) := lw_privs_1 ++ (lw_privs_2 ++ (lw_privs_3))
def lw_tbl : List Cond := k2_sels lw_privs ++ tables_1
theorem lw_privs_ok : ∀ q ∈ lw_privs, lw_okq q := by
  show ∀ q ∈ lw_privs_1 ++ (lw_privs_2 ++ (lw_privs_3)), lw_okq q
  exact List.forall_mem_append.mpr ⟨lw_r1, List.forall_mem_append.mpr ⟨lw_r2, lw_r3⟩⟩

def RX0 : String := "RoadWorks$Company"
def TX0 : u_T := fun k => match k with
  | 0 => ("RoadWorks$Company", "town", "LRoadWorks$Town;", true)
  | 1 => ("RoadWorks$Company", "counted", "[Z", true)
  | 2 => ("RoadWorks$Company", "members", "[I", true)
  | 3 => ("RoadWorks$Company", "memberCount", "I", false)
  | 4 => ("RoadWorks$Company", "near", "[I", true)
  | 5 => ("RoadWorks$Company", "nearCount", "I", false)
  | 6 => ("RoadWorks$Company", "taken", "[I", true)
  | 7 => ("RoadWorks$Company", "takenBeside", "[[I", true)
  | _ => ("RoadWorks$Company", "added", "[I", true)
def tyX0 : Nat → FieldType := fun k => match k with
  | 0 => .object "RoadWorks$Town"
  | 1 => .array .boolean
  | 2 => .array .int
  | 3 => .int
  | 4 => .array .int
  | 5 => .int
  | 6 => .array .int
  | 7 => .array (.array .int)
  | _ => .array .int
abbrev wsX00 : List Cond := u_ws RX0 TX0 9
theorem nmX0 : ∀ a, a < 9 → ∀ b, b < 9 → a ≠ b → (TX0 a).2.1 ≠ (TX0 b).2.1 := by decide +kernel
theorem tyX0_ok : ∀ k, k < 9 → parseFieldDescriptor (TX0 k).2.2.1 = some (tyX0 k) := by decide +kernel
abbrev cX0_init : ByteArray := prog_2_method_1_code
def yX0_init : MethodName := ⟨RX0, "<init>", "(LRoadWorks$Town;)V"⟩
abbrev cX0_gatherAll : ByteArray := prog_2_method_2_code
def yX0_gatherAll : MethodName := ⟨RX0, "gatherAll", "()V"⟩
abbrev cX0_gather : ByteArray := prog_2_method_3_code
def yX0_gather : MethodName := ⟨RX0, "gather", "(IJI)V"⟩
abbrev cX0_survey : ByteArray := prog_2_method_4_code
def yX0_survey : MethodName := ⟨RX0, "survey", "(I)J"⟩
abbrev cX0_surveyBeside : ByteArray := prog_2_method_5_code
def yX0_surveyBeside : MethodName := ⟨RX0, "surveyBeside", "(LRoadWorks$Work;II)V"⟩
abbrev cX0_lanesOf : ByteArray := prog_2_method_6_code
def yX0_lanesOf : MethodName := ⟨RX0, "lanesOf", "(LRoadWorks$Work;I)I"⟩
abbrev cX0_lanesAddedBy : ByteArray := prog_2_method_7_code
def yX0_lanesAddedBy : MethodName := ⟨RX0, "lanesAddedBy", "(LRoadWorks$Work;I)I"⟩
def RX1 : String := "RoadWorks$Pair"
def TX1 : u_T := fun k => match k with
  | 0 => ("RoadWorks$Pair", "from", "I", false)
  | 1 => ("RoadWorks$Pair", "to", "I", false)
  | _ => ("RoadWorks$Pair", "limit", "I", false)
def tyX1 : Nat → FieldType := fun k => match k with
  | 0 => .int
  | 1 => .int
  | _ => .int
abbrev wsX10 : List Cond := u_ws RX1 TX1 3
theorem nmX1 : ∀ a, a < 3 → ∀ b, b < 3 → a ≠ b → (TX1 a).2.1 ≠ (TX1 b).2.1 := by decide +kernel
theorem tyX1_ok : ∀ k, k < 3 → parseFieldDescriptor (TX1 k).2.2.1 = some (tyX1 k) := by decide +kernel
abbrev cX1_init : ByteArray := prog_3_method_1_code
def yX1_init : MethodName := ⟨RX1, "<init>", "()V"⟩
def RX2 : String := "RoadWorks$Piece"
def TX2 : u_T := fun k => match k with
  | 0 => ("RoadWorks$Piece", "from", "I", false)
  | 1 => ("RoadWorks$Piece", "to", "I", false)
  | 2 => ("RoadWorks$Piece", "lanes", "I", false)
  | 3 => ("RoadWorks$Piece", "rank", "I", false)
  | 4 => ("RoadWorks$Piece", "minutes", "I", false)
  | _ => ("RoadWorks$Piece", "rest", "I", false)
def tyX2 : Nat → FieldType := fun k => match k with
  | 0 => .int
  | 1 => .int
  | 2 => .int
  | 3 => .int
  | 4 => .int
  | _ => .int
abbrev wsX20 : List Cond := u_ws RX2 TX2 6
theorem nmX2 : ∀ a, a < 6 → ∀ b, b < 6 → a ≠ b → (TX2 a).2.1 ≠ (TX2 b).2.1 := by decide +kernel
theorem tyX2_ok : ∀ k, k < 6 → parseFieldDescriptor (TX2 k).2.2.1 = some (tyX2 k) := by decide +kernel
abbrev cX2_init : ByteArray := prog_4_method_1_code
def yX2_init : MethodName := ⟨RX2, "<init>", "()V"⟩
def RX3 : String := "RoadWorks$Rules"
def TX3 : u_T := fun k => match k with
  | 0 => ("RoadWorks$Rules", "town", "LRoadWorks$Town;", true)
  | 1 => ("RoadWorks$Rules", "company", "LRoadWorks$Company;", true)
  | 2 => ("RoadWorks$Rules", "ways", "LRoadWorks$Ways;", true)
  | 3 => ("RoadWorks$Rules", "foundDay", "I", false)
  | _ => ("RoadWorks$Rules", "foundPlace", "I", false)
def tyX3 : Nat → FieldType := fun k => match k with
  | 0 => .object "RoadWorks$Town"
  | 1 => .object "RoadWorks$Company"
  | 2 => .object "RoadWorks$Ways"
  | 3 => .int
  | _ => .int
abbrev wsX30 : List Cond := u_ws RX3 TX3 5
theorem nmX3 : ∀ a, a < 5 → ∀ b, b < 5 → a ≠ b → (TX3 a).2.1 ≠ (TX3 b).2.1 := by decide +kernel
theorem tyX3_ok : ∀ k, k < 5 → parseFieldDescriptor (TX3 k).2.2.1 = some (tyX3 k) := by decide +kernel
abbrev cX3_init : ByteArray := prog_5_method_1_code
def yX3_init : MethodName := ⟨RX3, "<init>", "(LRoadWorks$Town;LRoadWorks$Company;LRoadWorks$Ways;)V"⟩
abbrev cX3_lookAt : ByteArray := prog_5_method_2_code
def yX3_lookAt : MethodName := ⟨RX3, "lookAt", "(LRoadWorks$Work;I)V"⟩
abbrev cX3_broken : ByteArray := prog_5_method_3_code
def yX3_broken : MethodName := ⟨RX3, "broken", "(LRoadWorks$Work;II)I"⟩
abbrev cX3_found : ByteArray := prog_5_method_4_code
def yX3_found : MethodName := ⟨RX3, "found", "(II)Z"⟩
abbrev cX3_isLateNotice : ByteArray := prog_5_method_5_code
def yX3_isLateNotice : MethodName := ⟨RX3, "isLateNotice", "(LRoadWorks$Work;I)Z"⟩
abbrev cX3_isPastEnd : ByteArray := prog_5_method_6_code
def yX3_isPastEnd : MethodName := ⟨RX3, "isPastEnd", "(LRoadWorks$Work;I)Z"⟩
abbrev cX3_isOnFeast : ByteArray := prog_5_method_7_code
def yX3_isOnFeast : MethodName := ⟨RX3, "isOnFeast", "(LRoadWorks$Work;II)Z"⟩
abbrev cX3_lacksLanes : ByteArray := prog_5_method_8_code
def yX3_lacksLanes : MethodName := ⟨RX3, "lacksLanes", "(LRoadWorks$Work;II)Z"⟩
abbrev cX3_meetsDepth : ByteArray := prog_5_method_9_code
def yX3_meetsDepth : MethodName := ⟨RX3, "meetsDepth", "(LRoadWorks$Work;II)Z"⟩
abbrev cX3_leastShared : ByteArray := prog_5_method_10_code
def yX3_leastShared : MethodName := ⟨RX3, "leastShared", "(LRoadWorks$Work;LRoadWorks$Work;)I"⟩
abbrev cX3_breaksRest : ByteArray := prog_5_method_11_code
def yX3_breaksRest : MethodName := ⟨RX3, "breaksRest", "(LRoadWorks$Work;II)Z"⟩
abbrev cX3_rests : ByteArray := prog_5_method_12_code
def yX3_rests : MethodName := ⟨RX3, "rests", "(III)Z"⟩
abbrev cX3_blocksWay : ByteArray := prog_5_method_13_code
def yX3_blocksWay : MethodName := ⟨RX3, "blocksWay", "(LRoadWorks$Work;II)Z"⟩
abbrev cX3_closedBy : ByteArray := prog_5_method_14_code
def yX3_closedBy : MethodName := ⟨RX3, "closedBy", "(LRoadWorks$Work;I)J"⟩
def RX4 : String := "RoadWorks$Shifts"
def TX4 : u_T := fun k => match k with
  | 0 => ("RoadWorks$Shifts", "town", "LRoadWorks$Town;", true)
  | 1 => ("RoadWorks$Shifts", "rules", "LRoadWorks$Rules;", true)
  | _ => ("RoadWorks$Shifts", "breaker", "I", false)
def tyX4 : Nat → FieldType := fun k => match k with
  | 0 => .object "RoadWorks$Town"
  | 1 => .object "RoadWorks$Rules"
  | _ => .int
abbrev wsX40 : List Cond := u_ws RX4 TX4 3
theorem nmX4 : ∀ a, a < 3 → ∀ b, b < 3 → a ≠ b → (TX4 a).2.1 ≠ (TX4 b).2.1 := by decide +kernel
theorem tyX4_ok : ∀ k, k < 3 → parseFieldDescriptor (TX4 k).2.2.1 = some (tyX4 k) := by decide +kernel
abbrev cX4_init : ByteArray := prog_6_method_1_code
def yX4_init : MethodName := ⟨RX4, "<init>", "(LRoadWorks$Town;LRoadWorks$Rules;)V"⟩
abbrev cX4_moveBroken : ByteArray := prog_6_method_2_code
def yX4_moveBroken : MethodName := ⟨RX4, "moveBroken", "()I"⟩
abbrev cX4_moveOn : ByteArray := prog_6_method_3_code
def yX4_moveOn : MethodName := ⟨RX4, "moveOn", "(LRoadWorks$Work;)V"⟩
abbrev cX4_betterOne : ByteArray := prog_6_method_4_code
def yX4_betterOne : MethodName := ⟨RX4, "betterOne", "()Z"⟩
abbrev cX4_fits : ByteArray := prog_6_method_5_code
def yX4_fits : MethodName := ⟨RX4, "fits", "(LRoadWorks$Work;I)Z"⟩
abbrev cX4_breaksBeside : ByteArray := prog_6_method_6_code
def yX4_breaksBeside : MethodName := ⟨RX4, "breaksBeside", "(ILRoadWorks$Work;)Z"⟩
def RX5 : String := "RoadWorks$Town"
def TX5 : u_T := fun k => match k with
  | 0 => ("RoadWorks$Town", "pieces", "[LRoadWorks$Piece;", true)
  | 1 => ("RoadWorks$Town", "pairs", "[LRoadWorks$Pair;", true)
  | 2 => ("RoadWorks$Town", "works", "[LRoadWorks$Work;", true)
  | 3 => ("RoadWorks$Town", "feasts", "[Z", true)
  | 4 => ("RoadWorks$Town", "pieceCount", "I", false)
  | 5 => ("RoadWorks$Town", "pairCount", "I", false)
  | 6 => ("RoadWorks$Town", "workCount", "I", false)
  | _ => ("RoadWorks$Town", "today", "I", false)
def tyX5 : Nat → FieldType := fun k => match k with
  | 0 => .array (.object "RoadWorks$Piece")
  | 1 => .array (.object "RoadWorks$Pair")
  | 2 => .array (.object "RoadWorks$Work")
  | 3 => .array .boolean
  | 4 => .int
  | 5 => .int
  | 6 => .int
  | _ => .int
abbrev wsX50 : List Cond := u_ws RX5 TX5 8
theorem nmX5 : ∀ a, a < 8 → ∀ b, b < 8 → a ≠ b → (TX5 a).2.1 ≠ (TX5 b).2.1 := by decide +kernel
theorem tyX5_ok : ∀ k, k < 8 → parseFieldDescriptor (TX5 k).2.2.1 = some (tyX5 k) := by decide +kernel
abbrev cX5_init : ByteArray := prog_7_method_1_code
def yX5_init : MethodName := ⟨RX5, "<init>", "()V"⟩
abbrev cX5_hasPiece : ByteArray := prog_7_method_2_code
def yX5_hasPiece : MethodName := ⟨RX5, "hasPiece", "(I)Z"⟩
abbrev cX5_hasPair : ByteArray := prog_7_method_3_code
def yX5_hasPair : MethodName := ⟨RX5, "hasPair", "(I)Z"⟩
abbrev cX5_hasWork : ByteArray := prog_7_method_4_code
def yX5_hasWork : MethodName := ⟨RX5, "hasWork", "(I)Z"⟩
abbrev cX5_worksIn : ByteArray := prog_7_method_5_code
def yX5_worksIn : MethodName := ⟨RX5, "worksIn", "(I)I"⟩
abbrev cX5_permitFrom : ByteArray := prog_7_method_6_code
def yX5_permitFrom : MethodName := ⟨RX5, "permitFrom", "(LRoadWorks$Work;I)V"⟩
abbrev cX5_drop : ByteArray := prog_7_method_7_code
def yX5_drop : MethodName := ⟨RX5, "drop", "(LRoadWorks$Work;)V"⟩
abbrev cX5_passDay : ByteArray := prog_7_method_8_code
def yX5_passDay : MethodName := ⟨RX5, "passDay", "()V"⟩
abbrev cX5_ranks : ByteArray := prog_7_method_9_code
def yX5_ranks : MethodName := ⟨RX5, "ranks", "(LRoadWorks$Work;)I"⟩
abbrev cX5_costAlone : ByteArray := prog_7_method_10_code
def yX5_costAlone : MethodName := ⟨RX5, "costAlone", "(LRoadWorks$Work;)I"⟩
abbrev cX5_fine : ByteArray := prog_7_method_11_code
def yX5_fine : MethodName := ⟨RX5, "fine", "(LRoadWorks$Work;)I"⟩
abbrev cX5_pays : ByteArray := prog_7_method_12_code
def yX5_pays : MethodName := ⟨RX5, "pays", "(LRoadWorks$Work;)I"⟩
abbrev cX5_bookedAhead : ByteArray := prog_7_method_13_code
def yX5_bookedAhead : MethodName := ⟨RX5, "bookedAhead", "(ILRoadWorks$Work;)I"⟩
def RX6 : String := "RoadWorks$Ways"
def TX6 : u_T := fun k => match k with
  | 0 => ("RoadWorks$Ways", "town", "LRoadWorks$Town;", true)
  | _ => ("RoadWorks$Ways", "minutes", "[I", true)
def tyX6 : Nat → FieldType := fun k => match k with
  | 0 => .object "RoadWorks$Town"
  | _ => .array .int
abbrev wsX60 : List Cond := u_ws RX6 TX6 2
theorem nmX6 : ∀ a, a < 2 → ∀ b, b < 2 → a ≠ b → (TX6 a).2.1 ≠ (TX6 b).2.1 := by decide +kernel
theorem tyX6_ok : ∀ k, k < 2 → parseFieldDescriptor (TX6 k).2.2.1 = some (tyX6 k) := by decide +kernel
abbrev cX6_init : ByteArray := prog_8_method_1_code
def yX6_init : MethodName := ⟨RX6, "<init>", "(LRoadWorks$Town;)V"⟩
abbrev cX6_isOpen : ByteArray := prog_8_method_2_code
def yX6_isOpen : MethodName := ⟨RX6, "isOpen", "(LRoadWorks$Pair;J)Z"⟩
abbrev cX6_fewest : ByteArray := prog_8_method_3_code
def yX6_fewest : MethodName := ⟨RX6, "fewest", "(LRoadWorks$Pair;J)I"⟩
def RX7 : String := "RoadWorks$Work"
def TX7 : u_T := fun k => match k with
  | 0 => ("RoadWorks$Work", "number", "I", true)
  | 1 => ("RoadWorks$Work", "pieces", "[I", true)
  | 2 => ("RoadWorks$Work", "size", "I", false)
  | 3 => ("RoadWorks$Work", "mask", "J", false)
  | 4 => ("RoadWorks$Work", "house", "I", false)
  | 5 => ("RoadWorks$Work", "sort", "I", false)
  | 6 => ("RoadWorks$Work", "lanes", "I", false)
  | 7 => ("RoadWorks$Work", "days", "I", false)
  | 8 => ("RoadWorks$Work", "depth", "I", false)
  | 9 => ("RoadWorks$Work", "wanted", "I", false)
  | 10 => ("RoadWorks$Work", "state", "I", false)
  | 11 => ("RoadWorks$Work", "begin", "I", false)
  | 12 => ("RoadWorks$Work", "last", "I", false)
  | 13 => ("RoadWorks$Work", "over", "I", false)
  | 14 => ("RoadWorks$Work", "partner", "I", false)
  | _ => ("RoadWorks$Work", "moves", "I", false)
def tyX7 : Nat → FieldType := fun k => match k with
  | 0 => .int
  | 1 => .array .int
  | 2 => .int
  | 3 => .long
  | 4 => .int
  | 5 => .int
  | 6 => .int
  | 7 => .int
  | 8 => .int
  | 9 => .int
  | 10 => .int
  | 11 => .int
  | 12 => .int
  | 13 => .int
  | 14 => .int
  | _ => .int
abbrev wsX70 : List Cond := u_ws RX7 TX7 16
theorem nmX7 : ∀ a, a < 16 → ∀ b, b < 16 → a ≠ b → (TX7 a).2.1 ≠ (TX7 b).2.1 := by decide +kernel
theorem tyX7_ok : ∀ k, k < 16 → parseFieldDescriptor (TX7 k).2.2.1 = some (tyX7 k) := by decide +kernel
abbrev cX7_init : ByteArray := prog_9_method_1_code
def yX7_init : MethodName := ⟨RX7, "<init>", "(I)V"⟩
abbrev cX7_take : ByteArray := prog_9_method_2_code
def yX7_take : MethodName := ⟨RX7, "take", "(I)V"⟩
abbrev cX7_uses : ByteArray := prog_9_method_3_code
def yX7_uses : MethodName := ⟨RX7, "uses", "(I)Z"⟩
abbrev cX7_isOpen : ByteArray := prog_9_method_4_code
def yX7_isOpen : MethodName := ⟨RX7, "isOpen", "()Z"⟩
abbrev cX7_stands : ByteArray := prog_9_method_5_code
def yX7_stands : MethodName := ⟨RX7, "stands", "()Z"⟩
abbrev cX7_canBeJoined : ByteArray := prog_9_method_6_code
def yX7_canBeJoined : MethodName := ⟨RX7, "canBeJoined", "()Z"⟩
abbrev cX7_isBookedOn : ByteArray := prog_9_method_7_code
def yX7_isBookedOn : MethodName := ⟨RX7, "isBookedOn", "(I)Z"⟩
abbrev cX7_lastFrom : ByteArray := prog_9_method_8_code
def yX7_lastFrom : MethodName := ⟨RX7, "lastFrom", "(I)I"⟩
abbrev cX7_placeAt : ByteArray := prog_9_method_9_code
def yX7_placeAt : MethodName := ⟨RX7, "placeAt", "(I)V"⟩
abbrev cX7_notice : ByteArray := prog_9_method_10_code
def yX7_notice : MethodName := ⟨RX7, "notice", "()I"⟩
abbrev cX7_delay : ByteArray := prog_9_method_11_code
def yX7_delay : MethodName := ⟨RX7, "delay", "()I"⟩
def RX8 : String := "RoadWorks"
def TX8 : u_T := fun k => match k with
  | 0 => ("RoadWorks", "town", "LRoadWorks$Town;", true)
  | 1 => ("RoadWorks", "company", "LRoadWorks$Company;", true)
  | 2 => ("RoadWorks", "ways", "LRoadWorks$Ways;", true)
  | 3 => ("RoadWorks", "rules", "LRoadWorks$Rules;", true)
  | 4 => ("RoadWorks", "shifts", "LRoadWorks$Shifts;", true)
  | 5 => ("RoadWorks", "whyKnown", "Z", false)
  | 6 => ("RoadWorks", "whyDay", "I", false)
  | _ => ("RoadWorks", "whyPlace", "I", false)
def tyX8 : Nat → FieldType := fun k => match k with
  | 0 => .object "RoadWorks$Town"
  | 1 => .object "RoadWorks$Company"
  | 2 => .object "RoadWorks$Ways"
  | 3 => .object "RoadWorks$Rules"
  | 4 => .object "RoadWorks$Shifts"
  | 5 => .boolean
  | 6 => .int
  | _ => .int
abbrev wsX80 : List Cond := u_ws RX8 TX8 8
theorem nmX8 : ∀ a, a < 8 → ∀ b, b < 8 → a ≠ b → (TX8 a).2.1 ≠ (TX8 b).2.1 := by decide +kernel
theorem tyX8_ok : ∀ k, k < 8 → parseFieldDescriptor (TX8 k).2.2.1 = some (tyX8 k) := by decide +kernel
abbrev cX8_init : ByteArray := prog_1_method_1_code
def yX8_init : MethodName := ⟨RX8, "<init>", "()V"⟩
abbrev cX8_piece : ByteArray := prog_1_method_2_code
def yX8_piece : MethodName := ⟨RX8, "piece", "(IIIII)I"⟩
abbrev cX8_pair : ByteArray := prog_1_method_3_code
def yX8_pair : MethodName := ⟨RX8, "pair", "(III)I"⟩
abbrev cX8_feast : ByteArray := prog_1_method_4_code
def yX8_feast : MethodName := ⟨RX8, "feast", "(II)I"⟩
abbrev cX8_work : ByteArray := prog_1_method_5_code
def yX8_work : MethodName := ⟨RX8, "work", "(III)I"⟩
abbrev cX8_more : ByteArray := prog_1_method_6_code
def yX8_more : MethodName := ⟨RX8, "more", "(II)I"⟩
abbrev cX8_may : ByteArray := prog_1_method_7_code
def yX8_may : MethodName := ⟨RX8, "may", "(II)I"⟩
abbrev cX8_why : ByteArray := prog_1_method_8_code
def yX8_why : MethodName := ⟨RX8, "why", "(I)I"⟩
abbrev cX8_first : ByteArray := prog_1_method_9_code
def yX8_first : MethodName := ⟨RX8, "first", "(III)I"⟩
abbrev cX8_permit : ByteArray := prog_1_method_10_code
def yX8_permit : MethodName := ⟨RX8, "permit", "(II)I"⟩
abbrev cX8_withdraw : ByteArray := prog_1_method_11_code
def yX8_withdraw : MethodName := ⟨RX8, "withdraw", "(I)I"⟩
abbrev cX8_day : ByteArray := prog_1_method_12_code
def yX8_day : MethodName := ⟨RX8, "day", "(I)I"⟩
abbrev cX8_over : ByteArray := prog_1_method_13_code
def yX8_over : MethodName := ⟨RX8, "over", "(II)I"⟩
abbrev cX8_crash : ByteArray := prog_1_method_14_code
def yX8_crash : MethodName := ⟨RX8, "crash", "(I)I"⟩
abbrev cX8_join : ByteArray := prog_1_method_15_code
def yX8_join : MethodName := ⟨RX8, "join", "(II)I"⟩
abbrev cX8_about : ByteArray := prog_1_method_16_code
def yX8_about : MethodName := ⟨RX8, "about", "(II)I"⟩
abbrev cX8_lanes : ByteArray := prog_1_method_17_code
def yX8_lanes : MethodName := ⟨RX8, "lanes", "(II)I"⟩
abbrev cX8_way : ByteArray := prog_1_method_18_code
def yX8_way : MethodName := ⟨RX8, "way", "(II)I"⟩
abbrev cX8_shut : ByteArray := prog_1_method_19_code
def yX8_shut : MethodName := ⟨RX8, "shut", "(I)I"⟩
abbrev cX8_price : ByteArray := prog_1_method_20_code
def yX8_price : MethodName := ⟨RX8, "price", "()I"⟩
abbrev cX8_better : ByteArray := prog_1_method_21_code
def yX8_better : MethodName := ⟨RX8, "better", "()I"⟩
abbrev cX8_book : ByteArray := prog_1_method_22_code
def yX8_book : MethodName := ⟨RX8, "book", "(II)I"⟩
abbrev cX8_count : ByteArray := prog_1_method_23_code
def yX8_count : MethodName := ⟨RX8, "count", "(I)I"⟩
abbrev cX8_within : ByteArray := prog_1_method_24_code
def yX8_within : MethodName := ⟨RX8, "within", "(III)Z"⟩
abbrev cX8_isDay : ByteArray := prog_1_method_25_code
def yX8_isDay : MethodName := ⟨RX8, "isDay", "(I)Z"⟩
abbrev cX8_areCrossings : ByteArray := prog_1_method_26_code
def yX8_areCrossings : MethodName := ⟨RX8, "areCrossings", "(II)Z"⟩
abbrev cX8_refusalOf : ByteArray := prog_1_method_27_code
def yX8_refusalOf : MethodName := ⟨RX8, "refusalOf", "(II)I"⟩
abbrev cX8_brokenFrom : ByteArray := prog_1_method_28_code
def yX8_brokenFrom : MethodName := ⟨RX8, "brokenFrom", "(LRoadWorks$Work;I)I"⟩
def RX9 : String := "RoadWorksModel"
def TX9 : u_T := fun k => match k with
  | 0 => ("RoadWorksModel", "from", "[I", true)
  | 1 => ("RoadWorksModel", "to", "[I", true)
  | 2 => ("RoadWorksModel", "lanes", "[I", true)
  | 3 => ("RoadWorksModel", "rank", "[I", true)
  | 4 => ("RoadWorksModel", "minutes", "[I", true)
  | 5 => ("RoadWorksModel", "rest", "[I", true)
  | 6 => ("RoadWorksModel", "pieces", "I", false)
  | 7 => ("RoadWorksModel", "pairA", "[I", true)
  | 8 => ("RoadWorksModel", "pairB", "[I", true)
  | 9 => ("RoadWorksModel", "limit", "[I", true)
  | 10 => ("RoadWorksModel", "pairs", "I", false)
  | 11 => ("RoadWorksModel", "feast", "[Z", true)
  | 12 => ("RoadWorksModel", "today", "I", false)
  | 13 => ("RoadWorksModel", "house", "[I", true)
  | 14 => ("RoadWorksModel", "sort", "[I", true)
  | 15 => ("RoadWorksModel", "takes", "[I", true)
  | 16 => ("RoadWorksModel", "days", "[I", true)
  | 17 => ("RoadWorksModel", "depth", "[I", true)
  | 18 => ("RoadWorksModel", "wanted", "[I", true)
  | 19 => ("RoadWorksModel", "on", "[J", true)
  | 20 => ("RoadWorksModel", "firstPiece", "[I", true)
  | 21 => ("RoadWorksModel", "pieceMany", "[I", true)
  | 22 => ("RoadWorksModel", "state", "[I", true)
  | 23 => ("RoadWorksModel", "begins", "[I", true)
  | 24 => ("RoadWorksModel", "ends", "[I", true)
  | 25 => ("RoadWorksModel", "overs", "[I", true)
  | 26 => ("RoadWorksModel", "joined", "[I", true)
  | 27 => ("RoadWorksModel", "moved", "[I", true)
  | 28 => ("RoadWorksModel", "works", "I", false)
  | 29 => ("RoadWorksModel", "brokenDay", "I", false)
  | 30 => ("RoadWorksModel", "brokenAt", "I", false)
  | 31 => ("RoadWorksModel", "toldDay", "I", false)
  | 32 => ("RoadWorksModel", "toldAt", "I", false)
  | _ => ("RoadWorksModel", "far", "[I", true)
def tyX9 : Nat → FieldType := fun k => match k with
  | 0 => .array .int
  | 1 => .array .int
  | 2 => .array .int
  | 3 => .array .int
  | 4 => .array .int
  | 5 => .array .int
  | 6 => .int
  | 7 => .array .int
  | 8 => .array .int
  | 9 => .array .int
  | 10 => .int
  | 11 => .array .boolean
  | 12 => .int
  | 13 => .array .int
  | 14 => .array .int
  | 15 => .array .int
  | 16 => .array .int
  | 17 => .array .int
  | 18 => .array .int
  | 19 => .array .long
  | 20 => .array .int
  | 21 => .array .int
  | 22 => .array .int
  | 23 => .array .int
  | 24 => .array .int
  | 25 => .array .int
  | 26 => .array .int
  | 27 => .array .int
  | 28 => .int
  | 29 => .int
  | 30 => .int
  | 31 => .int
  | 32 => .int
  | _ => .array .int
abbrev wsX90 : List Cond := u_ws RX9 TX9 34
theorem nmX9 : ∀ a, a < 34 → ∀ b, b < 34 → a ≠ b → (TX9 a).2.1 ≠ (TX9 b).2.1 := by decide +kernel
theorem tyX9_ok : ∀ k, k < 34 → parseFieldDescriptor (TX9 k).2.2.1 = some (tyX9 k) := by decide +kernel
abbrev cX9_init : ByteArray := prog_11_method_1_code
def yX9_init : MethodName := ⟨RX9, "<init>", "()V"⟩
abbrev cX9_within : ByteArray := prog_11_method_2_code
def yX9_within : MethodName := ⟨RX9, "within", "(III)Z"⟩
abbrev cX9_piece : ByteArray := prog_11_method_3_code
def yX9_piece : MethodName := ⟨RX9, "piece", "(IIIII)I"⟩
abbrev cX9_pair : ByteArray := prog_11_method_4_code
def yX9_pair : MethodName := ⟨RX9, "pair", "(III)I"⟩
abbrev cX9_feast : ByteArray := prog_11_method_5_code
def yX9_feast : MethodName := ⟨RX9, "feast", "(II)I"⟩
abbrev cX9_isPiece : ByteArray := prog_11_method_6_code
def yX9_isPiece : MethodName := ⟨RX9, "isPiece", "(I)Z"⟩
abbrev cX9_isWork : ByteArray := prog_11_method_7_code
def yX9_isWork : MethodName := ⟨RX9, "isWork", "(I)Z"⟩
abbrev cX9_work : ByteArray := prog_11_method_8_code
def yX9_work : MethodName := ⟨RX9, "work", "(III)I"⟩
abbrev cX9_isOn : ByteArray := prog_11_method_9_code
def yX9_isOn : MethodName := ⟨RX9, "isOn", "(II)Z"⟩
abbrev cX9_more : ByteArray := prog_11_method_10_code
def yX9_more : MethodName := ⟨RX9, "more", "(II)I"⟩
abbrev cX9_hasDays : ByteArray := prog_11_method_11_code
def yX9_hasDays : MethodName := ⟨RX9, "hasDays", "(I)Z"⟩
abbrev cX9_counts : ByteArray := prog_11_method_12_code
def yX9_counts : MethodName := ⟨RX9, "counts", "(IIZ)Z"⟩
abbrev cX9_lasts : ByteArray := prog_11_method_13_code
def yX9_lasts : MethodName := ⟨RX9, "lasts", "(IIIZI)Z"⟩
abbrev cX9_taken : ByteArray := prog_11_method_14_code
def yX9_taken : MethodName := ⟨RX9, "taken", "(IIIZI)I"⟩
abbrev cX9_shutOn : ByteArray := prog_11_method_15_code
def yX9_shutOn : MethodName := ⟨RX9, "shutOn", "(IIZI)J"⟩
abbrev cX9_minutesOf : ByteArray := prog_11_method_16_code
def yX9_minutesOf : MethodName := ⟨RX9, "minutesOf", "(IIJ)I"⟩
abbrev cX9_broken : ByteArray := prog_11_method_17_code
def yX9_broken : MethodName := ⟨RX9, "broken", "(II)Z"⟩
abbrev cX9_notice : ByteArray := prog_11_method_18_code
def yX9_notice : MethodName := ⟨RX9, "notice", "(I)I"⟩
abbrev cX9_breaksFeast : ByteArray := prog_11_method_19_code
def yX9_breaksFeast : MethodName := ⟨RX9, "breaksFeast", "(II)Z"⟩
abbrev cX9_breaksLanes : ByteArray := prog_11_method_20_code
def yX9_breaksLanes : MethodName := ⟨RX9, "breaksLanes", "(IIZ)Z"⟩
abbrev cX9_breaksDepth : ByteArray := prog_11_method_21_code
def yX9_breaksDepth : MethodName := ⟨RX9, "breaksDepth", "(IIZ)Z"⟩
abbrev cX9_breaksRest : ByteArray := prog_11_method_22_code
def yX9_breaksRest : MethodName := ⟨RX9, "breaksRest", "(IIZ)Z"⟩
abbrev cX9_breaksWays : ByteArray := prog_11_method_23_code
def yX9_breaksWays : MethodName := ⟨RX9, "breaksWays", "(IIZ)Z"⟩
abbrev cX9_rule : ByteArray := prog_11_method_24_code
def yX9_rule : MethodName := ⟨RX9, "rule", "(IIIZ)I"⟩
abbrev cX9_lowest : ByteArray := prog_11_method_25_code
def yX9_lowest : MethodName := ⟨RX9, "lowest", "(I)I"⟩
abbrev cX9_refusal : ByteArray := prog_11_method_26_code
def yX9_refusal : MethodName := ⟨RX9, "refusal", "(I)I"⟩
abbrev cX9_look : ByteArray := prog_11_method_27_code
def yX9_look : MethodName := ⟨RX9, "look", "(II)I"⟩
abbrev cX9_may : ByteArray := prog_11_method_28_code
def yX9_may : MethodName := ⟨RX9, "may", "(II)I"⟩
abbrev cX9_why : ByteArray := prog_11_method_29_code
def yX9_why : MethodName := ⟨RX9, "why", "(I)I"⟩
abbrev cX9_first : ByteArray := prog_11_method_30_code
def yX9_first : MethodName := ⟨RX9, "first", "(III)I"⟩
abbrev cX9_put : ByteArray := prog_11_method_31_code
def yX9_put : MethodName := ⟨RX9, "put", "(II)V"⟩
abbrev cX9_permit : ByteArray := prog_11_method_32_code
def yX9_permit : MethodName := ⟨RX9, "permit", "(II)I"⟩
abbrev cX9_draw : ByteArray := prog_11_method_33_code
def yX9_draw : MethodName := ⟨RX9, "draw", "(I)V"⟩
abbrev cX9_withdraw : ByteArray := prog_11_method_34_code
def yX9_withdraw : MethodName := ⟨RX9, "withdraw", "(I)I"⟩
abbrev cX9_day : ByteArray := prog_11_method_35_code
def yX9_day : MethodName := ⟨RX9, "day", "(I)I"⟩
abbrev cX9_moveAll : ByteArray := prog_11_method_36_code
def yX9_moveAll : MethodName := ⟨RX9, "moveAll", "()I"⟩
abbrev cX9_over : ByteArray := prog_11_method_37_code
def yX9_over : MethodName := ⟨RX9, "over", "(II)I"⟩
abbrev cX9_crash : ByteArray := prog_11_method_38_code
def yX9_crash : MethodName := ⟨RX9, "crash", "(I)I"⟩
abbrev cX9_join : ByteArray := prog_11_method_39_code
def yX9_join : MethodName := ⟨RX9, "join", "(II)I"⟩
abbrev cX9_ranks : ByteArray := prog_11_method_40_code
def yX9_ranks : MethodName := ⟨RX9, "ranks", "(I)I"⟩
abbrev cX9_cost : ByteArray := prog_11_method_41_code
def yX9_cost : MethodName := ⟨RX9, "cost", "(I)I"⟩
abbrev cX9_pays : ByteArray := prog_11_method_42_code
def yX9_pays : MethodName := ⟨RX9, "pays", "(I)I"⟩
abbrev cX9_delay : ByteArray := prog_11_method_43_code
def yX9_delay : MethodName := ⟨RX9, "delay", "(I)I"⟩
abbrev cX9_about : ByteArray := prog_11_method_44_code
def yX9_about : MethodName := ⟨RX9, "about", "(II)I"⟩
abbrev cX9_lanes : ByteArray := prog_11_method_45_code
def yX9_lanes : MethodName := ⟨RX9, "lanes", "(II)I"⟩
abbrev cX9_way : ByteArray := prog_11_method_46_code
def yX9_way : MethodName := ⟨RX9, "way", "(II)I"⟩
abbrev cX9_shut : ByteArray := prog_11_method_47_code
def yX9_shut : MethodName := ⟨RX9, "shut", "(I)I"⟩
abbrev cX9_price : ByteArray := prog_11_method_48_code
def yX9_price : MethodName := ⟨RX9, "price", "()I"⟩
abbrev cX9_othersKeep : ByteArray := prog_11_method_49_code
def yX9_othersKeep : MethodName := ⟨RX9, "othersKeep", "(I)Z"⟩
abbrev cX9_betters : ByteArray := prog_11_method_50_code
def yX9_betters : MethodName := ⟨RX9, "betters", "()Z"⟩
abbrev cX9_better : ByteArray := prog_11_method_51_code
def yX9_better : MethodName := ⟨RX9, "better", "()I"⟩
abbrev cX9_book : ByteArray := prog_11_method_52_code
def yX9_book : MethodName := ⟨RX9, "book", "(II)I"⟩
abbrev cX9_count : ByteArray := prog_11_method_53_code
def yX9_count : MethodName := ⟨RX9, "count", "(I)I"⟩
def RJ9 : String := "java/lang/Math"
def TJ9 : u_T := fun k => match k with
  | _ => ("", "", "", false)
def tyJ9 : Nat → FieldType := fun k => match k with
  | _ => .int
abbrev wsJ90 : List Cond := u_ws RJ9 TJ9 0
theorem nmJ9 : ∀ a, a < 0 → ∀ b, b < 0 → a ≠ b → (TJ9 a).2.1 ≠ (TJ9 b).2.1 := by decide +kernel
theorem tyJ9_ok : ∀ k, k < 0 → parseFieldDescriptor (TJ9 k).2.2.1 = some (tyJ9 k) := by decide +kernel
abbrev cJ9_max_7cf53 : ByteArray := prog_12_method_65_code
def yJ9_max_7cf53 : MethodName := ⟨RJ9, "max", "(II)I"⟩
abbrev cJ9_min_7cf53 : ByteArray := prog_12_method_69_code
def yJ9_min_7cf53 : MethodName := ⟨RJ9, "min", "(II)I"⟩
def RL : String := "RoadWorksLaw"
abbrev cL_law : ByteArray := code
def yL_law : MethodName := ⟨RL, "law", "([I)Z"⟩
def wsJ9_max_7cf53 : List Cond := .code yJ9_max_7cf53 cJ9_max_7cf53 2 (some .int) :: ([])
def wsJ9_min_7cf53 : List Cond := .code yJ9_min_7cf53 cJ9_min_7cf53 2 (some .int) :: ([])
abbrev vwCl : List vw_C := [(RX0, TX0, 9), (RX1, TX1, 3), (RX2, TX2, 6), (RX3, TX3, 5), (RX4, TX4, 3), (RX5, TX5, 8), (RX6, TX6, 2), (RX7, TX7, 16), (RX8, TX8, 8), (RX9, TX9, 34)]
/-! ===== one word list for all methods: the tables' words that may go with a call ===== -/
def wT : List Cond := lw_tbl.filter goodWord
theorem wT_in {w : Cond} (h : w ∈ lw_tbl) (g : goodWord w = true) : w ∈ wT := List.mem_filter.mpr ⟨h, g⟩
theorem wT_good {w : Cond} (h : w ∈ wT) : (w.onTables && w.keeps) = true ∨ ∃ ty, w = .arrayClass ty := good_of_word (List.mem_filter.mp h).2
theorem tb_in {w : Cond} (i : Nat) (h : tables_1[i]? = some w) : w ∈ lw_tbl := List.mem_append_right _ (List.mem_of_getElem? h)
theorem gT (y : MethodName) (b : ByteArray) (n : Nat) (r : Option FieldType) (h : Cond.code y b n r ∈ wT) : GoodIn wT (.code y b n r :: wT) := fun w hw => by
  rcases List.mem_cons.mp hw with e | h2
  · rw [e]; exact ⟨h, wT_good h⟩
  · exact ⟨h2, wT_good h2⟩
theorem gV {own C : String} {idx n : Nat} {y : MethodName} {b : ByteArray} {r : Option FieldType} (h1 : Cond.methodLink own idx y ∈ wT) (h2 : Cond.instanceMethod y ∈ wT) (h3 : Cond.selects C y y ∈ wT) (h4 : Cond.initialized C ∈ wT) (h5 : Cond.code y b n r ∈ wT) : GoodIn wT (wsV own idx C y (.code y b n r :: wT)) := fun w hw => by
  rcases List.mem_append.mp hw with h | h
  · have h6 : w ∈ wT := by
      simp only [List.mem_cons, List.not_mem_nil, or_false] at h
      rcases h with e | e | e | e <;> rw [e] <;> assumption
    exact ⟨h6, wT_good h6⟩
  · exact gT y b n r h5 w h
theorem gS {own : String} {idx n : Nat} {y : MethodName} {b : ByteArray} {r : Option FieldType} (h1 : Cond.methodLink own idx y ∈ wT) (h2 : Cond.static y ∈ wT) (h4 : Cond.initialized y.cls ∈ wT) (h5 : Cond.code y b n r ∈ wT) : GoodIn wT (va_wsS own idx y (.code y b n r :: wT)) := fun w hw => by
  rcases List.mem_append.mp hw with h | h
  · have h6 : w ∈ wT := by
      simp only [List.mem_cons, List.not_mem_nil, or_false] at h
      rcases h with e | e | e <;> rw [e] <;> assumption
    exact ⟨h6, wT_good h6⟩
  · exact gT y b n r h5 w h
theorem tn_L : Cond.initialized RL ∈ wT := wT_in (tb_in 0 (by decide +kernel)) rfl
theorem tn_X8 : Cond.initialized RX8 ∈ wT := wT_in (tb_in 1 (by decide +kernel)) rfl
theorem tn_X5 : Cond.initialized RX5 ∈ wT := wT_in (tb_in 2 (by decide +kernel)) rfl
theorem tn_X2 : Cond.initialized RX2 ∈ wT := wT_in (tb_in 3 (by decide +kernel)) rfl
theorem tn_X1 : Cond.initialized RX1 ∈ wT := wT_in (tb_in 4 (by decide +kernel)) rfl
theorem tn_X7 : Cond.initialized RX7 ∈ wT := wT_in (tb_in 5 (by decide +kernel)) rfl
theorem tn_X0 : Cond.initialized RX0 ∈ wT := wT_in (tb_in 6 (by decide +kernel)) rfl
theorem tn_X6 : Cond.initialized RX6 ∈ wT := wT_in (tb_in 7 (by decide +kernel)) rfl
theorem tn_X3 : Cond.initialized RX3 ∈ wT := wT_in (tb_in 8 (by decide +kernel)) rfl
theorem tn_X4 : Cond.initialized RX4 ∈ wT := wT_in (tb_in 9 (by decide +kernel)) rfl
theorem tn_X9 : Cond.initialized RX9 ∈ wT := wT_in (tb_in 10 (by decide +kernel)) rfl
theorem lm_L_9 : Cond.methodLink RL 9 yX8_init ∈ wT := wT_in (tb_in 14 (by decide +kernel)) rfl
theorem ti_X8_init : Cond.instanceMethod yX8_init ∈ wT := wT_in (tb_in 15 (by decide +kernel)) rfl
theorem tc_X8_init : Cond.code yX8_init cX8_init 1 none ∈ wT := wT_in (tb_in 16 (by decide +kernel)) rfl
theorem lm_X8_9 : Cond.methodLink RX8 9 yX5_init ∈ wT := wT_in (tb_in 22 (by decide +kernel)) rfl
theorem ti_X5_init : Cond.instanceMethod yX5_init ∈ wT := wT_in (tb_in 23 (by decide +kernel)) rfl
theorem tc_X5_init : Cond.code yX5_init cX5_init 2 none ∈ wT := wT_in (tb_in 24 (by decide +kernel)) rfl
theorem ln_X5_33 : Cond.methodLinkNest RX5 33 yX2_init "RoadWorks" ∈ lw_tbl := tb_in 33 (by decide +kernel)
theorem ti_X2_init : Cond.instanceMethod yX2_init ∈ wT := wT_in (tb_in 34 (by decide +kernel)) rfl
theorem tc_X2_init : Cond.code yX2_init cX2_init 1 none ∈ wT := wT_in (tb_in 35 (by decide +kernel)) rfl
theorem lk_X8_66 : Cond.fieldLink RX8 66 "RoadWorks$Piece" "from" "I" ∈ wT := wT_in (tb_in 37 (by decide +kernel)) rfl
theorem lk_X6_42 : Cond.fieldLink RX6 42 "RoadWorks$Piece" "from" "I" ∈ wT := wT_in (tb_in 38 (by decide +kernel)) rfl
theorem lk_X8_71 : Cond.fieldLink RX8 71 "RoadWorks$Piece" "to" "I" ∈ wT := wT_in (tb_in 39 (by decide +kernel)) rfl
theorem lk_X6_47 : Cond.fieldLink RX6 47 "RoadWorks$Piece" "to" "I" ∈ wT := wT_in (tb_in 40 (by decide +kernel)) rfl
theorem lk_X8_74 : Cond.fieldLink RX8 74 "RoadWorks$Piece" "lanes" "I" ∈ wT := wT_in (tb_in 41 (by decide +kernel)) rfl
theorem lk_X0_86 : Cond.fieldLink RX0 86 "RoadWorks$Piece" "lanes" "I" ∈ wT := wT_in (tb_in 42 (by decide +kernel)) rfl
theorem lk_X3_118 : Cond.fieldLink RX3 118 "RoadWorks$Piece" "lanes" "I" ∈ wT := wT_in (tb_in 43 (by decide +kernel)) rfl
theorem lk_X8_77 : Cond.fieldLink RX8 77 "RoadWorks$Piece" "rank" "I" ∈ wT := wT_in (tb_in 44 (by decide +kernel)) rfl
theorem lk_X3_106 : Cond.fieldLink RX3 106 "RoadWorks$Piece" "rank" "I" ∈ wT := wT_in (tb_in 45 (by decide +kernel)) rfl
theorem lk_X5_76 : Cond.fieldLink RX5 76 "RoadWorks$Piece" "rank" "I" ∈ wT := wT_in (tb_in 46 (by decide +kernel)) rfl
theorem lk_X8_80 : Cond.fieldLink RX8 80 "RoadWorks$Piece" "minutes" "I" ∈ wT := wT_in (tb_in 47 (by decide +kernel)) rfl
theorem lk_X6_45 : Cond.fieldLink RX6 45 "RoadWorks$Piece" "minutes" "I" ∈ wT := wT_in (tb_in 48 (by decide +kernel)) rfl
theorem lk_X8_83 : Cond.fieldLink RX8 83 "RoadWorks$Piece" "rest" "I" ∈ wT := wT_in (tb_in 49 (by decide +kernel)) rfl
theorem lk_X3_163 : Cond.fieldLink RX3 163 "RoadWorks$Piece" "rest" "I" ∈ wT := wT_in (tb_in 50 (by decide +kernel)) rfl
theorem ln_X5_34 : Cond.methodLinkNest RX5 34 yX1_init "RoadWorks" ∈ lw_tbl := tb_in 66 (by decide +kernel)
theorem ti_X1_init : Cond.instanceMethod yX1_init ∈ wT := wT_in (tb_in 67 (by decide +kernel)) rfl
theorem tc_X1_init : Cond.code yX1_init cX1_init 1 none ∈ wT := wT_in (tb_in 68 (by decide +kernel)) rfl
theorem lk_X6_30 : Cond.fieldLink RX6 30 "RoadWorks$Pair" "from" "I" ∈ wT := wT_in (tb_in 70 (by decide +kernel)) rfl
theorem lk_X8_93 : Cond.fieldLink RX8 93 "RoadWorks$Pair" "from" "I" ∈ wT := wT_in (tb_in 71 (by decide +kernel)) rfl
theorem lk_X8_96 : Cond.fieldLink RX8 96 "RoadWorks$Pair" "to" "I" ∈ wT := wT_in (tb_in 72 (by decide +kernel)) rfl
theorem lk_X6_50 : Cond.fieldLink RX6 50 "RoadWorks$Pair" "to" "I" ∈ wT := wT_in (tb_in 73 (by decide +kernel)) rfl
theorem lk_X6_23 : Cond.fieldLink RX6 23 "RoadWorks$Pair" "limit" "I" ∈ wT := wT_in (tb_in 74 (by decide +kernel)) rfl
theorem lk_X8_97 : Cond.fieldLink RX8 97 "RoadWorks$Pair" "limit" "I" ∈ wT := wT_in (tb_in 75 (by decide +kernel)) rfl
theorem lm_X5_35 : Cond.methodLink RX5 35 yX7_init ∈ wT := wT_in (tb_in 84 (by decide +kernel)) rfl
theorem ti_X7_init : Cond.instanceMethod yX7_init ∈ wT := wT_in (tb_in 85 (by decide +kernel)) rfl
theorem tc_X7_init : Cond.code yX7_init cX7_init 2 none ∈ wT := wT_in (tb_in 86 (by decide +kernel)) rfl
theorem lk_X7_15 : Cond.fieldLink RX7 15 "RoadWorks$Work" "number" "I" ∈ wT := wT_in (tb_in 88 (by decide +kernel)) rfl
theorem lk_X3_23 : Cond.fieldLink RX3 23 "RoadWorks$Work" "number" "I" ∈ wT := wT_in (tb_in 89 (by decide +kernel)) rfl
theorem lk_X8_140 : Cond.fieldLink RX8 140 "RoadWorks$Work" "number" "I" ∈ wT := wT_in (tb_in 90 (by decide +kernel)) rfl
theorem lk_X4_89 : Cond.fieldLink RX4 89 "RoadWorks$Work" "number" "I" ∈ wT := wT_in (tb_in 91 (by decide +kernel)) rfl
theorem lk_X0_117 : Cond.fieldLink RX0 117 "RoadWorks$Work" "number" "I" ∈ wT := wT_in (tb_in 92 (by decide +kernel)) rfl
theorem lk_X5_104 : Cond.fieldLink RX5 104 "RoadWorks$Work" "number" "I" ∈ wT := wT_in (tb_in 93 (by decide +kernel)) rfl
theorem lk_X7_9 : Cond.fieldLink RX7 9 "RoadWorks$Work" "pieces" "[I" ∈ wT := wT_in (tb_in 94 (by decide +kernel)) rfl
theorem lk_X0_80 : Cond.fieldLink RX0 80 "RoadWorks$Work" "pieces" "[I" ∈ wT := wT_in (tb_in 95 (by decide +kernel)) rfl
theorem lk_X3_85 : Cond.fieldLink RX3 85 "RoadWorks$Work" "pieces" "[I" ∈ wT := wT_in (tb_in 96 (by decide +kernel)) rfl
theorem lk_X5_73 : Cond.fieldLink RX5 73 "RoadWorks$Work" "pieces" "[I" ∈ wT := wT_in (tb_in 97 (by decide +kernel)) rfl
theorem lk_X7_28 : Cond.fieldLink RX7 28 "RoadWorks$Work" "size" "I" ∈ wT := wT_in (tb_in 98 (by decide +kernel)) rfl
theorem lk_X0_77 : Cond.fieldLink RX0 77 "RoadWorks$Work" "size" "I" ∈ wT := wT_in (tb_in 99 (by decide +kernel)) rfl
theorem lk_X8_155 : Cond.fieldLink RX8 155 "RoadWorks$Work" "size" "I" ∈ wT := wT_in (tb_in 100 (by decide +kernel)) rfl
theorem lk_X3_100 : Cond.fieldLink RX3 100 "RoadWorks$Work" "size" "I" ∈ wT := wT_in (tb_in 101 (by decide +kernel)) rfl
theorem lk_X5_70 : Cond.fieldLink RX5 70 "RoadWorks$Work" "size" "I" ∈ wT := wT_in (tb_in 102 (by decide +kernel)) rfl
theorem lk_X3_29 : Cond.fieldLink RX3 29 "RoadWorks$Work" "mask" "J" ∈ wT := wT_in (tb_in 103 (by decide +kernel)) rfl
theorem lk_X7_31 : Cond.fieldLink RX7 31 "RoadWorks$Work" "mask" "J" ∈ wT := wT_in (tb_in 104 (by decide +kernel)) rfl
theorem lk_X0_66 : Cond.fieldLink RX0 66 "RoadWorks$Work" "mask" "J" ∈ wT := wT_in (tb_in 105 (by decide +kernel)) rfl
theorem lk_X8_216 : Cond.fieldLink RX8 216 "RoadWorks$Work" "mask" "J" ∈ wT := wT_in (tb_in 106 (by decide +kernel)) rfl
theorem lk_X8_118 : Cond.fieldLink RX8 118 "RoadWorks$Work" "house" "I" ∈ wT := wT_in (tb_in 107 (by decide +kernel)) rfl
theorem lk_X3_131 : Cond.fieldLink RX3 131 "RoadWorks$Work" "house" "I" ∈ wT := wT_in (tb_in 108 (by decide +kernel)) rfl
theorem lk_X8_123 : Cond.fieldLink RX8 123 "RoadWorks$Work" "sort" "I" ∈ wT := wT_in (tb_in 109 (by decide +kernel)) rfl
theorem lk_X7_38 : Cond.fieldLink RX7 38 "RoadWorks$Work" "sort" "I" ∈ wT := wT_in (tb_in 110 (by decide +kernel)) rfl
theorem lk_X3_166 : Cond.fieldLink RX3 166 "RoadWorks$Work" "sort" "I" ∈ wT := wT_in (tb_in 111 (by decide +kernel)) rfl
theorem lk_X8_126 : Cond.fieldLink RX8 126 "RoadWorks$Work" "lanes" "I" ∈ wT := wT_in (tb_in 112 (by decide +kernel)) rfl
theorem lk_X0_116 : Cond.fieldLink RX0 116 "RoadWorks$Work" "lanes" "I" ∈ wT := wT_in (tb_in 113 (by decide +kernel)) rfl
theorem lk_X5_82 : Cond.fieldLink RX5 82 "RoadWorks$Work" "lanes" "I" ∈ wT := wT_in (tb_in 114 (by decide +kernel)) rfl
theorem lk_X7_65 : Cond.fieldLink RX7 65 "RoadWorks$Work" "lanes" "I" ∈ wT := wT_in (tb_in 115 (by decide +kernel)) rfl
theorem lk_X8_127 : Cond.fieldLink RX8 127 "RoadWorks$Work" "days" "I" ∈ wT := wT_in (tb_in 116 (by decide +kernel)) rfl
theorem lk_X3_93 : Cond.fieldLink RX3 93 "RoadWorks$Work" "days" "I" ∈ wT := wT_in (tb_in 117 (by decide +kernel)) rfl
theorem lk_X7_49 : Cond.fieldLink RX7 49 "RoadWorks$Work" "days" "I" ∈ wT := wT_in (tb_in 118 (by decide +kernel)) rfl
theorem lk_X5_79 : Cond.fieldLink RX5 79 "RoadWorks$Work" "days" "I" ∈ wT := wT_in (tb_in 119 (by decide +kernel)) rfl
theorem lk_X8_130 : Cond.fieldLink RX8 130 "RoadWorks$Work" "depth" "I" ∈ wT := wT_in (tb_in 120 (by decide +kernel)) rfl
theorem lk_X3_134 : Cond.fieldLink RX3 134 "RoadWorks$Work" "depth" "I" ∈ wT := wT_in (tb_in 121 (by decide +kernel)) rfl
theorem lk_X8_133 : Cond.fieldLink RX8 133 "RoadWorks$Work" "wanted" "I" ∈ wT := wT_in (tb_in 122 (by decide +kernel)) rfl
theorem lk_X7_62 : Cond.fieldLink RX7 62 "RoadWorks$Work" "wanted" "I" ∈ wT := wT_in (tb_in 123 (by decide +kernel)) rfl
theorem lk_X4_29 : Cond.fieldLink RX4 29 "RoadWorks$Work" "state" "I" ∈ wT := wT_in (tb_in 124 (by decide +kernel)) rfl
theorem lk_X0_63 : Cond.fieldLink RX0 63 "RoadWorks$Work" "state" "I" ∈ wT := wT_in (tb_in 125 (by decide +kernel)) rfl
theorem lk_X7_35 : Cond.fieldLink RX7 35 "RoadWorks$Work" "state" "I" ∈ wT := wT_in (tb_in 126 (by decide +kernel)) rfl
theorem lk_X5_48 : Cond.fieldLink RX5 48 "RoadWorks$Work" "state" "I" ∈ wT := wT_in (tb_in 127 (by decide +kernel)) rfl
theorem lk_X8_149 : Cond.fieldLink RX8 149 "RoadWorks$Work" "state" "I" ∈ wT := wT_in (tb_in 128 (by decide +kernel)) rfl
theorem lk_X3_173 : Cond.fieldLink RX3 173 "RoadWorks$Work" "state" "I" ∈ wT := wT_in (tb_in 129 (by decide +kernel)) rfl
theorem lk_X7_19 : Cond.fieldLink RX7 19 "RoadWorks$Work" "begin" "I" ∈ wT := wT_in (tb_in 130 (by decide +kernel)) rfl
theorem lk_X4_40 : Cond.fieldLink RX4 40 "RoadWorks$Work" "begin" "I" ∈ wT := wT_in (tb_in 131 (by decide +kernel)) rfl
theorem lk_X0_103 : Cond.fieldLink RX0 103 "RoadWorks$Work" "begin" "I" ∈ wT := wT_in (tb_in 132 (by decide +kernel)) rfl
theorem lk_X5_57 : Cond.fieldLink RX5 57 "RoadWorks$Work" "begin" "I" ∈ wT := wT_in (tb_in 133 (by decide +kernel)) rfl
theorem lk_X3_140 : Cond.fieldLink RX3 140 "RoadWorks$Work" "begin" "I" ∈ wT := wT_in (tb_in 134 (by decide +kernel)) rfl
theorem lk_X8_220 : Cond.fieldLink RX8 220 "RoadWorks$Work" "begin" "I" ∈ wT := wT_in (tb_in 135 (by decide +kernel)) rfl
theorem lk_X7_22 : Cond.fieldLink RX7 22 "RoadWorks$Work" "last" "I" ∈ wT := wT_in (tb_in 136 (by decide +kernel)) rfl
theorem lk_X0_94 : Cond.fieldLink RX0 94 "RoadWorks$Work" "last" "I" ∈ wT := wT_in (tb_in 137 (by decide +kernel)) rfl
theorem lk_X5_60 : Cond.fieldLink RX5 60 "RoadWorks$Work" "last" "I" ∈ wT := wT_in (tb_in 138 (by decide +kernel)) rfl
theorem lk_X3_149 : Cond.fieldLink RX3 149 "RoadWorks$Work" "last" "I" ∈ wT := wT_in (tb_in 139 (by decide +kernel)) rfl
theorem lk_X8_198 : Cond.fieldLink RX8 198 "RoadWorks$Work" "last" "I" ∈ wT := wT_in (tb_in 140 (by decide +kernel)) rfl
theorem lk_X5_89 : Cond.fieldLink RX5 89 "RoadWorks$Work" "over" "I" ∈ wT := wT_in (tb_in 141 (by decide +kernel)) rfl
theorem lk_X8_206 : Cond.fieldLink RX8 206 "RoadWorks$Work" "over" "I" ∈ wT := wT_in (tb_in 142 (by decide +kernel)) rfl
theorem lk_X7_25 : Cond.fieldLink RX7 25 "RoadWorks$Work" "partner" "I" ∈ wT := wT_in (tb_in 143 (by decide +kernel)) rfl
theorem lk_X0_113 : Cond.fieldLink RX0 113 "RoadWorks$Work" "partner" "I" ∈ wT := wT_in (tb_in 144 (by decide +kernel)) rfl
theorem lk_X8_152 : Cond.fieldLink RX8 152 "RoadWorks$Work" "partner" "I" ∈ wT := wT_in (tb_in 145 (by decide +kernel)) rfl
theorem lk_X5_63 : Cond.fieldLink RX5 63 "RoadWorks$Work" "partner" "I" ∈ wT := wT_in (tb_in 146 (by decide +kernel)) rfl
theorem lk_X3_137 : Cond.fieldLink RX3 137 "RoadWorks$Work" "partner" "I" ∈ wT := wT_in (tb_in 147 (by decide +kernel)) rfl
theorem lk_X4_55 : Cond.fieldLink RX4 55 "RoadWorks$Work" "moves" "I" ∈ wT := wT_in (tb_in 148 (by decide +kernel)) rfl
theorem lk_X8_236 : Cond.fieldLink RX8 236 "RoadWorks$Work" "moves" "I" ∈ wT := wT_in (tb_in 149 (by decide +kernel)) rfl
theorem lk_X5_11 : Cond.fieldLink RX5 11 "RoadWorks$Town" "pieces" "[LRoadWorks$Piece;" ∈ wT := wT_in (tb_in 184 (by decide +kernel)) rfl
theorem lk_X8_62 : Cond.fieldLink RX8 62 "RoadWorks$Town" "pieces" "[LRoadWorks$Piece;" ∈ wT := wT_in (tb_in 185 (by decide +kernel)) rfl
theorem lk_X6_38 : Cond.fieldLink RX6 38 "RoadWorks$Town" "pieces" "[LRoadWorks$Piece;" ∈ wT := wT_in (tb_in 186 (by decide +kernel)) rfl
theorem lk_X0_83 : Cond.fieldLink RX0 83 "RoadWorks$Town" "pieces" "[LRoadWorks$Piece;" ∈ wT := wT_in (tb_in 187 (by decide +kernel)) rfl
theorem lk_X3_103 : Cond.fieldLink RX3 103 "RoadWorks$Town" "pieces" "[LRoadWorks$Piece;" ∈ wT := wT_in (tb_in 188 (by decide +kernel)) rfl
theorem lk_X5_19 : Cond.fieldLink RX5 19 "RoadWorks$Town" "pairs" "[LRoadWorks$Pair;" ∈ wT := wT_in (tb_in 189 (by decide +kernel)) rfl
theorem lk_X8_89 : Cond.fieldLink RX8 89 "RoadWorks$Town" "pairs" "[LRoadWorks$Pair;" ∈ wT := wT_in (tb_in 190 (by decide +kernel)) rfl
theorem lk_X3_187 : Cond.fieldLink RX3 187 "RoadWorks$Town" "pairs" "[LRoadWorks$Pair;" ∈ wT := wT_in (tb_in 191 (by decide +kernel)) rfl
theorem lk_X5_25 : Cond.fieldLink RX5 25 "RoadWorks$Town" "works" "[LRoadWorks$Work;" ∈ wT := wT_in (tb_in 192 (by decide +kernel)) rfl
theorem lk_X4_25 : Cond.fieldLink RX4 25 "RoadWorks$Town" "works" "[LRoadWorks$Work;" ∈ wT := wT_in (tb_in 193 (by decide +kernel)) rfl
theorem lk_X0_53 : Cond.fieldLink RX0 53 "RoadWorks$Town" "works" "[LRoadWorks$Work;" ∈ wT := wT_in (tb_in 194 (by decide +kernel)) rfl
theorem lk_X8_114 : Cond.fieldLink RX8 114 "RoadWorks$Town" "works" "[LRoadWorks$Work;" ∈ wT := wT_in (tb_in 195 (by decide +kernel)) rfl
theorem lk_X3_124 : Cond.fieldLink RX3 124 "RoadWorks$Town" "works" "[LRoadWorks$Work;" ∈ wT := wT_in (tb_in 196 (by decide +kernel)) rfl
theorem lk_X5_29 : Cond.fieldLink RX5 29 "RoadWorks$Town" "feasts" "[Z" ∈ wT := wT_in (tb_in 197 (by decide +kernel)) rfl
theorem lk_X8_104 : Cond.fieldLink RX8 104 "RoadWorks$Town" "feasts" "[Z" ∈ wT := wT_in (tb_in 198 (by decide +kernel)) rfl
theorem lk_X3_96 : Cond.fieldLink RX3 96 "RoadWorks$Town" "feasts" "[Z" ∈ wT := wT_in (tb_in 199 (by decide +kernel)) rfl
theorem lk_X5_38 : Cond.fieldLink RX5 38 "RoadWorks$Town" "pieceCount" "I" ∈ wT := wT_in (tb_in 200 (by decide +kernel)) rfl
theorem lk_X8_58 : Cond.fieldLink RX8 58 "RoadWorks$Town" "pieceCount" "I" ∈ wT := wT_in (tb_in 201 (by decide +kernel)) rfl
theorem lk_X6_33 : Cond.fieldLink RX6 33 "RoadWorks$Town" "pieceCount" "I" ∈ wT := wT_in (tb_in 202 (by decide +kernel)) rfl
theorem lk_X0_70 : Cond.fieldLink RX0 70 "RoadWorks$Town" "pieceCount" "I" ∈ wT := wT_in (tb_in 203 (by decide +kernel)) rfl
theorem lk_X5_42 : Cond.fieldLink RX5 42 "RoadWorks$Town" "pairCount" "I" ∈ wT := wT_in (tb_in 204 (by decide +kernel)) rfl
theorem lk_X8_86 : Cond.fieldLink RX8 86 "RoadWorks$Town" "pairCount" "I" ∈ wT := wT_in (tb_in 205 (by decide +kernel)) rfl
theorem lk_X3_184 : Cond.fieldLink RX3 184 "RoadWorks$Town" "pairCount" "I" ∈ wT := wT_in (tb_in 206 (by decide +kernel)) rfl
theorem lk_X4_19 : Cond.fieldLink RX4 19 "RoadWorks$Town" "workCount" "I" ∈ wT := wT_in (tb_in 207 (by decide +kernel)) rfl
theorem lk_X0_48 : Cond.fieldLink RX0 48 "RoadWorks$Town" "workCount" "I" ∈ wT := wT_in (tb_in 208 (by decide +kernel)) rfl
theorem lk_X5_45 : Cond.fieldLink RX5 45 "RoadWorks$Town" "workCount" "I" ∈ wT := wT_in (tb_in 209 (by decide +kernel)) rfl
theorem lk_X8_111 : Cond.fieldLink RX8 111 "RoadWorks$Town" "workCount" "I" ∈ wT := wT_in (tb_in 210 (by decide +kernel)) rfl
theorem lk_X4_65 : Cond.fieldLink RX4 65 "RoadWorks$Town" "today" "I" ∈ wT := wT_in (tb_in 211 (by decide +kernel)) rfl
theorem lk_X3_76 : Cond.fieldLink RX3 76 "RoadWorks$Town" "today" "I" ∈ wT := wT_in (tb_in 212 (by decide +kernel)) rfl
theorem lk_X5_54 : Cond.fieldLink RX5 54 "RoadWorks$Town" "today" "I" ∈ wT := wT_in (tb_in 213 (by decide +kernel)) rfl
theorem lk_X8_192 : Cond.fieldLink RX8 192 "RoadWorks$Town" "today" "I" ∈ wT := wT_in (tb_in 214 (by decide +kernel)) rfl
theorem lm_X8_18 : Cond.methodLink RX8 18 yX0_init ∈ wT := wT_in (tb_in 234 (by decide +kernel)) rfl
theorem ti_X0_init : Cond.instanceMethod yX0_init ∈ wT := wT_in (tb_in 235 (by decide +kernel)) rfl
theorem tc_X0_init : Cond.code yX0_init cX0_init 2 none ∈ wT := wT_in (tb_in 236 (by decide +kernel)) rfl
theorem lk_X0_33 : Cond.fieldLink RX0 33 "RoadWorks$Company" "town" "LRoadWorks$Town;" ∈ wT := wT_in (tb_in 240 (by decide +kernel)) rfl
theorem lk_X0_9 : Cond.fieldLink RX0 9 "RoadWorks$Company" "counted" "[Z" ∈ wT := wT_in (tb_in 241 (by decide +kernel)) rfl
theorem lk_X0_15 : Cond.fieldLink RX0 15 "RoadWorks$Company" "members" "[I" ∈ wT := wT_in (tb_in 242 (by decide +kernel)) rfl
theorem lk_X0_41 : Cond.fieldLink RX0 41 "RoadWorks$Company" "memberCount" "I" ∈ wT := wT_in (tb_in 243 (by decide +kernel)) rfl
theorem lk_X0_19 : Cond.fieldLink RX0 19 "RoadWorks$Company" "near" "[I" ∈ wT := wT_in (tb_in 244 (by decide +kernel)) rfl
theorem lk_X3_128 : Cond.fieldLink RX3 128 "RoadWorks$Company" "near" "[I" ∈ wT := wT_in (tb_in 245 (by decide +kernel)) rfl
theorem lk_X0_45 : Cond.fieldLink RX0 45 "RoadWorks$Company" "nearCount" "I" ∈ wT := wT_in (tb_in 246 (by decide +kernel)) rfl
theorem lk_X3_121 : Cond.fieldLink RX3 121 "RoadWorks$Company" "nearCount" "I" ∈ wT := wT_in (tb_in 247 (by decide +kernel)) rfl
theorem lk_X0_22 : Cond.fieldLink RX0 22 "RoadWorks$Company" "taken" "[I" ∈ wT := wT_in (tb_in 248 (by decide +kernel)) rfl
theorem lk_X8_246 : Cond.fieldLink RX8 246 "RoadWorks$Company" "taken" "[I" ∈ wT := wT_in (tb_in 249 (by decide +kernel)) rfl
theorem lk_X0_27 : Cond.fieldLink RX0 27 "RoadWorks$Company" "takenBeside" "[[I" ∈ wT := wT_in (tb_in 250 (by decide +kernel)) rfl
theorem lk_X3_111 : Cond.fieldLink RX3 111 "RoadWorks$Company" "takenBeside" "[[I" ∈ wT := wT_in (tb_in 251 (by decide +kernel)) rfl
theorem lk_X0_30 : Cond.fieldLink RX0 30 "RoadWorks$Company" "added" "[I" ∈ wT := wT_in (tb_in 252 (by decide +kernel)) rfl
theorem lk_X3_115 : Cond.fieldLink RX3 115 "RoadWorks$Company" "added" "[I" ∈ wT := wT_in (tb_in 253 (by decide +kernel)) rfl
theorem lm_X8_27 : Cond.methodLink RX8 27 yX6_init ∈ wT := wT_in (tb_in 275 (by decide +kernel)) rfl
theorem ti_X6_init : Cond.instanceMethod yX6_init ∈ wT := wT_in (tb_in 276 (by decide +kernel)) rfl
theorem tc_X6_init : Cond.code yX6_init cX6_init 2 none ∈ wT := wT_in (tb_in 277 (by decide +kernel)) rfl
theorem lk_X6_15 : Cond.fieldLink RX6 15 "RoadWorks$Ways" "town" "LRoadWorks$Town;" ∈ wT := wT_in (tb_in 279 (by decide +kernel)) rfl
theorem lk_X6_9 : Cond.fieldLink RX6 9 "RoadWorks$Ways" "minutes" "[I" ∈ wT := wT_in (tb_in 280 (by decide +kernel)) rfl
theorem lm_X8_34 : Cond.methodLink RX8 34 yX3_init ∈ wT := wT_in (tb_in 288 (by decide +kernel)) rfl
theorem ti_X3_init : Cond.instanceMethod yX3_init ∈ wT := wT_in (tb_in 289 (by decide +kernel)) rfl
theorem tc_X3_init : Cond.code yX3_init cX3_init 4 none ∈ wT := wT_in (tb_in 290 (by decide +kernel)) rfl
theorem lk_X3_9 : Cond.fieldLink RX3 9 "RoadWorks$Rules" "town" "LRoadWorks$Town;" ∈ wT := wT_in (tb_in 292 (by decide +kernel)) rfl
theorem lk_X3_15 : Cond.fieldLink RX3 15 "RoadWorks$Rules" "company" "LRoadWorks$Company;" ∈ wT := wT_in (tb_in 293 (by decide +kernel)) rfl
theorem lk_X3_19 : Cond.fieldLink RX3 19 "RoadWorks$Rules" "ways" "LRoadWorks$Ways;" ∈ wT := wT_in (tb_in 294 (by decide +kernel)) rfl
theorem lk_X3_70 : Cond.fieldLink RX3 70 "RoadWorks$Rules" "foundDay" "I" ∈ wT := wT_in (tb_in 295 (by decide +kernel)) rfl
theorem lk_X8_278 : Cond.fieldLink RX8 278 "RoadWorks$Rules" "foundDay" "I" ∈ wT := wT_in (tb_in 296 (by decide +kernel)) rfl
theorem lk_X3_73 : Cond.fieldLink RX3 73 "RoadWorks$Rules" "foundPlace" "I" ∈ wT := wT_in (tb_in 297 (by decide +kernel)) rfl
theorem lk_X8_281 : Cond.fieldLink RX8 281 "RoadWorks$Rules" "foundPlace" "I" ∈ wT := wT_in (tb_in 298 (by decide +kernel)) rfl
theorem lm_X8_43 : Cond.methodLink RX8 43 yX4_init ∈ wT := wT_in (tb_in 312 (by decide +kernel)) rfl
theorem ti_X4_init : Cond.instanceMethod yX4_init ∈ wT := wT_in (tb_in 313 (by decide +kernel)) rfl
theorem tc_X4_init : Cond.code yX4_init cX4_init 3 none ∈ wT := wT_in (tb_in 314 (by decide +kernel)) rfl
theorem lk_X4_9 : Cond.fieldLink RX4 9 "RoadWorks$Shifts" "town" "LRoadWorks$Town;" ∈ wT := wT_in (tb_in 316 (by decide +kernel)) rfl
theorem lk_X4_15 : Cond.fieldLink RX4 15 "RoadWorks$Shifts" "rules" "LRoadWorks$Rules;" ∈ wT := wT_in (tb_in 317 (by decide +kernel)) rfl
theorem lk_X4_78 : Cond.fieldLink RX4 78 "RoadWorks$Shifts" "breaker" "I" ∈ wT := wT_in (tb_in 318 (by decide +kernel)) rfl
theorem lk_X8_10 : Cond.fieldLink RX8 10 "RoadWorks" "town" "LRoadWorks$Town;" ∈ wT := wT_in (tb_in 326 (by decide +kernel)) rfl
theorem lk_X8_21 : Cond.fieldLink RX8 21 "RoadWorks" "company" "LRoadWorks$Company;" ∈ wT := wT_in (tb_in 327 (by decide +kernel)) rfl
theorem lk_X8_28 : Cond.fieldLink RX8 28 "RoadWorks" "ways" "LRoadWorks$Ways;" ∈ wT := wT_in (tb_in 328 (by decide +kernel)) rfl
theorem lk_X8_37 : Cond.fieldLink RX8 37 "RoadWorks" "rules" "LRoadWorks$Rules;" ∈ wT := wT_in (tb_in 329 (by decide +kernel)) rfl
theorem lk_X8_46 : Cond.fieldLink RX8 46 "RoadWorks" "shifts" "LRoadWorks$Shifts;" ∈ wT := wT_in (tb_in 330 (by decide +kernel)) rfl
theorem lk_X8_166 : Cond.fieldLink RX8 166 "RoadWorks" "whyKnown" "Z" ∈ wT := wT_in (tb_in 331 (by decide +kernel)) rfl
theorem lk_X8_170 : Cond.fieldLink RX8 170 "RoadWorks" "whyDay" "I" ∈ wT := wT_in (tb_in 332 (by decide +kernel)) rfl
theorem lk_X8_173 : Cond.fieldLink RX8 173 "RoadWorks" "whyPlace" "I" ∈ wT := wT_in (tb_in 333 (by decide +kernel)) rfl
theorem lm_L_13 : Cond.methodLink RL 13 yX8_piece ∈ wT := wT_in (tb_in 351 (by decide +kernel)) rfl
theorem ti_X8_piece : Cond.instanceMethod yX8_piece ∈ wT := wT_in (tb_in 352 (by decide +kernel)) rfl
theorem tl_X8_piece : Cond.selects RX8 yX8_piece yX8_piece ∈ wT := wT_in (tb_in 353 (by decide +kernel)) rfl
theorem tc_X8_piece : Cond.code yX8_piece cX8_piece 7 (some .int) ∈ wT := wT_in (tb_in 354 (by decide +kernel)) rfl
theorem lm_X8_50 : Cond.methodLink RX8 50 yX8_areCrossings ∈ wT := wT_in (tb_in 355 (by decide +kernel)) rfl
theorem ts_X8_areCrossings : Cond.static yX8_areCrossings ∈ wT := wT_in (tb_in 356 (by decide +kernel)) rfl
theorem tc_X8_areCrossings : Cond.code yX8_areCrossings cX8_areCrossings 2 (some .boolean) ∈ wT := wT_in (tb_in 357 (by decide +kernel)) rfl
theorem lm_X8_54 : Cond.methodLink RX8 54 yX8_within ∈ wT := wT_in (tb_in 358 (by decide +kernel)) rfl
theorem ts_X8_within : Cond.static yX8_within ∈ wT := wT_in (tb_in 359 (by decide +kernel)) rfl
theorem tc_X8_within : Cond.code yX8_within cX8_within 3 (some .boolean) ∈ wT := wT_in (tb_in 360 (by decide +kernel)) rfl
theorem lm_L_18 : Cond.methodLink RL 18 yX8_pair ∈ wT := wT_in (tb_in 361 (by decide +kernel)) rfl
theorem ti_X8_pair : Cond.instanceMethod yX8_pair ∈ wT := wT_in (tb_in 362 (by decide +kernel)) rfl
theorem tl_X8_pair : Cond.selects RX8 yX8_pair yX8_pair ∈ wT := wT_in (tb_in 363 (by decide +kernel)) rfl
theorem tc_X8_pair : Cond.code yX8_pair cX8_pair 5 (some .int) ∈ wT := wT_in (tb_in 364 (by decide +kernel)) rfl
theorem lm_L_23 : Cond.methodLink RL 23 yX8_feast ∈ wT := wT_in (tb_in 365 (by decide +kernel)) rfl
theorem ti_X8_feast : Cond.instanceMethod yX8_feast ∈ wT := wT_in (tb_in 366 (by decide +kernel)) rfl
theorem tl_X8_feast : Cond.selects RX8 yX8_feast yX8_feast ∈ wT := wT_in (tb_in 367 (by decide +kernel)) rfl
theorem tc_X8_feast : Cond.code yX8_feast cX8_feast 4 (some .int) ∈ wT := wT_in (tb_in 368 (by decide +kernel)) rfl
theorem lm_X8_100 : Cond.methodLink RX8 100 yX8_isDay ∈ wT := wT_in (tb_in 369 (by decide +kernel)) rfl
theorem ts_X8_isDay : Cond.static yX8_isDay ∈ wT := wT_in (tb_in 370 (by decide +kernel)) rfl
theorem tc_X8_isDay : Cond.code yX8_isDay cX8_isDay 1 (some .boolean) ∈ wT := wT_in (tb_in 371 (by decide +kernel)) rfl
theorem lm_L_28 : Cond.methodLink RL 28 yX8_work ∈ wT := wT_in (tb_in 372 (by decide +kernel)) rfl
theorem ti_X8_work : Cond.instanceMethod yX8_work ∈ wT := wT_in (tb_in 373 (by decide +kernel)) rfl
theorem tl_X8_work : Cond.selects RX8 yX8_work yX8_work ∈ wT := wT_in (tb_in 374 (by decide +kernel)) rfl
theorem tc_X8_work : Cond.code yX8_work cX8_work 5 (some .int) ∈ wT := wT_in (tb_in 375 (by decide +kernel)) rfl
theorem lm_X8_108 : Cond.methodLink RX8 108 yX5_hasPiece ∈ wT := wT_in (tb_in 376 (by decide +kernel)) rfl
theorem ti_X5_hasPiece : Cond.instanceMethod yX5_hasPiece ∈ wT := wT_in (tb_in 377 (by decide +kernel)) rfl
theorem tl_X5_hasPiece : Cond.selects RX5 yX5_hasPiece yX5_hasPiece ∈ wT := wT_in (tb_in 378 (by decide +kernel)) rfl
theorem tc_X5_hasPiece : Cond.code yX5_hasPiece cX5_hasPiece 2 (some .boolean) ∈ wT := wT_in (tb_in 379 (by decide +kernel)) rfl
theorem lm_X8_136 : Cond.methodLink RX8 136 yX7_take ∈ wT := wT_in (tb_in 380 (by decide +kernel)) rfl
theorem ti_X7_take : Cond.instanceMethod yX7_take ∈ wT := wT_in (tb_in 381 (by decide +kernel)) rfl
theorem tl_X7_take : Cond.selects RX7 yX7_take yX7_take ∈ wT := wT_in (tb_in 382 (by decide +kernel)) rfl
theorem tc_X7_take : Cond.code yX7_take cX7_take 3 none ∈ wT := wT_in (tb_in 383 (by decide +kernel)) rfl
theorem lm_L_32 : Cond.methodLink RL 32 yX8_more ∈ wT := wT_in (tb_in 384 (by decide +kernel)) rfl
theorem ti_X8_more : Cond.instanceMethod yX8_more ∈ wT := wT_in (tb_in 385 (by decide +kernel)) rfl
theorem tl_X8_more : Cond.selects RX8 yX8_more yX8_more ∈ wT := wT_in (tb_in 386 (by decide +kernel)) rfl
theorem tc_X8_more : Cond.code yX8_more cX8_more 4 (some .int) ∈ wT := wT_in (tb_in 387 (by decide +kernel)) rfl
theorem lm_X8_143 : Cond.methodLink RX8 143 yX5_hasWork ∈ wT := wT_in (tb_in 388 (by decide +kernel)) rfl
theorem ti_X5_hasWork : Cond.instanceMethod yX5_hasWork ∈ wT := wT_in (tb_in 389 (by decide +kernel)) rfl
theorem tl_X5_hasWork : Cond.selects RX5 yX5_hasWork yX5_hasWork ∈ wT := wT_in (tb_in 390 (by decide +kernel)) rfl
theorem tc_X5_hasWork : Cond.code yX5_hasWork cX5_hasWork 2 (some .boolean) ∈ wT := wT_in (tb_in 391 (by decide +kernel)) rfl
theorem lm_X8_146 : Cond.methodLink RX8 146 yX7_uses ∈ wT := wT_in (tb_in 392 (by decide +kernel)) rfl
theorem ti_X7_uses : Cond.instanceMethod yX7_uses ∈ wT := wT_in (tb_in 393 (by decide +kernel)) rfl
theorem tl_X7_uses : Cond.selects RX7 yX7_uses yX7_uses ∈ wT := wT_in (tb_in 394 (by decide +kernel)) rfl
theorem tc_X7_uses : Cond.code yX7_uses cX7_uses 2 (some .boolean) ∈ wT := wT_in (tb_in 395 (by decide +kernel)) rfl
theorem lm_L_36 : Cond.methodLink RL 36 yX8_may ∈ wT := wT_in (tb_in 396 (by decide +kernel)) rfl
theorem ti_X8_may : Cond.instanceMethod yX8_may ∈ wT := wT_in (tb_in 397 (by decide +kernel)) rfl
theorem tl_X8_may : Cond.selects RX8 yX8_may yX8_may ∈ wT := wT_in (tb_in 398 (by decide +kernel)) rfl
theorem tc_X8_may : Cond.code yX8_may cX8_may 4 (some .int) ∈ wT := wT_in (tb_in 399 (by decide +kernel)) rfl
theorem lm_X8_158 : Cond.methodLink RX8 158 yX8_refusalOf ∈ wT := wT_in (tb_in 400 (by decide +kernel)) rfl
theorem ti_X8_refusalOf : Cond.instanceMethod yX8_refusalOf ∈ wT := wT_in (tb_in 402 (by decide +kernel)) rfl
theorem tc_X8_refusalOf : Cond.code yX8_refusalOf cX8_refusalOf 4 (some .int) ∈ wT := wT_in (tb_in 403 (by decide +kernel)) rfl
theorem lm_X8_184 : Cond.methodLink RX8 184 yX7_isOpen ∈ wT := wT_in (tb_in 404 (by decide +kernel)) rfl
theorem ti_X7_isOpen : Cond.instanceMethod yX7_isOpen ∈ wT := wT_in (tb_in 405 (by decide +kernel)) rfl
theorem tl_X7_isOpen : Cond.selects RX7 yX7_isOpen yX7_isOpen ∈ wT := wT_in (tb_in 406 (by decide +kernel)) rfl
theorem tc_X7_isOpen : Cond.code yX7_isOpen cX7_isOpen 1 (some .boolean) ∈ wT := wT_in (tb_in 407 (by decide +kernel)) rfl
theorem lm_X8_162 : Cond.methodLink RX8 162 yX8_brokenFrom ∈ wT := wT_in (tb_in 408 (by decide +kernel)) rfl
theorem ti_X8_brokenFrom : Cond.instanceMethod yX8_brokenFrom ∈ wT := wT_in (tb_in 410 (by decide +kernel)) rfl
theorem tc_X8_brokenFrom : Cond.code yX8_brokenFrom cX8_brokenFrom 4 (some .int) ∈ wT := wT_in (tb_in 411 (by decide +kernel)) rfl
theorem lm_X8_275 : Cond.methodLink RX8 275 yX3_lookAt ∈ wT := wT_in (tb_in 412 (by decide +kernel)) rfl
theorem ti_X3_lookAt : Cond.instanceMethod yX3_lookAt ∈ wT := wT_in (tb_in 413 (by decide +kernel)) rfl
theorem tl_X3_lookAt : Cond.selects RX3 yX3_lookAt yX3_lookAt ∈ wT := wT_in (tb_in 414 (by decide +kernel)) rfl
theorem tc_X3_lookAt : Cond.code yX3_lookAt cX3_lookAt 3 none ∈ wT := wT_in (tb_in 415 (by decide +kernel)) rfl
theorem lm_X3_33 : Cond.methodLink RX3 33 yX0_gather ∈ wT := wT_in (tb_in 416 (by decide +kernel)) rfl
theorem ti_X0_gather : Cond.instanceMethod yX0_gather ∈ wT := wT_in (tb_in 417 (by decide +kernel)) rfl
theorem tl_X0_gather : Cond.selects RX0 yX0_gather yX0_gather ∈ wT := wT_in (tb_in 418 (by decide +kernel)) rfl
theorem tc_X0_gather : Cond.code yX0_gather cX0_gather 7 none ∈ wT := wT_in (tb_in 419 (by decide +kernel)) rfl
theorem lm_X0_57 : Cond.methodLink RX0 57 yX7_stands ∈ wT := wT_in (tb_in 420 (by decide +kernel)) rfl
theorem ti_X7_stands : Cond.instanceMethod yX7_stands ∈ wT := wT_in (tb_in 421 (by decide +kernel)) rfl
theorem tl_X7_stands : Cond.selects RX7 yX7_stands yX7_stands ∈ wT := wT_in (tb_in 422 (by decide +kernel)) rfl
theorem tc_X7_stands : Cond.code yX7_stands cX7_stands 1 (some .boolean) ∈ wT := wT_in (tb_in 423 (by decide +kernel)) rfl
theorem lm_X8_176 : Cond.methodLink RX8 176 yX3_broken ∈ wT := wT_in (tb_in 424 (by decide +kernel)) rfl
theorem ti_X3_broken : Cond.instanceMethod yX3_broken ∈ wT := wT_in (tb_in 425 (by decide +kernel)) rfl
theorem tl_X3_broken : Cond.selects RX3 yX3_broken yX3_broken ∈ wT := wT_in (tb_in 426 (by decide +kernel)) rfl
theorem tc_X3_broken : Cond.code yX3_broken cX3_broken 5 (some .int) ∈ wT := wT_in (tb_in 427 (by decide +kernel)) rfl
theorem lm_X3_39 : Cond.methodLink RX3 39 yX7_lastFrom ∈ wT := wT_in (tb_in 428 (by decide +kernel)) rfl
theorem ti_X7_lastFrom : Cond.instanceMethod yX7_lastFrom ∈ wT := wT_in (tb_in 429 (by decide +kernel)) rfl
theorem tl_X7_lastFrom : Cond.selects RX7 yX7_lastFrom yX7_lastFrom ∈ wT := wT_in (tb_in 430 (by decide +kernel)) rfl
theorem tc_X7_lastFrom : Cond.code yX7_lastFrom cX7_lastFrom 2 (some .int) ∈ wT := wT_in (tb_in 431 (by decide +kernel)) rfl
theorem lm_X3_43 : Cond.methodLink RX3 43 yX3_isLateNotice ∈ wT := wT_in (tb_in 435 (by decide +kernel)) rfl
theorem ti_X3_isLateNotice : Cond.instanceMethod yX3_isLateNotice ∈ wT := wT_in (tb_in 437 (by decide +kernel)) rfl
theorem tc_X3_isLateNotice : Cond.code yX3_isLateNotice cX3_isLateNotice 3 (some .boolean) ∈ wT := wT_in (tb_in 438 (by decide +kernel)) rfl
theorem lm_X3_81 : Cond.methodLink RX3 81 yX7_notice ∈ wT := wT_in (tb_in 439 (by decide +kernel)) rfl
theorem ti_X7_notice : Cond.instanceMethod yX7_notice ∈ wT := wT_in (tb_in 440 (by decide +kernel)) rfl
theorem tl_X7_notice : Cond.selects RX7 yX7_notice yX7_notice ∈ wT := wT_in (tb_in 441 (by decide +kernel)) rfl
theorem tc_X7_notice : Cond.code yX7_notice cX7_notice 1 (some .int) ∈ wT := wT_in (tb_in 442 (by decide +kernel)) rfl
theorem lm_X3_89 : Cond.methodLink RX3 89 yX3_found ∈ wT := wT_in (tb_in 443 (by decide +kernel)) rfl
theorem ti_X3_found : Cond.instanceMethod yX3_found ∈ wT := wT_in (tb_in 445 (by decide +kernel)) rfl
theorem tc_X3_found : Cond.code yX3_found cX3_found 3 (some .boolean) ∈ wT := wT_in (tb_in 446 (by decide +kernel)) rfl
theorem lm_X3_47 : Cond.methodLink RX3 47 yX3_isPastEnd ∈ wT := wT_in (tb_in 447 (by decide +kernel)) rfl
theorem ti_X3_isPastEnd : Cond.instanceMethod yX3_isPastEnd ∈ wT := wT_in (tb_in 449 (by decide +kernel)) rfl
theorem tc_X3_isPastEnd : Cond.code yX3_isPastEnd cX3_isPastEnd 3 (some .boolean) ∈ wT := wT_in (tb_in 450 (by decide +kernel)) rfl
theorem lm_X3_50 : Cond.methodLink RX3 50 yX3_isOnFeast ∈ wT := wT_in (tb_in 451 (by decide +kernel)) rfl
theorem ti_X3_isOnFeast : Cond.instanceMethod yX3_isOnFeast ∈ wT := wT_in (tb_in 453 (by decide +kernel)) rfl
theorem tc_X3_isOnFeast : Cond.code yX3_isOnFeast cX3_isOnFeast 6 (some .boolean) ∈ wT := wT_in (tb_in 454 (by decide +kernel)) rfl
theorem lm_X3_54 : Cond.methodLink RX3 54 yX0_surveyBeside ∈ wT := wT_in (tb_in 455 (by decide +kernel)) rfl
theorem ti_X0_surveyBeside : Cond.instanceMethod yX0_surveyBeside ∈ wT := wT_in (tb_in 456 (by decide +kernel)) rfl
theorem tl_X0_surveyBeside : Cond.selects RX0 yX0_surveyBeside yX0_surveyBeside ∈ wT := wT_in (tb_in 457 (by decide +kernel)) rfl
theorem tc_X0_surveyBeside : Cond.code yX0_surveyBeside cX0_surveyBeside 10 none ∈ wT := wT_in (tb_in 458 (by decide +kernel)) rfl
theorem lm_X0_91 : Cond.methodLink RX0 91 yX0_lanesAddedBy ∈ wT := wT_in (tb_in 459 (by decide +kernel)) rfl
theorem ti_X0_lanesAddedBy : Cond.instanceMethod yX0_lanesAddedBy ∈ wT := wT_in (tb_in 461 (by decide +kernel)) rfl
theorem tc_X0_lanesAddedBy : Cond.code yX0_lanesAddedBy cX0_lanesAddedBy 5 (some .int) ∈ wT := wT_in (tb_in 462 (by decide +kernel)) rfl
theorem lm_X0_73 : Cond.methodLink RX0 73 yX0_lanesOf ∈ wT := wT_in (tb_in 467 (by decide +kernel)) rfl
theorem ti_X0_lanesOf : Cond.instanceMethod yX0_lanesOf ∈ wT := wT_in (tb_in 469 (by decide +kernel)) rfl
theorem tc_X0_lanesOf : Cond.code yX0_lanesOf cX0_lanesOf 5 (some .int) ∈ wT := wT_in (tb_in 470 (by decide +kernel)) rfl
theorem lm_X0_109 : Cond.methodLink RX0 109 yX7_uses ∈ wT := wT_in (tb_in 471 (by decide +kernel)) rfl
theorem lm_X3_58 : Cond.methodLink RX3 58 yX3_lacksLanes ∈ wT := wT_in (tb_in 472 (by decide +kernel)) rfl
theorem ti_X3_lacksLanes : Cond.instanceMethod yX3_lacksLanes ∈ wT := wT_in (tb_in 474 (by decide +kernel)) rfl
theorem tc_X3_lacksLanes : Cond.code yX3_lacksLanes cX3_lacksLanes 7 (some .boolean) ∈ wT := wT_in (tb_in 475 (by decide +kernel)) rfl
theorem lm_X3_61 : Cond.methodLink RX3 61 yX3_meetsDepth ∈ wT := wT_in (tb_in 476 (by decide +kernel)) rfl
theorem ti_X3_meetsDepth : Cond.instanceMethod yX3_meetsDepth ∈ wT := wT_in (tb_in 478 (by decide +kernel)) rfl
theorem tc_X3_meetsDepth : Cond.code yX3_meetsDepth cX3_meetsDepth 10 (some .boolean) ∈ wT := wT_in (tb_in 479 (by decide +kernel)) rfl
theorem lm_X3_155 : Cond.methodLink RX3 155 yX3_leastShared ∈ wT := wT_in (tb_in 482 (by decide +kernel)) rfl
theorem ts_X3_leastShared : Cond.static yX3_leastShared ∈ wT := wT_in (tb_in 483 (by decide +kernel)) rfl
theorem tc_X3_leastShared : Cond.code yX3_leastShared cX3_leastShared 3 (some .int) ∈ wT := wT_in (tb_in 484 (by decide +kernel)) rfl
theorem lm_X3_159 : Cond.methodLink RX3 159 yX7_uses ∈ wT := wT_in (tb_in 485 (by decide +kernel)) rfl
theorem lm_X3_64 : Cond.methodLink RX3 64 yX3_breaksRest ∈ wT := wT_in (tb_in 486 (by decide +kernel)) rfl
theorem ti_X3_breaksRest : Cond.instanceMethod yX3_breaksRest ∈ wT := wT_in (tb_in 488 (by decide +kernel)) rfl
theorem tc_X3_breaksRest : Cond.code yX3_breaksRest cX3_breaksRest 9 (some .boolean) ∈ wT := wT_in (tb_in 489 (by decide +kernel)) rfl
theorem lm_X3_169 : Cond.methodLink RX3 169 yX3_rests ∈ wT := wT_in (tb_in 490 (by decide +kernel)) rfl
theorem ts_X3_rests : Cond.static yX3_rests ∈ wT := wT_in (tb_in 491 (by decide +kernel)) rfl
theorem tc_X3_rests : Cond.code yX3_rests cX3_rests 3 (some .boolean) ∈ wT := wT_in (tb_in 492 (by decide +kernel)) rfl
theorem lm_X3_67 : Cond.methodLink RX3 67 yX3_blocksWay ∈ wT := wT_in (tb_in 493 (by decide +kernel)) rfl
theorem ti_X3_blocksWay : Cond.instanceMethod yX3_blocksWay ∈ wT := wT_in (tb_in 495 (by decide +kernel)) rfl
theorem tc_X3_blocksWay : Cond.code yX3_blocksWay cX3_blocksWay 15 (some .boolean) ∈ wT := wT_in (tb_in 496 (by decide +kernel)) rfl
theorem lm_X3_176 : Cond.methodLink RX3 176 yX3_closedBy ∈ wT := wT_in (tb_in 497 (by decide +kernel)) rfl
theorem ti_X3_closedBy : Cond.instanceMethod yX3_closedBy ∈ wT := wT_in (tb_in 499 (by decide +kernel)) rfl
theorem tc_X3_closedBy : Cond.code yX3_closedBy cX3_closedBy 8 (some .long) ∈ wT := wT_in (tb_in 500 (by decide +kernel)) rfl
theorem lm_X3_180 : Cond.methodLink RX3 180 yX0_survey ∈ wT := wT_in (tb_in 501 (by decide +kernel)) rfl
theorem ti_X0_survey : Cond.instanceMethod yX0_survey ∈ wT := wT_in (tb_in 502 (by decide +kernel)) rfl
theorem tl_X0_survey : Cond.selects RX0 yX0_survey yX0_survey ∈ wT := wT_in (tb_in 503 (by decide +kernel)) rfl
theorem tc_X0_survey : Cond.code yX0_survey cX0_survey 6 (some .long) ∈ wT := wT_in (tb_in 504 (by decide +kernel)) rfl
theorem lm_X3_191 : Cond.methodLink RX3 191 yX6_isOpen ∈ wT := wT_in (tb_in 505 (by decide +kernel)) rfl
theorem ti_X6_isOpen : Cond.instanceMethod yX6_isOpen ∈ wT := wT_in (tb_in 506 (by decide +kernel)) rfl
theorem tl_X6_isOpen : Cond.selects RX6 yX6_isOpen yX6_isOpen ∈ wT := wT_in (tb_in 507 (by decide +kernel)) rfl
theorem tc_X6_isOpen : Cond.code yX6_isOpen cX6_isOpen 5 (some .boolean) ∈ wT := wT_in (tb_in 508 (by decide +kernel)) rfl
theorem lm_X6_19 : Cond.methodLink RX6 19 yX6_fewest ∈ wT := wT_in (tb_in 509 (by decide +kernel)) rfl
theorem ti_X6_fewest : Cond.instanceMethod yX6_fewest ∈ wT := wT_in (tb_in 510 (by decide +kernel)) rfl
theorem tl_X6_fewest : Cond.selects RX6 yX6_fewest yX6_fewest ∈ wT := wT_in (tb_in 511 (by decide +kernel)) rfl
theorem tc_X6_fewest : Cond.code yX6_fewest cX6_fewest 10 (some .int) ∈ wT := wT_in (tb_in 512 (by decide +kernel)) rfl
theorem lm_L_40 : Cond.methodLink RL 40 yX8_why ∈ wT := wT_in (tb_in 514 (by decide +kernel)) rfl
theorem ti_X8_why : Cond.instanceMethod yX8_why ∈ wT := wT_in (tb_in 515 (by decide +kernel)) rfl
theorem tl_X8_why : Cond.selects RX8 yX8_why yX8_why ∈ wT := wT_in (tb_in 516 (by decide +kernel)) rfl
theorem tc_X8_why : Cond.code yX8_why cX8_why 2 (some .int) ∈ wT := wT_in (tb_in 517 (by decide +kernel)) rfl
theorem lm_L_45 : Cond.methodLink RL 45 yX8_first ∈ wT := wT_in (tb_in 518 (by decide +kernel)) rfl
theorem ti_X8_first : Cond.instanceMethod yX8_first ∈ wT := wT_in (tb_in 519 (by decide +kernel)) rfl
theorem tl_X8_first : Cond.selects RX8 yX8_first yX8_first ∈ wT := wT_in (tb_in 520 (by decide +kernel)) rfl
theorem tc_X8_first : Cond.code yX8_first cX8_first 7 (some .int) ∈ wT := wT_in (tb_in 521 (by decide +kernel)) rfl
theorem lm_L_49 : Cond.methodLink RL 49 yX8_permit ∈ wT := wT_in (tb_in 522 (by decide +kernel)) rfl
theorem ti_X8_permit : Cond.instanceMethod yX8_permit ∈ wT := wT_in (tb_in 523 (by decide +kernel)) rfl
theorem tl_X8_permit : Cond.selects RX8 yX8_permit yX8_permit ∈ wT := wT_in (tb_in 524 (by decide +kernel)) rfl
theorem tc_X8_permit : Cond.code yX8_permit cX8_permit 5 (some .int) ∈ wT := wT_in (tb_in 525 (by decide +kernel)) rfl
theorem lm_X8_180 : Cond.methodLink RX8 180 yX5_permitFrom ∈ wT := wT_in (tb_in 526 (by decide +kernel)) rfl
theorem ti_X5_permitFrom : Cond.instanceMethod yX5_permitFrom ∈ wT := wT_in (tb_in 527 (by decide +kernel)) rfl
theorem tl_X5_permitFrom : Cond.selects RX5 yX5_permitFrom yX5_permitFrom ∈ wT := wT_in (tb_in 528 (by decide +kernel)) rfl
theorem tc_X5_permitFrom : Cond.code yX5_permitFrom cX5_permitFrom 3 none ∈ wT := wT_in (tb_in 529 (by decide +kernel)) rfl
theorem lm_X5_51 : Cond.methodLink RX5 51 yX7_placeAt ∈ wT := wT_in (tb_in 530 (by decide +kernel)) rfl
theorem ti_X7_placeAt : Cond.instanceMethod yX7_placeAt ∈ wT := wT_in (tb_in 531 (by decide +kernel)) rfl
theorem tl_X7_placeAt : Cond.selects RX7 yX7_placeAt yX7_placeAt ∈ wT := wT_in (tb_in 532 (by decide +kernel)) rfl
theorem tc_X7_placeAt : Cond.code yX7_placeAt cX7_placeAt 2 none ∈ wT := wT_in (tb_in 533 (by decide +kernel)) rfl
theorem lm_X7_58 : Cond.methodLink RX7 58 yX7_lastFrom ∈ wT := wT_in (tb_in 534 (by decide +kernel)) rfl
theorem lm_L_53 : Cond.methodLink RL 53 yX8_withdraw ∈ wT := wT_in (tb_in 535 (by decide +kernel)) rfl
theorem ti_X8_withdraw : Cond.instanceMethod yX8_withdraw ∈ wT := wT_in (tb_in 536 (by decide +kernel)) rfl
theorem tl_X8_withdraw : Cond.selects RX8 yX8_withdraw yX8_withdraw ∈ wT := wT_in (tb_in 537 (by decide +kernel)) rfl
theorem tc_X8_withdraw : Cond.code yX8_withdraw cX8_withdraw 2 (some .int) ∈ wT := wT_in (tb_in 538 (by decide +kernel)) rfl
theorem lm_X8_188 : Cond.methodLink RX8 188 yX5_drop ∈ wT := wT_in (tb_in 539 (by decide +kernel)) rfl
theorem ti_X5_drop : Cond.instanceMethod yX5_drop ∈ wT := wT_in (tb_in 540 (by decide +kernel)) rfl
theorem tl_X5_drop : Cond.selects RX5 yX5_drop yX5_drop ∈ wT := wT_in (tb_in 541 (by decide +kernel)) rfl
theorem tc_X5_drop : Cond.code yX5_drop cX5_drop 2 none ∈ wT := wT_in (tb_in 542 (by decide +kernel)) rfl
theorem lm_X5_66 : Cond.methodLink RX5 66 yX5_hasWork ∈ wT := wT_in (tb_in 543 (by decide +kernel)) rfl
theorem lm_L_57 : Cond.methodLink RL 57 yX8_day ∈ wT := wT_in (tb_in 544 (by decide +kernel)) rfl
theorem ti_X8_day : Cond.instanceMethod yX8_day ∈ wT := wT_in (tb_in 545 (by decide +kernel)) rfl
theorem tl_X8_day : Cond.selects RX8 yX8_day yX8_day ∈ wT := wT_in (tb_in 546 (by decide +kernel)) rfl
theorem tc_X8_day : Cond.code yX8_day cX8_day 3 (some .int) ∈ wT := wT_in (tb_in 547 (by decide +kernel)) rfl
theorem lm_X8_195 : Cond.methodLink RX8 195 yX5_passDay ∈ wT := wT_in (tb_in 548 (by decide +kernel)) rfl
theorem ti_X5_passDay : Cond.instanceMethod yX5_passDay ∈ wT := wT_in (tb_in 549 (by decide +kernel)) rfl
theorem tl_X5_passDay : Cond.selects RX5 yX5_passDay yX5_passDay ∈ wT := wT_in (tb_in 550 (by decide +kernel)) rfl
theorem tc_X5_passDay : Cond.code yX5_passDay cX5_passDay 3 none ∈ wT := wT_in (tb_in 551 (by decide +kernel)) rfl
theorem lm_L_61 : Cond.methodLink RL 61 yX8_over ∈ wT := wT_in (tb_in 552 (by decide +kernel)) rfl
theorem ti_X8_over : Cond.instanceMethod yX8_over ∈ wT := wT_in (tb_in 553 (by decide +kernel)) rfl
theorem tl_X8_over : Cond.selects RX8 yX8_over yX8_over ∈ wT := wT_in (tb_in 554 (by decide +kernel)) rfl
theorem tc_X8_over : Cond.code yX8_over cX8_over 5 (some .int) ∈ wT := wT_in (tb_in 555 (by decide +kernel)) rfl
theorem lm_X8_209 : Cond.methodLink RX8 209 yX4_moveBroken ∈ wT := wT_in (tb_in 557 (by decide +kernel)) rfl
theorem ti_X4_moveBroken : Cond.instanceMethod yX4_moveBroken ∈ wT := wT_in (tb_in 558 (by decide +kernel)) rfl
theorem tl_X4_moveBroken : Cond.selects RX4 yX4_moveBroken yX4_moveBroken ∈ wT := wT_in (tb_in 559 (by decide +kernel)) rfl
theorem tc_X4_moveBroken : Cond.code yX4_moveBroken cX4_moveBroken 4 (some .int) ∈ wT := wT_in (tb_in 560 (by decide +kernel)) rfl
theorem lm_X4_34 : Cond.methodLink RX4 34 yX3_lookAt ∈ wT := wT_in (tb_in 561 (by decide +kernel)) rfl
theorem lm_X4_43 : Cond.methodLink RX4 43 yX3_broken ∈ wT := wT_in (tb_in 562 (by decide +kernel)) rfl
theorem lm_X4_47 : Cond.methodLink RX4 47 yX4_moveOn ∈ wT := wT_in (tb_in 563 (by decide +kernel)) rfl
theorem ti_X4_moveOn : Cond.instanceMethod yX4_moveOn ∈ wT := wT_in (tb_in 565 (by decide +kernel)) rfl
theorem tc_X4_moveOn : Cond.code yX4_moveOn cX4_moveOn 3 none ∈ wT := wT_in (tb_in 566 (by decide +kernel)) rfl
theorem lm_X4_51 : Cond.methodLink RX4 51 yX7_placeAt ∈ wT := wT_in (tb_in 567 (by decide +kernel)) rfl
theorem lm_X4_58 : Cond.methodLink RX4 58 yX5_drop ∈ wT := wT_in (tb_in 568 (by decide +kernel)) rfl
theorem lm_L_65 : Cond.methodLink RL 65 yX8_crash ∈ wT := wT_in (tb_in 569 (by decide +kernel)) rfl
theorem ti_X8_crash : Cond.instanceMethod yX8_crash ∈ wT := wT_in (tb_in 570 (by decide +kernel)) rfl
theorem tl_X8_crash : Cond.selects RX8 yX8_crash yX8_crash ∈ wT := wT_in (tb_in 571 (by decide +kernel)) rfl
theorem tc_X8_crash : Cond.code yX8_crash cX8_crash 3 (some .int) ∈ wT := wT_in (tb_in 572 (by decide +kernel)) rfl
theorem lm_L_69 : Cond.methodLink RL 69 yX8_join ∈ wT := wT_in (tb_in 573 (by decide +kernel)) rfl
theorem ti_X8_join : Cond.instanceMethod yX8_join ∈ wT := wT_in (tb_in 574 (by decide +kernel)) rfl
theorem tl_X8_join : Cond.selects RX8 yX8_join yX8_join ∈ wT := wT_in (tb_in 575 (by decide +kernel)) rfl
theorem tc_X8_join : Cond.code yX8_join cX8_join 5 (some .int) ∈ wT := wT_in (tb_in 576 (by decide +kernel)) rfl
theorem lm_X8_213 : Cond.methodLink RX8 213 yX7_canBeJoined ∈ wT := wT_in (tb_in 577 (by decide +kernel)) rfl
theorem ti_X7_canBeJoined : Cond.instanceMethod yX7_canBeJoined ∈ wT := wT_in (tb_in 578 (by decide +kernel)) rfl
theorem tl_X7_canBeJoined : Cond.selects RX7 yX7_canBeJoined yX7_canBeJoined ∈ wT := wT_in (tb_in 579 (by decide +kernel)) rfl
theorem tc_X7_canBeJoined : Cond.code yX7_canBeJoined cX7_canBeJoined 1 (some .boolean) ∈ wT := wT_in (tb_in 580 (by decide +kernel)) rfl
theorem lm_X7_41 : Cond.methodLink RX7 41 yX7_isOpen ∈ wT := wT_in (tb_in 581 (by decide +kernel)) rfl
theorem lm_L_73 : Cond.methodLink RL 73 yX8_about ∈ wT := wT_in (tb_in 582 (by decide +kernel)) rfl
theorem ti_X8_about : Cond.instanceMethod yX8_about ∈ wT := wT_in (tb_in 583 (by decide +kernel)) rfl
theorem tl_X8_about : Cond.selects RX8 yX8_about yX8_about ∈ wT := wT_in (tb_in 584 (by decide +kernel)) rfl
theorem tc_X8_about : Cond.code yX8_about cX8_about 4 (some .int) ∈ wT := wT_in (tb_in 585 (by decide +kernel)) rfl
theorem lm_X8_223 : Cond.methodLink RX8 223 yX5_costAlone ∈ wT := wT_in (tb_in 586 (by decide +kernel)) rfl
theorem ti_X5_costAlone : Cond.instanceMethod yX5_costAlone ∈ wT := wT_in (tb_in 587 (by decide +kernel)) rfl
theorem tl_X5_costAlone : Cond.selects RX5 yX5_costAlone yX5_costAlone ∈ wT := wT_in (tb_in 588 (by decide +kernel)) rfl
theorem tc_X5_costAlone : Cond.code yX5_costAlone cX5_costAlone 2 (some .int) ∈ wT := wT_in (tb_in 589 (by decide +kernel)) rfl
theorem lm_X5_85 : Cond.methodLink RX5 85 yX5_ranks ∈ wT := wT_in (tb_in 590 (by decide +kernel)) rfl
theorem ti_X5_ranks : Cond.instanceMethod yX5_ranks ∈ wT := wT_in (tb_in 591 (by decide +kernel)) rfl
theorem tl_X5_ranks : Cond.selects RX5 yX5_ranks yX5_ranks ∈ wT := wT_in (tb_in 592 (by decide +kernel)) rfl
theorem tc_X5_ranks : Cond.code yX5_ranks cX5_ranks 4 (some .int) ∈ wT := wT_in (tb_in 593 (by decide +kernel)) rfl
theorem lm_X8_227 : Cond.methodLink RX8 227 yX5_pays ∈ wT := wT_in (tb_in 594 (by decide +kernel)) rfl
theorem ti_X5_pays : Cond.instanceMethod yX5_pays ∈ wT := wT_in (tb_in 595 (by decide +kernel)) rfl
theorem tl_X5_pays : Cond.selects RX5 yX5_pays yX5_pays ∈ wT := wT_in (tb_in 596 (by decide +kernel)) rfl
theorem tc_X5_pays : Cond.code yX5_pays cX5_pays 6 (some .int) ∈ wT := wT_in (tb_in 597 (by decide +kernel)) rfl
theorem lm_X5_92 : Cond.methodLink RX5 92 yX5_costAlone ∈ wT := wT_in (tb_in 598 (by decide +kernel)) rfl
theorem lm_X8_230 : Cond.methodLink RX8 230 yX5_fine ∈ wT := wT_in (tb_in 601 (by decide +kernel)) rfl
theorem ti_X5_fine : Cond.instanceMethod yX5_fine ∈ wT := wT_in (tb_in 602 (by decide +kernel)) rfl
theorem tl_X5_fine : Cond.selects RX5 yX5_fine yX5_fine ∈ wT := wT_in (tb_in 603 (by decide +kernel)) rfl
theorem tc_X5_fine : Cond.code yX5_fine cX5_fine 2 (some .int) ∈ wT := wT_in (tb_in 604 (by decide +kernel)) rfl
theorem lm_X8_233 : Cond.methodLink RX8 233 yX7_delay ∈ wT := wT_in (tb_in 605 (by decide +kernel)) rfl
theorem ti_X7_delay : Cond.instanceMethod yX7_delay ∈ wT := wT_in (tb_in 606 (by decide +kernel)) rfl
theorem tl_X7_delay : Cond.selects RX7 yX7_delay yX7_delay ∈ wT := wT_in (tb_in 607 (by decide +kernel)) rfl
theorem tc_X7_delay : Cond.code yX7_delay cX7_delay 1 (some .int) ∈ wT := wT_in (tb_in 608 (by decide +kernel)) rfl
theorem lm_L_77 : Cond.methodLink RL 77 yX8_lanes ∈ wT := wT_in (tb_in 609 (by decide +kernel)) rfl
theorem ti_X8_lanes : Cond.instanceMethod yX8_lanes ∈ wT := wT_in (tb_in 610 (by decide +kernel)) rfl
theorem tl_X8_lanes : Cond.selects RX8 yX8_lanes yX8_lanes ∈ wT := wT_in (tb_in 611 (by decide +kernel)) rfl
theorem tc_X8_lanes : Cond.code yX8_lanes cX8_lanes 3 (some .int) ∈ wT := wT_in (tb_in 612 (by decide +kernel)) rfl
theorem lm_X8_239 : Cond.methodLink RX8 239 yX0_gatherAll ∈ wT := wT_in (tb_in 613 (by decide +kernel)) rfl
theorem ti_X0_gatherAll : Cond.instanceMethod yX0_gatherAll ∈ wT := wT_in (tb_in 614 (by decide +kernel)) rfl
theorem tl_X0_gatherAll : Cond.selects RX0 yX0_gatherAll yX0_gatherAll ∈ wT := wT_in (tb_in 615 (by decide +kernel)) rfl
theorem tc_X0_gatherAll : Cond.code yX0_gatherAll cX0_gatherAll 1 none ∈ wT := wT_in (tb_in 616 (by decide +kernel)) rfl
theorem lm_X0_37 : Cond.methodLink RX0 37 yX0_gather ∈ wT := wT_in (tb_in 617 (by decide +kernel)) rfl
theorem lm_X8_242 : Cond.methodLink RX8 242 yX0_survey ∈ wT := wT_in (tb_in 618 (by decide +kernel)) rfl
theorem lm_L_81 : Cond.methodLink RL 81 yX8_way ∈ wT := wT_in (tb_in 619 (by decide +kernel)) rfl
theorem ti_X8_way : Cond.instanceMethod yX8_way ∈ wT := wT_in (tb_in 620 (by decide +kernel)) rfl
theorem tl_X8_way : Cond.selects RX8 yX8_way yX8_way ∈ wT := wT_in (tb_in 621 (by decide +kernel)) rfl
theorem tc_X8_way : Cond.code yX8_way cX8_way 3 (some .int) ∈ wT := wT_in (tb_in 622 (by decide +kernel)) rfl
theorem lm_X8_250 : Cond.methodLink RX8 250 yX5_hasPair ∈ wT := wT_in (tb_in 623 (by decide +kernel)) rfl
theorem ti_X5_hasPair : Cond.instanceMethod yX5_hasPair ∈ wT := wT_in (tb_in 624 (by decide +kernel)) rfl
theorem tl_X5_hasPair : Cond.selects RX5 yX5_hasPair yX5_hasPair ∈ wT := wT_in (tb_in 625 (by decide +kernel)) rfl
theorem tc_X5_hasPair : Cond.code yX5_hasPair cX5_hasPair 2 (some .boolean) ∈ wT := wT_in (tb_in 626 (by decide +kernel)) rfl
theorem lm_X8_253 : Cond.methodLink RX8 253 yX6_fewest ∈ wT := wT_in (tb_in 627 (by decide +kernel)) rfl
theorem lm_L_85 : Cond.methodLink RL 85 yX8_shut ∈ wT := wT_in (tb_in 628 (by decide +kernel)) rfl
theorem ti_X8_shut : Cond.instanceMethod yX8_shut ∈ wT := wT_in (tb_in 629 (by decide +kernel)) rfl
theorem tl_X8_shut : Cond.selects RX8 yX8_shut yX8_shut ∈ wT := wT_in (tb_in 630 (by decide +kernel)) rfl
theorem tc_X8_shut : Cond.code yX8_shut cX8_shut 6 (some .int) ∈ wT := wT_in (tb_in 631 (by decide +kernel)) rfl
theorem lm_X8_257 : Cond.methodLink RX8 257 yX6_isOpen ∈ wT := wT_in (tb_in 632 (by decide +kernel)) rfl
theorem lm_L_89 : Cond.methodLink RL 89 yX8_price ∈ wT := wT_in (tb_in 633 (by decide +kernel)) rfl
theorem ti_X8_price : Cond.instanceMethod yX8_price ∈ wT := wT_in (tb_in 634 (by decide +kernel)) rfl
theorem tl_X8_price : Cond.selects RX8 yX8_price yX8_price ∈ wT := wT_in (tb_in 635 (by decide +kernel)) rfl
theorem tc_X8_price : Cond.code yX8_price cX8_price 3 (some .int) ∈ wT := wT_in (tb_in 636 (by decide +kernel)) rfl
theorem lm_X8_260 : Cond.methodLink RX8 260 yX5_worksIn ∈ wT := wT_in (tb_in 637 (by decide +kernel)) rfl
theorem ti_X5_worksIn : Cond.instanceMethod yX5_worksIn ∈ wT := wT_in (tb_in 638 (by decide +kernel)) rfl
theorem tl_X5_worksIn : Cond.selects RX5 yX5_worksIn yX5_worksIn ∈ wT := wT_in (tb_in 639 (by decide +kernel)) rfl
theorem tc_X5_worksIn : Cond.code yX5_worksIn cX5_worksIn 4 (some .int) ∈ wT := wT_in (tb_in 640 (by decide +kernel)) rfl
theorem lm_L_94 : Cond.methodLink RL 94 yX8_better ∈ wT := wT_in (tb_in 641 (by decide +kernel)) rfl
theorem ti_X8_better : Cond.instanceMethod yX8_better ∈ wT := wT_in (tb_in 642 (by decide +kernel)) rfl
theorem tl_X8_better : Cond.selects RX8 yX8_better yX8_better ∈ wT := wT_in (tb_in 643 (by decide +kernel)) rfl
theorem tc_X8_better : Cond.code yX8_better cX8_better 2 (some .int) ∈ wT := wT_in (tb_in 644 (by decide +kernel)) rfl
theorem lm_X8_265 : Cond.methodLink RX8 265 yX4_betterOne ∈ wT := wT_in (tb_in 646 (by decide +kernel)) rfl
theorem ti_X4_betterOne : Cond.instanceMethod yX4_betterOne ∈ wT := wT_in (tb_in 647 (by decide +kernel)) rfl
theorem tl_X4_betterOne : Cond.selects RX4 yX4_betterOne yX4_betterOne ∈ wT := wT_in (tb_in 648 (by decide +kernel)) rfl
theorem tc_X4_betterOne : Cond.code yX4_betterOne cX4_betterOne 4 (some .boolean) ∈ wT := wT_in (tb_in 649 (by decide +kernel)) rfl
theorem lm_X4_61 : Cond.methodLink RX4 61 yX7_delay ∈ wT := wT_in (tb_in 650 (by decide +kernel)) rfl
theorem lm_X4_68 : Cond.methodLink RX4 68 yX7_notice ∈ wT := wT_in (tb_in 651 (by decide +kernel)) rfl
theorem lm_X4_71 : Cond.methodLink RX4 71 yX4_fits ∈ wT := wT_in (tb_in 652 (by decide +kernel)) rfl
theorem ti_X4_fits : Cond.instanceMethod yX4_fits ∈ wT := wT_in (tb_in 654 (by decide +kernel)) rfl
theorem tc_X4_fits : Cond.code yX4_fits cX4_fits 6 (some .boolean) ∈ wT := wT_in (tb_in 655 (by decide +kernel)) rfl
theorem lm_X4_81 : Cond.methodLink RX4 81 yX4_breaksBeside ∈ wT := wT_in (tb_in 656 (by decide +kernel)) rfl
theorem ti_X4_breaksBeside : Cond.instanceMethod yX4_breaksBeside ∈ wT := wT_in (tb_in 658 (by decide +kernel)) rfl
theorem tc_X4_breaksBeside : Cond.code yX4_breaksBeside cX4_breaksBeside 4 (some .boolean) ∈ wT := wT_in (tb_in 659 (by decide +kernel)) rfl
theorem lm_X4_85 : Cond.methodLink RX4 85 yX5_hasWork ∈ wT := wT_in (tb_in 660 (by decide +kernel)) rfl
theorem lm_X4_75 : Cond.methodLink RX4 75 yX5_permitFrom ∈ wT := wT_in (tb_in 661 (by decide +kernel)) rfl
theorem lm_L_98 : Cond.methodLink RL 98 yX8_book ∈ wT := wT_in (tb_in 662 (by decide +kernel)) rfl
theorem ti_X8_book : Cond.instanceMethod yX8_book ∈ wT := wT_in (tb_in 663 (by decide +kernel)) rfl
theorem tl_X8_book : Cond.selects RX8 yX8_book yX8_book ∈ wT := wT_in (tb_in 664 (by decide +kernel)) rfl
theorem tc_X8_book : Cond.code yX8_book cX8_book 4 (some .int) ∈ wT := wT_in (tb_in 665 (by decide +kernel)) rfl
theorem lm_X8_268 : Cond.methodLink RX8 268 yX7_isBookedOn ∈ wT := wT_in (tb_in 666 (by decide +kernel)) rfl
theorem ti_X7_isBookedOn : Cond.instanceMethod yX7_isBookedOn ∈ wT := wT_in (tb_in 667 (by decide +kernel)) rfl
theorem tl_X7_isBookedOn : Cond.selects RX7 yX7_isBookedOn yX7_isBookedOn ∈ wT := wT_in (tb_in 668 (by decide +kernel)) rfl
theorem tc_X7_isBookedOn : Cond.code yX7_isBookedOn cX7_isBookedOn 2 (some .boolean) ∈ wT := wT_in (tb_in 669 (by decide +kernel)) rfl
theorem lm_X7_45 : Cond.methodLink RX7 45 yX7_uses ∈ wT := wT_in (tb_in 670 (by decide +kernel)) rfl
theorem lm_X8_271 : Cond.methodLink RX8 271 yX5_bookedAhead ∈ wT := wT_in (tb_in 671 (by decide +kernel)) rfl
theorem ti_X5_bookedAhead : Cond.instanceMethod yX5_bookedAhead ∈ wT := wT_in (tb_in 672 (by decide +kernel)) rfl
theorem tl_X5_bookedAhead : Cond.selects RX5 yX5_bookedAhead yX5_bookedAhead ∈ wT := wT_in (tb_in 673 (by decide +kernel)) rfl
theorem tc_X5_bookedAhead : Cond.code yX5_bookedAhead cX5_bookedAhead 6 (some .int) ∈ wT := wT_in (tb_in 674 (by decide +kernel)) rfl
theorem lm_X5_107 : Cond.methodLink RX5 107 yX7_isBookedOn ∈ wT := wT_in (tb_in 675 (by decide +kernel)) rfl
theorem lm_L_102 : Cond.methodLink RL 102 yX8_count ∈ wT := wT_in (tb_in 676 (by decide +kernel)) rfl
theorem ti_X8_count : Cond.instanceMethod yX8_count ∈ wT := wT_in (tb_in 677 (by decide +kernel)) rfl
theorem tl_X8_count : Cond.selects RX8 yX8_count yX8_count ∈ wT := wT_in (tb_in 678 (by decide +kernel)) rfl
theorem tc_X8_count : Cond.code yX8_count cX8_count 2 (some .int) ∈ wT := wT_in (tb_in 679 (by decide +kernel)) rfl
theorem lm_L_12 : Cond.methodLink RL 12 yX9_init ∈ wT := wT_in (tb_in 682 (by decide +kernel)) rfl
theorem ti_X9_init : Cond.instanceMethod yX9_init ∈ wT := wT_in (tb_in 683 (by decide +kernel)) rfl
theorem tc_X9_init : Cond.code yX9_init cX9_init 1 none ∈ wT := wT_in (tb_in 684 (by decide +kernel)) rfl
theorem lk_X9_9 : Cond.fieldLink RX9 9 "RoadWorksModel" "from" "[I" ∈ wT := wT_in (tb_in 686 (by decide +kernel)) rfl
theorem lk_X9_13 : Cond.fieldLink RX9 13 "RoadWorksModel" "to" "[I" ∈ wT := wT_in (tb_in 687 (by decide +kernel)) rfl
theorem lk_X9_16 : Cond.fieldLink RX9 16 "RoadWorksModel" "lanes" "[I" ∈ wT := wT_in (tb_in 688 (by decide +kernel)) rfl
theorem lk_X9_19 : Cond.fieldLink RX9 19 "RoadWorksModel" "rank" "[I" ∈ wT := wT_in (tb_in 689 (by decide +kernel)) rfl
theorem lk_X9_22 : Cond.fieldLink RX9 22 "RoadWorksModel" "minutes" "[I" ∈ wT := wT_in (tb_in 690 (by decide +kernel)) rfl
theorem lk_X9_25 : Cond.fieldLink RX9 25 "RoadWorksModel" "rest" "[I" ∈ wT := wT_in (tb_in 691 (by decide +kernel)) rfl
theorem lk_X9_101 : Cond.fieldLink RX9 101 "RoadWorksModel" "pieces" "I" ∈ wT := wT_in (tb_in 692 (by decide +kernel)) rfl
theorem lk_X9_28 : Cond.fieldLink RX9 28 "RoadWorksModel" "pairA" "[I" ∈ wT := wT_in (tb_in 693 (by decide +kernel)) rfl
theorem lk_X9_31 : Cond.fieldLink RX9 31 "RoadWorksModel" "pairB" "[I" ∈ wT := wT_in (tb_in 694 (by decide +kernel)) rfl
theorem lk_X9_34 : Cond.fieldLink RX9 34 "RoadWorksModel" "limit" "[I" ∈ wT := wT_in (tb_in 695 (by decide +kernel)) rfl
theorem lk_X9_104 : Cond.fieldLink RX9 104 "RoadWorksModel" "pairs" "I" ∈ wT := wT_in (tb_in 696 (by decide +kernel)) rfl
theorem lk_X9_37 : Cond.fieldLink RX9 37 "RoadWorksModel" "feast" "[Z" ∈ wT := wT_in (tb_in 697 (by decide +kernel)) rfl
theorem lk_X9_154 : Cond.fieldLink RX9 154 "RoadWorksModel" "today" "I" ∈ wT := wT_in (tb_in 698 (by decide +kernel)) rfl
theorem lk_X9_41 : Cond.fieldLink RX9 41 "RoadWorksModel" "house" "[I" ∈ wT := wT_in (tb_in 699 (by decide +kernel)) rfl
theorem lk_X9_44 : Cond.fieldLink RX9 44 "RoadWorksModel" "sort" "[I" ∈ wT := wT_in (tb_in 700 (by decide +kernel)) rfl
theorem lk_X9_47 : Cond.fieldLink RX9 47 "RoadWorksModel" "takes" "[I" ∈ wT := wT_in (tb_in 701 (by decide +kernel)) rfl
theorem lk_X9_50 : Cond.fieldLink RX9 50 "RoadWorksModel" "days" "[I" ∈ wT := wT_in (tb_in 702 (by decide +kernel)) rfl
theorem lk_X9_53 : Cond.fieldLink RX9 53 "RoadWorksModel" "depth" "[I" ∈ wT := wT_in (tb_in 703 (by decide +kernel)) rfl
theorem lk_X9_56 : Cond.fieldLink RX9 56 "RoadWorksModel" "wanted" "[I" ∈ wT := wT_in (tb_in 704 (by decide +kernel)) rfl
theorem lk_X9_59 : Cond.fieldLink RX9 59 "RoadWorksModel" "on" "[J" ∈ wT := wT_in (tb_in 705 (by decide +kernel)) rfl
theorem lk_X9_63 : Cond.fieldLink RX9 63 "RoadWorksModel" "firstPiece" "[I" ∈ wT := wT_in (tb_in 706 (by decide +kernel)) rfl
theorem lk_X9_66 : Cond.fieldLink RX9 66 "RoadWorksModel" "pieceMany" "[I" ∈ wT := wT_in (tb_in 707 (by decide +kernel)) rfl
theorem lk_X9_69 : Cond.fieldLink RX9 69 "RoadWorksModel" "state" "[I" ∈ wT := wT_in (tb_in 708 (by decide +kernel)) rfl
theorem lk_X9_72 : Cond.fieldLink RX9 72 "RoadWorksModel" "begins" "[I" ∈ wT := wT_in (tb_in 709 (by decide +kernel)) rfl
theorem lk_X9_75 : Cond.fieldLink RX9 75 "RoadWorksModel" "ends" "[I" ∈ wT := wT_in (tb_in 710 (by decide +kernel)) rfl
theorem lk_X9_78 : Cond.fieldLink RX9 78 "RoadWorksModel" "overs" "[I" ∈ wT := wT_in (tb_in 711 (by decide +kernel)) rfl
theorem lk_X9_81 : Cond.fieldLink RX9 81 "RoadWorksModel" "joined" "[I" ∈ wT := wT_in (tb_in 712 (by decide +kernel)) rfl
theorem lk_X9_84 : Cond.fieldLink RX9 84 "RoadWorksModel" "moved" "[I" ∈ wT := wT_in (tb_in 713 (by decide +kernel)) rfl
theorem lk_X9_107 : Cond.fieldLink RX9 107 "RoadWorksModel" "works" "I" ∈ wT := wT_in (tb_in 714 (by decide +kernel)) rfl
theorem lk_X9_137 : Cond.fieldLink RX9 137 "RoadWorksModel" "brokenDay" "I" ∈ wT := wT_in (tb_in 715 (by decide +kernel)) rfl
theorem lk_X9_140 : Cond.fieldLink RX9 140 "RoadWorksModel" "brokenAt" "I" ∈ wT := wT_in (tb_in 716 (by decide +kernel)) rfl
theorem lk_X9_87 : Cond.fieldLink RX9 87 "RoadWorksModel" "toldDay" "I" ∈ wT := wT_in (tb_in 717 (by decide +kernel)) rfl
theorem lk_X9_91 : Cond.fieldLink RX9 91 "RoadWorksModel" "toldAt" "I" ∈ wT := wT_in (tb_in 718 (by decide +kernel)) rfl
theorem lk_X9_94 : Cond.fieldLink RX9 94 "RoadWorksModel" "far" "[I" ∈ wT := wT_in (tb_in 719 (by decide +kernel)) rfl
theorem lm_L_17 : Cond.methodLink RL 17 yX9_piece ∈ wT := wT_in (tb_in 790 (by decide +kernel)) rfl
theorem ti_X9_piece : Cond.instanceMethod yX9_piece ∈ wT := wT_in (tb_in 791 (by decide +kernel)) rfl
theorem tl_X9_piece : Cond.selects RX9 yX9_piece yX9_piece ∈ wT := wT_in (tb_in 792 (by decide +kernel)) rfl
theorem tc_X9_piece : Cond.code yX9_piece cX9_piece 6 (some .int) ∈ wT := wT_in (tb_in 793 (by decide +kernel)) rfl
theorem lm_X9_97 : Cond.methodLink RX9 97 yX9_within ∈ wT := wT_in (tb_in 794 (by decide +kernel)) rfl
theorem ts_X9_within : Cond.static yX9_within ∈ wT := wT_in (tb_in 795 (by decide +kernel)) rfl
theorem tc_X9_within : Cond.code yX9_within cX9_within 3 (some .boolean) ∈ wT := wT_in (tb_in 796 (by decide +kernel)) rfl
theorem lm_L_22 : Cond.methodLink RL 22 yX9_pair ∈ wT := wT_in (tb_in 797 (by decide +kernel)) rfl
theorem ti_X9_pair : Cond.instanceMethod yX9_pair ∈ wT := wT_in (tb_in 798 (by decide +kernel)) rfl
theorem tl_X9_pair : Cond.selects RX9 yX9_pair yX9_pair ∈ wT := wT_in (tb_in 799 (by decide +kernel)) rfl
theorem tc_X9_pair : Cond.code yX9_pair cX9_pair 4 (some .int) ∈ wT := wT_in (tb_in 800 (by decide +kernel)) rfl
theorem lm_L_27 : Cond.methodLink RL 27 yX9_feast ∈ wT := wT_in (tb_in 801 (by decide +kernel)) rfl
theorem ti_X9_feast : Cond.instanceMethod yX9_feast ∈ wT := wT_in (tb_in 802 (by decide +kernel)) rfl
theorem tl_X9_feast : Cond.selects RX9 yX9_feast yX9_feast ∈ wT := wT_in (tb_in 803 (by decide +kernel)) rfl
theorem tc_X9_feast : Cond.code yX9_feast cX9_feast 4 (some .int) ∈ wT := wT_in (tb_in 804 (by decide +kernel)) rfl
theorem lm_L_31 : Cond.methodLink RL 31 yX9_work ∈ wT := wT_in (tb_in 805 (by decide +kernel)) rfl
theorem ti_X9_work : Cond.instanceMethod yX9_work ∈ wT := wT_in (tb_in 806 (by decide +kernel)) rfl
theorem tl_X9_work : Cond.selects RX9 yX9_work yX9_work ∈ wT := wT_in (tb_in 807 (by decide +kernel)) rfl
theorem tc_X9_work : Cond.code yX9_work cX9_work 5 (some .int) ∈ wT := wT_in (tb_in 808 (by decide +kernel)) rfl
theorem lm_X9_110 : Cond.methodLink RX9 110 yX9_isPiece ∈ wT := wT_in (tb_in 809 (by decide +kernel)) rfl
theorem ti_X9_isPiece : Cond.instanceMethod yX9_isPiece ∈ wT := wT_in (tb_in 811 (by decide +kernel)) rfl
theorem tc_X9_isPiece : Cond.code yX9_isPiece cX9_isPiece 2 (some .boolean) ∈ wT := wT_in (tb_in 812 (by decide +kernel)) rfl
theorem lm_L_35 : Cond.methodLink RL 35 yX9_more ∈ wT := wT_in (tb_in 813 (by decide +kernel)) rfl
theorem ti_X9_more : Cond.instanceMethod yX9_more ∈ wT := wT_in (tb_in 814 (by decide +kernel)) rfl
theorem tl_X9_more : Cond.selects RX9 yX9_more yX9_more ∈ wT := wT_in (tb_in 815 (by decide +kernel)) rfl
theorem tc_X9_more : Cond.code yX9_more cX9_more 3 (some .int) ∈ wT := wT_in (tb_in 816 (by decide +kernel)) rfl
theorem lm_X9_114 : Cond.methodLink RX9 114 yX9_isWork ∈ wT := wT_in (tb_in 817 (by decide +kernel)) rfl
theorem ti_X9_isWork : Cond.instanceMethod yX9_isWork ∈ wT := wT_in (tb_in 819 (by decide +kernel)) rfl
theorem tc_X9_isWork : Cond.code yX9_isWork cX9_isWork 2 (some .boolean) ∈ wT := wT_in (tb_in 820 (by decide +kernel)) rfl
theorem lm_X9_117 : Cond.methodLink RX9 117 yX9_isOn ∈ wT := wT_in (tb_in 821 (by decide +kernel)) rfl
theorem ti_X9_isOn : Cond.instanceMethod yX9_isOn ∈ wT := wT_in (tb_in 823 (by decide +kernel)) rfl
theorem tc_X9_isOn : Cond.code yX9_isOn cX9_isOn 3 (some .boolean) ∈ wT := wT_in (tb_in 824 (by decide +kernel)) rfl
theorem lm_L_39 : Cond.methodLink RL 39 yX9_may ∈ wT := wT_in (tb_in 825 (by decide +kernel)) rfl
theorem ti_X9_may : Cond.instanceMethod yX9_may ∈ wT := wT_in (tb_in 826 (by decide +kernel)) rfl
theorem tl_X9_may : Cond.selects RX9 yX9_may yX9_may ∈ wT := wT_in (tb_in 827 (by decide +kernel)) rfl
theorem tc_X9_may : Cond.code yX9_may cX9_may 3 (some .int) ∈ wT := wT_in (tb_in 828 (by decide +kernel)) rfl
theorem lm_X9_183 : Cond.methodLink RX9 183 yX9_refusal ∈ wT := wT_in (tb_in 829 (by decide +kernel)) rfl
theorem ti_X9_refusal : Cond.instanceMethod yX9_refusal ∈ wT := wT_in (tb_in 831 (by decide +kernel)) rfl
theorem tc_X9_refusal : Cond.code yX9_refusal cX9_refusal 2 (some .int) ∈ wT := wT_in (tb_in 832 (by decide +kernel)) rfl
theorem lm_X9_186 : Cond.methodLink RX9 186 yX9_look ∈ wT := wT_in (tb_in 833 (by decide +kernel)) rfl
theorem ti_X9_look : Cond.instanceMethod yX9_look ∈ wT := wT_in (tb_in 835 (by decide +kernel)) rfl
theorem tc_X9_look : Cond.code yX9_look cX9_look 4 (some .int) ∈ wT := wT_in (tb_in 836 (by decide +kernel)) rfl
theorem lm_X9_179 : Cond.methodLink RX9 179 yX9_rule ∈ wT := wT_in (tb_in 837 (by decide +kernel)) rfl
theorem ti_X9_rule : Cond.instanceMethod yX9_rule ∈ wT := wT_in (tb_in 839 (by decide +kernel)) rfl
theorem tc_X9_rule : Cond.code yX9_rule cX9_rule 5 (some .int) ∈ wT := wT_in (tb_in 840 (by decide +kernel)) rfl
theorem lm_X9_157 : Cond.methodLink RX9 157 yX9_notice ∈ wT := wT_in (tb_in 841 (by decide +kernel)) rfl
theorem ti_X9_notice : Cond.instanceMethod yX9_notice ∈ wT := wT_in (tb_in 843 (by decide +kernel)) rfl
theorem tc_X9_notice : Cond.code yX9_notice cX9_notice 2 (some .int) ∈ wT := wT_in (tb_in 844 (by decide +kernel)) rfl
theorem lm_X9_161 : Cond.methodLink RX9 161 yX9_lowest ∈ wT := wT_in (tb_in 845 (by decide +kernel)) rfl
theorem ti_X9_lowest : Cond.instanceMethod yX9_lowest ∈ wT := wT_in (tb_in 847 (by decide +kernel)) rfl
theorem tc_X9_lowest : Cond.code yX9_lowest cX9_lowest 3 (some .int) ∈ wT := wT_in (tb_in 848 (by decide +kernel)) rfl
theorem lm_X9_143 : Cond.methodLink RX9 143 yX9_broken ∈ wT := wT_in (tb_in 849 (by decide +kernel)) rfl
theorem ti_X9_broken : Cond.instanceMethod yX9_broken ∈ wT := wT_in (tb_in 851 (by decide +kernel)) rfl
theorem tc_X9_broken : Cond.code yX9_broken cX9_broken 3 (some .boolean) ∈ wT := wT_in (tb_in 852 (by decide +kernel)) rfl
theorem lm_X9_164 : Cond.methodLink RX9 164 yX9_breaksFeast ∈ wT := wT_in (tb_in 853 (by decide +kernel)) rfl
theorem ti_X9_breaksFeast : Cond.instanceMethod yX9_breaksFeast ∈ wT := wT_in (tb_in 855 (by decide +kernel)) rfl
theorem tc_X9_breaksFeast : Cond.code yX9_breaksFeast cX9_breaksFeast 5 (some .boolean) ∈ wT := wT_in (tb_in 856 (by decide +kernel)) rfl
theorem lm_X9_167 : Cond.methodLink RX9 167 yX9_breaksLanes ∈ wT := wT_in (tb_in 857 (by decide +kernel)) rfl
theorem ti_X9_breaksLanes : Cond.instanceMethod yX9_breaksLanes ∈ wT := wT_in (tb_in 859 (by decide +kernel)) rfl
theorem tc_X9_breaksLanes : Cond.code yX9_breaksLanes cX9_breaksLanes 6 (some .boolean) ∈ wT := wT_in (tb_in 860 (by decide +kernel)) rfl
theorem lm_X9_132 : Cond.methodLink RX9 132 yX9_taken ∈ wT := wT_in (tb_in 861 (by decide +kernel)) rfl
theorem ti_X9_taken : Cond.instanceMethod yX9_taken ∈ wT := wT_in (tb_in 863 (by decide +kernel)) rfl
theorem tc_X9_taken : Cond.code yX9_taken cX9_taken 11 (some .int) ∈ wT := wT_in (tb_in 864 (by decide +kernel)) rfl
theorem lm_X9_128 : Cond.methodLink RX9 128 yX9_lasts ∈ wT := wT_in (tb_in 865 (by decide +kernel)) rfl
theorem ti_X9_lasts : Cond.instanceMethod yX9_lasts ∈ wT := wT_in (tb_in 867 (by decide +kernel)) rfl
theorem tc_X9_lasts : Cond.code yX9_lasts cX9_lasts 6 (some .boolean) ∈ wT := wT_in (tb_in 868 (by decide +kernel)) rfl
theorem lm_X9_124 : Cond.methodLink RX9 124 yX9_counts ∈ wT := wT_in (tb_in 869 (by decide +kernel)) rfl
theorem ti_X9_counts : Cond.instanceMethod yX9_counts ∈ wT := wT_in (tb_in 871 (by decide +kernel)) rfl
theorem tc_X9_counts : Cond.code yX9_counts cX9_counts 4 (some .boolean) ∈ wT := wT_in (tb_in 872 (by decide +kernel)) rfl
theorem lm_X9_121 : Cond.methodLink RX9 121 yX9_hasDays ∈ wT := wT_in (tb_in 873 (by decide +kernel)) rfl
theorem ti_X9_hasDays : Cond.instanceMethod yX9_hasDays ∈ wT := wT_in (tb_in 875 (by decide +kernel)) rfl
theorem tc_X9_hasDays : Cond.code yX9_hasDays cX9_hasDays 2 (some .boolean) ∈ wT := wT_in (tb_in 876 (by decide +kernel)) rfl
theorem lm_X9_170 : Cond.methodLink RX9 170 yX9_breaksDepth ∈ wT := wT_in (tb_in 877 (by decide +kernel)) rfl
theorem ti_X9_breaksDepth : Cond.instanceMethod yX9_breaksDepth ∈ wT := wT_in (tb_in 879 (by decide +kernel)) rfl
theorem tc_X9_breaksDepth : Cond.code yX9_breaksDepth cX9_breaksDepth 7 (some .boolean) ∈ wT := wT_in (tb_in 880 (by decide +kernel)) rfl
theorem lm_X9_173 : Cond.methodLink RX9 173 yX9_breaksRest ∈ wT := wT_in (tb_in 881 (by decide +kernel)) rfl
theorem ti_X9_breaksRest : Cond.instanceMethod yX9_breaksRest ∈ wT := wT_in (tb_in 883 (by decide +kernel)) rfl
theorem tc_X9_breaksRest : Cond.code yX9_breaksRest cX9_breaksRest 9 (some .boolean) ∈ wT := wT_in (tb_in 884 (by decide +kernel)) rfl
theorem lm_X9_176 : Cond.methodLink RX9 176 yX9_breaksWays ∈ wT := wT_in (tb_in 885 (by decide +kernel)) rfl
theorem ti_X9_breaksWays : Cond.instanceMethod yX9_breaksWays ∈ wT := wT_in (tb_in 887 (by decide +kernel)) rfl
theorem tc_X9_breaksWays : Cond.code yX9_breaksWays cX9_breaksWays 10 (some .boolean) ∈ wT := wT_in (tb_in 888 (by decide +kernel)) rfl
theorem lm_X9_146 : Cond.methodLink RX9 146 yX9_shutOn ∈ wT := wT_in (tb_in 889 (by decide +kernel)) rfl
theorem ti_X9_shutOn : Cond.instanceMethod yX9_shutOn ∈ wT := wT_in (tb_in 891 (by decide +kernel)) rfl
theorem tc_X9_shutOn : Cond.code yX9_shutOn cX9_shutOn 8 (some .long) ∈ wT := wT_in (tb_in 892 (by decide +kernel)) rfl
theorem lm_X9_150 : Cond.methodLink RX9 150 yX9_minutesOf ∈ wT := wT_in (tb_in 893 (by decide +kernel)) rfl
theorem ti_X9_minutesOf : Cond.instanceMethod yX9_minutesOf ∈ wT := wT_in (tb_in 895 (by decide +kernel)) rfl
theorem tc_X9_minutesOf : Cond.code yX9_minutesOf cX9_minutesOf 9 (some .int) ∈ wT := wT_in (tb_in 896 (by decide +kernel)) rfl
theorem lm_L_44 : Cond.methodLink RL 44 yX9_why ∈ wT := wT_in (tb_in 898 (by decide +kernel)) rfl
theorem ti_X9_why : Cond.instanceMethod yX9_why ∈ wT := wT_in (tb_in 899 (by decide +kernel)) rfl
theorem tl_X9_why : Cond.selects RX9 yX9_why yX9_why ∈ wT := wT_in (tb_in 900 (by decide +kernel)) rfl
theorem tc_X9_why : Cond.code yX9_why cX9_why 2 (some .int) ∈ wT := wT_in (tb_in 901 (by decide +kernel)) rfl
theorem lm_L_48 : Cond.methodLink RL 48 yX9_first ∈ wT := wT_in (tb_in 902 (by decide +kernel)) rfl
theorem ti_X9_first : Cond.instanceMethod yX9_first ∈ wT := wT_in (tb_in 903 (by decide +kernel)) rfl
theorem tl_X9_first : Cond.selects RX9 yX9_first yX9_first ∈ wT := wT_in (tb_in 904 (by decide +kernel)) rfl
theorem tc_X9_first : Cond.code yX9_first cX9_first 5 (some .int) ∈ wT := wT_in (tb_in 905 (by decide +kernel)) rfl
theorem lm_L_52 : Cond.methodLink RL 52 yX9_permit ∈ wT := wT_in (tb_in 906 (by decide +kernel)) rfl
theorem ti_X9_permit : Cond.instanceMethod yX9_permit ∈ wT := wT_in (tb_in 907 (by decide +kernel)) rfl
theorem tl_X9_permit : Cond.selects RX9 yX9_permit yX9_permit ∈ wT := wT_in (tb_in 908 (by decide +kernel)) rfl
theorem tc_X9_permit : Cond.code yX9_permit cX9_permit 4 (some .int) ∈ wT := wT_in (tb_in 909 (by decide +kernel)) rfl
theorem lm_X9_190 : Cond.methodLink RX9 190 yX9_put ∈ wT := wT_in (tb_in 910 (by decide +kernel)) rfl
theorem ti_X9_put : Cond.instanceMethod yX9_put ∈ wT := wT_in (tb_in 912 (by decide +kernel)) rfl
theorem tc_X9_put : Cond.code yX9_put cX9_put 3 none ∈ wT := wT_in (tb_in 913 (by decide +kernel)) rfl
theorem lm_L_56 : Cond.methodLink RL 56 yX9_withdraw ∈ wT := wT_in (tb_in 914 (by decide +kernel)) rfl
theorem ti_X9_withdraw : Cond.instanceMethod yX9_withdraw ∈ wT := wT_in (tb_in 915 (by decide +kernel)) rfl
theorem tl_X9_withdraw : Cond.selects RX9 yX9_withdraw yX9_withdraw ∈ wT := wT_in (tb_in 916 (by decide +kernel)) rfl
theorem tc_X9_withdraw : Cond.code yX9_withdraw cX9_withdraw 2 (some .int) ∈ wT := wT_in (tb_in 917 (by decide +kernel)) rfl
theorem lm_X9_194 : Cond.methodLink RX9 194 yX9_draw ∈ wT := wT_in (tb_in 918 (by decide +kernel)) rfl
theorem ti_X9_draw : Cond.instanceMethod yX9_draw ∈ wT := wT_in (tb_in 920 (by decide +kernel)) rfl
theorem tc_X9_draw : Cond.code yX9_draw cX9_draw 2 none ∈ wT := wT_in (tb_in 921 (by decide +kernel)) rfl
theorem lm_L_60 : Cond.methodLink RL 60 yX9_day ∈ wT := wT_in (tb_in 922 (by decide +kernel)) rfl
theorem ti_X9_day : Cond.instanceMethod yX9_day ∈ wT := wT_in (tb_in 923 (by decide +kernel)) rfl
theorem tl_X9_day : Cond.selects RX9 yX9_day yX9_day ∈ wT := wT_in (tb_in 924 (by decide +kernel)) rfl
theorem tc_X9_day : Cond.code yX9_day cX9_day 4 (some .int) ∈ wT := wT_in (tb_in 925 (by decide +kernel)) rfl
theorem lm_L_64 : Cond.methodLink RL 64 yX9_over ∈ wT := wT_in (tb_in 926 (by decide +kernel)) rfl
theorem ti_X9_over : Cond.instanceMethod yX9_over ∈ wT := wT_in (tb_in 927 (by decide +kernel)) rfl
theorem tl_X9_over : Cond.selects RX9 yX9_over yX9_over ∈ wT := wT_in (tb_in 928 (by decide +kernel)) rfl
theorem tc_X9_over : Cond.code yX9_over cX9_over 4 (some .int) ∈ wT := wT_in (tb_in 929 (by decide +kernel)) rfl
theorem lm_X9_198 : Cond.methodLink RX9 198 yX9_moveAll ∈ wT := wT_in (tb_in 930 (by decide +kernel)) rfl
theorem ti_X9_moveAll : Cond.instanceMethod yX9_moveAll ∈ wT := wT_in (tb_in 932 (by decide +kernel)) rfl
theorem tc_X9_moveAll : Cond.code yX9_moveAll cX9_moveAll 4 (some .int) ∈ wT := wT_in (tb_in 933 (by decide +kernel)) rfl
theorem lm_L_68 : Cond.methodLink RL 68 yX9_crash ∈ wT := wT_in (tb_in 934 (by decide +kernel)) rfl
theorem ti_X9_crash : Cond.instanceMethod yX9_crash ∈ wT := wT_in (tb_in 935 (by decide +kernel)) rfl
theorem tl_X9_crash : Cond.selects RX9 yX9_crash yX9_crash ∈ wT := wT_in (tb_in 936 (by decide +kernel)) rfl
theorem tc_X9_crash : Cond.code yX9_crash cX9_crash 2 (some .int) ∈ wT := wT_in (tb_in 937 (by decide +kernel)) rfl
theorem lm_L_72 : Cond.methodLink RL 72 yX9_join ∈ wT := wT_in (tb_in 938 (by decide +kernel)) rfl
theorem ti_X9_join : Cond.instanceMethod yX9_join ∈ wT := wT_in (tb_in 939 (by decide +kernel)) rfl
theorem tl_X9_join : Cond.selects RX9 yX9_join yX9_join ∈ wT := wT_in (tb_in 940 (by decide +kernel)) rfl
theorem tc_X9_join : Cond.code yX9_join cX9_join 4 (some .int) ∈ wT := wT_in (tb_in 941 (by decide +kernel)) rfl
theorem lm_L_76 : Cond.methodLink RL 76 yX9_about ∈ wT := wT_in (tb_in 942 (by decide +kernel)) rfl
theorem ti_X9_about : Cond.instanceMethod yX9_about ∈ wT := wT_in (tb_in 943 (by decide +kernel)) rfl
theorem tl_X9_about : Cond.selects RX9 yX9_about yX9_about ∈ wT := wT_in (tb_in 944 (by decide +kernel)) rfl
theorem tc_X9_about : Cond.code yX9_about cX9_about 3 (some .int) ∈ wT := wT_in (tb_in 945 (by decide +kernel)) rfl
theorem lm_X9_205 : Cond.methodLink RX9 205 yX9_cost ∈ wT := wT_in (tb_in 946 (by decide +kernel)) rfl
theorem ti_X9_cost : Cond.instanceMethod yX9_cost ∈ wT := wT_in (tb_in 948 (by decide +kernel)) rfl
theorem tc_X9_cost : Cond.code yX9_cost cX9_cost 2 (some .int) ∈ wT := wT_in (tb_in 949 (by decide +kernel)) rfl
theorem lm_X9_202 : Cond.methodLink RX9 202 yX9_ranks ∈ wT := wT_in (tb_in 950 (by decide +kernel)) rfl
theorem ti_X9_ranks : Cond.instanceMethod yX9_ranks ∈ wT := wT_in (tb_in 952 (by decide +kernel)) rfl
theorem tc_X9_ranks : Cond.code yX9_ranks cX9_ranks 4 (some .int) ∈ wT := wT_in (tb_in 953 (by decide +kernel)) rfl
theorem lm_X9_208 : Cond.methodLink RX9 208 yX9_pays ∈ wT := wT_in (tb_in 954 (by decide +kernel)) rfl
theorem ti_X9_pays : Cond.instanceMethod yX9_pays ∈ wT := wT_in (tb_in 956 (by decide +kernel)) rfl
theorem tc_X9_pays : Cond.code yX9_pays cX9_pays 9 (some .int) ∈ wT := wT_in (tb_in 957 (by decide +kernel)) rfl
theorem lm_X9_211 : Cond.methodLink RX9 211 yX9_delay ∈ wT := wT_in (tb_in 958 (by decide +kernel)) rfl
theorem ti_X9_delay : Cond.instanceMethod yX9_delay ∈ wT := wT_in (tb_in 960 (by decide +kernel)) rfl
theorem tc_X9_delay : Cond.code yX9_delay cX9_delay 2 (some .int) ∈ wT := wT_in (tb_in 961 (by decide +kernel)) rfl
theorem lm_L_80 : Cond.methodLink RL 80 yX9_lanes ∈ wT := wT_in (tb_in 962 (by decide +kernel)) rfl
theorem ti_X9_lanes : Cond.instanceMethod yX9_lanes ∈ wT := wT_in (tb_in 963 (by decide +kernel)) rfl
theorem tl_X9_lanes : Cond.selects RX9 yX9_lanes yX9_lanes ∈ wT := wT_in (tb_in 964 (by decide +kernel)) rfl
theorem tc_X9_lanes : Cond.code yX9_lanes cX9_lanes 3 (some .int) ∈ wT := wT_in (tb_in 965 (by decide +kernel)) rfl
theorem lm_L_84 : Cond.methodLink RL 84 yX9_way ∈ wT := wT_in (tb_in 966 (by decide +kernel)) rfl
theorem ti_X9_way : Cond.instanceMethod yX9_way ∈ wT := wT_in (tb_in 967 (by decide +kernel)) rfl
theorem tl_X9_way : Cond.selects RX9 yX9_way yX9_way ∈ wT := wT_in (tb_in 968 (by decide +kernel)) rfl
theorem tc_X9_way : Cond.code yX9_way cX9_way 4 (some .int) ∈ wT := wT_in (tb_in 969 (by decide +kernel)) rfl
theorem lm_L_88 : Cond.methodLink RL 88 yX9_shut ∈ wT := wT_in (tb_in 970 (by decide +kernel)) rfl
theorem ti_X9_shut : Cond.instanceMethod yX9_shut ∈ wT := wT_in (tb_in 971 (by decide +kernel)) rfl
theorem tl_X9_shut : Cond.selects RX9 yX9_shut yX9_shut ∈ wT := wT_in (tb_in 972 (by decide +kernel)) rfl
theorem tc_X9_shut : Cond.code yX9_shut cX9_shut 4 (some .int) ∈ wT := wT_in (tb_in 973 (by decide +kernel)) rfl
theorem lm_L_93 : Cond.methodLink RL 93 yX9_price ∈ wT := wT_in (tb_in 974 (by decide +kernel)) rfl
theorem ti_X9_price : Cond.instanceMethod yX9_price ∈ wT := wT_in (tb_in 975 (by decide +kernel)) rfl
theorem tl_X9_price : Cond.selects RX9 yX9_price yX9_price ∈ wT := wT_in (tb_in 976 (by decide +kernel)) rfl
theorem tc_X9_price : Cond.code yX9_price cX9_price 3 (some .int) ∈ wT := wT_in (tb_in 977 (by decide +kernel)) rfl
theorem lm_L_97 : Cond.methodLink RL 97 yX9_better ∈ wT := wT_in (tb_in 978 (by decide +kernel)) rfl
theorem ti_X9_better : Cond.instanceMethod yX9_better ∈ wT := wT_in (tb_in 979 (by decide +kernel)) rfl
theorem tl_X9_better : Cond.selects RX9 yX9_better yX9_better ∈ wT := wT_in (tb_in 980 (by decide +kernel)) rfl
theorem tc_X9_better : Cond.code yX9_better cX9_better 2 (some .int) ∈ wT := wT_in (tb_in 981 (by decide +kernel)) rfl
theorem lm_X9_217 : Cond.methodLink RX9 217 yX9_betters ∈ wT := wT_in (tb_in 982 (by decide +kernel)) rfl
theorem ti_X9_betters : Cond.instanceMethod yX9_betters ∈ wT := wT_in (tb_in 984 (by decide +kernel)) rfl
theorem tc_X9_betters : Cond.code yX9_betters cX9_betters 4 (some .boolean) ∈ wT := wT_in (tb_in 985 (by decide +kernel)) rfl
theorem lm_X9_214 : Cond.methodLink RX9 214 yX9_othersKeep ∈ wT := wT_in (tb_in 986 (by decide +kernel)) rfl
theorem ti_X9_othersKeep : Cond.instanceMethod yX9_othersKeep ∈ wT := wT_in (tb_in 988 (by decide +kernel)) rfl
theorem tc_X9_othersKeep : Cond.code yX9_othersKeep cX9_othersKeep 3 (some .boolean) ∈ wT := wT_in (tb_in 989 (by decide +kernel)) rfl
theorem lm_L_101 : Cond.methodLink RL 101 yX9_book ∈ wT := wT_in (tb_in 990 (by decide +kernel)) rfl
theorem ti_X9_book : Cond.instanceMethod yX9_book ∈ wT := wT_in (tb_in 991 (by decide +kernel)) rfl
theorem tl_X9_book : Cond.selects RX9 yX9_book yX9_book ∈ wT := wT_in (tb_in 992 (by decide +kernel)) rfl
theorem tc_X9_book : Cond.code yX9_book cX9_book 6 (some .int) ∈ wT := wT_in (tb_in 993 (by decide +kernel)) rfl
theorem lm_L_105 : Cond.methodLink RL 105 yX9_count ∈ wT := wT_in (tb_in 994 (by decide +kernel)) rfl
theorem ti_X9_count : Cond.instanceMethod yX9_count ∈ wT := wT_in (tb_in 995 (by decide +kernel)) rfl
theorem tl_X9_count : Cond.selects RX9 yX9_count yX9_count ∈ wT := wT_in (tb_in 996 (by decide +kernel)) rfl
theorem tc_X9_count : Cond.code yX9_count cX9_count 4 (some .int) ∈ wT := wT_in (tb_in 997 (by decide +kernel)) rfl
theorem tl_X8_refusalOf : Cond.selects RX8 yX8_refusalOf yX8_refusalOf ∈ wT := wT_in (List.mem_append_left _ (by decide +kernel)) rfl
theorem tl_X8_brokenFrom : Cond.selects RX8 yX8_brokenFrom yX8_brokenFrom ∈ wT := wT_in (List.mem_append_left _ (by decide +kernel)) rfl
theorem tl_X3_isLateNotice : Cond.selects RX3 yX3_isLateNotice yX3_isLateNotice ∈ wT := wT_in (List.mem_append_left _ (by decide +kernel)) rfl
theorem tl_X3_found : Cond.selects RX3 yX3_found yX3_found ∈ wT := wT_in (List.mem_append_left _ (by decide +kernel)) rfl
theorem tl_X3_isPastEnd : Cond.selects RX3 yX3_isPastEnd yX3_isPastEnd ∈ wT := wT_in (List.mem_append_left _ (by decide +kernel)) rfl
theorem tl_X3_isOnFeast : Cond.selects RX3 yX3_isOnFeast yX3_isOnFeast ∈ wT := wT_in (List.mem_append_left _ (by decide +kernel)) rfl
theorem tl_X0_lanesAddedBy : Cond.selects RX0 yX0_lanesAddedBy yX0_lanesAddedBy ∈ wT := wT_in (List.mem_append_left _ (by decide +kernel)) rfl
theorem tl_X0_lanesOf : Cond.selects RX0 yX0_lanesOf yX0_lanesOf ∈ wT := wT_in (List.mem_append_left _ (by decide +kernel)) rfl
theorem tl_X3_lacksLanes : Cond.selects RX3 yX3_lacksLanes yX3_lacksLanes ∈ wT := wT_in (List.mem_append_left _ (by decide +kernel)) rfl
theorem tl_X3_meetsDepth : Cond.selects RX3 yX3_meetsDepth yX3_meetsDepth ∈ wT := wT_in (List.mem_append_left _ (by decide +kernel)) rfl
theorem tl_X3_breaksRest : Cond.selects RX3 yX3_breaksRest yX3_breaksRest ∈ wT := wT_in (List.mem_append_left _ (by decide +kernel)) rfl
theorem tl_X3_blocksWay : Cond.selects RX3 yX3_blocksWay yX3_blocksWay ∈ wT := wT_in (List.mem_append_left _ (by decide +kernel)) rfl
theorem tl_X3_closedBy : Cond.selects RX3 yX3_closedBy yX3_closedBy ∈ wT := wT_in (List.mem_append_left _ (by decide +kernel)) rfl
theorem tl_X4_moveOn : Cond.selects RX4 yX4_moveOn yX4_moveOn ∈ wT := wT_in (List.mem_append_left _ (by decide +kernel)) rfl
theorem tl_X4_fits : Cond.selects RX4 yX4_fits yX4_fits ∈ wT := wT_in (List.mem_append_left _ (by decide +kernel)) rfl
theorem tl_X4_breaksBeside : Cond.selects RX4 yX4_breaksBeside yX4_breaksBeside ∈ wT := wT_in (List.mem_append_left _ (by decide +kernel)) rfl
theorem tl_X9_isPiece : Cond.selects RX9 yX9_isPiece yX9_isPiece ∈ wT := wT_in (List.mem_append_left _ (by decide +kernel)) rfl
theorem tl_X9_isWork : Cond.selects RX9 yX9_isWork yX9_isWork ∈ wT := wT_in (List.mem_append_left _ (by decide +kernel)) rfl
theorem tl_X9_isOn : Cond.selects RX9 yX9_isOn yX9_isOn ∈ wT := wT_in (List.mem_append_left _ (by decide +kernel)) rfl
theorem tl_X9_refusal : Cond.selects RX9 yX9_refusal yX9_refusal ∈ wT := wT_in (List.mem_append_left _ (by decide +kernel)) rfl
theorem tl_X9_look : Cond.selects RX9 yX9_look yX9_look ∈ wT := wT_in (List.mem_append_left _ (by decide +kernel)) rfl
theorem tl_X9_rule : Cond.selects RX9 yX9_rule yX9_rule ∈ wT := wT_in (List.mem_append_left _ (by decide +kernel)) rfl
theorem tl_X9_notice : Cond.selects RX9 yX9_notice yX9_notice ∈ wT := wT_in (List.mem_append_left _ (by decide +kernel)) rfl
theorem tl_X9_lowest : Cond.selects RX9 yX9_lowest yX9_lowest ∈ wT := wT_in (List.mem_append_left _ (by decide +kernel)) rfl
theorem tl_X9_broken : Cond.selects RX9 yX9_broken yX9_broken ∈ wT := wT_in (List.mem_append_left _ (by decide +kernel)) rfl
theorem tl_X9_breaksFeast : Cond.selects RX9 yX9_breaksFeast yX9_breaksFeast ∈ wT := wT_in (List.mem_append_left _ (by decide +kernel)) rfl
theorem tl_X9_breaksLanes : Cond.selects RX9 yX9_breaksLanes yX9_breaksLanes ∈ wT := wT_in (List.mem_append_left _ (by decide +kernel)) rfl
theorem tl_X9_taken : Cond.selects RX9 yX9_taken yX9_taken ∈ wT := wT_in (List.mem_append_left _ (by decide +kernel)) rfl
theorem tl_X9_lasts : Cond.selects RX9 yX9_lasts yX9_lasts ∈ wT := wT_in (List.mem_append_left _ (by decide +kernel)) rfl
theorem tl_X9_counts : Cond.selects RX9 yX9_counts yX9_counts ∈ wT := wT_in (List.mem_append_left _ (by decide +kernel)) rfl
theorem tl_X9_hasDays : Cond.selects RX9 yX9_hasDays yX9_hasDays ∈ wT := wT_in (List.mem_append_left _ (by decide +kernel)) rfl
theorem tl_X9_breaksDepth : Cond.selects RX9 yX9_breaksDepth yX9_breaksDepth ∈ wT := wT_in (List.mem_append_left _ (by decide +kernel)) rfl
theorem tl_X9_breaksRest : Cond.selects RX9 yX9_breaksRest yX9_breaksRest ∈ wT := wT_in (List.mem_append_left _ (by decide +kernel)) rfl
theorem tl_X9_breaksWays : Cond.selects RX9 yX9_breaksWays yX9_breaksWays ∈ wT := wT_in (List.mem_append_left _ (by decide +kernel)) rfl
theorem tl_X9_shutOn : Cond.selects RX9 yX9_shutOn yX9_shutOn ∈ wT := wT_in (List.mem_append_left _ (by decide +kernel)) rfl
theorem tl_X9_minutesOf : Cond.selects RX9 yX9_minutesOf yX9_minutesOf ∈ wT := wT_in (List.mem_append_left _ (by decide +kernel)) rfl
theorem tl_X9_put : Cond.selects RX9 yX9_put yX9_put ∈ wT := wT_in (List.mem_append_left _ (by decide +kernel)) rfl
theorem tl_X9_draw : Cond.selects RX9 yX9_draw yX9_draw ∈ wT := wT_in (List.mem_append_left _ (by decide +kernel)) rfl
theorem tl_X9_moveAll : Cond.selects RX9 yX9_moveAll yX9_moveAll ∈ wT := wT_in (List.mem_append_left _ (by decide +kernel)) rfl
theorem tl_X9_cost : Cond.selects RX9 yX9_cost yX9_cost ∈ wT := wT_in (List.mem_append_left _ (by decide +kernel)) rfl
theorem tl_X9_ranks : Cond.selects RX9 yX9_ranks yX9_ranks ∈ wT := wT_in (List.mem_append_left _ (by decide +kernel)) rfl
theorem tl_X9_pays : Cond.selects RX9 yX9_pays yX9_pays ∈ wT := wT_in (List.mem_append_left _ (by decide +kernel)) rfl
theorem tl_X9_delay : Cond.selects RX9 yX9_delay yX9_delay ∈ wT := wT_in (List.mem_append_left _ (by decide +kernel)) rfl
theorem tl_X9_betters : Cond.selects RX9 yX9_betters yX9_betters ∈ wT := wT_in (List.mem_append_left _ (by decide +kernel)) rfl
theorem tl_X9_othersKeep : Cond.selects RX9 yX9_othersKeep yX9_othersKeep ∈ wT := wT_in (List.mem_append_left _ (by decide +kernel)) rfl
theorem hi_X0 : ∀ w ∈ u_ws RX0 TX0 9, w ∈ wT := by decide +kernel
theorem hi_X1 : ∀ w ∈ u_ws RX1 TX1 3, w ∈ wT := by decide +kernel
theorem hi_X2 : ∀ w ∈ u_ws RX2 TX2 6, w ∈ wT := by decide +kernel
theorem hi_X3 : ∀ w ∈ u_ws RX3 TX3 5, w ∈ wT := by decide +kernel
theorem hi_X4 : ∀ w ∈ u_ws RX4 TX4 3, w ∈ wT := by decide +kernel
theorem hi_X5 : ∀ w ∈ u_ws RX5 TX5 8, w ∈ wT := by decide +kernel
theorem hi_X6 : ∀ w ∈ u_ws RX6 TX6 2, w ∈ wT := by decide +kernel
theorem hi_X7 : ∀ w ∈ u_ws RX7 TX7 16, w ∈ wT := by decide +kernel
theorem hi_X8 : ∀ w ∈ u_ws RX8 TX8 8, w ∈ wT := by decide +kernel
theorem hi_X9 : ∀ w ∈ u_ws RX9 TX9 34, w ∈ wT := by decide +kernel
abbrev wsX0_init : List Cond := .code yX0_init cX0_init 2 none :: wT
abbrev wsX7_stands : List Cond := .code yX7_stands cX7_stands 1 (some .boolean) :: wT
abbrev wsX0_gather : List Cond := .code yX0_gather cX0_gather 7 none :: wT
abbrev wsX0_gatherAll : List Cond := .code yX0_gatherAll cX0_gatherAll 1 none :: wT
abbrev wsX0_lanesOf : List Cond := .code yX0_lanesOf cX0_lanesOf 5 (some .int) :: wT
abbrev wsX0_survey : List Cond := .code yX0_survey cX0_survey 6 (some .long) :: wT
abbrev wsX0_lanesAddedBy : List Cond := .code yX0_lanesAddedBy cX0_lanesAddedBy 5 (some .int) :: wT
abbrev wsX7_uses : List Cond := .code yX7_uses cX7_uses 2 (some .boolean) :: wT
abbrev wsX0_surveyBeside : List Cond := .code yX0_surveyBeside cX0_surveyBeside 10 none :: wT
abbrev wsX1_init : List Cond := .code yX1_init cX1_init 1 none :: wT
abbrev wsX2_init : List Cond := .code yX2_init cX2_init 1 none :: wT
abbrev wsX3_init : List Cond := .code yX3_init cX3_init 4 none :: wT
abbrev wsX3_lookAt : List Cond := .code yX3_lookAt cX3_lookAt 3 none :: wT
abbrev wsX7_lastFrom : List Cond := .code yX7_lastFrom cX7_lastFrom 2 (some .int) :: wT
abbrev wsX7_notice : List Cond := .code yX7_notice cX7_notice 1 (some .int) :: wT
abbrev wsX3_found : List Cond := .code yX3_found cX3_found 3 (some .boolean) :: wT
abbrev wsX3_isLateNotice : List Cond := .code yX3_isLateNotice cX3_isLateNotice 3 (some .boolean) :: wT
abbrev wsX3_isPastEnd : List Cond := .code yX3_isPastEnd cX3_isPastEnd 3 (some .boolean) :: wT
abbrev wsX3_isOnFeast : List Cond := .code yX3_isOnFeast cX3_isOnFeast 6 (some .boolean) :: wT
abbrev wsX3_lacksLanes : List Cond := .code yX3_lacksLanes cX3_lacksLanes 7 (some .boolean) :: wT
abbrev wsX3_leastShared : List Cond := .code yX3_leastShared cX3_leastShared 3 (some .int) :: wT
abbrev wsX3_meetsDepth : List Cond := .code yX3_meetsDepth cX3_meetsDepth 10 (some .boolean) :: wT
abbrev wsX3_rests : List Cond := .code yX3_rests cX3_rests 3 (some .boolean) :: wT
abbrev wsX3_breaksRest : List Cond := .code yX3_breaksRest cX3_breaksRest 9 (some .boolean) :: wT
abbrev wsX3_closedBy : List Cond := .code yX3_closedBy cX3_closedBy 8 (some .long) :: wT
abbrev wsX6_fewest : List Cond := .code yX6_fewest cX6_fewest 10 (some .int) :: wT
abbrev wsX6_isOpen : List Cond := .code yX6_isOpen cX6_isOpen 5 (some .boolean) :: wT
abbrev wsX3_blocksWay : List Cond := .code yX3_blocksWay cX3_blocksWay 15 (some .boolean) :: wT
abbrev wsX3_broken : List Cond := .code yX3_broken cX3_broken 5 (some .int) :: wT
abbrev wsX4_init : List Cond := .code yX4_init cX4_init 3 none :: wT
abbrev wsX7_placeAt : List Cond := .code yX7_placeAt cX7_placeAt 2 none :: wT
abbrev wsX5_hasWork : List Cond := .code yX5_hasWork cX5_hasWork 2 (some .boolean) :: wT
abbrev wsX5_drop : List Cond := .code yX5_drop cX5_drop 2 none :: wT
abbrev wsX4_moveOn : List Cond := .code yX4_moveOn cX4_moveOn 3 none :: wT
abbrev wsX4_moveBroken : List Cond := .code yX4_moveBroken cX4_moveBroken 4 (some .int) :: wT
abbrev wsX7_delay : List Cond := .code yX7_delay cX7_delay 1 (some .int) :: wT
abbrev wsX4_breaksBeside : List Cond := .code yX4_breaksBeside cX4_breaksBeside 4 (some .boolean) :: wT
abbrev wsX4_fits : List Cond := .code yX4_fits cX4_fits 6 (some .boolean) :: wT
abbrev wsX5_permitFrom : List Cond := .code yX5_permitFrom cX5_permitFrom 3 none :: wT
abbrev wsX4_betterOne : List Cond := .code yX4_betterOne cX4_betterOne 4 (some .boolean) :: wT
abbrev wsX7_init : List Cond := .code yX7_init cX7_init 2 none :: wT
abbrev wsX5_init : List Cond := .code yX5_init cX5_init 2 none :: wT
abbrev wsX5_hasPiece : List Cond := .code yX5_hasPiece cX5_hasPiece 2 (some .boolean) :: wT
abbrev wsX5_hasPair : List Cond := .code yX5_hasPair cX5_hasPair 2 (some .boolean) :: wT
abbrev wsX5_worksIn : List Cond := .code yX5_worksIn cX5_worksIn 4 (some .int) :: wT
abbrev wsX5_passDay : List Cond := .code yX5_passDay cX5_passDay 3 none :: wT
abbrev wsX5_ranks : List Cond := .code yX5_ranks cX5_ranks 4 (some .int) :: wT
abbrev wsX5_costAlone : List Cond := .code yX5_costAlone cX5_costAlone 2 (some .int) :: wT
abbrev wsX5_fine : List Cond := .code yX5_fine cX5_fine 2 (some .int) :: wT
abbrev wsX5_pays : List Cond := .code yX5_pays cX5_pays 6 (some .int) :: wT
abbrev wsX7_isBookedOn : List Cond := .code yX7_isBookedOn cX7_isBookedOn 2 (some .boolean) :: wT
abbrev wsX5_bookedAhead : List Cond := .code yX5_bookedAhead cX5_bookedAhead 6 (some .int) :: wT
abbrev wsX6_init : List Cond := .code yX6_init cX6_init 2 none :: wT
abbrev wsX7_take : List Cond := .code yX7_take cX7_take 3 none :: wT
abbrev wsX7_isOpen : List Cond := .code yX7_isOpen cX7_isOpen 1 (some .boolean) :: wT
abbrev wsX7_canBeJoined : List Cond := .code yX7_canBeJoined cX7_canBeJoined 1 (some .boolean) :: wT
abbrev wsX8_init : List Cond := .code yX8_init cX8_init 1 none :: wT
abbrev wsX8_within : List Cond := .code yX8_within cX8_within 3 (some .boolean) :: wT
abbrev wsX8_areCrossings : List Cond := .code yX8_areCrossings cX8_areCrossings 2 (some .boolean) :: wT
abbrev wsX8_piece : List Cond := .code yX8_piece cX8_piece 7 (some .int) :: wT
abbrev wsX8_pair : List Cond := .code yX8_pair cX8_pair 5 (some .int) :: wT
abbrev wsX8_isDay : List Cond := .code yX8_isDay cX8_isDay 1 (some .boolean) :: wT
abbrev wsX8_feast : List Cond := .code yX8_feast cX8_feast 4 (some .int) :: wT
abbrev wsX8_work : List Cond := .code yX8_work cX8_work 5 (some .int) :: wT
abbrev wsX8_more : List Cond := .code yX8_more cX8_more 4 (some .int) :: wT
abbrev wsX8_refusalOf : List Cond := .code yX8_refusalOf cX8_refusalOf 4 (some .int) :: wT
abbrev wsX8_brokenFrom : List Cond := .code yX8_brokenFrom cX8_brokenFrom 4 (some .int) :: wT
abbrev wsX8_may : List Cond := .code yX8_may cX8_may 4 (some .int) :: wT
abbrev wsX8_why : List Cond := .code yX8_why cX8_why 2 (some .int) :: wT
abbrev wsX8_first : List Cond := .code yX8_first cX8_first 7 (some .int) :: wT
abbrev wsX8_permit : List Cond := .code yX8_permit cX8_permit 5 (some .int) :: wT
abbrev wsX8_withdraw : List Cond := .code yX8_withdraw cX8_withdraw 2 (some .int) :: wT
abbrev wsX8_day : List Cond := .code yX8_day cX8_day 3 (some .int) :: wT
abbrev wsX8_over : List Cond := .code yX8_over cX8_over 5 (some .int) :: wT
abbrev wsX8_crash : List Cond := .code yX8_crash cX8_crash 3 (some .int) :: wT
abbrev wsX8_join : List Cond := .code yX8_join cX8_join 5 (some .int) :: wT
abbrev wsX8_about : List Cond := .code yX8_about cX8_about 4 (some .int) :: wT
abbrev wsX8_lanes : List Cond := .code yX8_lanes cX8_lanes 3 (some .int) :: wT
abbrev wsX8_way : List Cond := .code yX8_way cX8_way 3 (some .int) :: wT
abbrev wsX8_shut : List Cond := .code yX8_shut cX8_shut 6 (some .int) :: wT
abbrev wsX8_price : List Cond := .code yX8_price cX8_price 3 (some .int) :: wT
abbrev wsX8_better : List Cond := .code yX8_better cX8_better 2 (some .int) :: wT
abbrev wsX8_book : List Cond := .code yX8_book cX8_book 4 (some .int) :: wT
abbrev wsX8_count : List Cond := .code yX8_count cX8_count 2 (some .int) :: wT
abbrev wsX9_init : List Cond := .code yX9_init cX9_init 1 none :: wT
abbrev wsX9_within : List Cond := .code yX9_within cX9_within 3 (some .boolean) :: wT
abbrev wsX9_piece : List Cond := .code yX9_piece cX9_piece 6 (some .int) :: wT
abbrev wsX9_pair : List Cond := .code yX9_pair cX9_pair 4 (some .int) :: wT
abbrev wsX9_feast : List Cond := .code yX9_feast cX9_feast 4 (some .int) :: wT
abbrev wsX9_isPiece : List Cond := .code yX9_isPiece cX9_isPiece 2 (some .boolean) :: wT
abbrev wsX9_isWork : List Cond := .code yX9_isWork cX9_isWork 2 (some .boolean) :: wT
abbrev wsX9_work : List Cond := .code yX9_work cX9_work 5 (some .int) :: wT
abbrev wsX9_isOn : List Cond := .code yX9_isOn cX9_isOn 3 (some .boolean) :: wT
abbrev wsX9_more : List Cond := .code yX9_more cX9_more 3 (some .int) :: wT
abbrev wsX9_hasDays : List Cond := .code yX9_hasDays cX9_hasDays 2 (some .boolean) :: wT
abbrev wsX9_counts : List Cond := .code yX9_counts cX9_counts 4 (some .boolean) :: wT
abbrev wsX9_lasts : List Cond := .code yX9_lasts cX9_lasts 6 (some .boolean) :: wT
abbrev wsX9_taken : List Cond := .code yX9_taken cX9_taken 11 (some .int) :: wT
abbrev wsX9_shutOn : List Cond := .code yX9_shutOn cX9_shutOn 8 (some .long) :: wT
abbrev wsX9_minutesOf : List Cond := .code yX9_minutesOf cX9_minutesOf 9 (some .int) :: wT
abbrev wsX9_broken : List Cond := .code yX9_broken cX9_broken 3 (some .boolean) :: wT
abbrev wsX9_notice : List Cond := .code yX9_notice cX9_notice 2 (some .int) :: wT
abbrev wsX9_breaksFeast : List Cond := .code yX9_breaksFeast cX9_breaksFeast 5 (some .boolean) :: wT
abbrev wsX9_breaksLanes : List Cond := .code yX9_breaksLanes cX9_breaksLanes 6 (some .boolean) :: wT
abbrev wsX9_breaksDepth : List Cond := .code yX9_breaksDepth cX9_breaksDepth 7 (some .boolean) :: wT
abbrev wsX9_breaksRest : List Cond := .code yX9_breaksRest cX9_breaksRest 9 (some .boolean) :: wT
abbrev wsX9_breaksWays : List Cond := .code yX9_breaksWays cX9_breaksWays 10 (some .boolean) :: wT
abbrev wsX9_lowest : List Cond := .code yX9_lowest cX9_lowest 3 (some .int) :: wT
abbrev wsX9_rule : List Cond := .code yX9_rule cX9_rule 5 (some .int) :: wT
abbrev wsX9_refusal : List Cond := .code yX9_refusal cX9_refusal 2 (some .int) :: wT
abbrev wsX9_look : List Cond := .code yX9_look cX9_look 4 (some .int) :: wT
abbrev wsX9_may : List Cond := .code yX9_may cX9_may 3 (some .int) :: wT
abbrev wsX9_why : List Cond := .code yX9_why cX9_why 2 (some .int) :: wT
abbrev wsX9_first : List Cond := .code yX9_first cX9_first 5 (some .int) :: wT
abbrev wsX9_put : List Cond := .code yX9_put cX9_put 3 none :: wT
abbrev wsX9_permit : List Cond := .code yX9_permit cX9_permit 4 (some .int) :: wT
abbrev wsX9_draw : List Cond := .code yX9_draw cX9_draw 2 none :: wT
abbrev wsX9_withdraw : List Cond := .code yX9_withdraw cX9_withdraw 2 (some .int) :: wT
abbrev wsX9_day : List Cond := .code yX9_day cX9_day 4 (some .int) :: wT
abbrev wsX9_moveAll : List Cond := .code yX9_moveAll cX9_moveAll 4 (some .int) :: wT
abbrev wsX9_over : List Cond := .code yX9_over cX9_over 4 (some .int) :: wT
abbrev wsX9_crash : List Cond := .code yX9_crash cX9_crash 2 (some .int) :: wT
abbrev wsX9_join : List Cond := .code yX9_join cX9_join 4 (some .int) :: wT
abbrev wsX9_ranks : List Cond := .code yX9_ranks cX9_ranks 4 (some .int) :: wT
abbrev wsX9_cost : List Cond := .code yX9_cost cX9_cost 2 (some .int) :: wT
abbrev wsX9_pays : List Cond := .code yX9_pays cX9_pays 9 (some .int) :: wT
abbrev wsX9_delay : List Cond := .code yX9_delay cX9_delay 2 (some .int) :: wT
abbrev wsX9_about : List Cond := .code yX9_about cX9_about 3 (some .int) :: wT
abbrev wsX9_lanes : List Cond := .code yX9_lanes cX9_lanes 3 (some .int) :: wT
abbrev wsX9_way : List Cond := .code yX9_way cX9_way 4 (some .int) :: wT
abbrev wsX9_shut : List Cond := .code yX9_shut cX9_shut 4 (some .int) :: wT
abbrev wsX9_price : List Cond := .code yX9_price cX9_price 3 (some .int) :: wT
abbrev wsX9_othersKeep : List Cond := .code yX9_othersKeep cX9_othersKeep 3 (some .boolean) :: wT
abbrev wsX9_betters : List Cond := .code yX9_betters cX9_betters 4 (some .boolean) :: wT
abbrev wsX9_better : List Cond := .code yX9_better cX9_better 2 (some .int) :: wT
abbrev wsX9_book : List Cond := .code yX9_book cX9_book 6 (some .int) :: wT
abbrev wsX9_count : List Cond := .code yX9_count cX9_count 4 (some .int) :: wT
/-- Math.max, Math.min: their words -/
theorem mi_math : Cond.initialized "java/lang/Math" ∈ wT := wT_in (tb_in 11 (by decide +kernel)) rfl
theorem lq_L_7 : Cond.classLink RL 7 RX8 ∈ wT := wT_in (tb_in 12 (by decide +kernel)) rfl
theorem lj_X8 : Cond.instantiable RX8 8 ∈ wT := wT_in (tb_in 13 (by decide +kernel)) rfl
theorem lo_X8 : Cond.methodLink RX8 1 objectInit ∈ wT := wT_in (tb_in 17 (by decide +kernel)) rfl
theorem oi_inst : Cond.instanceMethod objectInit ∈ wT := wT_in (tb_in 18 (by decide +kernel)) rfl
theorem oi_code : Cond.code objectInit ⟨#[0xb1]⟩ 1 none ∈ wT := wT_in (tb_in 19 (by decide +kernel)) rfl
theorem lq_X8_7 : Cond.classLink RX8 7 RX5 ∈ wT := wT_in (tb_in 20 (by decide +kernel)) rfl
theorem lj_X5 : Cond.instantiable RX5 8 ∈ wT := wT_in (tb_in 21 (by decide +kernel)) rfl
theorem lo_X5 : Cond.methodLink RX5 3 objectInit ∈ wT := wT_in (tb_in 25 (by decide +kernel)) rfl
theorem lq_X5_9 : Cond.classLink RX5 9 RX2 ∈ wT := wT_in (tb_in 26 (by decide +kernel)) rfl
theorem ao_X2 : Cond.arrayOver (Jvm.ClassFile.FieldType.object "RoadWorks$Piece") ∈ lw_tbl := tb_in 27 (by decide +kernel)
theorem lq_X5_17 : Cond.classLink RX5 17 RX1 ∈ wT := wT_in (tb_in 28 (by decide +kernel)) rfl
theorem ao_X1 : Cond.arrayOver (Jvm.ClassFile.FieldType.object "RoadWorks$Pair") ∈ lw_tbl := tb_in 29 (by decide +kernel)
theorem lq_X5_23 : Cond.classLink RX5 23 RX7 ∈ wT := wT_in (tb_in 30 (by decide +kernel)) rfl
theorem ao_X7 : Cond.arrayOver (Jvm.ClassFile.FieldType.object "RoadWorks$Work") ∈ lw_tbl := tb_in 31 (by decide +kernel)
theorem lj_X2 : Cond.instantiable RX2 6 ∈ wT := wT_in (tb_in 32 (by decide +kernel)) rfl
theorem lo_X2 : Cond.methodLink RX2 1 objectInit ∈ wT := wT_in (tb_in 36 (by decide +kernel)) rfl
theorem ac_boolean : Cond.arrayClass .boolean ∈ wT := wT_in (tb_in 64 (by decide +kernel)) rfl
theorem lj_X1 : Cond.instantiable RX1 3 ∈ wT := wT_in (tb_in 65 (by decide +kernel)) rfl
theorem lo_X1 : Cond.methodLink RX1 1 objectInit ∈ wT := wT_in (tb_in 69 (by decide +kernel)) rfl
theorem lj_X7 : Cond.instantiable RX7 16 ∈ wT := wT_in (tb_in 83 (by decide +kernel)) rfl
theorem lo_X7 : Cond.methodLink RX7 3 objectInit ∈ wT := wT_in (tb_in 87 (by decide +kernel)) rfl
theorem ac_int : Cond.arrayClass .int ∈ wT := wT_in (tb_in 183 (by decide +kernel)) rfl
theorem lq_X8_16 : Cond.classLink RX8 16 RX0 ∈ wT := wT_in (tb_in 232 (by decide +kernel)) rfl
theorem lj_X0 : Cond.instantiable RX0 9 ∈ wT := wT_in (tb_in 233 (by decide +kernel)) rfl
theorem lo_X0 : Cond.methodLink RX0 3 objectInit ∈ wT := wT_in (tb_in 237 (by decide +kernel)) rfl
theorem lq_X0_25 : Cond.classLink RX0 25 "[[I" ∈ wT := wT_in (tb_in 238 (by decide +kernel)) rfl
theorem ao_rows : Cond.arrayOver (Jvm.ClassFile.FieldType.array Jvm.ClassFile.FieldType.int) ∈ lw_tbl := tb_in 239 (by decide +kernel)
theorem lq_X8_25 : Cond.classLink RX8 25 RX6 ∈ wT := wT_in (tb_in 273 (by decide +kernel)) rfl
theorem lj_X6 : Cond.instantiable RX6 2 ∈ wT := wT_in (tb_in 274 (by decide +kernel)) rfl
theorem lo_X6 : Cond.methodLink RX6 3 objectInit ∈ wT := wT_in (tb_in 278 (by decide +kernel)) rfl
theorem lq_X8_32 : Cond.classLink RX8 32 RX3 ∈ wT := wT_in (tb_in 286 (by decide +kernel)) rfl
theorem lj_X3 : Cond.instantiable RX3 5 ∈ wT := wT_in (tb_in 287 (by decide +kernel)) rfl
theorem lo_X3 : Cond.methodLink RX3 3 objectInit ∈ wT := wT_in (tb_in 291 (by decide +kernel)) rfl
theorem lq_X8_41 : Cond.classLink RX8 41 RX4 ∈ wT := wT_in (tb_in 310 (by decide +kernel)) rfl
theorem lj_X4 : Cond.instantiable RX4 3 ∈ wT := wT_in (tb_in 311 (by decide +kernel)) rfl
theorem lo_X4 : Cond.methodLink RX4 3 objectInit ∈ wT := wT_in (tb_in 315 (by decide +kernel)) rfl
theorem mm_X7_52 : Cond.methodLink RX7 52 Lib.Math.min.name ∈ wT := wT_in (tb_in 432 (by decide +kernel)) rfl
theorem ms_min : Cond.static Lib.Math.min.name ∈ wT := wT_in (tb_in 433 (by decide +kernel)) rfl
theorem mc_min : Cond.code Lib.Math.min.name Lib.Math.min.code 2 (some .int) ∈ wT := wT_in (tb_in 434 (by decide +kernel)) rfl
theorem mm_X0_97 : Cond.methodLink RX0 97 Lib.Math.min.name ∈ wT := wT_in (tb_in 463 (by decide +kernel)) rfl
theorem mm_X0_106 : Cond.methodLink RX0 106 Lib.Math.max.name ∈ wT := wT_in (tb_in 464 (by decide +kernel)) rfl
theorem ms_max : Cond.static Lib.Math.max.name ∈ wT := wT_in (tb_in 465 (by decide +kernel)) rfl
theorem mc_max : Cond.code Lib.Math.max.name Lib.Math.max.code 2 (some .int) ∈ wT := wT_in (tb_in 466 (by decide +kernel)) rfl
theorem mm_X3_143 : Cond.methodLink RX3 143 Lib.Math.max.name ∈ wT := wT_in (tb_in 480 (by decide +kernel)) rfl
theorem mm_X3_152 : Cond.methodLink RX3 152 Lib.Math.min.name ∈ wT := wT_in (tb_in 481 (by decide +kernel)) rfl
theorem lc_X6_29 : Cond.constant RX6 29 (1000000 : Int32) ∈ wT := wT_in (tb_in 513 (by decide +kernel)) rfl
theorem mm_X8_201 : Cond.methodLink RX8 201 Lib.Math.min.name ∈ wT := wT_in (tb_in 556 (by decide +kernel)) rfl
theorem mm_X5_95 : Cond.methodLink RX5 95 Lib.Math.max.name ∈ wT := wT_in (tb_in 599 (by decide +kernel)) rfl
theorem mm_X5_101 : Cond.methodLink RX5 101 Lib.Math.min.name ∈ wT := wT_in (tb_in 600 (by decide +kernel)) rfl
theorem lc_X8_264 : Cond.constant RX8 264 (1000000 : Int32) ∈ wT := wT_in (tb_in 645 (by decide +kernel)) rfl
theorem lq_L_10 : Cond.classLink RL 10 RX9 ∈ wT := wT_in (tb_in 680 (by decide +kernel)) rfl
theorem lj_X9 : Cond.instantiable RX9 34 ∈ wT := wT_in (tb_in 681 (by decide +kernel)) rfl
theorem lo_X9 : Cond.methodLink RX9 1 objectInit ∈ wT := wT_in (tb_in 685 (by decide +kernel)) rfl
theorem ac_long : Cond.arrayClass .long ∈ wT := wT_in (tb_in 789 (by decide +kernel)) rfl
theorem lc_X9_136 : Cond.constant RX9 136 (1000000 : Int32) ∈ wT := wT_in (tb_in 897 (by decide +kernel)) rfl
end
section
theorem dX0_init_0 : decode cX0_init 0 = .ok (.aload_n 0, 1) := by decide +kernel
theorem dX0_init_1 : decode cX0_init 1 = .ok (.invokespecial 3, 3) := by decide +kernel
theorem dX0_init_4 : decode cX0_init 4 = .ok (.aload_n 0, 1) := by decide +kernel
theorem dX0_init_5 : decode cX0_init 5 = .ok (.bipush 60, 2) := by decide +kernel
theorem dX0_init_7 : decode cX0_init 7 = .ok (.newarray .boolean, 2) := by decide +kernel
theorem dX0_init_9 : decode cX0_init 9 = .ok (.putfield 9, 3) := by decide +kernel
theorem dX0_init_12 : decode cX0_init 12 = .ok (.aload_n 0, 1) := by decide +kernel
theorem dX0_init_13 : decode cX0_init 13 = .ok (.bipush 60, 2) := by decide +kernel
theorem dX0_init_15 : decode cX0_init 15 = .ok (.newarray .int, 2) := by decide +kernel
theorem dX0_init_17 : decode cX0_init 17 = .ok (.putfield 15, 3) := by decide +kernel
theorem dX0_init_20 : decode cX0_init 20 = .ok (.aload_n 0, 1) := by decide +kernel
theorem dX0_init_21 : decode cX0_init 21 = .ok (.bipush 60, 2) := by decide +kernel
theorem dX0_init_23 : decode cX0_init 23 = .ok (.newarray .int, 2) := by decide +kernel
theorem dX0_init_25 : decode cX0_init 25 = .ok (.putfield 19, 3) := by decide +kernel
theorem dX0_init_28 : decode cX0_init 28 = .ok (.aload_n 0, 1) := by decide +kernel
theorem dX0_init_29 : decode cX0_init 29 = .ok (.bipush 40, 2) := by decide +kernel
theorem dX0_init_31 : decode cX0_init 31 = .ok (.newarray .int, 2) := by decide +kernel
theorem dX0_init_33 : decode cX0_init 33 = .ok (.putfield 22, 3) := by decide +kernel
theorem dX0_init_36 : decode cX0_init 36 = .ok (.aload_n 0, 1) := by decide +kernel
theorem dX0_init_37 : decode cX0_init 37 = .ok (.iconst 4, 1) := by decide +kernel
theorem dX0_init_38 : decode cX0_init 38 = .ok (.sipush 400, 3) := by decide +kernel
theorem dX0_init_41 : decode cX0_init 41 = .ok (.multianewarray 25 2, 4) := by decide +kernel
theorem dX0_init_45 : decode cX0_init 45 = .ok (.putfield 27, 3) := by decide +kernel
theorem dX0_init_48 : decode cX0_init 48 = .ok (.aload_n 0, 1) := by decide +kernel
theorem dX0_init_49 : decode cX0_init 49 = .ok (.sipush 400, 3) := by decide +kernel
theorem dX0_init_52 : decode cX0_init 52 = .ok (.newarray .int, 2) := by decide +kernel
theorem dX0_init_54 : decode cX0_init 54 = .ok (.putfield 30, 3) := by decide +kernel
theorem dX0_init_57 : decode cX0_init 57 = .ok (.aload_n 0, 1) := by decide +kernel
theorem dX0_init_58 : decode cX0_init 58 = .ok (.aload_n 1, 1) := by decide +kernel
theorem dX0_init_59 : decode cX0_init 59 = .ok (.putfield 33, 3) := by decide +kernel
theorem dX0_init_62 : decode cX0_init 62 = .ok (.return_, 1) := by decide +kernel
theorem dX0_gatherAll_0 : decode cX0_gatherAll 0 = .ok (.aload_n 0, 1) := by decide +kernel
theorem dX0_gatherAll_1 : decode cX0_gatherAll 1 = .ok (.iconst (-1), 1) := by decide +kernel
theorem dX0_gatherAll_2 : decode cX0_gatherAll 2 = .ok (.lconst 0, 1) := by decide +kernel
theorem dX0_gatherAll_3 : decode cX0_gatherAll 3 = .ok (.bipush 60, 2) := by decide +kernel
theorem dX0_gatherAll_5 : decode cX0_gatherAll 5 = .ok (.invokevirtual 37, 3) := by decide +kernel
theorem dX0_gatherAll_8 : decode cX0_gatherAll 8 = .ok (.return_, 1) := by decide +kernel
theorem dX0_gather_0 : decode cX0_gather 0 = .ok (.aload_n 0, 1) := by decide +kernel
theorem dX0_gather_1 : decode cX0_gather 1 = .ok (.iconst 0, 1) := by decide +kernel
theorem dX0_gather_2 : decode cX0_gather 2 = .ok (.putfield 41, 3) := by decide +kernel
theorem dX0_gather_5 : decode cX0_gather 5 = .ok (.aload_n 0, 1) := by decide +kernel
theorem dX0_gather_6 : decode cX0_gather 6 = .ok (.iconst 0, 1) := by decide +kernel
theorem dX0_gather_7 : decode cX0_gather 7 = .ok (.putfield 45, 3) := by decide +kernel
theorem dX0_gather_10 : decode cX0_gather 10 = .ok (.iconst 0, 1) := by decide +kernel
theorem dX0_gather_11 : decode cX0_gather 11 = .ok (.istore 5, 2) := by decide +kernel
theorem dX0_gather_13 : decode cX0_gather 13 = .ok (.iload 5, 2) := by decide +kernel
theorem dX0_gather_15 : decode cX0_gather 15 = .ok (.aload_n 0, 1) := by decide +kernel
theorem dX0_gather_16 : decode cX0_gather 16 = .ok (.getfield 33, 3) := by decide +kernel
theorem dX0_gather_19 : decode cX0_gather 19 = .ok (.getfield 48, 3) := by decide +kernel
theorem dX0_gather_22 : decode cX0_gather 22 = .ok (.if_icmp .ge 130, 3) := by decide +kernel
theorem dX0_gather_25 : decode cX0_gather 25 = .ok (.aload_n 0, 1) := by decide +kernel
theorem dX0_gather_26 : decode cX0_gather 26 = .ok (.getfield 33, 3) := by decide +kernel
theorem dX0_gather_29 : decode cX0_gather 29 = .ok (.getfield 53, 3) := by decide +kernel
theorem dX0_gather_32 : decode cX0_gather 32 = .ok (.iload 5, 2) := by decide +kernel
theorem dX0_gather_34 : decode cX0_gather 34 = .ok (.aaload, 1) := by decide +kernel
theorem dX0_gather_35 : decode cX0_gather 35 = .ok (.astore 6, 2) := by decide +kernel
theorem dX0_gather_37 : decode cX0_gather 37 = .ok (.aload_n 0, 1) := by decide +kernel
theorem dX0_gather_38 : decode cX0_gather 38 = .ok (.getfield 9, 3) := by decide +kernel
theorem dX0_gather_41 : decode cX0_gather 41 = .ok (.iload 5, 2) := by decide +kernel
theorem dX0_gather_43 : decode cX0_gather 43 = .ok (.iload 5, 2) := by decide +kernel
theorem dX0_gather_45 : decode cX0_gather 45 = .ok (.iload_n 1, 1) := by decide +kernel
theorem dX0_gather_46 : decode cX0_gather 46 = .ok (.if_icmp .eq 31, 3) := by decide +kernel
theorem dX0_gather_49 : decode cX0_gather 49 = .ok (.aload 6, 2) := by decide +kernel
theorem dX0_gather_51 : decode cX0_gather 51 = .ok (.invokevirtual 57, 3) := by decide +kernel
theorem dX0_gather_54 : decode cX0_gather 54 = .ok (.ifCond .eq 23, 3) := by decide +kernel
theorem dX0_gather_57 : decode cX0_gather 57 = .ok (.aload 6, 2) := by decide +kernel
theorem dX0_gather_59 : decode cX0_gather 59 = .ok (.getfield 63, 3) := by decide +kernel
theorem dX0_gather_62 : decode cX0_gather 62 = .ok (.iconst 1, 1) := by decide +kernel
theorem dX0_gather_63 : decode cX0_gather 63 = .ok (.if_icmp .ne 10, 3) := by decide +kernel
theorem dX0_gather_66 : decode cX0_gather 66 = .ok (.iload 5, 2) := by decide +kernel
theorem dX0_gather_68 : decode cX0_gather 68 = .ok (.iload 4, 2) := by decide +kernel
theorem dX0_gather_70 : decode cX0_gather 70 = .ok (.if_icmp .ge 7, 3) := by decide +kernel
theorem dX0_gather_73 : decode cX0_gather 73 = .ok (.iconst 1, 1) := by decide +kernel
theorem dX0_gather_74 : decode cX0_gather 74 = .ok (.goto 4, 3) := by decide +kernel
theorem dX0_gather_77 : decode cX0_gather 77 = .ok (.iconst 0, 1) := by decide +kernel
theorem dX0_gather_78 : decode cX0_gather 78 = .ok (.bastore, 1) := by decide +kernel
theorem dX0_gather_79 : decode cX0_gather 79 = .ok (.aload_n 0, 1) := by decide +kernel
theorem dX0_gather_80 : decode cX0_gather 80 = .ok (.getfield 9, 3) := by decide +kernel
theorem dX0_gather_83 : decode cX0_gather 83 = .ok (.iload 5, 2) := by decide +kernel
theorem dX0_gather_85 : decode cX0_gather 85 = .ok (.baload, 1) := by decide +kernel
theorem dX0_gather_86 : decode cX0_gather 86 = .ok (.ifCond .ne 6, 3) := by decide +kernel
theorem dX0_gather_89 : decode cX0_gather 89 = .ok (.goto 57, 3) := by decide +kernel
theorem dX0_gather_92 : decode cX0_gather 92 = .ok (.aload_n 0, 1) := by decide +kernel
theorem dX0_gather_93 : decode cX0_gather 93 = .ok (.getfield 15, 3) := by decide +kernel
theorem dX0_gather_96 : decode cX0_gather 96 = .ok (.aload_n 0, 1) := by decide +kernel
theorem dX0_gather_97 : decode cX0_gather 97 = .ok (.getfield 41, 3) := by decide +kernel
theorem dX0_gather_100 : decode cX0_gather 100 = .ok (.iload 5, 2) := by decide +kernel
theorem dX0_gather_102 : decode cX0_gather 102 = .ok (.iastore, 1) := by decide +kernel
theorem dX0_gather_103 : decode cX0_gather 103 = .ok (.aload_n 0, 1) := by decide +kernel
theorem dX0_gather_104 : decode cX0_gather 104 = .ok (.dup, 1) := by decide +kernel
theorem dX0_gather_105 : decode cX0_gather 105 = .ok (.getfield 41, 3) := by decide +kernel
theorem dX0_gather_108 : decode cX0_gather 108 = .ok (.iconst 1, 1) := by decide +kernel
theorem dX0_gather_109 : decode cX0_gather 109 = .ok (.iadd, 1) := by decide +kernel
theorem dX0_gather_110 : decode cX0_gather 110 = .ok (.putfield 41, 3) := by decide +kernel
theorem dX0_gather_113 : decode cX0_gather 113 = .ok (.aload 6, 2) := by decide +kernel
theorem dX0_gather_115 : decode cX0_gather 115 = .ok (.getfield 66, 3) := by decide +kernel
theorem dX0_gather_118 : decode cX0_gather 118 = .ok (.lload_n 2, 1) := by decide +kernel
theorem dX0_gather_119 : decode cX0_gather 119 = .ok (.land, 1) := by decide +kernel
theorem dX0_gather_120 : decode cX0_gather 120 = .ok (.lconst 0, 1) := by decide +kernel
theorem dX0_gather_121 : decode cX0_gather 121 = .ok (.lcmp, 1) := by decide +kernel
theorem dX0_gather_122 : decode cX0_gather 122 = .ok (.ifCond .eq 24, 3) := by decide +kernel
theorem dX0_gather_125 : decode cX0_gather 125 = .ok (.aload_n 0, 1) := by decide +kernel
theorem dX0_gather_126 : decode cX0_gather 126 = .ok (.getfield 19, 3) := by decide +kernel
theorem dX0_gather_129 : decode cX0_gather 129 = .ok (.aload_n 0, 1) := by decide +kernel
theorem dX0_gather_130 : decode cX0_gather 130 = .ok (.getfield 45, 3) := by decide +kernel
theorem dX0_gather_133 : decode cX0_gather 133 = .ok (.iload 5, 2) := by decide +kernel
theorem dX0_gather_135 : decode cX0_gather 135 = .ok (.iastore, 1) := by decide +kernel
theorem dX0_gather_136 : decode cX0_gather 136 = .ok (.aload_n 0, 1) := by decide +kernel
theorem dX0_gather_137 : decode cX0_gather 137 = .ok (.dup, 1) := by decide +kernel
theorem dX0_gather_138 : decode cX0_gather 138 = .ok (.getfield 45, 3) := by decide +kernel
theorem dX0_gather_141 : decode cX0_gather 141 = .ok (.iconst 1, 1) := by decide +kernel
theorem dX0_gather_142 : decode cX0_gather 142 = .ok (.iadd, 1) := by decide +kernel
theorem dX0_gather_143 : decode cX0_gather 143 = .ok (.putfield 45, 3) := by decide +kernel
theorem dX0_gather_146 : decode cX0_gather 146 = .ok (.iinc 5 1, 3) := by decide +kernel
theorem dX0_gather_149 : decode cX0_gather 149 = .ok (.goto (-136), 3) := by decide +kernel
theorem dX0_gather_152 : decode cX0_gather 152 = .ok (.return_, 1) := by decide +kernel
theorem dX0_survey_0 : decode cX0_survey 0 = .ok (.iconst 0, 1) := by decide +kernel
theorem dX0_survey_1 : decode cX0_survey 1 = .ok (.istore_n 2, 1) := by decide +kernel
theorem dX0_survey_2 : decode cX0_survey 2 = .ok (.iload_n 2, 1) := by decide +kernel
theorem dX0_survey_3 : decode cX0_survey 3 = .ok (.aload_n 0, 1) := by decide +kernel
theorem dX0_survey_4 : decode cX0_survey 4 = .ok (.getfield 33, 3) := by decide +kernel
theorem dX0_survey_7 : decode cX0_survey 7 = .ok (.getfield 70, 3) := by decide +kernel
theorem dX0_survey_10 : decode cX0_survey 10 = .ok (.if_icmp .ge 16, 3) := by decide +kernel
theorem dX0_survey_13 : decode cX0_survey 13 = .ok (.aload_n 0, 1) := by decide +kernel
theorem dX0_survey_14 : decode cX0_survey 14 = .ok (.getfield 22, 3) := by decide +kernel
theorem dX0_survey_17 : decode cX0_survey 17 = .ok (.iload_n 2, 1) := by decide +kernel
theorem dX0_survey_18 : decode cX0_survey 18 = .ok (.iconst 0, 1) := by decide +kernel
theorem dX0_survey_19 : decode cX0_survey 19 = .ok (.iastore, 1) := by decide +kernel
theorem dX0_survey_20 : decode cX0_survey 20 = .ok (.iinc 2 1, 3) := by decide +kernel
theorem dX0_survey_23 : decode cX0_survey 23 = .ok (.goto (-21), 3) := by decide +kernel
theorem dX0_survey_26 : decode cX0_survey 26 = .ok (.iconst 0, 1) := by decide +kernel
theorem dX0_survey_27 : decode cX0_survey 27 = .ok (.istore_n 2, 1) := by decide +kernel
theorem dX0_survey_28 : decode cX0_survey 28 = .ok (.iload_n 2, 1) := by decide +kernel
theorem dX0_survey_29 : decode cX0_survey 29 = .ok (.aload_n 0, 1) := by decide +kernel
theorem dX0_survey_30 : decode cX0_survey 30 = .ok (.getfield 41, 3) := by decide +kernel
theorem dX0_survey_33 : decode cX0_survey 33 = .ok (.if_icmp .ge 67, 3) := by decide +kernel
theorem dX0_survey_36 : decode cX0_survey 36 = .ok (.aload_n 0, 1) := by decide +kernel
theorem dX0_survey_37 : decode cX0_survey 37 = .ok (.getfield 33, 3) := by decide +kernel
theorem dX0_survey_40 : decode cX0_survey 40 = .ok (.getfield 53, 3) := by decide +kernel
theorem dX0_survey_43 : decode cX0_survey 43 = .ok (.aload_n 0, 1) := by decide +kernel
theorem dX0_survey_44 : decode cX0_survey 44 = .ok (.getfield 15, 3) := by decide +kernel
theorem dX0_survey_47 : decode cX0_survey 47 = .ok (.iload_n 2, 1) := by decide +kernel
theorem dX0_survey_48 : decode cX0_survey 48 = .ok (.iaload, 1) := by decide +kernel
theorem dX0_survey_49 : decode cX0_survey 49 = .ok (.aaload, 1) := by decide +kernel
theorem dX0_survey_50 : decode cX0_survey 50 = .ok (.astore_n 3, 1) := by decide +kernel
theorem dX0_survey_51 : decode cX0_survey 51 = .ok (.aload_n 0, 1) := by decide +kernel
theorem dX0_survey_52 : decode cX0_survey 52 = .ok (.aload_n 3, 1) := by decide +kernel
theorem dX0_survey_53 : decode cX0_survey 53 = .ok (.iload_n 1, 1) := by decide +kernel
theorem dX0_survey_54 : decode cX0_survey 54 = .ok (.invokevirtual 73, 3) := by decide +kernel
theorem dX0_survey_57 : decode cX0_survey 57 = .ok (.istore 4, 2) := by decide +kernel
theorem dX0_survey_59 : decode cX0_survey 59 = .ok (.iconst 0, 1) := by decide +kernel
theorem dX0_survey_60 : decode cX0_survey 60 = .ok (.istore 5, 2) := by decide +kernel
theorem dX0_survey_62 : decode cX0_survey 62 = .ok (.iload 5, 2) := by decide +kernel
theorem dX0_survey_64 : decode cX0_survey 64 = .ok (.aload_n 3, 1) := by decide +kernel
theorem dX0_survey_65 : decode cX0_survey 65 = .ok (.getfield 77, 3) := by decide +kernel
theorem dX0_survey_68 : decode cX0_survey 68 = .ok (.if_icmp .ge 26, 3) := by decide +kernel
theorem dX0_survey_71 : decode cX0_survey 71 = .ok (.aload_n 0, 1) := by decide +kernel
theorem dX0_survey_72 : decode cX0_survey 72 = .ok (.getfield 22, 3) := by decide +kernel
theorem dX0_survey_75 : decode cX0_survey 75 = .ok (.aload_n 3, 1) := by decide +kernel
theorem dX0_survey_76 : decode cX0_survey 76 = .ok (.getfield 80, 3) := by decide +kernel
theorem dX0_survey_79 : decode cX0_survey 79 = .ok (.iload 5, 2) := by decide +kernel
theorem dX0_survey_81 : decode cX0_survey 81 = .ok (.iaload, 1) := by decide +kernel
theorem dX0_survey_82 : decode cX0_survey 82 = .ok (.dup2, 1) := by decide +kernel
theorem dX0_survey_83 : decode cX0_survey 83 = .ok (.iaload, 1) := by decide +kernel
theorem dX0_survey_84 : decode cX0_survey 84 = .ok (.iload 4, 2) := by decide +kernel
theorem dX0_survey_86 : decode cX0_survey 86 = .ok (.iadd, 1) := by decide +kernel
theorem dX0_survey_87 : decode cX0_survey 87 = .ok (.iastore, 1) := by decide +kernel
theorem dX0_survey_88 : decode cX0_survey 88 = .ok (.iinc 5 1, 3) := by decide +kernel
theorem dX0_survey_91 : decode cX0_survey 91 = .ok (.goto (-29), 3) := by decide +kernel
theorem dX0_survey_94 : decode cX0_survey 94 = .ok (.iinc 2 1, 3) := by decide +kernel
theorem dX0_survey_97 : decode cX0_survey 97 = .ok (.goto (-69), 3) := by decide +kernel
theorem dX0_survey_100 : decode cX0_survey 100 = .ok (.lconst 0, 1) := by decide +kernel
theorem dX0_survey_101 : decode cX0_survey 101 = .ok (.lstore_n 2, 1) := by decide +kernel
theorem dX0_survey_102 : decode cX0_survey 102 = .ok (.iconst 0, 1) := by decide +kernel
theorem dX0_survey_103 : decode cX0_survey 103 = .ok (.istore 4, 2) := by decide +kernel
theorem dX0_survey_105 : decode cX0_survey 105 = .ok (.iload 4, 2) := by decide +kernel
theorem dX0_survey_107 : decode cX0_survey 107 = .ok (.aload_n 0, 1) := by decide +kernel
theorem dX0_survey_108 : decode cX0_survey 108 = .ok (.getfield 33, 3) := by decide +kernel
theorem dX0_survey_111 : decode cX0_survey 111 = .ok (.getfield 70, 3) := by decide +kernel
theorem dX0_survey_114 : decode cX0_survey 114 = .ok (.if_icmp .ge 39, 3) := by decide +kernel
theorem dX0_survey_117 : decode cX0_survey 117 = .ok (.aload_n 0, 1) := by decide +kernel
theorem dX0_survey_118 : decode cX0_survey 118 = .ok (.getfield 22, 3) := by decide +kernel
theorem dX0_survey_121 : decode cX0_survey 121 = .ok (.iload 4, 2) := by decide +kernel
theorem dX0_survey_123 : decode cX0_survey 123 = .ok (.iaload, 1) := by decide +kernel
theorem dX0_survey_124 : decode cX0_survey 124 = .ok (.aload_n 0, 1) := by decide +kernel
theorem dX0_survey_125 : decode cX0_survey 125 = .ok (.getfield 33, 3) := by decide +kernel
theorem dX0_survey_128 : decode cX0_survey 128 = .ok (.getfield 83, 3) := by decide +kernel
theorem dX0_survey_131 : decode cX0_survey 131 = .ok (.iload 4, 2) := by decide +kernel
theorem dX0_survey_133 : decode cX0_survey 133 = .ok (.aaload, 1) := by decide +kernel
theorem dX0_survey_134 : decode cX0_survey 134 = .ok (.getfield 86, 3) := by decide +kernel
theorem dX0_survey_137 : decode cX0_survey 137 = .ok (.if_icmp .lt 10, 3) := by decide +kernel
theorem dX0_survey_140 : decode cX0_survey 140 = .ok (.lload_n 2, 1) := by decide +kernel
theorem dX0_survey_141 : decode cX0_survey 141 = .ok (.lconst 1, 1) := by decide +kernel
theorem dX0_survey_142 : decode cX0_survey 142 = .ok (.iload 4, 2) := by decide +kernel
theorem dX0_survey_144 : decode cX0_survey 144 = .ok (.lshl, 1) := by decide +kernel
theorem dX0_survey_145 : decode cX0_survey 145 = .ok (.lor, 1) := by decide +kernel
theorem dX0_survey_146 : decode cX0_survey 146 = .ok (.lstore_n 2, 1) := by decide +kernel
theorem dX0_survey_147 : decode cX0_survey 147 = .ok (.iinc 4 1, 3) := by decide +kernel
theorem dX0_survey_150 : decode cX0_survey 150 = .ok (.goto (-45), 3) := by decide +kernel
theorem dX0_survey_153 : decode cX0_survey 153 = .ok (.lload_n 2, 1) := by decide +kernel
theorem dX0_survey_154 : decode cX0_survey 154 = .ok (.lreturn, 1) := by decide +kernel
theorem dX0_surveyBeside_0 : decode cX0_surveyBeside 0 = .ok (.iload_n 2, 1) := by decide +kernel
theorem dX0_surveyBeside_1 : decode cX0_surveyBeside 1 = .ok (.istore 4, 2) := by decide +kernel
theorem dX0_surveyBeside_3 : decode cX0_surveyBeside 3 = .ok (.iload 4, 2) := by decide +kernel
theorem dX0_surveyBeside_5 : decode cX0_surveyBeside 5 = .ok (.iload_n 3, 1) := by decide +kernel
theorem dX0_surveyBeside_6 : decode cX0_surveyBeside 6 = .ok (.if_icmp .gt 52, 3) := by decide +kernel
theorem dX0_surveyBeside_9 : decode cX0_surveyBeside 9 = .ok (.aload_n 0, 1) := by decide +kernel
theorem dX0_surveyBeside_10 : decode cX0_surveyBeside 10 = .ok (.getfield 30, 3) := by decide +kernel
theorem dX0_surveyBeside_13 : decode cX0_surveyBeside 13 = .ok (.iload 4, 2) := by decide +kernel
theorem dX0_surveyBeside_15 : decode cX0_surveyBeside 15 = .ok (.aload_n 0, 1) := by decide +kernel
theorem dX0_surveyBeside_16 : decode cX0_surveyBeside 16 = .ok (.aload_n 1, 1) := by decide +kernel
theorem dX0_surveyBeside_17 : decode cX0_surveyBeside 17 = .ok (.iload 4, 2) := by decide +kernel
theorem dX0_surveyBeside_19 : decode cX0_surveyBeside 19 = .ok (.invokevirtual 91, 3) := by decide +kernel
theorem dX0_surveyBeside_22 : decode cX0_surveyBeside 22 = .ok (.iastore, 1) := by decide +kernel
theorem dX0_surveyBeside_23 : decode cX0_surveyBeside 23 = .ok (.iconst 0, 1) := by decide +kernel
theorem dX0_surveyBeside_24 : decode cX0_surveyBeside 24 = .ok (.istore 5, 2) := by decide +kernel
theorem dX0_surveyBeside_26 : decode cX0_surveyBeside 26 = .ok (.iload 5, 2) := by decide +kernel
theorem dX0_surveyBeside_28 : decode cX0_surveyBeside 28 = .ok (.aload_n 1, 1) := by decide +kernel
theorem dX0_surveyBeside_29 : decode cX0_surveyBeside 29 = .ok (.getfield 77, 3) := by decide +kernel
theorem dX0_surveyBeside_32 : decode cX0_surveyBeside 32 = .ok (.if_icmp .ge 20, 3) := by decide +kernel
theorem dX0_surveyBeside_35 : decode cX0_surveyBeside 35 = .ok (.aload_n 0, 1) := by decide +kernel
theorem dX0_surveyBeside_36 : decode cX0_surveyBeside 36 = .ok (.getfield 27, 3) := by decide +kernel
theorem dX0_surveyBeside_39 : decode cX0_surveyBeside 39 = .ok (.iload 5, 2) := by decide +kernel
theorem dX0_surveyBeside_41 : decode cX0_surveyBeside 41 = .ok (.aaload, 1) := by decide +kernel
theorem dX0_surveyBeside_42 : decode cX0_surveyBeside 42 = .ok (.iload 4, 2) := by decide +kernel
theorem dX0_surveyBeside_44 : decode cX0_surveyBeside 44 = .ok (.iconst 0, 1) := by decide +kernel
theorem dX0_surveyBeside_45 : decode cX0_surveyBeside 45 = .ok (.iastore, 1) := by decide +kernel
theorem dX0_surveyBeside_46 : decode cX0_surveyBeside 46 = .ok (.iinc 5 1, 3) := by decide +kernel
theorem dX0_surveyBeside_49 : decode cX0_surveyBeside 49 = .ok (.goto (-23), 3) := by decide +kernel
theorem dX0_surveyBeside_52 : decode cX0_surveyBeside 52 = .ok (.iinc 4 1, 3) := by decide +kernel
theorem dX0_surveyBeside_55 : decode cX0_surveyBeside 55 = .ok (.goto (-52), 3) := by decide +kernel
theorem dX0_surveyBeside_58 : decode cX0_surveyBeside 58 = .ok (.iconst 0, 1) := by decide +kernel
theorem dX0_surveyBeside_59 : decode cX0_surveyBeside 59 = .ok (.istore 4, 2) := by decide +kernel
theorem dX0_surveyBeside_61 : decode cX0_surveyBeside 61 = .ok (.iload 4, 2) := by decide +kernel
theorem dX0_surveyBeside_63 : decode cX0_surveyBeside 63 = .ok (.aload_n 0, 1) := by decide +kernel
theorem dX0_surveyBeside_64 : decode cX0_surveyBeside 64 = .ok (.getfield 45, 3) := by decide +kernel
theorem dX0_surveyBeside_67 : decode cX0_surveyBeside 67 = .ok (.if_icmp .ge 119, 3) := by decide +kernel
theorem dX0_surveyBeside_70 : decode cX0_surveyBeside 70 = .ok (.aload_n 0, 1) := by decide +kernel
theorem dX0_surveyBeside_71 : decode cX0_surveyBeside 71 = .ok (.getfield 33, 3) := by decide +kernel
theorem dX0_surveyBeside_74 : decode cX0_surveyBeside 74 = .ok (.getfield 53, 3) := by decide +kernel
theorem dX0_surveyBeside_77 : decode cX0_surveyBeside 77 = .ok (.aload_n 0, 1) := by decide +kernel
theorem dX0_surveyBeside_78 : decode cX0_surveyBeside 78 = .ok (.getfield 19, 3) := by decide +kernel
theorem dX0_surveyBeside_81 : decode cX0_surveyBeside 81 = .ok (.iload 4, 2) := by decide +kernel
theorem dX0_surveyBeside_83 : decode cX0_surveyBeside 83 = .ok (.iaload, 1) := by decide +kernel
theorem dX0_surveyBeside_84 : decode cX0_surveyBeside 84 = .ok (.aaload, 1) := by decide +kernel
theorem dX0_surveyBeside_85 : decode cX0_surveyBeside 85 = .ok (.astore 5, 2) := by decide +kernel
theorem dX0_surveyBeside_87 : decode cX0_surveyBeside 87 = .ok (.iload_n 3, 1) := by decide +kernel
theorem dX0_surveyBeside_88 : decode cX0_surveyBeside 88 = .ok (.aload 5, 2) := by decide +kernel
theorem dX0_surveyBeside_90 : decode cX0_surveyBeside 90 = .ok (.getfield 94, 3) := by decide +kernel
theorem dX0_surveyBeside_93 : decode cX0_surveyBeside 93 = .ok (.invokestatic 97, 3) := by decide +kernel
theorem dX0_surveyBeside_96 : decode cX0_surveyBeside 96 = .ok (.istore 6, 2) := by decide +kernel
theorem dX0_surveyBeside_98 : decode cX0_surveyBeside 98 = .ok (.iload_n 2, 1) := by decide +kernel
theorem dX0_surveyBeside_99 : decode cX0_surveyBeside 99 = .ok (.aload 5, 2) := by decide +kernel
theorem dX0_surveyBeside_101 : decode cX0_surveyBeside 101 = .ok (.getfield 103, 3) := by decide +kernel
theorem dX0_surveyBeside_104 : decode cX0_surveyBeside 104 = .ok (.invokestatic 106, 3) := by decide +kernel
theorem dX0_surveyBeside_107 : decode cX0_surveyBeside 107 = .ok (.istore 7, 2) := by decide +kernel
theorem dX0_surveyBeside_109 : decode cX0_surveyBeside 109 = .ok (.iload 7, 2) := by decide +kernel
theorem dX0_surveyBeside_111 : decode cX0_surveyBeside 111 = .ok (.iload 6, 2) := by decide +kernel
theorem dX0_surveyBeside_113 : decode cX0_surveyBeside 113 = .ok (.if_icmp .gt 67, 3) := by decide +kernel
theorem dX0_surveyBeside_116 : decode cX0_surveyBeside 116 = .ok (.aload_n 0, 1) := by decide +kernel
theorem dX0_surveyBeside_117 : decode cX0_surveyBeside 117 = .ok (.aload 5, 2) := by decide +kernel
theorem dX0_surveyBeside_119 : decode cX0_surveyBeside 119 = .ok (.iload 7, 2) := by decide +kernel
theorem dX0_surveyBeside_121 : decode cX0_surveyBeside 121 = .ok (.invokevirtual 73, 3) := by decide +kernel
theorem dX0_surveyBeside_124 : decode cX0_surveyBeside 124 = .ok (.istore 8, 2) := by decide +kernel
theorem dX0_surveyBeside_126 : decode cX0_surveyBeside 126 = .ok (.iconst 0, 1) := by decide +kernel
theorem dX0_surveyBeside_127 : decode cX0_surveyBeside 127 = .ok (.istore 9, 2) := by decide +kernel
theorem dX0_surveyBeside_129 : decode cX0_surveyBeside 129 = .ok (.iload 9, 2) := by decide +kernel
theorem dX0_surveyBeside_131 : decode cX0_surveyBeside 131 = .ok (.aload_n 1, 1) := by decide +kernel
theorem dX0_surveyBeside_132 : decode cX0_surveyBeside 132 = .ok (.getfield 77, 3) := by decide +kernel
theorem dX0_surveyBeside_135 : decode cX0_surveyBeside 135 = .ok (.if_icmp .ge 39, 3) := by decide +kernel
theorem dX0_surveyBeside_138 : decode cX0_surveyBeside 138 = .ok (.aload 5, 2) := by decide +kernel
theorem dX0_surveyBeside_140 : decode cX0_surveyBeside 140 = .ok (.aload_n 1, 1) := by decide +kernel
theorem dX0_surveyBeside_141 : decode cX0_surveyBeside 141 = .ok (.getfield 80, 3) := by decide +kernel
theorem dX0_surveyBeside_144 : decode cX0_surveyBeside 144 = .ok (.iload 9, 2) := by decide +kernel
theorem dX0_surveyBeside_146 : decode cX0_surveyBeside 146 = .ok (.iaload, 1) := by decide +kernel
theorem dX0_surveyBeside_147 : decode cX0_surveyBeside 147 = .ok (.invokevirtual 109, 3) := by decide +kernel
theorem dX0_surveyBeside_150 : decode cX0_surveyBeside 150 = .ok (.ifCond .eq 18, 3) := by decide +kernel
theorem dX0_surveyBeside_153 : decode cX0_surveyBeside 153 = .ok (.aload_n 0, 1) := by decide +kernel
theorem dX0_surveyBeside_154 : decode cX0_surveyBeside 154 = .ok (.getfield 27, 3) := by decide +kernel
theorem dX0_surveyBeside_157 : decode cX0_surveyBeside 157 = .ok (.iload 9, 2) := by decide +kernel
theorem dX0_surveyBeside_159 : decode cX0_surveyBeside 159 = .ok (.aaload, 1) := by decide +kernel
theorem dX0_surveyBeside_160 : decode cX0_surveyBeside 160 = .ok (.iload 7, 2) := by decide +kernel
theorem dX0_surveyBeside_162 : decode cX0_surveyBeside 162 = .ok (.dup2, 1) := by decide +kernel
theorem dX0_surveyBeside_163 : decode cX0_surveyBeside 163 = .ok (.iaload, 1) := by decide +kernel
theorem dX0_surveyBeside_164 : decode cX0_surveyBeside 164 = .ok (.iload 8, 2) := by decide +kernel
theorem dX0_surveyBeside_166 : decode cX0_surveyBeside 166 = .ok (.iadd, 1) := by decide +kernel
theorem dX0_surveyBeside_167 : decode cX0_surveyBeside 167 = .ok (.iastore, 1) := by decide +kernel
theorem dX0_surveyBeside_168 : decode cX0_surveyBeside 168 = .ok (.iinc 9 1, 3) := by decide +kernel
theorem dX0_surveyBeside_171 : decode cX0_surveyBeside 171 = .ok (.goto (-42), 3) := by decide +kernel
theorem dX0_surveyBeside_174 : decode cX0_surveyBeside 174 = .ok (.iinc 7 1, 3) := by decide +kernel
theorem dX0_surveyBeside_177 : decode cX0_surveyBeside 177 = .ok (.goto (-68), 3) := by decide +kernel
theorem dX0_surveyBeside_180 : decode cX0_surveyBeside 180 = .ok (.iinc 4 1, 3) := by decide +kernel
theorem dX0_surveyBeside_183 : decode cX0_surveyBeside 183 = .ok (.goto (-122), 3) := by decide +kernel
theorem dX0_surveyBeside_186 : decode cX0_surveyBeside 186 = .ok (.return_, 1) := by decide +kernel
theorem dX0_lanesOf_0 : decode cX0_lanesOf 0 = .ok (.iload_n 2, 1) := by decide +kernel
theorem dX0_lanesOf_1 : decode cX0_lanesOf 1 = .ok (.aload_n 1, 1) := by decide +kernel
theorem dX0_lanesOf_2 : decode cX0_lanesOf 2 = .ok (.getfield 103, 3) := by decide +kernel
theorem dX0_lanesOf_5 : decode cX0_lanesOf 5 = .ok (.if_icmp .lt 11, 3) := by decide +kernel
theorem dX0_lanesOf_8 : decode cX0_lanesOf 8 = .ok (.iload_n 2, 1) := by decide +kernel
theorem dX0_lanesOf_9 : decode cX0_lanesOf 9 = .ok (.aload_n 1, 1) := by decide +kernel
theorem dX0_lanesOf_10 : decode cX0_lanesOf 10 = .ok (.getfield 94, 3) := by decide +kernel
theorem dX0_lanesOf_13 : decode cX0_lanesOf 13 = .ok (.if_icmp .le 5, 3) := by decide +kernel
theorem dX0_lanesOf_16 : decode cX0_lanesOf 16 = .ok (.iconst 0, 1) := by decide +kernel
theorem dX0_lanesOf_17 : decode cX0_lanesOf 17 = .ok (.ireturn, 1) := by decide +kernel
theorem dX0_lanesOf_18 : decode cX0_lanesOf 18 = .ok (.aload_n 1, 1) := by decide +kernel
theorem dX0_lanesOf_19 : decode cX0_lanesOf 19 = .ok (.getfield 113, 3) := by decide +kernel
theorem dX0_lanesOf_22 : decode cX0_lanesOf 22 = .ok (.istore_n 3, 1) := by decide +kernel
theorem dX0_lanesOf_23 : decode cX0_lanesOf 23 = .ok (.iload_n 3, 1) := by decide +kernel
theorem dX0_lanesOf_24 : decode cX0_lanesOf 24 = .ok (.ifCond .lt 23, 3) := by decide +kernel
theorem dX0_lanesOf_27 : decode cX0_lanesOf 27 = .ok (.iload_n 3, 1) := by decide +kernel
theorem dX0_lanesOf_28 : decode cX0_lanesOf 28 = .ok (.aload_n 0, 1) := by decide +kernel
theorem dX0_lanesOf_29 : decode cX0_lanesOf 29 = .ok (.getfield 33, 3) := by decide +kernel
theorem dX0_lanesOf_32 : decode cX0_lanesOf 32 = .ok (.getfield 48, 3) := by decide +kernel
theorem dX0_lanesOf_35 : decode cX0_lanesOf 35 = .ok (.if_icmp .ge 12, 3) := by decide +kernel
theorem dX0_lanesOf_38 : decode cX0_lanesOf 38 = .ok (.aload_n 0, 1) := by decide +kernel
theorem dX0_lanesOf_39 : decode cX0_lanesOf 39 = .ok (.getfield 9, 3) := by decide +kernel
theorem dX0_lanesOf_42 : decode cX0_lanesOf 42 = .ok (.iload_n 3, 1) := by decide +kernel
theorem dX0_lanesOf_43 : decode cX0_lanesOf 43 = .ok (.baload, 1) := by decide +kernel
theorem dX0_lanesOf_44 : decode cX0_lanesOf 44 = .ok (.ifCond .ne 8, 3) := by decide +kernel
theorem dX0_lanesOf_47 : decode cX0_lanesOf 47 = .ok (.aload_n 1, 1) := by decide +kernel
theorem dX0_lanesOf_48 : decode cX0_lanesOf 48 = .ok (.getfield 116, 3) := by decide +kernel
theorem dX0_lanesOf_51 : decode cX0_lanesOf 51 = .ok (.ireturn, 1) := by decide +kernel
theorem dX0_lanesOf_52 : decode cX0_lanesOf 52 = .ok (.aload_n 0, 1) := by decide +kernel
theorem dX0_lanesOf_53 : decode cX0_lanesOf 53 = .ok (.getfield 33, 3) := by decide +kernel
theorem dX0_lanesOf_56 : decode cX0_lanesOf 56 = .ok (.getfield 53, 3) := by decide +kernel
theorem dX0_lanesOf_59 : decode cX0_lanesOf 59 = .ok (.iload_n 3, 1) := by decide +kernel
theorem dX0_lanesOf_60 : decode cX0_lanesOf 60 = .ok (.aaload, 1) := by decide +kernel
theorem dX0_lanesOf_61 : decode cX0_lanesOf 61 = .ok (.astore 4, 2) := by decide +kernel
theorem dX0_lanesOf_63 : decode cX0_lanesOf 63 = .ok (.iload_n 2, 1) := by decide +kernel
theorem dX0_lanesOf_64 : decode cX0_lanesOf 64 = .ok (.aload 4, 2) := by decide +kernel
theorem dX0_lanesOf_66 : decode cX0_lanesOf 66 = .ok (.getfield 103, 3) := by decide +kernel
theorem dX0_lanesOf_69 : decode cX0_lanesOf 69 = .ok (.if_icmp .lt 12, 3) := by decide +kernel
theorem dX0_lanesOf_72 : decode cX0_lanesOf 72 = .ok (.iload_n 2, 1) := by decide +kernel
theorem dX0_lanesOf_73 : decode cX0_lanesOf 73 = .ok (.aload 4, 2) := by decide +kernel
theorem dX0_lanesOf_75 : decode cX0_lanesOf 75 = .ok (.getfield 94, 3) := by decide +kernel
theorem dX0_lanesOf_78 : decode cX0_lanesOf 78 = .ok (.if_icmp .le 8, 3) := by decide +kernel
theorem dX0_lanesOf_81 : decode cX0_lanesOf 81 = .ok (.aload_n 1, 1) := by decide +kernel
theorem dX0_lanesOf_82 : decode cX0_lanesOf 82 = .ok (.getfield 116, 3) := by decide +kernel
theorem dX0_lanesOf_85 : decode cX0_lanesOf 85 = .ok (.ireturn, 1) := by decide +kernel
theorem dX0_lanesOf_86 : decode cX0_lanesOf 86 = .ok (.aload_n 1, 1) := by decide +kernel
theorem dX0_lanesOf_87 : decode cX0_lanesOf 87 = .ok (.getfield 116, 3) := by decide +kernel
theorem dX0_lanesOf_90 : decode cX0_lanesOf 90 = .ok (.aload 4, 2) := by decide +kernel
theorem dX0_lanesOf_92 : decode cX0_lanesOf 92 = .ok (.getfield 116, 3) := by decide +kernel
theorem dX0_lanesOf_95 : decode cX0_lanesOf 95 = .ok (.if_icmp .eq 24, 3) := by decide +kernel
theorem dX0_lanesOf_98 : decode cX0_lanesOf 98 = .ok (.aload_n 1, 1) := by decide +kernel
theorem dX0_lanesOf_99 : decode cX0_lanesOf 99 = .ok (.getfield 116, 3) := by decide +kernel
theorem dX0_lanesOf_102 : decode cX0_lanesOf 102 = .ok (.aload 4, 2) := by decide +kernel
theorem dX0_lanesOf_104 : decode cX0_lanesOf 104 = .ok (.getfield 116, 3) := by decide +kernel
theorem dX0_lanesOf_107 : decode cX0_lanesOf 107 = .ok (.if_icmp .le 10, 3) := by decide +kernel
theorem dX0_lanesOf_110 : decode cX0_lanesOf 110 = .ok (.aload_n 1, 1) := by decide +kernel
theorem dX0_lanesOf_111 : decode cX0_lanesOf 111 = .ok (.getfield 116, 3) := by decide +kernel
theorem dX0_lanesOf_114 : decode cX0_lanesOf 114 = .ok (.goto 4, 3) := by decide +kernel
theorem dX0_lanesOf_117 : decode cX0_lanesOf 117 = .ok (.iconst 0, 1) := by decide +kernel
theorem dX0_lanesOf_118 : decode cX0_lanesOf 118 = .ok (.ireturn, 1) := by decide +kernel
theorem dX0_lanesOf_119 : decode cX0_lanesOf 119 = .ok (.aload_n 1, 1) := by decide +kernel
theorem dX0_lanesOf_120 : decode cX0_lanesOf 120 = .ok (.getfield 117, 3) := by decide +kernel
theorem dX0_lanesOf_123 : decode cX0_lanesOf 123 = .ok (.iload_n 3, 1) := by decide +kernel
theorem dX0_lanesOf_124 : decode cX0_lanesOf 124 = .ok (.if_icmp .ge 10, 3) := by decide +kernel
theorem dX0_lanesOf_127 : decode cX0_lanesOf 127 = .ok (.aload_n 1, 1) := by decide +kernel
theorem dX0_lanesOf_128 : decode cX0_lanesOf 128 = .ok (.getfield 116, 3) := by decide +kernel
theorem dX0_lanesOf_131 : decode cX0_lanesOf 131 = .ok (.goto 4, 3) := by decide +kernel
theorem dX0_lanesOf_134 : decode cX0_lanesOf 134 = .ok (.iconst 0, 1) := by decide +kernel
theorem dX0_lanesOf_135 : decode cX0_lanesOf 135 = .ok (.ireturn, 1) := by decide +kernel
theorem dX0_lanesAddedBy_0 : decode cX0_lanesAddedBy 0 = .ok (.aload_n 1, 1) := by decide +kernel
theorem dX0_lanesAddedBy_1 : decode cX0_lanesAddedBy 1 = .ok (.getfield 113, 3) := by decide +kernel
theorem dX0_lanesAddedBy_4 : decode cX0_lanesAddedBy 4 = .ok (.istore_n 3, 1) := by decide +kernel
theorem dX0_lanesAddedBy_5 : decode cX0_lanesAddedBy 5 = .ok (.iload_n 3, 1) := by decide +kernel
theorem dX0_lanesAddedBy_6 : decode cX0_lanesAddedBy 6 = .ok (.ifCond .lt 23, 3) := by decide +kernel
theorem dX0_lanesAddedBy_9 : decode cX0_lanesAddedBy 9 = .ok (.iload_n 3, 1) := by decide +kernel
theorem dX0_lanesAddedBy_10 : decode cX0_lanesAddedBy 10 = .ok (.aload_n 0, 1) := by decide +kernel
theorem dX0_lanesAddedBy_11 : decode cX0_lanesAddedBy 11 = .ok (.getfield 33, 3) := by decide +kernel
theorem dX0_lanesAddedBy_14 : decode cX0_lanesAddedBy 14 = .ok (.getfield 48, 3) := by decide +kernel
theorem dX0_lanesAddedBy_17 : decode cX0_lanesAddedBy 17 = .ok (.if_icmp .ge 12, 3) := by decide +kernel
theorem dX0_lanesAddedBy_20 : decode cX0_lanesAddedBy 20 = .ok (.aload_n 0, 1) := by decide +kernel
theorem dX0_lanesAddedBy_21 : decode cX0_lanesAddedBy 21 = .ok (.getfield 9, 3) := by decide +kernel
theorem dX0_lanesAddedBy_24 : decode cX0_lanesAddedBy 24 = .ok (.iload_n 3, 1) := by decide +kernel
theorem dX0_lanesAddedBy_25 : decode cX0_lanesAddedBy 25 = .ok (.baload, 1) := by decide +kernel
theorem dX0_lanesAddedBy_26 : decode cX0_lanesAddedBy 26 = .ok (.ifCond .ne 8, 3) := by decide +kernel
theorem dX0_lanesAddedBy_29 : decode cX0_lanesAddedBy 29 = .ok (.aload_n 1, 1) := by decide +kernel
theorem dX0_lanesAddedBy_30 : decode cX0_lanesAddedBy 30 = .ok (.getfield 116, 3) := by decide +kernel
theorem dX0_lanesAddedBy_33 : decode cX0_lanesAddedBy 33 = .ok (.ireturn, 1) := by decide +kernel
theorem dX0_lanesAddedBy_34 : decode cX0_lanesAddedBy 34 = .ok (.aload_n 0, 1) := by decide +kernel
theorem dX0_lanesAddedBy_35 : decode cX0_lanesAddedBy 35 = .ok (.getfield 33, 3) := by decide +kernel
theorem dX0_lanesAddedBy_38 : decode cX0_lanesAddedBy 38 = .ok (.getfield 53, 3) := by decide +kernel
theorem dX0_lanesAddedBy_41 : decode cX0_lanesAddedBy 41 = .ok (.iload_n 3, 1) := by decide +kernel
theorem dX0_lanesAddedBy_42 : decode cX0_lanesAddedBy 42 = .ok (.aaload, 1) := by decide +kernel
theorem dX0_lanesAddedBy_43 : decode cX0_lanesAddedBy 43 = .ok (.astore 4, 2) := by decide +kernel
theorem dX0_lanesAddedBy_45 : decode cX0_lanesAddedBy 45 = .ok (.iload_n 2, 1) := by decide +kernel
theorem dX0_lanesAddedBy_46 : decode cX0_lanesAddedBy 46 = .ok (.aload 4, 2) := by decide +kernel
theorem dX0_lanesAddedBy_48 : decode cX0_lanesAddedBy 48 = .ok (.getfield 103, 3) := by decide +kernel
theorem dX0_lanesAddedBy_51 : decode cX0_lanesAddedBy 51 = .ok (.if_icmp .lt 12, 3) := by decide +kernel
theorem dX0_lanesAddedBy_54 : decode cX0_lanesAddedBy 54 = .ok (.iload_n 2, 1) := by decide +kernel
theorem dX0_lanesAddedBy_55 : decode cX0_lanesAddedBy 55 = .ok (.aload 4, 2) := by decide +kernel
theorem dX0_lanesAddedBy_57 : decode cX0_lanesAddedBy 57 = .ok (.getfield 94, 3) := by decide +kernel
theorem dX0_lanesAddedBy_60 : decode cX0_lanesAddedBy 60 = .ok (.if_icmp .le 8, 3) := by decide +kernel
theorem dX0_lanesAddedBy_63 : decode cX0_lanesAddedBy 63 = .ok (.aload_n 1, 1) := by decide +kernel
theorem dX0_lanesAddedBy_64 : decode cX0_lanesAddedBy 64 = .ok (.getfield 116, 3) := by decide +kernel
theorem dX0_lanesAddedBy_67 : decode cX0_lanesAddedBy 67 = .ok (.ireturn, 1) := by decide +kernel
theorem dX0_lanesAddedBy_68 : decode cX0_lanesAddedBy 68 = .ok (.aload_n 1, 1) := by decide +kernel
theorem dX0_lanesAddedBy_69 : decode cX0_lanesAddedBy 69 = .ok (.getfield 116, 3) := by decide +kernel
theorem dX0_lanesAddedBy_72 : decode cX0_lanesAddedBy 72 = .ok (.aload 4, 2) := by decide +kernel
theorem dX0_lanesAddedBy_74 : decode cX0_lanesAddedBy 74 = .ok (.getfield 116, 3) := by decide +kernel
theorem dX0_lanesAddedBy_77 : decode cX0_lanesAddedBy 77 = .ok (.if_icmp .le 16, 3) := by decide +kernel
theorem dX0_lanesAddedBy_80 : decode cX0_lanesAddedBy 80 = .ok (.aload_n 1, 1) := by decide +kernel
theorem dX0_lanesAddedBy_81 : decode cX0_lanesAddedBy 81 = .ok (.getfield 116, 3) := by decide +kernel
theorem dX0_lanesAddedBy_84 : decode cX0_lanesAddedBy 84 = .ok (.aload 4, 2) := by decide +kernel
theorem dX0_lanesAddedBy_86 : decode cX0_lanesAddedBy 86 = .ok (.getfield 116, 3) := by decide +kernel
theorem dX0_lanesAddedBy_89 : decode cX0_lanesAddedBy 89 = .ok (.isub, 1) := by decide +kernel
theorem dX0_lanesAddedBy_90 : decode cX0_lanesAddedBy 90 = .ok (.goto 4, 3) := by decide +kernel
theorem dX0_lanesAddedBy_93 : decode cX0_lanesAddedBy 93 = .ok (.iconst 0, 1) := by decide +kernel
theorem dX0_lanesAddedBy_94 : decode cX0_lanesAddedBy 94 = .ok (.ireturn, 1) := by decide +kernel
theorem dX1_init_0 : decode cX1_init 0 = .ok (.aload_n 0, 1) := by decide +kernel
theorem dX1_init_1 : decode cX1_init 1 = .ok (.invokespecial 1, 3) := by decide +kernel
theorem dX1_init_4 : decode cX1_init 4 = .ok (.return_, 1) := by decide +kernel
theorem dX2_init_0 : decode cX2_init 0 = .ok (.aload_n 0, 1) := by decide +kernel
theorem dX2_init_1 : decode cX2_init 1 = .ok (.invokespecial 1, 3) := by decide +kernel
theorem dX2_init_4 : decode cX2_init 4 = .ok (.return_, 1) := by decide +kernel
theorem dX3_init_0 : decode cX3_init 0 = .ok (.aload_n 0, 1) := by decide +kernel
theorem dX3_init_1 : decode cX3_init 1 = .ok (.invokespecial 3, 3) := by decide +kernel
theorem dX3_init_4 : decode cX3_init 4 = .ok (.aload_n 0, 1) := by decide +kernel
theorem dX3_init_5 : decode cX3_init 5 = .ok (.aload_n 1, 1) := by decide +kernel
theorem dX3_init_6 : decode cX3_init 6 = .ok (.putfield 9, 3) := by decide +kernel
theorem dX3_init_9 : decode cX3_init 9 = .ok (.aload_n 0, 1) := by decide +kernel
theorem dX3_init_10 : decode cX3_init 10 = .ok (.aload_n 2, 1) := by decide +kernel
theorem dX3_init_11 : decode cX3_init 11 = .ok (.putfield 15, 3) := by decide +kernel
theorem dX3_init_14 : decode cX3_init 14 = .ok (.aload_n 0, 1) := by decide +kernel
theorem dX3_init_15 : decode cX3_init 15 = .ok (.aload_n 3, 1) := by decide +kernel
theorem dX3_init_16 : decode cX3_init 16 = .ok (.putfield 19, 3) := by decide +kernel
theorem dX3_init_19 : decode cX3_init 19 = .ok (.return_, 1) := by decide +kernel
theorem dX3_lookAt_0 : decode cX3_lookAt 0 = .ok (.aload_n 0, 1) := by decide +kernel
theorem dX3_lookAt_1 : decode cX3_lookAt 1 = .ok (.getfield 15, 3) := by decide +kernel
theorem dX3_lookAt_4 : decode cX3_lookAt 4 = .ok (.aload_n 1, 1) := by decide +kernel
theorem dX3_lookAt_5 : decode cX3_lookAt 5 = .ok (.getfield 23, 3) := by decide +kernel
theorem dX3_lookAt_8 : decode cX3_lookAt 8 = .ok (.aload_n 1, 1) := by decide +kernel
theorem dX3_lookAt_9 : decode cX3_lookAt 9 = .ok (.getfield 29, 3) := by decide +kernel
theorem dX3_lookAt_12 : decode cX3_lookAt 12 = .ok (.iload_n 2, 1) := by decide +kernel
theorem dX3_lookAt_13 : decode cX3_lookAt 13 = .ok (.invokevirtual 33, 3) := by decide +kernel
theorem dX3_lookAt_16 : decode cX3_lookAt 16 = .ok (.return_, 1) := by decide +kernel
theorem dX3_broken_0 : decode cX3_broken 0 = .ok (.aload_n 1, 1) := by decide +kernel
theorem dX3_broken_1 : decode cX3_broken 1 = .ok (.iload_n 2, 1) := by decide +kernel
theorem dX3_broken_2 : decode cX3_broken 2 = .ok (.invokevirtual 39, 3) := by decide +kernel
theorem dX3_broken_5 : decode cX3_broken 5 = .ok (.istore 4, 2) := by decide +kernel
theorem dX3_broken_7 : decode cX3_broken 7 = .ok (.iload_n 3, 1) := by decide +kernel
theorem dX3_broken_8 : decode cX3_broken 8 = .ok (.iconst 1, 1) := by decide +kernel
theorem dX3_broken_9 : decode cX3_broken 9 = .ok (.if_icmp .gt 14, 3) := by decide +kernel
theorem dX3_broken_12 : decode cX3_broken 12 = .ok (.aload_n 0, 1) := by decide +kernel
theorem dX3_broken_13 : decode cX3_broken 13 = .ok (.aload_n 1, 1) := by decide +kernel
theorem dX3_broken_14 : decode cX3_broken 14 = .ok (.iload_n 2, 1) := by decide +kernel
theorem dX3_broken_15 : decode cX3_broken 15 = .ok (.invokevirtual 43, 3) := by decide +kernel
theorem dX3_broken_18 : decode cX3_broken 18 = .ok (.ifCond .eq 5, 3) := by decide +kernel
theorem dX3_broken_21 : decode cX3_broken 21 = .ok (.iconst 1, 1) := by decide +kernel
theorem dX3_broken_22 : decode cX3_broken 22 = .ok (.ireturn, 1) := by decide +kernel
theorem dX3_broken_23 : decode cX3_broken 23 = .ok (.iload_n 3, 1) := by decide +kernel
theorem dX3_broken_24 : decode cX3_broken 24 = .ok (.iconst 2, 1) := by decide +kernel
theorem dX3_broken_25 : decode cX3_broken 25 = .ok (.if_icmp .gt 14, 3) := by decide +kernel
theorem dX3_broken_28 : decode cX3_broken 28 = .ok (.aload_n 0, 1) := by decide +kernel
theorem dX3_broken_29 : decode cX3_broken 29 = .ok (.aload_n 1, 1) := by decide +kernel
theorem dX3_broken_30 : decode cX3_broken 30 = .ok (.iload_n 2, 1) := by decide +kernel
theorem dX3_broken_31 : decode cX3_broken 31 = .ok (.invokevirtual 47, 3) := by decide +kernel
theorem dX3_broken_34 : decode cX3_broken 34 = .ok (.ifCond .eq 5, 3) := by decide +kernel
theorem dX3_broken_37 : decode cX3_broken 37 = .ok (.iconst 2, 1) := by decide +kernel
theorem dX3_broken_38 : decode cX3_broken 38 = .ok (.ireturn, 1) := by decide +kernel
theorem dX3_broken_39 : decode cX3_broken 39 = .ok (.aload_n 0, 1) := by decide +kernel
theorem dX3_broken_40 : decode cX3_broken 40 = .ok (.aload_n 1, 1) := by decide +kernel
theorem dX3_broken_41 : decode cX3_broken 41 = .ok (.iload_n 2, 1) := by decide +kernel
theorem dX3_broken_42 : decode cX3_broken 42 = .ok (.iload 4, 2) := by decide +kernel
theorem dX3_broken_44 : decode cX3_broken 44 = .ok (.invokevirtual 50, 3) := by decide +kernel
theorem dX3_broken_47 : decode cX3_broken 47 = .ok (.ifCond .eq 5, 3) := by decide +kernel
theorem dX3_broken_50 : decode cX3_broken 50 = .ok (.iconst 3, 1) := by decide +kernel
theorem dX3_broken_51 : decode cX3_broken 51 = .ok (.ireturn, 1) := by decide +kernel
theorem dX3_broken_52 : decode cX3_broken 52 = .ok (.aload_n 0, 1) := by decide +kernel
theorem dX3_broken_53 : decode cX3_broken 53 = .ok (.getfield 15, 3) := by decide +kernel
theorem dX3_broken_56 : decode cX3_broken 56 = .ok (.aload_n 1, 1) := by decide +kernel
theorem dX3_broken_57 : decode cX3_broken 57 = .ok (.iload_n 2, 1) := by decide +kernel
theorem dX3_broken_58 : decode cX3_broken 58 = .ok (.iload 4, 2) := by decide +kernel
theorem dX3_broken_60 : decode cX3_broken 60 = .ok (.invokevirtual 54, 3) := by decide +kernel
theorem dX3_broken_63 : decode cX3_broken 63 = .ok (.aload_n 0, 1) := by decide +kernel
theorem dX3_broken_64 : decode cX3_broken 64 = .ok (.aload_n 1, 1) := by decide +kernel
theorem dX3_broken_65 : decode cX3_broken 65 = .ok (.iload_n 2, 1) := by decide +kernel
theorem dX3_broken_66 : decode cX3_broken 66 = .ok (.iload 4, 2) := by decide +kernel
theorem dX3_broken_68 : decode cX3_broken 68 = .ok (.invokevirtual 58, 3) := by decide +kernel
theorem dX3_broken_71 : decode cX3_broken 71 = .ok (.ifCond .eq 5, 3) := by decide +kernel
theorem dX3_broken_74 : decode cX3_broken 74 = .ok (.iconst 4, 1) := by decide +kernel
theorem dX3_broken_75 : decode cX3_broken 75 = .ok (.ireturn, 1) := by decide +kernel
theorem dX3_broken_76 : decode cX3_broken 76 = .ok (.aload_n 0, 1) := by decide +kernel
theorem dX3_broken_77 : decode cX3_broken 77 = .ok (.aload_n 1, 1) := by decide +kernel
theorem dX3_broken_78 : decode cX3_broken 78 = .ok (.iload_n 2, 1) := by decide +kernel
theorem dX3_broken_79 : decode cX3_broken 79 = .ok (.iload 4, 2) := by decide +kernel
theorem dX3_broken_81 : decode cX3_broken 81 = .ok (.invokevirtual 61, 3) := by decide +kernel
theorem dX3_broken_84 : decode cX3_broken 84 = .ok (.ifCond .eq 5, 3) := by decide +kernel
theorem dX3_broken_87 : decode cX3_broken 87 = .ok (.iconst 5, 1) := by decide +kernel
theorem dX3_broken_88 : decode cX3_broken 88 = .ok (.ireturn, 1) := by decide +kernel
theorem dX3_broken_89 : decode cX3_broken 89 = .ok (.aload_n 0, 1) := by decide +kernel
theorem dX3_broken_90 : decode cX3_broken 90 = .ok (.aload_n 1, 1) := by decide +kernel
theorem dX3_broken_91 : decode cX3_broken 91 = .ok (.iload_n 2, 1) := by decide +kernel
theorem dX3_broken_92 : decode cX3_broken 92 = .ok (.iload 4, 2) := by decide +kernel
theorem dX3_broken_94 : decode cX3_broken 94 = .ok (.invokevirtual 64, 3) := by decide +kernel
theorem dX3_broken_97 : decode cX3_broken 97 = .ok (.ifCond .eq 6, 3) := by decide +kernel
theorem dX3_broken_100 : decode cX3_broken 100 = .ok (.bipush 6, 2) := by decide +kernel
theorem dX3_broken_102 : decode cX3_broken 102 = .ok (.ireturn, 1) := by decide +kernel
theorem dX3_broken_103 : decode cX3_broken 103 = .ok (.aload_n 0, 1) := by decide +kernel
theorem dX3_broken_104 : decode cX3_broken 104 = .ok (.aload_n 1, 1) := by decide +kernel
theorem dX3_broken_105 : decode cX3_broken 105 = .ok (.iload_n 2, 1) := by decide +kernel
theorem dX3_broken_106 : decode cX3_broken 106 = .ok (.iload 4, 2) := by decide +kernel
theorem dX3_broken_108 : decode cX3_broken 108 = .ok (.invokevirtual 67, 3) := by decide +kernel
theorem dX3_broken_111 : decode cX3_broken 111 = .ok (.ifCond .eq 6, 3) := by decide +kernel
theorem dX3_broken_114 : decode cX3_broken 114 = .ok (.bipush 7, 2) := by decide +kernel
theorem dX3_broken_116 : decode cX3_broken 116 = .ok (.ireturn, 1) := by decide +kernel
theorem dX3_broken_117 : decode cX3_broken 117 = .ok (.iconst 0, 1) := by decide +kernel
theorem dX3_broken_118 : decode cX3_broken 118 = .ok (.ireturn, 1) := by decide +kernel
theorem dX3_found_0 : decode cX3_found 0 = .ok (.aload_n 0, 1) := by decide +kernel
theorem dX3_found_1 : decode cX3_found 1 = .ok (.iload_n 1, 1) := by decide +kernel
theorem dX3_found_2 : decode cX3_found 2 = .ok (.putfield 70, 3) := by decide +kernel
theorem dX3_found_5 : decode cX3_found 5 = .ok (.aload_n 0, 1) := by decide +kernel
theorem dX3_found_6 : decode cX3_found 6 = .ok (.iload_n 2, 1) := by decide +kernel
theorem dX3_found_7 : decode cX3_found 7 = .ok (.putfield 73, 3) := by decide +kernel
theorem dX3_found_10 : decode cX3_found 10 = .ok (.iconst 1, 1) := by decide +kernel
theorem dX3_found_11 : decode cX3_found 11 = .ok (.ireturn, 1) := by decide +kernel
theorem dX3_isLateNotice_0 : decode cX3_isLateNotice 0 = .ok (.iload_n 2, 1) := by decide +kernel
theorem dX3_isLateNotice_1 : decode cX3_isLateNotice 1 = .ok (.aload_n 0, 1) := by decide +kernel
theorem dX3_isLateNotice_2 : decode cX3_isLateNotice 2 = .ok (.getfield 9, 3) := by decide +kernel
theorem dX3_isLateNotice_5 : decode cX3_isLateNotice 5 = .ok (.getfield 76, 3) := by decide +kernel
theorem dX3_isLateNotice_8 : decode cX3_isLateNotice 8 = .ok (.aload_n 1, 1) := by decide +kernel
theorem dX3_isLateNotice_9 : decode cX3_isLateNotice 9 = .ok (.invokevirtual 81, 3) := by decide +kernel
theorem dX3_isLateNotice_12 : decode cX3_isLateNotice 12 = .ok (.iadd, 1) := by decide +kernel
theorem dX3_isLateNotice_13 : decode cX3_isLateNotice 13 = .ok (.if_icmp .ge 21, 3) := by decide +kernel
theorem dX3_isLateNotice_16 : decode cX3_isLateNotice 16 = .ok (.aload_n 0, 1) := by decide +kernel
theorem dX3_isLateNotice_17 : decode cX3_isLateNotice 17 = .ok (.iload_n 2, 1) := by decide +kernel
theorem dX3_isLateNotice_18 : decode cX3_isLateNotice 18 = .ok (.aload_n 1, 1) := by decide +kernel
theorem dX3_isLateNotice_19 : decode cX3_isLateNotice 19 = .ok (.getfield 85, 3) := by decide +kernel
theorem dX3_isLateNotice_22 : decode cX3_isLateNotice 22 = .ok (.iconst 0, 1) := by decide +kernel
theorem dX3_isLateNotice_23 : decode cX3_isLateNotice 23 = .ok (.iaload, 1) := by decide +kernel
theorem dX3_isLateNotice_24 : decode cX3_isLateNotice 24 = .ok (.invokevirtual 89, 3) := by decide +kernel
theorem dX3_isLateNotice_27 : decode cX3_isLateNotice 27 = .ok (.ifCond .eq 7, 3) := by decide +kernel
theorem dX3_isLateNotice_30 : decode cX3_isLateNotice 30 = .ok (.iconst 1, 1) := by decide +kernel
theorem dX3_isLateNotice_31 : decode cX3_isLateNotice 31 = .ok (.goto 4, 3) := by decide +kernel
theorem dX3_isLateNotice_34 : decode cX3_isLateNotice 34 = .ok (.iconst 0, 1) := by decide +kernel
theorem dX3_isLateNotice_35 : decode cX3_isLateNotice 35 = .ok (.ireturn, 1) := by decide +kernel
theorem dX3_isPastEnd_0 : decode cX3_isPastEnd 0 = .ok (.iload_n 2, 1) := by decide +kernel
theorem dX3_isPastEnd_1 : decode cX3_isPastEnd 1 = .ok (.aload_n 1, 1) := by decide +kernel
theorem dX3_isPastEnd_2 : decode cX3_isPastEnd 2 = .ok (.getfield 93, 3) := by decide +kernel
theorem dX3_isPastEnd_5 : decode cX3_isPastEnd 5 = .ok (.iadd, 1) := by decide +kernel
theorem dX3_isPastEnd_6 : decode cX3_isPastEnd 6 = .ok (.iconst 1, 1) := by decide +kernel
theorem dX3_isPastEnd_7 : decode cX3_isPastEnd 7 = .ok (.isub, 1) := by decide +kernel
theorem dX3_isPastEnd_8 : decode cX3_isPastEnd 8 = .ok (.sipush 399, 3) := by decide +kernel
theorem dX3_isPastEnd_11 : decode cX3_isPastEnd 11 = .ok (.if_icmp .le 23, 3) := by decide +kernel
theorem dX3_isPastEnd_14 : decode cX3_isPastEnd 14 = .ok (.aload_n 0, 1) := by decide +kernel
theorem dX3_isPastEnd_15 : decode cX3_isPastEnd 15 = .ok (.sipush 400, 3) := by decide +kernel
theorem dX3_isPastEnd_18 : decode cX3_isPastEnd 18 = .ok (.aload_n 1, 1) := by decide +kernel
theorem dX3_isPastEnd_19 : decode cX3_isPastEnd 19 = .ok (.getfield 85, 3) := by decide +kernel
theorem dX3_isPastEnd_22 : decode cX3_isPastEnd 22 = .ok (.iconst 0, 1) := by decide +kernel
theorem dX3_isPastEnd_23 : decode cX3_isPastEnd 23 = .ok (.iaload, 1) := by decide +kernel
theorem dX3_isPastEnd_24 : decode cX3_isPastEnd 24 = .ok (.invokevirtual 89, 3) := by decide +kernel
theorem dX3_isPastEnd_27 : decode cX3_isPastEnd 27 = .ok (.ifCond .eq 7, 3) := by decide +kernel
theorem dX3_isPastEnd_30 : decode cX3_isPastEnd 30 = .ok (.iconst 1, 1) := by decide +kernel
theorem dX3_isPastEnd_31 : decode cX3_isPastEnd 31 = .ok (.goto 4, 3) := by decide +kernel
theorem dX3_isPastEnd_34 : decode cX3_isPastEnd 34 = .ok (.iconst 0, 1) := by decide +kernel
theorem dX3_isPastEnd_35 : decode cX3_isPastEnd 35 = .ok (.ireturn, 1) := by decide +kernel
theorem dX3_isOnFeast_0 : decode cX3_isOnFeast 0 = .ok (.iload_n 2, 1) := by decide +kernel
theorem dX3_isOnFeast_1 : decode cX3_isOnFeast 1 = .ok (.istore 4, 2) := by decide +kernel
theorem dX3_isOnFeast_3 : decode cX3_isOnFeast 3 = .ok (.iload 4, 2) := by decide +kernel
theorem dX3_isOnFeast_5 : decode cX3_isOnFeast 5 = .ok (.iload_n 3, 1) := by decide +kernel
theorem dX3_isOnFeast_6 : decode cX3_isOnFeast 6 = .ok (.if_icmp .gt 79, 3) := by decide +kernel
theorem dX3_isOnFeast_9 : decode cX3_isOnFeast 9 = .ok (.aload_n 0, 1) := by decide +kernel
theorem dX3_isOnFeast_10 : decode cX3_isOnFeast 10 = .ok (.getfield 9, 3) := by decide +kernel
theorem dX3_isOnFeast_13 : decode cX3_isOnFeast 13 = .ok (.getfield 96, 3) := by decide +kernel
theorem dX3_isOnFeast_16 : decode cX3_isOnFeast 16 = .ok (.iload 4, 2) := by decide +kernel
theorem dX3_isOnFeast_18 : decode cX3_isOnFeast 18 = .ok (.baload, 1) := by decide +kernel
theorem dX3_isOnFeast_19 : decode cX3_isOnFeast 19 = .ok (.ifCond .ne 6, 3) := by decide +kernel
theorem dX3_isOnFeast_22 : decode cX3_isOnFeast 22 = .ok (.goto 57, 3) := by decide +kernel
theorem dX3_isOnFeast_25 : decode cX3_isOnFeast 25 = .ok (.iconst 0, 1) := by decide +kernel
theorem dX3_isOnFeast_26 : decode cX3_isOnFeast 26 = .ok (.istore 5, 2) := by decide +kernel
theorem dX3_isOnFeast_28 : decode cX3_isOnFeast 28 = .ok (.iload 5, 2) := by decide +kernel
theorem dX3_isOnFeast_30 : decode cX3_isOnFeast 30 = .ok (.aload_n 1, 1) := by decide +kernel
theorem dX3_isOnFeast_31 : decode cX3_isOnFeast 31 = .ok (.getfield 100, 3) := by decide +kernel
theorem dX3_isOnFeast_34 : decode cX3_isOnFeast 34 = .ok (.if_icmp .ge 45, 3) := by decide +kernel
theorem dX3_isOnFeast_37 : decode cX3_isOnFeast 37 = .ok (.aload_n 0, 1) := by decide +kernel
theorem dX3_isOnFeast_38 : decode cX3_isOnFeast 38 = .ok (.getfield 9, 3) := by decide +kernel
theorem dX3_isOnFeast_41 : decode cX3_isOnFeast 41 = .ok (.getfield 103, 3) := by decide +kernel
theorem dX3_isOnFeast_44 : decode cX3_isOnFeast 44 = .ok (.aload_n 1, 1) := by decide +kernel
theorem dX3_isOnFeast_45 : decode cX3_isOnFeast 45 = .ok (.getfield 85, 3) := by decide +kernel
theorem dX3_isOnFeast_48 : decode cX3_isOnFeast 48 = .ok (.iload 5, 2) := by decide +kernel
theorem dX3_isOnFeast_50 : decode cX3_isOnFeast 50 = .ok (.iaload, 1) := by decide +kernel
theorem dX3_isOnFeast_51 : decode cX3_isOnFeast 51 = .ok (.aaload, 1) := by decide +kernel
theorem dX3_isOnFeast_52 : decode cX3_isOnFeast 52 = .ok (.getfield 106, 3) := by decide +kernel
theorem dX3_isOnFeast_55 : decode cX3_isOnFeast 55 = .ok (.iconst 2, 1) := by decide +kernel
theorem dX3_isOnFeast_56 : decode cX3_isOnFeast 56 = .ok (.if_icmp .ne 17, 3) := by decide +kernel
theorem dX3_isOnFeast_59 : decode cX3_isOnFeast 59 = .ok (.aload_n 0, 1) := by decide +kernel
theorem dX3_isOnFeast_60 : decode cX3_isOnFeast 60 = .ok (.iload 4, 2) := by decide +kernel
theorem dX3_isOnFeast_62 : decode cX3_isOnFeast 62 = .ok (.aload_n 1, 1) := by decide +kernel
theorem dX3_isOnFeast_63 : decode cX3_isOnFeast 63 = .ok (.getfield 85, 3) := by decide +kernel
theorem dX3_isOnFeast_66 : decode cX3_isOnFeast 66 = .ok (.iload 5, 2) := by decide +kernel
theorem dX3_isOnFeast_68 : decode cX3_isOnFeast 68 = .ok (.iaload, 1) := by decide +kernel
theorem dX3_isOnFeast_69 : decode cX3_isOnFeast 69 = .ok (.invokevirtual 89, 3) := by decide +kernel
theorem dX3_isOnFeast_72 : decode cX3_isOnFeast 72 = .ok (.ireturn, 1) := by decide +kernel
theorem dX3_isOnFeast_73 : decode cX3_isOnFeast 73 = .ok (.iinc 5 1, 3) := by decide +kernel
theorem dX3_isOnFeast_76 : decode cX3_isOnFeast 76 = .ok (.goto (-48), 3) := by decide +kernel
theorem dX3_isOnFeast_79 : decode cX3_isOnFeast 79 = .ok (.iinc 4 1, 3) := by decide +kernel
theorem dX3_isOnFeast_82 : decode cX3_isOnFeast 82 = .ok (.goto (-79), 3) := by decide +kernel
theorem dX3_isOnFeast_85 : decode cX3_isOnFeast 85 = .ok (.iconst 0, 1) := by decide +kernel
theorem dX3_isOnFeast_86 : decode cX3_isOnFeast 86 = .ok (.ireturn, 1) := by decide +kernel
theorem dX3_lacksLanes_0 : decode cX3_lacksLanes 0 = .ok (.iload_n 2, 1) := by decide +kernel
theorem dX3_lacksLanes_1 : decode cX3_lacksLanes 1 = .ok (.istore 4, 2) := by decide +kernel
theorem dX3_lacksLanes_3 : decode cX3_lacksLanes 3 = .ok (.iload 4, 2) := by decide +kernel
theorem dX3_lacksLanes_5 : decode cX3_lacksLanes 5 = .ok (.iload_n 3, 1) := by decide +kernel
theorem dX3_lacksLanes_6 : decode cX3_lacksLanes 6 = .ok (.if_icmp .gt 90, 3) := by decide +kernel
theorem dX3_lacksLanes_9 : decode cX3_lacksLanes 9 = .ok (.iconst 0, 1) := by decide +kernel
theorem dX3_lacksLanes_10 : decode cX3_lacksLanes 10 = .ok (.istore 5, 2) := by decide +kernel
theorem dX3_lacksLanes_12 : decode cX3_lacksLanes 12 = .ok (.iload 5, 2) := by decide +kernel
theorem dX3_lacksLanes_14 : decode cX3_lacksLanes 14 = .ok (.aload_n 1, 1) := by decide +kernel
theorem dX3_lacksLanes_15 : decode cX3_lacksLanes 15 = .ok (.getfield 100, 3) := by decide +kernel
theorem dX3_lacksLanes_18 : decode cX3_lacksLanes 18 = .ok (.if_icmp .ge 72, 3) := by decide +kernel
theorem dX3_lacksLanes_21 : decode cX3_lacksLanes 21 = .ok (.aload_n 0, 1) := by decide +kernel
theorem dX3_lacksLanes_22 : decode cX3_lacksLanes 22 = .ok (.getfield 15, 3) := by decide +kernel
theorem dX3_lacksLanes_25 : decode cX3_lacksLanes 25 = .ok (.getfield 111, 3) := by decide +kernel
theorem dX3_lacksLanes_28 : decode cX3_lacksLanes 28 = .ok (.iload 5, 2) := by decide +kernel
theorem dX3_lacksLanes_30 : decode cX3_lacksLanes 30 = .ok (.aaload, 1) := by decide +kernel
theorem dX3_lacksLanes_31 : decode cX3_lacksLanes 31 = .ok (.iload 4, 2) := by decide +kernel
theorem dX3_lacksLanes_33 : decode cX3_lacksLanes 33 = .ok (.iaload, 1) := by decide +kernel
theorem dX3_lacksLanes_34 : decode cX3_lacksLanes 34 = .ok (.aload_n 0, 1) := by decide +kernel
theorem dX3_lacksLanes_35 : decode cX3_lacksLanes 35 = .ok (.getfield 15, 3) := by decide +kernel
theorem dX3_lacksLanes_38 : decode cX3_lacksLanes 38 = .ok (.getfield 115, 3) := by decide +kernel
theorem dX3_lacksLanes_41 : decode cX3_lacksLanes 41 = .ok (.iload 4, 2) := by decide +kernel
theorem dX3_lacksLanes_43 : decode cX3_lacksLanes 43 = .ok (.iaload, 1) := by decide +kernel
theorem dX3_lacksLanes_44 : decode cX3_lacksLanes 44 = .ok (.iadd, 1) := by decide +kernel
theorem dX3_lacksLanes_45 : decode cX3_lacksLanes 45 = .ok (.istore 6, 2) := by decide +kernel
theorem dX3_lacksLanes_47 : decode cX3_lacksLanes 47 = .ok (.iload 6, 2) := by decide +kernel
theorem dX3_lacksLanes_49 : decode cX3_lacksLanes 49 = .ok (.aload_n 0, 1) := by decide +kernel
theorem dX3_lacksLanes_50 : decode cX3_lacksLanes 50 = .ok (.getfield 9, 3) := by decide +kernel
theorem dX3_lacksLanes_53 : decode cX3_lacksLanes 53 = .ok (.getfield 103, 3) := by decide +kernel
theorem dX3_lacksLanes_56 : decode cX3_lacksLanes 56 = .ok (.aload_n 1, 1) := by decide +kernel
theorem dX3_lacksLanes_57 : decode cX3_lacksLanes 57 = .ok (.getfield 85, 3) := by decide +kernel
theorem dX3_lacksLanes_60 : decode cX3_lacksLanes 60 = .ok (.iload 5, 2) := by decide +kernel
theorem dX3_lacksLanes_62 : decode cX3_lacksLanes 62 = .ok (.iaload, 1) := by decide +kernel
theorem dX3_lacksLanes_63 : decode cX3_lacksLanes 63 = .ok (.aaload, 1) := by decide +kernel
theorem dX3_lacksLanes_64 : decode cX3_lacksLanes 64 = .ok (.getfield 118, 3) := by decide +kernel
theorem dX3_lacksLanes_67 : decode cX3_lacksLanes 67 = .ok (.if_icmp .le 17, 3) := by decide +kernel
theorem dX3_lacksLanes_70 : decode cX3_lacksLanes 70 = .ok (.aload_n 0, 1) := by decide +kernel
theorem dX3_lacksLanes_71 : decode cX3_lacksLanes 71 = .ok (.iload 4, 2) := by decide +kernel
theorem dX3_lacksLanes_73 : decode cX3_lacksLanes 73 = .ok (.aload_n 1, 1) := by decide +kernel
theorem dX3_lacksLanes_74 : decode cX3_lacksLanes 74 = .ok (.getfield 85, 3) := by decide +kernel
theorem dX3_lacksLanes_77 : decode cX3_lacksLanes 77 = .ok (.iload 5, 2) := by decide +kernel
theorem dX3_lacksLanes_79 : decode cX3_lacksLanes 79 = .ok (.iaload, 1) := by decide +kernel
theorem dX3_lacksLanes_80 : decode cX3_lacksLanes 80 = .ok (.invokevirtual 89, 3) := by decide +kernel
theorem dX3_lacksLanes_83 : decode cX3_lacksLanes 83 = .ok (.ireturn, 1) := by decide +kernel
theorem dX3_lacksLanes_84 : decode cX3_lacksLanes 84 = .ok (.iinc 5 1, 3) := by decide +kernel
theorem dX3_lacksLanes_87 : decode cX3_lacksLanes 87 = .ok (.goto (-75), 3) := by decide +kernel
theorem dX3_lacksLanes_90 : decode cX3_lacksLanes 90 = .ok (.iinc 4 1, 3) := by decide +kernel
theorem dX3_lacksLanes_93 : decode cX3_lacksLanes 93 = .ok (.goto (-90), 3) := by decide +kernel
theorem dX3_lacksLanes_96 : decode cX3_lacksLanes 96 = .ok (.iconst 0, 1) := by decide +kernel
theorem dX3_lacksLanes_97 : decode cX3_lacksLanes 97 = .ok (.ireturn, 1) := by decide +kernel
theorem dX3_meetsDepth_0 : decode cX3_meetsDepth 0 = .ok (.sipush 400, 3) := by decide +kernel
theorem dX3_meetsDepth_3 : decode cX3_meetsDepth 3 = .ok (.istore 4, 2) := by decide +kernel
theorem dX3_meetsDepth_5 : decode cX3_meetsDepth 5 = .ok (.bipush 40, 2) := by decide +kernel
theorem dX3_meetsDepth_7 : decode cX3_meetsDepth 7 = .ok (.istore 5, 2) := by decide +kernel
theorem dX3_meetsDepth_9 : decode cX3_meetsDepth 9 = .ok (.iconst 0, 1) := by decide +kernel
theorem dX3_meetsDepth_10 : decode cX3_meetsDepth 10 = .ok (.istore 6, 2) := by decide +kernel
theorem dX3_meetsDepth_12 : decode cX3_meetsDepth 12 = .ok (.iload 6, 2) := by decide +kernel
theorem dX3_meetsDepth_14 : decode cX3_meetsDepth 14 = .ok (.aload_n 0, 1) := by decide +kernel
theorem dX3_meetsDepth_15 : decode cX3_meetsDepth 15 = .ok (.getfield 15, 3) := by decide +kernel
theorem dX3_meetsDepth_18 : decode cX3_meetsDepth 18 = .ok (.getfield 121, 3) := by decide +kernel
theorem dX3_meetsDepth_21 : decode cX3_meetsDepth 21 = .ok (.if_icmp .ge 133, 3) := by decide +kernel
theorem dX3_meetsDepth_24 : decode cX3_meetsDepth 24 = .ok (.aload_n 0, 1) := by decide +kernel
theorem dX3_meetsDepth_25 : decode cX3_meetsDepth 25 = .ok (.getfield 9, 3) := by decide +kernel
theorem dX3_meetsDepth_28 : decode cX3_meetsDepth 28 = .ok (.getfield 124, 3) := by decide +kernel
theorem dX3_meetsDepth_31 : decode cX3_meetsDepth 31 = .ok (.aload_n 0, 1) := by decide +kernel
theorem dX3_meetsDepth_32 : decode cX3_meetsDepth 32 = .ok (.getfield 15, 3) := by decide +kernel
theorem dX3_meetsDepth_35 : decode cX3_meetsDepth 35 = .ok (.getfield 128, 3) := by decide +kernel
theorem dX3_meetsDepth_38 : decode cX3_meetsDepth 38 = .ok (.iload 6, 2) := by decide +kernel
theorem dX3_meetsDepth_40 : decode cX3_meetsDepth 40 = .ok (.iaload, 1) := by decide +kernel
theorem dX3_meetsDepth_41 : decode cX3_meetsDepth 41 = .ok (.aaload, 1) := by decide +kernel
theorem dX3_meetsDepth_42 : decode cX3_meetsDepth 42 = .ok (.astore 7, 2) := by decide +kernel
theorem dX3_meetsDepth_44 : decode cX3_meetsDepth 44 = .ok (.aload 7, 2) := by decide +kernel
theorem dX3_meetsDepth_46 : decode cX3_meetsDepth 46 = .ok (.getfield 131, 3) := by decide +kernel
theorem dX3_meetsDepth_49 : decode cX3_meetsDepth 49 = .ok (.aload_n 1, 1) := by decide +kernel
theorem dX3_meetsDepth_50 : decode cX3_meetsDepth 50 = .ok (.getfield 131, 3) := by decide +kernel
theorem dX3_meetsDepth_53 : decode cX3_meetsDepth 53 = .ok (.if_icmp .eq 95, 3) := by decide +kernel
theorem dX3_meetsDepth_56 : decode cX3_meetsDepth 56 = .ok (.aload 7, 2) := by decide +kernel
theorem dX3_meetsDepth_58 : decode cX3_meetsDepth 58 = .ok (.getfield 134, 3) := by decide +kernel
theorem dX3_meetsDepth_61 : decode cX3_meetsDepth 61 = .ok (.aload_n 1, 1) := by decide +kernel
theorem dX3_meetsDepth_62 : decode cX3_meetsDepth 62 = .ok (.getfield 134, 3) := by decide +kernel
theorem dX3_meetsDepth_65 : decode cX3_meetsDepth 65 = .ok (.if_icmp .ne 83, 3) := by decide +kernel
theorem dX3_meetsDepth_68 : decode cX3_meetsDepth 68 = .ok (.aload 7, 2) := by decide +kernel
theorem dX3_meetsDepth_70 : decode cX3_meetsDepth 70 = .ok (.getfield 137, 3) := by decide +kernel
theorem dX3_meetsDepth_73 : decode cX3_meetsDepth 73 = .ok (.aload_n 1, 1) := by decide +kernel
theorem dX3_meetsDepth_74 : decode cX3_meetsDepth 74 = .ok (.getfield 23, 3) := by decide +kernel
theorem dX3_meetsDepth_77 : decode cX3_meetsDepth 77 = .ok (.if_icmp .ne 6, 3) := by decide +kernel
theorem dX3_meetsDepth_80 : decode cX3_meetsDepth 80 = .ok (.goto 68, 3) := by decide +kernel
theorem dX3_meetsDepth_83 : decode cX3_meetsDepth 83 = .ok (.iload_n 2, 1) := by decide +kernel
theorem dX3_meetsDepth_84 : decode cX3_meetsDepth 84 = .ok (.aload 7, 2) := by decide +kernel
theorem dX3_meetsDepth_86 : decode cX3_meetsDepth 86 = .ok (.getfield 140, 3) := by decide +kernel
theorem dX3_meetsDepth_89 : decode cX3_meetsDepth 89 = .ok (.invokestatic 143, 3) := by decide +kernel
theorem dX3_meetsDepth_92 : decode cX3_meetsDepth 92 = .ok (.istore 8, 2) := by decide +kernel
theorem dX3_meetsDepth_94 : decode cX3_meetsDepth 94 = .ok (.iload 8, 2) := by decide +kernel
theorem dX3_meetsDepth_96 : decode cX3_meetsDepth 96 = .ok (.iload_n 3, 1) := by decide +kernel
theorem dX3_meetsDepth_97 : decode cX3_meetsDepth 97 = .ok (.aload 7, 2) := by decide +kernel
theorem dX3_meetsDepth_99 : decode cX3_meetsDepth 99 = .ok (.getfield 149, 3) := by decide +kernel
theorem dX3_meetsDepth_102 : decode cX3_meetsDepth 102 = .ok (.invokestatic 152, 3) := by decide +kernel
theorem dX3_meetsDepth_105 : decode cX3_meetsDepth 105 = .ok (.if_icmp .gt 43, 3) := by decide +kernel
theorem dX3_meetsDepth_108 : decode cX3_meetsDepth 108 = .ok (.iload 8, 2) := by decide +kernel
theorem dX3_meetsDepth_110 : decode cX3_meetsDepth 110 = .ok (.iload 4, 2) := by decide +kernel
theorem dX3_meetsDepth_112 : decode cX3_meetsDepth 112 = .ok (.if_icmp .le 6, 3) := by decide +kernel
theorem dX3_meetsDepth_115 : decode cX3_meetsDepth 115 = .ok (.goto 33, 3) := by decide +kernel
theorem dX3_meetsDepth_118 : decode cX3_meetsDepth 118 = .ok (.aload_n 1, 1) := by decide +kernel
theorem dX3_meetsDepth_119 : decode cX3_meetsDepth 119 = .ok (.aload 7, 2) := by decide +kernel
theorem dX3_meetsDepth_121 : decode cX3_meetsDepth 121 = .ok (.invokestatic 155, 3) := by decide +kernel
theorem dX3_meetsDepth_124 : decode cX3_meetsDepth 124 = .ok (.istore 9, 2) := by decide +kernel
theorem dX3_meetsDepth_126 : decode cX3_meetsDepth 126 = .ok (.iload 8, 2) := by decide +kernel
theorem dX3_meetsDepth_128 : decode cX3_meetsDepth 128 = .ok (.iload 4, 2) := by decide +kernel
theorem dX3_meetsDepth_130 : decode cX3_meetsDepth 130 = .ok (.if_icmp .lt 10, 3) := by decide +kernel
theorem dX3_meetsDepth_133 : decode cX3_meetsDepth 133 = .ok (.iload 9, 2) := by decide +kernel
theorem dX3_meetsDepth_135 : decode cX3_meetsDepth 135 = .ok (.iload 5, 2) := by decide +kernel
theorem dX3_meetsDepth_137 : decode cX3_meetsDepth 137 = .ok (.if_icmp .ge 7, 3) := by decide +kernel
theorem dX3_meetsDepth_140 : decode cX3_meetsDepth 140 = .ok (.iload 9, 2) := by decide +kernel
theorem dX3_meetsDepth_142 : decode cX3_meetsDepth 142 = .ok (.istore 5, 2) := by decide +kernel
theorem dX3_meetsDepth_144 : decode cX3_meetsDepth 144 = .ok (.iload 8, 2) := by decide +kernel
theorem dX3_meetsDepth_146 : decode cX3_meetsDepth 146 = .ok (.istore 4, 2) := by decide +kernel
theorem dX3_meetsDepth_148 : decode cX3_meetsDepth 148 = .ok (.iinc 6 1, 3) := by decide +kernel
theorem dX3_meetsDepth_151 : decode cX3_meetsDepth 151 = .ok (.goto (-139), 3) := by decide +kernel
theorem dX3_meetsDepth_154 : decode cX3_meetsDepth 154 = .ok (.iload 4, 2) := by decide +kernel
theorem dX3_meetsDepth_156 : decode cX3_meetsDepth 156 = .ok (.sipush 400, 3) := by decide +kernel
theorem dX3_meetsDepth_159 : decode cX3_meetsDepth 159 = .ok (.if_icmp .ge 18, 3) := by decide +kernel
theorem dX3_meetsDepth_162 : decode cX3_meetsDepth 162 = .ok (.aload_n 0, 1) := by decide +kernel
theorem dX3_meetsDepth_163 : decode cX3_meetsDepth 163 = .ok (.iload 4, 2) := by decide +kernel
theorem dX3_meetsDepth_165 : decode cX3_meetsDepth 165 = .ok (.iload 5, 2) := by decide +kernel
theorem dX3_meetsDepth_167 : decode cX3_meetsDepth 167 = .ok (.invokevirtual 89, 3) := by decide +kernel
theorem dX3_meetsDepth_170 : decode cX3_meetsDepth 170 = .ok (.ifCond .eq 7, 3) := by decide +kernel
theorem dX3_meetsDepth_173 : decode cX3_meetsDepth 173 = .ok (.iconst 1, 1) := by decide +kernel
theorem dX3_meetsDepth_174 : decode cX3_meetsDepth 174 = .ok (.goto 4, 3) := by decide +kernel
theorem dX3_meetsDepth_177 : decode cX3_meetsDepth 177 = .ok (.iconst 0, 1) := by decide +kernel
theorem dX3_meetsDepth_178 : decode cX3_meetsDepth 178 = .ok (.ireturn, 1) := by decide +kernel
theorem dX3_leastShared_0 : decode cX3_leastShared 0 = .ok (.iconst 0, 1) := by decide +kernel
theorem dX3_leastShared_1 : decode cX3_leastShared 1 = .ok (.istore_n 2, 1) := by decide +kernel
theorem dX3_leastShared_2 : decode cX3_leastShared 2 = .ok (.iload_n 2, 1) := by decide +kernel
theorem dX3_leastShared_3 : decode cX3_leastShared 3 = .ok (.aload_n 0, 1) := by decide +kernel
theorem dX3_leastShared_4 : decode cX3_leastShared 4 = .ok (.getfield 100, 3) := by decide +kernel
theorem dX3_leastShared_7 : decode cX3_leastShared 7 = .ok (.if_icmp .ge 29, 3) := by decide +kernel
theorem dX3_leastShared_10 : decode cX3_leastShared 10 = .ok (.aload_n 1, 1) := by decide +kernel
theorem dX3_leastShared_11 : decode cX3_leastShared 11 = .ok (.aload_n 0, 1) := by decide +kernel
theorem dX3_leastShared_12 : decode cX3_leastShared 12 = .ok (.getfield 85, 3) := by decide +kernel
theorem dX3_leastShared_15 : decode cX3_leastShared 15 = .ok (.iload_n 2, 1) := by decide +kernel
theorem dX3_leastShared_16 : decode cX3_leastShared 16 = .ok (.iaload, 1) := by decide +kernel
theorem dX3_leastShared_17 : decode cX3_leastShared 17 = .ok (.invokevirtual 159, 3) := by decide +kernel
theorem dX3_leastShared_20 : decode cX3_leastShared 20 = .ok (.ifCond .eq 10, 3) := by decide +kernel
theorem dX3_leastShared_23 : decode cX3_leastShared 23 = .ok (.aload_n 0, 1) := by decide +kernel
theorem dX3_leastShared_24 : decode cX3_leastShared 24 = .ok (.getfield 85, 3) := by decide +kernel
theorem dX3_leastShared_27 : decode cX3_leastShared 27 = .ok (.iload_n 2, 1) := by decide +kernel
theorem dX3_leastShared_28 : decode cX3_leastShared 28 = .ok (.iaload, 1) := by decide +kernel
theorem dX3_leastShared_29 : decode cX3_leastShared 29 = .ok (.ireturn, 1) := by decide +kernel
theorem dX3_leastShared_30 : decode cX3_leastShared 30 = .ok (.iinc 2 1, 3) := by decide +kernel
theorem dX3_leastShared_33 : decode cX3_leastShared 33 = .ok (.goto (-31), 3) := by decide +kernel
theorem dX3_leastShared_36 : decode cX3_leastShared 36 = .ok (.bipush 40, 2) := by decide +kernel
theorem dX3_leastShared_38 : decode cX3_leastShared 38 = .ok (.ireturn, 1) := by decide +kernel
theorem dX3_breaksRest_0 : decode cX3_breaksRest 0 = .ok (.iconst 0, 1) := by decide +kernel
theorem dX3_breaksRest_1 : decode cX3_breaksRest 1 = .ok (.istore 4, 2) := by decide +kernel
theorem dX3_breaksRest_3 : decode cX3_breaksRest 3 = .ok (.iload 4, 2) := by decide +kernel
theorem dX3_breaksRest_5 : decode cX3_breaksRest 5 = .ok (.aload_n 1, 1) := by decide +kernel
theorem dX3_breaksRest_6 : decode cX3_breaksRest 6 = .ok (.getfield 100, 3) := by decide +kernel
theorem dX3_breaksRest_9 : decode cX3_breaksRest 9 = .ok (.if_icmp .ge 160, 3) := by decide +kernel
theorem dX3_breaksRest_12 : decode cX3_breaksRest 12 = .ok (.aload_n 1, 1) := by decide +kernel
theorem dX3_breaksRest_13 : decode cX3_breaksRest 13 = .ok (.getfield 85, 3) := by decide +kernel
theorem dX3_breaksRest_16 : decode cX3_breaksRest 16 = .ok (.iload 4, 2) := by decide +kernel
theorem dX3_breaksRest_18 : decode cX3_breaksRest 18 = .ok (.iaload, 1) := by decide +kernel
theorem dX3_breaksRest_19 : decode cX3_breaksRest 19 = .ok (.istore 5, 2) := by decide +kernel
theorem dX3_breaksRest_21 : decode cX3_breaksRest 21 = .ok (.aload_n 0, 1) := by decide +kernel
theorem dX3_breaksRest_22 : decode cX3_breaksRest 22 = .ok (.getfield 9, 3) := by decide +kernel
theorem dX3_breaksRest_25 : decode cX3_breaksRest 25 = .ok (.getfield 103, 3) := by decide +kernel
theorem dX3_breaksRest_28 : decode cX3_breaksRest 28 = .ok (.iload 5, 2) := by decide +kernel
theorem dX3_breaksRest_30 : decode cX3_breaksRest 30 = .ok (.aaload, 1) := by decide +kernel
theorem dX3_breaksRest_31 : decode cX3_breaksRest 31 = .ok (.getfield 163, 3) := by decide +kernel
theorem dX3_breaksRest_34 : decode cX3_breaksRest 34 = .ok (.istore 6, 2) := by decide +kernel
theorem dX3_breaksRest_36 : decode cX3_breaksRest 36 = .ok (.iconst 0, 1) := by decide +kernel
theorem dX3_breaksRest_37 : decode cX3_breaksRest 37 = .ok (.istore 7, 2) := by decide +kernel
theorem dX3_breaksRest_39 : decode cX3_breaksRest 39 = .ok (.iload 7, 2) := by decide +kernel
theorem dX3_breaksRest_41 : decode cX3_breaksRest 41 = .ok (.aload_n 0, 1) := by decide +kernel
theorem dX3_breaksRest_42 : decode cX3_breaksRest 42 = .ok (.getfield 15, 3) := by decide +kernel
theorem dX3_breaksRest_45 : decode cX3_breaksRest 45 = .ok (.getfield 121, 3) := by decide +kernel
theorem dX3_breaksRest_48 : decode cX3_breaksRest 48 = .ok (.if_icmp .ge 115, 3) := by decide +kernel
theorem dX3_breaksRest_51 : decode cX3_breaksRest 51 = .ok (.aload_n 0, 1) := by decide +kernel
theorem dX3_breaksRest_52 : decode cX3_breaksRest 52 = .ok (.getfield 9, 3) := by decide +kernel
theorem dX3_breaksRest_55 : decode cX3_breaksRest 55 = .ok (.getfield 124, 3) := by decide +kernel
theorem dX3_breaksRest_58 : decode cX3_breaksRest 58 = .ok (.aload_n 0, 1) := by decide +kernel
theorem dX3_breaksRest_59 : decode cX3_breaksRest 59 = .ok (.getfield 15, 3) := by decide +kernel
theorem dX3_breaksRest_62 : decode cX3_breaksRest 62 = .ok (.getfield 128, 3) := by decide +kernel
theorem dX3_breaksRest_65 : decode cX3_breaksRest 65 = .ok (.iload 7, 2) := by decide +kernel
theorem dX3_breaksRest_67 : decode cX3_breaksRest 67 = .ok (.iaload, 1) := by decide +kernel
theorem dX3_breaksRest_68 : decode cX3_breaksRest 68 = .ok (.aaload, 1) := by decide +kernel
theorem dX3_breaksRest_69 : decode cX3_breaksRest 69 = .ok (.astore 8, 2) := by decide +kernel
theorem dX3_breaksRest_71 : decode cX3_breaksRest 71 = .ok (.aload 8, 2) := by decide +kernel
theorem dX3_breaksRest_73 : decode cX3_breaksRest 73 = .ok (.iload 5, 2) := by decide +kernel
theorem dX3_breaksRest_75 : decode cX3_breaksRest 75 = .ok (.invokevirtual 159, 3) := by decide +kernel
theorem dX3_breaksRest_78 : decode cX3_breaksRest 78 = .ok (.ifCond .ne 6, 3) := by decide +kernel
theorem dX3_breaksRest_81 : decode cX3_breaksRest 81 = .ok (.goto 76, 3) := by decide +kernel
theorem dX3_breaksRest_84 : decode cX3_breaksRest 84 = .ok (.aload_n 1, 1) := by decide +kernel
theorem dX3_breaksRest_85 : decode cX3_breaksRest 85 = .ok (.getfield 166, 3) := by decide +kernel
theorem dX3_breaksRest_88 : decode cX3_breaksRest 88 = .ok (.iconst 3, 1) := by decide +kernel
theorem dX3_breaksRest_89 : decode cX3_breaksRest 89 = .ok (.if_icmp .eq 25, 3) := by decide +kernel
theorem dX3_breaksRest_92 : decode cX3_breaksRest 92 = .ok (.aload 8, 2) := by decide +kernel
theorem dX3_breaksRest_94 : decode cX3_breaksRest 94 = .ok (.getfield 149, 3) := by decide +kernel
theorem dX3_breaksRest_97 : decode cX3_breaksRest 97 = .ok (.iload 6, 2) := by decide +kernel
theorem dX3_breaksRest_99 : decode cX3_breaksRest 99 = .ok (.iload_n 2, 1) := by decide +kernel
theorem dX3_breaksRest_100 : decode cX3_breaksRest 100 = .ok (.invokestatic 169, 3) := by decide +kernel
theorem dX3_breaksRest_103 : decode cX3_breaksRest 103 = .ok (.ifCond .eq 11, 3) := by decide +kernel
theorem dX3_breaksRest_106 : decode cX3_breaksRest 106 = .ok (.aload_n 0, 1) := by decide +kernel
theorem dX3_breaksRest_107 : decode cX3_breaksRest 107 = .ok (.iload_n 2, 1) := by decide +kernel
theorem dX3_breaksRest_108 : decode cX3_breaksRest 108 = .ok (.iload 5, 2) := by decide +kernel
theorem dX3_breaksRest_110 : decode cX3_breaksRest 110 = .ok (.invokevirtual 89, 3) := by decide +kernel
theorem dX3_breaksRest_113 : decode cX3_breaksRest 113 = .ok (.ireturn, 1) := by decide +kernel
theorem dX3_breaksRest_114 : decode cX3_breaksRest 114 = .ok (.aload 8, 2) := by decide +kernel
theorem dX3_breaksRest_116 : decode cX3_breaksRest 116 = .ok (.getfield 166, 3) := by decide +kernel
theorem dX3_breaksRest_119 : decode cX3_breaksRest 119 = .ok (.iconst 3, 1) := by decide +kernel
theorem dX3_breaksRest_120 : decode cX3_breaksRest 120 = .ok (.if_icmp .eq 37, 3) := by decide +kernel
theorem dX3_breaksRest_123 : decode cX3_breaksRest 123 = .ok (.aload 8, 2) := by decide +kernel
theorem dX3_breaksRest_125 : decode cX3_breaksRest 125 = .ok (.getfield 173, 3) := by decide +kernel
theorem dX3_breaksRest_128 : decode cX3_breaksRest 128 = .ok (.iconst 3, 1) := by decide +kernel
theorem dX3_breaksRest_129 : decode cX3_breaksRest 129 = .ok (.if_icmp .ne 6, 3) := by decide +kernel
theorem dX3_breaksRest_132 : decode cX3_breaksRest 132 = .ok (.goto 25, 3) := by decide +kernel
theorem dX3_breaksRest_135 : decode cX3_breaksRest 135 = .ok (.iload_n 3, 1) := by decide +kernel
theorem dX3_breaksRest_136 : decode cX3_breaksRest 136 = .ok (.iload 6, 2) := by decide +kernel
theorem dX3_breaksRest_138 : decode cX3_breaksRest 138 = .ok (.aload 8, 2) := by decide +kernel
theorem dX3_breaksRest_140 : decode cX3_breaksRest 140 = .ok (.getfield 140, 3) := by decide +kernel
theorem dX3_breaksRest_143 : decode cX3_breaksRest 143 = .ok (.invokestatic 169, 3) := by decide +kernel
theorem dX3_breaksRest_146 : decode cX3_breaksRest 146 = .ok (.ifCond .eq 11, 3) := by decide +kernel
theorem dX3_breaksRest_149 : decode cX3_breaksRest 149 = .ok (.aload_n 0, 1) := by decide +kernel
theorem dX3_breaksRest_150 : decode cX3_breaksRest 150 = .ok (.iload_n 2, 1) := by decide +kernel
theorem dX3_breaksRest_151 : decode cX3_breaksRest 151 = .ok (.iload 5, 2) := by decide +kernel
theorem dX3_breaksRest_153 : decode cX3_breaksRest 153 = .ok (.invokevirtual 89, 3) := by decide +kernel
theorem dX3_breaksRest_156 : decode cX3_breaksRest 156 = .ok (.ireturn, 1) := by decide +kernel
theorem dX3_breaksRest_157 : decode cX3_breaksRest 157 = .ok (.iinc 7 1, 3) := by decide +kernel
theorem dX3_breaksRest_160 : decode cX3_breaksRest 160 = .ok (.goto (-121), 3) := by decide +kernel
theorem dX3_breaksRest_163 : decode cX3_breaksRest 163 = .ok (.iinc 4 1, 3) := by decide +kernel
theorem dX3_breaksRest_166 : decode cX3_breaksRest 166 = .ok (.goto (-163), 3) := by decide +kernel
theorem dX3_breaksRest_169 : decode cX3_breaksRest 169 = .ok (.iconst 0, 1) := by decide +kernel
theorem dX3_breaksRest_170 : decode cX3_breaksRest 170 = .ok (.ireturn, 1) := by decide +kernel
theorem dX3_rests_0 : decode cX3_rests 0 = .ok (.iload_n 0, 1) := by decide +kernel
theorem dX3_rests_1 : decode cX3_rests 1 = .ok (.iload_n 2, 1) := by decide +kernel
theorem dX3_rests_2 : decode cX3_rests 2 = .ok (.if_icmp .ge 14, 3) := by decide +kernel
theorem dX3_rests_5 : decode cX3_rests 5 = .ok (.iload_n 0, 1) := by decide +kernel
theorem dX3_rests_6 : decode cX3_rests 6 = .ok (.iload_n 1, 1) := by decide +kernel
theorem dX3_rests_7 : decode cX3_rests 7 = .ok (.iadd, 1) := by decide +kernel
theorem dX3_rests_8 : decode cX3_rests 8 = .ok (.iload_n 2, 1) := by decide +kernel
theorem dX3_rests_9 : decode cX3_rests 9 = .ok (.if_icmp .lt 7, 3) := by decide +kernel
theorem dX3_rests_12 : decode cX3_rests 12 = .ok (.iconst 1, 1) := by decide +kernel
theorem dX3_rests_13 : decode cX3_rests 13 = .ok (.goto 4, 3) := by decide +kernel
theorem dX3_rests_16 : decode cX3_rests 16 = .ok (.iconst 0, 1) := by decide +kernel
theorem dX3_rests_17 : decode cX3_rests 17 = .ok (.ireturn, 1) := by decide +kernel
theorem dX3_blocksWay_0 : decode cX3_blocksWay 0 = .ok (.lconst 0, 1) := by decide +kernel
theorem dX3_blocksWay_1 : decode cX3_blocksWay 1 = .ok (.lstore 4, 2) := by decide +kernel
theorem dX3_blocksWay_3 : decode cX3_blocksWay 3 = .ok (.lconst 0, 1) := by decide +kernel
theorem dX3_blocksWay_4 : decode cX3_blocksWay 4 = .ok (.lstore 6, 2) := by decide +kernel
theorem dX3_blocksWay_6 : decode cX3_blocksWay 6 = .ok (.iload_n 2, 1) := by decide +kernel
theorem dX3_blocksWay_7 : decode cX3_blocksWay 7 = .ok (.istore 8, 2) := by decide +kernel
theorem dX3_blocksWay_9 : decode cX3_blocksWay 9 = .ok (.iload 8, 2) := by decide +kernel
theorem dX3_blocksWay_11 : decode cX3_blocksWay 11 = .ok (.iload_n 3, 1) := by decide +kernel
theorem dX3_blocksWay_12 : decode cX3_blocksWay 12 = .ok (.if_icmp .gt 139, 3) := by decide +kernel
theorem dX3_blocksWay_15 : decode cX3_blocksWay 15 = .ok (.aload_n 0, 1) := by decide +kernel
theorem dX3_blocksWay_16 : decode cX3_blocksWay 16 = .ok (.aload_n 1, 1) := by decide +kernel
theorem dX3_blocksWay_17 : decode cX3_blocksWay 17 = .ok (.iload 8, 2) := by decide +kernel
theorem dX3_blocksWay_19 : decode cX3_blocksWay 19 = .ok (.invokevirtual 176, 3) := by decide +kernel
theorem dX3_blocksWay_22 : decode cX3_blocksWay 22 = .ok (.lstore 9, 2) := by decide +kernel
theorem dX3_blocksWay_24 : decode cX3_blocksWay 24 = .ok (.lload 9, 2) := by decide +kernel
theorem dX3_blocksWay_26 : decode cX3_blocksWay 26 = .ok (.lconst 0, 1) := by decide +kernel
theorem dX3_blocksWay_27 : decode cX3_blocksWay 27 = .ok (.lcmp, 1) := by decide +kernel
theorem dX3_blocksWay_28 : decode cX3_blocksWay 28 = .ok (.ifCond .ne 6, 3) := by decide +kernel
theorem dX3_blocksWay_31 : decode cX3_blocksWay 31 = .ok (.goto 114, 3) := by decide +kernel
theorem dX3_blocksWay_34 : decode cX3_blocksWay 34 = .ok (.aload_n 0, 1) := by decide +kernel
theorem dX3_blocksWay_35 : decode cX3_blocksWay 35 = .ok (.getfield 15, 3) := by decide +kernel
theorem dX3_blocksWay_38 : decode cX3_blocksWay 38 = .ok (.iload 8, 2) := by decide +kernel
theorem dX3_blocksWay_40 : decode cX3_blocksWay 40 = .ok (.invokevirtual 180, 3) := by decide +kernel
theorem dX3_blocksWay_43 : decode cX3_blocksWay 43 = .ok (.lstore 11, 2) := by decide +kernel
theorem dX3_blocksWay_45 : decode cX3_blocksWay 45 = .ok (.lload 9, 2) := by decide +kernel
theorem dX3_blocksWay_47 : decode cX3_blocksWay 47 = .ok (.lload 4, 2) := by decide +kernel
theorem dX3_blocksWay_49 : decode cX3_blocksWay 49 = .ok (.lcmp, 1) := by decide +kernel
theorem dX3_blocksWay_50 : decode cX3_blocksWay 50 = .ok (.ifCond .ne 14, 3) := by decide +kernel
theorem dX3_blocksWay_53 : decode cX3_blocksWay 53 = .ok (.lload 11, 2) := by decide +kernel
theorem dX3_blocksWay_55 : decode cX3_blocksWay 55 = .ok (.lload 6, 2) := by decide +kernel
theorem dX3_blocksWay_57 : decode cX3_blocksWay 57 = .ok (.lcmp, 1) := by decide +kernel
theorem dX3_blocksWay_58 : decode cX3_blocksWay 58 = .ok (.ifCond .ne 6, 3) := by decide +kernel
theorem dX3_blocksWay_61 : decode cX3_blocksWay 61 = .ok (.goto 84, 3) := by decide +kernel
theorem dX3_blocksWay_64 : decode cX3_blocksWay 64 = .ok (.lload 9, 2) := by decide +kernel
theorem dX3_blocksWay_66 : decode cX3_blocksWay 66 = .ok (.lstore 4, 2) := by decide +kernel
theorem dX3_blocksWay_68 : decode cX3_blocksWay 68 = .ok (.lload 11, 2) := by decide +kernel
theorem dX3_blocksWay_70 : decode cX3_blocksWay 70 = .ok (.lstore 6, 2) := by decide +kernel
theorem dX3_blocksWay_72 : decode cX3_blocksWay 72 = .ok (.iconst 0, 1) := by decide +kernel
theorem dX3_blocksWay_73 : decode cX3_blocksWay 73 = .ok (.istore 13, 2) := by decide +kernel
theorem dX3_blocksWay_75 : decode cX3_blocksWay 75 = .ok (.iload 13, 2) := by decide +kernel
theorem dX3_blocksWay_77 : decode cX3_blocksWay 77 = .ok (.aload_n 0, 1) := by decide +kernel
theorem dX3_blocksWay_78 : decode cX3_blocksWay 78 = .ok (.getfield 9, 3) := by decide +kernel
theorem dX3_blocksWay_81 : decode cX3_blocksWay 81 = .ok (.getfield 184, 3) := by decide +kernel
theorem dX3_blocksWay_84 : decode cX3_blocksWay 84 = .ok (.if_icmp .ge 61, 3) := by decide +kernel
theorem dX3_blocksWay_87 : decode cX3_blocksWay 87 = .ok (.aload_n 0, 1) := by decide +kernel
theorem dX3_blocksWay_88 : decode cX3_blocksWay 88 = .ok (.getfield 9, 3) := by decide +kernel
theorem dX3_blocksWay_91 : decode cX3_blocksWay 91 = .ok (.getfield 187, 3) := by decide +kernel
theorem dX3_blocksWay_94 : decode cX3_blocksWay 94 = .ok (.iload 13, 2) := by decide +kernel
theorem dX3_blocksWay_96 : decode cX3_blocksWay 96 = .ok (.aaload, 1) := by decide +kernel
theorem dX3_blocksWay_97 : decode cX3_blocksWay 97 = .ok (.astore 14, 2) := by decide +kernel
theorem dX3_blocksWay_99 : decode cX3_blocksWay 99 = .ok (.aload_n 0, 1) := by decide +kernel
theorem dX3_blocksWay_100 : decode cX3_blocksWay 100 = .ok (.getfield 19, 3) := by decide +kernel
theorem dX3_blocksWay_103 : decode cX3_blocksWay 103 = .ok (.aload 14, 2) := by decide +kernel
theorem dX3_blocksWay_105 : decode cX3_blocksWay 105 = .ok (.lload 11, 2) := by decide +kernel
theorem dX3_blocksWay_107 : decode cX3_blocksWay 107 = .ok (.lload 9, 2) := by decide +kernel
theorem dX3_blocksWay_109 : decode cX3_blocksWay 109 = .ok (.lor, 1) := by decide +kernel
theorem dX3_blocksWay_110 : decode cX3_blocksWay 110 = .ok (.invokevirtual 191, 3) := by decide +kernel
theorem dX3_blocksWay_113 : decode cX3_blocksWay 113 = .ok (.ifCond .ne 26, 3) := by decide +kernel
theorem dX3_blocksWay_116 : decode cX3_blocksWay 116 = .ok (.aload_n 0, 1) := by decide +kernel
theorem dX3_blocksWay_117 : decode cX3_blocksWay 117 = .ok (.getfield 19, 3) := by decide +kernel
theorem dX3_blocksWay_120 : decode cX3_blocksWay 120 = .ok (.aload 14, 2) := by decide +kernel
theorem dX3_blocksWay_122 : decode cX3_blocksWay 122 = .ok (.lload 11, 2) := by decide +kernel
theorem dX3_blocksWay_124 : decode cX3_blocksWay 124 = .ok (.invokevirtual 191, 3) := by decide +kernel
theorem dX3_blocksWay_127 : decode cX3_blocksWay 127 = .ok (.ifCond .eq 12, 3) := by decide +kernel
theorem dX3_blocksWay_130 : decode cX3_blocksWay 130 = .ok (.aload_n 0, 1) := by decide +kernel
theorem dX3_blocksWay_131 : decode cX3_blocksWay 131 = .ok (.iload 8, 2) := by decide +kernel
theorem dX3_blocksWay_133 : decode cX3_blocksWay 133 = .ok (.iload 13, 2) := by decide +kernel
theorem dX3_blocksWay_135 : decode cX3_blocksWay 135 = .ok (.invokevirtual 89, 3) := by decide +kernel
theorem dX3_blocksWay_138 : decode cX3_blocksWay 138 = .ok (.ireturn, 1) := by decide +kernel
theorem dX3_blocksWay_139 : decode cX3_blocksWay 139 = .ok (.iinc 13 1, 3) := by decide +kernel
theorem dX3_blocksWay_142 : decode cX3_blocksWay 142 = .ok (.goto (-67), 3) := by decide +kernel
theorem dX3_blocksWay_145 : decode cX3_blocksWay 145 = .ok (.iinc 8 1, 3) := by decide +kernel
theorem dX3_blocksWay_148 : decode cX3_blocksWay 148 = .ok (.goto (-139), 3) := by decide +kernel
theorem dX3_blocksWay_151 : decode cX3_blocksWay 151 = .ok (.iconst 0, 1) := by decide +kernel
theorem dX3_blocksWay_152 : decode cX3_blocksWay 152 = .ok (.ireturn, 1) := by decide +kernel
theorem dX3_closedBy_0 : decode cX3_closedBy 0 = .ok (.lconst 0, 1) := by decide +kernel
theorem dX3_closedBy_1 : decode cX3_closedBy 1 = .ok (.lstore_n 3, 1) := by decide +kernel
theorem dX3_closedBy_2 : decode cX3_closedBy 2 = .ok (.iconst 0, 1) := by decide +kernel
theorem dX3_closedBy_3 : decode cX3_closedBy 3 = .ok (.istore 5, 2) := by decide +kernel
theorem dX3_closedBy_5 : decode cX3_closedBy 5 = .ok (.iload 5, 2) := by decide +kernel
theorem dX3_closedBy_7 : decode cX3_closedBy 7 = .ok (.aload_n 1, 1) := by decide +kernel
theorem dX3_closedBy_8 : decode cX3_closedBy 8 = .ok (.getfield 100, 3) := by decide +kernel
theorem dX3_closedBy_11 : decode cX3_closedBy 11 = .ok (.if_icmp .ge 79, 3) := by decide +kernel
theorem dX3_closedBy_14 : decode cX3_closedBy 14 = .ok (.aload_n 0, 1) := by decide +kernel
theorem dX3_closedBy_15 : decode cX3_closedBy 15 = .ok (.getfield 9, 3) := by decide +kernel
theorem dX3_closedBy_18 : decode cX3_closedBy 18 = .ok (.getfield 103, 3) := by decide +kernel
theorem dX3_closedBy_21 : decode cX3_closedBy 21 = .ok (.aload_n 1, 1) := by decide +kernel
theorem dX3_closedBy_22 : decode cX3_closedBy 22 = .ok (.getfield 85, 3) := by decide +kernel
theorem dX3_closedBy_25 : decode cX3_closedBy 25 = .ok (.iload 5, 2) := by decide +kernel
theorem dX3_closedBy_27 : decode cX3_closedBy 27 = .ok (.iaload, 1) := by decide +kernel
theorem dX3_closedBy_28 : decode cX3_closedBy 28 = .ok (.aaload, 1) := by decide +kernel
theorem dX3_closedBy_29 : decode cX3_closedBy 29 = .ok (.getfield 118, 3) := by decide +kernel
theorem dX3_closedBy_32 : decode cX3_closedBy 32 = .ok (.istore 6, 2) := by decide +kernel
theorem dX3_closedBy_34 : decode cX3_closedBy 34 = .ok (.aload_n 0, 1) := by decide +kernel
theorem dX3_closedBy_35 : decode cX3_closedBy 35 = .ok (.getfield 15, 3) := by decide +kernel
theorem dX3_closedBy_38 : decode cX3_closedBy 38 = .ok (.getfield 111, 3) := by decide +kernel
theorem dX3_closedBy_41 : decode cX3_closedBy 41 = .ok (.iload 5, 2) := by decide +kernel
theorem dX3_closedBy_43 : decode cX3_closedBy 43 = .ok (.aaload, 1) := by decide +kernel
theorem dX3_closedBy_44 : decode cX3_closedBy 44 = .ok (.iload_n 2, 1) := by decide +kernel
theorem dX3_closedBy_45 : decode cX3_closedBy 45 = .ok (.iaload, 1) := by decide +kernel
theorem dX3_closedBy_46 : decode cX3_closedBy 46 = .ok (.istore 7, 2) := by decide +kernel
theorem dX3_closedBy_48 : decode cX3_closedBy 48 = .ok (.iload 7, 2) := by decide +kernel
theorem dX3_closedBy_50 : decode cX3_closedBy 50 = .ok (.iload 6, 2) := by decide +kernel
theorem dX3_closedBy_52 : decode cX3_closedBy 52 = .ok (.if_icmp .ge 32, 3) := by decide +kernel
theorem dX3_closedBy_55 : decode cX3_closedBy 55 = .ok (.iload 7, 2) := by decide +kernel
theorem dX3_closedBy_57 : decode cX3_closedBy 57 = .ok (.aload_n 0, 1) := by decide +kernel
theorem dX3_closedBy_58 : decode cX3_closedBy 58 = .ok (.getfield 15, 3) := by decide +kernel
theorem dX3_closedBy_61 : decode cX3_closedBy 61 = .ok (.getfield 115, 3) := by decide +kernel
theorem dX3_closedBy_64 : decode cX3_closedBy 64 = .ok (.iload_n 2, 1) := by decide +kernel
theorem dX3_closedBy_65 : decode cX3_closedBy 65 = .ok (.iaload, 1) := by decide +kernel
theorem dX3_closedBy_66 : decode cX3_closedBy 66 = .ok (.iadd, 1) := by decide +kernel
theorem dX3_closedBy_67 : decode cX3_closedBy 67 = .ok (.iload 6, 2) := by decide +kernel
theorem dX3_closedBy_69 : decode cX3_closedBy 69 = .ok (.if_icmp .lt 15, 3) := by decide +kernel
theorem dX3_closedBy_72 : decode cX3_closedBy 72 = .ok (.lload_n 3, 1) := by decide +kernel
theorem dX3_closedBy_73 : decode cX3_closedBy 73 = .ok (.lconst 1, 1) := by decide +kernel
theorem dX3_closedBy_74 : decode cX3_closedBy 74 = .ok (.aload_n 1, 1) := by decide +kernel
theorem dX3_closedBy_75 : decode cX3_closedBy 75 = .ok (.getfield 85, 3) := by decide +kernel
theorem dX3_closedBy_78 : decode cX3_closedBy 78 = .ok (.iload 5, 2) := by decide +kernel
theorem dX3_closedBy_80 : decode cX3_closedBy 80 = .ok (.iaload, 1) := by decide +kernel
theorem dX3_closedBy_81 : decode cX3_closedBy 81 = .ok (.lshl, 1) := by decide +kernel
theorem dX3_closedBy_82 : decode cX3_closedBy 82 = .ok (.lor, 1) := by decide +kernel
theorem dX3_closedBy_83 : decode cX3_closedBy 83 = .ok (.lstore_n 3, 1) := by decide +kernel
theorem dX3_closedBy_84 : decode cX3_closedBy 84 = .ok (.iinc 5 1, 3) := by decide +kernel
theorem dX3_closedBy_87 : decode cX3_closedBy 87 = .ok (.goto (-82), 3) := by decide +kernel
theorem dX3_closedBy_90 : decode cX3_closedBy 90 = .ok (.lload_n 3, 1) := by decide +kernel
theorem dX3_closedBy_91 : decode cX3_closedBy 91 = .ok (.lreturn, 1) := by decide +kernel
theorem dX4_init_0 : decode cX4_init 0 = .ok (.aload_n 0, 1) := by decide +kernel
theorem dX4_init_1 : decode cX4_init 1 = .ok (.invokespecial 3, 3) := by decide +kernel
theorem dX4_init_4 : decode cX4_init 4 = .ok (.aload_n 0, 1) := by decide +kernel
theorem dX4_init_5 : decode cX4_init 5 = .ok (.aload_n 1, 1) := by decide +kernel
theorem dX4_init_6 : decode cX4_init 6 = .ok (.putfield 9, 3) := by decide +kernel
theorem dX4_init_9 : decode cX4_init 9 = .ok (.aload_n 0, 1) := by decide +kernel
theorem dX4_init_10 : decode cX4_init 10 = .ok (.aload_n 2, 1) := by decide +kernel
theorem dX4_init_11 : decode cX4_init 11 = .ok (.putfield 15, 3) := by decide +kernel
theorem dX4_init_14 : decode cX4_init 14 = .ok (.return_, 1) := by decide +kernel
theorem dX4_moveBroken_0 : decode cX4_moveBroken 0 = .ok (.iconst 0, 1) := by decide +kernel
theorem dX4_moveBroken_1 : decode cX4_moveBroken 1 = .ok (.istore_n 1, 1) := by decide +kernel
theorem dX4_moveBroken_2 : decode cX4_moveBroken 2 = .ok (.iconst 0, 1) := by decide +kernel
theorem dX4_moveBroken_3 : decode cX4_moveBroken 3 = .ok (.istore_n 2, 1) := by decide +kernel
theorem dX4_moveBroken_4 : decode cX4_moveBroken 4 = .ok (.iload_n 2, 1) := by decide +kernel
theorem dX4_moveBroken_5 : decode cX4_moveBroken 5 = .ok (.aload_n 0, 1) := by decide +kernel
theorem dX4_moveBroken_6 : decode cX4_moveBroken 6 = .ok (.getfield 9, 3) := by decide +kernel
theorem dX4_moveBroken_9 : decode cX4_moveBroken 9 = .ok (.getfield 19, 3) := by decide +kernel
theorem dX4_moveBroken_12 : decode cX4_moveBroken 12 = .ok (.if_icmp .ge 66, 3) := by decide +kernel
theorem dX4_moveBroken_15 : decode cX4_moveBroken 15 = .ok (.aload_n 0, 1) := by decide +kernel
theorem dX4_moveBroken_16 : decode cX4_moveBroken 16 = .ok (.getfield 9, 3) := by decide +kernel
theorem dX4_moveBroken_19 : decode cX4_moveBroken 19 = .ok (.getfield 25, 3) := by decide +kernel
theorem dX4_moveBroken_22 : decode cX4_moveBroken 22 = .ok (.iload_n 2, 1) := by decide +kernel
theorem dX4_moveBroken_23 : decode cX4_moveBroken 23 = .ok (.aaload, 1) := by decide +kernel
theorem dX4_moveBroken_24 : decode cX4_moveBroken 24 = .ok (.astore_n 3, 1) := by decide +kernel
theorem dX4_moveBroken_25 : decode cX4_moveBroken 25 = .ok (.aload_n 3, 1) := by decide +kernel
theorem dX4_moveBroken_26 : decode cX4_moveBroken 26 = .ok (.getfield 29, 3) := by decide +kernel
theorem dX4_moveBroken_29 : decode cX4_moveBroken 29 = .ok (.iconst 1, 1) := by decide +kernel
theorem dX4_moveBroken_30 : decode cX4_moveBroken 30 = .ok (.if_icmp .eq 6, 3) := by decide +kernel
theorem dX4_moveBroken_33 : decode cX4_moveBroken 33 = .ok (.goto 39, 3) := by decide +kernel
theorem dX4_moveBroken_36 : decode cX4_moveBroken 36 = .ok (.aload_n 0, 1) := by decide +kernel
theorem dX4_moveBroken_37 : decode cX4_moveBroken 37 = .ok (.getfield 15, 3) := by decide +kernel
theorem dX4_moveBroken_40 : decode cX4_moveBroken 40 = .ok (.aload_n 3, 1) := by decide +kernel
theorem dX4_moveBroken_41 : decode cX4_moveBroken 41 = .ok (.iload_n 2, 1) := by decide +kernel
theorem dX4_moveBroken_42 : decode cX4_moveBroken 42 = .ok (.invokevirtual 34, 3) := by decide +kernel
theorem dX4_moveBroken_45 : decode cX4_moveBroken 45 = .ok (.aload_n 0, 1) := by decide +kernel
theorem dX4_moveBroken_46 : decode cX4_moveBroken 46 = .ok (.getfield 15, 3) := by decide +kernel
theorem dX4_moveBroken_49 : decode cX4_moveBroken 49 = .ok (.aload_n 3, 1) := by decide +kernel
theorem dX4_moveBroken_50 : decode cX4_moveBroken 50 = .ok (.aload_n 3, 1) := by decide +kernel
theorem dX4_moveBroken_51 : decode cX4_moveBroken 51 = .ok (.getfield 40, 3) := by decide +kernel
theorem dX4_moveBroken_54 : decode cX4_moveBroken 54 = .ok (.iconst 3, 1) := by decide +kernel
theorem dX4_moveBroken_55 : decode cX4_moveBroken 55 = .ok (.invokevirtual 43, 3) := by decide +kernel
theorem dX4_moveBroken_58 : decode cX4_moveBroken 58 = .ok (.ifCond .ne 6, 3) := by decide +kernel
theorem dX4_moveBroken_61 : decode cX4_moveBroken 61 = .ok (.goto 11, 3) := by decide +kernel
theorem dX4_moveBroken_64 : decode cX4_moveBroken 64 = .ok (.aload_n 0, 1) := by decide +kernel
theorem dX4_moveBroken_65 : decode cX4_moveBroken 65 = .ok (.aload_n 3, 1) := by decide +kernel
theorem dX4_moveBroken_66 : decode cX4_moveBroken 66 = .ok (.invokevirtual 47, 3) := by decide +kernel
theorem dX4_moveBroken_69 : decode cX4_moveBroken 69 = .ok (.iinc 1 1, 3) := by decide +kernel
theorem dX4_moveBroken_72 : decode cX4_moveBroken 72 = .ok (.iinc 2 1, 3) := by decide +kernel
theorem dX4_moveBroken_75 : decode cX4_moveBroken 75 = .ok (.goto (-71), 3) := by decide +kernel
theorem dX4_moveBroken_78 : decode cX4_moveBroken 78 = .ok (.iload_n 1, 1) := by decide +kernel
theorem dX4_moveBroken_79 : decode cX4_moveBroken 79 = .ok (.ireturn, 1) := by decide +kernel
theorem dX4_moveOn_0 : decode cX4_moveOn 0 = .ok (.aload_n 1, 1) := by decide +kernel
theorem dX4_moveOn_1 : decode cX4_moveOn 1 = .ok (.getfield 40, 3) := by decide +kernel
theorem dX4_moveOn_4 : decode cX4_moveOn 4 = .ok (.istore_n 2, 1) := by decide +kernel
theorem dX4_moveOn_5 : decode cX4_moveOn 5 = .ok (.iload_n 2, 1) := by decide +kernel
theorem dX4_moveOn_6 : decode cX4_moveOn 6 = .ok (.sipush 399, 3) := by decide +kernel
theorem dX4_moveOn_9 : decode cX4_moveOn 9 = .ok (.if_icmp .gt 41, 3) := by decide +kernel
theorem dX4_moveOn_12 : decode cX4_moveOn 12 = .ok (.aload_n 0, 1) := by decide +kernel
theorem dX4_moveOn_13 : decode cX4_moveOn 13 = .ok (.getfield 15, 3) := by decide +kernel
theorem dX4_moveOn_16 : decode cX4_moveOn 16 = .ok (.aload_n 1, 1) := by decide +kernel
theorem dX4_moveOn_17 : decode cX4_moveOn 17 = .ok (.iload_n 2, 1) := by decide +kernel
theorem dX4_moveOn_18 : decode cX4_moveOn 18 = .ok (.iconst 2, 1) := by decide +kernel
theorem dX4_moveOn_19 : decode cX4_moveOn 19 = .ok (.invokevirtual 43, 3) := by decide +kernel
theorem dX4_moveOn_22 : decode cX4_moveOn 22 = .ok (.ifCond .eq 6, 3) := by decide +kernel
theorem dX4_moveOn_25 : decode cX4_moveOn 25 = .ok (.goto 19, 3) := by decide +kernel
theorem dX4_moveOn_28 : decode cX4_moveOn 28 = .ok (.aload_n 1, 1) := by decide +kernel
theorem dX4_moveOn_29 : decode cX4_moveOn 29 = .ok (.iload_n 2, 1) := by decide +kernel
theorem dX4_moveOn_30 : decode cX4_moveOn 30 = .ok (.invokevirtual 51, 3) := by decide +kernel
theorem dX4_moveOn_33 : decode cX4_moveOn 33 = .ok (.aload_n 1, 1) := by decide +kernel
theorem dX4_moveOn_34 : decode cX4_moveOn 34 = .ok (.dup, 1) := by decide +kernel
theorem dX4_moveOn_35 : decode cX4_moveOn 35 = .ok (.getfield 55, 3) := by decide +kernel
theorem dX4_moveOn_38 : decode cX4_moveOn 38 = .ok (.iconst 1, 1) := by decide +kernel
theorem dX4_moveOn_39 : decode cX4_moveOn 39 = .ok (.iadd, 1) := by decide +kernel
theorem dX4_moveOn_40 : decode cX4_moveOn 40 = .ok (.putfield 55, 3) := by decide +kernel
theorem dX4_moveOn_43 : decode cX4_moveOn 43 = .ok (.return_, 1) := by decide +kernel
theorem dX4_moveOn_44 : decode cX4_moveOn 44 = .ok (.iinc 2 1, 3) := by decide +kernel
theorem dX4_moveOn_47 : decode cX4_moveOn 47 = .ok (.goto (-42), 3) := by decide +kernel
theorem dX4_moveOn_50 : decode cX4_moveOn 50 = .ok (.aload_n 0, 1) := by decide +kernel
theorem dX4_moveOn_51 : decode cX4_moveOn 51 = .ok (.getfield 9, 3) := by decide +kernel
theorem dX4_moveOn_54 : decode cX4_moveOn 54 = .ok (.aload_n 1, 1) := by decide +kernel
theorem dX4_moveOn_55 : decode cX4_moveOn 55 = .ok (.invokevirtual 58, 3) := by decide +kernel
theorem dX4_moveOn_58 : decode cX4_moveOn 58 = .ok (.return_, 1) := by decide +kernel
theorem dX4_betterOne_0 : decode cX4_betterOne 0 = .ok (.iconst 0, 1) := by decide +kernel
theorem dX4_betterOne_1 : decode cX4_betterOne 1 = .ok (.istore_n 1, 1) := by decide +kernel
theorem dX4_betterOne_2 : decode cX4_betterOne 2 = .ok (.iload_n 1, 1) := by decide +kernel
theorem dX4_betterOne_3 : decode cX4_betterOne 3 = .ok (.aload_n 0, 1) := by decide +kernel
theorem dX4_betterOne_4 : decode cX4_betterOne 4 = .ok (.getfield 9, 3) := by decide +kernel
theorem dX4_betterOne_7 : decode cX4_betterOne 7 = .ok (.getfield 19, 3) := by decide +kernel
theorem dX4_betterOne_10 : decode cX4_betterOne 10 = .ok (.if_icmp .ge 87, 3) := by decide +kernel
theorem dX4_betterOne_13 : decode cX4_betterOne 13 = .ok (.aload_n 0, 1) := by decide +kernel
theorem dX4_betterOne_14 : decode cX4_betterOne 14 = .ok (.getfield 9, 3) := by decide +kernel
theorem dX4_betterOne_17 : decode cX4_betterOne 17 = .ok (.getfield 25, 3) := by decide +kernel
theorem dX4_betterOne_20 : decode cX4_betterOne 20 = .ok (.iload_n 1, 1) := by decide +kernel
theorem dX4_betterOne_21 : decode cX4_betterOne 21 = .ok (.aaload, 1) := by decide +kernel
theorem dX4_betterOne_22 : decode cX4_betterOne 22 = .ok (.astore_n 2, 1) := by decide +kernel
theorem dX4_betterOne_23 : decode cX4_betterOne 23 = .ok (.aload_n 2, 1) := by decide +kernel
theorem dX4_betterOne_24 : decode cX4_betterOne 24 = .ok (.getfield 29, 3) := by decide +kernel
theorem dX4_betterOne_27 : decode cX4_betterOne 27 = .ok (.iconst 1, 1) := by decide +kernel
theorem dX4_betterOne_28 : decode cX4_betterOne 28 = .ok (.if_icmp .ne 63, 3) := by decide +kernel
theorem dX4_betterOne_31 : decode cX4_betterOne 31 = .ok (.aload_n 2, 1) := by decide +kernel
theorem dX4_betterOne_32 : decode cX4_betterOne 32 = .ok (.invokevirtual 61, 3) := by decide +kernel
theorem dX4_betterOne_35 : decode cX4_betterOne 35 = .ok (.ifCond .ne 6, 3) := by decide +kernel
theorem dX4_betterOne_38 : decode cX4_betterOne 38 = .ok (.goto 53, 3) := by decide +kernel
theorem dX4_betterOne_41 : decode cX4_betterOne 41 = .ok (.aload_n 0, 1) := by decide +kernel
theorem dX4_betterOne_42 : decode cX4_betterOne 42 = .ok (.getfield 9, 3) := by decide +kernel
theorem dX4_betterOne_45 : decode cX4_betterOne 45 = .ok (.getfield 65, 3) := by decide +kernel
theorem dX4_betterOne_48 : decode cX4_betterOne 48 = .ok (.aload_n 2, 1) := by decide +kernel
theorem dX4_betterOne_49 : decode cX4_betterOne 49 = .ok (.invokevirtual 68, 3) := by decide +kernel
theorem dX4_betterOne_52 : decode cX4_betterOne 52 = .ok (.iadd, 1) := by decide +kernel
theorem dX4_betterOne_53 : decode cX4_betterOne 53 = .ok (.istore_n 3, 1) := by decide +kernel
theorem dX4_betterOne_54 : decode cX4_betterOne 54 = .ok (.iload_n 3, 1) := by decide +kernel
theorem dX4_betterOne_55 : decode cX4_betterOne 55 = .ok (.aload_n 2, 1) := by decide +kernel
theorem dX4_betterOne_56 : decode cX4_betterOne 56 = .ok (.getfield 40, 3) := by decide +kernel
theorem dX4_betterOne_59 : decode cX4_betterOne 59 = .ok (.if_icmp .ge 32, 3) := by decide +kernel
theorem dX4_betterOne_62 : decode cX4_betterOne 62 = .ok (.aload_n 0, 1) := by decide +kernel
theorem dX4_betterOne_63 : decode cX4_betterOne 63 = .ok (.aload_n 2, 1) := by decide +kernel
theorem dX4_betterOne_64 : decode cX4_betterOne 64 = .ok (.iload_n 3, 1) := by decide +kernel
theorem dX4_betterOne_65 : decode cX4_betterOne 65 = .ok (.invokevirtual 71, 3) := by decide +kernel
theorem dX4_betterOne_68 : decode cX4_betterOne 68 = .ok (.ifCond .ne 6, 3) := by decide +kernel
theorem dX4_betterOne_71 : decode cX4_betterOne 71 = .ok (.goto 14, 3) := by decide +kernel
theorem dX4_betterOne_74 : decode cX4_betterOne 74 = .ok (.aload_n 0, 1) := by decide +kernel
theorem dX4_betterOne_75 : decode cX4_betterOne 75 = .ok (.getfield 9, 3) := by decide +kernel
theorem dX4_betterOne_78 : decode cX4_betterOne 78 = .ok (.aload_n 2, 1) := by decide +kernel
theorem dX4_betterOne_79 : decode cX4_betterOne 79 = .ok (.iload_n 3, 1) := by decide +kernel
theorem dX4_betterOne_80 : decode cX4_betterOne 80 = .ok (.invokevirtual 75, 3) := by decide +kernel
theorem dX4_betterOne_83 : decode cX4_betterOne 83 = .ok (.iconst 1, 1) := by decide +kernel
theorem dX4_betterOne_84 : decode cX4_betterOne 84 = .ok (.ireturn, 1) := by decide +kernel
theorem dX4_betterOne_85 : decode cX4_betterOne 85 = .ok (.iinc 3 1, 3) := by decide +kernel
theorem dX4_betterOne_88 : decode cX4_betterOne 88 = .ok (.goto (-34), 3) := by decide +kernel
theorem dX4_betterOne_91 : decode cX4_betterOne 91 = .ok (.iinc 1 1, 3) := by decide +kernel
theorem dX4_betterOne_94 : decode cX4_betterOne 94 = .ok (.goto (-92), 3) := by decide +kernel
theorem dX4_betterOne_97 : decode cX4_betterOne 97 = .ok (.iconst 0, 1) := by decide +kernel
theorem dX4_betterOne_98 : decode cX4_betterOne 98 = .ok (.ireturn, 1) := by decide +kernel
theorem dX4_fits_0 : decode cX4_fits 0 = .ok (.aload_n 0, 1) := by decide +kernel
theorem dX4_fits_1 : decode cX4_fits 1 = .ok (.getfield 15, 3) := by decide +kernel
theorem dX4_fits_4 : decode cX4_fits 4 = .ok (.aload_n 1, 1) := by decide +kernel
theorem dX4_fits_5 : decode cX4_fits 5 = .ok (.bipush 60, 2) := by decide +kernel
theorem dX4_fits_7 : decode cX4_fits 7 = .ok (.invokevirtual 34, 3) := by decide +kernel
theorem dX4_fits_10 : decode cX4_fits 10 = .ok (.aload_n 0, 1) := by decide +kernel
theorem dX4_fits_11 : decode cX4_fits 11 = .ok (.getfield 15, 3) := by decide +kernel
theorem dX4_fits_14 : decode cX4_fits 14 = .ok (.aload_n 1, 1) := by decide +kernel
theorem dX4_fits_15 : decode cX4_fits 15 = .ok (.iload_n 2, 1) := by decide +kernel
theorem dX4_fits_16 : decode cX4_fits 16 = .ok (.iconst 1, 1) := by decide +kernel
theorem dX4_fits_17 : decode cX4_fits 17 = .ok (.invokevirtual 43, 3) := by decide +kernel
theorem dX4_fits_20 : decode cX4_fits 20 = .ok (.ifCond .eq 5, 3) := by decide +kernel
theorem dX4_fits_23 : decode cX4_fits 23 = .ok (.iconst 0, 1) := by decide +kernel
theorem dX4_fits_24 : decode cX4_fits 24 = .ok (.ireturn, 1) := by decide +kernel
theorem dX4_fits_25 : decode cX4_fits 25 = .ok (.aload_n 1, 1) := by decide +kernel
theorem dX4_fits_26 : decode cX4_fits 26 = .ok (.getfield 40, 3) := by decide +kernel
theorem dX4_fits_29 : decode cX4_fits 29 = .ok (.istore_n 3, 1) := by decide +kernel
theorem dX4_fits_30 : decode cX4_fits 30 = .ok (.aload_n 1, 1) := by decide +kernel
theorem dX4_fits_31 : decode cX4_fits 31 = .ok (.iload_n 2, 1) := by decide +kernel
theorem dX4_fits_32 : decode cX4_fits 32 = .ok (.invokevirtual 51, 3) := by decide +kernel
theorem dX4_fits_35 : decode cX4_fits 35 = .ok (.aload_n 0, 1) := by decide +kernel
theorem dX4_fits_36 : decode cX4_fits 36 = .ok (.aload_n 0, 1) := by decide +kernel
theorem dX4_fits_37 : decode cX4_fits 37 = .ok (.getfield 78, 3) := by decide +kernel
theorem dX4_fits_40 : decode cX4_fits 40 = .ok (.aload_n 1, 1) := by decide +kernel
theorem dX4_fits_41 : decode cX4_fits 41 = .ok (.invokevirtual 81, 3) := by decide +kernel
theorem dX4_fits_44 : decode cX4_fits 44 = .ok (.ifCond .ne 7, 3) := by decide +kernel
theorem dX4_fits_47 : decode cX4_fits 47 = .ok (.iconst 1, 1) := by decide +kernel
theorem dX4_fits_48 : decode cX4_fits 48 = .ok (.goto 4, 3) := by decide +kernel
theorem dX4_fits_51 : decode cX4_fits 51 = .ok (.iconst 0, 1) := by decide +kernel
theorem dX4_fits_52 : decode cX4_fits 52 = .ok (.istore 4, 2) := by decide +kernel
theorem dX4_fits_54 : decode cX4_fits 54 = .ok (.iconst 0, 1) := by decide +kernel
theorem dX4_fits_55 : decode cX4_fits 55 = .ok (.istore 5, 2) := by decide +kernel
theorem dX4_fits_57 : decode cX4_fits 57 = .ok (.iload 5, 2) := by decide +kernel
theorem dX4_fits_59 : decode cX4_fits 59 = .ok (.aload_n 0, 1) := by decide +kernel
theorem dX4_fits_60 : decode cX4_fits 60 = .ok (.getfield 9, 3) := by decide +kernel
theorem dX4_fits_63 : decode cX4_fits 63 = .ok (.getfield 19, 3) := by decide +kernel
theorem dX4_fits_66 : decode cX4_fits 66 = .ok (.if_icmp .ge 33, 3) := by decide +kernel
theorem dX4_fits_69 : decode cX4_fits 69 = .ok (.iload 4, 2) := by decide +kernel
theorem dX4_fits_71 : decode cX4_fits 71 = .ok (.ifCond .eq 28, 3) := by decide +kernel
theorem dX4_fits_74 : decode cX4_fits 74 = .ok (.aload_n 0, 1) := by decide +kernel
theorem dX4_fits_75 : decode cX4_fits 75 = .ok (.iload 5, 2) := by decide +kernel
theorem dX4_fits_77 : decode cX4_fits 77 = .ok (.aload_n 1, 1) := by decide +kernel
theorem dX4_fits_78 : decode cX4_fits 78 = .ok (.invokevirtual 81, 3) := by decide +kernel
theorem dX4_fits_81 : decode cX4_fits 81 = .ok (.ifCond .eq 12, 3) := by decide +kernel
theorem dX4_fits_84 : decode cX4_fits 84 = .ok (.aload_n 0, 1) := by decide +kernel
theorem dX4_fits_85 : decode cX4_fits 85 = .ok (.iload 5, 2) := by decide +kernel
theorem dX4_fits_87 : decode cX4_fits 87 = .ok (.putfield 78, 3) := by decide +kernel
theorem dX4_fits_90 : decode cX4_fits 90 = .ok (.iconst 0, 1) := by decide +kernel
theorem dX4_fits_91 : decode cX4_fits 91 = .ok (.istore 4, 2) := by decide +kernel
theorem dX4_fits_93 : decode cX4_fits 93 = .ok (.iinc 5 1, 3) := by decide +kernel
theorem dX4_fits_96 : decode cX4_fits 96 = .ok (.goto (-39), 3) := by decide +kernel
theorem dX4_fits_99 : decode cX4_fits 99 = .ok (.aload_n 1, 1) := by decide +kernel
theorem dX4_fits_100 : decode cX4_fits 100 = .ok (.iload_n 3, 1) := by decide +kernel
theorem dX4_fits_101 : decode cX4_fits 101 = .ok (.invokevirtual 51, 3) := by decide +kernel
theorem dX4_fits_104 : decode cX4_fits 104 = .ok (.iload 4, 2) := by decide +kernel
theorem dX4_fits_106 : decode cX4_fits 106 = .ok (.ireturn, 1) := by decide +kernel
theorem dX4_breaksBeside_0 : decode cX4_breaksBeside 0 = .ok (.aload_n 0, 1) := by decide +kernel
theorem dX4_breaksBeside_1 : decode cX4_breaksBeside 1 = .ok (.getfield 9, 3) := by decide +kernel
theorem dX4_breaksBeside_4 : decode cX4_breaksBeside 4 = .ok (.iload_n 1, 1) := by decide +kernel
theorem dX4_breaksBeside_5 : decode cX4_breaksBeside 5 = .ok (.invokevirtual 85, 3) := by decide +kernel
theorem dX4_breaksBeside_8 : decode cX4_breaksBeside 8 = .ok (.ifCond .eq 11, 3) := by decide +kernel
theorem dX4_breaksBeside_11 : decode cX4_breaksBeside 11 = .ok (.iload_n 1, 1) := by decide +kernel
theorem dX4_breaksBeside_12 : decode cX4_breaksBeside 12 = .ok (.aload_n 2, 1) := by decide +kernel
theorem dX4_breaksBeside_13 : decode cX4_breaksBeside 13 = .ok (.getfield 89, 3) := by decide +kernel
theorem dX4_breaksBeside_16 : decode cX4_breaksBeside 16 = .ok (.if_icmp .ne 5, 3) := by decide +kernel
theorem dX4_breaksBeside_19 : decode cX4_breaksBeside 19 = .ok (.iconst 0, 1) := by decide +kernel
theorem dX4_breaksBeside_20 : decode cX4_breaksBeside 20 = .ok (.ireturn, 1) := by decide +kernel
theorem dX4_breaksBeside_21 : decode cX4_breaksBeside 21 = .ok (.aload_n 0, 1) := by decide +kernel
theorem dX4_breaksBeside_22 : decode cX4_breaksBeside 22 = .ok (.getfield 9, 3) := by decide +kernel
theorem dX4_breaksBeside_25 : decode cX4_breaksBeside 25 = .ok (.getfield 25, 3) := by decide +kernel
theorem dX4_breaksBeside_28 : decode cX4_breaksBeside 28 = .ok (.iload_n 1, 1) := by decide +kernel
theorem dX4_breaksBeside_29 : decode cX4_breaksBeside 29 = .ok (.aaload, 1) := by decide +kernel
theorem dX4_breaksBeside_30 : decode cX4_breaksBeside 30 = .ok (.astore_n 3, 1) := by decide +kernel
theorem dX4_breaksBeside_31 : decode cX4_breaksBeside 31 = .ok (.aload_n 3, 1) := by decide +kernel
theorem dX4_breaksBeside_32 : decode cX4_breaksBeside 32 = .ok (.getfield 29, 3) := by decide +kernel
theorem dX4_breaksBeside_35 : decode cX4_breaksBeside 35 = .ok (.iconst 1, 1) := by decide +kernel
theorem dX4_breaksBeside_36 : decode cX4_breaksBeside 36 = .ok (.if_icmp .eq 5, 3) := by decide +kernel
theorem dX4_breaksBeside_39 : decode cX4_breaksBeside 39 = .ok (.iconst 0, 1) := by decide +kernel
theorem dX4_breaksBeside_40 : decode cX4_breaksBeside 40 = .ok (.ireturn, 1) := by decide +kernel
theorem dX4_breaksBeside_41 : decode cX4_breaksBeside 41 = .ok (.aload_n 0, 1) := by decide +kernel
theorem dX4_breaksBeside_42 : decode cX4_breaksBeside 42 = .ok (.getfield 15, 3) := by decide +kernel
theorem dX4_breaksBeside_45 : decode cX4_breaksBeside 45 = .ok (.aload_n 3, 1) := by decide +kernel
theorem dX4_breaksBeside_46 : decode cX4_breaksBeside 46 = .ok (.bipush 60, 2) := by decide +kernel
theorem dX4_breaksBeside_48 : decode cX4_breaksBeside 48 = .ok (.invokevirtual 34, 3) := by decide +kernel
theorem dX4_breaksBeside_51 : decode cX4_breaksBeside 51 = .ok (.aload_n 0, 1) := by decide +kernel
theorem dX4_breaksBeside_52 : decode cX4_breaksBeside 52 = .ok (.getfield 15, 3) := by decide +kernel
theorem dX4_breaksBeside_55 : decode cX4_breaksBeside 55 = .ok (.aload_n 3, 1) := by decide +kernel
theorem dX4_breaksBeside_56 : decode cX4_breaksBeside 56 = .ok (.aload_n 3, 1) := by decide +kernel
theorem dX4_breaksBeside_57 : decode cX4_breaksBeside 57 = .ok (.getfield 40, 3) := by decide +kernel
theorem dX4_breaksBeside_60 : decode cX4_breaksBeside 60 = .ok (.iconst 3, 1) := by decide +kernel
theorem dX4_breaksBeside_61 : decode cX4_breaksBeside 61 = .ok (.invokevirtual 43, 3) := by decide +kernel
theorem dX4_breaksBeside_64 : decode cX4_breaksBeside 64 = .ok (.ifCond .eq 7, 3) := by decide +kernel
theorem dX4_breaksBeside_67 : decode cX4_breaksBeside 67 = .ok (.iconst 1, 1) := by decide +kernel
theorem dX4_breaksBeside_68 : decode cX4_breaksBeside 68 = .ok (.goto 4, 3) := by decide +kernel
theorem dX4_breaksBeside_71 : decode cX4_breaksBeside 71 = .ok (.iconst 0, 1) := by decide +kernel
theorem dX4_breaksBeside_72 : decode cX4_breaksBeside 72 = .ok (.ireturn, 1) := by decide +kernel
theorem dX5_init_0 : decode cX5_init 0 = .ok (.aload_n 0, 1) := by decide +kernel
theorem dX5_init_1 : decode cX5_init 1 = .ok (.invokespecial 3, 3) := by decide +kernel
theorem dX5_init_4 : decode cX5_init 4 = .ok (.aload_n 0, 1) := by decide +kernel
theorem dX5_init_5 : decode cX5_init 5 = .ok (.bipush 40, 2) := by decide +kernel
theorem dX5_init_7 : decode cX5_init 7 = .ok (.anewarray 9, 3) := by decide +kernel
theorem dX5_init_10 : decode cX5_init 10 = .ok (.putfield 11, 3) := by decide +kernel
theorem dX5_init_13 : decode cX5_init 13 = .ok (.aload_n 0, 1) := by decide +kernel
theorem dX5_init_14 : decode cX5_init 14 = .ok (.bipush 8, 2) := by decide +kernel
theorem dX5_init_16 : decode cX5_init 16 = .ok (.anewarray 17, 3) := by decide +kernel
theorem dX5_init_19 : decode cX5_init 19 = .ok (.putfield 19, 3) := by decide +kernel
theorem dX5_init_22 : decode cX5_init 22 = .ok (.aload_n 0, 1) := by decide +kernel
theorem dX5_init_23 : decode cX5_init 23 = .ok (.bipush 60, 2) := by decide +kernel
theorem dX5_init_25 : decode cX5_init 25 = .ok (.anewarray 23, 3) := by decide +kernel
theorem dX5_init_28 : decode cX5_init 28 = .ok (.putfield 25, 3) := by decide +kernel
theorem dX5_init_31 : decode cX5_init 31 = .ok (.aload_n 0, 1) := by decide +kernel
theorem dX5_init_32 : decode cX5_init 32 = .ok (.sipush 400, 3) := by decide +kernel
theorem dX5_init_35 : decode cX5_init 35 = .ok (.newarray .boolean, 2) := by decide +kernel
theorem dX5_init_37 : decode cX5_init 37 = .ok (.putfield 29, 3) := by decide +kernel
theorem dX5_init_40 : decode cX5_init 40 = .ok (.iconst 0, 1) := by decide +kernel
theorem dX5_init_41 : decode cX5_init 41 = .ok (.istore_n 1, 1) := by decide +kernel
theorem dX5_init_42 : decode cX5_init 42 = .ok (.iload_n 1, 1) := by decide +kernel
theorem dX5_init_43 : decode cX5_init 43 = .ok (.bipush 40, 2) := by decide +kernel
theorem dX5_init_45 : decode cX5_init 45 = .ok (.if_icmp .ge 22, 3) := by decide +kernel
theorem dX5_init_48 : decode cX5_init 48 = .ok (.aload_n 0, 1) := by decide +kernel
theorem dX5_init_49 : decode cX5_init 49 = .ok (.getfield 11, 3) := by decide +kernel
theorem dX5_init_52 : decode cX5_init 52 = .ok (.iload_n 1, 1) := by decide +kernel
theorem dX5_init_53 : decode cX5_init 53 = .ok (.new 9, 3) := by decide +kernel
theorem dX5_init_56 : decode cX5_init 56 = .ok (.dup, 1) := by decide +kernel
theorem dX5_init_57 : decode cX5_init 57 = .ok (.invokespecial 33, 3) := by decide +kernel
theorem dX5_init_60 : decode cX5_init 60 = .ok (.aastore, 1) := by decide +kernel
theorem dX5_init_61 : decode cX5_init 61 = .ok (.iinc 1 1, 3) := by decide +kernel
theorem dX5_init_64 : decode cX5_init 64 = .ok (.goto (-22), 3) := by decide +kernel
theorem dX5_init_67 : decode cX5_init 67 = .ok (.iconst 0, 1) := by decide +kernel
theorem dX5_init_68 : decode cX5_init 68 = .ok (.istore_n 1, 1) := by decide +kernel
theorem dX5_init_69 : decode cX5_init 69 = .ok (.iload_n 1, 1) := by decide +kernel
theorem dX5_init_70 : decode cX5_init 70 = .ok (.bipush 8, 2) := by decide +kernel
theorem dX5_init_72 : decode cX5_init 72 = .ok (.if_icmp .ge 22, 3) := by decide +kernel
theorem dX5_init_75 : decode cX5_init 75 = .ok (.aload_n 0, 1) := by decide +kernel
theorem dX5_init_76 : decode cX5_init 76 = .ok (.getfield 19, 3) := by decide +kernel
theorem dX5_init_79 : decode cX5_init 79 = .ok (.iload_n 1, 1) := by decide +kernel
theorem dX5_init_80 : decode cX5_init 80 = .ok (.new 17, 3) := by decide +kernel
theorem dX5_init_83 : decode cX5_init 83 = .ok (.dup, 1) := by decide +kernel
theorem dX5_init_84 : decode cX5_init 84 = .ok (.invokespecial 34, 3) := by decide +kernel
theorem dX5_init_87 : decode cX5_init 87 = .ok (.aastore, 1) := by decide +kernel
theorem dX5_init_88 : decode cX5_init 88 = .ok (.iinc 1 1, 3) := by decide +kernel
theorem dX5_init_91 : decode cX5_init 91 = .ok (.goto (-22), 3) := by decide +kernel
theorem dX5_init_94 : decode cX5_init 94 = .ok (.iconst 0, 1) := by decide +kernel
theorem dX5_init_95 : decode cX5_init 95 = .ok (.istore_n 1, 1) := by decide +kernel
theorem dX5_init_96 : decode cX5_init 96 = .ok (.iload_n 1, 1) := by decide +kernel
theorem dX5_init_97 : decode cX5_init 97 = .ok (.bipush 60, 2) := by decide +kernel
theorem dX5_init_99 : decode cX5_init 99 = .ok (.if_icmp .ge 23, 3) := by decide +kernel
theorem dX5_init_102 : decode cX5_init 102 = .ok (.aload_n 0, 1) := by decide +kernel
theorem dX5_init_103 : decode cX5_init 103 = .ok (.getfield 25, 3) := by decide +kernel
theorem dX5_init_106 : decode cX5_init 106 = .ok (.iload_n 1, 1) := by decide +kernel
theorem dX5_init_107 : decode cX5_init 107 = .ok (.new 23, 3) := by decide +kernel
theorem dX5_init_110 : decode cX5_init 110 = .ok (.dup, 1) := by decide +kernel
theorem dX5_init_111 : decode cX5_init 111 = .ok (.iload_n 1, 1) := by decide +kernel
theorem dX5_init_112 : decode cX5_init 112 = .ok (.invokespecial 35, 3) := by decide +kernel
theorem dX5_init_115 : decode cX5_init 115 = .ok (.aastore, 1) := by decide +kernel
theorem dX5_init_116 : decode cX5_init 116 = .ok (.iinc 1 1, 3) := by decide +kernel
theorem dX5_init_119 : decode cX5_init 119 = .ok (.goto (-23), 3) := by decide +kernel
theorem dX5_init_122 : decode cX5_init 122 = .ok (.return_, 1) := by decide +kernel
theorem dX5_hasPiece_0 : decode cX5_hasPiece 0 = .ok (.iload_n 1, 1) := by decide +kernel
theorem dX5_hasPiece_1 : decode cX5_hasPiece 1 = .ok (.ifCond .lt 15, 3) := by decide +kernel
theorem dX5_hasPiece_4 : decode cX5_hasPiece 4 = .ok (.iload_n 1, 1) := by decide +kernel
theorem dX5_hasPiece_5 : decode cX5_hasPiece 5 = .ok (.aload_n 0, 1) := by decide +kernel
theorem dX5_hasPiece_6 : decode cX5_hasPiece 6 = .ok (.getfield 38, 3) := by decide +kernel
theorem dX5_hasPiece_9 : decode cX5_hasPiece 9 = .ok (.if_icmp .ge 7, 3) := by decide +kernel
theorem dX5_hasPiece_12 : decode cX5_hasPiece 12 = .ok (.iconst 1, 1) := by decide +kernel
theorem dX5_hasPiece_13 : decode cX5_hasPiece 13 = .ok (.goto 4, 3) := by decide +kernel
theorem dX5_hasPiece_16 : decode cX5_hasPiece 16 = .ok (.iconst 0, 1) := by decide +kernel
theorem dX5_hasPiece_17 : decode cX5_hasPiece 17 = .ok (.ireturn, 1) := by decide +kernel
theorem dX5_hasPair_0 : decode cX5_hasPair 0 = .ok (.iload_n 1, 1) := by decide +kernel
theorem dX5_hasPair_1 : decode cX5_hasPair 1 = .ok (.ifCond .lt 15, 3) := by decide +kernel
theorem dX5_hasPair_4 : decode cX5_hasPair 4 = .ok (.iload_n 1, 1) := by decide +kernel
theorem dX5_hasPair_5 : decode cX5_hasPair 5 = .ok (.aload_n 0, 1) := by decide +kernel
theorem dX5_hasPair_6 : decode cX5_hasPair 6 = .ok (.getfield 42, 3) := by decide +kernel
theorem dX5_hasPair_9 : decode cX5_hasPair 9 = .ok (.if_icmp .ge 7, 3) := by decide +kernel
theorem dX5_hasPair_12 : decode cX5_hasPair 12 = .ok (.iconst 1, 1) := by decide +kernel
theorem dX5_hasPair_13 : decode cX5_hasPair 13 = .ok (.goto 4, 3) := by decide +kernel
theorem dX5_hasPair_16 : decode cX5_hasPair 16 = .ok (.iconst 0, 1) := by decide +kernel
theorem dX5_hasPair_17 : decode cX5_hasPair 17 = .ok (.ireturn, 1) := by decide +kernel
theorem dX5_hasWork_0 : decode cX5_hasWork 0 = .ok (.iload_n 1, 1) := by decide +kernel
theorem dX5_hasWork_1 : decode cX5_hasWork 1 = .ok (.ifCond .lt 15, 3) := by decide +kernel
theorem dX5_hasWork_4 : decode cX5_hasWork 4 = .ok (.iload_n 1, 1) := by decide +kernel
theorem dX5_hasWork_5 : decode cX5_hasWork 5 = .ok (.aload_n 0, 1) := by decide +kernel
theorem dX5_hasWork_6 : decode cX5_hasWork 6 = .ok (.getfield 45, 3) := by decide +kernel
theorem dX5_hasWork_9 : decode cX5_hasWork 9 = .ok (.if_icmp .ge 7, 3) := by decide +kernel
theorem dX5_hasWork_12 : decode cX5_hasWork 12 = .ok (.iconst 1, 1) := by decide +kernel
theorem dX5_hasWork_13 : decode cX5_hasWork 13 = .ok (.goto 4, 3) := by decide +kernel
theorem dX5_hasWork_16 : decode cX5_hasWork 16 = .ok (.iconst 0, 1) := by decide +kernel
theorem dX5_hasWork_17 : decode cX5_hasWork 17 = .ok (.ireturn, 1) := by decide +kernel
theorem dX5_worksIn_0 : decode cX5_worksIn 0 = .ok (.iconst 0, 1) := by decide +kernel
theorem dX5_worksIn_1 : decode cX5_worksIn 1 = .ok (.istore_n 2, 1) := by decide +kernel
theorem dX5_worksIn_2 : decode cX5_worksIn 2 = .ok (.iconst 0, 1) := by decide +kernel
theorem dX5_worksIn_3 : decode cX5_worksIn 3 = .ok (.istore_n 3, 1) := by decide +kernel
theorem dX5_worksIn_4 : decode cX5_worksIn 4 = .ok (.iload_n 3, 1) := by decide +kernel
theorem dX5_worksIn_5 : decode cX5_worksIn 5 = .ok (.aload_n 0, 1) := by decide +kernel
theorem dX5_worksIn_6 : decode cX5_worksIn 6 = .ok (.getfield 45, 3) := by decide +kernel
theorem dX5_worksIn_9 : decode cX5_worksIn 9 = .ok (.if_icmp .ge 25, 3) := by decide +kernel
theorem dX5_worksIn_12 : decode cX5_worksIn 12 = .ok (.aload_n 0, 1) := by decide +kernel
theorem dX5_worksIn_13 : decode cX5_worksIn 13 = .ok (.getfield 25, 3) := by decide +kernel
theorem dX5_worksIn_16 : decode cX5_worksIn 16 = .ok (.iload_n 3, 1) := by decide +kernel
theorem dX5_worksIn_17 : decode cX5_worksIn 17 = .ok (.aaload, 1) := by decide +kernel
theorem dX5_worksIn_18 : decode cX5_worksIn 18 = .ok (.getfield 48, 3) := by decide +kernel
theorem dX5_worksIn_21 : decode cX5_worksIn 21 = .ok (.iload_n 1, 1) := by decide +kernel
theorem dX5_worksIn_22 : decode cX5_worksIn 22 = .ok (.if_icmp .ne 6, 3) := by decide +kernel
theorem dX5_worksIn_25 : decode cX5_worksIn 25 = .ok (.iinc 2 1, 3) := by decide +kernel
theorem dX5_worksIn_28 : decode cX5_worksIn 28 = .ok (.iinc 3 1, 3) := by decide +kernel
theorem dX5_worksIn_31 : decode cX5_worksIn 31 = .ok (.goto (-27), 3) := by decide +kernel
theorem dX5_worksIn_34 : decode cX5_worksIn 34 = .ok (.iload_n 2, 1) := by decide +kernel
theorem dX5_worksIn_35 : decode cX5_worksIn 35 = .ok (.ireturn, 1) := by decide +kernel
theorem dX5_permitFrom_0 : decode cX5_permitFrom 0 = .ok (.aload_n 1, 1) := by decide +kernel
theorem dX5_permitFrom_1 : decode cX5_permitFrom 1 = .ok (.iload_n 2, 1) := by decide +kernel
theorem dX5_permitFrom_2 : decode cX5_permitFrom 2 = .ok (.invokevirtual 51, 3) := by decide +kernel
theorem dX5_permitFrom_5 : decode cX5_permitFrom 5 = .ok (.aload_n 1, 1) := by decide +kernel
theorem dX5_permitFrom_6 : decode cX5_permitFrom 6 = .ok (.iload_n 2, 1) := by decide +kernel
theorem dX5_permitFrom_7 : decode cX5_permitFrom 7 = .ok (.aload_n 0, 1) := by decide +kernel
theorem dX5_permitFrom_8 : decode cX5_permitFrom 8 = .ok (.getfield 54, 3) := by decide +kernel
theorem dX5_permitFrom_11 : decode cX5_permitFrom 11 = .ok (.if_icmp .ne 7, 3) := by decide +kernel
theorem dX5_permitFrom_14 : decode cX5_permitFrom 14 = .ok (.iconst 2, 1) := by decide +kernel
theorem dX5_permitFrom_15 : decode cX5_permitFrom 15 = .ok (.goto 4, 3) := by decide +kernel
theorem dX5_permitFrom_18 : decode cX5_permitFrom 18 = .ok (.iconst 1, 1) := by decide +kernel
theorem dX5_permitFrom_19 : decode cX5_permitFrom 19 = .ok (.putfield 48, 3) := by decide +kernel
theorem dX5_permitFrom_22 : decode cX5_permitFrom 22 = .ok (.return_, 1) := by decide +kernel
theorem dX5_drop_0 : decode cX5_drop 0 = .ok (.aload_n 1, 1) := by decide +kernel
theorem dX5_drop_1 : decode cX5_drop 1 = .ok (.iconst 4, 1) := by decide +kernel
theorem dX5_drop_2 : decode cX5_drop 2 = .ok (.putfield 48, 3) := by decide +kernel
theorem dX5_drop_5 : decode cX5_drop 5 = .ok (.aload_n 1, 1) := by decide +kernel
theorem dX5_drop_6 : decode cX5_drop 6 = .ok (.iconst (-1), 1) := by decide +kernel
theorem dX5_drop_7 : decode cX5_drop 7 = .ok (.putfield 57, 3) := by decide +kernel
theorem dX5_drop_10 : decode cX5_drop 10 = .ok (.aload_n 1, 1) := by decide +kernel
theorem dX5_drop_11 : decode cX5_drop 11 = .ok (.iconst (-1), 1) := by decide +kernel
theorem dX5_drop_12 : decode cX5_drop 12 = .ok (.putfield 60, 3) := by decide +kernel
theorem dX5_drop_15 : decode cX5_drop 15 = .ok (.aload_n 0, 1) := by decide +kernel
theorem dX5_drop_16 : decode cX5_drop 16 = .ok (.aload_n 1, 1) := by decide +kernel
theorem dX5_drop_17 : decode cX5_drop 17 = .ok (.getfield 63, 3) := by decide +kernel
theorem dX5_drop_20 : decode cX5_drop 20 = .ok (.invokevirtual 66, 3) := by decide +kernel
theorem dX5_drop_23 : decode cX5_drop 23 = .ok (.ifCond .eq 16, 3) := by decide +kernel
theorem dX5_drop_26 : decode cX5_drop 26 = .ok (.aload_n 0, 1) := by decide +kernel
theorem dX5_drop_27 : decode cX5_drop 27 = .ok (.getfield 25, 3) := by decide +kernel
theorem dX5_drop_30 : decode cX5_drop 30 = .ok (.aload_n 1, 1) := by decide +kernel
theorem dX5_drop_31 : decode cX5_drop 31 = .ok (.getfield 63, 3) := by decide +kernel
theorem dX5_drop_34 : decode cX5_drop 34 = .ok (.aaload, 1) := by decide +kernel
theorem dX5_drop_35 : decode cX5_drop 35 = .ok (.iconst (-1), 1) := by decide +kernel
theorem dX5_drop_36 : decode cX5_drop 36 = .ok (.putfield 63, 3) := by decide +kernel
theorem dX5_drop_39 : decode cX5_drop 39 = .ok (.aload_n 1, 1) := by decide +kernel
theorem dX5_drop_40 : decode cX5_drop 40 = .ok (.iconst (-1), 1) := by decide +kernel
theorem dX5_drop_41 : decode cX5_drop 41 = .ok (.putfield 63, 3) := by decide +kernel
theorem dX5_drop_44 : decode cX5_drop 44 = .ok (.return_, 1) := by decide +kernel
theorem dX5_passDay_0 : decode cX5_passDay 0 = .ok (.aload_n 0, 1) := by decide +kernel
theorem dX5_passDay_1 : decode cX5_passDay 1 = .ok (.dup, 1) := by decide +kernel
theorem dX5_passDay_2 : decode cX5_passDay 2 = .ok (.getfield 54, 3) := by decide +kernel
theorem dX5_passDay_5 : decode cX5_passDay 5 = .ok (.iconst 1, 1) := by decide +kernel
theorem dX5_passDay_6 : decode cX5_passDay 6 = .ok (.iadd, 1) := by decide +kernel
theorem dX5_passDay_7 : decode cX5_passDay 7 = .ok (.putfield 54, 3) := by decide +kernel
theorem dX5_passDay_10 : decode cX5_passDay 10 = .ok (.iconst 0, 1) := by decide +kernel
theorem dX5_passDay_11 : decode cX5_passDay 11 = .ok (.istore_n 1, 1) := by decide +kernel
theorem dX5_passDay_12 : decode cX5_passDay 12 = .ok (.iload_n 1, 1) := by decide +kernel
theorem dX5_passDay_13 : decode cX5_passDay 13 = .ok (.aload_n 0, 1) := by decide +kernel
theorem dX5_passDay_14 : decode cX5_passDay 14 = .ok (.getfield 45, 3) := by decide +kernel
theorem dX5_passDay_17 : decode cX5_passDay 17 = .ok (.if_icmp .ge 64, 3) := by decide +kernel
theorem dX5_passDay_20 : decode cX5_passDay 20 = .ok (.aload_n 0, 1) := by decide +kernel
theorem dX5_passDay_21 : decode cX5_passDay 21 = .ok (.getfield 25, 3) := by decide +kernel
theorem dX5_passDay_24 : decode cX5_passDay 24 = .ok (.iload_n 1, 1) := by decide +kernel
theorem dX5_passDay_25 : decode cX5_passDay 25 = .ok (.aaload, 1) := by decide +kernel
theorem dX5_passDay_26 : decode cX5_passDay 26 = .ok (.astore_n 2, 1) := by decide +kernel
theorem dX5_passDay_27 : decode cX5_passDay 27 = .ok (.aload_n 2, 1) := by decide +kernel
theorem dX5_passDay_28 : decode cX5_passDay 28 = .ok (.getfield 48, 3) := by decide +kernel
theorem dX5_passDay_31 : decode cX5_passDay 31 = .ok (.iconst 2, 1) := by decide +kernel
theorem dX5_passDay_32 : decode cX5_passDay 32 = .ok (.if_icmp .ne 19, 3) := by decide +kernel
theorem dX5_passDay_35 : decode cX5_passDay 35 = .ok (.aload_n 2, 1) := by decide +kernel
theorem dX5_passDay_36 : decode cX5_passDay 36 = .ok (.getfield 60, 3) := by decide +kernel
theorem dX5_passDay_39 : decode cX5_passDay 39 = .ok (.aload_n 0, 1) := by decide +kernel
theorem dX5_passDay_40 : decode cX5_passDay 40 = .ok (.getfield 54, 3) := by decide +kernel
theorem dX5_passDay_43 : decode cX5_passDay 43 = .ok (.if_icmp .ge 8, 3) := by decide +kernel
theorem dX5_passDay_46 : decode cX5_passDay 46 = .ok (.aload_n 2, 1) := by decide +kernel
theorem dX5_passDay_47 : decode cX5_passDay 47 = .ok (.iconst 3, 1) := by decide +kernel
theorem dX5_passDay_48 : decode cX5_passDay 48 = .ok (.putfield 48, 3) := by decide +kernel
theorem dX5_passDay_51 : decode cX5_passDay 51 = .ok (.aload_n 2, 1) := by decide +kernel
theorem dX5_passDay_52 : decode cX5_passDay 52 = .ok (.getfield 48, 3) := by decide +kernel
theorem dX5_passDay_55 : decode cX5_passDay 55 = .ok (.iconst 1, 1) := by decide +kernel
theorem dX5_passDay_56 : decode cX5_passDay 56 = .ok (.if_icmp .ne 19, 3) := by decide +kernel
theorem dX5_passDay_59 : decode cX5_passDay 59 = .ok (.aload_n 2, 1) := by decide +kernel
theorem dX5_passDay_60 : decode cX5_passDay 60 = .ok (.getfield 57, 3) := by decide +kernel
theorem dX5_passDay_63 : decode cX5_passDay 63 = .ok (.aload_n 0, 1) := by decide +kernel
theorem dX5_passDay_64 : decode cX5_passDay 64 = .ok (.getfield 54, 3) := by decide +kernel
theorem dX5_passDay_67 : decode cX5_passDay 67 = .ok (.if_icmp .ne 8, 3) := by decide +kernel
theorem dX5_passDay_70 : decode cX5_passDay 70 = .ok (.aload_n 2, 1) := by decide +kernel
theorem dX5_passDay_71 : decode cX5_passDay 71 = .ok (.iconst 2, 1) := by decide +kernel
theorem dX5_passDay_72 : decode cX5_passDay 72 = .ok (.putfield 48, 3) := by decide +kernel
theorem dX5_passDay_75 : decode cX5_passDay 75 = .ok (.iinc 1 1, 3) := by decide +kernel
theorem dX5_passDay_78 : decode cX5_passDay 78 = .ok (.goto (-66), 3) := by decide +kernel
theorem dX5_passDay_81 : decode cX5_passDay 81 = .ok (.return_, 1) := by decide +kernel
theorem dX5_ranks_0 : decode cX5_ranks 0 = .ok (.iconst 0, 1) := by decide +kernel
theorem dX5_ranks_1 : decode cX5_ranks 1 = .ok (.istore_n 2, 1) := by decide +kernel
theorem dX5_ranks_2 : decode cX5_ranks 2 = .ok (.iconst 0, 1) := by decide +kernel
theorem dX5_ranks_3 : decode cX5_ranks 3 = .ok (.istore_n 3, 1) := by decide +kernel
theorem dX5_ranks_4 : decode cX5_ranks 4 = .ok (.iload_n 3, 1) := by decide +kernel
theorem dX5_ranks_5 : decode cX5_ranks 5 = .ok (.aload_n 1, 1) := by decide +kernel
theorem dX5_ranks_6 : decode cX5_ranks 6 = .ok (.getfield 70, 3) := by decide +kernel
theorem dX5_ranks_9 : decode cX5_ranks 9 = .ok (.if_icmp .ge 26, 3) := by decide +kernel
theorem dX5_ranks_12 : decode cX5_ranks 12 = .ok (.iload_n 2, 1) := by decide +kernel
theorem dX5_ranks_13 : decode cX5_ranks 13 = .ok (.aload_n 0, 1) := by decide +kernel
theorem dX5_ranks_14 : decode cX5_ranks 14 = .ok (.getfield 11, 3) := by decide +kernel
theorem dX5_ranks_17 : decode cX5_ranks 17 = .ok (.aload_n 1, 1) := by decide +kernel
theorem dX5_ranks_18 : decode cX5_ranks 18 = .ok (.getfield 73, 3) := by decide +kernel
theorem dX5_ranks_21 : decode cX5_ranks 21 = .ok (.iload_n 3, 1) := by decide +kernel
theorem dX5_ranks_22 : decode cX5_ranks 22 = .ok (.iaload, 1) := by decide +kernel
theorem dX5_ranks_23 : decode cX5_ranks 23 = .ok (.aaload, 1) := by decide +kernel
theorem dX5_ranks_24 : decode cX5_ranks 24 = .ok (.getfield 76, 3) := by decide +kernel
theorem dX5_ranks_27 : decode cX5_ranks 27 = .ok (.iadd, 1) := by decide +kernel
theorem dX5_ranks_28 : decode cX5_ranks 28 = .ok (.istore_n 2, 1) := by decide +kernel
theorem dX5_ranks_29 : decode cX5_ranks 29 = .ok (.iinc 3 1, 3) := by decide +kernel
theorem dX5_ranks_32 : decode cX5_ranks 32 = .ok (.goto (-28), 3) := by decide +kernel
theorem dX5_ranks_35 : decode cX5_ranks 35 = .ok (.iload_n 2, 1) := by decide +kernel
theorem dX5_ranks_36 : decode cX5_ranks 36 = .ok (.ireturn, 1) := by decide +kernel
theorem dX5_costAlone_0 : decode cX5_costAlone 0 = .ok (.aload_n 1, 1) := by decide +kernel
theorem dX5_costAlone_1 : decode cX5_costAlone 1 = .ok (.getfield 79, 3) := by decide +kernel
theorem dX5_costAlone_4 : decode cX5_costAlone 4 = .ok (.aload_n 1, 1) := by decide +kernel
theorem dX5_costAlone_5 : decode cX5_costAlone 5 = .ok (.getfield 70, 3) := by decide +kernel
theorem dX5_costAlone_8 : decode cX5_costAlone 8 = .ok (.bipush 20, 2) := by decide +kernel
theorem dX5_costAlone_10 : decode cX5_costAlone 10 = .ok (.iconst 5, 1) := by decide +kernel
theorem dX5_costAlone_11 : decode cX5_costAlone 11 = .ok (.aload_n 1, 1) := by decide +kernel
theorem dX5_costAlone_12 : decode cX5_costAlone 12 = .ok (.getfield 82, 3) := by decide +kernel
theorem dX5_costAlone_15 : decode cX5_costAlone 15 = .ok (.imul, 1) := by decide +kernel
theorem dX5_costAlone_16 : decode cX5_costAlone 16 = .ok (.iadd, 1) := by decide +kernel
theorem dX5_costAlone_17 : decode cX5_costAlone 17 = .ok (.imul, 1) := by decide +kernel
theorem dX5_costAlone_18 : decode cX5_costAlone 18 = .ok (.bipush 10, 2) := by decide +kernel
theorem dX5_costAlone_20 : decode cX5_costAlone 20 = .ok (.aload_n 0, 1) := by decide +kernel
theorem dX5_costAlone_21 : decode cX5_costAlone 21 = .ok (.aload_n 1, 1) := by decide +kernel
theorem dX5_costAlone_22 : decode cX5_costAlone 22 = .ok (.invokevirtual 85, 3) := by decide +kernel
theorem dX5_costAlone_25 : decode cX5_costAlone 25 = .ok (.imul, 1) := by decide +kernel
theorem dX5_costAlone_26 : decode cX5_costAlone 26 = .ok (.iadd, 1) := by decide +kernel
theorem dX5_costAlone_27 : decode cX5_costAlone 27 = .ok (.imul, 1) := by decide +kernel
theorem dX5_costAlone_28 : decode cX5_costAlone 28 = .ok (.ireturn, 1) := by decide +kernel
theorem dX5_fine_0 : decode cX5_fine 0 = .ok (.aload_n 1, 1) := by decide +kernel
theorem dX5_fine_1 : decode cX5_fine 1 = .ok (.getfield 89, 3) := by decide +kernel
theorem dX5_fine_4 : decode cX5_fine 4 = .ok (.bipush 10, 2) := by decide +kernel
theorem dX5_fine_6 : decode cX5_fine 6 = .ok (.aload_n 0, 1) := by decide +kernel
theorem dX5_fine_7 : decode cX5_fine 7 = .ok (.aload_n 1, 1) := by decide +kernel
theorem dX5_fine_8 : decode cX5_fine 8 = .ok (.invokevirtual 85, 3) := by decide +kernel
theorem dX5_fine_11 : decode cX5_fine 11 = .ok (.imul, 1) := by decide +kernel
theorem dX5_fine_12 : decode cX5_fine 12 = .ok (.bipush 10, 2) := by decide +kernel
theorem dX5_fine_14 : decode cX5_fine 14 = .ok (.iadd, 1) := by decide +kernel
theorem dX5_fine_15 : decode cX5_fine 15 = .ok (.imul, 1) := by decide +kernel
theorem dX5_fine_16 : decode cX5_fine 16 = .ok (.ireturn, 1) := by decide +kernel
theorem dX5_pays_0 : decode cX5_pays 0 = .ok (.aload_n 0, 1) := by decide +kernel
theorem dX5_pays_1 : decode cX5_pays 1 = .ok (.aload_n 1, 1) := by decide +kernel
theorem dX5_pays_2 : decode cX5_pays 2 = .ok (.invokevirtual 92, 3) := by decide +kernel
theorem dX5_pays_5 : decode cX5_pays 5 = .ok (.istore_n 2, 1) := by decide +kernel
theorem dX5_pays_6 : decode cX5_pays 6 = .ok (.aload_n 0, 1) := by decide +kernel
theorem dX5_pays_7 : decode cX5_pays 7 = .ok (.aload_n 1, 1) := by decide +kernel
theorem dX5_pays_8 : decode cX5_pays 8 = .ok (.getfield 63, 3) := by decide +kernel
theorem dX5_pays_11 : decode cX5_pays 11 = .ok (.invokevirtual 66, 3) := by decide +kernel
theorem dX5_pays_14 : decode cX5_pays 14 = .ok (.ifCond .ne 5, 3) := by decide +kernel
theorem dX5_pays_17 : decode cX5_pays 17 = .ok (.iload_n 2, 1) := by decide +kernel
theorem dX5_pays_18 : decode cX5_pays 18 = .ok (.ireturn, 1) := by decide +kernel
theorem dX5_pays_19 : decode cX5_pays 19 = .ok (.aload_n 0, 1) := by decide +kernel
theorem dX5_pays_20 : decode cX5_pays 20 = .ok (.aload_n 0, 1) := by decide +kernel
theorem dX5_pays_21 : decode cX5_pays 21 = .ok (.getfield 25, 3) := by decide +kernel
theorem dX5_pays_24 : decode cX5_pays 24 = .ok (.aload_n 1, 1) := by decide +kernel
theorem dX5_pays_25 : decode cX5_pays 25 = .ok (.getfield 63, 3) := by decide +kernel
theorem dX5_pays_28 : decode cX5_pays 28 = .ok (.aaload, 1) := by decide +kernel
theorem dX5_pays_29 : decode cX5_pays 29 = .ok (.invokevirtual 92, 3) := by decide +kernel
theorem dX5_pays_32 : decode cX5_pays 32 = .ok (.istore_n 3, 1) := by decide +kernel
theorem dX5_pays_33 : decode cX5_pays 33 = .ok (.iload_n 2, 1) := by decide +kernel
theorem dX5_pays_34 : decode cX5_pays 34 = .ok (.iload_n 3, 1) := by decide +kernel
theorem dX5_pays_35 : decode cX5_pays 35 = .ok (.iadd, 1) := by decide +kernel
theorem dX5_pays_36 : decode cX5_pays 36 = .ok (.istore 4, 2) := by decide +kernel
theorem dX5_pays_38 : decode cX5_pays 38 = .ok (.iload 4, 2) := by decide +kernel
theorem dX5_pays_40 : decode cX5_pays 40 = .ok (.ifCond .gt 5, 3) := by decide +kernel
theorem dX5_pays_43 : decode cX5_pays 43 = .ok (.iload_n 2, 1) := by decide +kernel
theorem dX5_pays_44 : decode cX5_pays 44 = .ok (.ireturn, 1) := by decide +kernel
theorem dX5_pays_45 : decode cX5_pays 45 = .ok (.iload_n 2, 1) := by decide +kernel
theorem dX5_pays_46 : decode cX5_pays 46 = .ok (.iload_n 3, 1) := by decide +kernel
theorem dX5_pays_47 : decode cX5_pays 47 = .ok (.invokestatic 95, 3) := by decide +kernel
theorem dX5_pays_50 : decode cX5_pays 50 = .ok (.iload_n 2, 1) := by decide +kernel
theorem dX5_pays_51 : decode cX5_pays 51 = .ok (.iload_n 3, 1) := by decide +kernel
theorem dX5_pays_52 : decode cX5_pays 52 = .ok (.invokestatic 101, 3) := by decide +kernel
theorem dX5_pays_55 : decode cX5_pays 55 = .ok (.iconst 4, 1) := by decide +kernel
theorem dX5_pays_56 : decode cX5_pays 56 = .ok (.idiv, 1) := by decide +kernel
theorem dX5_pays_57 : decode cX5_pays 57 = .ok (.iadd, 1) := by decide +kernel
theorem dX5_pays_58 : decode cX5_pays 58 = .ok (.istore 5, 2) := by decide +kernel
theorem dX5_pays_60 : decode cX5_pays 60 = .ok (.aload_n 1, 1) := by decide +kernel
theorem dX5_pays_61 : decode cX5_pays 61 = .ok (.getfield 104, 3) := by decide +kernel
theorem dX5_pays_64 : decode cX5_pays 64 = .ok (.aload_n 1, 1) := by decide +kernel
theorem dX5_pays_65 : decode cX5_pays 65 = .ok (.getfield 63, 3) := by decide +kernel
theorem dX5_pays_68 : decode cX5_pays 68 = .ok (.if_icmp .ge 16, 3) := by decide +kernel
theorem dX5_pays_71 : decode cX5_pays 71 = .ok (.iload 5, 2) := by decide +kernel
theorem dX5_pays_73 : decode cX5_pays 73 = .ok (.iload_n 3, 1) := by decide +kernel
theorem dX5_pays_74 : decode cX5_pays 74 = .ok (.iload 5, 2) := by decide +kernel
theorem dX5_pays_76 : decode cX5_pays 76 = .ok (.imul, 1) := by decide +kernel
theorem dX5_pays_77 : decode cX5_pays 77 = .ok (.iload 4, 2) := by decide +kernel
theorem dX5_pays_79 : decode cX5_pays 79 = .ok (.idiv, 1) := by decide +kernel
theorem dX5_pays_80 : decode cX5_pays 80 = .ok (.isub, 1) := by decide +kernel
theorem dX5_pays_81 : decode cX5_pays 81 = .ok (.goto 10, 3) := by decide +kernel
theorem dX5_pays_84 : decode cX5_pays 84 = .ok (.iload_n 2, 1) := by decide +kernel
theorem dX5_pays_85 : decode cX5_pays 85 = .ok (.iload 5, 2) := by decide +kernel
theorem dX5_pays_87 : decode cX5_pays 87 = .ok (.imul, 1) := by decide +kernel
theorem dX5_pays_88 : decode cX5_pays 88 = .ok (.iload 4, 2) := by decide +kernel
theorem dX5_pays_90 : decode cX5_pays 90 = .ok (.idiv, 1) := by decide +kernel
theorem dX5_pays_91 : decode cX5_pays 91 = .ok (.ireturn, 1) := by decide +kernel
theorem dX5_bookedAhead_0 : decode cX5_bookedAhead 0 = .ok (.iconst 0, 1) := by decide +kernel
theorem dX5_bookedAhead_1 : decode cX5_bookedAhead 1 = .ok (.istore_n 3, 1) := by decide +kernel
theorem dX5_bookedAhead_2 : decode cX5_bookedAhead 2 = .ok (.iconst 0, 1) := by decide +kernel
theorem dX5_bookedAhead_3 : decode cX5_bookedAhead 3 = .ok (.istore 4, 2) := by decide +kernel
theorem dX5_bookedAhead_5 : decode cX5_bookedAhead 5 = .ok (.iload 4, 2) := by decide +kernel
theorem dX5_bookedAhead_7 : decode cX5_bookedAhead 7 = .ok (.aload_n 0, 1) := by decide +kernel
theorem dX5_bookedAhead_8 : decode cX5_bookedAhead 8 = .ok (.getfield 45, 3) := by decide +kernel
theorem dX5_bookedAhead_11 : decode cX5_bookedAhead 11 = .ok (.if_icmp .ge 66, 3) := by decide +kernel
theorem dX5_bookedAhead_14 : decode cX5_bookedAhead 14 = .ok (.aload_n 0, 1) := by decide +kernel
theorem dX5_bookedAhead_15 : decode cX5_bookedAhead 15 = .ok (.getfield 25, 3) := by decide +kernel
theorem dX5_bookedAhead_18 : decode cX5_bookedAhead 18 = .ok (.iload 4, 2) := by decide +kernel
theorem dX5_bookedAhead_20 : decode cX5_bookedAhead 20 = .ok (.aaload, 1) := by decide +kernel
theorem dX5_bookedAhead_21 : decode cX5_bookedAhead 21 = .ok (.astore 5, 2) := by decide +kernel
theorem dX5_bookedAhead_23 : decode cX5_bookedAhead 23 = .ok (.aload 5, 2) := by decide +kernel
theorem dX5_bookedAhead_25 : decode cX5_bookedAhead 25 = .ok (.iload_n 1, 1) := by decide +kernel
theorem dX5_bookedAhead_26 : decode cX5_bookedAhead 26 = .ok (.invokevirtual 107, 3) := by decide +kernel
theorem dX5_bookedAhead_29 : decode cX5_bookedAhead 29 = .ok (.ifCond .ne 6, 3) := by decide +kernel
theorem dX5_bookedAhead_32 : decode cX5_bookedAhead 32 = .ok (.goto 39, 3) := by decide +kernel
theorem dX5_bookedAhead_35 : decode cX5_bookedAhead 35 = .ok (.aload 5, 2) := by decide +kernel
theorem dX5_bookedAhead_37 : decode cX5_bookedAhead 37 = .ok (.getfield 57, 3) := by decide +kernel
theorem dX5_bookedAhead_40 : decode cX5_bookedAhead 40 = .ok (.aload_n 2, 1) := by decide +kernel
theorem dX5_bookedAhead_41 : decode cX5_bookedAhead 41 = .ok (.getfield 57, 3) := by decide +kernel
theorem dX5_bookedAhead_44 : decode cX5_bookedAhead 44 = .ok (.if_icmp .lt 24, 3) := by decide +kernel
theorem dX5_bookedAhead_47 : decode cX5_bookedAhead 47 = .ok (.aload 5, 2) := by decide +kernel
theorem dX5_bookedAhead_49 : decode cX5_bookedAhead 49 = .ok (.getfield 57, 3) := by decide +kernel
theorem dX5_bookedAhead_52 : decode cX5_bookedAhead 52 = .ok (.aload_n 2, 1) := by decide +kernel
theorem dX5_bookedAhead_53 : decode cX5_bookedAhead 53 = .ok (.getfield 57, 3) := by decide +kernel
theorem dX5_bookedAhead_56 : decode cX5_bookedAhead 56 = .ok (.if_icmp .ne 15, 3) := by decide +kernel
theorem dX5_bookedAhead_59 : decode cX5_bookedAhead 59 = .ok (.iload 4, 2) := by decide +kernel
theorem dX5_bookedAhead_61 : decode cX5_bookedAhead 61 = .ok (.aload_n 2, 1) := by decide +kernel
theorem dX5_bookedAhead_62 : decode cX5_bookedAhead 62 = .ok (.getfield 104, 3) := by decide +kernel
theorem dX5_bookedAhead_65 : decode cX5_bookedAhead 65 = .ok (.if_icmp .ge 6, 3) := by decide +kernel
theorem dX5_bookedAhead_68 : decode cX5_bookedAhead 68 = .ok (.iinc 3 1, 3) := by decide +kernel
theorem dX5_bookedAhead_71 : decode cX5_bookedAhead 71 = .ok (.iinc 4 1, 3) := by decide +kernel
theorem dX5_bookedAhead_74 : decode cX5_bookedAhead 74 = .ok (.goto (-69), 3) := by decide +kernel
theorem dX5_bookedAhead_77 : decode cX5_bookedAhead 77 = .ok (.iload_n 3, 1) := by decide +kernel
theorem dX5_bookedAhead_78 : decode cX5_bookedAhead 78 = .ok (.ireturn, 1) := by decide +kernel
theorem dX6_init_0 : decode cX6_init 0 = .ok (.aload_n 0, 1) := by decide +kernel
theorem dX6_init_1 : decode cX6_init 1 = .ok (.invokespecial 3, 3) := by decide +kernel
theorem dX6_init_4 : decode cX6_init 4 = .ok (.aload_n 0, 1) := by decide +kernel
theorem dX6_init_5 : decode cX6_init 5 = .ok (.bipush 20, 2) := by decide +kernel
theorem dX6_init_7 : decode cX6_init 7 = .ok (.newarray .int, 2) := by decide +kernel
theorem dX6_init_9 : decode cX6_init 9 = .ok (.putfield 9, 3) := by decide +kernel
theorem dX6_init_12 : decode cX6_init 12 = .ok (.aload_n 0, 1) := by decide +kernel
theorem dX6_init_13 : decode cX6_init 13 = .ok (.aload_n 1, 1) := by decide +kernel
theorem dX6_init_14 : decode cX6_init 14 = .ok (.putfield 15, 3) := by decide +kernel
theorem dX6_init_17 : decode cX6_init 17 = .ok (.return_, 1) := by decide +kernel
theorem dX6_isOpen_0 : decode cX6_isOpen 0 = .ok (.aload_n 0, 1) := by decide +kernel
theorem dX6_isOpen_1 : decode cX6_isOpen 1 = .ok (.aload_n 1, 1) := by decide +kernel
theorem dX6_isOpen_2 : decode cX6_isOpen 2 = .ok (.lload_n 2, 1) := by decide +kernel
theorem dX6_isOpen_3 : decode cX6_isOpen 3 = .ok (.invokevirtual 19, 3) := by decide +kernel
theorem dX6_isOpen_6 : decode cX6_isOpen 6 = .ok (.istore 4, 2) := by decide +kernel
theorem dX6_isOpen_8 : decode cX6_isOpen 8 = .ok (.iload 4, 2) := by decide +kernel
theorem dX6_isOpen_10 : decode cX6_isOpen 10 = .ok (.bipush (-5), 2) := by decide +kernel
theorem dX6_isOpen_12 : decode cX6_isOpen 12 = .ok (.if_icmp .eq 16, 3) := by decide +kernel
theorem dX6_isOpen_15 : decode cX6_isOpen 15 = .ok (.iload 4, 2) := by decide +kernel
theorem dX6_isOpen_17 : decode cX6_isOpen 17 = .ok (.aload_n 1, 1) := by decide +kernel
theorem dX6_isOpen_18 : decode cX6_isOpen 18 = .ok (.getfield 23, 3) := by decide +kernel
theorem dX6_isOpen_21 : decode cX6_isOpen 21 = .ok (.if_icmp .gt 7, 3) := by decide +kernel
theorem dX6_isOpen_24 : decode cX6_isOpen 24 = .ok (.iconst 1, 1) := by decide +kernel
theorem dX6_isOpen_25 : decode cX6_isOpen 25 = .ok (.goto 4, 3) := by decide +kernel
theorem dX6_isOpen_28 : decode cX6_isOpen 28 = .ok (.iconst 0, 1) := by decide +kernel
theorem dX6_isOpen_29 : decode cX6_isOpen 29 = .ok (.ireturn, 1) := by decide +kernel
theorem dX6_fewest_0 : decode cX6_fewest 0 = .ok (.iconst 0, 1) := by decide +kernel
theorem dX6_fewest_1 : decode cX6_fewest 1 = .ok (.istore 4, 2) := by decide +kernel
theorem dX6_fewest_3 : decode cX6_fewest 3 = .ok (.iload 4, 2) := by decide +kernel
theorem dX6_fewest_5 : decode cX6_fewest 5 = .ok (.bipush 20, 2) := by decide +kernel
theorem dX6_fewest_7 : decode cX6_fewest 7 = .ok (.if_icmp .ge 18, 3) := by decide +kernel
theorem dX6_fewest_10 : decode cX6_fewest 10 = .ok (.aload_n 0, 1) := by decide +kernel
theorem dX6_fewest_11 : decode cX6_fewest 11 = .ok (.getfield 9, 3) := by decide +kernel
theorem dX6_fewest_14 : decode cX6_fewest 14 = .ok (.iload 4, 2) := by decide +kernel
theorem dX6_fewest_16 : decode cX6_fewest 16 = .ok (.ldc 29, 2) := by decide +kernel
theorem dX6_fewest_18 : decode cX6_fewest 18 = .ok (.iastore, 1) := by decide +kernel
theorem dX6_fewest_19 : decode cX6_fewest 19 = .ok (.iinc 4 1, 3) := by decide +kernel
theorem dX6_fewest_22 : decode cX6_fewest 22 = .ok (.goto (-19), 3) := by decide +kernel
theorem dX6_fewest_25 : decode cX6_fewest 25 = .ok (.aload_n 0, 1) := by decide +kernel
theorem dX6_fewest_26 : decode cX6_fewest 26 = .ok (.getfield 9, 3) := by decide +kernel
theorem dX6_fewest_29 : decode cX6_fewest 29 = .ok (.aload_n 1, 1) := by decide +kernel
theorem dX6_fewest_30 : decode cX6_fewest 30 = .ok (.getfield 30, 3) := by decide +kernel
theorem dX6_fewest_33 : decode cX6_fewest 33 = .ok (.iconst 0, 1) := by decide +kernel
theorem dX6_fewest_34 : decode cX6_fewest 34 = .ok (.iastore, 1) := by decide +kernel
theorem dX6_fewest_35 : decode cX6_fewest 35 = .ok (.iconst 1, 1) := by decide +kernel
theorem dX6_fewest_36 : decode cX6_fewest 36 = .ok (.istore 4, 2) := by decide +kernel
theorem dX6_fewest_38 : decode cX6_fewest 38 = .ok (.iconst 0, 1) := by decide +kernel
theorem dX6_fewest_39 : decode cX6_fewest 39 = .ok (.istore 5, 2) := by decide +kernel
theorem dX6_fewest_41 : decode cX6_fewest 41 = .ok (.iload 5, 2) := by decide +kernel
theorem dX6_fewest_43 : decode cX6_fewest 43 = .ok (.bipush 20, 2) := by decide +kernel
theorem dX6_fewest_45 : decode cX6_fewest 45 = .ok (.if_icmp .ge 163, 3) := by decide +kernel
theorem dX6_fewest_48 : decode cX6_fewest 48 = .ok (.iload 4, 2) := by decide +kernel
theorem dX6_fewest_50 : decode cX6_fewest 50 = .ok (.ifCond .eq 158, 3) := by decide +kernel
theorem dX6_fewest_53 : decode cX6_fewest 53 = .ok (.iconst 0, 1) := by decide +kernel
theorem dX6_fewest_54 : decode cX6_fewest 54 = .ok (.istore 4, 2) := by decide +kernel
theorem dX6_fewest_56 : decode cX6_fewest 56 = .ok (.iconst 0, 1) := by decide +kernel
theorem dX6_fewest_57 : decode cX6_fewest 57 = .ok (.istore 6, 2) := by decide +kernel
theorem dX6_fewest_59 : decode cX6_fewest 59 = .ok (.iload 6, 2) := by decide +kernel
theorem dX6_fewest_61 : decode cX6_fewest 61 = .ok (.aload_n 0, 1) := by decide +kernel
theorem dX6_fewest_62 : decode cX6_fewest 62 = .ok (.getfield 15, 3) := by decide +kernel
theorem dX6_fewest_65 : decode cX6_fewest 65 = .ok (.getfield 33, 3) := by decide +kernel
theorem dX6_fewest_68 : decode cX6_fewest 68 = .ok (.if_icmp .ge 134, 3) := by decide +kernel
theorem dX6_fewest_71 : decode cX6_fewest 71 = .ok (.lload_n 2, 1) := by decide +kernel
theorem dX6_fewest_72 : decode cX6_fewest 72 = .ok (.lconst 1, 1) := by decide +kernel
theorem dX6_fewest_73 : decode cX6_fewest 73 = .ok (.iload 6, 2) := by decide +kernel
theorem dX6_fewest_75 : decode cX6_fewest 75 = .ok (.lshl, 1) := by decide +kernel
theorem dX6_fewest_76 : decode cX6_fewest 76 = .ok (.land, 1) := by decide +kernel
theorem dX6_fewest_77 : decode cX6_fewest 77 = .ok (.lconst 0, 1) := by decide +kernel
theorem dX6_fewest_78 : decode cX6_fewest 78 = .ok (.lcmp, 1) := by decide +kernel
theorem dX6_fewest_79 : decode cX6_fewest 79 = .ok (.ifCond .eq 6, 3) := by decide +kernel
theorem dX6_fewest_82 : decode cX6_fewest 82 = .ok (.goto 114, 3) := by decide +kernel
theorem dX6_fewest_85 : decode cX6_fewest 85 = .ok (.aload_n 0, 1) := by decide +kernel
theorem dX6_fewest_86 : decode cX6_fewest 86 = .ok (.getfield 15, 3) := by decide +kernel
theorem dX6_fewest_89 : decode cX6_fewest 89 = .ok (.getfield 38, 3) := by decide +kernel
theorem dX6_fewest_92 : decode cX6_fewest 92 = .ok (.iload 6, 2) := by decide +kernel
theorem dX6_fewest_94 : decode cX6_fewest 94 = .ok (.aaload, 1) := by decide +kernel
theorem dX6_fewest_95 : decode cX6_fewest 95 = .ok (.astore 7, 2) := by decide +kernel
theorem dX6_fewest_97 : decode cX6_fewest 97 = .ok (.aload_n 0, 1) := by decide +kernel
theorem dX6_fewest_98 : decode cX6_fewest 98 = .ok (.getfield 9, 3) := by decide +kernel
theorem dX6_fewest_101 : decode cX6_fewest 101 = .ok (.aload 7, 2) := by decide +kernel
theorem dX6_fewest_103 : decode cX6_fewest 103 = .ok (.getfield 42, 3) := by decide +kernel
theorem dX6_fewest_106 : decode cX6_fewest 106 = .ok (.iaload, 1) := by decide +kernel
theorem dX6_fewest_107 : decode cX6_fewest 107 = .ok (.aload 7, 2) := by decide +kernel
theorem dX6_fewest_109 : decode cX6_fewest 109 = .ok (.getfield 45, 3) := by decide +kernel
theorem dX6_fewest_112 : decode cX6_fewest 112 = .ok (.iadd, 1) := by decide +kernel
theorem dX6_fewest_113 : decode cX6_fewest 113 = .ok (.istore 8, 2) := by decide +kernel
theorem dX6_fewest_115 : decode cX6_fewest 115 = .ok (.aload_n 0, 1) := by decide +kernel
theorem dX6_fewest_116 : decode cX6_fewest 116 = .ok (.getfield 9, 3) := by decide +kernel
theorem dX6_fewest_119 : decode cX6_fewest 119 = .ok (.aload 7, 2) := by decide +kernel
theorem dX6_fewest_121 : decode cX6_fewest 121 = .ok (.getfield 47, 3) := by decide +kernel
theorem dX6_fewest_124 : decode cX6_fewest 124 = .ok (.iaload, 1) := by decide +kernel
theorem dX6_fewest_125 : decode cX6_fewest 125 = .ok (.aload 7, 2) := by decide +kernel
theorem dX6_fewest_127 : decode cX6_fewest 127 = .ok (.getfield 45, 3) := by decide +kernel
theorem dX6_fewest_130 : decode cX6_fewest 130 = .ok (.iadd, 1) := by decide +kernel
theorem dX6_fewest_131 : decode cX6_fewest 131 = .ok (.istore 9, 2) := by decide +kernel
theorem dX6_fewest_133 : decode cX6_fewest 133 = .ok (.iload 8, 2) := by decide +kernel
theorem dX6_fewest_135 : decode cX6_fewest 135 = .ok (.aload_n 0, 1) := by decide +kernel
theorem dX6_fewest_136 : decode cX6_fewest 136 = .ok (.getfield 9, 3) := by decide +kernel
theorem dX6_fewest_139 : decode cX6_fewest 139 = .ok (.aload 7, 2) := by decide +kernel
theorem dX6_fewest_141 : decode cX6_fewest 141 = .ok (.getfield 47, 3) := by decide +kernel
theorem dX6_fewest_144 : decode cX6_fewest 144 = .ok (.iaload, 1) := by decide +kernel
theorem dX6_fewest_145 : decode cX6_fewest 145 = .ok (.if_icmp .ge 21, 3) := by decide +kernel
theorem dX6_fewest_148 : decode cX6_fewest 148 = .ok (.aload_n 0, 1) := by decide +kernel
theorem dX6_fewest_149 : decode cX6_fewest 149 = .ok (.getfield 9, 3) := by decide +kernel
theorem dX6_fewest_152 : decode cX6_fewest 152 = .ok (.aload 7, 2) := by decide +kernel
theorem dX6_fewest_154 : decode cX6_fewest 154 = .ok (.getfield 47, 3) := by decide +kernel
theorem dX6_fewest_157 : decode cX6_fewest 157 = .ok (.iload 8, 2) := by decide +kernel
theorem dX6_fewest_159 : decode cX6_fewest 159 = .ok (.iastore, 1) := by decide +kernel
theorem dX6_fewest_160 : decode cX6_fewest 160 = .ok (.iconst 1, 1) := by decide +kernel
theorem dX6_fewest_161 : decode cX6_fewest 161 = .ok (.istore 4, 2) := by decide +kernel
theorem dX6_fewest_163 : decode cX6_fewest 163 = .ok (.goto 33, 3) := by decide +kernel
theorem dX6_fewest_166 : decode cX6_fewest 166 = .ok (.iload 9, 2) := by decide +kernel
theorem dX6_fewest_168 : decode cX6_fewest 168 = .ok (.aload_n 0, 1) := by decide +kernel
theorem dX6_fewest_169 : decode cX6_fewest 169 = .ok (.getfield 9, 3) := by decide +kernel
theorem dX6_fewest_172 : decode cX6_fewest 172 = .ok (.aload 7, 2) := by decide +kernel
theorem dX6_fewest_174 : decode cX6_fewest 174 = .ok (.getfield 42, 3) := by decide +kernel
theorem dX6_fewest_177 : decode cX6_fewest 177 = .ok (.iaload, 1) := by decide +kernel
theorem dX6_fewest_178 : decode cX6_fewest 178 = .ok (.if_icmp .ge 18, 3) := by decide +kernel
theorem dX6_fewest_181 : decode cX6_fewest 181 = .ok (.aload_n 0, 1) := by decide +kernel
theorem dX6_fewest_182 : decode cX6_fewest 182 = .ok (.getfield 9, 3) := by decide +kernel
theorem dX6_fewest_185 : decode cX6_fewest 185 = .ok (.aload 7, 2) := by decide +kernel
theorem dX6_fewest_187 : decode cX6_fewest 187 = .ok (.getfield 42, 3) := by decide +kernel
theorem dX6_fewest_190 : decode cX6_fewest 190 = .ok (.iload 9, 2) := by decide +kernel
theorem dX6_fewest_192 : decode cX6_fewest 192 = .ok (.iastore, 1) := by decide +kernel
theorem dX6_fewest_193 : decode cX6_fewest 193 = .ok (.iconst 1, 1) := by decide +kernel
theorem dX6_fewest_194 : decode cX6_fewest 194 = .ok (.istore 4, 2) := by decide +kernel
theorem dX6_fewest_196 : decode cX6_fewest 196 = .ok (.iinc 6 1, 3) := by decide +kernel
theorem dX6_fewest_199 : decode cX6_fewest 199 = .ok (.goto (-140), 3) := by decide +kernel
theorem dX6_fewest_202 : decode cX6_fewest 202 = .ok (.iinc 5 1, 3) := by decide +kernel
theorem dX6_fewest_205 : decode cX6_fewest 205 = .ok (.goto (-164), 3) := by decide +kernel
theorem dX6_fewest_208 : decode cX6_fewest 208 = .ok (.aload_n 0, 1) := by decide +kernel
theorem dX6_fewest_209 : decode cX6_fewest 209 = .ok (.getfield 9, 3) := by decide +kernel
theorem dX6_fewest_212 : decode cX6_fewest 212 = .ok (.aload_n 1, 1) := by decide +kernel
theorem dX6_fewest_213 : decode cX6_fewest 213 = .ok (.getfield 50, 3) := by decide +kernel
theorem dX6_fewest_216 : decode cX6_fewest 216 = .ok (.iaload, 1) := by decide +kernel
theorem dX6_fewest_217 : decode cX6_fewest 217 = .ok (.ldc 29, 2) := by decide +kernel
theorem dX6_fewest_219 : decode cX6_fewest 219 = .ok (.if_icmp .ge 15, 3) := by decide +kernel
theorem dX6_fewest_222 : decode cX6_fewest 222 = .ok (.aload_n 0, 1) := by decide +kernel
theorem dX6_fewest_223 : decode cX6_fewest 223 = .ok (.getfield 9, 3) := by decide +kernel
theorem dX6_fewest_226 : decode cX6_fewest 226 = .ok (.aload_n 1, 1) := by decide +kernel
theorem dX6_fewest_227 : decode cX6_fewest 227 = .ok (.getfield 50, 3) := by decide +kernel
theorem dX6_fewest_230 : decode cX6_fewest 230 = .ok (.iaload, 1) := by decide +kernel
theorem dX6_fewest_231 : decode cX6_fewest 231 = .ok (.goto 5, 3) := by decide +kernel
theorem dX6_fewest_234 : decode cX6_fewest 234 = .ok (.bipush (-5), 2) := by decide +kernel
theorem dX6_fewest_236 : decode cX6_fewest 236 = .ok (.ireturn, 1) := by decide +kernel
theorem dX7_init_0 : decode cX7_init 0 = .ok (.aload_n 0, 1) := by decide +kernel
theorem dX7_init_1 : decode cX7_init 1 = .ok (.invokespecial 3, 3) := by decide +kernel
theorem dX7_init_4 : decode cX7_init 4 = .ok (.aload_n 0, 1) := by decide +kernel
theorem dX7_init_5 : decode cX7_init 5 = .ok (.iconst 4, 1) := by decide +kernel
theorem dX7_init_6 : decode cX7_init 6 = .ok (.newarray .int, 2) := by decide +kernel
theorem dX7_init_8 : decode cX7_init 8 = .ok (.putfield 9, 3) := by decide +kernel
theorem dX7_init_11 : decode cX7_init 11 = .ok (.aload_n 0, 1) := by decide +kernel
theorem dX7_init_12 : decode cX7_init 12 = .ok (.iload_n 1, 1) := by decide +kernel
theorem dX7_init_13 : decode cX7_init 13 = .ok (.putfield 15, 3) := by decide +kernel
theorem dX7_init_16 : decode cX7_init 16 = .ok (.aload_n 0, 1) := by decide +kernel
theorem dX7_init_17 : decode cX7_init 17 = .ok (.iconst (-1), 1) := by decide +kernel
theorem dX7_init_18 : decode cX7_init 18 = .ok (.putfield 19, 3) := by decide +kernel
theorem dX7_init_21 : decode cX7_init 21 = .ok (.aload_n 0, 1) := by decide +kernel
theorem dX7_init_22 : decode cX7_init 22 = .ok (.iconst (-1), 1) := by decide +kernel
theorem dX7_init_23 : decode cX7_init 23 = .ok (.putfield 22, 3) := by decide +kernel
theorem dX7_init_26 : decode cX7_init 26 = .ok (.aload_n 0, 1) := by decide +kernel
theorem dX7_init_27 : decode cX7_init 27 = .ok (.iconst (-1), 1) := by decide +kernel
theorem dX7_init_28 : decode cX7_init 28 = .ok (.putfield 25, 3) := by decide +kernel
theorem dX7_init_31 : decode cX7_init 31 = .ok (.return_, 1) := by decide +kernel
theorem dX7_take_0 : decode cX7_take 0 = .ok (.aload_n 0, 1) := by decide +kernel
theorem dX7_take_1 : decode cX7_take 1 = .ok (.getfield 28, 3) := by decide +kernel
theorem dX7_take_4 : decode cX7_take 4 = .ok (.iconst 4, 1) := by decide +kernel
theorem dX7_take_5 : decode cX7_take 5 = .ok (.if_icmp .lt 4, 3) := by decide +kernel
theorem dX7_take_8 : decode cX7_take 8 = .ok (.return_, 1) := by decide +kernel
theorem dX7_take_9 : decode cX7_take 9 = .ok (.aload_n 0, 1) := by decide +kernel
theorem dX7_take_10 : decode cX7_take 10 = .ok (.getfield 28, 3) := by decide +kernel
theorem dX7_take_13 : decode cX7_take 13 = .ok (.istore_n 2, 1) := by decide +kernel
theorem dX7_take_14 : decode cX7_take 14 = .ok (.iload_n 2, 1) := by decide +kernel
theorem dX7_take_15 : decode cX7_take 15 = .ok (.ifCond .le 35, 3) := by decide +kernel
theorem dX7_take_18 : decode cX7_take 18 = .ok (.aload_n 0, 1) := by decide +kernel
theorem dX7_take_19 : decode cX7_take 19 = .ok (.getfield 9, 3) := by decide +kernel
theorem dX7_take_22 : decode cX7_take 22 = .ok (.iload_n 2, 1) := by decide +kernel
theorem dX7_take_23 : decode cX7_take 23 = .ok (.iconst 1, 1) := by decide +kernel
theorem dX7_take_24 : decode cX7_take 24 = .ok (.isub, 1) := by decide +kernel
theorem dX7_take_25 : decode cX7_take 25 = .ok (.iaload, 1) := by decide +kernel
theorem dX7_take_26 : decode cX7_take 26 = .ok (.iload_n 1, 1) := by decide +kernel
theorem dX7_take_27 : decode cX7_take 27 = .ok (.if_icmp .le 23, 3) := by decide +kernel
theorem dX7_take_30 : decode cX7_take 30 = .ok (.aload_n 0, 1) := by decide +kernel
theorem dX7_take_31 : decode cX7_take 31 = .ok (.getfield 9, 3) := by decide +kernel
theorem dX7_take_34 : decode cX7_take 34 = .ok (.iload_n 2, 1) := by decide +kernel
theorem dX7_take_35 : decode cX7_take 35 = .ok (.aload_n 0, 1) := by decide +kernel
theorem dX7_take_36 : decode cX7_take 36 = .ok (.getfield 9, 3) := by decide +kernel
theorem dX7_take_39 : decode cX7_take 39 = .ok (.iload_n 2, 1) := by decide +kernel
theorem dX7_take_40 : decode cX7_take 40 = .ok (.iconst 1, 1) := by decide +kernel
theorem dX7_take_41 : decode cX7_take 41 = .ok (.isub, 1) := by decide +kernel
theorem dX7_take_42 : decode cX7_take 42 = .ok (.iaload, 1) := by decide +kernel
theorem dX7_take_43 : decode cX7_take 43 = .ok (.iastore, 1) := by decide +kernel
theorem dX7_take_44 : decode cX7_take 44 = .ok (.iinc 2 (-1), 3) := by decide +kernel
theorem dX7_take_47 : decode cX7_take 47 = .ok (.goto (-33), 3) := by decide +kernel
theorem dX7_take_50 : decode cX7_take 50 = .ok (.aload_n 0, 1) := by decide +kernel
theorem dX7_take_51 : decode cX7_take 51 = .ok (.getfield 9, 3) := by decide +kernel
theorem dX7_take_54 : decode cX7_take 54 = .ok (.iload_n 2, 1) := by decide +kernel
theorem dX7_take_55 : decode cX7_take 55 = .ok (.iload_n 1, 1) := by decide +kernel
theorem dX7_take_56 : decode cX7_take 56 = .ok (.iastore, 1) := by decide +kernel
theorem dX7_take_57 : decode cX7_take 57 = .ok (.aload_n 0, 1) := by decide +kernel
theorem dX7_take_58 : decode cX7_take 58 = .ok (.dup, 1) := by decide +kernel
theorem dX7_take_59 : decode cX7_take 59 = .ok (.getfield 31, 3) := by decide +kernel
theorem dX7_take_62 : decode cX7_take 62 = .ok (.lconst 1, 1) := by decide +kernel
theorem dX7_take_63 : decode cX7_take 63 = .ok (.iload_n 1, 1) := by decide +kernel
theorem dX7_take_64 : decode cX7_take 64 = .ok (.lshl, 1) := by decide +kernel
theorem dX7_take_65 : decode cX7_take 65 = .ok (.lor, 1) := by decide +kernel
theorem dX7_take_66 : decode cX7_take 66 = .ok (.putfield 31, 3) := by decide +kernel
theorem dX7_take_69 : decode cX7_take 69 = .ok (.aload_n 0, 1) := by decide +kernel
theorem dX7_take_70 : decode cX7_take 70 = .ok (.dup, 1) := by decide +kernel
theorem dX7_take_71 : decode cX7_take 71 = .ok (.getfield 28, 3) := by decide +kernel
theorem dX7_take_74 : decode cX7_take 74 = .ok (.iconst 1, 1) := by decide +kernel
theorem dX7_take_75 : decode cX7_take 75 = .ok (.iadd, 1) := by decide +kernel
theorem dX7_take_76 : decode cX7_take 76 = .ok (.putfield 28, 3) := by decide +kernel
theorem dX7_take_79 : decode cX7_take 79 = .ok (.return_, 1) := by decide +kernel
theorem dX7_uses_0 : decode cX7_uses 0 = .ok (.aload_n 0, 1) := by decide +kernel
theorem dX7_uses_1 : decode cX7_uses 1 = .ok (.getfield 31, 3) := by decide +kernel
theorem dX7_uses_4 : decode cX7_uses 4 = .ok (.lconst 1, 1) := by decide +kernel
theorem dX7_uses_5 : decode cX7_uses 5 = .ok (.iload_n 1, 1) := by decide +kernel
theorem dX7_uses_6 : decode cX7_uses 6 = .ok (.lshl, 1) := by decide +kernel
theorem dX7_uses_7 : decode cX7_uses 7 = .ok (.land, 1) := by decide +kernel
theorem dX7_uses_8 : decode cX7_uses 8 = .ok (.lconst 0, 1) := by decide +kernel
theorem dX7_uses_9 : decode cX7_uses 9 = .ok (.lcmp, 1) := by decide +kernel
theorem dX7_uses_10 : decode cX7_uses 10 = .ok (.ifCond .eq 7, 3) := by decide +kernel
theorem dX7_uses_13 : decode cX7_uses 13 = .ok (.iconst 1, 1) := by decide +kernel
theorem dX7_uses_14 : decode cX7_uses 14 = .ok (.goto 4, 3) := by decide +kernel
theorem dX7_uses_17 : decode cX7_uses 17 = .ok (.iconst 0, 1) := by decide +kernel
theorem dX7_uses_18 : decode cX7_uses 18 = .ok (.ireturn, 1) := by decide +kernel
theorem dX7_isOpen_0 : decode cX7_isOpen 0 = .ok (.aload_n 0, 1) := by decide +kernel
theorem dX7_isOpen_1 : decode cX7_isOpen 1 = .ok (.getfield 35, 3) := by decide +kernel
theorem dX7_isOpen_4 : decode cX7_isOpen 4 = .ok (.ifCond .eq 11, 3) := by decide +kernel
theorem dX7_isOpen_7 : decode cX7_isOpen 7 = .ok (.aload_n 0, 1) := by decide +kernel
theorem dX7_isOpen_8 : decode cX7_isOpen 8 = .ok (.getfield 35, 3) := by decide +kernel
theorem dX7_isOpen_11 : decode cX7_isOpen 11 = .ok (.iconst 1, 1) := by decide +kernel
theorem dX7_isOpen_12 : decode cX7_isOpen 12 = .ok (.if_icmp .ne 7, 3) := by decide +kernel
theorem dX7_isOpen_15 : decode cX7_isOpen 15 = .ok (.iconst 1, 1) := by decide +kernel
theorem dX7_isOpen_16 : decode cX7_isOpen 16 = .ok (.goto 4, 3) := by decide +kernel
theorem dX7_isOpen_19 : decode cX7_isOpen 19 = .ok (.iconst 0, 1) := by decide +kernel
theorem dX7_isOpen_20 : decode cX7_isOpen 20 = .ok (.ireturn, 1) := by decide +kernel
theorem dX7_stands_0 : decode cX7_stands 0 = .ok (.aload_n 0, 1) := by decide +kernel
theorem dX7_stands_1 : decode cX7_stands 1 = .ok (.getfield 35, 3) := by decide +kernel
theorem dX7_stands_4 : decode cX7_stands 4 = .ok (.iconst 1, 1) := by decide +kernel
theorem dX7_stands_5 : decode cX7_stands 5 = .ok (.if_icmp .eq 19, 3) := by decide +kernel
theorem dX7_stands_8 : decode cX7_stands 8 = .ok (.aload_n 0, 1) := by decide +kernel
theorem dX7_stands_9 : decode cX7_stands 9 = .ok (.getfield 35, 3) := by decide +kernel
theorem dX7_stands_12 : decode cX7_stands 12 = .ok (.iconst 2, 1) := by decide +kernel
theorem dX7_stands_13 : decode cX7_stands 13 = .ok (.if_icmp .eq 11, 3) := by decide +kernel
theorem dX7_stands_16 : decode cX7_stands 16 = .ok (.aload_n 0, 1) := by decide +kernel
theorem dX7_stands_17 : decode cX7_stands 17 = .ok (.getfield 35, 3) := by decide +kernel
theorem dX7_stands_20 : decode cX7_stands 20 = .ok (.iconst 3, 1) := by decide +kernel
theorem dX7_stands_21 : decode cX7_stands 21 = .ok (.if_icmp .ne 7, 3) := by decide +kernel
theorem dX7_stands_24 : decode cX7_stands 24 = .ok (.iconst 1, 1) := by decide +kernel
theorem dX7_stands_25 : decode cX7_stands 25 = .ok (.goto 4, 3) := by decide +kernel
theorem dX7_stands_28 : decode cX7_stands 28 = .ok (.iconst 0, 1) := by decide +kernel
theorem dX7_stands_29 : decode cX7_stands 29 = .ok (.ireturn, 1) := by decide +kernel
theorem dX7_canBeJoined_0 : decode cX7_canBeJoined 0 = .ok (.aload_n 0, 1) := by decide +kernel
theorem dX7_canBeJoined_1 : decode cX7_canBeJoined 1 = .ok (.getfield 38, 3) := by decide +kernel
theorem dX7_canBeJoined_4 : decode cX7_canBeJoined 4 = .ok (.iconst 1, 1) := by decide +kernel
theorem dX7_canBeJoined_5 : decode cX7_canBeJoined 5 = .ok (.if_icmp .ne 21, 3) := by decide +kernel
theorem dX7_canBeJoined_8 : decode cX7_canBeJoined 8 = .ok (.aload_n 0, 1) := by decide +kernel
theorem dX7_canBeJoined_9 : decode cX7_canBeJoined 9 = .ok (.invokevirtual 41, 3) := by decide +kernel
theorem dX7_canBeJoined_12 : decode cX7_canBeJoined 12 = .ok (.ifCond .eq 14, 3) := by decide +kernel
theorem dX7_canBeJoined_15 : decode cX7_canBeJoined 15 = .ok (.aload_n 0, 1) := by decide +kernel
theorem dX7_canBeJoined_16 : decode cX7_canBeJoined 16 = .ok (.getfield 25, 3) := by decide +kernel
theorem dX7_canBeJoined_19 : decode cX7_canBeJoined 19 = .ok (.ifCond .ge 7, 3) := by decide +kernel
theorem dX7_canBeJoined_22 : decode cX7_canBeJoined 22 = .ok (.iconst 1, 1) := by decide +kernel
theorem dX7_canBeJoined_23 : decode cX7_canBeJoined 23 = .ok (.goto 4, 3) := by decide +kernel
theorem dX7_canBeJoined_26 : decode cX7_canBeJoined 26 = .ok (.iconst 0, 1) := by decide +kernel
theorem dX7_canBeJoined_27 : decode cX7_canBeJoined 27 = .ok (.ireturn, 1) := by decide +kernel
theorem dX7_isBookedOn_0 : decode cX7_isBookedOn 0 = .ok (.aload_n 0, 1) := by decide +kernel
theorem dX7_isBookedOn_1 : decode cX7_isBookedOn 1 = .ok (.getfield 35, 3) := by decide +kernel
theorem dX7_isBookedOn_4 : decode cX7_isBookedOn 4 = .ok (.iconst 2, 1) := by decide +kernel
theorem dX7_isBookedOn_5 : decode cX7_isBookedOn 5 = .ok (.if_icmp .eq 11, 3) := by decide +kernel
theorem dX7_isBookedOn_8 : decode cX7_isBookedOn 8 = .ok (.aload_n 0, 1) := by decide +kernel
theorem dX7_isBookedOn_9 : decode cX7_isBookedOn 9 = .ok (.getfield 35, 3) := by decide +kernel
theorem dX7_isBookedOn_12 : decode cX7_isBookedOn 12 = .ok (.iconst 3, 1) := by decide +kernel
theorem dX7_isBookedOn_13 : decode cX7_isBookedOn 13 = .ok (.if_icmp .ne 15, 3) := by decide +kernel
theorem dX7_isBookedOn_16 : decode cX7_isBookedOn 16 = .ok (.aload_n 0, 1) := by decide +kernel
theorem dX7_isBookedOn_17 : decode cX7_isBookedOn 17 = .ok (.iload_n 1, 1) := by decide +kernel
theorem dX7_isBookedOn_18 : decode cX7_isBookedOn 18 = .ok (.invokevirtual 45, 3) := by decide +kernel
theorem dX7_isBookedOn_21 : decode cX7_isBookedOn 21 = .ok (.ifCond .eq 7, 3) := by decide +kernel
theorem dX7_isBookedOn_24 : decode cX7_isBookedOn 24 = .ok (.iconst 1, 1) := by decide +kernel
theorem dX7_isBookedOn_25 : decode cX7_isBookedOn 25 = .ok (.goto 4, 3) := by decide +kernel
theorem dX7_isBookedOn_28 : decode cX7_isBookedOn 28 = .ok (.iconst 0, 1) := by decide +kernel
theorem dX7_isBookedOn_29 : decode cX7_isBookedOn 29 = .ok (.ireturn, 1) := by decide +kernel
theorem dX7_lastFrom_0 : decode cX7_lastFrom 0 = .ok (.sipush 399, 3) := by decide +kernel
theorem dX7_lastFrom_3 : decode cX7_lastFrom 3 = .ok (.iload_n 1, 1) := by decide +kernel
theorem dX7_lastFrom_4 : decode cX7_lastFrom 4 = .ok (.aload_n 0, 1) := by decide +kernel
theorem dX7_lastFrom_5 : decode cX7_lastFrom 5 = .ok (.getfield 49, 3) := by decide +kernel
theorem dX7_lastFrom_8 : decode cX7_lastFrom 8 = .ok (.iadd, 1) := by decide +kernel
theorem dX7_lastFrom_9 : decode cX7_lastFrom 9 = .ok (.iconst 1, 1) := by decide +kernel
theorem dX7_lastFrom_10 : decode cX7_lastFrom 10 = .ok (.isub, 1) := by decide +kernel
theorem dX7_lastFrom_11 : decode cX7_lastFrom 11 = .ok (.invokestatic 52, 3) := by decide +kernel
theorem dX7_lastFrom_14 : decode cX7_lastFrom 14 = .ok (.ireturn, 1) := by decide +kernel
theorem dX7_placeAt_0 : decode cX7_placeAt 0 = .ok (.aload_n 0, 1) := by decide +kernel
theorem dX7_placeAt_1 : decode cX7_placeAt 1 = .ok (.iload_n 1, 1) := by decide +kernel
theorem dX7_placeAt_2 : decode cX7_placeAt 2 = .ok (.putfield 19, 3) := by decide +kernel
theorem dX7_placeAt_5 : decode cX7_placeAt 5 = .ok (.aload_n 0, 1) := by decide +kernel
theorem dX7_placeAt_6 : decode cX7_placeAt 6 = .ok (.aload_n 0, 1) := by decide +kernel
theorem dX7_placeAt_7 : decode cX7_placeAt 7 = .ok (.iload_n 1, 1) := by decide +kernel
theorem dX7_placeAt_8 : decode cX7_placeAt 8 = .ok (.invokevirtual 58, 3) := by decide +kernel
theorem dX7_placeAt_11 : decode cX7_placeAt 11 = .ok (.putfield 22, 3) := by decide +kernel
theorem dX7_placeAt_14 : decode cX7_placeAt 14 = .ok (.return_, 1) := by decide +kernel
theorem dX7_notice_0 : decode cX7_notice 0 = .ok (.aload_n 0, 1) := by decide +kernel
theorem dX7_notice_1 : decode cX7_notice 1 = .ok (.getfield 38, 3) := by decide +kernel
theorem dX7_notice_4 : decode cX7_notice 4 = .ok (.ifCond .ne 7, 3) := by decide +kernel
theorem dX7_notice_7 : decode cX7_notice 7 = .ok (.iconst 3, 1) := by decide +kernel
theorem dX7_notice_8 : decode cX7_notice 8 = .ok (.goto 17, 3) := by decide +kernel
theorem dX7_notice_11 : decode cX7_notice 11 = .ok (.aload_n 0, 1) := by decide +kernel
theorem dX7_notice_12 : decode cX7_notice 12 = .ok (.getfield 38, 3) := by decide +kernel
theorem dX7_notice_15 : decode cX7_notice 15 = .ok (.iconst 1, 1) := by decide +kernel
theorem dX7_notice_16 : decode cX7_notice 16 = .ok (.if_icmp .ne 8, 3) := by decide +kernel
theorem dX7_notice_19 : decode cX7_notice 19 = .ok (.bipush 30, 2) := by decide +kernel
theorem dX7_notice_21 : decode cX7_notice 21 = .ok (.goto 4, 3) := by decide +kernel
theorem dX7_notice_24 : decode cX7_notice 24 = .ok (.iconst 0, 1) := by decide +kernel
theorem dX7_notice_25 : decode cX7_notice 25 = .ok (.ireturn, 1) := by decide +kernel
theorem dX7_delay_0 : decode cX7_delay 0 = .ok (.aload_n 0, 1) := by decide +kernel
theorem dX7_delay_1 : decode cX7_delay 1 = .ok (.getfield 19, 3) := by decide +kernel
theorem dX7_delay_4 : decode cX7_delay 4 = .ok (.aload_n 0, 1) := by decide +kernel
theorem dX7_delay_5 : decode cX7_delay 5 = .ok (.getfield 62, 3) := by decide +kernel
theorem dX7_delay_8 : decode cX7_delay 8 = .ok (.if_icmp .le 20, 3) := by decide +kernel
theorem dX7_delay_11 : decode cX7_delay 11 = .ok (.aload_n 0, 1) := by decide +kernel
theorem dX7_delay_12 : decode cX7_delay 12 = .ok (.getfield 19, 3) := by decide +kernel
theorem dX7_delay_15 : decode cX7_delay 15 = .ok (.aload_n 0, 1) := by decide +kernel
theorem dX7_delay_16 : decode cX7_delay 16 = .ok (.getfield 62, 3) := by decide +kernel
theorem dX7_delay_19 : decode cX7_delay 19 = .ok (.isub, 1) := by decide +kernel
theorem dX7_delay_20 : decode cX7_delay 20 = .ok (.aload_n 0, 1) := by decide +kernel
theorem dX7_delay_21 : decode cX7_delay 21 = .ok (.getfield 65, 3) := by decide +kernel
theorem dX7_delay_24 : decode cX7_delay 24 = .ok (.imul, 1) := by decide +kernel
theorem dX7_delay_25 : decode cX7_delay 25 = .ok (.goto 4, 3) := by decide +kernel
theorem dX7_delay_28 : decode cX7_delay 28 = .ok (.iconst 0, 1) := by decide +kernel
theorem dX7_delay_29 : decode cX7_delay 29 = .ok (.ireturn, 1) := by decide +kernel
theorem dX8_init_0 : decode cX8_init 0 = .ok (.aload_n 0, 1) := by decide +kernel
theorem dX8_init_1 : decode cX8_init 1 = .ok (.invokespecial 1, 3) := by decide +kernel
theorem dX8_init_4 : decode cX8_init 4 = .ok (.aload_n 0, 1) := by decide +kernel
theorem dX8_init_5 : decode cX8_init 5 = .ok (.new 7, 3) := by decide +kernel
theorem dX8_init_8 : decode cX8_init 8 = .ok (.dup, 1) := by decide +kernel
theorem dX8_init_9 : decode cX8_init 9 = .ok (.invokespecial 9, 3) := by decide +kernel
theorem dX8_init_12 : decode cX8_init 12 = .ok (.putfield 10, 3) := by decide +kernel
theorem dX8_init_15 : decode cX8_init 15 = .ok (.aload_n 0, 1) := by decide +kernel
theorem dX8_init_16 : decode cX8_init 16 = .ok (.new 16, 3) := by decide +kernel
theorem dX8_init_19 : decode cX8_init 19 = .ok (.dup, 1) := by decide +kernel
theorem dX8_init_20 : decode cX8_init 20 = .ok (.aload_n 0, 1) := by decide +kernel
theorem dX8_init_21 : decode cX8_init 21 = .ok (.getfield 10, 3) := by decide +kernel
theorem dX8_init_24 : decode cX8_init 24 = .ok (.invokespecial 18, 3) := by decide +kernel
theorem dX8_init_27 : decode cX8_init 27 = .ok (.putfield 21, 3) := by decide +kernel
theorem dX8_init_30 : decode cX8_init 30 = .ok (.aload_n 0, 1) := by decide +kernel
theorem dX8_init_31 : decode cX8_init 31 = .ok (.new 25, 3) := by decide +kernel
theorem dX8_init_34 : decode cX8_init 34 = .ok (.dup, 1) := by decide +kernel
theorem dX8_init_35 : decode cX8_init 35 = .ok (.aload_n 0, 1) := by decide +kernel
theorem dX8_init_36 : decode cX8_init 36 = .ok (.getfield 10, 3) := by decide +kernel
theorem dX8_init_39 : decode cX8_init 39 = .ok (.invokespecial 27, 3) := by decide +kernel
theorem dX8_init_42 : decode cX8_init 42 = .ok (.putfield 28, 3) := by decide +kernel
theorem dX8_init_45 : decode cX8_init 45 = .ok (.aload_n 0, 1) := by decide +kernel
theorem dX8_init_46 : decode cX8_init 46 = .ok (.new 32, 3) := by decide +kernel
theorem dX8_init_49 : decode cX8_init 49 = .ok (.dup, 1) := by decide +kernel
theorem dX8_init_50 : decode cX8_init 50 = .ok (.aload_n 0, 1) := by decide +kernel
theorem dX8_init_51 : decode cX8_init 51 = .ok (.getfield 10, 3) := by decide +kernel
theorem dX8_init_54 : decode cX8_init 54 = .ok (.aload_n 0, 1) := by decide +kernel
theorem dX8_init_55 : decode cX8_init 55 = .ok (.getfield 21, 3) := by decide +kernel
theorem dX8_init_58 : decode cX8_init 58 = .ok (.aload_n 0, 1) := by decide +kernel
theorem dX8_init_59 : decode cX8_init 59 = .ok (.getfield 28, 3) := by decide +kernel
theorem dX8_init_62 : decode cX8_init 62 = .ok (.invokespecial 34, 3) := by decide +kernel
theorem dX8_init_65 : decode cX8_init 65 = .ok (.putfield 37, 3) := by decide +kernel
theorem dX8_init_68 : decode cX8_init 68 = .ok (.aload_n 0, 1) := by decide +kernel
theorem dX8_init_69 : decode cX8_init 69 = .ok (.new 41, 3) := by decide +kernel
theorem dX8_init_72 : decode cX8_init 72 = .ok (.dup, 1) := by decide +kernel
theorem dX8_init_73 : decode cX8_init 73 = .ok (.aload_n 0, 1) := by decide +kernel
theorem dX8_init_74 : decode cX8_init 74 = .ok (.getfield 10, 3) := by decide +kernel
theorem dX8_init_77 : decode cX8_init 77 = .ok (.aload_n 0, 1) := by decide +kernel
theorem dX8_init_78 : decode cX8_init 78 = .ok (.getfield 37, 3) := by decide +kernel
theorem dX8_init_81 : decode cX8_init 81 = .ok (.invokespecial 43, 3) := by decide +kernel
theorem dX8_init_84 : decode cX8_init 84 = .ok (.putfield 46, 3) := by decide +kernel
theorem dX8_init_87 : decode cX8_init 87 = .ok (.return_, 1) := by decide +kernel
theorem dX8_piece_0 : decode cX8_piece 0 = .ok (.iload_n 1, 1) := by decide +kernel
theorem dX8_piece_1 : decode cX8_piece 1 = .ok (.ifCond .lt 17, 3) := by decide +kernel
theorem dX8_piece_4 : decode cX8_piece 4 = .ok (.iload_n 1, 1) := by decide +kernel
theorem dX8_piece_5 : decode cX8_piece 5 = .ok (.bipush 100, 2) := by decide +kernel
theorem dX8_piece_7 : decode cX8_piece 7 = .ok (.idiv, 1) := by decide +kernel
theorem dX8_piece_8 : decode cX8_piece 8 = .ok (.iload_n 1, 1) := by decide +kernel
theorem dX8_piece_9 : decode cX8_piece 9 = .ok (.bipush 100, 2) := by decide +kernel
theorem dX8_piece_11 : decode cX8_piece 11 = .ok (.irem, 1) := by decide +kernel
theorem dX8_piece_12 : decode cX8_piece 12 = .ok (.invokestatic 50, 3) := by decide +kernel
theorem dX8_piece_15 : decode cX8_piece 15 = .ok (.ifCond .ne 5, 3) := by decide +kernel
theorem dX8_piece_18 : decode cX8_piece 18 = .ok (.iconst (-1), 1) := by decide +kernel
theorem dX8_piece_19 : decode cX8_piece 19 = .ok (.ireturn, 1) := by decide +kernel
theorem dX8_piece_20 : decode cX8_piece 20 = .ok (.iload_n 2, 1) := by decide +kernel
theorem dX8_piece_21 : decode cX8_piece 21 = .ok (.iconst 1, 1) := by decide +kernel
theorem dX8_piece_22 : decode cX8_piece 22 = .ok (.iconst 4, 1) := by decide +kernel
theorem dX8_piece_23 : decode cX8_piece 23 = .ok (.invokestatic 54, 3) := by decide +kernel
theorem dX8_piece_26 : decode cX8_piece 26 = .ok (.ifCond .eq 12, 3) := by decide +kernel
theorem dX8_piece_29 : decode cX8_piece 29 = .ok (.iload_n 3, 1) := by decide +kernel
theorem dX8_piece_30 : decode cX8_piece 30 = .ok (.iconst 0, 1) := by decide +kernel
theorem dX8_piece_31 : decode cX8_piece 31 = .ok (.iconst 2, 1) := by decide +kernel
theorem dX8_piece_32 : decode cX8_piece 32 = .ok (.invokestatic 54, 3) := by decide +kernel
theorem dX8_piece_35 : decode cX8_piece 35 = .ok (.ifCond .ne 5, 3) := by decide +kernel
theorem dX8_piece_38 : decode cX8_piece 38 = .ok (.iconst (-1), 1) := by decide +kernel
theorem dX8_piece_39 : decode cX8_piece 39 = .ok (.ireturn, 1) := by decide +kernel
theorem dX8_piece_40 : decode cX8_piece 40 = .ok (.iload 4, 2) := by decide +kernel
theorem dX8_piece_42 : decode cX8_piece 42 = .ok (.iconst 1, 1) := by decide +kernel
theorem dX8_piece_43 : decode cX8_piece 43 = .ok (.bipush 30, 2) := by decide +kernel
theorem dX8_piece_45 : decode cX8_piece 45 = .ok (.invokestatic 54, 3) := by decide +kernel
theorem dX8_piece_48 : decode cX8_piece 48 = .ok (.ifCond .eq 14, 3) := by decide +kernel
theorem dX8_piece_51 : decode cX8_piece 51 = .ok (.iload 5, 2) := by decide +kernel
theorem dX8_piece_53 : decode cX8_piece 53 = .ok (.iconst 0, 1) := by decide +kernel
theorem dX8_piece_54 : decode cX8_piece 54 = .ok (.bipush 60, 2) := by decide +kernel
theorem dX8_piece_56 : decode cX8_piece 56 = .ok (.invokestatic 54, 3) := by decide +kernel
theorem dX8_piece_59 : decode cX8_piece 59 = .ok (.ifCond .ne 5, 3) := by decide +kernel
theorem dX8_piece_62 : decode cX8_piece 62 = .ok (.iconst (-1), 1) := by decide +kernel
theorem dX8_piece_63 : decode cX8_piece 63 = .ok (.ireturn, 1) := by decide +kernel
theorem dX8_piece_64 : decode cX8_piece 64 = .ok (.aload_n 0, 1) := by decide +kernel
theorem dX8_piece_65 : decode cX8_piece 65 = .ok (.getfield 10, 3) := by decide +kernel
theorem dX8_piece_68 : decode cX8_piece 68 = .ok (.getfield 58, 3) := by decide +kernel
theorem dX8_piece_71 : decode cX8_piece 71 = .ok (.bipush 40, 2) := by decide +kernel
theorem dX8_piece_73 : decode cX8_piece 73 = .ok (.if_icmp .lt 6, 3) := by decide +kernel
theorem dX8_piece_76 : decode cX8_piece 76 = .ok (.bipush (-2), 2) := by decide +kernel
theorem dX8_piece_78 : decode cX8_piece 78 = .ok (.ireturn, 1) := by decide +kernel
theorem dX8_piece_79 : decode cX8_piece 79 = .ok (.aload_n 0, 1) := by decide +kernel
theorem dX8_piece_80 : decode cX8_piece 80 = .ok (.getfield 10, 3) := by decide +kernel
theorem dX8_piece_83 : decode cX8_piece 83 = .ok (.getfield 62, 3) := by decide +kernel
theorem dX8_piece_86 : decode cX8_piece 86 = .ok (.aload_n 0, 1) := by decide +kernel
theorem dX8_piece_87 : decode cX8_piece 87 = .ok (.getfield 10, 3) := by decide +kernel
theorem dX8_piece_90 : decode cX8_piece 90 = .ok (.getfield 58, 3) := by decide +kernel
theorem dX8_piece_93 : decode cX8_piece 93 = .ok (.aaload, 1) := by decide +kernel
theorem dX8_piece_94 : decode cX8_piece 94 = .ok (.astore 6, 2) := by decide +kernel
theorem dX8_piece_96 : decode cX8_piece 96 = .ok (.aload 6, 2) := by decide +kernel
theorem dX8_piece_98 : decode cX8_piece 98 = .ok (.iload_n 1, 1) := by decide +kernel
theorem dX8_piece_99 : decode cX8_piece 99 = .ok (.bipush 100, 2) := by decide +kernel
theorem dX8_piece_101 : decode cX8_piece 101 = .ok (.idiv, 1) := by decide +kernel
theorem dX8_piece_102 : decode cX8_piece 102 = .ok (.putfield 66, 3) := by decide +kernel
theorem dX8_piece_105 : decode cX8_piece 105 = .ok (.aload 6, 2) := by decide +kernel
theorem dX8_piece_107 : decode cX8_piece 107 = .ok (.iload_n 1, 1) := by decide +kernel
theorem dX8_piece_108 : decode cX8_piece 108 = .ok (.bipush 100, 2) := by decide +kernel
theorem dX8_piece_110 : decode cX8_piece 110 = .ok (.irem, 1) := by decide +kernel
theorem dX8_piece_111 : decode cX8_piece 111 = .ok (.putfield 71, 3) := by decide +kernel
theorem dX8_piece_114 : decode cX8_piece 114 = .ok (.aload 6, 2) := by decide +kernel
theorem dX8_piece_116 : decode cX8_piece 116 = .ok (.iload_n 2, 1) := by decide +kernel
theorem dX8_piece_117 : decode cX8_piece 117 = .ok (.putfield 74, 3) := by decide +kernel
theorem dX8_piece_120 : decode cX8_piece 120 = .ok (.aload 6, 2) := by decide +kernel
theorem dX8_piece_122 : decode cX8_piece 122 = .ok (.iload_n 3, 1) := by decide +kernel
theorem dX8_piece_123 : decode cX8_piece 123 = .ok (.putfield 77, 3) := by decide +kernel
theorem dX8_piece_126 : decode cX8_piece 126 = .ok (.aload 6, 2) := by decide +kernel
theorem dX8_piece_128 : decode cX8_piece 128 = .ok (.iload 4, 2) := by decide +kernel
theorem dX8_piece_130 : decode cX8_piece 130 = .ok (.putfield 80, 3) := by decide +kernel
theorem dX8_piece_133 : decode cX8_piece 133 = .ok (.aload 6, 2) := by decide +kernel
theorem dX8_piece_135 : decode cX8_piece 135 = .ok (.iload 5, 2) := by decide +kernel
theorem dX8_piece_137 : decode cX8_piece 137 = .ok (.putfield 83, 3) := by decide +kernel
theorem dX8_piece_140 : decode cX8_piece 140 = .ok (.aload_n 0, 1) := by decide +kernel
theorem dX8_piece_141 : decode cX8_piece 141 = .ok (.getfield 10, 3) := by decide +kernel
theorem dX8_piece_144 : decode cX8_piece 144 = .ok (.dup, 1) := by decide +kernel
theorem dX8_piece_145 : decode cX8_piece 145 = .ok (.getfield 58, 3) := by decide +kernel
theorem dX8_piece_148 : decode cX8_piece 148 = .ok (.iconst 1, 1) := by decide +kernel
theorem dX8_piece_149 : decode cX8_piece 149 = .ok (.iadd, 1) := by decide +kernel
theorem dX8_piece_150 : decode cX8_piece 150 = .ok (.putfield 58, 3) := by decide +kernel
theorem dX8_piece_153 : decode cX8_piece 153 = .ok (.aload_n 0, 1) := by decide +kernel
theorem dX8_piece_154 : decode cX8_piece 154 = .ok (.getfield 10, 3) := by decide +kernel
theorem dX8_piece_157 : decode cX8_piece 157 = .ok (.getfield 58, 3) := by decide +kernel
theorem dX8_piece_160 : decode cX8_piece 160 = .ok (.iconst 1, 1) := by decide +kernel
theorem dX8_piece_161 : decode cX8_piece 161 = .ok (.isub, 1) := by decide +kernel
theorem dX8_piece_162 : decode cX8_piece 162 = .ok (.ireturn, 1) := by decide +kernel
theorem dX8_pair_0 : decode cX8_pair 0 = .ok (.iload_n 1, 1) := by decide +kernel
theorem dX8_pair_1 : decode cX8_pair 1 = .ok (.iload_n 2, 1) := by decide +kernel
theorem dX8_pair_2 : decode cX8_pair 2 = .ok (.invokestatic 50, 3) := by decide +kernel
theorem dX8_pair_5 : decode cX8_pair 5 = .ok (.ifCond .eq 14, 3) := by decide +kernel
theorem dX8_pair_8 : decode cX8_pair 8 = .ok (.iload_n 3, 1) := by decide +kernel
theorem dX8_pair_9 : decode cX8_pair 9 = .ok (.iconst 1, 1) := by decide +kernel
theorem dX8_pair_10 : decode cX8_pair 10 = .ok (.sipush 200, 3) := by decide +kernel
theorem dX8_pair_13 : decode cX8_pair 13 = .ok (.invokestatic 54, 3) := by decide +kernel
theorem dX8_pair_16 : decode cX8_pair 16 = .ok (.ifCond .ne 5, 3) := by decide +kernel
theorem dX8_pair_19 : decode cX8_pair 19 = .ok (.iconst (-1), 1) := by decide +kernel
theorem dX8_pair_20 : decode cX8_pair 20 = .ok (.ireturn, 1) := by decide +kernel
theorem dX8_pair_21 : decode cX8_pair 21 = .ok (.aload_n 0, 1) := by decide +kernel
theorem dX8_pair_22 : decode cX8_pair 22 = .ok (.getfield 10, 3) := by decide +kernel
theorem dX8_pair_25 : decode cX8_pair 25 = .ok (.getfield 86, 3) := by decide +kernel
theorem dX8_pair_28 : decode cX8_pair 28 = .ok (.bipush 8, 2) := by decide +kernel
theorem dX8_pair_30 : decode cX8_pair 30 = .ok (.if_icmp .lt 6, 3) := by decide +kernel
theorem dX8_pair_33 : decode cX8_pair 33 = .ok (.bipush (-2), 2) := by decide +kernel
theorem dX8_pair_35 : decode cX8_pair 35 = .ok (.ireturn, 1) := by decide +kernel
theorem dX8_pair_36 : decode cX8_pair 36 = .ok (.aload_n 0, 1) := by decide +kernel
theorem dX8_pair_37 : decode cX8_pair 37 = .ok (.getfield 10, 3) := by decide +kernel
theorem dX8_pair_40 : decode cX8_pair 40 = .ok (.getfield 89, 3) := by decide +kernel
theorem dX8_pair_43 : decode cX8_pair 43 = .ok (.aload_n 0, 1) := by decide +kernel
theorem dX8_pair_44 : decode cX8_pair 44 = .ok (.getfield 10, 3) := by decide +kernel
theorem dX8_pair_47 : decode cX8_pair 47 = .ok (.getfield 86, 3) := by decide +kernel
theorem dX8_pair_50 : decode cX8_pair 50 = .ok (.aaload, 1) := by decide +kernel
theorem dX8_pair_51 : decode cX8_pair 51 = .ok (.astore 4, 2) := by decide +kernel
theorem dX8_pair_53 : decode cX8_pair 53 = .ok (.aload 4, 2) := by decide +kernel
theorem dX8_pair_55 : decode cX8_pair 55 = .ok (.iload_n 1, 1) := by decide +kernel
theorem dX8_pair_56 : decode cX8_pair 56 = .ok (.putfield 93, 3) := by decide +kernel
theorem dX8_pair_59 : decode cX8_pair 59 = .ok (.aload 4, 2) := by decide +kernel
theorem dX8_pair_61 : decode cX8_pair 61 = .ok (.iload_n 2, 1) := by decide +kernel
theorem dX8_pair_62 : decode cX8_pair 62 = .ok (.putfield 96, 3) := by decide +kernel
theorem dX8_pair_65 : decode cX8_pair 65 = .ok (.aload 4, 2) := by decide +kernel
theorem dX8_pair_67 : decode cX8_pair 67 = .ok (.iload_n 3, 1) := by decide +kernel
theorem dX8_pair_68 : decode cX8_pair 68 = .ok (.putfield 97, 3) := by decide +kernel
theorem dX8_pair_71 : decode cX8_pair 71 = .ok (.aload_n 0, 1) := by decide +kernel
theorem dX8_pair_72 : decode cX8_pair 72 = .ok (.getfield 10, 3) := by decide +kernel
theorem dX8_pair_75 : decode cX8_pair 75 = .ok (.dup, 1) := by decide +kernel
theorem dX8_pair_76 : decode cX8_pair 76 = .ok (.getfield 86, 3) := by decide +kernel
theorem dX8_pair_79 : decode cX8_pair 79 = .ok (.iconst 1, 1) := by decide +kernel
theorem dX8_pair_80 : decode cX8_pair 80 = .ok (.iadd, 1) := by decide +kernel
theorem dX8_pair_81 : decode cX8_pair 81 = .ok (.putfield 86, 3) := by decide +kernel
theorem dX8_pair_84 : decode cX8_pair 84 = .ok (.aload_n 0, 1) := by decide +kernel
theorem dX8_pair_85 : decode cX8_pair 85 = .ok (.getfield 10, 3) := by decide +kernel
theorem dX8_pair_88 : decode cX8_pair 88 = .ok (.getfield 86, 3) := by decide +kernel
theorem dX8_pair_91 : decode cX8_pair 91 = .ok (.iconst 1, 1) := by decide +kernel
theorem dX8_pair_92 : decode cX8_pair 92 = .ok (.isub, 1) := by decide +kernel
theorem dX8_pair_93 : decode cX8_pair 93 = .ok (.ireturn, 1) := by decide +kernel
theorem dX8_feast_0 : decode cX8_feast 0 = .ok (.iload_n 1, 1) := by decide +kernel
theorem dX8_feast_1 : decode cX8_feast 1 = .ok (.invokestatic 100, 3) := by decide +kernel
theorem dX8_feast_4 : decode cX8_feast 4 = .ok (.ifCond .eq 12, 3) := by decide +kernel
theorem dX8_feast_7 : decode cX8_feast 7 = .ok (.iload_n 2, 1) := by decide +kernel
theorem dX8_feast_8 : decode cX8_feast 8 = .ok (.iconst 0, 1) := by decide +kernel
theorem dX8_feast_9 : decode cX8_feast 9 = .ok (.iconst 1, 1) := by decide +kernel
theorem dX8_feast_10 : decode cX8_feast 10 = .ok (.invokestatic 54, 3) := by decide +kernel
theorem dX8_feast_13 : decode cX8_feast 13 = .ok (.ifCond .ne 5, 3) := by decide +kernel
theorem dX8_feast_16 : decode cX8_feast 16 = .ok (.iconst (-1), 1) := by decide +kernel
theorem dX8_feast_17 : decode cX8_feast 17 = .ok (.ireturn, 1) := by decide +kernel
theorem dX8_feast_18 : decode cX8_feast 18 = .ok (.aload_n 0, 1) := by decide +kernel
theorem dX8_feast_19 : decode cX8_feast 19 = .ok (.getfield 10, 3) := by decide +kernel
theorem dX8_feast_22 : decode cX8_feast 22 = .ok (.getfield 104, 3) := by decide +kernel
theorem dX8_feast_25 : decode cX8_feast 25 = .ok (.iload_n 1, 1) := by decide +kernel
theorem dX8_feast_26 : decode cX8_feast 26 = .ok (.baload, 1) := by decide +kernel
theorem dX8_feast_27 : decode cX8_feast 27 = .ok (.istore_n 3, 1) := by decide +kernel
theorem dX8_feast_28 : decode cX8_feast 28 = .ok (.aload_n 0, 1) := by decide +kernel
theorem dX8_feast_29 : decode cX8_feast 29 = .ok (.getfield 10, 3) := by decide +kernel
theorem dX8_feast_32 : decode cX8_feast 32 = .ok (.getfield 104, 3) := by decide +kernel
theorem dX8_feast_35 : decode cX8_feast 35 = .ok (.iload_n 1, 1) := by decide +kernel
theorem dX8_feast_36 : decode cX8_feast 36 = .ok (.iload_n 2, 1) := by decide +kernel
theorem dX8_feast_37 : decode cX8_feast 37 = .ok (.iconst 1, 1) := by decide +kernel
theorem dX8_feast_38 : decode cX8_feast 38 = .ok (.if_icmp .ne 7, 3) := by decide +kernel
theorem dX8_feast_41 : decode cX8_feast 41 = .ok (.iconst 1, 1) := by decide +kernel
theorem dX8_feast_42 : decode cX8_feast 42 = .ok (.goto 4, 3) := by decide +kernel
theorem dX8_feast_45 : decode cX8_feast 45 = .ok (.iconst 0, 1) := by decide +kernel
theorem dX8_feast_46 : decode cX8_feast 46 = .ok (.bastore, 1) := by decide +kernel
theorem dX8_feast_47 : decode cX8_feast 47 = .ok (.iload_n 3, 1) := by decide +kernel
theorem dX8_feast_48 : decode cX8_feast 48 = .ok (.ifCond .eq 7, 3) := by decide +kernel
theorem dX8_feast_51 : decode cX8_feast 51 = .ok (.iconst 1, 1) := by decide +kernel
theorem dX8_feast_52 : decode cX8_feast 52 = .ok (.goto 4, 3) := by decide +kernel
theorem dX8_feast_55 : decode cX8_feast 55 = .ok (.iconst 0, 1) := by decide +kernel
theorem dX8_feast_56 : decode cX8_feast 56 = .ok (.ireturn, 1) := by decide +kernel
theorem dX8_work_0 : decode cX8_work 0 = .ok (.iload_n 1, 1) := by decide +kernel
theorem dX8_work_1 : decode cX8_work 1 = .ok (.ifCond .lt 18, 3) := by decide +kernel
theorem dX8_work_4 : decode cX8_work 4 = .ok (.iload_n 2, 1) := by decide +kernel
theorem dX8_work_5 : decode cX8_work 5 = .ok (.ifCond .lt 14, 3) := by decide +kernel
theorem dX8_work_8 : decode cX8_work 8 = .ok (.aload_n 0, 1) := by decide +kernel
theorem dX8_work_9 : decode cX8_work 9 = .ok (.getfield 10, 3) := by decide +kernel
theorem dX8_work_12 : decode cX8_work 12 = .ok (.iload_n 3, 1) := by decide +kernel
theorem dX8_work_13 : decode cX8_work 13 = .ok (.invokevirtual 108, 3) := by decide +kernel
theorem dX8_work_16 : decode cX8_work 16 = .ok (.ifCond .ne 5, 3) := by decide +kernel
theorem dX8_work_19 : decode cX8_work 19 = .ok (.iconst (-1), 1) := by decide +kernel
theorem dX8_work_20 : decode cX8_work 20 = .ok (.ireturn, 1) := by decide +kernel
theorem dX8_work_21 : decode cX8_work 21 = .ok (.iload_n 1, 1) := by decide +kernel
theorem dX8_work_22 : decode cX8_work 22 = .ok (.sipush 10000, 3) := by decide +kernel
theorem dX8_work_25 : decode cX8_work 25 = .ok (.idiv, 1) := by decide +kernel
theorem dX8_work_26 : decode cX8_work 26 = .ok (.iconst 0, 1) := by decide +kernel
theorem dX8_work_27 : decode cX8_work 27 = .ok (.bipush 9, 2) := by decide +kernel
theorem dX8_work_29 : decode cX8_work 29 = .ok (.invokestatic 54, 3) := by decide +kernel
theorem dX8_work_32 : decode cX8_work 32 = .ok (.ifCond .eq 19, 3) := by decide +kernel
theorem dX8_work_35 : decode cX8_work 35 = .ok (.iload_n 1, 1) := by decide +kernel
theorem dX8_work_36 : decode cX8_work 36 = .ok (.sipush 1000, 3) := by decide +kernel
theorem dX8_work_39 : decode cX8_work 39 = .ok (.idiv, 1) := by decide +kernel
theorem dX8_work_40 : decode cX8_work 40 = .ok (.bipush 10, 2) := by decide +kernel
theorem dX8_work_42 : decode cX8_work 42 = .ok (.irem, 1) := by decide +kernel
theorem dX8_work_43 : decode cX8_work 43 = .ok (.iconst 0, 1) := by decide +kernel
theorem dX8_work_44 : decode cX8_work 44 = .ok (.iconst 3, 1) := by decide +kernel
theorem dX8_work_45 : decode cX8_work 45 = .ok (.invokestatic 54, 3) := by decide +kernel
theorem dX8_work_48 : decode cX8_work 48 = .ok (.ifCond .ne 5, 3) := by decide +kernel
theorem dX8_work_51 : decode cX8_work 51 = .ok (.iconst (-1), 1) := by decide +kernel
theorem dX8_work_52 : decode cX8_work 52 = .ok (.ireturn, 1) := by decide +kernel
theorem dX8_work_53 : decode cX8_work 53 = .ok (.iload_n 1, 1) := by decide +kernel
theorem dX8_work_54 : decode cX8_work 54 = .ok (.bipush 100, 2) := by decide +kernel
theorem dX8_work_56 : decode cX8_work 56 = .ok (.idiv, 1) := by decide +kernel
theorem dX8_work_57 : decode cX8_work 57 = .ok (.bipush 10, 2) := by decide +kernel
theorem dX8_work_59 : decode cX8_work 59 = .ok (.irem, 1) := by decide +kernel
theorem dX8_work_60 : decode cX8_work 60 = .ok (.iconst 1, 1) := by decide +kernel
theorem dX8_work_61 : decode cX8_work 61 = .ok (.iconst 4, 1) := by decide +kernel
theorem dX8_work_62 : decode cX8_work 62 = .ok (.invokestatic 54, 3) := by decide +kernel
theorem dX8_work_65 : decode cX8_work 65 = .ok (.ifCond .eq 16, 3) := by decide +kernel
theorem dX8_work_68 : decode cX8_work 68 = .ok (.iload_n 1, 1) := by decide +kernel
theorem dX8_work_69 : decode cX8_work 69 = .ok (.bipush 100, 2) := by decide +kernel
theorem dX8_work_71 : decode cX8_work 71 = .ok (.irem, 1) := by decide +kernel
theorem dX8_work_72 : decode cX8_work 72 = .ok (.iconst 1, 1) := by decide +kernel
theorem dX8_work_73 : decode cX8_work 73 = .ok (.bipush 30, 2) := by decide +kernel
theorem dX8_work_75 : decode cX8_work 75 = .ok (.invokestatic 54, 3) := by decide +kernel
theorem dX8_work_78 : decode cX8_work 78 = .ok (.ifCond .ne 5, 3) := by decide +kernel
theorem dX8_work_81 : decode cX8_work 81 = .ok (.iconst (-1), 1) := by decide +kernel
theorem dX8_work_82 : decode cX8_work 82 = .ok (.ireturn, 1) := by decide +kernel
theorem dX8_work_83 : decode cX8_work 83 = .ok (.iload_n 2, 1) := by decide +kernel
theorem dX8_work_84 : decode cX8_work 84 = .ok (.sipush 1000, 3) := by decide +kernel
theorem dX8_work_87 : decode cX8_work 87 = .ok (.idiv, 1) := by decide +kernel
theorem dX8_work_88 : decode cX8_work 88 = .ok (.iconst 1, 1) := by decide +kernel
theorem dX8_work_89 : decode cX8_work 89 = .ok (.bipush 9, 2) := by decide +kernel
theorem dX8_work_91 : decode cX8_work 91 = .ok (.invokestatic 54, 3) := by decide +kernel
theorem dX8_work_94 : decode cX8_work 94 = .ok (.ifCond .eq 14, 3) := by decide +kernel
theorem dX8_work_97 : decode cX8_work 97 = .ok (.iload_n 2, 1) := by decide +kernel
theorem dX8_work_98 : decode cX8_work 98 = .ok (.sipush 1000, 3) := by decide +kernel
theorem dX8_work_101 : decode cX8_work 101 = .ok (.irem, 1) := by decide +kernel
theorem dX8_work_102 : decode cX8_work 102 = .ok (.invokestatic 100, 3) := by decide +kernel
theorem dX8_work_105 : decode cX8_work 105 = .ok (.ifCond .ne 5, 3) := by decide +kernel
theorem dX8_work_108 : decode cX8_work 108 = .ok (.iconst (-1), 1) := by decide +kernel
theorem dX8_work_109 : decode cX8_work 109 = .ok (.ireturn, 1) := by decide +kernel
theorem dX8_work_110 : decode cX8_work 110 = .ok (.aload_n 0, 1) := by decide +kernel
theorem dX8_work_111 : decode cX8_work 111 = .ok (.getfield 10, 3) := by decide +kernel
theorem dX8_work_114 : decode cX8_work 114 = .ok (.getfield 111, 3) := by decide +kernel
theorem dX8_work_117 : decode cX8_work 117 = .ok (.bipush 60, 2) := by decide +kernel
theorem dX8_work_119 : decode cX8_work 119 = .ok (.if_icmp .lt 6, 3) := by decide +kernel
theorem dX8_work_122 : decode cX8_work 122 = .ok (.bipush (-2), 2) := by decide +kernel
theorem dX8_work_124 : decode cX8_work 124 = .ok (.ireturn, 1) := by decide +kernel
theorem dX8_work_125 : decode cX8_work 125 = .ok (.aload_n 0, 1) := by decide +kernel
theorem dX8_work_126 : decode cX8_work 126 = .ok (.getfield 10, 3) := by decide +kernel
theorem dX8_work_129 : decode cX8_work 129 = .ok (.getfield 114, 3) := by decide +kernel
theorem dX8_work_132 : decode cX8_work 132 = .ok (.aload_n 0, 1) := by decide +kernel
theorem dX8_work_133 : decode cX8_work 133 = .ok (.getfield 10, 3) := by decide +kernel
theorem dX8_work_136 : decode cX8_work 136 = .ok (.getfield 111, 3) := by decide +kernel
theorem dX8_work_139 : decode cX8_work 139 = .ok (.aaload, 1) := by decide +kernel
theorem dX8_work_140 : decode cX8_work 140 = .ok (.astore 4, 2) := by decide +kernel
theorem dX8_work_142 : decode cX8_work 142 = .ok (.aload 4, 2) := by decide +kernel
theorem dX8_work_144 : decode cX8_work 144 = .ok (.iload_n 1, 1) := by decide +kernel
theorem dX8_work_145 : decode cX8_work 145 = .ok (.sipush 10000, 3) := by decide +kernel
theorem dX8_work_148 : decode cX8_work 148 = .ok (.idiv, 1) := by decide +kernel
theorem dX8_work_149 : decode cX8_work 149 = .ok (.putfield 118, 3) := by decide +kernel
theorem dX8_work_152 : decode cX8_work 152 = .ok (.aload 4, 2) := by decide +kernel
theorem dX8_work_154 : decode cX8_work 154 = .ok (.iload_n 1, 1) := by decide +kernel
theorem dX8_work_155 : decode cX8_work 155 = .ok (.sipush 1000, 3) := by decide +kernel
theorem dX8_work_158 : decode cX8_work 158 = .ok (.idiv, 1) := by decide +kernel
theorem dX8_work_159 : decode cX8_work 159 = .ok (.bipush 10, 2) := by decide +kernel
theorem dX8_work_161 : decode cX8_work 161 = .ok (.irem, 1) := by decide +kernel
theorem dX8_work_162 : decode cX8_work 162 = .ok (.putfield 123, 3) := by decide +kernel
theorem dX8_work_165 : decode cX8_work 165 = .ok (.aload 4, 2) := by decide +kernel
theorem dX8_work_167 : decode cX8_work 167 = .ok (.iload_n 1, 1) := by decide +kernel
theorem dX8_work_168 : decode cX8_work 168 = .ok (.bipush 100, 2) := by decide +kernel
theorem dX8_work_170 : decode cX8_work 170 = .ok (.idiv, 1) := by decide +kernel
theorem dX8_work_171 : decode cX8_work 171 = .ok (.bipush 10, 2) := by decide +kernel
theorem dX8_work_173 : decode cX8_work 173 = .ok (.irem, 1) := by decide +kernel
theorem dX8_work_174 : decode cX8_work 174 = .ok (.putfield 126, 3) := by decide +kernel
theorem dX8_work_177 : decode cX8_work 177 = .ok (.aload 4, 2) := by decide +kernel
theorem dX8_work_179 : decode cX8_work 179 = .ok (.iload_n 1, 1) := by decide +kernel
theorem dX8_work_180 : decode cX8_work 180 = .ok (.bipush 100, 2) := by decide +kernel
theorem dX8_work_182 : decode cX8_work 182 = .ok (.irem, 1) := by decide +kernel
theorem dX8_work_183 : decode cX8_work 183 = .ok (.putfield 127, 3) := by decide +kernel
theorem dX8_work_186 : decode cX8_work 186 = .ok (.aload 4, 2) := by decide +kernel
theorem dX8_work_188 : decode cX8_work 188 = .ok (.iload_n 2, 1) := by decide +kernel
theorem dX8_work_189 : decode cX8_work 189 = .ok (.sipush 1000, 3) := by decide +kernel
theorem dX8_work_192 : decode cX8_work 192 = .ok (.idiv, 1) := by decide +kernel
theorem dX8_work_193 : decode cX8_work 193 = .ok (.putfield 130, 3) := by decide +kernel
theorem dX8_work_196 : decode cX8_work 196 = .ok (.aload 4, 2) := by decide +kernel
theorem dX8_work_198 : decode cX8_work 198 = .ok (.iload_n 2, 1) := by decide +kernel
theorem dX8_work_199 : decode cX8_work 199 = .ok (.sipush 1000, 3) := by decide +kernel
theorem dX8_work_202 : decode cX8_work 202 = .ok (.irem, 1) := by decide +kernel
theorem dX8_work_203 : decode cX8_work 203 = .ok (.putfield 133, 3) := by decide +kernel
theorem dX8_work_206 : decode cX8_work 206 = .ok (.aload 4, 2) := by decide +kernel
theorem dX8_work_208 : decode cX8_work 208 = .ok (.iload_n 3, 1) := by decide +kernel
theorem dX8_work_209 : decode cX8_work 209 = .ok (.invokevirtual 136, 3) := by decide +kernel
theorem dX8_work_212 : decode cX8_work 212 = .ok (.aload_n 0, 1) := by decide +kernel
theorem dX8_work_213 : decode cX8_work 213 = .ok (.getfield 10, 3) := by decide +kernel
theorem dX8_work_216 : decode cX8_work 216 = .ok (.dup, 1) := by decide +kernel
theorem dX8_work_217 : decode cX8_work 217 = .ok (.getfield 111, 3) := by decide +kernel
theorem dX8_work_220 : decode cX8_work 220 = .ok (.iconst 1, 1) := by decide +kernel
theorem dX8_work_221 : decode cX8_work 221 = .ok (.iadd, 1) := by decide +kernel
theorem dX8_work_222 : decode cX8_work 222 = .ok (.putfield 111, 3) := by decide +kernel
theorem dX8_work_225 : decode cX8_work 225 = .ok (.aload 4, 2) := by decide +kernel
theorem dX8_work_227 : decode cX8_work 227 = .ok (.getfield 140, 3) := by decide +kernel
theorem dX8_work_230 : decode cX8_work 230 = .ok (.ireturn, 1) := by decide +kernel
theorem dX8_more_0 : decode cX8_more 0 = .ok (.aload_n 0, 1) := by decide +kernel
theorem dX8_more_1 : decode cX8_more 1 = .ok (.getfield 10, 3) := by decide +kernel
theorem dX8_more_4 : decode cX8_more 4 = .ok (.iload_n 1, 1) := by decide +kernel
theorem dX8_more_5 : decode cX8_more 5 = .ok (.invokevirtual 143, 3) := by decide +kernel
theorem dX8_more_8 : decode cX8_more 8 = .ok (.ifCond .eq 14, 3) := by decide +kernel
theorem dX8_more_11 : decode cX8_more 11 = .ok (.aload_n 0, 1) := by decide +kernel
theorem dX8_more_12 : decode cX8_more 12 = .ok (.getfield 10, 3) := by decide +kernel
theorem dX8_more_15 : decode cX8_more 15 = .ok (.iload_n 2, 1) := by decide +kernel
theorem dX8_more_16 : decode cX8_more 16 = .ok (.invokevirtual 108, 3) := by decide +kernel
theorem dX8_more_19 : decode cX8_more 19 = .ok (.ifCond .ne 5, 3) := by decide +kernel
theorem dX8_more_22 : decode cX8_more 22 = .ok (.iconst (-1), 1) := by decide +kernel
theorem dX8_more_23 : decode cX8_more 23 = .ok (.ireturn, 1) := by decide +kernel
theorem dX8_more_24 : decode cX8_more 24 = .ok (.aload_n 0, 1) := by decide +kernel
theorem dX8_more_25 : decode cX8_more 25 = .ok (.getfield 10, 3) := by decide +kernel
theorem dX8_more_28 : decode cX8_more 28 = .ok (.getfield 114, 3) := by decide +kernel
theorem dX8_more_31 : decode cX8_more 31 = .ok (.iload_n 1, 1) := by decide +kernel
theorem dX8_more_32 : decode cX8_more 32 = .ok (.aaload, 1) := by decide +kernel
theorem dX8_more_33 : decode cX8_more 33 = .ok (.astore_n 3, 1) := by decide +kernel
theorem dX8_more_34 : decode cX8_more 34 = .ok (.aload_n 3, 1) := by decide +kernel
theorem dX8_more_35 : decode cX8_more 35 = .ok (.iload_n 2, 1) := by decide +kernel
theorem dX8_more_36 : decode cX8_more 36 = .ok (.invokevirtual 146, 3) := by decide +kernel
theorem dX8_more_39 : decode cX8_more 39 = .ok (.ifCond .eq 5, 3) := by decide +kernel
theorem dX8_more_42 : decode cX8_more 42 = .ok (.iconst (-1), 1) := by decide +kernel
theorem dX8_more_43 : decode cX8_more 43 = .ok (.ireturn, 1) := by decide +kernel
theorem dX8_more_44 : decode cX8_more 44 = .ok (.aload_n 3, 1) := by decide +kernel
theorem dX8_more_45 : decode cX8_more 45 = .ok (.getfield 149, 3) := by decide +kernel
theorem dX8_more_48 : decode cX8_more 48 = .ok (.ifCond .ne 10, 3) := by decide +kernel
theorem dX8_more_51 : decode cX8_more 51 = .ok (.aload_n 3, 1) := by decide +kernel
theorem dX8_more_52 : decode cX8_more 52 = .ok (.getfield 152, 3) := by decide +kernel
theorem dX8_more_55 : decode cX8_more 55 = .ok (.ifCond .lt 6, 3) := by decide +kernel
theorem dX8_more_58 : decode cX8_more 58 = .ok (.bipush (-3), 2) := by decide +kernel
theorem dX8_more_60 : decode cX8_more 60 = .ok (.ireturn, 1) := by decide +kernel
theorem dX8_more_61 : decode cX8_more 61 = .ok (.aload_n 3, 1) := by decide +kernel
theorem dX8_more_62 : decode cX8_more 62 = .ok (.getfield 155, 3) := by decide +kernel
theorem dX8_more_65 : decode cX8_more 65 = .ok (.iconst 4, 1) := by decide +kernel
theorem dX8_more_66 : decode cX8_more 66 = .ok (.if_icmp .lt 6, 3) := by decide +kernel
theorem dX8_more_69 : decode cX8_more 69 = .ok (.bipush (-2), 2) := by decide +kernel
theorem dX8_more_71 : decode cX8_more 71 = .ok (.ireturn, 1) := by decide +kernel
theorem dX8_more_72 : decode cX8_more 72 = .ok (.aload_n 3, 1) := by decide +kernel
theorem dX8_more_73 : decode cX8_more 73 = .ok (.iload_n 2, 1) := by decide +kernel
theorem dX8_more_74 : decode cX8_more 74 = .ok (.invokevirtual 136, 3) := by decide +kernel
theorem dX8_more_77 : decode cX8_more 77 = .ok (.aload_n 3, 1) := by decide +kernel
theorem dX8_more_78 : decode cX8_more 78 = .ok (.getfield 155, 3) := by decide +kernel
theorem dX8_more_81 : decode cX8_more 81 = .ok (.ireturn, 1) := by decide +kernel
theorem dX8_may_0 : decode cX8_may 0 = .ok (.aload_n 0, 1) := by decide +kernel
theorem dX8_may_1 : decode cX8_may 1 = .ok (.iload_n 1, 1) := by decide +kernel
theorem dX8_may_2 : decode cX8_may 2 = .ok (.iload_n 2, 1) := by decide +kernel
theorem dX8_may_3 : decode cX8_may 3 = .ok (.invokevirtual 158, 3) := by decide +kernel
theorem dX8_may_6 : decode cX8_may 6 = .ok (.istore_n 3, 1) := by decide +kernel
theorem dX8_may_7 : decode cX8_may 7 = .ok (.iload_n 3, 1) := by decide +kernel
theorem dX8_may_8 : decode cX8_may 8 = .ok (.ifCond .eq 7, 3) := by decide +kernel
theorem dX8_may_11 : decode cX8_may 11 = .ok (.iload_n 3, 1) := by decide +kernel
theorem dX8_may_12 : decode cX8_may 12 = .ok (.goto 17, 3) := by decide +kernel
theorem dX8_may_15 : decode cX8_may 15 = .ok (.aload_n 0, 1) := by decide +kernel
theorem dX8_may_16 : decode cX8_may 16 = .ok (.aload_n 0, 1) := by decide +kernel
theorem dX8_may_17 : decode cX8_may 17 = .ok (.getfield 10, 3) := by decide +kernel
theorem dX8_may_20 : decode cX8_may 20 = .ok (.getfield 114, 3) := by decide +kernel
theorem dX8_may_23 : decode cX8_may 23 = .ok (.iload_n 1, 1) := by decide +kernel
theorem dX8_may_24 : decode cX8_may 24 = .ok (.aaload, 1) := by decide +kernel
theorem dX8_may_25 : decode cX8_may 25 = .ok (.iload_n 2, 1) := by decide +kernel
theorem dX8_may_26 : decode cX8_may 26 = .ok (.invokevirtual 162, 3) := by decide +kernel
theorem dX8_may_29 : decode cX8_may 29 = .ok (.ireturn, 1) := by decide +kernel
theorem dX8_why_0 : decode cX8_why 0 = .ok (.aload_n 0, 1) := by decide +kernel
theorem dX8_why_1 : decode cX8_why 1 = .ok (.getfield 166, 3) := by decide +kernel
theorem dX8_why_4 : decode cX8_why 4 = .ok (.ifCond .eq 12, 3) := by decide +kernel
theorem dX8_why_7 : decode cX8_why 7 = .ok (.iload_n 1, 1) := by decide +kernel
theorem dX8_why_8 : decode cX8_why 8 = .ok (.iconst 0, 1) := by decide +kernel
theorem dX8_why_9 : decode cX8_why 9 = .ok (.iconst 1, 1) := by decide +kernel
theorem dX8_why_10 : decode cX8_why 10 = .ok (.invokestatic 54, 3) := by decide +kernel
theorem dX8_why_13 : decode cX8_why 13 = .ok (.ifCond .ne 5, 3) := by decide +kernel
theorem dX8_why_16 : decode cX8_why 16 = .ok (.iconst (-1), 1) := by decide +kernel
theorem dX8_why_17 : decode cX8_why 17 = .ok (.ireturn, 1) := by decide +kernel
theorem dX8_why_18 : decode cX8_why 18 = .ok (.iload_n 1, 1) := by decide +kernel
theorem dX8_why_19 : decode cX8_why 19 = .ok (.ifCond .ne 10, 3) := by decide +kernel
theorem dX8_why_22 : decode cX8_why 22 = .ok (.aload_n 0, 1) := by decide +kernel
theorem dX8_why_23 : decode cX8_why 23 = .ok (.getfield 170, 3) := by decide +kernel
theorem dX8_why_26 : decode cX8_why 26 = .ok (.goto 7, 3) := by decide +kernel
theorem dX8_why_29 : decode cX8_why 29 = .ok (.aload_n 0, 1) := by decide +kernel
theorem dX8_why_30 : decode cX8_why 30 = .ok (.getfield 173, 3) := by decide +kernel
theorem dX8_why_33 : decode cX8_why 33 = .ok (.ireturn, 1) := by decide +kernel
theorem dX8_first_0 : decode cX8_first 0 = .ok (.iload_n 3, 1) := by decide +kernel
theorem dX8_first_1 : decode cX8_first 1 = .ok (.iconst 1, 1) := by decide +kernel
theorem dX8_first_2 : decode cX8_first 2 = .ok (.sipush 200, 3) := by decide +kernel
theorem dX8_first_5 : decode cX8_first 5 = .ok (.invokestatic 54, 3) := by decide +kernel
theorem dX8_first_8 : decode cX8_first 8 = .ok (.ifCond .ne 5, 3) := by decide +kernel
theorem dX8_first_11 : decode cX8_first 11 = .ok (.iconst (-1), 1) := by decide +kernel
theorem dX8_first_12 : decode cX8_first 12 = .ok (.ireturn, 1) := by decide +kernel
theorem dX8_first_13 : decode cX8_first 13 = .ok (.aload_n 0, 1) := by decide +kernel
theorem dX8_first_14 : decode cX8_first 14 = .ok (.iload_n 1, 1) := by decide +kernel
theorem dX8_first_15 : decode cX8_first 15 = .ok (.iload_n 2, 1) := by decide +kernel
theorem dX8_first_16 : decode cX8_first 16 = .ok (.invokevirtual 158, 3) := by decide +kernel
theorem dX8_first_19 : decode cX8_first 19 = .ok (.istore 4, 2) := by decide +kernel
theorem dX8_first_21 : decode cX8_first 21 = .ok (.iload 4, 2) := by decide +kernel
theorem dX8_first_23 : decode cX8_first 23 = .ok (.ifCond .eq 6, 3) := by decide +kernel
theorem dX8_first_26 : decode cX8_first 26 = .ok (.iload 4, 2) := by decide +kernel
theorem dX8_first_28 : decode cX8_first 28 = .ok (.ireturn, 1) := by decide +kernel
theorem dX8_first_29 : decode cX8_first 29 = .ok (.aload_n 0, 1) := by decide +kernel
theorem dX8_first_30 : decode cX8_first 30 = .ok (.getfield 10, 3) := by decide +kernel
theorem dX8_first_33 : decode cX8_first 33 = .ok (.getfield 114, 3) := by decide +kernel
theorem dX8_first_36 : decode cX8_first 36 = .ok (.iload_n 1, 1) := by decide +kernel
theorem dX8_first_37 : decode cX8_first 37 = .ok (.aaload, 1) := by decide +kernel
theorem dX8_first_38 : decode cX8_first 38 = .ok (.astore 5, 2) := by decide +kernel
theorem dX8_first_40 : decode cX8_first 40 = .ok (.aload_n 0, 1) := by decide +kernel
theorem dX8_first_41 : decode cX8_first 41 = .ok (.aload 5, 2) := by decide +kernel
theorem dX8_first_43 : decode cX8_first 43 = .ok (.iload_n 2, 1) := by decide +kernel
theorem dX8_first_44 : decode cX8_first 44 = .ok (.invokevirtual 162, 3) := by decide +kernel
theorem dX8_first_47 : decode cX8_first 47 = .ok (.ifCond .ne 5, 3) := by decide +kernel
theorem dX8_first_50 : decode cX8_first 50 = .ok (.iload_n 2, 1) := by decide +kernel
theorem dX8_first_51 : decode cX8_first 51 = .ok (.ireturn, 1) := by decide +kernel
theorem dX8_first_52 : decode cX8_first 52 = .ok (.iload_n 2, 1) := by decide +kernel
theorem dX8_first_53 : decode cX8_first 53 = .ok (.iconst 1, 1) := by decide +kernel
theorem dX8_first_54 : decode cX8_first 54 = .ok (.iadd, 1) := by decide +kernel
theorem dX8_first_55 : decode cX8_first 55 = .ok (.istore 6, 2) := by decide +kernel
theorem dX8_first_57 : decode cX8_first 57 = .ok (.iload 6, 2) := by decide +kernel
theorem dX8_first_59 : decode cX8_first 59 = .ok (.iload_n 2, 1) := by decide +kernel
theorem dX8_first_60 : decode cX8_first 60 = .ok (.iload_n 3, 1) := by decide +kernel
theorem dX8_first_61 : decode cX8_first 61 = .ok (.iadd, 1) := by decide +kernel
theorem dX8_first_62 : decode cX8_first 62 = .ok (.if_icmp .ge 35, 3) := by decide +kernel
theorem dX8_first_65 : decode cX8_first 65 = .ok (.iload 6, 2) := by decide +kernel
theorem dX8_first_67 : decode cX8_first 67 = .ok (.sipush 399, 3) := by decide +kernel
theorem dX8_first_70 : decode cX8_first 70 = .ok (.if_icmp .gt 27, 3) := by decide +kernel
theorem dX8_first_73 : decode cX8_first 73 = .ok (.aload_n 0, 1) := by decide +kernel
theorem dX8_first_74 : decode cX8_first 74 = .ok (.getfield 37, 3) := by decide +kernel
theorem dX8_first_77 : decode cX8_first 77 = .ok (.aload 5, 2) := by decide +kernel
theorem dX8_first_79 : decode cX8_first 79 = .ok (.iload 6, 2) := by decide +kernel
theorem dX8_first_81 : decode cX8_first 81 = .ok (.iconst 1, 1) := by decide +kernel
theorem dX8_first_82 : decode cX8_first 82 = .ok (.invokevirtual 176, 3) := by decide +kernel
theorem dX8_first_85 : decode cX8_first 85 = .ok (.ifCond .ne 6, 3) := by decide +kernel
theorem dX8_first_88 : decode cX8_first 88 = .ok (.iload 6, 2) := by decide +kernel
theorem dX8_first_90 : decode cX8_first 90 = .ok (.ireturn, 1) := by decide +kernel
theorem dX8_first_91 : decode cX8_first 91 = .ok (.iinc 6 1, 3) := by decide +kernel
theorem dX8_first_94 : decode cX8_first 94 = .ok (.goto (-37), 3) := by decide +kernel
theorem dX8_first_97 : decode cX8_first 97 = .ok (.bipush (-5), 2) := by decide +kernel
theorem dX8_first_99 : decode cX8_first 99 = .ok (.ireturn, 1) := by decide +kernel
theorem dX8_permit_0 : decode cX8_permit 0 = .ok (.aload_n 0, 1) := by decide +kernel
theorem dX8_permit_1 : decode cX8_permit 1 = .ok (.iload_n 1, 1) := by decide +kernel
theorem dX8_permit_2 : decode cX8_permit 2 = .ok (.iload_n 2, 1) := by decide +kernel
theorem dX8_permit_3 : decode cX8_permit 3 = .ok (.invokevirtual 158, 3) := by decide +kernel
theorem dX8_permit_6 : decode cX8_permit 6 = .ok (.istore_n 3, 1) := by decide +kernel
theorem dX8_permit_7 : decode cX8_permit 7 = .ok (.iload_n 3, 1) := by decide +kernel
theorem dX8_permit_8 : decode cX8_permit 8 = .ok (.ifCond .eq 5, 3) := by decide +kernel
theorem dX8_permit_11 : decode cX8_permit 11 = .ok (.iload_n 3, 1) := by decide +kernel
theorem dX8_permit_12 : decode cX8_permit 12 = .ok (.ireturn, 1) := by decide +kernel
theorem dX8_permit_13 : decode cX8_permit 13 = .ok (.aload_n 0, 1) := by decide +kernel
theorem dX8_permit_14 : decode cX8_permit 14 = .ok (.aload_n 0, 1) := by decide +kernel
theorem dX8_permit_15 : decode cX8_permit 15 = .ok (.getfield 10, 3) := by decide +kernel
theorem dX8_permit_18 : decode cX8_permit 18 = .ok (.getfield 114, 3) := by decide +kernel
theorem dX8_permit_21 : decode cX8_permit 21 = .ok (.iload_n 1, 1) := by decide +kernel
theorem dX8_permit_22 : decode cX8_permit 22 = .ok (.aaload, 1) := by decide +kernel
theorem dX8_permit_23 : decode cX8_permit 23 = .ok (.iload_n 2, 1) := by decide +kernel
theorem dX8_permit_24 : decode cX8_permit 24 = .ok (.invokevirtual 162, 3) := by decide +kernel
theorem dX8_permit_27 : decode cX8_permit 27 = .ok (.istore 4, 2) := by decide +kernel
theorem dX8_permit_29 : decode cX8_permit 29 = .ok (.iload 4, 2) := by decide +kernel
theorem dX8_permit_31 : decode cX8_permit 31 = .ok (.ifCond .eq 9, 3) := by decide +kernel
theorem dX8_permit_34 : decode cX8_permit 34 = .ok (.bipush (-10), 2) := by decide +kernel
theorem dX8_permit_36 : decode cX8_permit 36 = .ok (.iload 4, 2) := by decide +kernel
theorem dX8_permit_38 : decode cX8_permit 38 = .ok (.isub, 1) := by decide +kernel
theorem dX8_permit_39 : decode cX8_permit 39 = .ok (.ireturn, 1) := by decide +kernel
theorem dX8_permit_40 : decode cX8_permit 40 = .ok (.aload_n 0, 1) := by decide +kernel
theorem dX8_permit_41 : decode cX8_permit 41 = .ok (.getfield 10, 3) := by decide +kernel
theorem dX8_permit_44 : decode cX8_permit 44 = .ok (.aload_n 0, 1) := by decide +kernel
theorem dX8_permit_45 : decode cX8_permit 45 = .ok (.getfield 10, 3) := by decide +kernel
theorem dX8_permit_48 : decode cX8_permit 48 = .ok (.getfield 114, 3) := by decide +kernel
theorem dX8_permit_51 : decode cX8_permit 51 = .ok (.iload_n 1, 1) := by decide +kernel
theorem dX8_permit_52 : decode cX8_permit 52 = .ok (.aaload, 1) := by decide +kernel
theorem dX8_permit_53 : decode cX8_permit 53 = .ok (.iload_n 2, 1) := by decide +kernel
theorem dX8_permit_54 : decode cX8_permit 54 = .ok (.invokevirtual 180, 3) := by decide +kernel
theorem dX8_permit_57 : decode cX8_permit 57 = .ok (.iconst 0, 1) := by decide +kernel
theorem dX8_permit_58 : decode cX8_permit 58 = .ok (.ireturn, 1) := by decide +kernel
theorem dX8_withdraw_0 : decode cX8_withdraw 0 = .ok (.aload_n 0, 1) := by decide +kernel
theorem dX8_withdraw_1 : decode cX8_withdraw 1 = .ok (.getfield 10, 3) := by decide +kernel
theorem dX8_withdraw_4 : decode cX8_withdraw 4 = .ok (.iload_n 1, 1) := by decide +kernel
theorem dX8_withdraw_5 : decode cX8_withdraw 5 = .ok (.invokevirtual 143, 3) := by decide +kernel
theorem dX8_withdraw_8 : decode cX8_withdraw 8 = .ok (.ifCond .ne 5, 3) := by decide +kernel
theorem dX8_withdraw_11 : decode cX8_withdraw 11 = .ok (.iconst (-1), 1) := by decide +kernel
theorem dX8_withdraw_12 : decode cX8_withdraw 12 = .ok (.ireturn, 1) := by decide +kernel
theorem dX8_withdraw_13 : decode cX8_withdraw 13 = .ok (.aload_n 0, 1) := by decide +kernel
theorem dX8_withdraw_14 : decode cX8_withdraw 14 = .ok (.getfield 10, 3) := by decide +kernel
theorem dX8_withdraw_17 : decode cX8_withdraw 17 = .ok (.getfield 114, 3) := by decide +kernel
theorem dX8_withdraw_20 : decode cX8_withdraw 20 = .ok (.iload_n 1, 1) := by decide +kernel
theorem dX8_withdraw_21 : decode cX8_withdraw 21 = .ok (.aaload, 1) := by decide +kernel
theorem dX8_withdraw_22 : decode cX8_withdraw 22 = .ok (.invokevirtual 184, 3) := by decide +kernel
theorem dX8_withdraw_25 : decode cX8_withdraw 25 = .ok (.ifCond .ne 6, 3) := by decide +kernel
theorem dX8_withdraw_28 : decode cX8_withdraw 28 = .ok (.bipush (-3), 2) := by decide +kernel
theorem dX8_withdraw_30 : decode cX8_withdraw 30 = .ok (.ireturn, 1) := by decide +kernel
theorem dX8_withdraw_31 : decode cX8_withdraw 31 = .ok (.aload_n 0, 1) := by decide +kernel
theorem dX8_withdraw_32 : decode cX8_withdraw 32 = .ok (.getfield 10, 3) := by decide +kernel
theorem dX8_withdraw_35 : decode cX8_withdraw 35 = .ok (.aload_n 0, 1) := by decide +kernel
theorem dX8_withdraw_36 : decode cX8_withdraw 36 = .ok (.getfield 10, 3) := by decide +kernel
theorem dX8_withdraw_39 : decode cX8_withdraw 39 = .ok (.getfield 114, 3) := by decide +kernel
theorem dX8_withdraw_42 : decode cX8_withdraw 42 = .ok (.iload_n 1, 1) := by decide +kernel
theorem dX8_withdraw_43 : decode cX8_withdraw 43 = .ok (.aaload, 1) := by decide +kernel
theorem dX8_withdraw_44 : decode cX8_withdraw 44 = .ok (.invokevirtual 188, 3) := by decide +kernel
theorem dX8_withdraw_47 : decode cX8_withdraw 47 = .ok (.iconst 1, 1) := by decide +kernel
theorem dX8_withdraw_48 : decode cX8_withdraw 48 = .ok (.ireturn, 1) := by decide +kernel
theorem dX8_day_0 : decode cX8_day 0 = .ok (.iload_n 1, 1) := by decide +kernel
theorem dX8_day_1 : decode cX8_day 1 = .ok (.iconst 1, 1) := by decide +kernel
theorem dX8_day_2 : decode cX8_day 2 = .ok (.bipush 100, 2) := by decide +kernel
theorem dX8_day_4 : decode cX8_day 4 = .ok (.invokestatic 54, 3) := by decide +kernel
theorem dX8_day_7 : decode cX8_day 7 = .ok (.ifCond .eq 18, 3) := by decide +kernel
theorem dX8_day_10 : decode cX8_day 10 = .ok (.aload_n 0, 1) := by decide +kernel
theorem dX8_day_11 : decode cX8_day 11 = .ok (.getfield 10, 3) := by decide +kernel
theorem dX8_day_14 : decode cX8_day 14 = .ok (.getfield 192, 3) := by decide +kernel
theorem dX8_day_17 : decode cX8_day 17 = .ok (.iload_n 1, 1) := by decide +kernel
theorem dX8_day_18 : decode cX8_day 18 = .ok (.iadd, 1) := by decide +kernel
theorem dX8_day_19 : decode cX8_day 19 = .ok (.sipush 399, 3) := by decide +kernel
theorem dX8_day_22 : decode cX8_day 22 = .ok (.if_icmp .le 5, 3) := by decide +kernel
theorem dX8_day_25 : decode cX8_day 25 = .ok (.iconst (-1), 1) := by decide +kernel
theorem dX8_day_26 : decode cX8_day 26 = .ok (.ireturn, 1) := by decide +kernel
theorem dX8_day_27 : decode cX8_day 27 = .ok (.iconst 0, 1) := by decide +kernel
theorem dX8_day_28 : decode cX8_day 28 = .ok (.istore_n 2, 1) := by decide +kernel
theorem dX8_day_29 : decode cX8_day 29 = .ok (.iload_n 2, 1) := by decide +kernel
theorem dX8_day_30 : decode cX8_day 30 = .ok (.iload_n 1, 1) := by decide +kernel
theorem dX8_day_31 : decode cX8_day 31 = .ok (.if_icmp .ge 16, 3) := by decide +kernel
theorem dX8_day_34 : decode cX8_day 34 = .ok (.aload_n 0, 1) := by decide +kernel
theorem dX8_day_35 : decode cX8_day 35 = .ok (.getfield 10, 3) := by decide +kernel
theorem dX8_day_38 : decode cX8_day 38 = .ok (.invokevirtual 195, 3) := by decide +kernel
theorem dX8_day_41 : decode cX8_day 41 = .ok (.iinc 2 1, 3) := by decide +kernel
theorem dX8_day_44 : decode cX8_day 44 = .ok (.goto (-15), 3) := by decide +kernel
theorem dX8_day_47 : decode cX8_day 47 = .ok (.aload_n 0, 1) := by decide +kernel
theorem dX8_day_48 : decode cX8_day 48 = .ok (.getfield 10, 3) := by decide +kernel
theorem dX8_day_51 : decode cX8_day 51 = .ok (.getfield 192, 3) := by decide +kernel
theorem dX8_day_54 : decode cX8_day 54 = .ok (.ireturn, 1) := by decide +kernel
theorem dX8_over_0 : decode cX8_over 0 = .ok (.aload_n 0, 1) := by decide +kernel
theorem dX8_over_1 : decode cX8_over 1 = .ok (.getfield 10, 3) := by decide +kernel
theorem dX8_over_4 : decode cX8_over 4 = .ok (.iload_n 1, 1) := by decide +kernel
theorem dX8_over_5 : decode cX8_over 5 = .ok (.invokevirtual 143, 3) := by decide +kernel
theorem dX8_over_8 : decode cX8_over 8 = .ok (.ifCond .eq 13, 3) := by decide +kernel
theorem dX8_over_11 : decode cX8_over 11 = .ok (.iload_n 2, 1) := by decide +kernel
theorem dX8_over_12 : decode cX8_over 12 = .ok (.iconst 1, 1) := by decide +kernel
theorem dX8_over_13 : decode cX8_over 13 = .ok (.bipush 30, 2) := by decide +kernel
theorem dX8_over_15 : decode cX8_over 15 = .ok (.invokestatic 54, 3) := by decide +kernel
theorem dX8_over_18 : decode cX8_over 18 = .ok (.ifCond .ne 5, 3) := by decide +kernel
theorem dX8_over_21 : decode cX8_over 21 = .ok (.iconst (-1), 1) := by decide +kernel
theorem dX8_over_22 : decode cX8_over 22 = .ok (.ireturn, 1) := by decide +kernel
theorem dX8_over_23 : decode cX8_over 23 = .ok (.aload_n 0, 1) := by decide +kernel
theorem dX8_over_24 : decode cX8_over 24 = .ok (.getfield 10, 3) := by decide +kernel
theorem dX8_over_27 : decode cX8_over 27 = .ok (.getfield 114, 3) := by decide +kernel
theorem dX8_over_30 : decode cX8_over 30 = .ok (.iload_n 1, 1) := by decide +kernel
theorem dX8_over_31 : decode cX8_over 31 = .ok (.aaload, 1) := by decide +kernel
theorem dX8_over_32 : decode cX8_over 32 = .ok (.astore_n 3, 1) := by decide +kernel
theorem dX8_over_33 : decode cX8_over 33 = .ok (.aload_n 3, 1) := by decide +kernel
theorem dX8_over_34 : decode cX8_over 34 = .ok (.getfield 149, 3) := by decide +kernel
theorem dX8_over_37 : decode cX8_over 37 = .ok (.iconst 2, 1) := by decide +kernel
theorem dX8_over_38 : decode cX8_over 38 = .ok (.if_icmp .eq 6, 3) := by decide +kernel
theorem dX8_over_41 : decode cX8_over 41 = .ok (.bipush (-3), 2) := by decide +kernel
theorem dX8_over_43 : decode cX8_over 43 = .ok (.ireturn, 1) := by decide +kernel
theorem dX8_over_44 : decode cX8_over 44 = .ok (.sipush 399, 3) := by decide +kernel
theorem dX8_over_47 : decode cX8_over 47 = .ok (.aload_n 3, 1) := by decide +kernel
theorem dX8_over_48 : decode cX8_over 48 = .ok (.getfield 198, 3) := by decide +kernel
theorem dX8_over_51 : decode cX8_over 51 = .ok (.iload_n 2, 1) := by decide +kernel
theorem dX8_over_52 : decode cX8_over 52 = .ok (.iadd, 1) := by decide +kernel
theorem dX8_over_53 : decode cX8_over 53 = .ok (.invokestatic 201, 3) := by decide +kernel
theorem dX8_over_56 : decode cX8_over 56 = .ok (.istore 4, 2) := by decide +kernel
theorem dX8_over_58 : decode cX8_over 58 = .ok (.aload_n 3, 1) := by decide +kernel
theorem dX8_over_59 : decode cX8_over 59 = .ok (.dup, 1) := by decide +kernel
theorem dX8_over_60 : decode cX8_over 60 = .ok (.getfield 206, 3) := by decide +kernel
theorem dX8_over_63 : decode cX8_over 63 = .ok (.iload 4, 2) := by decide +kernel
theorem dX8_over_65 : decode cX8_over 65 = .ok (.aload_n 3, 1) := by decide +kernel
theorem dX8_over_66 : decode cX8_over 66 = .ok (.getfield 198, 3) := by decide +kernel
theorem dX8_over_69 : decode cX8_over 69 = .ok (.isub, 1) := by decide +kernel
theorem dX8_over_70 : decode cX8_over 70 = .ok (.iadd, 1) := by decide +kernel
theorem dX8_over_71 : decode cX8_over 71 = .ok (.putfield 206, 3) := by decide +kernel
theorem dX8_over_74 : decode cX8_over 74 = .ok (.aload_n 3, 1) := by decide +kernel
theorem dX8_over_75 : decode cX8_over 75 = .ok (.iload 4, 2) := by decide +kernel
theorem dX8_over_77 : decode cX8_over 77 = .ok (.putfield 198, 3) := by decide +kernel
theorem dX8_over_80 : decode cX8_over 80 = .ok (.aload_n 0, 1) := by decide +kernel
theorem dX8_over_81 : decode cX8_over 81 = .ok (.getfield 46, 3) := by decide +kernel
theorem dX8_over_84 : decode cX8_over 84 = .ok (.invokevirtual 209, 3) := by decide +kernel
theorem dX8_over_87 : decode cX8_over 87 = .ok (.ireturn, 1) := by decide +kernel
theorem dX8_crash_0 : decode cX8_crash 0 = .ok (.aload_n 0, 1) := by decide +kernel
theorem dX8_crash_1 : decode cX8_crash 1 = .ok (.getfield 10, 3) := by decide +kernel
theorem dX8_crash_4 : decode cX8_crash 4 = .ok (.iload_n 1, 1) := by decide +kernel
theorem dX8_crash_5 : decode cX8_crash 5 = .ok (.invokevirtual 143, 3) := by decide +kernel
theorem dX8_crash_8 : decode cX8_crash 8 = .ok (.ifCond .ne 5, 3) := by decide +kernel
theorem dX8_crash_11 : decode cX8_crash 11 = .ok (.iconst (-1), 1) := by decide +kernel
theorem dX8_crash_12 : decode cX8_crash 12 = .ok (.ireturn, 1) := by decide +kernel
theorem dX8_crash_13 : decode cX8_crash 13 = .ok (.aload_n 0, 1) := by decide +kernel
theorem dX8_crash_14 : decode cX8_crash 14 = .ok (.getfield 10, 3) := by decide +kernel
theorem dX8_crash_17 : decode cX8_crash 17 = .ok (.getfield 114, 3) := by decide +kernel
theorem dX8_crash_20 : decode cX8_crash 20 = .ok (.iload_n 1, 1) := by decide +kernel
theorem dX8_crash_21 : decode cX8_crash 21 = .ok (.aaload, 1) := by decide +kernel
theorem dX8_crash_22 : decode cX8_crash 22 = .ok (.astore_n 2, 1) := by decide +kernel
theorem dX8_crash_23 : decode cX8_crash 23 = .ok (.aload_n 2, 1) := by decide +kernel
theorem dX8_crash_24 : decode cX8_crash 24 = .ok (.getfield 123, 3) := by decide +kernel
theorem dX8_crash_27 : decode cX8_crash 27 = .ok (.iconst 2, 1) := by decide +kernel
theorem dX8_crash_28 : decode cX8_crash 28 = .ok (.if_icmp .ne 10, 3) := by decide +kernel
theorem dX8_crash_31 : decode cX8_crash 31 = .ok (.aload_n 2, 1) := by decide +kernel
theorem dX8_crash_32 : decode cX8_crash 32 = .ok (.getfield 149, 3) := by decide +kernel
theorem dX8_crash_35 : decode cX8_crash 35 = .ok (.ifCond .eq 6, 3) := by decide +kernel
theorem dX8_crash_38 : decode cX8_crash 38 = .ok (.bipush (-3), 2) := by decide +kernel
theorem dX8_crash_40 : decode cX8_crash 40 = .ok (.ireturn, 1) := by decide +kernel
theorem dX8_crash_41 : decode cX8_crash 41 = .ok (.aload_n 0, 1) := by decide +kernel
theorem dX8_crash_42 : decode cX8_crash 42 = .ok (.getfield 10, 3) := by decide +kernel
theorem dX8_crash_45 : decode cX8_crash 45 = .ok (.aload_n 2, 1) := by decide +kernel
theorem dX8_crash_46 : decode cX8_crash 46 = .ok (.aload_n 0, 1) := by decide +kernel
theorem dX8_crash_47 : decode cX8_crash 47 = .ok (.getfield 10, 3) := by decide +kernel
theorem dX8_crash_50 : decode cX8_crash 50 = .ok (.getfield 192, 3) := by decide +kernel
theorem dX8_crash_53 : decode cX8_crash 53 = .ok (.invokevirtual 180, 3) := by decide +kernel
theorem dX8_crash_56 : decode cX8_crash 56 = .ok (.aload_n 0, 1) := by decide +kernel
theorem dX8_crash_57 : decode cX8_crash 57 = .ok (.getfield 46, 3) := by decide +kernel
theorem dX8_crash_60 : decode cX8_crash 60 = .ok (.invokevirtual 209, 3) := by decide +kernel
theorem dX8_crash_63 : decode cX8_crash 63 = .ok (.ireturn, 1) := by decide +kernel
theorem dX8_join_0 : decode cX8_join 0 = .ok (.aload_n 0, 1) := by decide +kernel
theorem dX8_join_1 : decode cX8_join 1 = .ok (.getfield 10, 3) := by decide +kernel
theorem dX8_join_4 : decode cX8_join 4 = .ok (.iload_n 1, 1) := by decide +kernel
theorem dX8_join_5 : decode cX8_join 5 = .ok (.invokevirtual 143, 3) := by decide +kernel
theorem dX8_join_8 : decode cX8_join 8 = .ok (.ifCond .eq 19, 3) := by decide +kernel
theorem dX8_join_11 : decode cX8_join 11 = .ok (.aload_n 0, 1) := by decide +kernel
theorem dX8_join_12 : decode cX8_join 12 = .ok (.getfield 10, 3) := by decide +kernel
theorem dX8_join_15 : decode cX8_join 15 = .ok (.iload_n 2, 1) := by decide +kernel
theorem dX8_join_16 : decode cX8_join 16 = .ok (.invokevirtual 143, 3) := by decide +kernel
theorem dX8_join_19 : decode cX8_join 19 = .ok (.ifCond .eq 8, 3) := by decide +kernel
theorem dX8_join_22 : decode cX8_join 22 = .ok (.iload_n 1, 1) := by decide +kernel
theorem dX8_join_23 : decode cX8_join 23 = .ok (.iload_n 2, 1) := by decide +kernel
theorem dX8_join_24 : decode cX8_join 24 = .ok (.if_icmp .ne 5, 3) := by decide +kernel
theorem dX8_join_27 : decode cX8_join 27 = .ok (.iconst (-1), 1) := by decide +kernel
theorem dX8_join_28 : decode cX8_join 28 = .ok (.ireturn, 1) := by decide +kernel
theorem dX8_join_29 : decode cX8_join 29 = .ok (.aload_n 0, 1) := by decide +kernel
theorem dX8_join_30 : decode cX8_join 30 = .ok (.getfield 10, 3) := by decide +kernel
theorem dX8_join_33 : decode cX8_join 33 = .ok (.getfield 114, 3) := by decide +kernel
theorem dX8_join_36 : decode cX8_join 36 = .ok (.iload_n 1, 1) := by decide +kernel
theorem dX8_join_37 : decode cX8_join 37 = .ok (.aaload, 1) := by decide +kernel
theorem dX8_join_38 : decode cX8_join 38 = .ok (.astore_n 3, 1) := by decide +kernel
theorem dX8_join_39 : decode cX8_join 39 = .ok (.aload_n 0, 1) := by decide +kernel
theorem dX8_join_40 : decode cX8_join 40 = .ok (.getfield 10, 3) := by decide +kernel
theorem dX8_join_43 : decode cX8_join 43 = .ok (.getfield 114, 3) := by decide +kernel
theorem dX8_join_46 : decode cX8_join 46 = .ok (.iload_n 2, 1) := by decide +kernel
theorem dX8_join_47 : decode cX8_join 47 = .ok (.aaload, 1) := by decide +kernel
theorem dX8_join_48 : decode cX8_join 48 = .ok (.astore 4, 2) := by decide +kernel
theorem dX8_join_50 : decode cX8_join 50 = .ok (.aload_n 3, 1) := by decide +kernel
theorem dX8_join_51 : decode cX8_join 51 = .ok (.invokevirtual 213, 3) := by decide +kernel
theorem dX8_join_54 : decode cX8_join 54 = .ok (.ifCond .eq 11, 3) := by decide +kernel
theorem dX8_join_57 : decode cX8_join 57 = .ok (.aload 4, 2) := by decide +kernel
theorem dX8_join_59 : decode cX8_join 59 = .ok (.invokevirtual 213, 3) := by decide +kernel
theorem dX8_join_62 : decode cX8_join 62 = .ok (.ifCond .ne 6, 3) := by decide +kernel
theorem dX8_join_65 : decode cX8_join 65 = .ok (.bipush (-3), 2) := by decide +kernel
theorem dX8_join_67 : decode cX8_join 67 = .ok (.ireturn, 1) := by decide +kernel
theorem dX8_join_68 : decode cX8_join 68 = .ok (.aload_n 3, 1) := by decide +kernel
theorem dX8_join_69 : decode cX8_join 69 = .ok (.getfield 118, 3) := by decide +kernel
theorem dX8_join_72 : decode cX8_join 72 = .ok (.aload 4, 2) := by decide +kernel
theorem dX8_join_74 : decode cX8_join 74 = .ok (.getfield 118, 3) := by decide +kernel
theorem dX8_join_77 : decode cX8_join 77 = .ok (.if_icmp .eq 28, 3) := by decide +kernel
theorem dX8_join_80 : decode cX8_join 80 = .ok (.aload_n 3, 1) := by decide +kernel
theorem dX8_join_81 : decode cX8_join 81 = .ok (.getfield 130, 3) := by decide +kernel
theorem dX8_join_84 : decode cX8_join 84 = .ok (.aload 4, 2) := by decide +kernel
theorem dX8_join_86 : decode cX8_join 86 = .ok (.getfield 130, 3) := by decide +kernel
theorem dX8_join_89 : decode cX8_join 89 = .ok (.if_icmp .eq 16, 3) := by decide +kernel
theorem dX8_join_92 : decode cX8_join 92 = .ok (.aload_n 3, 1) := by decide +kernel
theorem dX8_join_93 : decode cX8_join 93 = .ok (.getfield 216, 3) := by decide +kernel
theorem dX8_join_96 : decode cX8_join 96 = .ok (.aload 4, 2) := by decide +kernel
theorem dX8_join_98 : decode cX8_join 98 = .ok (.getfield 216, 3) := by decide +kernel
theorem dX8_join_101 : decode cX8_join 101 = .ok (.lcmp, 1) := by decide +kernel
theorem dX8_join_102 : decode cX8_join 102 = .ok (.ifCond .eq 6, 3) := by decide +kernel
theorem dX8_join_105 : decode cX8_join 105 = .ok (.bipush (-3), 2) := by decide +kernel
theorem dX8_join_107 : decode cX8_join 107 = .ok (.ireturn, 1) := by decide +kernel
theorem dX8_join_108 : decode cX8_join 108 = .ok (.aload_n 3, 1) := by decide +kernel
theorem dX8_join_109 : decode cX8_join 109 = .ok (.iload_n 2, 1) := by decide +kernel
theorem dX8_join_110 : decode cX8_join 110 = .ok (.putfield 152, 3) := by decide +kernel
theorem dX8_join_113 : decode cX8_join 113 = .ok (.aload 4, 2) := by decide +kernel
theorem dX8_join_115 : decode cX8_join 115 = .ok (.iload_n 1, 1) := by decide +kernel
theorem dX8_join_116 : decode cX8_join 116 = .ok (.putfield 152, 3) := by decide +kernel
theorem dX8_join_119 : decode cX8_join 119 = .ok (.iconst 1, 1) := by decide +kernel
theorem dX8_join_120 : decode cX8_join 120 = .ok (.ireturn, 1) := by decide +kernel
theorem dX8_about_0 : decode cX8_about 0 = .ok (.aload_n 0, 1) := by decide +kernel
theorem dX8_about_1 : decode cX8_about 1 = .ok (.getfield 10, 3) := by decide +kernel
theorem dX8_about_4 : decode cX8_about 4 = .ok (.iload_n 1, 1) := by decide +kernel
theorem dX8_about_5 : decode cX8_about 5 = .ok (.invokevirtual 143, 3) := by decide +kernel
theorem dX8_about_8 : decode cX8_about 8 = .ok (.ifCond .ne 6, 3) := by decide +kernel
theorem dX8_about_11 : decode cX8_about 11 = .ok (.bipush (-5), 2) := by decide +kernel
theorem dX8_about_13 : decode cX8_about 13 = .ok (.ireturn, 1) := by decide +kernel
theorem dX8_about_14 : decode cX8_about 14 = .ok (.aload_n 0, 1) := by decide +kernel
theorem dX8_about_15 : decode cX8_about 15 = .ok (.getfield 10, 3) := by decide +kernel
theorem dX8_about_18 : decode cX8_about 18 = .ok (.getfield 114, 3) := by decide +kernel
theorem dX8_about_21 : decode cX8_about 21 = .ok (.iload_n 1, 1) := by decide +kernel
theorem dX8_about_22 : decode cX8_about 22 = .ok (.aaload, 1) := by decide +kernel
theorem dX8_about_23 : decode cX8_about 23 = .ok (.astore_n 3, 1) := by decide +kernel
theorem dX8_about_24 : decode cX8_about 24 = .ok (.iload_n 2, 1) := by decide +kernel
theorem dX8_about_25 : decode cX8_about 25 = .ok (.tableswitch 126 0 10 #[59, 64, 69, 74, 79, 88, 97, 106, 111, 116, 121], 59) := by decide +kernel
theorem dX8_about_84 : decode cX8_about 84 = .ok (.aload_n 3, 1) := by decide +kernel
theorem dX8_about_85 : decode cX8_about 85 = .ok (.getfield 149, 3) := by decide +kernel
theorem dX8_about_88 : decode cX8_about 88 = .ok (.ireturn, 1) := by decide +kernel
theorem dX8_about_89 : decode cX8_about 89 = .ok (.aload_n 3, 1) := by decide +kernel
theorem dX8_about_90 : decode cX8_about 90 = .ok (.getfield 220, 3) := by decide +kernel
theorem dX8_about_93 : decode cX8_about 93 = .ok (.ireturn, 1) := by decide +kernel
theorem dX8_about_94 : decode cX8_about 94 = .ok (.aload_n 3, 1) := by decide +kernel
theorem dX8_about_95 : decode cX8_about 95 = .ok (.getfield 198, 3) := by decide +kernel
theorem dX8_about_98 : decode cX8_about 98 = .ok (.ireturn, 1) := by decide +kernel
theorem dX8_about_99 : decode cX8_about 99 = .ok (.aload_n 3, 1) := by decide +kernel
theorem dX8_about_100 : decode cX8_about 100 = .ok (.getfield 206, 3) := by decide +kernel
theorem dX8_about_103 : decode cX8_about 103 = .ok (.ireturn, 1) := by decide +kernel
theorem dX8_about_104 : decode cX8_about 104 = .ok (.aload_n 0, 1) := by decide +kernel
theorem dX8_about_105 : decode cX8_about 105 = .ok (.getfield 10, 3) := by decide +kernel
theorem dX8_about_108 : decode cX8_about 108 = .ok (.aload_n 3, 1) := by decide +kernel
theorem dX8_about_109 : decode cX8_about 109 = .ok (.invokevirtual 223, 3) := by decide +kernel
theorem dX8_about_112 : decode cX8_about 112 = .ok (.ireturn, 1) := by decide +kernel
theorem dX8_about_113 : decode cX8_about 113 = .ok (.aload_n 0, 1) := by decide +kernel
theorem dX8_about_114 : decode cX8_about 114 = .ok (.getfield 10, 3) := by decide +kernel
theorem dX8_about_117 : decode cX8_about 117 = .ok (.aload_n 3, 1) := by decide +kernel
theorem dX8_about_118 : decode cX8_about 118 = .ok (.invokevirtual 227, 3) := by decide +kernel
theorem dX8_about_121 : decode cX8_about 121 = .ok (.ireturn, 1) := by decide +kernel
theorem dX8_about_122 : decode cX8_about 122 = .ok (.aload_n 0, 1) := by decide +kernel
theorem dX8_about_123 : decode cX8_about 123 = .ok (.getfield 10, 3) := by decide +kernel
theorem dX8_about_126 : decode cX8_about 126 = .ok (.aload_n 3, 1) := by decide +kernel
theorem dX8_about_127 : decode cX8_about 127 = .ok (.invokevirtual 230, 3) := by decide +kernel
theorem dX8_about_130 : decode cX8_about 130 = .ok (.ireturn, 1) := by decide +kernel
theorem dX8_about_131 : decode cX8_about 131 = .ok (.aload_n 3, 1) := by decide +kernel
theorem dX8_about_132 : decode cX8_about 132 = .ok (.invokevirtual 233, 3) := by decide +kernel
theorem dX8_about_135 : decode cX8_about 135 = .ok (.ireturn, 1) := by decide +kernel
theorem dX8_about_136 : decode cX8_about 136 = .ok (.aload_n 3, 1) := by decide +kernel
theorem dX8_about_137 : decode cX8_about 137 = .ok (.getfield 152, 3) := by decide +kernel
theorem dX8_about_140 : decode cX8_about 140 = .ok (.ireturn, 1) := by decide +kernel
theorem dX8_about_141 : decode cX8_about 141 = .ok (.aload_n 3, 1) := by decide +kernel
theorem dX8_about_142 : decode cX8_about 142 = .ok (.getfield 155, 3) := by decide +kernel
theorem dX8_about_145 : decode cX8_about 145 = .ok (.ireturn, 1) := by decide +kernel
theorem dX8_about_146 : decode cX8_about 146 = .ok (.aload_n 3, 1) := by decide +kernel
theorem dX8_about_147 : decode cX8_about 147 = .ok (.getfield 236, 3) := by decide +kernel
theorem dX8_about_150 : decode cX8_about 150 = .ok (.ireturn, 1) := by decide +kernel
theorem dX8_about_151 : decode cX8_about 151 = .ok (.bipush (-5), 2) := by decide +kernel
theorem dX8_about_153 : decode cX8_about 153 = .ok (.ireturn, 1) := by decide +kernel
theorem dX8_lanes_0 : decode cX8_lanes 0 = .ok (.aload_n 0, 1) := by decide +kernel
theorem dX8_lanes_1 : decode cX8_lanes 1 = .ok (.getfield 10, 3) := by decide +kernel
theorem dX8_lanes_4 : decode cX8_lanes 4 = .ok (.iload_n 1, 1) := by decide +kernel
theorem dX8_lanes_5 : decode cX8_lanes 5 = .ok (.invokevirtual 108, 3) := by decide +kernel
theorem dX8_lanes_8 : decode cX8_lanes 8 = .ok (.ifCond .eq 10, 3) := by decide +kernel
theorem dX8_lanes_11 : decode cX8_lanes 11 = .ok (.iload_n 2, 1) := by decide +kernel
theorem dX8_lanes_12 : decode cX8_lanes 12 = .ok (.invokestatic 100, 3) := by decide +kernel
theorem dX8_lanes_15 : decode cX8_lanes 15 = .ok (.ifCond .ne 5, 3) := by decide +kernel
theorem dX8_lanes_18 : decode cX8_lanes 18 = .ok (.iconst (-1), 1) := by decide +kernel
theorem dX8_lanes_19 : decode cX8_lanes 19 = .ok (.ireturn, 1) := by decide +kernel
theorem dX8_lanes_20 : decode cX8_lanes 20 = .ok (.aload_n 0, 1) := by decide +kernel
theorem dX8_lanes_21 : decode cX8_lanes 21 = .ok (.getfield 21, 3) := by decide +kernel
theorem dX8_lanes_24 : decode cX8_lanes 24 = .ok (.invokevirtual 239, 3) := by decide +kernel
theorem dX8_lanes_27 : decode cX8_lanes 27 = .ok (.aload_n 0, 1) := by decide +kernel
theorem dX8_lanes_28 : decode cX8_lanes 28 = .ok (.getfield 21, 3) := by decide +kernel
theorem dX8_lanes_31 : decode cX8_lanes 31 = .ok (.iload_n 2, 1) := by decide +kernel
theorem dX8_lanes_32 : decode cX8_lanes 32 = .ok (.invokevirtual 242, 3) := by decide +kernel
theorem dX8_lanes_35 : decode cX8_lanes 35 = .ok (.pop2, 1) := by decide +kernel
theorem dX8_lanes_36 : decode cX8_lanes 36 = .ok (.aload_n 0, 1) := by decide +kernel
theorem dX8_lanes_37 : decode cX8_lanes 37 = .ok (.getfield 21, 3) := by decide +kernel
theorem dX8_lanes_40 : decode cX8_lanes 40 = .ok (.getfield 246, 3) := by decide +kernel
theorem dX8_lanes_43 : decode cX8_lanes 43 = .ok (.iload_n 1, 1) := by decide +kernel
theorem dX8_lanes_44 : decode cX8_lanes 44 = .ok (.iaload, 1) := by decide +kernel
theorem dX8_lanes_45 : decode cX8_lanes 45 = .ok (.ireturn, 1) := by decide +kernel
theorem dX8_way_0 : decode cX8_way 0 = .ok (.aload_n 0, 1) := by decide +kernel
theorem dX8_way_1 : decode cX8_way 1 = .ok (.getfield 10, 3) := by decide +kernel
theorem dX8_way_4 : decode cX8_way 4 = .ok (.iload_n 1, 1) := by decide +kernel
theorem dX8_way_5 : decode cX8_way 5 = .ok (.invokevirtual 250, 3) := by decide +kernel
theorem dX8_way_8 : decode cX8_way 8 = .ok (.ifCond .eq 10, 3) := by decide +kernel
theorem dX8_way_11 : decode cX8_way 11 = .ok (.iload_n 2, 1) := by decide +kernel
theorem dX8_way_12 : decode cX8_way 12 = .ok (.invokestatic 100, 3) := by decide +kernel
theorem dX8_way_15 : decode cX8_way 15 = .ok (.ifCond .ne 5, 3) := by decide +kernel
theorem dX8_way_18 : decode cX8_way 18 = .ok (.iconst (-1), 1) := by decide +kernel
theorem dX8_way_19 : decode cX8_way 19 = .ok (.ireturn, 1) := by decide +kernel
theorem dX8_way_20 : decode cX8_way 20 = .ok (.aload_n 0, 1) := by decide +kernel
theorem dX8_way_21 : decode cX8_way 21 = .ok (.getfield 21, 3) := by decide +kernel
theorem dX8_way_24 : decode cX8_way 24 = .ok (.invokevirtual 239, 3) := by decide +kernel
theorem dX8_way_27 : decode cX8_way 27 = .ok (.aload_n 0, 1) := by decide +kernel
theorem dX8_way_28 : decode cX8_way 28 = .ok (.getfield 28, 3) := by decide +kernel
theorem dX8_way_31 : decode cX8_way 31 = .ok (.aload_n 0, 1) := by decide +kernel
theorem dX8_way_32 : decode cX8_way 32 = .ok (.getfield 10, 3) := by decide +kernel
theorem dX8_way_35 : decode cX8_way 35 = .ok (.getfield 89, 3) := by decide +kernel
theorem dX8_way_38 : decode cX8_way 38 = .ok (.iload_n 1, 1) := by decide +kernel
theorem dX8_way_39 : decode cX8_way 39 = .ok (.aaload, 1) := by decide +kernel
theorem dX8_way_40 : decode cX8_way 40 = .ok (.aload_n 0, 1) := by decide +kernel
theorem dX8_way_41 : decode cX8_way 41 = .ok (.getfield 21, 3) := by decide +kernel
theorem dX8_way_44 : decode cX8_way 44 = .ok (.iload_n 2, 1) := by decide +kernel
theorem dX8_way_45 : decode cX8_way 45 = .ok (.invokevirtual 242, 3) := by decide +kernel
theorem dX8_way_48 : decode cX8_way 48 = .ok (.invokevirtual 253, 3) := by decide +kernel
theorem dX8_way_51 : decode cX8_way 51 = .ok (.ireturn, 1) := by decide +kernel
theorem dX8_shut_0 : decode cX8_shut 0 = .ok (.iload_n 1, 1) := by decide +kernel
theorem dX8_shut_1 : decode cX8_shut 1 = .ok (.invokestatic 100, 3) := by decide +kernel
theorem dX8_shut_4 : decode cX8_shut 4 = .ok (.ifCond .ne 5, 3) := by decide +kernel
theorem dX8_shut_7 : decode cX8_shut 7 = .ok (.iconst (-1), 1) := by decide +kernel
theorem dX8_shut_8 : decode cX8_shut 8 = .ok (.ireturn, 1) := by decide +kernel
theorem dX8_shut_9 : decode cX8_shut 9 = .ok (.aload_n 0, 1) := by decide +kernel
theorem dX8_shut_10 : decode cX8_shut 10 = .ok (.getfield 21, 3) := by decide +kernel
theorem dX8_shut_13 : decode cX8_shut 13 = .ok (.invokevirtual 239, 3) := by decide +kernel
theorem dX8_shut_16 : decode cX8_shut 16 = .ok (.aload_n 0, 1) := by decide +kernel
theorem dX8_shut_17 : decode cX8_shut 17 = .ok (.getfield 21, 3) := by decide +kernel
theorem dX8_shut_20 : decode cX8_shut 20 = .ok (.iload_n 1, 1) := by decide +kernel
theorem dX8_shut_21 : decode cX8_shut 21 = .ok (.invokevirtual 242, 3) := by decide +kernel
theorem dX8_shut_24 : decode cX8_shut 24 = .ok (.lstore_n 2, 1) := by decide +kernel
theorem dX8_shut_25 : decode cX8_shut 25 = .ok (.iconst 0, 1) := by decide +kernel
theorem dX8_shut_26 : decode cX8_shut 26 = .ok (.istore 4, 2) := by decide +kernel
theorem dX8_shut_28 : decode cX8_shut 28 = .ok (.iconst 0, 1) := by decide +kernel
theorem dX8_shut_29 : decode cX8_shut 29 = .ok (.istore 5, 2) := by decide +kernel
theorem dX8_shut_31 : decode cX8_shut 31 = .ok (.iload 5, 2) := by decide +kernel
theorem dX8_shut_33 : decode cX8_shut 33 = .ok (.aload_n 0, 1) := by decide +kernel
theorem dX8_shut_34 : decode cX8_shut 34 = .ok (.getfield 10, 3) := by decide +kernel
theorem dX8_shut_37 : decode cX8_shut 37 = .ok (.getfield 86, 3) := by decide +kernel
theorem dX8_shut_40 : decode cX8_shut 40 = .ok (.if_icmp .ge 33, 3) := by decide +kernel
theorem dX8_shut_43 : decode cX8_shut 43 = .ok (.aload_n 0, 1) := by decide +kernel
theorem dX8_shut_44 : decode cX8_shut 44 = .ok (.getfield 28, 3) := by decide +kernel
theorem dX8_shut_47 : decode cX8_shut 47 = .ok (.aload_n 0, 1) := by decide +kernel
theorem dX8_shut_48 : decode cX8_shut 48 = .ok (.getfield 10, 3) := by decide +kernel
theorem dX8_shut_51 : decode cX8_shut 51 = .ok (.getfield 89, 3) := by decide +kernel
theorem dX8_shut_54 : decode cX8_shut 54 = .ok (.iload 5, 2) := by decide +kernel
theorem dX8_shut_56 : decode cX8_shut 56 = .ok (.aaload, 1) := by decide +kernel
theorem dX8_shut_57 : decode cX8_shut 57 = .ok (.lload_n 2, 1) := by decide +kernel
theorem dX8_shut_58 : decode cX8_shut 58 = .ok (.invokevirtual 257, 3) := by decide +kernel
theorem dX8_shut_61 : decode cX8_shut 61 = .ok (.ifCond .ne 6, 3) := by decide +kernel
theorem dX8_shut_64 : decode cX8_shut 64 = .ok (.iinc 4 1, 3) := by decide +kernel
theorem dX8_shut_67 : decode cX8_shut 67 = .ok (.iinc 5 1, 3) := by decide +kernel
theorem dX8_shut_70 : decode cX8_shut 70 = .ok (.goto (-39), 3) := by decide +kernel
theorem dX8_shut_73 : decode cX8_shut 73 = .ok (.iload 4, 2) := by decide +kernel
theorem dX8_shut_75 : decode cX8_shut 75 = .ok (.ireturn, 1) := by decide +kernel
theorem dX8_price_0 : decode cX8_price 0 = .ok (.sipush 500, 3) := by decide +kernel
theorem dX8_price_3 : decode cX8_price 3 = .ok (.aload_n 0, 1) := by decide +kernel
theorem dX8_price_4 : decode cX8_price 4 = .ok (.getfield 10, 3) := by decide +kernel
theorem dX8_price_7 : decode cX8_price 7 = .ok (.iconst 0, 1) := by decide +kernel
theorem dX8_price_8 : decode cX8_price 8 = .ok (.invokevirtual 260, 3) := by decide +kernel
theorem dX8_price_11 : decode cX8_price 11 = .ok (.imul, 1) := by decide +kernel
theorem dX8_price_12 : decode cX8_price 12 = .ok (.istore_n 1, 1) := by decide +kernel
theorem dX8_price_13 : decode cX8_price 13 = .ok (.iconst 0, 1) := by decide +kernel
theorem dX8_price_14 : decode cX8_price 14 = .ok (.istore_n 2, 1) := by decide +kernel
theorem dX8_price_15 : decode cX8_price 15 = .ok (.iload_n 2, 1) := by decide +kernel
theorem dX8_price_16 : decode cX8_price 16 = .ok (.aload_n 0, 1) := by decide +kernel
theorem dX8_price_17 : decode cX8_price 17 = .ok (.getfield 10, 3) := by decide +kernel
theorem dX8_price_20 : decode cX8_price 20 = .ok (.getfield 111, 3) := by decide +kernel
theorem dX8_price_23 : decode cX8_price 23 = .ok (.if_icmp .ge 24, 3) := by decide +kernel
theorem dX8_price_26 : decode cX8_price 26 = .ok (.iload_n 1, 1) := by decide +kernel
theorem dX8_price_27 : decode cX8_price 27 = .ok (.aload_n 0, 1) := by decide +kernel
theorem dX8_price_28 : decode cX8_price 28 = .ok (.getfield 10, 3) := by decide +kernel
theorem dX8_price_31 : decode cX8_price 31 = .ok (.getfield 114, 3) := by decide +kernel
theorem dX8_price_34 : decode cX8_price 34 = .ok (.iload_n 2, 1) := by decide +kernel
theorem dX8_price_35 : decode cX8_price 35 = .ok (.aaload, 1) := by decide +kernel
theorem dX8_price_36 : decode cX8_price 36 = .ok (.invokevirtual 233, 3) := by decide +kernel
theorem dX8_price_39 : decode cX8_price 39 = .ok (.iadd, 1) := by decide +kernel
theorem dX8_price_40 : decode cX8_price 40 = .ok (.istore_n 1, 1) := by decide +kernel
theorem dX8_price_41 : decode cX8_price 41 = .ok (.iinc 2 1, 3) := by decide +kernel
theorem dX8_price_44 : decode cX8_price 44 = .ok (.goto (-29), 3) := by decide +kernel
theorem dX8_price_47 : decode cX8_price 47 = .ok (.iload_n 1, 1) := by decide +kernel
theorem dX8_price_48 : decode cX8_price 48 = .ok (.ireturn, 1) := by decide +kernel
theorem dX8_better_0 : decode cX8_better 0 = .ok (.iconst 0, 1) := by decide +kernel
theorem dX8_better_1 : decode cX8_better 1 = .ok (.istore_n 1, 1) := by decide +kernel
theorem dX8_better_2 : decode cX8_better 2 = .ok (.iload_n 1, 1) := by decide +kernel
theorem dX8_better_3 : decode cX8_better 3 = .ok (.ldc_w 264, 3) := by decide +kernel
theorem dX8_better_6 : decode cX8_better 6 = .ok (.if_icmp .ge 19, 3) := by decide +kernel
theorem dX8_better_9 : decode cX8_better 9 = .ok (.aload_n 0, 1) := by decide +kernel
theorem dX8_better_10 : decode cX8_better 10 = .ok (.getfield 46, 3) := by decide +kernel
theorem dX8_better_13 : decode cX8_better 13 = .ok (.invokevirtual 265, 3) := by decide +kernel
theorem dX8_better_16 : decode cX8_better 16 = .ok (.ifCond .eq 9, 3) := by decide +kernel
theorem dX8_better_19 : decode cX8_better 19 = .ok (.iinc 1 1, 3) := by decide +kernel
theorem dX8_better_22 : decode cX8_better 22 = .ok (.goto (-20), 3) := by decide +kernel
theorem dX8_better_25 : decode cX8_better 25 = .ok (.iload_n 1, 1) := by decide +kernel
theorem dX8_better_26 : decode cX8_better 26 = .ok (.ireturn, 1) := by decide +kernel
theorem dX8_book_0 : decode cX8_book 0 = .ok (.aload_n 0, 1) := by decide +kernel
theorem dX8_book_1 : decode cX8_book 1 = .ok (.getfield 10, 3) := by decide +kernel
theorem dX8_book_4 : decode cX8_book 4 = .ok (.iload_n 1, 1) := by decide +kernel
theorem dX8_book_5 : decode cX8_book 5 = .ok (.invokevirtual 108, 3) := by decide +kernel
theorem dX8_book_8 : decode cX8_book 8 = .ok (.ifCond .eq 7, 3) := by decide +kernel
theorem dX8_book_11 : decode cX8_book 11 = .ok (.iload_n 2, 1) := by decide +kernel
theorem dX8_book_12 : decode cX8_book 12 = .ok (.ifCond .ge 5, 3) := by decide +kernel
theorem dX8_book_15 : decode cX8_book 15 = .ok (.iconst (-1), 1) := by decide +kernel
theorem dX8_book_16 : decode cX8_book 16 = .ok (.ireturn, 1) := by decide +kernel
theorem dX8_book_17 : decode cX8_book 17 = .ok (.iconst 0, 1) := by decide +kernel
theorem dX8_book_18 : decode cX8_book 18 = .ok (.istore_n 3, 1) := by decide +kernel
theorem dX8_book_19 : decode cX8_book 19 = .ok (.iload_n 3, 1) := by decide +kernel
theorem dX8_book_20 : decode cX8_book 20 = .ok (.aload_n 0, 1) := by decide +kernel
theorem dX8_book_21 : decode cX8_book 21 = .ok (.getfield 10, 3) := by decide +kernel
theorem dX8_book_24 : decode cX8_book 24 = .ok (.getfield 111, 3) := by decide +kernel
theorem dX8_book_27 : decode cX8_book 27 = .ok (.if_icmp .ge 48, 3) := by decide +kernel
theorem dX8_book_30 : decode cX8_book 30 = .ok (.aload_n 0, 1) := by decide +kernel
theorem dX8_book_31 : decode cX8_book 31 = .ok (.getfield 10, 3) := by decide +kernel
theorem dX8_book_34 : decode cX8_book 34 = .ok (.getfield 114, 3) := by decide +kernel
theorem dX8_book_37 : decode cX8_book 37 = .ok (.iload_n 3, 1) := by decide +kernel
theorem dX8_book_38 : decode cX8_book 38 = .ok (.aaload, 1) := by decide +kernel
theorem dX8_book_39 : decode cX8_book 39 = .ok (.iload_n 1, 1) := by decide +kernel
theorem dX8_book_40 : decode cX8_book 40 = .ok (.invokevirtual 268, 3) := by decide +kernel
theorem dX8_book_43 : decode cX8_book 43 = .ok (.ifCond .eq 26, 3) := by decide +kernel
theorem dX8_book_46 : decode cX8_book 46 = .ok (.aload_n 0, 1) := by decide +kernel
theorem dX8_book_47 : decode cX8_book 47 = .ok (.getfield 10, 3) := by decide +kernel
theorem dX8_book_50 : decode cX8_book 50 = .ok (.iload_n 1, 1) := by decide +kernel
theorem dX8_book_51 : decode cX8_book 51 = .ok (.aload_n 0, 1) := by decide +kernel
theorem dX8_book_52 : decode cX8_book 52 = .ok (.getfield 10, 3) := by decide +kernel
theorem dX8_book_55 : decode cX8_book 55 = .ok (.getfield 114, 3) := by decide +kernel
theorem dX8_book_58 : decode cX8_book 58 = .ok (.iload_n 3, 1) := by decide +kernel
theorem dX8_book_59 : decode cX8_book 59 = .ok (.aaload, 1) := by decide +kernel
theorem dX8_book_60 : decode cX8_book 60 = .ok (.invokevirtual 271, 3) := by decide +kernel
theorem dX8_book_63 : decode cX8_book 63 = .ok (.iload_n 2, 1) := by decide +kernel
theorem dX8_book_64 : decode cX8_book 64 = .ok (.if_icmp .ne 5, 3) := by decide +kernel
theorem dX8_book_67 : decode cX8_book 67 = .ok (.iload_n 3, 1) := by decide +kernel
theorem dX8_book_68 : decode cX8_book 68 = .ok (.ireturn, 1) := by decide +kernel
theorem dX8_book_69 : decode cX8_book 69 = .ok (.iinc 3 1, 3) := by decide +kernel
theorem dX8_book_72 : decode cX8_book 72 = .ok (.goto (-53), 3) := by decide +kernel
theorem dX8_book_75 : decode cX8_book 75 = .ok (.iconst (-1), 1) := by decide +kernel
theorem dX8_book_76 : decode cX8_book 76 = .ok (.ireturn, 1) := by decide +kernel
theorem dX8_count_0 : decode cX8_count 0 = .ok (.iload_n 1, 1) := by decide +kernel
theorem dX8_count_1 : decode cX8_count 1 = .ok (.tableswitch 63 0 3 #[31, 39, 47, 55], 31) := by decide +kernel
theorem dX8_count_32 : decode cX8_count 32 = .ok (.aload_n 0, 1) := by decide +kernel
theorem dX8_count_33 : decode cX8_count 33 = .ok (.getfield 10, 3) := by decide +kernel
theorem dX8_count_36 : decode cX8_count 36 = .ok (.getfield 58, 3) := by decide +kernel
theorem dX8_count_39 : decode cX8_count 39 = .ok (.ireturn, 1) := by decide +kernel
theorem dX8_count_40 : decode cX8_count 40 = .ok (.aload_n 0, 1) := by decide +kernel
theorem dX8_count_41 : decode cX8_count 41 = .ok (.getfield 10, 3) := by decide +kernel
theorem dX8_count_44 : decode cX8_count 44 = .ok (.getfield 86, 3) := by decide +kernel
theorem dX8_count_47 : decode cX8_count 47 = .ok (.ireturn, 1) := by decide +kernel
theorem dX8_count_48 : decode cX8_count 48 = .ok (.aload_n 0, 1) := by decide +kernel
theorem dX8_count_49 : decode cX8_count 49 = .ok (.getfield 10, 3) := by decide +kernel
theorem dX8_count_52 : decode cX8_count 52 = .ok (.getfield 111, 3) := by decide +kernel
theorem dX8_count_55 : decode cX8_count 55 = .ok (.ireturn, 1) := by decide +kernel
theorem dX8_count_56 : decode cX8_count 56 = .ok (.aload_n 0, 1) := by decide +kernel
theorem dX8_count_57 : decode cX8_count 57 = .ok (.getfield 10, 3) := by decide +kernel
theorem dX8_count_60 : decode cX8_count 60 = .ok (.getfield 192, 3) := by decide +kernel
theorem dX8_count_63 : decode cX8_count 63 = .ok (.ireturn, 1) := by decide +kernel
theorem dX8_count_64 : decode cX8_count 64 = .ok (.iload_n 1, 1) := by decide +kernel
theorem dX8_count_65 : decode cX8_count 65 = .ok (.iconst 4, 1) := by decide +kernel
theorem dX8_count_66 : decode cX8_count 66 = .ok (.bipush 8, 2) := by decide +kernel
theorem dX8_count_68 : decode cX8_count 68 = .ok (.invokestatic 54, 3) := by decide +kernel
theorem dX8_count_71 : decode cX8_count 71 = .ok (.ifCond .eq 16, 3) := by decide +kernel
theorem dX8_count_74 : decode cX8_count 74 = .ok (.aload_n 0, 1) := by decide +kernel
theorem dX8_count_75 : decode cX8_count 75 = .ok (.getfield 10, 3) := by decide +kernel
theorem dX8_count_78 : decode cX8_count 78 = .ok (.iload_n 1, 1) := by decide +kernel
theorem dX8_count_79 : decode cX8_count 79 = .ok (.iconst 4, 1) := by decide +kernel
theorem dX8_count_80 : decode cX8_count 80 = .ok (.isub, 1) := by decide +kernel
theorem dX8_count_81 : decode cX8_count 81 = .ok (.invokevirtual 260, 3) := by decide +kernel
theorem dX8_count_84 : decode cX8_count 84 = .ok (.goto 4, 3) := by decide +kernel
theorem dX8_count_87 : decode cX8_count 87 = .ok (.iconst (-1), 1) := by decide +kernel
theorem dX8_count_88 : decode cX8_count 88 = .ok (.ireturn, 1) := by decide +kernel
theorem dX8_within_0 : decode cX8_within 0 = .ok (.iload_n 0, 1) := by decide +kernel
theorem dX8_within_1 : decode cX8_within 1 = .ok (.iload_n 1, 1) := by decide +kernel
theorem dX8_within_2 : decode cX8_within 2 = .ok (.if_icmp .lt 12, 3) := by decide +kernel
theorem dX8_within_5 : decode cX8_within 5 = .ok (.iload_n 0, 1) := by decide +kernel
theorem dX8_within_6 : decode cX8_within 6 = .ok (.iload_n 2, 1) := by decide +kernel
theorem dX8_within_7 : decode cX8_within 7 = .ok (.if_icmp .gt 7, 3) := by decide +kernel
theorem dX8_within_10 : decode cX8_within 10 = .ok (.iconst 1, 1) := by decide +kernel
theorem dX8_within_11 : decode cX8_within 11 = .ok (.goto 4, 3) := by decide +kernel
theorem dX8_within_14 : decode cX8_within 14 = .ok (.iconst 0, 1) := by decide +kernel
theorem dX8_within_15 : decode cX8_within 15 = .ok (.ireturn, 1) := by decide +kernel
theorem dX8_isDay_0 : decode cX8_isDay 0 = .ok (.iload_n 0, 1) := by decide +kernel
theorem dX8_isDay_1 : decode cX8_isDay 1 = .ok (.iconst 0, 1) := by decide +kernel
theorem dX8_isDay_2 : decode cX8_isDay 2 = .ok (.sipush 399, 3) := by decide +kernel
theorem dX8_isDay_5 : decode cX8_isDay 5 = .ok (.invokestatic 54, 3) := by decide +kernel
theorem dX8_isDay_8 : decode cX8_isDay 8 = .ok (.ireturn, 1) := by decide +kernel
theorem dX8_areCrossings_0 : decode cX8_areCrossings 0 = .ok (.iload_n 0, 1) := by decide +kernel
theorem dX8_areCrossings_1 : decode cX8_areCrossings 1 = .ok (.iconst 0, 1) := by decide +kernel
theorem dX8_areCrossings_2 : decode cX8_areCrossings 2 = .ok (.bipush 19, 2) := by decide +kernel
theorem dX8_areCrossings_4 : decode cX8_areCrossings 4 = .ok (.invokestatic 54, 3) := by decide +kernel
theorem dX8_areCrossings_7 : decode cX8_areCrossings 7 = .ok (.ifCond .eq 22, 3) := by decide +kernel
theorem dX8_areCrossings_10 : decode cX8_areCrossings 10 = .ok (.iload_n 1, 1) := by decide +kernel
theorem dX8_areCrossings_11 : decode cX8_areCrossings 11 = .ok (.iconst 0, 1) := by decide +kernel
theorem dX8_areCrossings_12 : decode cX8_areCrossings 12 = .ok (.bipush 19, 2) := by decide +kernel
theorem dX8_areCrossings_14 : decode cX8_areCrossings 14 = .ok (.invokestatic 54, 3) := by decide +kernel
theorem dX8_areCrossings_17 : decode cX8_areCrossings 17 = .ok (.ifCond .eq 12, 3) := by decide +kernel
theorem dX8_areCrossings_20 : decode cX8_areCrossings 20 = .ok (.iload_n 0, 1) := by decide +kernel
theorem dX8_areCrossings_21 : decode cX8_areCrossings 21 = .ok (.iload_n 1, 1) := by decide +kernel
theorem dX8_areCrossings_22 : decode cX8_areCrossings 22 = .ok (.if_icmp .eq 7, 3) := by decide +kernel
theorem dX8_areCrossings_25 : decode cX8_areCrossings 25 = .ok (.iconst 1, 1) := by decide +kernel
theorem dX8_areCrossings_26 : decode cX8_areCrossings 26 = .ok (.goto 4, 3) := by decide +kernel
theorem dX8_areCrossings_29 : decode cX8_areCrossings 29 = .ok (.iconst 0, 1) := by decide +kernel
theorem dX8_areCrossings_30 : decode cX8_areCrossings 30 = .ok (.ireturn, 1) := by decide +kernel
theorem dX8_refusalOf_0 : decode cX8_refusalOf 0 = .ok (.aload_n 0, 1) := by decide +kernel
theorem dX8_refusalOf_1 : decode cX8_refusalOf 1 = .ok (.getfield 10, 3) := by decide +kernel
theorem dX8_refusalOf_4 : decode cX8_refusalOf 4 = .ok (.iload_n 1, 1) := by decide +kernel
theorem dX8_refusalOf_5 : decode cX8_refusalOf 5 = .ok (.invokevirtual 143, 3) := by decide +kernel
theorem dX8_refusalOf_8 : decode cX8_refusalOf 8 = .ok (.ifCond .eq 10, 3) := by decide +kernel
theorem dX8_refusalOf_11 : decode cX8_refusalOf 11 = .ok (.iload_n 2, 1) := by decide +kernel
theorem dX8_refusalOf_12 : decode cX8_refusalOf 12 = .ok (.invokestatic 100, 3) := by decide +kernel
theorem dX8_refusalOf_15 : decode cX8_refusalOf 15 = .ok (.ifCond .ne 5, 3) := by decide +kernel
theorem dX8_refusalOf_18 : decode cX8_refusalOf 18 = .ok (.iconst (-1), 1) := by decide +kernel
theorem dX8_refusalOf_19 : decode cX8_refusalOf 19 = .ok (.ireturn, 1) := by decide +kernel
theorem dX8_refusalOf_20 : decode cX8_refusalOf 20 = .ok (.aload_n 0, 1) := by decide +kernel
theorem dX8_refusalOf_21 : decode cX8_refusalOf 21 = .ok (.getfield 10, 3) := by decide +kernel
theorem dX8_refusalOf_24 : decode cX8_refusalOf 24 = .ok (.getfield 114, 3) := by decide +kernel
theorem dX8_refusalOf_27 : decode cX8_refusalOf 27 = .ok (.iload_n 1, 1) := by decide +kernel
theorem dX8_refusalOf_28 : decode cX8_refusalOf 28 = .ok (.aaload, 1) := by decide +kernel
theorem dX8_refusalOf_29 : decode cX8_refusalOf 29 = .ok (.astore_n 3, 1) := by decide +kernel
theorem dX8_refusalOf_30 : decode cX8_refusalOf 30 = .ok (.aload_n 3, 1) := by decide +kernel
theorem dX8_refusalOf_31 : decode cX8_refusalOf 31 = .ok (.invokevirtual 184, 3) := by decide +kernel
theorem dX8_refusalOf_34 : decode cX8_refusalOf 34 = .ok (.ifCond .eq 15, 3) := by decide +kernel
theorem dX8_refusalOf_37 : decode cX8_refusalOf 37 = .ok (.aload_n 3, 1) := by decide +kernel
theorem dX8_refusalOf_38 : decode cX8_refusalOf 38 = .ok (.getfield 123, 3) := by decide +kernel
theorem dX8_refusalOf_41 : decode cX8_refusalOf 41 = .ok (.iconst 2, 1) := by decide +kernel
theorem dX8_refusalOf_42 : decode cX8_refusalOf 42 = .ok (.if_icmp .eq 7, 3) := by decide +kernel
theorem dX8_refusalOf_45 : decode cX8_refusalOf 45 = .ok (.iconst 0, 1) := by decide +kernel
theorem dX8_refusalOf_46 : decode cX8_refusalOf 46 = .ok (.goto 5, 3) := by decide +kernel
theorem dX8_refusalOf_49 : decode cX8_refusalOf 49 = .ok (.bipush (-3), 2) := by decide +kernel
theorem dX8_refusalOf_51 : decode cX8_refusalOf 51 = .ok (.ireturn, 1) := by decide +kernel
theorem dX8_brokenFrom_0 : decode cX8_brokenFrom 0 = .ok (.aload_n 0, 1) := by decide +kernel
theorem dX8_brokenFrom_1 : decode cX8_brokenFrom 1 = .ok (.getfield 37, 3) := by decide +kernel
theorem dX8_brokenFrom_4 : decode cX8_brokenFrom 4 = .ok (.aload_n 1, 1) := by decide +kernel
theorem dX8_brokenFrom_5 : decode cX8_brokenFrom 5 = .ok (.bipush 60, 2) := by decide +kernel
theorem dX8_brokenFrom_7 : decode cX8_brokenFrom 7 = .ok (.invokevirtual 275, 3) := by decide +kernel
theorem dX8_brokenFrom_10 : decode cX8_brokenFrom 10 = .ok (.aload_n 0, 1) := by decide +kernel
theorem dX8_brokenFrom_11 : decode cX8_brokenFrom 11 = .ok (.getfield 37, 3) := by decide +kernel
theorem dX8_brokenFrom_14 : decode cX8_brokenFrom 14 = .ok (.aload_n 1, 1) := by decide +kernel
theorem dX8_brokenFrom_15 : decode cX8_brokenFrom 15 = .ok (.iload_n 2, 1) := by decide +kernel
theorem dX8_brokenFrom_16 : decode cX8_brokenFrom 16 = .ok (.iconst 1, 1) := by decide +kernel
theorem dX8_brokenFrom_17 : decode cX8_brokenFrom 17 = .ok (.invokevirtual 176, 3) := by decide +kernel
theorem dX8_brokenFrom_20 : decode cX8_brokenFrom 20 = .ok (.istore_n 3, 1) := by decide +kernel
theorem dX8_brokenFrom_21 : decode cX8_brokenFrom 21 = .ok (.iload_n 3, 1) := by decide +kernel
theorem dX8_brokenFrom_22 : decode cX8_brokenFrom 22 = .ok (.ifCond .eq 30, 3) := by decide +kernel
theorem dX8_brokenFrom_25 : decode cX8_brokenFrom 25 = .ok (.aload_n 0, 1) := by decide +kernel
theorem dX8_brokenFrom_26 : decode cX8_brokenFrom 26 = .ok (.iconst 1, 1) := by decide +kernel
theorem dX8_brokenFrom_27 : decode cX8_brokenFrom 27 = .ok (.putfield 166, 3) := by decide +kernel
theorem dX8_brokenFrom_30 : decode cX8_brokenFrom 30 = .ok (.aload_n 0, 1) := by decide +kernel
theorem dX8_brokenFrom_31 : decode cX8_brokenFrom 31 = .ok (.aload_n 0, 1) := by decide +kernel
theorem dX8_brokenFrom_32 : decode cX8_brokenFrom 32 = .ok (.getfield 37, 3) := by decide +kernel
theorem dX8_brokenFrom_35 : decode cX8_brokenFrom 35 = .ok (.getfield 278, 3) := by decide +kernel
theorem dX8_brokenFrom_38 : decode cX8_brokenFrom 38 = .ok (.putfield 170, 3) := by decide +kernel
theorem dX8_brokenFrom_41 : decode cX8_brokenFrom 41 = .ok (.aload_n 0, 1) := by decide +kernel
theorem dX8_brokenFrom_42 : decode cX8_brokenFrom 42 = .ok (.aload_n 0, 1) := by decide +kernel
theorem dX8_brokenFrom_43 : decode cX8_brokenFrom 43 = .ok (.getfield 37, 3) := by decide +kernel
theorem dX8_brokenFrom_46 : decode cX8_brokenFrom 46 = .ok (.getfield 281, 3) := by decide +kernel
theorem dX8_brokenFrom_49 : decode cX8_brokenFrom 49 = .ok (.putfield 173, 3) := by decide +kernel
theorem dX8_brokenFrom_52 : decode cX8_brokenFrom 52 = .ok (.iload_n 3, 1) := by decide +kernel
theorem dX8_brokenFrom_53 : decode cX8_brokenFrom 53 = .ok (.ireturn, 1) := by decide +kernel
end
section
theorem dX9_init_0 : decode cX9_init 0 = .ok (.aload_n 0, 1) := by decide +kernel
theorem dX9_init_1 : decode cX9_init 1 = .ok (.invokespecial 1, 3) := by decide +kernel
theorem dX9_init_4 : decode cX9_init 4 = .ok (.aload_n 0, 1) := by decide +kernel
theorem dX9_init_5 : decode cX9_init 5 = .ok (.bipush 40, 2) := by decide +kernel
theorem dX9_init_7 : decode cX9_init 7 = .ok (.newarray .int, 2) := by decide +kernel
theorem dX9_init_9 : decode cX9_init 9 = .ok (.putfield 9, 3) := by decide +kernel
theorem dX9_init_12 : decode cX9_init 12 = .ok (.aload_n 0, 1) := by decide +kernel
theorem dX9_init_13 : decode cX9_init 13 = .ok (.bipush 40, 2) := by decide +kernel
theorem dX9_init_15 : decode cX9_init 15 = .ok (.newarray .int, 2) := by decide +kernel
theorem dX9_init_17 : decode cX9_init 17 = .ok (.putfield 13, 3) := by decide +kernel
theorem dX9_init_20 : decode cX9_init 20 = .ok (.aload_n 0, 1) := by decide +kernel
theorem dX9_init_21 : decode cX9_init 21 = .ok (.bipush 40, 2) := by decide +kernel
theorem dX9_init_23 : decode cX9_init 23 = .ok (.newarray .int, 2) := by decide +kernel
theorem dX9_init_25 : decode cX9_init 25 = .ok (.putfield 16, 3) := by decide +kernel
theorem dX9_init_28 : decode cX9_init 28 = .ok (.aload_n 0, 1) := by decide +kernel
theorem dX9_init_29 : decode cX9_init 29 = .ok (.bipush 40, 2) := by decide +kernel
theorem dX9_init_31 : decode cX9_init 31 = .ok (.newarray .int, 2) := by decide +kernel
theorem dX9_init_33 : decode cX9_init 33 = .ok (.putfield 19, 3) := by decide +kernel
theorem dX9_init_36 : decode cX9_init 36 = .ok (.aload_n 0, 1) := by decide +kernel
theorem dX9_init_37 : decode cX9_init 37 = .ok (.bipush 40, 2) := by decide +kernel
theorem dX9_init_39 : decode cX9_init 39 = .ok (.newarray .int, 2) := by decide +kernel
theorem dX9_init_41 : decode cX9_init 41 = .ok (.putfield 22, 3) := by decide +kernel
theorem dX9_init_44 : decode cX9_init 44 = .ok (.aload_n 0, 1) := by decide +kernel
theorem dX9_init_45 : decode cX9_init 45 = .ok (.bipush 40, 2) := by decide +kernel
theorem dX9_init_47 : decode cX9_init 47 = .ok (.newarray .int, 2) := by decide +kernel
theorem dX9_init_49 : decode cX9_init 49 = .ok (.putfield 25, 3) := by decide +kernel
theorem dX9_init_52 : decode cX9_init 52 = .ok (.aload_n 0, 1) := by decide +kernel
theorem dX9_init_53 : decode cX9_init 53 = .ok (.bipush 8, 2) := by decide +kernel
theorem dX9_init_55 : decode cX9_init 55 = .ok (.newarray .int, 2) := by decide +kernel
theorem dX9_init_57 : decode cX9_init 57 = .ok (.putfield 28, 3) := by decide +kernel
theorem dX9_init_60 : decode cX9_init 60 = .ok (.aload_n 0, 1) := by decide +kernel
theorem dX9_init_61 : decode cX9_init 61 = .ok (.bipush 8, 2) := by decide +kernel
theorem dX9_init_63 : decode cX9_init 63 = .ok (.newarray .int, 2) := by decide +kernel
theorem dX9_init_65 : decode cX9_init 65 = .ok (.putfield 31, 3) := by decide +kernel
theorem dX9_init_68 : decode cX9_init 68 = .ok (.aload_n 0, 1) := by decide +kernel
theorem dX9_init_69 : decode cX9_init 69 = .ok (.bipush 8, 2) := by decide +kernel
theorem dX9_init_71 : decode cX9_init 71 = .ok (.newarray .int, 2) := by decide +kernel
theorem dX9_init_73 : decode cX9_init 73 = .ok (.putfield 34, 3) := by decide +kernel
theorem dX9_init_76 : decode cX9_init 76 = .ok (.aload_n 0, 1) := by decide +kernel
theorem dX9_init_77 : decode cX9_init 77 = .ok (.sipush 400, 3) := by decide +kernel
theorem dX9_init_80 : decode cX9_init 80 = .ok (.newarray .boolean, 2) := by decide +kernel
theorem dX9_init_82 : decode cX9_init 82 = .ok (.putfield 37, 3) := by decide +kernel
theorem dX9_init_85 : decode cX9_init 85 = .ok (.aload_n 0, 1) := by decide +kernel
theorem dX9_init_86 : decode cX9_init 86 = .ok (.bipush 60, 2) := by decide +kernel
theorem dX9_init_88 : decode cX9_init 88 = .ok (.newarray .int, 2) := by decide +kernel
theorem dX9_init_90 : decode cX9_init 90 = .ok (.putfield 41, 3) := by decide +kernel
theorem dX9_init_93 : decode cX9_init 93 = .ok (.aload_n 0, 1) := by decide +kernel
theorem dX9_init_94 : decode cX9_init 94 = .ok (.bipush 60, 2) := by decide +kernel
theorem dX9_init_96 : decode cX9_init 96 = .ok (.newarray .int, 2) := by decide +kernel
theorem dX9_init_98 : decode cX9_init 98 = .ok (.putfield 44, 3) := by decide +kernel
theorem dX9_init_101 : decode cX9_init 101 = .ok (.aload_n 0, 1) := by decide +kernel
theorem dX9_init_102 : decode cX9_init 102 = .ok (.bipush 60, 2) := by decide +kernel
theorem dX9_init_104 : decode cX9_init 104 = .ok (.newarray .int, 2) := by decide +kernel
theorem dX9_init_106 : decode cX9_init 106 = .ok (.putfield 47, 3) := by decide +kernel
theorem dX9_init_109 : decode cX9_init 109 = .ok (.aload_n 0, 1) := by decide +kernel
theorem dX9_init_110 : decode cX9_init 110 = .ok (.bipush 60, 2) := by decide +kernel
theorem dX9_init_112 : decode cX9_init 112 = .ok (.newarray .int, 2) := by decide +kernel
theorem dX9_init_114 : decode cX9_init 114 = .ok (.putfield 50, 3) := by decide +kernel
theorem dX9_init_117 : decode cX9_init 117 = .ok (.aload_n 0, 1) := by decide +kernel
theorem dX9_init_118 : decode cX9_init 118 = .ok (.bipush 60, 2) := by decide +kernel
theorem dX9_init_120 : decode cX9_init 120 = .ok (.newarray .int, 2) := by decide +kernel
theorem dX9_init_122 : decode cX9_init 122 = .ok (.putfield 53, 3) := by decide +kernel
theorem dX9_init_125 : decode cX9_init 125 = .ok (.aload_n 0, 1) := by decide +kernel
theorem dX9_init_126 : decode cX9_init 126 = .ok (.bipush 60, 2) := by decide +kernel
theorem dX9_init_128 : decode cX9_init 128 = .ok (.newarray .int, 2) := by decide +kernel
theorem dX9_init_130 : decode cX9_init 130 = .ok (.putfield 56, 3) := by decide +kernel
theorem dX9_init_133 : decode cX9_init 133 = .ok (.aload_n 0, 1) := by decide +kernel
theorem dX9_init_134 : decode cX9_init 134 = .ok (.bipush 60, 2) := by decide +kernel
theorem dX9_init_136 : decode cX9_init 136 = .ok (.newarray .long, 2) := by decide +kernel
theorem dX9_init_138 : decode cX9_init 138 = .ok (.putfield 59, 3) := by decide +kernel
theorem dX9_init_141 : decode cX9_init 141 = .ok (.aload_n 0, 1) := by decide +kernel
theorem dX9_init_142 : decode cX9_init 142 = .ok (.bipush 60, 2) := by decide +kernel
theorem dX9_init_144 : decode cX9_init 144 = .ok (.newarray .int, 2) := by decide +kernel
theorem dX9_init_146 : decode cX9_init 146 = .ok (.putfield 63, 3) := by decide +kernel
theorem dX9_init_149 : decode cX9_init 149 = .ok (.aload_n 0, 1) := by decide +kernel
theorem dX9_init_150 : decode cX9_init 150 = .ok (.bipush 60, 2) := by decide +kernel
theorem dX9_init_152 : decode cX9_init 152 = .ok (.newarray .int, 2) := by decide +kernel
theorem dX9_init_154 : decode cX9_init 154 = .ok (.putfield 66, 3) := by decide +kernel
theorem dX9_init_157 : decode cX9_init 157 = .ok (.aload_n 0, 1) := by decide +kernel
theorem dX9_init_158 : decode cX9_init 158 = .ok (.bipush 60, 2) := by decide +kernel
theorem dX9_init_160 : decode cX9_init 160 = .ok (.newarray .int, 2) := by decide +kernel
theorem dX9_init_162 : decode cX9_init 162 = .ok (.putfield 69, 3) := by decide +kernel
theorem dX9_init_165 : decode cX9_init 165 = .ok (.aload_n 0, 1) := by decide +kernel
theorem dX9_init_166 : decode cX9_init 166 = .ok (.bipush 60, 2) := by decide +kernel
theorem dX9_init_168 : decode cX9_init 168 = .ok (.newarray .int, 2) := by decide +kernel
theorem dX9_init_170 : decode cX9_init 170 = .ok (.putfield 72, 3) := by decide +kernel
theorem dX9_init_173 : decode cX9_init 173 = .ok (.aload_n 0, 1) := by decide +kernel
theorem dX9_init_174 : decode cX9_init 174 = .ok (.bipush 60, 2) := by decide +kernel
theorem dX9_init_176 : decode cX9_init 176 = .ok (.newarray .int, 2) := by decide +kernel
theorem dX9_init_178 : decode cX9_init 178 = .ok (.putfield 75, 3) := by decide +kernel
theorem dX9_init_181 : decode cX9_init 181 = .ok (.aload_n 0, 1) := by decide +kernel
theorem dX9_init_182 : decode cX9_init 182 = .ok (.bipush 60, 2) := by decide +kernel
theorem dX9_init_184 : decode cX9_init 184 = .ok (.newarray .int, 2) := by decide +kernel
theorem dX9_init_186 : decode cX9_init 186 = .ok (.putfield 78, 3) := by decide +kernel
theorem dX9_init_189 : decode cX9_init 189 = .ok (.aload_n 0, 1) := by decide +kernel
theorem dX9_init_190 : decode cX9_init 190 = .ok (.bipush 60, 2) := by decide +kernel
theorem dX9_init_192 : decode cX9_init 192 = .ok (.newarray .int, 2) := by decide +kernel
theorem dX9_init_194 : decode cX9_init 194 = .ok (.putfield 81, 3) := by decide +kernel
theorem dX9_init_197 : decode cX9_init 197 = .ok (.aload_n 0, 1) := by decide +kernel
theorem dX9_init_198 : decode cX9_init 198 = .ok (.bipush 60, 2) := by decide +kernel
theorem dX9_init_200 : decode cX9_init 200 = .ok (.newarray .int, 2) := by decide +kernel
theorem dX9_init_202 : decode cX9_init 202 = .ok (.putfield 84, 3) := by decide +kernel
theorem dX9_init_205 : decode cX9_init 205 = .ok (.aload_n 0, 1) := by decide +kernel
theorem dX9_init_206 : decode cX9_init 206 = .ok (.iconst (-1), 1) := by decide +kernel
theorem dX9_init_207 : decode cX9_init 207 = .ok (.putfield 87, 3) := by decide +kernel
theorem dX9_init_210 : decode cX9_init 210 = .ok (.aload_n 0, 1) := by decide +kernel
theorem dX9_init_211 : decode cX9_init 211 = .ok (.iconst (-1), 1) := by decide +kernel
theorem dX9_init_212 : decode cX9_init 212 = .ok (.putfield 91, 3) := by decide +kernel
theorem dX9_init_215 : decode cX9_init 215 = .ok (.aload_n 0, 1) := by decide +kernel
theorem dX9_init_216 : decode cX9_init 216 = .ok (.bipush 20, 2) := by decide +kernel
theorem dX9_init_218 : decode cX9_init 218 = .ok (.newarray .int, 2) := by decide +kernel
theorem dX9_init_220 : decode cX9_init 220 = .ok (.putfield 94, 3) := by decide +kernel
theorem dX9_init_223 : decode cX9_init 223 = .ok (.return_, 1) := by decide +kernel
theorem dX9_within_0 : decode cX9_within 0 = .ok (.iload_n 0, 1) := by decide +kernel
theorem dX9_within_1 : decode cX9_within 1 = .ok (.iload_n 1, 1) := by decide +kernel
theorem dX9_within_2 : decode cX9_within 2 = .ok (.if_icmp .lt 12, 3) := by decide +kernel
theorem dX9_within_5 : decode cX9_within 5 = .ok (.iload_n 0, 1) := by decide +kernel
theorem dX9_within_6 : decode cX9_within 6 = .ok (.iload_n 2, 1) := by decide +kernel
theorem dX9_within_7 : decode cX9_within 7 = .ok (.if_icmp .gt 7, 3) := by decide +kernel
theorem dX9_within_10 : decode cX9_within 10 = .ok (.iconst 1, 1) := by decide +kernel
theorem dX9_within_11 : decode cX9_within 11 = .ok (.goto 4, 3) := by decide +kernel
theorem dX9_within_14 : decode cX9_within 14 = .ok (.iconst 0, 1) := by decide +kernel
theorem dX9_within_15 : decode cX9_within 15 = .ok (.ireturn, 1) := by decide +kernel
theorem dX9_piece_0 : decode cX9_piece 0 = .ok (.iload_n 1, 1) := by decide +kernel
theorem dX9_piece_1 : decode cX9_piece 1 = .ok (.ifCond .lt 72, 3) := by decide +kernel
theorem dX9_piece_4 : decode cX9_piece 4 = .ok (.iload_n 1, 1) := by decide +kernel
theorem dX9_piece_5 : decode cX9_piece 5 = .ok (.bipush 100, 2) := by decide +kernel
theorem dX9_piece_7 : decode cX9_piece 7 = .ok (.idiv, 1) := by decide +kernel
theorem dX9_piece_8 : decode cX9_piece 8 = .ok (.bipush 20, 2) := by decide +kernel
theorem dX9_piece_10 : decode cX9_piece 10 = .ok (.if_icmp .ge 63, 3) := by decide +kernel
theorem dX9_piece_13 : decode cX9_piece 13 = .ok (.iload_n 1, 1) := by decide +kernel
theorem dX9_piece_14 : decode cX9_piece 14 = .ok (.bipush 100, 2) := by decide +kernel
theorem dX9_piece_16 : decode cX9_piece 16 = .ok (.irem, 1) := by decide +kernel
theorem dX9_piece_17 : decode cX9_piece 17 = .ok (.bipush 20, 2) := by decide +kernel
theorem dX9_piece_19 : decode cX9_piece 19 = .ok (.if_icmp .ge 54, 3) := by decide +kernel
theorem dX9_piece_22 : decode cX9_piece 22 = .ok (.iload_n 1, 1) := by decide +kernel
theorem dX9_piece_23 : decode cX9_piece 23 = .ok (.bipush 100, 2) := by decide +kernel
theorem dX9_piece_25 : decode cX9_piece 25 = .ok (.idiv, 1) := by decide +kernel
theorem dX9_piece_26 : decode cX9_piece 26 = .ok (.iload_n 1, 1) := by decide +kernel
theorem dX9_piece_27 : decode cX9_piece 27 = .ok (.bipush 100, 2) := by decide +kernel
theorem dX9_piece_29 : decode cX9_piece 29 = .ok (.irem, 1) := by decide +kernel
theorem dX9_piece_30 : decode cX9_piece 30 = .ok (.if_icmp .eq 43, 3) := by decide +kernel
theorem dX9_piece_33 : decode cX9_piece 33 = .ok (.iload_n 2, 1) := by decide +kernel
theorem dX9_piece_34 : decode cX9_piece 34 = .ok (.iconst 1, 1) := by decide +kernel
theorem dX9_piece_35 : decode cX9_piece 35 = .ok (.iconst 4, 1) := by decide +kernel
theorem dX9_piece_36 : decode cX9_piece 36 = .ok (.invokestatic 97, 3) := by decide +kernel
theorem dX9_piece_39 : decode cX9_piece 39 = .ok (.ifCond .eq 34, 3) := by decide +kernel
theorem dX9_piece_42 : decode cX9_piece 42 = .ok (.iload_n 3, 1) := by decide +kernel
theorem dX9_piece_43 : decode cX9_piece 43 = .ok (.iconst 0, 1) := by decide +kernel
theorem dX9_piece_44 : decode cX9_piece 44 = .ok (.iconst 2, 1) := by decide +kernel
theorem dX9_piece_45 : decode cX9_piece 45 = .ok (.invokestatic 97, 3) := by decide +kernel
theorem dX9_piece_48 : decode cX9_piece 48 = .ok (.ifCond .eq 25, 3) := by decide +kernel
theorem dX9_piece_51 : decode cX9_piece 51 = .ok (.iload 4, 2) := by decide +kernel
theorem dX9_piece_53 : decode cX9_piece 53 = .ok (.iconst 1, 1) := by decide +kernel
theorem dX9_piece_54 : decode cX9_piece 54 = .ok (.bipush 30, 2) := by decide +kernel
theorem dX9_piece_56 : decode cX9_piece 56 = .ok (.invokestatic 97, 3) := by decide +kernel
theorem dX9_piece_59 : decode cX9_piece 59 = .ok (.ifCond .eq 14, 3) := by decide +kernel
theorem dX9_piece_62 : decode cX9_piece 62 = .ok (.iload 5, 2) := by decide +kernel
theorem dX9_piece_64 : decode cX9_piece 64 = .ok (.iconst 0, 1) := by decide +kernel
theorem dX9_piece_65 : decode cX9_piece 65 = .ok (.bipush 60, 2) := by decide +kernel
theorem dX9_piece_67 : decode cX9_piece 67 = .ok (.invokestatic 97, 3) := by decide +kernel
theorem dX9_piece_70 : decode cX9_piece 70 = .ok (.ifCond .ne 5, 3) := by decide +kernel
theorem dX9_piece_73 : decode cX9_piece 73 = .ok (.iconst (-1), 1) := by decide +kernel
theorem dX9_piece_74 : decode cX9_piece 74 = .ok (.ireturn, 1) := by decide +kernel
theorem dX9_piece_75 : decode cX9_piece 75 = .ok (.aload_n 0, 1) := by decide +kernel
theorem dX9_piece_76 : decode cX9_piece 76 = .ok (.getfield 101, 3) := by decide +kernel
theorem dX9_piece_79 : decode cX9_piece 79 = .ok (.bipush 40, 2) := by decide +kernel
theorem dX9_piece_81 : decode cX9_piece 81 = .ok (.if_icmp .ne 6, 3) := by decide +kernel
theorem dX9_piece_84 : decode cX9_piece 84 = .ok (.bipush (-2), 2) := by decide +kernel
theorem dX9_piece_86 : decode cX9_piece 86 = .ok (.ireturn, 1) := by decide +kernel
theorem dX9_piece_87 : decode cX9_piece 87 = .ok (.aload_n 0, 1) := by decide +kernel
theorem dX9_piece_88 : decode cX9_piece 88 = .ok (.getfield 9, 3) := by decide +kernel
theorem dX9_piece_91 : decode cX9_piece 91 = .ok (.aload_n 0, 1) := by decide +kernel
theorem dX9_piece_92 : decode cX9_piece 92 = .ok (.getfield 101, 3) := by decide +kernel
theorem dX9_piece_95 : decode cX9_piece 95 = .ok (.iload_n 1, 1) := by decide +kernel
theorem dX9_piece_96 : decode cX9_piece 96 = .ok (.bipush 100, 2) := by decide +kernel
theorem dX9_piece_98 : decode cX9_piece 98 = .ok (.idiv, 1) := by decide +kernel
theorem dX9_piece_99 : decode cX9_piece 99 = .ok (.iastore, 1) := by decide +kernel
theorem dX9_piece_100 : decode cX9_piece 100 = .ok (.aload_n 0, 1) := by decide +kernel
theorem dX9_piece_101 : decode cX9_piece 101 = .ok (.getfield 13, 3) := by decide +kernel
theorem dX9_piece_104 : decode cX9_piece 104 = .ok (.aload_n 0, 1) := by decide +kernel
theorem dX9_piece_105 : decode cX9_piece 105 = .ok (.getfield 101, 3) := by decide +kernel
theorem dX9_piece_108 : decode cX9_piece 108 = .ok (.iload_n 1, 1) := by decide +kernel
theorem dX9_piece_109 : decode cX9_piece 109 = .ok (.bipush 100, 2) := by decide +kernel
theorem dX9_piece_111 : decode cX9_piece 111 = .ok (.irem, 1) := by decide +kernel
theorem dX9_piece_112 : decode cX9_piece 112 = .ok (.iastore, 1) := by decide +kernel
theorem dX9_piece_113 : decode cX9_piece 113 = .ok (.aload_n 0, 1) := by decide +kernel
theorem dX9_piece_114 : decode cX9_piece 114 = .ok (.getfield 16, 3) := by decide +kernel
theorem dX9_piece_117 : decode cX9_piece 117 = .ok (.aload_n 0, 1) := by decide +kernel
theorem dX9_piece_118 : decode cX9_piece 118 = .ok (.getfield 101, 3) := by decide +kernel
theorem dX9_piece_121 : decode cX9_piece 121 = .ok (.iload_n 2, 1) := by decide +kernel
theorem dX9_piece_122 : decode cX9_piece 122 = .ok (.iastore, 1) := by decide +kernel
theorem dX9_piece_123 : decode cX9_piece 123 = .ok (.aload_n 0, 1) := by decide +kernel
theorem dX9_piece_124 : decode cX9_piece 124 = .ok (.getfield 19, 3) := by decide +kernel
theorem dX9_piece_127 : decode cX9_piece 127 = .ok (.aload_n 0, 1) := by decide +kernel
theorem dX9_piece_128 : decode cX9_piece 128 = .ok (.getfield 101, 3) := by decide +kernel
theorem dX9_piece_131 : decode cX9_piece 131 = .ok (.iload_n 3, 1) := by decide +kernel
theorem dX9_piece_132 : decode cX9_piece 132 = .ok (.iastore, 1) := by decide +kernel
theorem dX9_piece_133 : decode cX9_piece 133 = .ok (.aload_n 0, 1) := by decide +kernel
theorem dX9_piece_134 : decode cX9_piece 134 = .ok (.getfield 22, 3) := by decide +kernel
theorem dX9_piece_137 : decode cX9_piece 137 = .ok (.aload_n 0, 1) := by decide +kernel
theorem dX9_piece_138 : decode cX9_piece 138 = .ok (.getfield 101, 3) := by decide +kernel
theorem dX9_piece_141 : decode cX9_piece 141 = .ok (.iload 4, 2) := by decide +kernel
theorem dX9_piece_143 : decode cX9_piece 143 = .ok (.iastore, 1) := by decide +kernel
theorem dX9_piece_144 : decode cX9_piece 144 = .ok (.aload_n 0, 1) := by decide +kernel
theorem dX9_piece_145 : decode cX9_piece 145 = .ok (.getfield 25, 3) := by decide +kernel
theorem dX9_piece_148 : decode cX9_piece 148 = .ok (.aload_n 0, 1) := by decide +kernel
theorem dX9_piece_149 : decode cX9_piece 149 = .ok (.getfield 101, 3) := by decide +kernel
theorem dX9_piece_152 : decode cX9_piece 152 = .ok (.iload 5, 2) := by decide +kernel
theorem dX9_piece_154 : decode cX9_piece 154 = .ok (.iastore, 1) := by decide +kernel
theorem dX9_piece_155 : decode cX9_piece 155 = .ok (.aload_n 0, 1) := by decide +kernel
theorem dX9_piece_156 : decode cX9_piece 156 = .ok (.dup, 1) := by decide +kernel
theorem dX9_piece_157 : decode cX9_piece 157 = .ok (.getfield 101, 3) := by decide +kernel
theorem dX9_piece_160 : decode cX9_piece 160 = .ok (.iconst 1, 1) := by decide +kernel
theorem dX9_piece_161 : decode cX9_piece 161 = .ok (.iadd, 1) := by decide +kernel
theorem dX9_piece_162 : decode cX9_piece 162 = .ok (.putfield 101, 3) := by decide +kernel
theorem dX9_piece_165 : decode cX9_piece 165 = .ok (.aload_n 0, 1) := by decide +kernel
theorem dX9_piece_166 : decode cX9_piece 166 = .ok (.getfield 101, 3) := by decide +kernel
theorem dX9_piece_169 : decode cX9_piece 169 = .ok (.iconst 1, 1) := by decide +kernel
theorem dX9_piece_170 : decode cX9_piece 170 = .ok (.isub, 1) := by decide +kernel
theorem dX9_piece_171 : decode cX9_piece 171 = .ok (.ireturn, 1) := by decide +kernel
theorem dX9_pair_0 : decode cX9_pair 0 = .ok (.iload_n 1, 1) := by decide +kernel
theorem dX9_pair_1 : decode cX9_pair 1 = .ok (.iconst 0, 1) := by decide +kernel
theorem dX9_pair_2 : decode cX9_pair 2 = .ok (.bipush 19, 2) := by decide +kernel
theorem dX9_pair_4 : decode cX9_pair 4 = .ok (.invokestatic 97, 3) := by decide +kernel
theorem dX9_pair_7 : decode cX9_pair 7 = .ok (.ifCond .eq 29, 3) := by decide +kernel
theorem dX9_pair_10 : decode cX9_pair 10 = .ok (.iload_n 2, 1) := by decide +kernel
theorem dX9_pair_11 : decode cX9_pair 11 = .ok (.iconst 0, 1) := by decide +kernel
theorem dX9_pair_12 : decode cX9_pair 12 = .ok (.bipush 19, 2) := by decide +kernel
theorem dX9_pair_14 : decode cX9_pair 14 = .ok (.invokestatic 97, 3) := by decide +kernel
theorem dX9_pair_17 : decode cX9_pair 17 = .ok (.ifCond .eq 19, 3) := by decide +kernel
theorem dX9_pair_20 : decode cX9_pair 20 = .ok (.iload_n 1, 1) := by decide +kernel
theorem dX9_pair_21 : decode cX9_pair 21 = .ok (.iload_n 2, 1) := by decide +kernel
theorem dX9_pair_22 : decode cX9_pair 22 = .ok (.if_icmp .eq 14, 3) := by decide +kernel
theorem dX9_pair_25 : decode cX9_pair 25 = .ok (.iload_n 3, 1) := by decide +kernel
theorem dX9_pair_26 : decode cX9_pair 26 = .ok (.iconst 1, 1) := by decide +kernel
theorem dX9_pair_27 : decode cX9_pair 27 = .ok (.sipush 200, 3) := by decide +kernel
theorem dX9_pair_30 : decode cX9_pair 30 = .ok (.invokestatic 97, 3) := by decide +kernel
theorem dX9_pair_33 : decode cX9_pair 33 = .ok (.ifCond .ne 5, 3) := by decide +kernel
theorem dX9_pair_36 : decode cX9_pair 36 = .ok (.iconst (-1), 1) := by decide +kernel
theorem dX9_pair_37 : decode cX9_pair 37 = .ok (.ireturn, 1) := by decide +kernel
theorem dX9_pair_38 : decode cX9_pair 38 = .ok (.aload_n 0, 1) := by decide +kernel
theorem dX9_pair_39 : decode cX9_pair 39 = .ok (.getfield 104, 3) := by decide +kernel
theorem dX9_pair_42 : decode cX9_pair 42 = .ok (.bipush 8, 2) := by decide +kernel
theorem dX9_pair_44 : decode cX9_pair 44 = .ok (.if_icmp .ne 6, 3) := by decide +kernel
theorem dX9_pair_47 : decode cX9_pair 47 = .ok (.bipush (-2), 2) := by decide +kernel
theorem dX9_pair_49 : decode cX9_pair 49 = .ok (.ireturn, 1) := by decide +kernel
theorem dX9_pair_50 : decode cX9_pair 50 = .ok (.aload_n 0, 1) := by decide +kernel
theorem dX9_pair_51 : decode cX9_pair 51 = .ok (.getfield 28, 3) := by decide +kernel
theorem dX9_pair_54 : decode cX9_pair 54 = .ok (.aload_n 0, 1) := by decide +kernel
theorem dX9_pair_55 : decode cX9_pair 55 = .ok (.getfield 104, 3) := by decide +kernel
theorem dX9_pair_58 : decode cX9_pair 58 = .ok (.iload_n 1, 1) := by decide +kernel
theorem dX9_pair_59 : decode cX9_pair 59 = .ok (.iastore, 1) := by decide +kernel
theorem dX9_pair_60 : decode cX9_pair 60 = .ok (.aload_n 0, 1) := by decide +kernel
theorem dX9_pair_61 : decode cX9_pair 61 = .ok (.getfield 31, 3) := by decide +kernel
theorem dX9_pair_64 : decode cX9_pair 64 = .ok (.aload_n 0, 1) := by decide +kernel
theorem dX9_pair_65 : decode cX9_pair 65 = .ok (.getfield 104, 3) := by decide +kernel
theorem dX9_pair_68 : decode cX9_pair 68 = .ok (.iload_n 2, 1) := by decide +kernel
theorem dX9_pair_69 : decode cX9_pair 69 = .ok (.iastore, 1) := by decide +kernel
theorem dX9_pair_70 : decode cX9_pair 70 = .ok (.aload_n 0, 1) := by decide +kernel
theorem dX9_pair_71 : decode cX9_pair 71 = .ok (.getfield 34, 3) := by decide +kernel
theorem dX9_pair_74 : decode cX9_pair 74 = .ok (.aload_n 0, 1) := by decide +kernel
theorem dX9_pair_75 : decode cX9_pair 75 = .ok (.getfield 104, 3) := by decide +kernel
theorem dX9_pair_78 : decode cX9_pair 78 = .ok (.iload_n 3, 1) := by decide +kernel
theorem dX9_pair_79 : decode cX9_pair 79 = .ok (.iastore, 1) := by decide +kernel
theorem dX9_pair_80 : decode cX9_pair 80 = .ok (.aload_n 0, 1) := by decide +kernel
theorem dX9_pair_81 : decode cX9_pair 81 = .ok (.dup, 1) := by decide +kernel
theorem dX9_pair_82 : decode cX9_pair 82 = .ok (.getfield 104, 3) := by decide +kernel
theorem dX9_pair_85 : decode cX9_pair 85 = .ok (.iconst 1, 1) := by decide +kernel
theorem dX9_pair_86 : decode cX9_pair 86 = .ok (.iadd, 1) := by decide +kernel
theorem dX9_pair_87 : decode cX9_pair 87 = .ok (.putfield 104, 3) := by decide +kernel
theorem dX9_pair_90 : decode cX9_pair 90 = .ok (.aload_n 0, 1) := by decide +kernel
theorem dX9_pair_91 : decode cX9_pair 91 = .ok (.getfield 104, 3) := by decide +kernel
theorem dX9_pair_94 : decode cX9_pair 94 = .ok (.iconst 1, 1) := by decide +kernel
theorem dX9_pair_95 : decode cX9_pair 95 = .ok (.isub, 1) := by decide +kernel
theorem dX9_pair_96 : decode cX9_pair 96 = .ok (.ireturn, 1) := by decide +kernel
theorem dX9_feast_0 : decode cX9_feast 0 = .ok (.iload_n 1, 1) := by decide +kernel
theorem dX9_feast_1 : decode cX9_feast 1 = .ok (.iconst 0, 1) := by decide +kernel
theorem dX9_feast_2 : decode cX9_feast 2 = .ok (.sipush 399, 3) := by decide +kernel
theorem dX9_feast_5 : decode cX9_feast 5 = .ok (.invokestatic 97, 3) := by decide +kernel
theorem dX9_feast_8 : decode cX9_feast 8 = .ok (.ifCond .eq 12, 3) := by decide +kernel
theorem dX9_feast_11 : decode cX9_feast 11 = .ok (.iload_n 2, 1) := by decide +kernel
theorem dX9_feast_12 : decode cX9_feast 12 = .ok (.iconst 0, 1) := by decide +kernel
theorem dX9_feast_13 : decode cX9_feast 13 = .ok (.iconst 1, 1) := by decide +kernel
theorem dX9_feast_14 : decode cX9_feast 14 = .ok (.invokestatic 97, 3) := by decide +kernel
theorem dX9_feast_17 : decode cX9_feast 17 = .ok (.ifCond .ne 5, 3) := by decide +kernel
theorem dX9_feast_20 : decode cX9_feast 20 = .ok (.iconst (-1), 1) := by decide +kernel
theorem dX9_feast_21 : decode cX9_feast 21 = .ok (.ireturn, 1) := by decide +kernel
theorem dX9_feast_22 : decode cX9_feast 22 = .ok (.aload_n 0, 1) := by decide +kernel
theorem dX9_feast_23 : decode cX9_feast 23 = .ok (.getfield 37, 3) := by decide +kernel
theorem dX9_feast_26 : decode cX9_feast 26 = .ok (.iload_n 1, 1) := by decide +kernel
theorem dX9_feast_27 : decode cX9_feast 27 = .ok (.baload, 1) := by decide +kernel
theorem dX9_feast_28 : decode cX9_feast 28 = .ok (.ifCond .eq 7, 3) := by decide +kernel
theorem dX9_feast_31 : decode cX9_feast 31 = .ok (.iconst 1, 1) := by decide +kernel
theorem dX9_feast_32 : decode cX9_feast 32 = .ok (.goto 4, 3) := by decide +kernel
theorem dX9_feast_35 : decode cX9_feast 35 = .ok (.iconst 0, 1) := by decide +kernel
theorem dX9_feast_36 : decode cX9_feast 36 = .ok (.istore_n 3, 1) := by decide +kernel
theorem dX9_feast_37 : decode cX9_feast 37 = .ok (.aload_n 0, 1) := by decide +kernel
theorem dX9_feast_38 : decode cX9_feast 38 = .ok (.getfield 37, 3) := by decide +kernel
theorem dX9_feast_41 : decode cX9_feast 41 = .ok (.iload_n 1, 1) := by decide +kernel
theorem dX9_feast_42 : decode cX9_feast 42 = .ok (.iload_n 2, 1) := by decide +kernel
theorem dX9_feast_43 : decode cX9_feast 43 = .ok (.iconst 1, 1) := by decide +kernel
theorem dX9_feast_44 : decode cX9_feast 44 = .ok (.if_icmp .ne 7, 3) := by decide +kernel
theorem dX9_feast_47 : decode cX9_feast 47 = .ok (.iconst 1, 1) := by decide +kernel
theorem dX9_feast_48 : decode cX9_feast 48 = .ok (.goto 4, 3) := by decide +kernel
theorem dX9_feast_51 : decode cX9_feast 51 = .ok (.iconst 0, 1) := by decide +kernel
theorem dX9_feast_52 : decode cX9_feast 52 = .ok (.bastore, 1) := by decide +kernel
theorem dX9_feast_53 : decode cX9_feast 53 = .ok (.iload_n 3, 1) := by decide +kernel
theorem dX9_feast_54 : decode cX9_feast 54 = .ok (.ireturn, 1) := by decide +kernel
theorem dX9_isPiece_0 : decode cX9_isPiece 0 = .ok (.iload_n 1, 1) := by decide +kernel
theorem dX9_isPiece_1 : decode cX9_isPiece 1 = .ok (.ifCond .lt 15, 3) := by decide +kernel
theorem dX9_isPiece_4 : decode cX9_isPiece 4 = .ok (.iload_n 1, 1) := by decide +kernel
theorem dX9_isPiece_5 : decode cX9_isPiece 5 = .ok (.aload_n 0, 1) := by decide +kernel
theorem dX9_isPiece_6 : decode cX9_isPiece 6 = .ok (.getfield 101, 3) := by decide +kernel
theorem dX9_isPiece_9 : decode cX9_isPiece 9 = .ok (.if_icmp .ge 7, 3) := by decide +kernel
theorem dX9_isPiece_12 : decode cX9_isPiece 12 = .ok (.iconst 1, 1) := by decide +kernel
theorem dX9_isPiece_13 : decode cX9_isPiece 13 = .ok (.goto 4, 3) := by decide +kernel
theorem dX9_isPiece_16 : decode cX9_isPiece 16 = .ok (.iconst 0, 1) := by decide +kernel
theorem dX9_isPiece_17 : decode cX9_isPiece 17 = .ok (.ireturn, 1) := by decide +kernel
theorem dX9_isWork_0 : decode cX9_isWork 0 = .ok (.iload_n 1, 1) := by decide +kernel
theorem dX9_isWork_1 : decode cX9_isWork 1 = .ok (.ifCond .lt 15, 3) := by decide +kernel
theorem dX9_isWork_4 : decode cX9_isWork 4 = .ok (.iload_n 1, 1) := by decide +kernel
theorem dX9_isWork_5 : decode cX9_isWork 5 = .ok (.aload_n 0, 1) := by decide +kernel
theorem dX9_isWork_6 : decode cX9_isWork 6 = .ok (.getfield 107, 3) := by decide +kernel
theorem dX9_isWork_9 : decode cX9_isWork 9 = .ok (.if_icmp .ge 7, 3) := by decide +kernel
theorem dX9_isWork_12 : decode cX9_isWork 12 = .ok (.iconst 1, 1) := by decide +kernel
theorem dX9_isWork_13 : decode cX9_isWork 13 = .ok (.goto 4, 3) := by decide +kernel
theorem dX9_isWork_16 : decode cX9_isWork 16 = .ok (.iconst 0, 1) := by decide +kernel
theorem dX9_isWork_17 : decode cX9_isWork 17 = .ok (.ireturn, 1) := by decide +kernel
theorem dX9_work_0 : decode cX9_work 0 = .ok (.iload_n 1, 1) := by decide +kernel
theorem dX9_work_1 : decode cX9_work 1 = .ok (.ifCond .lt 102, 3) := by decide +kernel
theorem dX9_work_4 : decode cX9_work 4 = .ok (.iload_n 2, 1) := by decide +kernel
theorem dX9_work_5 : decode cX9_work 5 = .ok (.ifCond .lt 98, 3) := by decide +kernel
theorem dX9_work_8 : decode cX9_work 8 = .ok (.iload_n 1, 1) := by decide +kernel
theorem dX9_work_9 : decode cX9_work 9 = .ok (.sipush 10000, 3) := by decide +kernel
theorem dX9_work_12 : decode cX9_work 12 = .ok (.idiv, 1) := by decide +kernel
theorem dX9_work_13 : decode cX9_work 13 = .ok (.iconst 0, 1) := by decide +kernel
theorem dX9_work_14 : decode cX9_work 14 = .ok (.bipush 9, 2) := by decide +kernel
theorem dX9_work_16 : decode cX9_work 16 = .ok (.invokestatic 97, 3) := by decide +kernel
theorem dX9_work_19 : decode cX9_work 19 = .ok (.ifCond .eq 84, 3) := by decide +kernel
theorem dX9_work_22 : decode cX9_work 22 = .ok (.iload_n 1, 1) := by decide +kernel
theorem dX9_work_23 : decode cX9_work 23 = .ok (.sipush 1000, 3) := by decide +kernel
theorem dX9_work_26 : decode cX9_work 26 = .ok (.idiv, 1) := by decide +kernel
theorem dX9_work_27 : decode cX9_work 27 = .ok (.bipush 10, 2) := by decide +kernel
theorem dX9_work_29 : decode cX9_work 29 = .ok (.irem, 1) := by decide +kernel
theorem dX9_work_30 : decode cX9_work 30 = .ok (.iconst 0, 1) := by decide +kernel
theorem dX9_work_31 : decode cX9_work 31 = .ok (.iconst 3, 1) := by decide +kernel
theorem dX9_work_32 : decode cX9_work 32 = .ok (.invokestatic 97, 3) := by decide +kernel
theorem dX9_work_35 : decode cX9_work 35 = .ok (.ifCond .eq 68, 3) := by decide +kernel
theorem dX9_work_38 : decode cX9_work 38 = .ok (.iload_n 1, 1) := by decide +kernel
theorem dX9_work_39 : decode cX9_work 39 = .ok (.bipush 100, 2) := by decide +kernel
theorem dX9_work_41 : decode cX9_work 41 = .ok (.idiv, 1) := by decide +kernel
theorem dX9_work_42 : decode cX9_work 42 = .ok (.bipush 10, 2) := by decide +kernel
theorem dX9_work_44 : decode cX9_work 44 = .ok (.irem, 1) := by decide +kernel
theorem dX9_work_45 : decode cX9_work 45 = .ok (.iconst 1, 1) := by decide +kernel
theorem dX9_work_46 : decode cX9_work 46 = .ok (.iconst 4, 1) := by decide +kernel
theorem dX9_work_47 : decode cX9_work 47 = .ok (.invokestatic 97, 3) := by decide +kernel
theorem dX9_work_50 : decode cX9_work 50 = .ok (.ifCond .eq 53, 3) := by decide +kernel
theorem dX9_work_53 : decode cX9_work 53 = .ok (.iload_n 1, 1) := by decide +kernel
theorem dX9_work_54 : decode cX9_work 54 = .ok (.bipush 100, 2) := by decide +kernel
theorem dX9_work_56 : decode cX9_work 56 = .ok (.irem, 1) := by decide +kernel
theorem dX9_work_57 : decode cX9_work 57 = .ok (.iconst 1, 1) := by decide +kernel
theorem dX9_work_58 : decode cX9_work 58 = .ok (.bipush 30, 2) := by decide +kernel
theorem dX9_work_60 : decode cX9_work 60 = .ok (.invokestatic 97, 3) := by decide +kernel
theorem dX9_work_63 : decode cX9_work 63 = .ok (.ifCond .eq 40, 3) := by decide +kernel
theorem dX9_work_66 : decode cX9_work 66 = .ok (.iload_n 2, 1) := by decide +kernel
theorem dX9_work_67 : decode cX9_work 67 = .ok (.sipush 1000, 3) := by decide +kernel
theorem dX9_work_70 : decode cX9_work 70 = .ok (.idiv, 1) := by decide +kernel
theorem dX9_work_71 : decode cX9_work 71 = .ok (.iconst 1, 1) := by decide +kernel
theorem dX9_work_72 : decode cX9_work 72 = .ok (.bipush 9, 2) := by decide +kernel
theorem dX9_work_74 : decode cX9_work 74 = .ok (.invokestatic 97, 3) := by decide +kernel
theorem dX9_work_77 : decode cX9_work 77 = .ok (.ifCond .eq 26, 3) := by decide +kernel
theorem dX9_work_80 : decode cX9_work 80 = .ok (.iload_n 2, 1) := by decide +kernel
theorem dX9_work_81 : decode cX9_work 81 = .ok (.sipush 1000, 3) := by decide +kernel
theorem dX9_work_84 : decode cX9_work 84 = .ok (.irem, 1) := by decide +kernel
theorem dX9_work_85 : decode cX9_work 85 = .ok (.iconst 0, 1) := by decide +kernel
theorem dX9_work_86 : decode cX9_work 86 = .ok (.sipush 399, 3) := by decide +kernel
theorem dX9_work_89 : decode cX9_work 89 = .ok (.invokestatic 97, 3) := by decide +kernel
theorem dX9_work_92 : decode cX9_work 92 = .ok (.ifCond .eq 11, 3) := by decide +kernel
theorem dX9_work_95 : decode cX9_work 95 = .ok (.aload_n 0, 1) := by decide +kernel
theorem dX9_work_96 : decode cX9_work 96 = .ok (.iload_n 3, 1) := by decide +kernel
theorem dX9_work_97 : decode cX9_work 97 = .ok (.invokevirtual 110, 3) := by decide +kernel
theorem dX9_work_100 : decode cX9_work 100 = .ok (.ifCond .ne 5, 3) := by decide +kernel
theorem dX9_work_103 : decode cX9_work 103 = .ok (.iconst (-1), 1) := by decide +kernel
theorem dX9_work_104 : decode cX9_work 104 = .ok (.ireturn, 1) := by decide +kernel
theorem dX9_work_105 : decode cX9_work 105 = .ok (.aload_n 0, 1) := by decide +kernel
theorem dX9_work_106 : decode cX9_work 106 = .ok (.getfield 107, 3) := by decide +kernel
theorem dX9_work_109 : decode cX9_work 109 = .ok (.bipush 60, 2) := by decide +kernel
theorem dX9_work_111 : decode cX9_work 111 = .ok (.if_icmp .ne 6, 3) := by decide +kernel
theorem dX9_work_114 : decode cX9_work 114 = .ok (.bipush (-2), 2) := by decide +kernel
theorem dX9_work_116 : decode cX9_work 116 = .ok (.ireturn, 1) := by decide +kernel
theorem dX9_work_117 : decode cX9_work 117 = .ok (.aload_n 0, 1) := by decide +kernel
theorem dX9_work_118 : decode cX9_work 118 = .ok (.getfield 107, 3) := by decide +kernel
theorem dX9_work_121 : decode cX9_work 121 = .ok (.istore 4, 2) := by decide +kernel
theorem dX9_work_123 : decode cX9_work 123 = .ok (.aload_n 0, 1) := by decide +kernel
theorem dX9_work_124 : decode cX9_work 124 = .ok (.getfield 41, 3) := by decide +kernel
theorem dX9_work_127 : decode cX9_work 127 = .ok (.iload 4, 2) := by decide +kernel
theorem dX9_work_129 : decode cX9_work 129 = .ok (.iload_n 1, 1) := by decide +kernel
theorem dX9_work_130 : decode cX9_work 130 = .ok (.sipush 10000, 3) := by decide +kernel
theorem dX9_work_133 : decode cX9_work 133 = .ok (.idiv, 1) := by decide +kernel
theorem dX9_work_134 : decode cX9_work 134 = .ok (.iastore, 1) := by decide +kernel
theorem dX9_work_135 : decode cX9_work 135 = .ok (.aload_n 0, 1) := by decide +kernel
theorem dX9_work_136 : decode cX9_work 136 = .ok (.getfield 44, 3) := by decide +kernel
theorem dX9_work_139 : decode cX9_work 139 = .ok (.iload 4, 2) := by decide +kernel
theorem dX9_work_141 : decode cX9_work 141 = .ok (.iload_n 1, 1) := by decide +kernel
theorem dX9_work_142 : decode cX9_work 142 = .ok (.sipush 1000, 3) := by decide +kernel
theorem dX9_work_145 : decode cX9_work 145 = .ok (.idiv, 1) := by decide +kernel
theorem dX9_work_146 : decode cX9_work 146 = .ok (.bipush 10, 2) := by decide +kernel
theorem dX9_work_148 : decode cX9_work 148 = .ok (.irem, 1) := by decide +kernel
theorem dX9_work_149 : decode cX9_work 149 = .ok (.iastore, 1) := by decide +kernel
theorem dX9_work_150 : decode cX9_work 150 = .ok (.aload_n 0, 1) := by decide +kernel
theorem dX9_work_151 : decode cX9_work 151 = .ok (.getfield 47, 3) := by decide +kernel
theorem dX9_work_154 : decode cX9_work 154 = .ok (.iload 4, 2) := by decide +kernel
theorem dX9_work_156 : decode cX9_work 156 = .ok (.iload_n 1, 1) := by decide +kernel
theorem dX9_work_157 : decode cX9_work 157 = .ok (.bipush 100, 2) := by decide +kernel
theorem dX9_work_159 : decode cX9_work 159 = .ok (.idiv, 1) := by decide +kernel
theorem dX9_work_160 : decode cX9_work 160 = .ok (.bipush 10, 2) := by decide +kernel
theorem dX9_work_162 : decode cX9_work 162 = .ok (.irem, 1) := by decide +kernel
theorem dX9_work_163 : decode cX9_work 163 = .ok (.iastore, 1) := by decide +kernel
theorem dX9_work_164 : decode cX9_work 164 = .ok (.aload_n 0, 1) := by decide +kernel
theorem dX9_work_165 : decode cX9_work 165 = .ok (.getfield 50, 3) := by decide +kernel
theorem dX9_work_168 : decode cX9_work 168 = .ok (.iload 4, 2) := by decide +kernel
theorem dX9_work_170 : decode cX9_work 170 = .ok (.iload_n 1, 1) := by decide +kernel
theorem dX9_work_171 : decode cX9_work 171 = .ok (.bipush 100, 2) := by decide +kernel
theorem dX9_work_173 : decode cX9_work 173 = .ok (.irem, 1) := by decide +kernel
theorem dX9_work_174 : decode cX9_work 174 = .ok (.iastore, 1) := by decide +kernel
theorem dX9_work_175 : decode cX9_work 175 = .ok (.aload_n 0, 1) := by decide +kernel
theorem dX9_work_176 : decode cX9_work 176 = .ok (.getfield 53, 3) := by decide +kernel
theorem dX9_work_179 : decode cX9_work 179 = .ok (.iload 4, 2) := by decide +kernel
theorem dX9_work_181 : decode cX9_work 181 = .ok (.iload_n 2, 1) := by decide +kernel
theorem dX9_work_182 : decode cX9_work 182 = .ok (.sipush 1000, 3) := by decide +kernel
theorem dX9_work_185 : decode cX9_work 185 = .ok (.idiv, 1) := by decide +kernel
theorem dX9_work_186 : decode cX9_work 186 = .ok (.iastore, 1) := by decide +kernel
theorem dX9_work_187 : decode cX9_work 187 = .ok (.aload_n 0, 1) := by decide +kernel
theorem dX9_work_188 : decode cX9_work 188 = .ok (.getfield 56, 3) := by decide +kernel
theorem dX9_work_191 : decode cX9_work 191 = .ok (.iload 4, 2) := by decide +kernel
theorem dX9_work_193 : decode cX9_work 193 = .ok (.iload_n 2, 1) := by decide +kernel
theorem dX9_work_194 : decode cX9_work 194 = .ok (.sipush 1000, 3) := by decide +kernel
theorem dX9_work_197 : decode cX9_work 197 = .ok (.irem, 1) := by decide +kernel
theorem dX9_work_198 : decode cX9_work 198 = .ok (.iastore, 1) := by decide +kernel
theorem dX9_work_199 : decode cX9_work 199 = .ok (.aload_n 0, 1) := by decide +kernel
theorem dX9_work_200 : decode cX9_work 200 = .ok (.getfield 59, 3) := by decide +kernel
theorem dX9_work_203 : decode cX9_work 203 = .ok (.iload 4, 2) := by decide +kernel
theorem dX9_work_205 : decode cX9_work 205 = .ok (.lconst 1, 1) := by decide +kernel
theorem dX9_work_206 : decode cX9_work 206 = .ok (.iload_n 3, 1) := by decide +kernel
theorem dX9_work_207 : decode cX9_work 207 = .ok (.lshl, 1) := by decide +kernel
theorem dX9_work_208 : decode cX9_work 208 = .ok (.lastore, 1) := by decide +kernel
theorem dX9_work_209 : decode cX9_work 209 = .ok (.aload_n 0, 1) := by decide +kernel
theorem dX9_work_210 : decode cX9_work 210 = .ok (.getfield 63, 3) := by decide +kernel
theorem dX9_work_213 : decode cX9_work 213 = .ok (.iload 4, 2) := by decide +kernel
theorem dX9_work_215 : decode cX9_work 215 = .ok (.iload_n 3, 1) := by decide +kernel
theorem dX9_work_216 : decode cX9_work 216 = .ok (.iastore, 1) := by decide +kernel
theorem dX9_work_217 : decode cX9_work 217 = .ok (.aload_n 0, 1) := by decide +kernel
theorem dX9_work_218 : decode cX9_work 218 = .ok (.getfield 66, 3) := by decide +kernel
theorem dX9_work_221 : decode cX9_work 221 = .ok (.iload 4, 2) := by decide +kernel
theorem dX9_work_223 : decode cX9_work 223 = .ok (.iconst 1, 1) := by decide +kernel
theorem dX9_work_224 : decode cX9_work 224 = .ok (.iastore, 1) := by decide +kernel
theorem dX9_work_225 : decode cX9_work 225 = .ok (.aload_n 0, 1) := by decide +kernel
theorem dX9_work_226 : decode cX9_work 226 = .ok (.getfield 72, 3) := by decide +kernel
theorem dX9_work_229 : decode cX9_work 229 = .ok (.iload 4, 2) := by decide +kernel
theorem dX9_work_231 : decode cX9_work 231 = .ok (.iconst (-1), 1) := by decide +kernel
theorem dX9_work_232 : decode cX9_work 232 = .ok (.iastore, 1) := by decide +kernel
theorem dX9_work_233 : decode cX9_work 233 = .ok (.aload_n 0, 1) := by decide +kernel
theorem dX9_work_234 : decode cX9_work 234 = .ok (.getfield 75, 3) := by decide +kernel
theorem dX9_work_237 : decode cX9_work 237 = .ok (.iload 4, 2) := by decide +kernel
theorem dX9_work_239 : decode cX9_work 239 = .ok (.iconst (-1), 1) := by decide +kernel
theorem dX9_work_240 : decode cX9_work 240 = .ok (.iastore, 1) := by decide +kernel
theorem dX9_work_241 : decode cX9_work 241 = .ok (.aload_n 0, 1) := by decide +kernel
theorem dX9_work_242 : decode cX9_work 242 = .ok (.getfield 81, 3) := by decide +kernel
theorem dX9_work_245 : decode cX9_work 245 = .ok (.iload 4, 2) := by decide +kernel
theorem dX9_work_247 : decode cX9_work 247 = .ok (.iconst (-1), 1) := by decide +kernel
theorem dX9_work_248 : decode cX9_work 248 = .ok (.iastore, 1) := by decide +kernel
theorem dX9_work_249 : decode cX9_work 249 = .ok (.aload_n 0, 1) := by decide +kernel
theorem dX9_work_250 : decode cX9_work 250 = .ok (.dup, 1) := by decide +kernel
theorem dX9_work_251 : decode cX9_work 251 = .ok (.getfield 107, 3) := by decide +kernel
theorem dX9_work_254 : decode cX9_work 254 = .ok (.iconst 1, 1) := by decide +kernel
theorem dX9_work_255 : decode cX9_work 255 = .ok (.iadd, 1) := by decide +kernel
theorem dX9_work_256 : decode cX9_work 256 = .ok (.putfield 107, 3) := by decide +kernel
theorem dX9_work_259 : decode cX9_work 259 = .ok (.iload 4, 2) := by decide +kernel
theorem dX9_work_261 : decode cX9_work 261 = .ok (.ireturn, 1) := by decide +kernel
theorem dX9_isOn_0 : decode cX9_isOn 0 = .ok (.aload_n 0, 1) := by decide +kernel
theorem dX9_isOn_1 : decode cX9_isOn 1 = .ok (.getfield 59, 3) := by decide +kernel
theorem dX9_isOn_4 : decode cX9_isOn 4 = .ok (.iload_n 1, 1) := by decide +kernel
theorem dX9_isOn_5 : decode cX9_isOn 5 = .ok (.laload, 1) := by decide +kernel
theorem dX9_isOn_6 : decode cX9_isOn 6 = .ok (.iload_n 2, 1) := by decide +kernel
theorem dX9_isOn_7 : decode cX9_isOn 7 = .ok (.lshr, 1) := by decide +kernel
theorem dX9_isOn_8 : decode cX9_isOn 8 = .ok (.lconst 1, 1) := by decide +kernel
theorem dX9_isOn_9 : decode cX9_isOn 9 = .ok (.land, 1) := by decide +kernel
theorem dX9_isOn_10 : decode cX9_isOn 10 = .ok (.lconst 1, 1) := by decide +kernel
theorem dX9_isOn_11 : decode cX9_isOn 11 = .ok (.lcmp, 1) := by decide +kernel
theorem dX9_isOn_12 : decode cX9_isOn 12 = .ok (.ifCond .ne 7, 3) := by decide +kernel
theorem dX9_isOn_15 : decode cX9_isOn 15 = .ok (.iconst 1, 1) := by decide +kernel
theorem dX9_isOn_16 : decode cX9_isOn 16 = .ok (.goto 4, 3) := by decide +kernel
theorem dX9_isOn_19 : decode cX9_isOn 19 = .ok (.iconst 0, 1) := by decide +kernel
theorem dX9_isOn_20 : decode cX9_isOn 20 = .ok (.ireturn, 1) := by decide +kernel
theorem dX9_more_0 : decode cX9_more 0 = .ok (.aload_n 0, 1) := by decide +kernel
theorem dX9_more_1 : decode cX9_more 1 = .ok (.iload_n 1, 1) := by decide +kernel
theorem dX9_more_2 : decode cX9_more 2 = .ok (.invokevirtual 114, 3) := by decide +kernel
theorem dX9_more_5 : decode cX9_more 5 = .ok (.ifCond .eq 20, 3) := by decide +kernel
theorem dX9_more_8 : decode cX9_more 8 = .ok (.aload_n 0, 1) := by decide +kernel
theorem dX9_more_9 : decode cX9_more 9 = .ok (.iload_n 2, 1) := by decide +kernel
theorem dX9_more_10 : decode cX9_more 10 = .ok (.invokevirtual 110, 3) := by decide +kernel
theorem dX9_more_13 : decode cX9_more 13 = .ok (.ifCond .eq 12, 3) := by decide +kernel
theorem dX9_more_16 : decode cX9_more 16 = .ok (.aload_n 0, 1) := by decide +kernel
theorem dX9_more_17 : decode cX9_more 17 = .ok (.iload_n 1, 1) := by decide +kernel
theorem dX9_more_18 : decode cX9_more 18 = .ok (.iload_n 2, 1) := by decide +kernel
theorem dX9_more_19 : decode cX9_more 19 = .ok (.invokevirtual 117, 3) := by decide +kernel
theorem dX9_more_22 : decode cX9_more 22 = .ok (.ifCond .eq 5, 3) := by decide +kernel
theorem dX9_more_25 : decode cX9_more 25 = .ok (.iconst (-1), 1) := by decide +kernel
theorem dX9_more_26 : decode cX9_more 26 = .ok (.ireturn, 1) := by decide +kernel
theorem dX9_more_27 : decode cX9_more 27 = .ok (.aload_n 0, 1) := by decide +kernel
theorem dX9_more_28 : decode cX9_more 28 = .ok (.getfield 69, 3) := by decide +kernel
theorem dX9_more_31 : decode cX9_more 31 = .ok (.iload_n 1, 1) := by decide +kernel
theorem dX9_more_32 : decode cX9_more 32 = .ok (.iaload, 1) := by decide +kernel
theorem dX9_more_33 : decode cX9_more 33 = .ok (.ifCond .ne 12, 3) := by decide +kernel
theorem dX9_more_36 : decode cX9_more 36 = .ok (.aload_n 0, 1) := by decide +kernel
theorem dX9_more_37 : decode cX9_more 37 = .ok (.getfield 81, 3) := by decide +kernel
theorem dX9_more_40 : decode cX9_more 40 = .ok (.iload_n 1, 1) := by decide +kernel
theorem dX9_more_41 : decode cX9_more 41 = .ok (.iaload, 1) := by decide +kernel
theorem dX9_more_42 : decode cX9_more 42 = .ok (.ifCond .lt 6, 3) := by decide +kernel
theorem dX9_more_45 : decode cX9_more 45 = .ok (.bipush (-3), 2) := by decide +kernel
theorem dX9_more_47 : decode cX9_more 47 = .ok (.ireturn, 1) := by decide +kernel
theorem dX9_more_48 : decode cX9_more 48 = .ok (.aload_n 0, 1) := by decide +kernel
theorem dX9_more_49 : decode cX9_more 49 = .ok (.getfield 66, 3) := by decide +kernel
theorem dX9_more_52 : decode cX9_more 52 = .ok (.iload_n 1, 1) := by decide +kernel
theorem dX9_more_53 : decode cX9_more 53 = .ok (.iaload, 1) := by decide +kernel
theorem dX9_more_54 : decode cX9_more 54 = .ok (.iconst 4, 1) := by decide +kernel
theorem dX9_more_55 : decode cX9_more 55 = .ok (.if_icmp .ne 6, 3) := by decide +kernel
theorem dX9_more_58 : decode cX9_more 58 = .ok (.bipush (-2), 2) := by decide +kernel
theorem dX9_more_60 : decode cX9_more 60 = .ok (.ireturn, 1) := by decide +kernel
theorem dX9_more_61 : decode cX9_more 61 = .ok (.aload_n 0, 1) := by decide +kernel
theorem dX9_more_62 : decode cX9_more 62 = .ok (.getfield 59, 3) := by decide +kernel
theorem dX9_more_65 : decode cX9_more 65 = .ok (.iload_n 1, 1) := by decide +kernel
theorem dX9_more_66 : decode cX9_more 66 = .ok (.dup2, 1) := by decide +kernel
theorem dX9_more_67 : decode cX9_more 67 = .ok (.laload, 1) := by decide +kernel
theorem dX9_more_68 : decode cX9_more 68 = .ok (.lconst 1, 1) := by decide +kernel
theorem dX9_more_69 : decode cX9_more 69 = .ok (.iload_n 2, 1) := by decide +kernel
theorem dX9_more_70 : decode cX9_more 70 = .ok (.lshl, 1) := by decide +kernel
theorem dX9_more_71 : decode cX9_more 71 = .ok (.lor, 1) := by decide +kernel
theorem dX9_more_72 : decode cX9_more 72 = .ok (.lastore, 1) := by decide +kernel
theorem dX9_more_73 : decode cX9_more 73 = .ok (.aload_n 0, 1) := by decide +kernel
theorem dX9_more_74 : decode cX9_more 74 = .ok (.getfield 66, 3) := by decide +kernel
theorem dX9_more_77 : decode cX9_more 77 = .ok (.iload_n 1, 1) := by decide +kernel
theorem dX9_more_78 : decode cX9_more 78 = .ok (.dup2, 1) := by decide +kernel
theorem dX9_more_79 : decode cX9_more 79 = .ok (.iaload, 1) := by decide +kernel
theorem dX9_more_80 : decode cX9_more 80 = .ok (.iconst 1, 1) := by decide +kernel
theorem dX9_more_81 : decode cX9_more 81 = .ok (.iadd, 1) := by decide +kernel
theorem dX9_more_82 : decode cX9_more 82 = .ok (.iastore, 1) := by decide +kernel
theorem dX9_more_83 : decode cX9_more 83 = .ok (.aload_n 0, 1) := by decide +kernel
theorem dX9_more_84 : decode cX9_more 84 = .ok (.getfield 66, 3) := by decide +kernel
theorem dX9_more_87 : decode cX9_more 87 = .ok (.iload_n 1, 1) := by decide +kernel
theorem dX9_more_88 : decode cX9_more 88 = .ok (.iaload, 1) := by decide +kernel
theorem dX9_more_89 : decode cX9_more 89 = .ok (.ireturn, 1) := by decide +kernel
theorem dX9_hasDays_0 : decode cX9_hasDays 0 = .ok (.aload_n 0, 1) := by decide +kernel
theorem dX9_hasDays_1 : decode cX9_hasDays 1 = .ok (.getfield 69, 3) := by decide +kernel
theorem dX9_hasDays_4 : decode cX9_hasDays 4 = .ok (.iload_n 1, 1) := by decide +kernel
theorem dX9_hasDays_5 : decode cX9_hasDays 5 = .ok (.iaload, 1) := by decide +kernel
theorem dX9_hasDays_6 : decode cX9_hasDays 6 = .ok (.iconst 1, 1) := by decide +kernel
theorem dX9_hasDays_7 : decode cX9_hasDays 7 = .ok (.if_icmp .lt 17, 3) := by decide +kernel
theorem dX9_hasDays_10 : decode cX9_hasDays 10 = .ok (.aload_n 0, 1) := by decide +kernel
theorem dX9_hasDays_11 : decode cX9_hasDays 11 = .ok (.getfield 69, 3) := by decide +kernel
theorem dX9_hasDays_14 : decode cX9_hasDays 14 = .ok (.iload_n 1, 1) := by decide +kernel
theorem dX9_hasDays_15 : decode cX9_hasDays 15 = .ok (.iaload, 1) := by decide +kernel
theorem dX9_hasDays_16 : decode cX9_hasDays 16 = .ok (.iconst 3, 1) := by decide +kernel
theorem dX9_hasDays_17 : decode cX9_hasDays 17 = .ok (.if_icmp .gt 7, 3) := by decide +kernel
theorem dX9_hasDays_20 : decode cX9_hasDays 20 = .ok (.iconst 1, 1) := by decide +kernel
theorem dX9_hasDays_21 : decode cX9_hasDays 21 = .ok (.goto 4, 3) := by decide +kernel
theorem dX9_hasDays_24 : decode cX9_hasDays 24 = .ok (.iconst 0, 1) := by decide +kernel
theorem dX9_hasDays_25 : decode cX9_hasDays 25 = .ok (.ireturn, 1) := by decide +kernel
theorem dX9_counts_0 : decode cX9_counts 0 = .ok (.iload_n 1, 1) := by decide +kernel
theorem dX9_counts_1 : decode cX9_counts 1 = .ok (.iload_n 2, 1) := by decide +kernel
theorem dX9_counts_2 : decode cX9_counts 2 = .ok (.if_icmp .eq 34, 3) := by decide +kernel
theorem dX9_counts_5 : decode cX9_counts 5 = .ok (.aload_n 0, 1) := by decide +kernel
theorem dX9_counts_6 : decode cX9_counts 6 = .ok (.iload_n 1, 1) := by decide +kernel
theorem dX9_counts_7 : decode cX9_counts 7 = .ok (.invokevirtual 121, 3) := by decide +kernel
theorem dX9_counts_10 : decode cX9_counts 10 = .ok (.ifCond .eq 26, 3) := by decide +kernel
theorem dX9_counts_13 : decode cX9_counts 13 = .ok (.iload_n 3, 1) := by decide +kernel
theorem dX9_counts_14 : decode cX9_counts 14 = .ok (.ifCond .eq 18, 3) := by decide +kernel
theorem dX9_counts_17 : decode cX9_counts 17 = .ok (.aload_n 0, 1) := by decide +kernel
theorem dX9_counts_18 : decode cX9_counts 18 = .ok (.getfield 69, 3) := by decide +kernel
theorem dX9_counts_21 : decode cX9_counts 21 = .ok (.iload_n 1, 1) := by decide +kernel
theorem dX9_counts_22 : decode cX9_counts 22 = .ok (.iaload, 1) := by decide +kernel
theorem dX9_counts_23 : decode cX9_counts 23 = .ok (.iconst 1, 1) := by decide +kernel
theorem dX9_counts_24 : decode cX9_counts 24 = .ok (.if_icmp .ne 8, 3) := by decide +kernel
theorem dX9_counts_27 : decode cX9_counts 27 = .ok (.iload_n 1, 1) := by decide +kernel
theorem dX9_counts_28 : decode cX9_counts 28 = .ok (.iload_n 2, 1) := by decide +kernel
theorem dX9_counts_29 : decode cX9_counts 29 = .ok (.if_icmp .ge 7, 3) := by decide +kernel
theorem dX9_counts_32 : decode cX9_counts 32 = .ok (.iconst 1, 1) := by decide +kernel
theorem dX9_counts_33 : decode cX9_counts 33 = .ok (.goto 4, 3) := by decide +kernel
theorem dX9_counts_36 : decode cX9_counts 36 = .ok (.iconst 0, 1) := by decide +kernel
theorem dX9_counts_37 : decode cX9_counts 37 = .ok (.ireturn, 1) := by decide +kernel
theorem dX9_lasts_0 : decode cX9_lasts 0 = .ok (.iload_n 1, 1) := by decide +kernel
theorem dX9_lasts_1 : decode cX9_lasts 1 = .ok (.iload_n 2, 1) := by decide +kernel
theorem dX9_lasts_2 : decode cX9_lasts 2 = .ok (.if_icmp .ne 32, 3) := by decide +kernel
theorem dX9_lasts_5 : decode cX9_lasts 5 = .ok (.iload_n 3, 1) := by decide +kernel
theorem dX9_lasts_6 : decode cX9_lasts 6 = .ok (.ifCond .lt 26, 3) := by decide +kernel
theorem dX9_lasts_9 : decode cX9_lasts 9 = .ok (.iload 5, 2) := by decide +kernel
theorem dX9_lasts_11 : decode cX9_lasts 11 = .ok (.iload_n 3, 1) := by decide +kernel
theorem dX9_lasts_12 : decode cX9_lasts 12 = .ok (.if_icmp .lt 20, 3) := by decide +kernel
theorem dX9_lasts_15 : decode cX9_lasts 15 = .ok (.iload 5, 2) := by decide +kernel
theorem dX9_lasts_17 : decode cX9_lasts 17 = .ok (.iload_n 3, 1) := by decide +kernel
theorem dX9_lasts_18 : decode cX9_lasts 18 = .ok (.aload_n 0, 1) := by decide +kernel
theorem dX9_lasts_19 : decode cX9_lasts 19 = .ok (.getfield 50, 3) := by decide +kernel
theorem dX9_lasts_22 : decode cX9_lasts 22 = .ok (.iload_n 2, 1) := by decide +kernel
theorem dX9_lasts_23 : decode cX9_lasts 23 = .ok (.iaload, 1) := by decide +kernel
theorem dX9_lasts_24 : decode cX9_lasts 24 = .ok (.iadd, 1) := by decide +kernel
theorem dX9_lasts_25 : decode cX9_lasts 25 = .ok (.if_icmp .ge 7, 3) := by decide +kernel
theorem dX9_lasts_28 : decode cX9_lasts 28 = .ok (.iconst 1, 1) := by decide +kernel
theorem dX9_lasts_29 : decode cX9_lasts 29 = .ok (.goto 4, 3) := by decide +kernel
theorem dX9_lasts_32 : decode cX9_lasts 32 = .ok (.iconst 0, 1) := by decide +kernel
theorem dX9_lasts_33 : decode cX9_lasts 33 = .ok (.ireturn, 1) := by decide +kernel
theorem dX9_lasts_34 : decode cX9_lasts 34 = .ok (.aload_n 0, 1) := by decide +kernel
theorem dX9_lasts_35 : decode cX9_lasts 35 = .ok (.iload_n 1, 1) := by decide +kernel
theorem dX9_lasts_36 : decode cX9_lasts 36 = .ok (.iload_n 2, 1) := by decide +kernel
theorem dX9_lasts_37 : decode cX9_lasts 37 = .ok (.iload 4, 2) := by decide +kernel
theorem dX9_lasts_39 : decode cX9_lasts 39 = .ok (.invokevirtual 124, 3) := by decide +kernel
theorem dX9_lasts_42 : decode cX9_lasts 42 = .ok (.ifCond .eq 29, 3) := by decide +kernel
theorem dX9_lasts_45 : decode cX9_lasts 45 = .ok (.iload 5, 2) := by decide +kernel
theorem dX9_lasts_47 : decode cX9_lasts 47 = .ok (.aload_n 0, 1) := by decide +kernel
theorem dX9_lasts_48 : decode cX9_lasts 48 = .ok (.getfield 72, 3) := by decide +kernel
theorem dX9_lasts_51 : decode cX9_lasts 51 = .ok (.iload_n 1, 1) := by decide +kernel
theorem dX9_lasts_52 : decode cX9_lasts 52 = .ok (.iaload, 1) := by decide +kernel
theorem dX9_lasts_53 : decode cX9_lasts 53 = .ok (.if_icmp .lt 18, 3) := by decide +kernel
theorem dX9_lasts_56 : decode cX9_lasts 56 = .ok (.iload 5, 2) := by decide +kernel
theorem dX9_lasts_58 : decode cX9_lasts 58 = .ok (.aload_n 0, 1) := by decide +kernel
theorem dX9_lasts_59 : decode cX9_lasts 59 = .ok (.getfield 75, 3) := by decide +kernel
theorem dX9_lasts_62 : decode cX9_lasts 62 = .ok (.iload_n 1, 1) := by decide +kernel
theorem dX9_lasts_63 : decode cX9_lasts 63 = .ok (.iaload, 1) := by decide +kernel
theorem dX9_lasts_64 : decode cX9_lasts 64 = .ok (.if_icmp .gt 7, 3) := by decide +kernel
theorem dX9_lasts_67 : decode cX9_lasts 67 = .ok (.iconst 1, 1) := by decide +kernel
theorem dX9_lasts_68 : decode cX9_lasts 68 = .ok (.goto 4, 3) := by decide +kernel
theorem dX9_lasts_71 : decode cX9_lasts 71 = .ok (.iconst 0, 1) := by decide +kernel
theorem dX9_lasts_72 : decode cX9_lasts 72 = .ok (.ireturn, 1) := by decide +kernel
theorem dX9_taken_0 : decode cX9_taken 0 = .ok (.iconst 0, 1) := by decide +kernel
theorem dX9_taken_1 : decode cX9_taken 1 = .ok (.istore 6, 2) := by decide +kernel
theorem dX9_taken_3 : decode cX9_taken 3 = .ok (.iconst 0, 1) := by decide +kernel
theorem dX9_taken_4 : decode cX9_taken 4 = .ok (.istore 7, 2) := by decide +kernel
theorem dX9_taken_6 : decode cX9_taken 6 = .ok (.iload 7, 2) := by decide +kernel
theorem dX9_taken_8 : decode cX9_taken 8 = .ok (.aload_n 0, 1) := by decide +kernel
theorem dX9_taken_9 : decode cX9_taken 9 = .ok (.getfield 107, 3) := by decide +kernel
theorem dX9_taken_12 : decode cX9_taken 12 = .ok (.if_icmp .ge 154, 3) := by decide +kernel
theorem dX9_taken_15 : decode cX9_taken 15 = .ok (.aload_n 0, 1) := by decide +kernel
theorem dX9_taken_16 : decode cX9_taken 16 = .ok (.iload 7, 2) := by decide +kernel
theorem dX9_taken_18 : decode cX9_taken 18 = .ok (.iload_n 1, 1) := by decide +kernel
theorem dX9_taken_19 : decode cX9_taken 19 = .ok (.invokevirtual 117, 3) := by decide +kernel
theorem dX9_taken_22 : decode cX9_taken 22 = .ok (.ifCond .eq 138, 3) := by decide +kernel
theorem dX9_taken_25 : decode cX9_taken 25 = .ok (.aload_n 0, 1) := by decide +kernel
theorem dX9_taken_26 : decode cX9_taken 26 = .ok (.iload 7, 2) := by decide +kernel
theorem dX9_taken_28 : decode cX9_taken 28 = .ok (.iload_n 2, 1) := by decide +kernel
theorem dX9_taken_29 : decode cX9_taken 29 = .ok (.iload_n 3, 1) := by decide +kernel
theorem dX9_taken_30 : decode cX9_taken 30 = .ok (.iload 4, 2) := by decide +kernel
theorem dX9_taken_32 : decode cX9_taken 32 = .ok (.iload 5, 2) := by decide +kernel
theorem dX9_taken_34 : decode cX9_taken 34 = .ok (.invokevirtual 128, 3) := by decide +kernel
theorem dX9_taken_37 : decode cX9_taken 37 = .ok (.ifCond .eq 123, 3) := by decide +kernel
theorem dX9_taken_40 : decode cX9_taken 40 = .ok (.aload_n 0, 1) := by decide +kernel
theorem dX9_taken_41 : decode cX9_taken 41 = .ok (.getfield 81, 3) := by decide +kernel
theorem dX9_taken_44 : decode cX9_taken 44 = .ok (.iload 7, 2) := by decide +kernel
theorem dX9_taken_46 : decode cX9_taken 46 = .ok (.iaload, 1) := by decide +kernel
theorem dX9_taken_47 : decode cX9_taken 47 = .ok (.istore 8, 2) := by decide +kernel
theorem dX9_taken_49 : decode cX9_taken 49 = .ok (.iload 8, 2) := by decide +kernel
theorem dX9_taken_51 : decode cX9_taken 51 = .ok (.ifCond .lt 32, 3) := by decide +kernel
theorem dX9_taken_54 : decode cX9_taken 54 = .ok (.aload_n 0, 1) := by decide +kernel
theorem dX9_taken_55 : decode cX9_taken 55 = .ok (.iload 8, 2) := by decide +kernel
theorem dX9_taken_57 : decode cX9_taken 57 = .ok (.iload_n 1, 1) := by decide +kernel
theorem dX9_taken_58 : decode cX9_taken 58 = .ok (.invokevirtual 117, 3) := by decide +kernel
theorem dX9_taken_61 : decode cX9_taken 61 = .ok (.ifCond .eq 22, 3) := by decide +kernel
theorem dX9_taken_64 : decode cX9_taken 64 = .ok (.aload_n 0, 1) := by decide +kernel
theorem dX9_taken_65 : decode cX9_taken 65 = .ok (.iload 8, 2) := by decide +kernel
theorem dX9_taken_67 : decode cX9_taken 67 = .ok (.iload_n 2, 1) := by decide +kernel
theorem dX9_taken_68 : decode cX9_taken 68 = .ok (.iload_n 3, 1) := by decide +kernel
theorem dX9_taken_69 : decode cX9_taken 69 = .ok (.iload 4, 2) := by decide +kernel
theorem dX9_taken_71 : decode cX9_taken 71 = .ok (.iload 5, 2) := by decide +kernel
theorem dX9_taken_73 : decode cX9_taken 73 = .ok (.invokevirtual 128, 3) := by decide +kernel
theorem dX9_taken_76 : decode cX9_taken 76 = .ok (.ifCond .eq 7, 3) := by decide +kernel
theorem dX9_taken_79 : decode cX9_taken 79 = .ok (.iconst 1, 1) := by decide +kernel
theorem dX9_taken_80 : decode cX9_taken 80 = .ok (.goto 4, 3) := by decide +kernel
theorem dX9_taken_83 : decode cX9_taken 83 = .ok (.iconst 0, 1) := by decide +kernel
theorem dX9_taken_84 : decode cX9_taken 84 = .ok (.istore 9, 2) := by decide +kernel
theorem dX9_taken_86 : decode cX9_taken 86 = .ok (.iload 9, 2) := by decide +kernel
theorem dX9_taken_88 : decode cX9_taken 88 = .ok (.ifCond .eq 48, 3) := by decide +kernel
theorem dX9_taken_91 : decode cX9_taken 91 = .ok (.aload_n 0, 1) := by decide +kernel
theorem dX9_taken_92 : decode cX9_taken 92 = .ok (.getfield 47, 3) := by decide +kernel
theorem dX9_taken_95 : decode cX9_taken 95 = .ok (.iload 8, 2) := by decide +kernel
theorem dX9_taken_97 : decode cX9_taken 97 = .ok (.iaload, 1) := by decide +kernel
theorem dX9_taken_98 : decode cX9_taken 98 = .ok (.aload_n 0, 1) := by decide +kernel
theorem dX9_taken_99 : decode cX9_taken 99 = .ok (.getfield 47, 3) := by decide +kernel
theorem dX9_taken_102 : decode cX9_taken 102 = .ok (.iload 7, 2) := by decide +kernel
theorem dX9_taken_104 : decode cX9_taken 104 = .ok (.iaload, 1) := by decide +kernel
theorem dX9_taken_105 : decode cX9_taken 105 = .ok (.if_icmp .gt 27, 3) := by decide +kernel
theorem dX9_taken_108 : decode cX9_taken 108 = .ok (.aload_n 0, 1) := by decide +kernel
theorem dX9_taken_109 : decode cX9_taken 109 = .ok (.getfield 47, 3) := by decide +kernel
theorem dX9_taken_112 : decode cX9_taken 112 = .ok (.iload 8, 2) := by decide +kernel
theorem dX9_taken_114 : decode cX9_taken 114 = .ok (.iaload, 1) := by decide +kernel
theorem dX9_taken_115 : decode cX9_taken 115 = .ok (.aload_n 0, 1) := by decide +kernel
theorem dX9_taken_116 : decode cX9_taken 116 = .ok (.getfield 47, 3) := by decide +kernel
theorem dX9_taken_119 : decode cX9_taken 119 = .ok (.iload 7, 2) := by decide +kernel
theorem dX9_taken_121 : decode cX9_taken 121 = .ok (.iaload, 1) := by decide +kernel
theorem dX9_taken_122 : decode cX9_taken 122 = .ok (.if_icmp .ne 14, 3) := by decide +kernel
theorem dX9_taken_125 : decode cX9_taken 125 = .ok (.iload 8, 2) := by decide +kernel
theorem dX9_taken_127 : decode cX9_taken 127 = .ok (.iload 7, 2) := by decide +kernel
theorem dX9_taken_129 : decode cX9_taken 129 = .ok (.if_icmp .ge 7, 3) := by decide +kernel
theorem dX9_taken_132 : decode cX9_taken 132 = .ok (.iconst 1, 1) := by decide +kernel
theorem dX9_taken_133 : decode cX9_taken 133 = .ok (.goto 4, 3) := by decide +kernel
theorem dX9_taken_136 : decode cX9_taken 136 = .ok (.iconst 0, 1) := by decide +kernel
theorem dX9_taken_137 : decode cX9_taken 137 = .ok (.istore 10, 2) := by decide +kernel
theorem dX9_taken_139 : decode cX9_taken 139 = .ok (.iload 6, 2) := by decide +kernel
theorem dX9_taken_141 : decode cX9_taken 141 = .ok (.iload 10, 2) := by decide +kernel
theorem dX9_taken_143 : decode cX9_taken 143 = .ok (.ifCond .eq 7, 3) := by decide +kernel
theorem dX9_taken_146 : decode cX9_taken 146 = .ok (.iconst 0, 1) := by decide +kernel
theorem dX9_taken_147 : decode cX9_taken 147 = .ok (.goto 10, 3) := by decide +kernel
theorem dX9_taken_150 : decode cX9_taken 150 = .ok (.aload_n 0, 1) := by decide +kernel
theorem dX9_taken_151 : decode cX9_taken 151 = .ok (.getfield 47, 3) := by decide +kernel
theorem dX9_taken_154 : decode cX9_taken 154 = .ok (.iload 7, 2) := by decide +kernel
theorem dX9_taken_156 : decode cX9_taken 156 = .ok (.iaload, 1) := by decide +kernel
theorem dX9_taken_157 : decode cX9_taken 157 = .ok (.iadd, 1) := by decide +kernel
theorem dX9_taken_158 : decode cX9_taken 158 = .ok (.istore 6, 2) := by decide +kernel
theorem dX9_taken_160 : decode cX9_taken 160 = .ok (.iinc 7 1, 3) := by decide +kernel
theorem dX9_taken_163 : decode cX9_taken 163 = .ok (.goto (-157), 3) := by decide +kernel
theorem dX9_taken_166 : decode cX9_taken 166 = .ok (.iload 6, 2) := by decide +kernel
theorem dX9_taken_168 : decode cX9_taken 168 = .ok (.ireturn, 1) := by decide +kernel
theorem dX9_shutOn_0 : decode cX9_shutOn 0 = .ok (.lconst 0, 1) := by decide +kernel
theorem dX9_shutOn_1 : decode cX9_shutOn 1 = .ok (.lstore 5, 2) := by decide +kernel
theorem dX9_shutOn_3 : decode cX9_shutOn 3 = .ok (.iconst 0, 1) := by decide +kernel
theorem dX9_shutOn_4 : decode cX9_shutOn 4 = .ok (.istore 7, 2) := by decide +kernel
theorem dX9_shutOn_6 : decode cX9_shutOn 6 = .ok (.iload 7, 2) := by decide +kernel
theorem dX9_shutOn_8 : decode cX9_shutOn 8 = .ok (.aload_n 0, 1) := by decide +kernel
theorem dX9_shutOn_9 : decode cX9_shutOn 9 = .ok (.getfield 101, 3) := by decide +kernel
theorem dX9_shutOn_12 : decode cX9_shutOn 12 = .ok (.if_icmp .ge 43, 3) := by decide +kernel
theorem dX9_shutOn_15 : decode cX9_shutOn 15 = .ok (.lload 5, 2) := by decide +kernel
theorem dX9_shutOn_17 : decode cX9_shutOn 17 = .ok (.aload_n 0, 1) := by decide +kernel
theorem dX9_shutOn_18 : decode cX9_shutOn 18 = .ok (.iload 7, 2) := by decide +kernel
theorem dX9_shutOn_20 : decode cX9_shutOn 20 = .ok (.iload_n 1, 1) := by decide +kernel
theorem dX9_shutOn_21 : decode cX9_shutOn 21 = .ok (.iload_n 2, 1) := by decide +kernel
theorem dX9_shutOn_22 : decode cX9_shutOn 22 = .ok (.iload_n 3, 1) := by decide +kernel
theorem dX9_shutOn_23 : decode cX9_shutOn 23 = .ok (.iload 4, 2) := by decide +kernel
theorem dX9_shutOn_25 : decode cX9_shutOn 25 = .ok (.invokevirtual 132, 3) := by decide +kernel
theorem dX9_shutOn_28 : decode cX9_shutOn 28 = .ok (.aload_n 0, 1) := by decide +kernel
theorem dX9_shutOn_29 : decode cX9_shutOn 29 = .ok (.getfield 16, 3) := by decide +kernel
theorem dX9_shutOn_32 : decode cX9_shutOn 32 = .ok (.iload 7, 2) := by decide +kernel
theorem dX9_shutOn_34 : decode cX9_shutOn 34 = .ok (.iaload, 1) := by decide +kernel
theorem dX9_shutOn_35 : decode cX9_shutOn 35 = .ok (.if_icmp .lt 10, 3) := by decide +kernel
theorem dX9_shutOn_38 : decode cX9_shutOn 38 = .ok (.lconst 1, 1) := by decide +kernel
theorem dX9_shutOn_39 : decode cX9_shutOn 39 = .ok (.iload 7, 2) := by decide +kernel
theorem dX9_shutOn_41 : decode cX9_shutOn 41 = .ok (.lshl, 1) := by decide +kernel
theorem dX9_shutOn_42 : decode cX9_shutOn 42 = .ok (.goto 4, 3) := by decide +kernel
theorem dX9_shutOn_45 : decode cX9_shutOn 45 = .ok (.lconst 0, 1) := by decide +kernel
theorem dX9_shutOn_46 : decode cX9_shutOn 46 = .ok (.lor, 1) := by decide +kernel
theorem dX9_shutOn_47 : decode cX9_shutOn 47 = .ok (.lstore 5, 2) := by decide +kernel
theorem dX9_shutOn_49 : decode cX9_shutOn 49 = .ok (.iinc 7 1, 3) := by decide +kernel
theorem dX9_shutOn_52 : decode cX9_shutOn 52 = .ok (.goto (-46), 3) := by decide +kernel
theorem dX9_shutOn_55 : decode cX9_shutOn 55 = .ok (.lload 5, 2) := by decide +kernel
theorem dX9_shutOn_57 : decode cX9_shutOn 57 = .ok (.lreturn, 1) := by decide +kernel
theorem dX9_minutesOf_0 : decode cX9_minutesOf 0 = .ok (.iconst 0, 1) := by decide +kernel
theorem dX9_minutesOf_1 : decode cX9_minutesOf 1 = .ok (.istore 5, 2) := by decide +kernel
theorem dX9_minutesOf_3 : decode cX9_minutesOf 3 = .ok (.iload 5, 2) := by decide +kernel
theorem dX9_minutesOf_5 : decode cX9_minutesOf 5 = .ok (.bipush 20, 2) := by decide +kernel
theorem dX9_minutesOf_7 : decode cX9_minutesOf 7 = .ok (.if_icmp .ge 28, 3) := by decide +kernel
theorem dX9_minutesOf_10 : decode cX9_minutesOf 10 = .ok (.aload_n 0, 1) := by decide +kernel
theorem dX9_minutesOf_11 : decode cX9_minutesOf 11 = .ok (.getfield 94, 3) := by decide +kernel
theorem dX9_minutesOf_14 : decode cX9_minutesOf 14 = .ok (.iload 5, 2) := by decide +kernel
theorem dX9_minutesOf_16 : decode cX9_minutesOf 16 = .ok (.iload 5, 2) := by decide +kernel
theorem dX9_minutesOf_18 : decode cX9_minutesOf 18 = .ok (.iload_n 1, 1) := by decide +kernel
theorem dX9_minutesOf_19 : decode cX9_minutesOf 19 = .ok (.if_icmp .ne 7, 3) := by decide +kernel
theorem dX9_minutesOf_22 : decode cX9_minutesOf 22 = .ok (.iconst 0, 1) := by decide +kernel
theorem dX9_minutesOf_23 : decode cX9_minutesOf 23 = .ok (.goto 5, 3) := by decide +kernel
theorem dX9_minutesOf_26 : decode cX9_minutesOf 26 = .ok (.ldc 136, 2) := by decide +kernel
theorem dX9_minutesOf_28 : decode cX9_minutesOf 28 = .ok (.iastore, 1) := by decide +kernel
theorem dX9_minutesOf_29 : decode cX9_minutesOf 29 = .ok (.iinc 5 1, 3) := by decide +kernel
theorem dX9_minutesOf_32 : decode cX9_minutesOf 32 = .ok (.goto (-29), 3) := by decide +kernel
theorem dX9_minutesOf_35 : decode cX9_minutesOf 35 = .ok (.iconst 1, 1) := by decide +kernel
theorem dX9_minutesOf_36 : decode cX9_minutesOf 36 = .ok (.istore 5, 2) := by decide +kernel
theorem dX9_minutesOf_38 : decode cX9_minutesOf 38 = .ok (.iload 5, 2) := by decide +kernel
theorem dX9_minutesOf_40 : decode cX9_minutesOf 40 = .ok (.ifCond .eq 235, 3) := by decide +kernel
theorem dX9_minutesOf_43 : decode cX9_minutesOf 43 = .ok (.iconst 0, 1) := by decide +kernel
theorem dX9_minutesOf_44 : decode cX9_minutesOf 44 = .ok (.istore 5, 2) := by decide +kernel
theorem dX9_minutesOf_46 : decode cX9_minutesOf 46 = .ok (.iconst 0, 1) := by decide +kernel
theorem dX9_minutesOf_47 : decode cX9_minutesOf 47 = .ok (.istore 6, 2) := by decide +kernel
theorem dX9_minutesOf_49 : decode cX9_minutesOf 49 = .ok (.iload 6, 2) := by decide +kernel
theorem dX9_minutesOf_51 : decode cX9_minutesOf 51 = .ok (.aload_n 0, 1) := by decide +kernel
theorem dX9_minutesOf_52 : decode cX9_minutesOf 52 = .ok (.getfield 101, 3) := by decide +kernel
theorem dX9_minutesOf_55 : decode cX9_minutesOf 55 = .ok (.if_icmp .ge 217, 3) := by decide +kernel
theorem dX9_minutesOf_58 : decode cX9_minutesOf 58 = .ok (.lload_n 3, 1) := by decide +kernel
theorem dX9_minutesOf_59 : decode cX9_minutesOf 59 = .ok (.iload 6, 2) := by decide +kernel
theorem dX9_minutesOf_61 : decode cX9_minutesOf 61 = .ok (.lshr, 1) := by decide +kernel
theorem dX9_minutesOf_62 : decode cX9_minutesOf 62 = .ok (.lconst 1, 1) := by decide +kernel
theorem dX9_minutesOf_63 : decode cX9_minutesOf 63 = .ok (.land, 1) := by decide +kernel
theorem dX9_minutesOf_64 : decode cX9_minutesOf 64 = .ok (.lconst 0, 1) := by decide +kernel
theorem dX9_minutesOf_65 : decode cX9_minutesOf 65 = .ok (.lcmp, 1) := by decide +kernel
theorem dX9_minutesOf_66 : decode cX9_minutesOf 66 = .ok (.ifCond .ne 200, 3) := by decide +kernel
theorem dX9_minutesOf_69 : decode cX9_minutesOf 69 = .ok (.aload_n 0, 1) := by decide +kernel
theorem dX9_minutesOf_70 : decode cX9_minutesOf 70 = .ok (.getfield 94, 3) := by decide +kernel
theorem dX9_minutesOf_73 : decode cX9_minutesOf 73 = .ok (.aload_n 0, 1) := by decide +kernel
theorem dX9_minutesOf_74 : decode cX9_minutesOf 74 = .ok (.getfield 9, 3) := by decide +kernel
theorem dX9_minutesOf_77 : decode cX9_minutesOf 77 = .ok (.iload 6, 2) := by decide +kernel
theorem dX9_minutesOf_79 : decode cX9_minutesOf 79 = .ok (.iaload, 1) := by decide +kernel
theorem dX9_minutesOf_80 : decode cX9_minutesOf 80 = .ok (.iaload, 1) := by decide +kernel
theorem dX9_minutesOf_81 : decode cX9_minutesOf 81 = .ok (.aload_n 0, 1) := by decide +kernel
theorem dX9_minutesOf_82 : decode cX9_minutesOf 82 = .ok (.getfield 94, 3) := by decide +kernel
theorem dX9_minutesOf_85 : decode cX9_minutesOf 85 = .ok (.aload_n 0, 1) := by decide +kernel
theorem dX9_minutesOf_86 : decode cX9_minutesOf 86 = .ok (.getfield 13, 3) := by decide +kernel
theorem dX9_minutesOf_89 : decode cX9_minutesOf 89 = .ok (.iload 6, 2) := by decide +kernel
theorem dX9_minutesOf_91 : decode cX9_minutesOf 91 = .ok (.iaload, 1) := by decide +kernel
theorem dX9_minutesOf_92 : decode cX9_minutesOf 92 = .ok (.iaload, 1) := by decide +kernel
theorem dX9_minutesOf_93 : decode cX9_minutesOf 93 = .ok (.if_icmp .ge 18, 3) := by decide +kernel
theorem dX9_minutesOf_96 : decode cX9_minutesOf 96 = .ok (.aload_n 0, 1) := by decide +kernel
theorem dX9_minutesOf_97 : decode cX9_minutesOf 97 = .ok (.getfield 94, 3) := by decide +kernel
theorem dX9_minutesOf_100 : decode cX9_minutesOf 100 = .ok (.aload_n 0, 1) := by decide +kernel
theorem dX9_minutesOf_101 : decode cX9_minutesOf 101 = .ok (.getfield 9, 3) := by decide +kernel
theorem dX9_minutesOf_104 : decode cX9_minutesOf 104 = .ok (.iload 6, 2) := by decide +kernel
theorem dX9_minutesOf_106 : decode cX9_minutesOf 106 = .ok (.iaload, 1) := by decide +kernel
theorem dX9_minutesOf_107 : decode cX9_minutesOf 107 = .ok (.iaload, 1) := by decide +kernel
theorem dX9_minutesOf_108 : decode cX9_minutesOf 108 = .ok (.goto 15, 3) := by decide +kernel
theorem dX9_minutesOf_111 : decode cX9_minutesOf 111 = .ok (.aload_n 0, 1) := by decide +kernel
theorem dX9_minutesOf_112 : decode cX9_minutesOf 112 = .ok (.getfield 94, 3) := by decide +kernel
theorem dX9_minutesOf_115 : decode cX9_minutesOf 115 = .ok (.aload_n 0, 1) := by decide +kernel
theorem dX9_minutesOf_116 : decode cX9_minutesOf 116 = .ok (.getfield 13, 3) := by decide +kernel
theorem dX9_minutesOf_119 : decode cX9_minutesOf 119 = .ok (.iload 6, 2) := by decide +kernel
theorem dX9_minutesOf_121 : decode cX9_minutesOf 121 = .ok (.iaload, 1) := by decide +kernel
theorem dX9_minutesOf_122 : decode cX9_minutesOf 122 = .ok (.iaload, 1) := by decide +kernel
theorem dX9_minutesOf_123 : decode cX9_minutesOf 123 = .ok (.istore 7, 2) := by decide +kernel
theorem dX9_minutesOf_125 : decode cX9_minutesOf 125 = .ok (.iload 7, 2) := by decide +kernel
theorem dX9_minutesOf_127 : decode cX9_minutesOf 127 = .ok (.aload_n 0, 1) := by decide +kernel
theorem dX9_minutesOf_128 : decode cX9_minutesOf 128 = .ok (.getfield 22, 3) := by decide +kernel
theorem dX9_minutesOf_131 : decode cX9_minutesOf 131 = .ok (.iload 6, 2) := by decide +kernel
theorem dX9_minutesOf_133 : decode cX9_minutesOf 133 = .ok (.iaload, 1) := by decide +kernel
theorem dX9_minutesOf_134 : decode cX9_minutesOf 134 = .ok (.iadd, 1) := by decide +kernel
theorem dX9_minutesOf_135 : decode cX9_minutesOf 135 = .ok (.istore 8, 2) := by decide +kernel
theorem dX9_minutesOf_137 : decode cX9_minutesOf 137 = .ok (.aload_n 0, 1) := by decide +kernel
theorem dX9_minutesOf_138 : decode cX9_minutesOf 138 = .ok (.getfield 94, 3) := by decide +kernel
theorem dX9_minutesOf_141 : decode cX9_minutesOf 141 = .ok (.aload_n 0, 1) := by decide +kernel
theorem dX9_minutesOf_142 : decode cX9_minutesOf 142 = .ok (.getfield 9, 3) := by decide +kernel
theorem dX9_minutesOf_145 : decode cX9_minutesOf 145 = .ok (.iload 6, 2) := by decide +kernel
theorem dX9_minutesOf_147 : decode cX9_minutesOf 147 = .ok (.iaload, 1) := by decide +kernel
theorem dX9_minutesOf_148 : decode cX9_minutesOf 148 = .ok (.iaload, 1) := by decide +kernel
theorem dX9_minutesOf_149 : decode cX9_minutesOf 149 = .ok (.iload 8, 2) := by decide +kernel
theorem dX9_minutesOf_151 : decode cX9_minutesOf 151 = .ok (.if_icmp .gt 20, 3) := by decide +kernel
theorem dX9_minutesOf_154 : decode cX9_minutesOf 154 = .ok (.aload_n 0, 1) := by decide +kernel
theorem dX9_minutesOf_155 : decode cX9_minutesOf 155 = .ok (.getfield 94, 3) := by decide +kernel
theorem dX9_minutesOf_158 : decode cX9_minutesOf 158 = .ok (.aload_n 0, 1) := by decide +kernel
theorem dX9_minutesOf_159 : decode cX9_minutesOf 159 = .ok (.getfield 13, 3) := by decide +kernel
theorem dX9_minutesOf_162 : decode cX9_minutesOf 162 = .ok (.iload 6, 2) := by decide +kernel
theorem dX9_minutesOf_164 : decode cX9_minutesOf 164 = .ok (.iaload, 1) := by decide +kernel
theorem dX9_minutesOf_165 : decode cX9_minutesOf 165 = .ok (.iaload, 1) := by decide +kernel
theorem dX9_minutesOf_166 : decode cX9_minutesOf 166 = .ok (.iload 8, 2) := by decide +kernel
theorem dX9_minutesOf_168 : decode cX9_minutesOf 168 = .ok (.if_icmp .le 98, 3) := by decide +kernel
theorem dX9_minutesOf_171 : decode cX9_minutesOf 171 = .ok (.aload_n 0, 1) := by decide +kernel
theorem dX9_minutesOf_172 : decode cX9_minutesOf 172 = .ok (.getfield 94, 3) := by decide +kernel
theorem dX9_minutesOf_175 : decode cX9_minutesOf 175 = .ok (.aload_n 0, 1) := by decide +kernel
theorem dX9_minutesOf_176 : decode cX9_minutesOf 176 = .ok (.getfield 9, 3) := by decide +kernel
theorem dX9_minutesOf_179 : decode cX9_minutesOf 179 = .ok (.iload 6, 2) := by decide +kernel
theorem dX9_minutesOf_181 : decode cX9_minutesOf 181 = .ok (.iaload, 1) := by decide +kernel
theorem dX9_minutesOf_182 : decode cX9_minutesOf 182 = .ok (.aload_n 0, 1) := by decide +kernel
theorem dX9_minutesOf_183 : decode cX9_minutesOf 183 = .ok (.getfield 94, 3) := by decide +kernel
theorem dX9_minutesOf_186 : decode cX9_minutesOf 186 = .ok (.aload_n 0, 1) := by decide +kernel
theorem dX9_minutesOf_187 : decode cX9_minutesOf 187 = .ok (.getfield 9, 3) := by decide +kernel
theorem dX9_minutesOf_190 : decode cX9_minutesOf 190 = .ok (.iload 6, 2) := by decide +kernel
theorem dX9_minutesOf_192 : decode cX9_minutesOf 192 = .ok (.iaload, 1) := by decide +kernel
theorem dX9_minutesOf_193 : decode cX9_minutesOf 193 = .ok (.iaload, 1) := by decide +kernel
theorem dX9_minutesOf_194 : decode cX9_minutesOf 194 = .ok (.iload 8, 2) := by decide +kernel
theorem dX9_minutesOf_196 : decode cX9_minutesOf 196 = .ok (.if_icmp .le 8, 3) := by decide +kernel
theorem dX9_minutesOf_199 : decode cX9_minutesOf 199 = .ok (.iload 8, 2) := by decide +kernel
theorem dX9_minutesOf_201 : decode cX9_minutesOf 201 = .ok (.goto 15, 3) := by decide +kernel
theorem dX9_minutesOf_204 : decode cX9_minutesOf 204 = .ok (.aload_n 0, 1) := by decide +kernel
theorem dX9_minutesOf_205 : decode cX9_minutesOf 205 = .ok (.getfield 94, 3) := by decide +kernel
theorem dX9_minutesOf_208 : decode cX9_minutesOf 208 = .ok (.aload_n 0, 1) := by decide +kernel
theorem dX9_minutesOf_209 : decode cX9_minutesOf 209 = .ok (.getfield 9, 3) := by decide +kernel
theorem dX9_minutesOf_212 : decode cX9_minutesOf 212 = .ok (.iload 6, 2) := by decide +kernel
theorem dX9_minutesOf_214 : decode cX9_minutesOf 214 = .ok (.iaload, 1) := by decide +kernel
theorem dX9_minutesOf_215 : decode cX9_minutesOf 215 = .ok (.iaload, 1) := by decide +kernel
theorem dX9_minutesOf_216 : decode cX9_minutesOf 216 = .ok (.iastore, 1) := by decide +kernel
theorem dX9_minutesOf_217 : decode cX9_minutesOf 217 = .ok (.aload_n 0, 1) := by decide +kernel
theorem dX9_minutesOf_218 : decode cX9_minutesOf 218 = .ok (.getfield 94, 3) := by decide +kernel
theorem dX9_minutesOf_221 : decode cX9_minutesOf 221 = .ok (.aload_n 0, 1) := by decide +kernel
theorem dX9_minutesOf_222 : decode cX9_minutesOf 222 = .ok (.getfield 13, 3) := by decide +kernel
theorem dX9_minutesOf_225 : decode cX9_minutesOf 225 = .ok (.iload 6, 2) := by decide +kernel
theorem dX9_minutesOf_227 : decode cX9_minutesOf 227 = .ok (.iaload, 1) := by decide +kernel
theorem dX9_minutesOf_228 : decode cX9_minutesOf 228 = .ok (.aload_n 0, 1) := by decide +kernel
theorem dX9_minutesOf_229 : decode cX9_minutesOf 229 = .ok (.getfield 94, 3) := by decide +kernel
theorem dX9_minutesOf_232 : decode cX9_minutesOf 232 = .ok (.aload_n 0, 1) := by decide +kernel
theorem dX9_minutesOf_233 : decode cX9_minutesOf 233 = .ok (.getfield 13, 3) := by decide +kernel
theorem dX9_minutesOf_236 : decode cX9_minutesOf 236 = .ok (.iload 6, 2) := by decide +kernel
theorem dX9_minutesOf_238 : decode cX9_minutesOf 238 = .ok (.iaload, 1) := by decide +kernel
theorem dX9_minutesOf_239 : decode cX9_minutesOf 239 = .ok (.iaload, 1) := by decide +kernel
theorem dX9_minutesOf_240 : decode cX9_minutesOf 240 = .ok (.iload 8, 2) := by decide +kernel
theorem dX9_minutesOf_242 : decode cX9_minutesOf 242 = .ok (.if_icmp .le 8, 3) := by decide +kernel
theorem dX9_minutesOf_245 : decode cX9_minutesOf 245 = .ok (.iload 8, 2) := by decide +kernel
theorem dX9_minutesOf_247 : decode cX9_minutesOf 247 = .ok (.goto 15, 3) := by decide +kernel
theorem dX9_minutesOf_250 : decode cX9_minutesOf 250 = .ok (.aload_n 0, 1) := by decide +kernel
theorem dX9_minutesOf_251 : decode cX9_minutesOf 251 = .ok (.getfield 94, 3) := by decide +kernel
theorem dX9_minutesOf_254 : decode cX9_minutesOf 254 = .ok (.aload_n 0, 1) := by decide +kernel
theorem dX9_minutesOf_255 : decode cX9_minutesOf 255 = .ok (.getfield 13, 3) := by decide +kernel
theorem dX9_minutesOf_258 : decode cX9_minutesOf 258 = .ok (.iload 6, 2) := by decide +kernel
theorem dX9_minutesOf_260 : decode cX9_minutesOf 260 = .ok (.iaload, 1) := by decide +kernel
theorem dX9_minutesOf_261 : decode cX9_minutesOf 261 = .ok (.iaload, 1) := by decide +kernel
theorem dX9_minutesOf_262 : decode cX9_minutesOf 262 = .ok (.iastore, 1) := by decide +kernel
theorem dX9_minutesOf_263 : decode cX9_minutesOf 263 = .ok (.iconst 1, 1) := by decide +kernel
theorem dX9_minutesOf_264 : decode cX9_minutesOf 264 = .ok (.istore 5, 2) := by decide +kernel
theorem dX9_minutesOf_266 : decode cX9_minutesOf 266 = .ok (.iinc 6 1, 3) := by decide +kernel
theorem dX9_minutesOf_269 : decode cX9_minutesOf 269 = .ok (.goto (-220), 3) := by decide +kernel
theorem dX9_minutesOf_272 : decode cX9_minutesOf 272 = .ok (.goto (-234), 3) := by decide +kernel
theorem dX9_minutesOf_275 : decode cX9_minutesOf 275 = .ok (.aload_n 0, 1) := by decide +kernel
theorem dX9_minutesOf_276 : decode cX9_minutesOf 276 = .ok (.getfield 94, 3) := by decide +kernel
theorem dX9_minutesOf_279 : decode cX9_minutesOf 279 = .ok (.iload_n 2, 1) := by decide +kernel
theorem dX9_minutesOf_280 : decode cX9_minutesOf 280 = .ok (.iaload, 1) := by decide +kernel
theorem dX9_minutesOf_281 : decode cX9_minutesOf 281 = .ok (.ireturn, 1) := by decide +kernel
theorem dX9_broken_0 : decode cX9_broken 0 = .ok (.aload_n 0, 1) := by decide +kernel
theorem dX9_broken_1 : decode cX9_broken 1 = .ok (.iload_n 1, 1) := by decide +kernel
theorem dX9_broken_2 : decode cX9_broken 2 = .ok (.putfield 137, 3) := by decide +kernel
theorem dX9_broken_5 : decode cX9_broken 5 = .ok (.aload_n 0, 1) := by decide +kernel
theorem dX9_broken_6 : decode cX9_broken 6 = .ok (.iload_n 2, 1) := by decide +kernel
theorem dX9_broken_7 : decode cX9_broken 7 = .ok (.putfield 140, 3) := by decide +kernel
theorem dX9_broken_10 : decode cX9_broken 10 = .ok (.iconst 1, 1) := by decide +kernel
theorem dX9_broken_11 : decode cX9_broken 11 = .ok (.ireturn, 1) := by decide +kernel
theorem dX9_notice_0 : decode cX9_notice 0 = .ok (.aload_n 0, 1) := by decide +kernel
theorem dX9_notice_1 : decode cX9_notice 1 = .ok (.getfield 44, 3) := by decide +kernel
theorem dX9_notice_4 : decode cX9_notice 4 = .ok (.iload_n 1, 1) := by decide +kernel
theorem dX9_notice_5 : decode cX9_notice 5 = .ok (.iaload, 1) := by decide +kernel
theorem dX9_notice_6 : decode cX9_notice 6 = .ok (.iconst 1, 1) := by decide +kernel
theorem dX9_notice_7 : decode cX9_notice 7 = .ok (.if_icmp .ne 8, 3) := by decide +kernel
theorem dX9_notice_10 : decode cX9_notice 10 = .ok (.bipush 30, 2) := by decide +kernel
theorem dX9_notice_12 : decode cX9_notice 12 = .ok (.goto 18, 3) := by decide +kernel
theorem dX9_notice_15 : decode cX9_notice 15 = .ok (.aload_n 0, 1) := by decide +kernel
theorem dX9_notice_16 : decode cX9_notice 16 = .ok (.getfield 44, 3) := by decide +kernel
theorem dX9_notice_19 : decode cX9_notice 19 = .ok (.iload_n 1, 1) := by decide +kernel
theorem dX9_notice_20 : decode cX9_notice 20 = .ok (.iaload, 1) := by decide +kernel
theorem dX9_notice_21 : decode cX9_notice 21 = .ok (.iconst 3, 1) := by decide +kernel
theorem dX9_notice_22 : decode cX9_notice 22 = .ok (.if_icmp .ne 7, 3) := by decide +kernel
theorem dX9_notice_25 : decode cX9_notice 25 = .ok (.iconst 0, 1) := by decide +kernel
theorem dX9_notice_26 : decode cX9_notice 26 = .ok (.goto 4, 3) := by decide +kernel
theorem dX9_notice_29 : decode cX9_notice 29 = .ok (.iconst 3, 1) := by decide +kernel
theorem dX9_notice_30 : decode cX9_notice 30 = .ok (.ireturn, 1) := by decide +kernel
theorem dX9_breaksFeast_0 : decode cX9_breaksFeast 0 = .ok (.iload_n 2, 1) := by decide +kernel
theorem dX9_breaksFeast_1 : decode cX9_breaksFeast 1 = .ok (.istore_n 3, 1) := by decide +kernel
theorem dX9_breaksFeast_2 : decode cX9_breaksFeast 2 = .ok (.iload_n 3, 1) := by decide +kernel
theorem dX9_breaksFeast_3 : decode cX9_breaksFeast 3 = .ok (.iload_n 2, 1) := by decide +kernel
theorem dX9_breaksFeast_4 : decode cX9_breaksFeast 4 = .ok (.aload_n 0, 1) := by decide +kernel
theorem dX9_breaksFeast_5 : decode cX9_breaksFeast 5 = .ok (.getfield 50, 3) := by decide +kernel
theorem dX9_breaksFeast_8 : decode cX9_breaksFeast 8 = .ok (.iload_n 1, 1) := by decide +kernel
theorem dX9_breaksFeast_9 : decode cX9_breaksFeast 9 = .ok (.iaload, 1) := by decide +kernel
theorem dX9_breaksFeast_10 : decode cX9_breaksFeast 10 = .ok (.iadd, 1) := by decide +kernel
theorem dX9_breaksFeast_11 : decode cX9_breaksFeast 11 = .ok (.if_icmp .ge 65, 3) := by decide +kernel
theorem dX9_breaksFeast_14 : decode cX9_breaksFeast 14 = .ok (.iconst 0, 1) := by decide +kernel
theorem dX9_breaksFeast_15 : decode cX9_breaksFeast 15 = .ok (.istore 4, 2) := by decide +kernel
theorem dX9_breaksFeast_17 : decode cX9_breaksFeast 17 = .ok (.iload 4, 2) := by decide +kernel
theorem dX9_breaksFeast_19 : decode cX9_breaksFeast 19 = .ok (.aload_n 0, 1) := by decide +kernel
theorem dX9_breaksFeast_20 : decode cX9_breaksFeast 20 = .ok (.getfield 101, 3) := by decide +kernel
theorem dX9_breaksFeast_23 : decode cX9_breaksFeast 23 = .ok (.if_icmp .ge 47, 3) := by decide +kernel
theorem dX9_breaksFeast_26 : decode cX9_breaksFeast 26 = .ok (.aload_n 0, 1) := by decide +kernel
theorem dX9_breaksFeast_27 : decode cX9_breaksFeast 27 = .ok (.getfield 37, 3) := by decide +kernel
theorem dX9_breaksFeast_30 : decode cX9_breaksFeast 30 = .ok (.iload_n 3, 1) := by decide +kernel
theorem dX9_breaksFeast_31 : decode cX9_breaksFeast 31 = .ok (.baload, 1) := by decide +kernel
theorem dX9_breaksFeast_32 : decode cX9_breaksFeast 32 = .ok (.ifCond .eq 38, 3) := by decide +kernel
theorem dX9_breaksFeast_35 : decode cX9_breaksFeast 35 = .ok (.aload_n 0, 1) := by decide +kernel
theorem dX9_breaksFeast_36 : decode cX9_breaksFeast 36 = .ok (.iload_n 1, 1) := by decide +kernel
theorem dX9_breaksFeast_37 : decode cX9_breaksFeast 37 = .ok (.iload 4, 2) := by decide +kernel
theorem dX9_breaksFeast_39 : decode cX9_breaksFeast 39 = .ok (.invokevirtual 117, 3) := by decide +kernel
theorem dX9_breaksFeast_42 : decode cX9_breaksFeast 42 = .ok (.ifCond .eq 22, 3) := by decide +kernel
theorem dX9_breaksFeast_45 : decode cX9_breaksFeast 45 = .ok (.aload_n 0, 1) := by decide +kernel
theorem dX9_breaksFeast_46 : decode cX9_breaksFeast 46 = .ok (.getfield 19, 3) := by decide +kernel
theorem dX9_breaksFeast_49 : decode cX9_breaksFeast 49 = .ok (.iload 4, 2) := by decide +kernel
theorem dX9_breaksFeast_51 : decode cX9_breaksFeast 51 = .ok (.iaload, 1) := by decide +kernel
theorem dX9_breaksFeast_52 : decode cX9_breaksFeast 52 = .ok (.iconst 2, 1) := by decide +kernel
theorem dX9_breaksFeast_53 : decode cX9_breaksFeast 53 = .ok (.if_icmp .ne 11, 3) := by decide +kernel
theorem dX9_breaksFeast_56 : decode cX9_breaksFeast 56 = .ok (.aload_n 0, 1) := by decide +kernel
theorem dX9_breaksFeast_57 : decode cX9_breaksFeast 57 = .ok (.iload_n 3, 1) := by decide +kernel
theorem dX9_breaksFeast_58 : decode cX9_breaksFeast 58 = .ok (.iload 4, 2) := by decide +kernel
theorem dX9_breaksFeast_60 : decode cX9_breaksFeast 60 = .ok (.invokevirtual 143, 3) := by decide +kernel
theorem dX9_breaksFeast_63 : decode cX9_breaksFeast 63 = .ok (.ireturn, 1) := by decide +kernel
theorem dX9_breaksFeast_64 : decode cX9_breaksFeast 64 = .ok (.iinc 4 1, 3) := by decide +kernel
theorem dX9_breaksFeast_67 : decode cX9_breaksFeast 67 = .ok (.goto (-50), 3) := by decide +kernel
theorem dX9_breaksFeast_70 : decode cX9_breaksFeast 70 = .ok (.iinc 3 1, 3) := by decide +kernel
theorem dX9_breaksFeast_73 : decode cX9_breaksFeast 73 = .ok (.goto (-71), 3) := by decide +kernel
theorem dX9_breaksFeast_76 : decode cX9_breaksFeast 76 = .ok (.iconst 0, 1) := by decide +kernel
theorem dX9_breaksFeast_77 : decode cX9_breaksFeast 77 = .ok (.ireturn, 1) := by decide +kernel
theorem dX9_breaksLanes_0 : decode cX9_breaksLanes 0 = .ok (.iload_n 2, 1) := by decide +kernel
theorem dX9_breaksLanes_1 : decode cX9_breaksLanes 1 = .ok (.istore 4, 2) := by decide +kernel
theorem dX9_breaksLanes_3 : decode cX9_breaksLanes 3 = .ok (.iload 4, 2) := by decide +kernel
theorem dX9_breaksLanes_5 : decode cX9_breaksLanes 5 = .ok (.iload_n 2, 1) := by decide +kernel
theorem dX9_breaksLanes_6 : decode cX9_breaksLanes 6 = .ok (.aload_n 0, 1) := by decide +kernel
theorem dX9_breaksLanes_7 : decode cX9_breaksLanes 7 = .ok (.getfield 50, 3) := by decide +kernel
theorem dX9_breaksLanes_10 : decode cX9_breaksLanes 10 = .ok (.iload_n 1, 1) := by decide +kernel
theorem dX9_breaksLanes_11 : decode cX9_breaksLanes 11 = .ok (.iaload, 1) := by decide +kernel
theorem dX9_breaksLanes_12 : decode cX9_breaksLanes 12 = .ok (.iadd, 1) := by decide +kernel
theorem dX9_breaksLanes_13 : decode cX9_breaksLanes 13 = .ok (.if_icmp .ge 67, 3) := by decide +kernel
theorem dX9_breaksLanes_16 : decode cX9_breaksLanes 16 = .ok (.iconst 0, 1) := by decide +kernel
theorem dX9_breaksLanes_17 : decode cX9_breaksLanes 17 = .ok (.istore 5, 2) := by decide +kernel
theorem dX9_breaksLanes_19 : decode cX9_breaksLanes 19 = .ok (.iload 5, 2) := by decide +kernel
theorem dX9_breaksLanes_21 : decode cX9_breaksLanes 21 = .ok (.aload_n 0, 1) := by decide +kernel
theorem dX9_breaksLanes_22 : decode cX9_breaksLanes 22 = .ok (.getfield 101, 3) := by decide +kernel
theorem dX9_breaksLanes_25 : decode cX9_breaksLanes 25 = .ok (.if_icmp .ge 49, 3) := by decide +kernel
theorem dX9_breaksLanes_28 : decode cX9_breaksLanes 28 = .ok (.aload_n 0, 1) := by decide +kernel
theorem dX9_breaksLanes_29 : decode cX9_breaksLanes 29 = .ok (.iload_n 1, 1) := by decide +kernel
theorem dX9_breaksLanes_30 : decode cX9_breaksLanes 30 = .ok (.iload 5, 2) := by decide +kernel
theorem dX9_breaksLanes_32 : decode cX9_breaksLanes 32 = .ok (.invokevirtual 117, 3) := by decide +kernel
theorem dX9_breaksLanes_35 : decode cX9_breaksLanes 35 = .ok (.ifCond .eq 33, 3) := by decide +kernel
theorem dX9_breaksLanes_38 : decode cX9_breaksLanes 38 = .ok (.aload_n 0, 1) := by decide +kernel
theorem dX9_breaksLanes_39 : decode cX9_breaksLanes 39 = .ok (.iload 5, 2) := by decide +kernel
theorem dX9_breaksLanes_41 : decode cX9_breaksLanes 41 = .ok (.iload_n 1, 1) := by decide +kernel
theorem dX9_breaksLanes_42 : decode cX9_breaksLanes 42 = .ok (.iload_n 2, 1) := by decide +kernel
theorem dX9_breaksLanes_43 : decode cX9_breaksLanes 43 = .ok (.iload_n 3, 1) := by decide +kernel
theorem dX9_breaksLanes_44 : decode cX9_breaksLanes 44 = .ok (.iload 4, 2) := by decide +kernel
theorem dX9_breaksLanes_46 : decode cX9_breaksLanes 46 = .ok (.invokevirtual 132, 3) := by decide +kernel
theorem dX9_breaksLanes_49 : decode cX9_breaksLanes 49 = .ok (.aload_n 0, 1) := by decide +kernel
theorem dX9_breaksLanes_50 : decode cX9_breaksLanes 50 = .ok (.getfield 16, 3) := by decide +kernel
theorem dX9_breaksLanes_53 : decode cX9_breaksLanes 53 = .ok (.iload 5, 2) := by decide +kernel
theorem dX9_breaksLanes_55 : decode cX9_breaksLanes 55 = .ok (.iaload, 1) := by decide +kernel
theorem dX9_breaksLanes_56 : decode cX9_breaksLanes 56 = .ok (.if_icmp .le 12, 3) := by decide +kernel
theorem dX9_breaksLanes_59 : decode cX9_breaksLanes 59 = .ok (.aload_n 0, 1) := by decide +kernel
theorem dX9_breaksLanes_60 : decode cX9_breaksLanes 60 = .ok (.iload 4, 2) := by decide +kernel
theorem dX9_breaksLanes_62 : decode cX9_breaksLanes 62 = .ok (.iload 5, 2) := by decide +kernel
theorem dX9_breaksLanes_64 : decode cX9_breaksLanes 64 = .ok (.invokevirtual 143, 3) := by decide +kernel
theorem dX9_breaksLanes_67 : decode cX9_breaksLanes 67 = .ok (.ireturn, 1) := by decide +kernel
theorem dX9_breaksLanes_68 : decode cX9_breaksLanes 68 = .ok (.iinc 5 1, 3) := by decide +kernel
theorem dX9_breaksLanes_71 : decode cX9_breaksLanes 71 = .ok (.goto (-52), 3) := by decide +kernel
theorem dX9_breaksLanes_74 : decode cX9_breaksLanes 74 = .ok (.iinc 4 1, 3) := by decide +kernel
theorem dX9_breaksLanes_77 : decode cX9_breaksLanes 77 = .ok (.goto (-74), 3) := by decide +kernel
theorem dX9_breaksLanes_80 : decode cX9_breaksLanes 80 = .ok (.iconst 0, 1) := by decide +kernel
theorem dX9_breaksLanes_81 : decode cX9_breaksLanes 81 = .ok (.ireturn, 1) := by decide +kernel
theorem dX9_breaksDepth_0 : decode cX9_breaksDepth 0 = .ok (.iload_n 2, 1) := by decide +kernel
theorem dX9_breaksDepth_1 : decode cX9_breaksDepth 1 = .ok (.istore 4, 2) := by decide +kernel
theorem dX9_breaksDepth_3 : decode cX9_breaksDepth 3 = .ok (.iload 4, 2) := by decide +kernel
theorem dX9_breaksDepth_5 : decode cX9_breaksDepth 5 = .ok (.iload_n 2, 1) := by decide +kernel
theorem dX9_breaksDepth_6 : decode cX9_breaksDepth 6 = .ok (.aload_n 0, 1) := by decide +kernel
theorem dX9_breaksDepth_7 : decode cX9_breaksDepth 7 = .ok (.getfield 50, 3) := by decide +kernel
theorem dX9_breaksDepth_10 : decode cX9_breaksDepth 10 = .ok (.iload_n 1, 1) := by decide +kernel
theorem dX9_breaksDepth_11 : decode cX9_breaksDepth 11 = .ok (.iaload, 1) := by decide +kernel
theorem dX9_breaksDepth_12 : decode cX9_breaksDepth 12 = .ok (.iadd, 1) := by decide +kernel
theorem dX9_breaksDepth_13 : decode cX9_breaksDepth 13 = .ok (.if_icmp .ge 138, 3) := by decide +kernel
theorem dX9_breaksDepth_16 : decode cX9_breaksDepth 16 = .ok (.iconst 0, 1) := by decide +kernel
theorem dX9_breaksDepth_17 : decode cX9_breaksDepth 17 = .ok (.istore 5, 2) := by decide +kernel
theorem dX9_breaksDepth_19 : decode cX9_breaksDepth 19 = .ok (.iload 5, 2) := by decide +kernel
theorem dX9_breaksDepth_21 : decode cX9_breaksDepth 21 = .ok (.aload_n 0, 1) := by decide +kernel
theorem dX9_breaksDepth_22 : decode cX9_breaksDepth 22 = .ok (.getfield 101, 3) := by decide +kernel
theorem dX9_breaksDepth_25 : decode cX9_breaksDepth 25 = .ok (.if_icmp .ge 120, 3) := by decide +kernel
theorem dX9_breaksDepth_28 : decode cX9_breaksDepth 28 = .ok (.iconst 0, 1) := by decide +kernel
theorem dX9_breaksDepth_29 : decode cX9_breaksDepth 29 = .ok (.istore 6, 2) := by decide +kernel
theorem dX9_breaksDepth_31 : decode cX9_breaksDepth 31 = .ok (.iload 6, 2) := by decide +kernel
theorem dX9_breaksDepth_33 : decode cX9_breaksDepth 33 = .ok (.aload_n 0, 1) := by decide +kernel
theorem dX9_breaksDepth_34 : decode cX9_breaksDepth 34 = .ok (.getfield 107, 3) := by decide +kernel
theorem dX9_breaksDepth_37 : decode cX9_breaksDepth 37 = .ok (.if_icmp .ge 102, 3) := by decide +kernel
theorem dX9_breaksDepth_40 : decode cX9_breaksDepth 40 = .ok (.aload_n 0, 1) := by decide +kernel
theorem dX9_breaksDepth_41 : decode cX9_breaksDepth 41 = .ok (.iload_n 1, 1) := by decide +kernel
theorem dX9_breaksDepth_42 : decode cX9_breaksDepth 42 = .ok (.iload 5, 2) := by decide +kernel
theorem dX9_breaksDepth_44 : decode cX9_breaksDepth 44 = .ok (.invokevirtual 117, 3) := by decide +kernel
theorem dX9_breaksDepth_47 : decode cX9_breaksDepth 47 = .ok (.ifCond .eq 92, 3) := by decide +kernel
theorem dX9_breaksDepth_50 : decode cX9_breaksDepth 50 = .ok (.iload 6, 2) := by decide +kernel
theorem dX9_breaksDepth_52 : decode cX9_breaksDepth 52 = .ok (.iload_n 1, 1) := by decide +kernel
theorem dX9_breaksDepth_53 : decode cX9_breaksDepth 53 = .ok (.if_icmp .eq 80, 3) := by decide +kernel
theorem dX9_breaksDepth_56 : decode cX9_breaksDepth 56 = .ok (.aload_n 0, 1) := by decide +kernel
theorem dX9_breaksDepth_57 : decode cX9_breaksDepth 57 = .ok (.iload 6, 2) := by decide +kernel
theorem dX9_breaksDepth_59 : decode cX9_breaksDepth 59 = .ok (.iload 5, 2) := by decide +kernel
theorem dX9_breaksDepth_61 : decode cX9_breaksDepth 61 = .ok (.invokevirtual 117, 3) := by decide +kernel
theorem dX9_breaksDepth_64 : decode cX9_breaksDepth 64 = .ok (.ifCond .eq 69, 3) := by decide +kernel
theorem dX9_breaksDepth_67 : decode cX9_breaksDepth 67 = .ok (.aload_n 0, 1) := by decide +kernel
theorem dX9_breaksDepth_68 : decode cX9_breaksDepth 68 = .ok (.getfield 41, 3) := by decide +kernel
theorem dX9_breaksDepth_71 : decode cX9_breaksDepth 71 = .ok (.iload 6, 2) := by decide +kernel
theorem dX9_breaksDepth_73 : decode cX9_breaksDepth 73 = .ok (.iaload, 1) := by decide +kernel
theorem dX9_breaksDepth_74 : decode cX9_breaksDepth 74 = .ok (.aload_n 0, 1) := by decide +kernel
theorem dX9_breaksDepth_75 : decode cX9_breaksDepth 75 = .ok (.getfield 41, 3) := by decide +kernel
theorem dX9_breaksDepth_78 : decode cX9_breaksDepth 78 = .ok (.iload_n 1, 1) := by decide +kernel
theorem dX9_breaksDepth_79 : decode cX9_breaksDepth 79 = .ok (.iaload, 1) := by decide +kernel
theorem dX9_breaksDepth_80 : decode cX9_breaksDepth 80 = .ok (.if_icmp .eq 53, 3) := by decide +kernel
theorem dX9_breaksDepth_83 : decode cX9_breaksDepth 83 = .ok (.aload_n 0, 1) := by decide +kernel
theorem dX9_breaksDepth_84 : decode cX9_breaksDepth 84 = .ok (.getfield 53, 3) := by decide +kernel
theorem dX9_breaksDepth_87 : decode cX9_breaksDepth 87 = .ok (.iload 6, 2) := by decide +kernel
theorem dX9_breaksDepth_89 : decode cX9_breaksDepth 89 = .ok (.iaload, 1) := by decide +kernel
theorem dX9_breaksDepth_90 : decode cX9_breaksDepth 90 = .ok (.aload_n 0, 1) := by decide +kernel
theorem dX9_breaksDepth_91 : decode cX9_breaksDepth 91 = .ok (.getfield 53, 3) := by decide +kernel
theorem dX9_breaksDepth_94 : decode cX9_breaksDepth 94 = .ok (.iload_n 1, 1) := by decide +kernel
theorem dX9_breaksDepth_95 : decode cX9_breaksDepth 95 = .ok (.iaload, 1) := by decide +kernel
theorem dX9_breaksDepth_96 : decode cX9_breaksDepth 96 = .ok (.if_icmp .ne 37, 3) := by decide +kernel
theorem dX9_breaksDepth_99 : decode cX9_breaksDepth 99 = .ok (.aload_n 0, 1) := by decide +kernel
theorem dX9_breaksDepth_100 : decode cX9_breaksDepth 100 = .ok (.getfield 81, 3) := by decide +kernel
theorem dX9_breaksDepth_103 : decode cX9_breaksDepth 103 = .ok (.iload_n 1, 1) := by decide +kernel
theorem dX9_breaksDepth_104 : decode cX9_breaksDepth 104 = .ok (.iaload, 1) := by decide +kernel
theorem dX9_breaksDepth_105 : decode cX9_breaksDepth 105 = .ok (.iload 6, 2) := by decide +kernel
theorem dX9_breaksDepth_107 : decode cX9_breaksDepth 107 = .ok (.if_icmp .eq 26, 3) := by decide +kernel
theorem dX9_breaksDepth_110 : decode cX9_breaksDepth 110 = .ok (.aload_n 0, 1) := by decide +kernel
theorem dX9_breaksDepth_111 : decode cX9_breaksDepth 111 = .ok (.iload 6, 2) := by decide +kernel
theorem dX9_breaksDepth_113 : decode cX9_breaksDepth 113 = .ok (.iload_n 1, 1) := by decide +kernel
theorem dX9_breaksDepth_114 : decode cX9_breaksDepth 114 = .ok (.iload_n 2, 1) := by decide +kernel
theorem dX9_breaksDepth_115 : decode cX9_breaksDepth 115 = .ok (.iload_n 3, 1) := by decide +kernel
theorem dX9_breaksDepth_116 : decode cX9_breaksDepth 116 = .ok (.iload 4, 2) := by decide +kernel
theorem dX9_breaksDepth_118 : decode cX9_breaksDepth 118 = .ok (.invokevirtual 128, 3) := by decide +kernel
theorem dX9_breaksDepth_121 : decode cX9_breaksDepth 121 = .ok (.ifCond .eq 12, 3) := by decide +kernel
theorem dX9_breaksDepth_124 : decode cX9_breaksDepth 124 = .ok (.aload_n 0, 1) := by decide +kernel
theorem dX9_breaksDepth_125 : decode cX9_breaksDepth 125 = .ok (.iload 4, 2) := by decide +kernel
theorem dX9_breaksDepth_127 : decode cX9_breaksDepth 127 = .ok (.iload 5, 2) := by decide +kernel
theorem dX9_breaksDepth_129 : decode cX9_breaksDepth 129 = .ok (.invokevirtual 143, 3) := by decide +kernel
theorem dX9_breaksDepth_132 : decode cX9_breaksDepth 132 = .ok (.ireturn, 1) := by decide +kernel
theorem dX9_breaksDepth_133 : decode cX9_breaksDepth 133 = .ok (.iinc 6 1, 3) := by decide +kernel
theorem dX9_breaksDepth_136 : decode cX9_breaksDepth 136 = .ok (.goto (-105), 3) := by decide +kernel
theorem dX9_breaksDepth_139 : decode cX9_breaksDepth 139 = .ok (.iinc 5 1, 3) := by decide +kernel
theorem dX9_breaksDepth_142 : decode cX9_breaksDepth 142 = .ok (.goto (-123), 3) := by decide +kernel
theorem dX9_breaksDepth_145 : decode cX9_breaksDepth 145 = .ok (.iinc 4 1, 3) := by decide +kernel
theorem dX9_breaksDepth_148 : decode cX9_breaksDepth 148 = .ok (.goto (-145), 3) := by decide +kernel
theorem dX9_breaksDepth_151 : decode cX9_breaksDepth 151 = .ok (.iconst 0, 1) := by decide +kernel
theorem dX9_breaksDepth_152 : decode cX9_breaksDepth 152 = .ok (.ireturn, 1) := by decide +kernel
theorem dX9_breaksRest_0 : decode cX9_breaksRest 0 = .ok (.iload_n 2, 1) := by decide +kernel
theorem dX9_breaksRest_1 : decode cX9_breaksRest 1 = .ok (.aload_n 0, 1) := by decide +kernel
theorem dX9_breaksRest_2 : decode cX9_breaksRest 2 = .ok (.getfield 50, 3) := by decide +kernel
theorem dX9_breaksRest_5 : decode cX9_breaksRest 5 = .ok (.iload_n 1, 1) := by decide +kernel
theorem dX9_breaksRest_6 : decode cX9_breaksRest 6 = .ok (.iaload, 1) := by decide +kernel
theorem dX9_breaksRest_7 : decode cX9_breaksRest 7 = .ok (.iadd, 1) := by decide +kernel
theorem dX9_breaksRest_8 : decode cX9_breaksRest 8 = .ok (.iconst 1, 1) := by decide +kernel
theorem dX9_breaksRest_9 : decode cX9_breaksRest 9 = .ok (.isub, 1) := by decide +kernel
theorem dX9_breaksRest_10 : decode cX9_breaksRest 10 = .ok (.istore 4, 2) := by decide +kernel
theorem dX9_breaksRest_12 : decode cX9_breaksRest 12 = .ok (.iconst 0, 1) := by decide +kernel
theorem dX9_breaksRest_13 : decode cX9_breaksRest 13 = .ok (.istore 5, 2) := by decide +kernel
theorem dX9_breaksRest_15 : decode cX9_breaksRest 15 = .ok (.iload 5, 2) := by decide +kernel
theorem dX9_breaksRest_17 : decode cX9_breaksRest 17 = .ok (.aload_n 0, 1) := by decide +kernel
theorem dX9_breaksRest_18 : decode cX9_breaksRest 18 = .ok (.getfield 101, 3) := by decide +kernel
theorem dX9_breaksRest_21 : decode cX9_breaksRest 21 = .ok (.if_icmp .ge 185, 3) := by decide +kernel
theorem dX9_breaksRest_24 : decode cX9_breaksRest 24 = .ok (.iconst 0, 1) := by decide +kernel
theorem dX9_breaksRest_25 : decode cX9_breaksRest 25 = .ok (.istore 6, 2) := by decide +kernel
theorem dX9_breaksRest_27 : decode cX9_breaksRest 27 = .ok (.iload 6, 2) := by decide +kernel
theorem dX9_breaksRest_29 : decode cX9_breaksRest 29 = .ok (.aload_n 0, 1) := by decide +kernel
theorem dX9_breaksRest_30 : decode cX9_breaksRest 30 = .ok (.getfield 107, 3) := by decide +kernel
theorem dX9_breaksRest_33 : decode cX9_breaksRest 33 = .ok (.if_icmp .ge 167, 3) := by decide +kernel
theorem dX9_breaksRest_36 : decode cX9_breaksRest 36 = .ok (.aload_n 0, 1) := by decide +kernel
theorem dX9_breaksRest_37 : decode cX9_breaksRest 37 = .ok (.iload_n 1, 1) := by decide +kernel
theorem dX9_breaksRest_38 : decode cX9_breaksRest 38 = .ok (.iload 5, 2) := by decide +kernel
theorem dX9_breaksRest_40 : decode cX9_breaksRest 40 = .ok (.invokevirtual 117, 3) := by decide +kernel
theorem dX9_breaksRest_43 : decode cX9_breaksRest 43 = .ok (.ifCond .eq 157, 3) := by decide +kernel
theorem dX9_breaksRest_46 : decode cX9_breaksRest 46 = .ok (.aload_n 0, 1) := by decide +kernel
theorem dX9_breaksRest_47 : decode cX9_breaksRest 47 = .ok (.iload 6, 2) := by decide +kernel
theorem dX9_breaksRest_49 : decode cX9_breaksRest 49 = .ok (.iload_n 1, 1) := by decide +kernel
theorem dX9_breaksRest_50 : decode cX9_breaksRest 50 = .ok (.iload_n 3, 1) := by decide +kernel
theorem dX9_breaksRest_51 : decode cX9_breaksRest 51 = .ok (.invokevirtual 124, 3) := by decide +kernel
theorem dX9_breaksRest_54 : decode cX9_breaksRest 54 = .ok (.ifCond .eq 140, 3) := by decide +kernel
theorem dX9_breaksRest_57 : decode cX9_breaksRest 57 = .ok (.aload_n 0, 1) := by decide +kernel
theorem dX9_breaksRest_58 : decode cX9_breaksRest 58 = .ok (.iload 6, 2) := by decide +kernel
theorem dX9_breaksRest_60 : decode cX9_breaksRest 60 = .ok (.iload 5, 2) := by decide +kernel
theorem dX9_breaksRest_62 : decode cX9_breaksRest 62 = .ok (.invokevirtual 117, 3) := by decide +kernel
theorem dX9_breaksRest_65 : decode cX9_breaksRest 65 = .ok (.ifCond .eq 129, 3) := by decide +kernel
theorem dX9_breaksRest_68 : decode cX9_breaksRest 68 = .ok (.aload_n 0, 1) := by decide +kernel
theorem dX9_breaksRest_69 : decode cX9_breaksRest 69 = .ok (.getfield 44, 3) := by decide +kernel
theorem dX9_breaksRest_72 : decode cX9_breaksRest 72 = .ok (.iload_n 1, 1) := by decide +kernel
theorem dX9_breaksRest_73 : decode cX9_breaksRest 73 = .ok (.iaload, 1) := by decide +kernel
theorem dX9_breaksRest_74 : decode cX9_breaksRest 74 = .ok (.iconst 3, 1) := by decide +kernel
theorem dX9_breaksRest_75 : decode cX9_breaksRest 75 = .ok (.if_icmp .eq 37, 3) := by decide +kernel
theorem dX9_breaksRest_78 : decode cX9_breaksRest 78 = .ok (.aload_n 0, 1) := by decide +kernel
theorem dX9_breaksRest_79 : decode cX9_breaksRest 79 = .ok (.getfield 75, 3) := by decide +kernel
theorem dX9_breaksRest_82 : decode cX9_breaksRest 82 = .ok (.iload 6, 2) := by decide +kernel
theorem dX9_breaksRest_84 : decode cX9_breaksRest 84 = .ok (.iaload, 1) := by decide +kernel
theorem dX9_breaksRest_85 : decode cX9_breaksRest 85 = .ok (.iload_n 2, 1) := by decide +kernel
theorem dX9_breaksRest_86 : decode cX9_breaksRest 86 = .ok (.if_icmp .ge 26, 3) := by decide +kernel
theorem dX9_breaksRest_89 : decode cX9_breaksRest 89 = .ok (.aload_n 0, 1) := by decide +kernel
theorem dX9_breaksRest_90 : decode cX9_breaksRest 90 = .ok (.getfield 75, 3) := by decide +kernel
theorem dX9_breaksRest_93 : decode cX9_breaksRest 93 = .ok (.iload 6, 2) := by decide +kernel
theorem dX9_breaksRest_95 : decode cX9_breaksRest 95 = .ok (.iaload, 1) := by decide +kernel
theorem dX9_breaksRest_96 : decode cX9_breaksRest 96 = .ok (.aload_n 0, 1) := by decide +kernel
theorem dX9_breaksRest_97 : decode cX9_breaksRest 97 = .ok (.getfield 25, 3) := by decide +kernel
theorem dX9_breaksRest_100 : decode cX9_breaksRest 100 = .ok (.iload 5, 2) := by decide +kernel
theorem dX9_breaksRest_102 : decode cX9_breaksRest 102 = .ok (.iaload, 1) := by decide +kernel
theorem dX9_breaksRest_103 : decode cX9_breaksRest 103 = .ok (.iadd, 1) := by decide +kernel
theorem dX9_breaksRest_104 : decode cX9_breaksRest 104 = .ok (.iload_n 2, 1) := by decide +kernel
theorem dX9_breaksRest_105 : decode cX9_breaksRest 105 = .ok (.if_icmp .lt 7, 3) := by decide +kernel
theorem dX9_breaksRest_108 : decode cX9_breaksRest 108 = .ok (.iconst 1, 1) := by decide +kernel
theorem dX9_breaksRest_109 : decode cX9_breaksRest 109 = .ok (.goto 4, 3) := by decide +kernel
theorem dX9_breaksRest_112 : decode cX9_breaksRest 112 = .ok (.iconst 0, 1) := by decide +kernel
theorem dX9_breaksRest_113 : decode cX9_breaksRest 113 = .ok (.istore 7, 2) := by decide +kernel
theorem dX9_breaksRest_115 : decode cX9_breaksRest 115 = .ok (.aload_n 0, 1) := by decide +kernel
theorem dX9_breaksRest_116 : decode cX9_breaksRest 116 = .ok (.getfield 44, 3) := by decide +kernel
theorem dX9_breaksRest_119 : decode cX9_breaksRest 119 = .ok (.iload 6, 2) := by decide +kernel
theorem dX9_breaksRest_121 : decode cX9_breaksRest 121 = .ok (.iaload, 1) := by decide +kernel
theorem dX9_breaksRest_122 : decode cX9_breaksRest 122 = .ok (.iconst 3, 1) := by decide +kernel
theorem dX9_breaksRest_123 : decode cX9_breaksRest 123 = .ok (.if_icmp .eq 50, 3) := by decide +kernel
theorem dX9_breaksRest_126 : decode cX9_breaksRest 126 = .ok (.aload_n 0, 1) := by decide +kernel
theorem dX9_breaksRest_127 : decode cX9_breaksRest 127 = .ok (.getfield 69, 3) := by decide +kernel
theorem dX9_breaksRest_130 : decode cX9_breaksRest 130 = .ok (.iload 6, 2) := by decide +kernel
theorem dX9_breaksRest_132 : decode cX9_breaksRest 132 = .ok (.iaload, 1) := by decide +kernel
theorem dX9_breaksRest_133 : decode cX9_breaksRest 133 = .ok (.iconst 3, 1) := by decide +kernel
theorem dX9_breaksRest_134 : decode cX9_breaksRest 134 = .ok (.if_icmp .eq 39, 3) := by decide +kernel
theorem dX9_breaksRest_137 : decode cX9_breaksRest 137 = .ok (.aload_n 0, 1) := by decide +kernel
theorem dX9_breaksRest_138 : decode cX9_breaksRest 138 = .ok (.getfield 72, 3) := by decide +kernel
theorem dX9_breaksRest_141 : decode cX9_breaksRest 141 = .ok (.iload 6, 2) := by decide +kernel
theorem dX9_breaksRest_143 : decode cX9_breaksRest 143 = .ok (.iaload, 1) := by decide +kernel
theorem dX9_breaksRest_144 : decode cX9_breaksRest 144 = .ok (.iload 4, 2) := by decide +kernel
theorem dX9_breaksRest_146 : decode cX9_breaksRest 146 = .ok (.if_icmp .le 27, 3) := by decide +kernel
theorem dX9_breaksRest_149 : decode cX9_breaksRest 149 = .ok (.aload_n 0, 1) := by decide +kernel
theorem dX9_breaksRest_150 : decode cX9_breaksRest 150 = .ok (.getfield 72, 3) := by decide +kernel
theorem dX9_breaksRest_153 : decode cX9_breaksRest 153 = .ok (.iload 6, 2) := by decide +kernel
theorem dX9_breaksRest_155 : decode cX9_breaksRest 155 = .ok (.iaload, 1) := by decide +kernel
theorem dX9_breaksRest_156 : decode cX9_breaksRest 156 = .ok (.iload 4, 2) := by decide +kernel
theorem dX9_breaksRest_158 : decode cX9_breaksRest 158 = .ok (.aload_n 0, 1) := by decide +kernel
theorem dX9_breaksRest_159 : decode cX9_breaksRest 159 = .ok (.getfield 25, 3) := by decide +kernel
theorem dX9_breaksRest_162 : decode cX9_breaksRest 162 = .ok (.iload 5, 2) := by decide +kernel
theorem dX9_breaksRest_164 : decode cX9_breaksRest 164 = .ok (.iaload, 1) := by decide +kernel
theorem dX9_breaksRest_165 : decode cX9_breaksRest 165 = .ok (.iadd, 1) := by decide +kernel
theorem dX9_breaksRest_166 : decode cX9_breaksRest 166 = .ok (.if_icmp .gt 7, 3) := by decide +kernel
theorem dX9_breaksRest_169 : decode cX9_breaksRest 169 = .ok (.iconst 1, 1) := by decide +kernel
theorem dX9_breaksRest_170 : decode cX9_breaksRest 170 = .ok (.goto 4, 3) := by decide +kernel
theorem dX9_breaksRest_173 : decode cX9_breaksRest 173 = .ok (.iconst 0, 1) := by decide +kernel
theorem dX9_breaksRest_174 : decode cX9_breaksRest 174 = .ok (.istore 8, 2) := by decide +kernel
theorem dX9_breaksRest_176 : decode cX9_breaksRest 176 = .ok (.iload 7, 2) := by decide +kernel
theorem dX9_breaksRest_178 : decode cX9_breaksRest 178 = .ok (.ifCond .ne 8, 3) := by decide +kernel
theorem dX9_breaksRest_181 : decode cX9_breaksRest 181 = .ok (.iload 8, 2) := by decide +kernel
theorem dX9_breaksRest_183 : decode cX9_breaksRest 183 = .ok (.ifCond .eq 11, 3) := by decide +kernel
theorem dX9_breaksRest_186 : decode cX9_breaksRest 186 = .ok (.aload_n 0, 1) := by decide +kernel
theorem dX9_breaksRest_187 : decode cX9_breaksRest 187 = .ok (.iload_n 2, 1) := by decide +kernel
theorem dX9_breaksRest_188 : decode cX9_breaksRest 188 = .ok (.iload 5, 2) := by decide +kernel
theorem dX9_breaksRest_190 : decode cX9_breaksRest 190 = .ok (.invokevirtual 143, 3) := by decide +kernel
theorem dX9_breaksRest_193 : decode cX9_breaksRest 193 = .ok (.ireturn, 1) := by decide +kernel
theorem dX9_breaksRest_194 : decode cX9_breaksRest 194 = .ok (.iinc 6 1, 3) := by decide +kernel
theorem dX9_breaksRest_197 : decode cX9_breaksRest 197 = .ok (.goto (-170), 3) := by decide +kernel
theorem dX9_breaksRest_200 : decode cX9_breaksRest 200 = .ok (.iinc 5 1, 3) := by decide +kernel
theorem dX9_breaksRest_203 : decode cX9_breaksRest 203 = .ok (.goto (-188), 3) := by decide +kernel
theorem dX9_breaksRest_206 : decode cX9_breaksRest 206 = .ok (.iconst 0, 1) := by decide +kernel
theorem dX9_breaksRest_207 : decode cX9_breaksRest 207 = .ok (.ireturn, 1) := by decide +kernel
theorem dX9_breaksWays_0 : decode cX9_breaksWays 0 = .ok (.iload_n 2, 1) := by decide +kernel
theorem dX9_breaksWays_1 : decode cX9_breaksWays 1 = .ok (.istore 4, 2) := by decide +kernel
theorem dX9_breaksWays_3 : decode cX9_breaksWays 3 = .ok (.iload 4, 2) := by decide +kernel
theorem dX9_breaksWays_5 : decode cX9_breaksWays 5 = .ok (.iload_n 2, 1) := by decide +kernel
theorem dX9_breaksWays_6 : decode cX9_breaksWays 6 = .ok (.aload_n 0, 1) := by decide +kernel
theorem dX9_breaksWays_7 : decode cX9_breaksWays 7 = .ok (.getfield 50, 3) := by decide +kernel
theorem dX9_breaksWays_10 : decode cX9_breaksWays 10 = .ok (.iload_n 1, 1) := by decide +kernel
theorem dX9_breaksWays_11 : decode cX9_breaksWays 11 = .ok (.iaload, 1) := by decide +kernel
theorem dX9_breaksWays_12 : decode cX9_breaksWays 12 = .ok (.iadd, 1) := by decide +kernel
theorem dX9_breaksWays_13 : decode cX9_breaksWays 13 = .ok (.if_icmp .ge 126, 3) := by decide +kernel
theorem dX9_breaksWays_16 : decode cX9_breaksWays 16 = .ok (.aload_n 0, 1) := by decide +kernel
theorem dX9_breaksWays_17 : decode cX9_breaksWays 17 = .ok (.iload_n 1, 1) := by decide +kernel
theorem dX9_breaksWays_18 : decode cX9_breaksWays 18 = .ok (.iconst (-1), 1) := by decide +kernel
theorem dX9_breaksWays_19 : decode cX9_breaksWays 19 = .ok (.iload_n 3, 1) := by decide +kernel
theorem dX9_breaksWays_20 : decode cX9_breaksWays 20 = .ok (.iload 4, 2) := by decide +kernel
theorem dX9_breaksWays_22 : decode cX9_breaksWays 22 = .ok (.invokevirtual 146, 3) := by decide +kernel
theorem dX9_breaksWays_25 : decode cX9_breaksWays 25 = .ok (.lstore 5, 2) := by decide +kernel
theorem dX9_breaksWays_27 : decode cX9_breaksWays 27 = .ok (.aload_n 0, 1) := by decide +kernel
theorem dX9_breaksWays_28 : decode cX9_breaksWays 28 = .ok (.iload_n 1, 1) := by decide +kernel
theorem dX9_breaksWays_29 : decode cX9_breaksWays 29 = .ok (.iload_n 2, 1) := by decide +kernel
theorem dX9_breaksWays_30 : decode cX9_breaksWays 30 = .ok (.iload_n 3, 1) := by decide +kernel
theorem dX9_breaksWays_31 : decode cX9_breaksWays 31 = .ok (.iload 4, 2) := by decide +kernel
theorem dX9_breaksWays_33 : decode cX9_breaksWays 33 = .ok (.invokevirtual 146, 3) := by decide +kernel
theorem dX9_breaksWays_36 : decode cX9_breaksWays 36 = .ok (.lstore 7, 2) := by decide +kernel
theorem dX9_breaksWays_38 : decode cX9_breaksWays 38 = .ok (.iconst 0, 1) := by decide +kernel
theorem dX9_breaksWays_39 : decode cX9_breaksWays 39 = .ok (.istore 9, 2) := by decide +kernel
theorem dX9_breaksWays_41 : decode cX9_breaksWays 41 = .ok (.iload 9, 2) := by decide +kernel
theorem dX9_breaksWays_43 : decode cX9_breaksWays 43 = .ok (.aload_n 0, 1) := by decide +kernel
theorem dX9_breaksWays_44 : decode cX9_breaksWays 44 = .ok (.getfield 104, 3) := by decide +kernel
theorem dX9_breaksWays_47 : decode cX9_breaksWays 47 = .ok (.if_icmp .ge 86, 3) := by decide +kernel
theorem dX9_breaksWays_50 : decode cX9_breaksWays 50 = .ok (.lload 7, 2) := by decide +kernel
theorem dX9_breaksWays_52 : decode cX9_breaksWays 52 = .ok (.lload 5, 2) := by decide +kernel
theorem dX9_breaksWays_54 : decode cX9_breaksWays 54 = .ok (.lcmp, 1) := by decide +kernel
theorem dX9_breaksWays_55 : decode cX9_breaksWays 55 = .ok (.ifCond .eq 78, 3) := by decide +kernel
theorem dX9_breaksWays_58 : decode cX9_breaksWays 58 = .ok (.aload_n 0, 1) := by decide +kernel
theorem dX9_breaksWays_59 : decode cX9_breaksWays 59 = .ok (.aload_n 0, 1) := by decide +kernel
theorem dX9_breaksWays_60 : decode cX9_breaksWays 60 = .ok (.getfield 28, 3) := by decide +kernel
theorem dX9_breaksWays_63 : decode cX9_breaksWays 63 = .ok (.iload 9, 2) := by decide +kernel
theorem dX9_breaksWays_65 : decode cX9_breaksWays 65 = .ok (.iaload, 1) := by decide +kernel
theorem dX9_breaksWays_66 : decode cX9_breaksWays 66 = .ok (.aload_n 0, 1) := by decide +kernel
theorem dX9_breaksWays_67 : decode cX9_breaksWays 67 = .ok (.getfield 31, 3) := by decide +kernel
theorem dX9_breaksWays_70 : decode cX9_breaksWays 70 = .ok (.iload 9, 2) := by decide +kernel
theorem dX9_breaksWays_72 : decode cX9_breaksWays 72 = .ok (.iaload, 1) := by decide +kernel
theorem dX9_breaksWays_73 : decode cX9_breaksWays 73 = .ok (.lload 7, 2) := by decide +kernel
theorem dX9_breaksWays_75 : decode cX9_breaksWays 75 = .ok (.invokevirtual 150, 3) := by decide +kernel
theorem dX9_breaksWays_78 : decode cX9_breaksWays 78 = .ok (.aload_n 0, 1) := by decide +kernel
theorem dX9_breaksWays_79 : decode cX9_breaksWays 79 = .ok (.getfield 34, 3) := by decide +kernel
theorem dX9_breaksWays_82 : decode cX9_breaksWays 82 = .ok (.iload 9, 2) := by decide +kernel
theorem dX9_breaksWays_84 : decode cX9_breaksWays 84 = .ok (.iaload, 1) := by decide +kernel
theorem dX9_breaksWays_85 : decode cX9_breaksWays 85 = .ok (.if_icmp .le 42, 3) := by decide +kernel
theorem dX9_breaksWays_88 : decode cX9_breaksWays 88 = .ok (.aload_n 0, 1) := by decide +kernel
theorem dX9_breaksWays_89 : decode cX9_breaksWays 89 = .ok (.aload_n 0, 1) := by decide +kernel
theorem dX9_breaksWays_90 : decode cX9_breaksWays 90 = .ok (.getfield 28, 3) := by decide +kernel
theorem dX9_breaksWays_93 : decode cX9_breaksWays 93 = .ok (.iload 9, 2) := by decide +kernel
theorem dX9_breaksWays_95 : decode cX9_breaksWays 95 = .ok (.iaload, 1) := by decide +kernel
theorem dX9_breaksWays_96 : decode cX9_breaksWays 96 = .ok (.aload_n 0, 1) := by decide +kernel
theorem dX9_breaksWays_97 : decode cX9_breaksWays 97 = .ok (.getfield 31, 3) := by decide +kernel
theorem dX9_breaksWays_100 : decode cX9_breaksWays 100 = .ok (.iload 9, 2) := by decide +kernel
theorem dX9_breaksWays_102 : decode cX9_breaksWays 102 = .ok (.iaload, 1) := by decide +kernel
theorem dX9_breaksWays_103 : decode cX9_breaksWays 103 = .ok (.lload 5, 2) := by decide +kernel
theorem dX9_breaksWays_105 : decode cX9_breaksWays 105 = .ok (.invokevirtual 150, 3) := by decide +kernel
theorem dX9_breaksWays_108 : decode cX9_breaksWays 108 = .ok (.aload_n 0, 1) := by decide +kernel
theorem dX9_breaksWays_109 : decode cX9_breaksWays 109 = .ok (.getfield 34, 3) := by decide +kernel
theorem dX9_breaksWays_112 : decode cX9_breaksWays 112 = .ok (.iload 9, 2) := by decide +kernel
theorem dX9_breaksWays_114 : decode cX9_breaksWays 114 = .ok (.iaload, 1) := by decide +kernel
theorem dX9_breaksWays_115 : decode cX9_breaksWays 115 = .ok (.if_icmp .gt 12, 3) := by decide +kernel
theorem dX9_breaksWays_118 : decode cX9_breaksWays 118 = .ok (.aload_n 0, 1) := by decide +kernel
theorem dX9_breaksWays_119 : decode cX9_breaksWays 119 = .ok (.iload 4, 2) := by decide +kernel
theorem dX9_breaksWays_121 : decode cX9_breaksWays 121 = .ok (.iload 9, 2) := by decide +kernel
theorem dX9_breaksWays_123 : decode cX9_breaksWays 123 = .ok (.invokevirtual 143, 3) := by decide +kernel
theorem dX9_breaksWays_126 : decode cX9_breaksWays 126 = .ok (.ireturn, 1) := by decide +kernel
theorem dX9_breaksWays_127 : decode cX9_breaksWays 127 = .ok (.iinc 9 1, 3) := by decide +kernel
theorem dX9_breaksWays_130 : decode cX9_breaksWays 130 = .ok (.goto (-89), 3) := by decide +kernel
theorem dX9_breaksWays_133 : decode cX9_breaksWays 133 = .ok (.iinc 4 1, 3) := by decide +kernel
theorem dX9_breaksWays_136 : decode cX9_breaksWays 136 = .ok (.goto (-133), 3) := by decide +kernel
theorem dX9_breaksWays_139 : decode cX9_breaksWays 139 = .ok (.iconst 0, 1) := by decide +kernel
theorem dX9_breaksWays_140 : decode cX9_breaksWays 140 = .ok (.ireturn, 1) := by decide +kernel
theorem dX9_rule_0 : decode cX9_rule 0 = .ok (.iload_n 3, 1) := by decide +kernel
theorem dX9_rule_1 : decode cX9_rule 1 = .ok (.iconst 1, 1) := by decide +kernel
theorem dX9_rule_2 : decode cX9_rule 2 = .ok (.if_icmp .gt 36, 3) := by decide +kernel
theorem dX9_rule_5 : decode cX9_rule 5 = .ok (.iload_n 2, 1) := by decide +kernel
theorem dX9_rule_6 : decode cX9_rule 6 = .ok (.aload_n 0, 1) := by decide +kernel
theorem dX9_rule_7 : decode cX9_rule 7 = .ok (.getfield 154, 3) := by decide +kernel
theorem dX9_rule_10 : decode cX9_rule 10 = .ok (.aload_n 0, 1) := by decide +kernel
theorem dX9_rule_11 : decode cX9_rule 11 = .ok (.iload_n 1, 1) := by decide +kernel
theorem dX9_rule_12 : decode cX9_rule 12 = .ok (.invokevirtual 157, 3) := by decide +kernel
theorem dX9_rule_15 : decode cX9_rule 15 = .ok (.iadd, 1) := by decide +kernel
theorem dX9_rule_16 : decode cX9_rule 16 = .ok (.if_icmp .ge 22, 3) := by decide +kernel
theorem dX9_rule_19 : decode cX9_rule 19 = .ok (.aload_n 0, 1) := by decide +kernel
theorem dX9_rule_20 : decode cX9_rule 20 = .ok (.iload_n 2, 1) := by decide +kernel
theorem dX9_rule_21 : decode cX9_rule 21 = .ok (.aload_n 0, 1) := by decide +kernel
theorem dX9_rule_22 : decode cX9_rule 22 = .ok (.iload_n 1, 1) := by decide +kernel
theorem dX9_rule_23 : decode cX9_rule 23 = .ok (.invokevirtual 161, 3) := by decide +kernel
theorem dX9_rule_26 : decode cX9_rule 26 = .ok (.invokevirtual 143, 3) := by decide +kernel
theorem dX9_rule_29 : decode cX9_rule 29 = .ok (.ifCond .eq 7, 3) := by decide +kernel
theorem dX9_rule_32 : decode cX9_rule 32 = .ok (.iconst 1, 1) := by decide +kernel
theorem dX9_rule_33 : decode cX9_rule 33 = .ok (.goto 4, 3) := by decide +kernel
theorem dX9_rule_36 : decode cX9_rule 36 = .ok (.iconst 0, 1) := by decide +kernel
theorem dX9_rule_37 : decode cX9_rule 37 = .ok (.ireturn, 1) := by decide +kernel
theorem dX9_rule_38 : decode cX9_rule 38 = .ok (.iload_n 2, 1) := by decide +kernel
theorem dX9_rule_39 : decode cX9_rule 39 = .ok (.aload_n 0, 1) := by decide +kernel
theorem dX9_rule_40 : decode cX9_rule 40 = .ok (.getfield 50, 3) := by decide +kernel
theorem dX9_rule_43 : decode cX9_rule 43 = .ok (.iload_n 1, 1) := by decide +kernel
theorem dX9_rule_44 : decode cX9_rule 44 = .ok (.iaload, 1) := by decide +kernel
theorem dX9_rule_45 : decode cX9_rule 45 = .ok (.iadd, 1) := by decide +kernel
theorem dX9_rule_46 : decode cX9_rule 46 = .ok (.iconst 1, 1) := by decide +kernel
theorem dX9_rule_47 : decode cX9_rule 47 = .ok (.isub, 1) := by decide +kernel
theorem dX9_rule_48 : decode cX9_rule 48 = .ok (.sipush 399, 3) := by decide +kernel
theorem dX9_rule_51 : decode cX9_rule 51 = .ok (.if_icmp .le 24, 3) := by decide +kernel
theorem dX9_rule_54 : decode cX9_rule 54 = .ok (.aload_n 0, 1) := by decide +kernel
theorem dX9_rule_55 : decode cX9_rule 55 = .ok (.sipush 400, 3) := by decide +kernel
theorem dX9_rule_58 : decode cX9_rule 58 = .ok (.aload_n 0, 1) := by decide +kernel
theorem dX9_rule_59 : decode cX9_rule 59 = .ok (.iload_n 1, 1) := by decide +kernel
theorem dX9_rule_60 : decode cX9_rule 60 = .ok (.invokevirtual 161, 3) := by decide +kernel
theorem dX9_rule_63 : decode cX9_rule 63 = .ok (.invokevirtual 143, 3) := by decide +kernel
theorem dX9_rule_66 : decode cX9_rule 66 = .ok (.ifCond .eq 7, 3) := by decide +kernel
theorem dX9_rule_69 : decode cX9_rule 69 = .ok (.iconst 2, 1) := by decide +kernel
theorem dX9_rule_70 : decode cX9_rule 70 = .ok (.goto 4, 3) := by decide +kernel
theorem dX9_rule_73 : decode cX9_rule 73 = .ok (.iconst 0, 1) := by decide +kernel
theorem dX9_rule_74 : decode cX9_rule 74 = .ok (.ireturn, 1) := by decide +kernel
theorem dX9_rule_75 : decode cX9_rule 75 = .ok (.aload_n 0, 1) := by decide +kernel
theorem dX9_rule_76 : decode cX9_rule 76 = .ok (.iload_n 1, 1) := by decide +kernel
theorem dX9_rule_77 : decode cX9_rule 77 = .ok (.iload_n 2, 1) := by decide +kernel
theorem dX9_rule_78 : decode cX9_rule 78 = .ok (.invokevirtual 164, 3) := by decide +kernel
theorem dX9_rule_81 : decode cX9_rule 81 = .ok (.ifCond .eq 7, 3) := by decide +kernel
theorem dX9_rule_84 : decode cX9_rule 84 = .ok (.iconst 3, 1) := by decide +kernel
theorem dX9_rule_85 : decode cX9_rule 85 = .ok (.goto 66, 3) := by decide +kernel
theorem dX9_rule_88 : decode cX9_rule 88 = .ok (.aload_n 0, 1) := by decide +kernel
theorem dX9_rule_89 : decode cX9_rule 89 = .ok (.iload_n 1, 1) := by decide +kernel
theorem dX9_rule_90 : decode cX9_rule 90 = .ok (.iload_n 2, 1) := by decide +kernel
theorem dX9_rule_91 : decode cX9_rule 91 = .ok (.iload 4, 2) := by decide +kernel
theorem dX9_rule_93 : decode cX9_rule 93 = .ok (.invokevirtual 167, 3) := by decide +kernel
theorem dX9_rule_96 : decode cX9_rule 96 = .ok (.ifCond .eq 7, 3) := by decide +kernel
theorem dX9_rule_99 : decode cX9_rule 99 = .ok (.iconst 4, 1) := by decide +kernel
theorem dX9_rule_100 : decode cX9_rule 100 = .ok (.goto 51, 3) := by decide +kernel
theorem dX9_rule_103 : decode cX9_rule 103 = .ok (.aload_n 0, 1) := by decide +kernel
theorem dX9_rule_104 : decode cX9_rule 104 = .ok (.iload_n 1, 1) := by decide +kernel
theorem dX9_rule_105 : decode cX9_rule 105 = .ok (.iload_n 2, 1) := by decide +kernel
theorem dX9_rule_106 : decode cX9_rule 106 = .ok (.iload 4, 2) := by decide +kernel
theorem dX9_rule_108 : decode cX9_rule 108 = .ok (.invokevirtual 170, 3) := by decide +kernel
theorem dX9_rule_111 : decode cX9_rule 111 = .ok (.ifCond .eq 7, 3) := by decide +kernel
theorem dX9_rule_114 : decode cX9_rule 114 = .ok (.iconst 5, 1) := by decide +kernel
theorem dX9_rule_115 : decode cX9_rule 115 = .ok (.goto 36, 3) := by decide +kernel
theorem dX9_rule_118 : decode cX9_rule 118 = .ok (.aload_n 0, 1) := by decide +kernel
theorem dX9_rule_119 : decode cX9_rule 119 = .ok (.iload_n 1, 1) := by decide +kernel
theorem dX9_rule_120 : decode cX9_rule 120 = .ok (.iload_n 2, 1) := by decide +kernel
theorem dX9_rule_121 : decode cX9_rule 121 = .ok (.iload 4, 2) := by decide +kernel
theorem dX9_rule_123 : decode cX9_rule 123 = .ok (.invokevirtual 173, 3) := by decide +kernel
theorem dX9_rule_126 : decode cX9_rule 126 = .ok (.ifCond .eq 8, 3) := by decide +kernel
theorem dX9_rule_129 : decode cX9_rule 129 = .ok (.bipush 6, 2) := by decide +kernel
theorem dX9_rule_131 : decode cX9_rule 131 = .ok (.goto 20, 3) := by decide +kernel
theorem dX9_rule_134 : decode cX9_rule 134 = .ok (.aload_n 0, 1) := by decide +kernel
theorem dX9_rule_135 : decode cX9_rule 135 = .ok (.iload_n 1, 1) := by decide +kernel
theorem dX9_rule_136 : decode cX9_rule 136 = .ok (.iload_n 2, 1) := by decide +kernel
theorem dX9_rule_137 : decode cX9_rule 137 = .ok (.iload 4, 2) := by decide +kernel
theorem dX9_rule_139 : decode cX9_rule 139 = .ok (.invokevirtual 176, 3) := by decide +kernel
theorem dX9_rule_142 : decode cX9_rule 142 = .ok (.ifCond .eq 8, 3) := by decide +kernel
theorem dX9_rule_145 : decode cX9_rule 145 = .ok (.bipush 7, 2) := by decide +kernel
theorem dX9_rule_147 : decode cX9_rule 147 = .ok (.goto 4, 3) := by decide +kernel
theorem dX9_rule_150 : decode cX9_rule 150 = .ok (.iconst 0, 1) := by decide +kernel
theorem dX9_rule_151 : decode cX9_rule 151 = .ok (.ireturn, 1) := by decide +kernel
theorem dX9_lowest_0 : decode cX9_lowest 0 = .ok (.iconst 0, 1) := by decide +kernel
theorem dX9_lowest_1 : decode cX9_lowest 1 = .ok (.istore_n 2, 1) := by decide +kernel
theorem dX9_lowest_2 : decode cX9_lowest 2 = .ok (.aload_n 0, 1) := by decide +kernel
theorem dX9_lowest_3 : decode cX9_lowest 3 = .ok (.iload_n 1, 1) := by decide +kernel
theorem dX9_lowest_4 : decode cX9_lowest 4 = .ok (.iload_n 2, 1) := by decide +kernel
theorem dX9_lowest_5 : decode cX9_lowest 5 = .ok (.invokevirtual 117, 3) := by decide +kernel
theorem dX9_lowest_8 : decode cX9_lowest 8 = .ok (.ifCond .ne 9, 3) := by decide +kernel
theorem dX9_lowest_11 : decode cX9_lowest 11 = .ok (.iinc 2 1, 3) := by decide +kernel
theorem dX9_lowest_14 : decode cX9_lowest 14 = .ok (.goto (-12), 3) := by decide +kernel
theorem dX9_lowest_17 : decode cX9_lowest 17 = .ok (.iload_n 2, 1) := by decide +kernel
theorem dX9_lowest_18 : decode cX9_lowest 18 = .ok (.ireturn, 1) := by decide +kernel
theorem dX9_refusal_0 : decode cX9_refusal 0 = .ok (.aload_n 0, 1) := by decide +kernel
theorem dX9_refusal_1 : decode cX9_refusal 1 = .ok (.getfield 69, 3) := by decide +kernel
theorem dX9_refusal_4 : decode cX9_refusal 4 = .ok (.iload_n 1, 1) := by decide +kernel
theorem dX9_refusal_5 : decode cX9_refusal 5 = .ok (.iaload, 1) := by decide +kernel
theorem dX9_refusal_6 : decode cX9_refusal 6 = .ok (.iconst 1, 1) := by decide +kernel
theorem dX9_refusal_7 : decode cX9_refusal 7 = .ok (.if_icmp .gt 13, 3) := by decide +kernel
theorem dX9_refusal_10 : decode cX9_refusal 10 = .ok (.aload_n 0, 1) := by decide +kernel
theorem dX9_refusal_11 : decode cX9_refusal 11 = .ok (.getfield 44, 3) := by decide +kernel
theorem dX9_refusal_14 : decode cX9_refusal 14 = .ok (.iload_n 1, 1) := by decide +kernel
theorem dX9_refusal_15 : decode cX9_refusal 15 = .ok (.iaload, 1) := by decide +kernel
theorem dX9_refusal_16 : decode cX9_refusal 16 = .ok (.iconst 2, 1) := by decide +kernel
theorem dX9_refusal_17 : decode cX9_refusal 17 = .ok (.if_icmp .ne 8, 3) := by decide +kernel
theorem dX9_refusal_20 : decode cX9_refusal 20 = .ok (.bipush (-3), 2) := by decide +kernel
theorem dX9_refusal_22 : decode cX9_refusal 22 = .ok (.goto 4, 3) := by decide +kernel
theorem dX9_refusal_25 : decode cX9_refusal 25 = .ok (.iconst 0, 1) := by decide +kernel
theorem dX9_refusal_26 : decode cX9_refusal 26 = .ok (.ireturn, 1) := by decide +kernel
theorem dX9_look_0 : decode cX9_look 0 = .ok (.aload_n 0, 1) := by decide +kernel
theorem dX9_look_1 : decode cX9_look 1 = .ok (.iload_n 1, 1) := by decide +kernel
theorem dX9_look_2 : decode cX9_look 2 = .ok (.iload_n 2, 1) := by decide +kernel
theorem dX9_look_3 : decode cX9_look 3 = .ok (.iconst 1, 1) := by decide +kernel
theorem dX9_look_4 : decode cX9_look 4 = .ok (.iconst 0, 1) := by decide +kernel
theorem dX9_look_5 : decode cX9_look 5 = .ok (.invokevirtual 179, 3) := by decide +kernel
theorem dX9_look_8 : decode cX9_look 8 = .ok (.istore_n 3, 1) := by decide +kernel
theorem dX9_look_9 : decode cX9_look 9 = .ok (.iload_n 3, 1) := by decide +kernel
theorem dX9_look_10 : decode cX9_look 10 = .ok (.ifCond .le 19, 3) := by decide +kernel
theorem dX9_look_13 : decode cX9_look 13 = .ok (.aload_n 0, 1) := by decide +kernel
theorem dX9_look_14 : decode cX9_look 14 = .ok (.aload_n 0, 1) := by decide +kernel
theorem dX9_look_15 : decode cX9_look 15 = .ok (.getfield 137, 3) := by decide +kernel
theorem dX9_look_18 : decode cX9_look 18 = .ok (.putfield 87, 3) := by decide +kernel
theorem dX9_look_21 : decode cX9_look 21 = .ok (.aload_n 0, 1) := by decide +kernel
theorem dX9_look_22 : decode cX9_look 22 = .ok (.aload_n 0, 1) := by decide +kernel
theorem dX9_look_23 : decode cX9_look 23 = .ok (.getfield 140, 3) := by decide +kernel
theorem dX9_look_26 : decode cX9_look 26 = .ok (.putfield 91, 3) := by decide +kernel
theorem dX9_look_29 : decode cX9_look 29 = .ok (.iload_n 3, 1) := by decide +kernel
theorem dX9_look_30 : decode cX9_look 30 = .ok (.ireturn, 1) := by decide +kernel
theorem dX9_may_0 : decode cX9_may 0 = .ok (.aload_n 0, 1) := by decide +kernel
theorem dX9_may_1 : decode cX9_may 1 = .ok (.iload_n 1, 1) := by decide +kernel
theorem dX9_may_2 : decode cX9_may 2 = .ok (.invokevirtual 114, 3) := by decide +kernel
theorem dX9_may_5 : decode cX9_may 5 = .ok (.ifCond .eq 14, 3) := by decide +kernel
theorem dX9_may_8 : decode cX9_may 8 = .ok (.iload_n 2, 1) := by decide +kernel
theorem dX9_may_9 : decode cX9_may 9 = .ok (.iconst 0, 1) := by decide +kernel
theorem dX9_may_10 : decode cX9_may 10 = .ok (.sipush 399, 3) := by decide +kernel
theorem dX9_may_13 : decode cX9_may 13 = .ok (.invokestatic 97, 3) := by decide +kernel
theorem dX9_may_16 : decode cX9_may 16 = .ok (.ifCond .ne 5, 3) := by decide +kernel
theorem dX9_may_19 : decode cX9_may 19 = .ok (.iconst (-1), 1) := by decide +kernel
theorem dX9_may_20 : decode cX9_may 20 = .ok (.ireturn, 1) := by decide +kernel
theorem dX9_may_21 : decode cX9_may 21 = .ok (.aload_n 0, 1) := by decide +kernel
theorem dX9_may_22 : decode cX9_may 22 = .ok (.iload_n 1, 1) := by decide +kernel
theorem dX9_may_23 : decode cX9_may 23 = .ok (.invokevirtual 183, 3) := by decide +kernel
theorem dX9_may_26 : decode cX9_may 26 = .ok (.ifCond .eq 8, 3) := by decide +kernel
theorem dX9_may_29 : decode cX9_may 29 = .ok (.bipush (-3), 2) := by decide +kernel
theorem dX9_may_31 : decode cX9_may 31 = .ok (.goto 9, 3) := by decide +kernel
theorem dX9_may_34 : decode cX9_may 34 = .ok (.aload_n 0, 1) := by decide +kernel
theorem dX9_may_35 : decode cX9_may 35 = .ok (.iload_n 1, 1) := by decide +kernel
theorem dX9_may_36 : decode cX9_may 36 = .ok (.iload_n 2, 1) := by decide +kernel
theorem dX9_may_37 : decode cX9_may 37 = .ok (.invokevirtual 186, 3) := by decide +kernel
theorem dX9_may_40 : decode cX9_may 40 = .ok (.ireturn, 1) := by decide +kernel
theorem dX9_why_0 : decode cX9_why 0 = .ok (.iload_n 1, 1) := by decide +kernel
theorem dX9_why_1 : decode cX9_why 1 = .ok (.ifCond .ne 10, 3) := by decide +kernel
theorem dX9_why_4 : decode cX9_why 4 = .ok (.aload_n 0, 1) := by decide +kernel
theorem dX9_why_5 : decode cX9_why 5 = .ok (.getfield 87, 3) := by decide +kernel
theorem dX9_why_8 : decode cX9_why 8 = .ok (.goto 16, 3) := by decide +kernel
theorem dX9_why_11 : decode cX9_why 11 = .ok (.iload_n 1, 1) := by decide +kernel
theorem dX9_why_12 : decode cX9_why 12 = .ok (.iconst 1, 1) := by decide +kernel
theorem dX9_why_13 : decode cX9_why 13 = .ok (.if_icmp .ne 10, 3) := by decide +kernel
theorem dX9_why_16 : decode cX9_why 16 = .ok (.aload_n 0, 1) := by decide +kernel
theorem dX9_why_17 : decode cX9_why 17 = .ok (.getfield 91, 3) := by decide +kernel
theorem dX9_why_20 : decode cX9_why 20 = .ok (.goto 4, 3) := by decide +kernel
theorem dX9_why_23 : decode cX9_why 23 = .ok (.iconst (-1), 1) := by decide +kernel
theorem dX9_why_24 : decode cX9_why 24 = .ok (.ireturn, 1) := by decide +kernel
theorem dX9_first_0 : decode cX9_first 0 = .ok (.aload_n 0, 1) := by decide +kernel
theorem dX9_first_1 : decode cX9_first 1 = .ok (.iload_n 1, 1) := by decide +kernel
theorem dX9_first_2 : decode cX9_first 2 = .ok (.invokevirtual 114, 3) := by decide +kernel
theorem dX9_first_5 : decode cX9_first 5 = .ok (.ifCond .eq 25, 3) := by decide +kernel
theorem dX9_first_8 : decode cX9_first 8 = .ok (.iload_n 2, 1) := by decide +kernel
theorem dX9_first_9 : decode cX9_first 9 = .ok (.iconst 0, 1) := by decide +kernel
theorem dX9_first_10 : decode cX9_first 10 = .ok (.sipush 399, 3) := by decide +kernel
theorem dX9_first_13 : decode cX9_first 13 = .ok (.invokestatic 97, 3) := by decide +kernel
theorem dX9_first_16 : decode cX9_first 16 = .ok (.ifCond .eq 14, 3) := by decide +kernel
theorem dX9_first_19 : decode cX9_first 19 = .ok (.iload_n 3, 1) := by decide +kernel
theorem dX9_first_20 : decode cX9_first 20 = .ok (.iconst 1, 1) := by decide +kernel
theorem dX9_first_21 : decode cX9_first 21 = .ok (.sipush 200, 3) := by decide +kernel
theorem dX9_first_24 : decode cX9_first 24 = .ok (.invokestatic 97, 3) := by decide +kernel
theorem dX9_first_27 : decode cX9_first 27 = .ok (.ifCond .ne 5, 3) := by decide +kernel
theorem dX9_first_30 : decode cX9_first 30 = .ok (.iconst (-1), 1) := by decide +kernel
theorem dX9_first_31 : decode cX9_first 31 = .ok (.ireturn, 1) := by decide +kernel
theorem dX9_first_32 : decode cX9_first 32 = .ok (.aload_n 0, 1) := by decide +kernel
theorem dX9_first_33 : decode cX9_first 33 = .ok (.iload_n 1, 1) := by decide +kernel
theorem dX9_first_34 : decode cX9_first 34 = .ok (.invokevirtual 183, 3) := by decide +kernel
theorem dX9_first_37 : decode cX9_first 37 = .ok (.ifCond .eq 6, 3) := by decide +kernel
theorem dX9_first_40 : decode cX9_first 40 = .ok (.bipush (-3), 2) := by decide +kernel
theorem dX9_first_42 : decode cX9_first 42 = .ok (.ireturn, 1) := by decide +kernel
theorem dX9_first_43 : decode cX9_first 43 = .ok (.aload_n 0, 1) := by decide +kernel
theorem dX9_first_44 : decode cX9_first 44 = .ok (.iload_n 1, 1) := by decide +kernel
theorem dX9_first_45 : decode cX9_first 45 = .ok (.iload_n 2, 1) := by decide +kernel
theorem dX9_first_46 : decode cX9_first 46 = .ok (.invokevirtual 186, 3) := by decide +kernel
theorem dX9_first_49 : decode cX9_first 49 = .ok (.ifCond .ne 5, 3) := by decide +kernel
theorem dX9_first_52 : decode cX9_first 52 = .ok (.iload_n 2, 1) := by decide +kernel
theorem dX9_first_53 : decode cX9_first 53 = .ok (.ireturn, 1) := by decide +kernel
theorem dX9_first_54 : decode cX9_first 54 = .ok (.iload_n 2, 1) := by decide +kernel
theorem dX9_first_55 : decode cX9_first 55 = .ok (.iconst 1, 1) := by decide +kernel
theorem dX9_first_56 : decode cX9_first 56 = .ok (.iadd, 1) := by decide +kernel
theorem dX9_first_57 : decode cX9_first 57 = .ok (.istore 4, 2) := by decide +kernel
theorem dX9_first_59 : decode cX9_first 59 = .ok (.iload 4, 2) := by decide +kernel
theorem dX9_first_61 : decode cX9_first 61 = .ok (.iload_n 2, 1) := by decide +kernel
theorem dX9_first_62 : decode cX9_first 62 = .ok (.iload_n 3, 1) := by decide +kernel
theorem dX9_first_63 : decode cX9_first 63 = .ok (.iadd, 1) := by decide +kernel
theorem dX9_first_64 : decode cX9_first 64 = .ok (.if_icmp .ge 32, 3) := by decide +kernel
theorem dX9_first_67 : decode cX9_first 67 = .ok (.iload 4, 2) := by decide +kernel
theorem dX9_first_69 : decode cX9_first 69 = .ok (.sipush 399, 3) := by decide +kernel
theorem dX9_first_72 : decode cX9_first 72 = .ok (.if_icmp .gt 24, 3) := by decide +kernel
theorem dX9_first_75 : decode cX9_first 75 = .ok (.aload_n 0, 1) := by decide +kernel
theorem dX9_first_76 : decode cX9_first 76 = .ok (.iload_n 1, 1) := by decide +kernel
theorem dX9_first_77 : decode cX9_first 77 = .ok (.iload 4, 2) := by decide +kernel
theorem dX9_first_79 : decode cX9_first 79 = .ok (.iconst 1, 1) := by decide +kernel
theorem dX9_first_80 : decode cX9_first 80 = .ok (.iconst 0, 1) := by decide +kernel
theorem dX9_first_81 : decode cX9_first 81 = .ok (.invokevirtual 179, 3) := by decide +kernel
theorem dX9_first_84 : decode cX9_first 84 = .ok (.ifCond .ne 6, 3) := by decide +kernel
theorem dX9_first_87 : decode cX9_first 87 = .ok (.iload 4, 2) := by decide +kernel
theorem dX9_first_89 : decode cX9_first 89 = .ok (.ireturn, 1) := by decide +kernel
theorem dX9_first_90 : decode cX9_first 90 = .ok (.iinc 4 1, 3) := by decide +kernel
theorem dX9_first_93 : decode cX9_first 93 = .ok (.goto (-34), 3) := by decide +kernel
theorem dX9_first_96 : decode cX9_first 96 = .ok (.bipush (-5), 2) := by decide +kernel
theorem dX9_first_98 : decode cX9_first 98 = .ok (.ireturn, 1) := by decide +kernel
theorem dX9_put_0 : decode cX9_put 0 = .ok (.aload_n 0, 1) := by decide +kernel
theorem dX9_put_1 : decode cX9_put 1 = .ok (.getfield 72, 3) := by decide +kernel
theorem dX9_put_4 : decode cX9_put 4 = .ok (.iload_n 1, 1) := by decide +kernel
theorem dX9_put_5 : decode cX9_put 5 = .ok (.iload_n 2, 1) := by decide +kernel
theorem dX9_put_6 : decode cX9_put 6 = .ok (.iastore, 1) := by decide +kernel
theorem dX9_put_7 : decode cX9_put 7 = .ok (.aload_n 0, 1) := by decide +kernel
theorem dX9_put_8 : decode cX9_put 8 = .ok (.getfield 75, 3) := by decide +kernel
theorem dX9_put_11 : decode cX9_put 11 = .ok (.iload_n 1, 1) := by decide +kernel
theorem dX9_put_12 : decode cX9_put 12 = .ok (.iload_n 2, 1) := by decide +kernel
theorem dX9_put_13 : decode cX9_put 13 = .ok (.aload_n 0, 1) := by decide +kernel
theorem dX9_put_14 : decode cX9_put 14 = .ok (.getfield 50, 3) := by decide +kernel
theorem dX9_put_17 : decode cX9_put 17 = .ok (.iload_n 1, 1) := by decide +kernel
theorem dX9_put_18 : decode cX9_put 18 = .ok (.iaload, 1) := by decide +kernel
theorem dX9_put_19 : decode cX9_put 19 = .ok (.iadd, 1) := by decide +kernel
theorem dX9_put_20 : decode cX9_put 20 = .ok (.iconst 1, 1) := by decide +kernel
theorem dX9_put_21 : decode cX9_put 21 = .ok (.isub, 1) := by decide +kernel
theorem dX9_put_22 : decode cX9_put 22 = .ok (.iastore, 1) := by decide +kernel
theorem dX9_put_23 : decode cX9_put 23 = .ok (.aload_n 0, 1) := by decide +kernel
theorem dX9_put_24 : decode cX9_put 24 = .ok (.getfield 69, 3) := by decide +kernel
theorem dX9_put_27 : decode cX9_put 27 = .ok (.iload_n 1, 1) := by decide +kernel
theorem dX9_put_28 : decode cX9_put 28 = .ok (.iload_n 2, 1) := by decide +kernel
theorem dX9_put_29 : decode cX9_put 29 = .ok (.aload_n 0, 1) := by decide +kernel
theorem dX9_put_30 : decode cX9_put 30 = .ok (.getfield 154, 3) := by decide +kernel
theorem dX9_put_33 : decode cX9_put 33 = .ok (.if_icmp .ne 7, 3) := by decide +kernel
theorem dX9_put_36 : decode cX9_put 36 = .ok (.iconst 2, 1) := by decide +kernel
theorem dX9_put_37 : decode cX9_put 37 = .ok (.goto 4, 3) := by decide +kernel
theorem dX9_put_40 : decode cX9_put 40 = .ok (.iconst 1, 1) := by decide +kernel
theorem dX9_put_41 : decode cX9_put 41 = .ok (.iastore, 1) := by decide +kernel
theorem dX9_put_42 : decode cX9_put 42 = .ok (.return_, 1) := by decide +kernel
theorem dX9_permit_0 : decode cX9_permit 0 = .ok (.aload_n 0, 1) := by decide +kernel
theorem dX9_permit_1 : decode cX9_permit 1 = .ok (.iload_n 1, 1) := by decide +kernel
theorem dX9_permit_2 : decode cX9_permit 2 = .ok (.invokevirtual 114, 3) := by decide +kernel
theorem dX9_permit_5 : decode cX9_permit 5 = .ok (.ifCond .eq 14, 3) := by decide +kernel
theorem dX9_permit_8 : decode cX9_permit 8 = .ok (.iload_n 2, 1) := by decide +kernel
theorem dX9_permit_9 : decode cX9_permit 9 = .ok (.iconst 0, 1) := by decide +kernel
theorem dX9_permit_10 : decode cX9_permit 10 = .ok (.sipush 399, 3) := by decide +kernel
theorem dX9_permit_13 : decode cX9_permit 13 = .ok (.invokestatic 97, 3) := by decide +kernel
theorem dX9_permit_16 : decode cX9_permit 16 = .ok (.ifCond .ne 5, 3) := by decide +kernel
theorem dX9_permit_19 : decode cX9_permit 19 = .ok (.iconst (-1), 1) := by decide +kernel
theorem dX9_permit_20 : decode cX9_permit 20 = .ok (.ireturn, 1) := by decide +kernel
theorem dX9_permit_21 : decode cX9_permit 21 = .ok (.aload_n 0, 1) := by decide +kernel
theorem dX9_permit_22 : decode cX9_permit 22 = .ok (.iload_n 1, 1) := by decide +kernel
theorem dX9_permit_23 : decode cX9_permit 23 = .ok (.invokevirtual 183, 3) := by decide +kernel
theorem dX9_permit_26 : decode cX9_permit 26 = .ok (.ifCond .eq 6, 3) := by decide +kernel
theorem dX9_permit_29 : decode cX9_permit 29 = .ok (.bipush (-3), 2) := by decide +kernel
theorem dX9_permit_31 : decode cX9_permit 31 = .ok (.ireturn, 1) := by decide +kernel
theorem dX9_permit_32 : decode cX9_permit 32 = .ok (.aload_n 0, 1) := by decide +kernel
theorem dX9_permit_33 : decode cX9_permit 33 = .ok (.iload_n 1, 1) := by decide +kernel
theorem dX9_permit_34 : decode cX9_permit 34 = .ok (.iload_n 2, 1) := by decide +kernel
theorem dX9_permit_35 : decode cX9_permit 35 = .ok (.invokevirtual 186, 3) := by decide +kernel
theorem dX9_permit_38 : decode cX9_permit 38 = .ok (.istore_n 3, 1) := by decide +kernel
theorem dX9_permit_39 : decode cX9_permit 39 = .ok (.iload_n 3, 1) := by decide +kernel
theorem dX9_permit_40 : decode cX9_permit 40 = .ok (.ifCond .le 8, 3) := by decide +kernel
theorem dX9_permit_43 : decode cX9_permit 43 = .ok (.bipush (-10), 2) := by decide +kernel
theorem dX9_permit_45 : decode cX9_permit 45 = .ok (.iload_n 3, 1) := by decide +kernel
theorem dX9_permit_46 : decode cX9_permit 46 = .ok (.isub, 1) := by decide +kernel
theorem dX9_permit_47 : decode cX9_permit 47 = .ok (.ireturn, 1) := by decide +kernel
theorem dX9_permit_48 : decode cX9_permit 48 = .ok (.aload_n 0, 1) := by decide +kernel
theorem dX9_permit_49 : decode cX9_permit 49 = .ok (.iload_n 1, 1) := by decide +kernel
theorem dX9_permit_50 : decode cX9_permit 50 = .ok (.iload_n 2, 1) := by decide +kernel
theorem dX9_permit_51 : decode cX9_permit 51 = .ok (.invokevirtual 190, 3) := by decide +kernel
theorem dX9_permit_54 : decode cX9_permit 54 = .ok (.iconst 0, 1) := by decide +kernel
theorem dX9_permit_55 : decode cX9_permit 55 = .ok (.ireturn, 1) := by decide +kernel
theorem dX9_draw_0 : decode cX9_draw 0 = .ok (.aload_n 0, 1) := by decide +kernel
theorem dX9_draw_1 : decode cX9_draw 1 = .ok (.getfield 69, 3) := by decide +kernel
theorem dX9_draw_4 : decode cX9_draw 4 = .ok (.iload_n 1, 1) := by decide +kernel
theorem dX9_draw_5 : decode cX9_draw 5 = .ok (.iconst 4, 1) := by decide +kernel
theorem dX9_draw_6 : decode cX9_draw 6 = .ok (.iastore, 1) := by decide +kernel
theorem dX9_draw_7 : decode cX9_draw 7 = .ok (.aload_n 0, 1) := by decide +kernel
theorem dX9_draw_8 : decode cX9_draw 8 = .ok (.getfield 72, 3) := by decide +kernel
theorem dX9_draw_11 : decode cX9_draw 11 = .ok (.iload_n 1, 1) := by decide +kernel
theorem dX9_draw_12 : decode cX9_draw 12 = .ok (.iconst (-1), 1) := by decide +kernel
theorem dX9_draw_13 : decode cX9_draw 13 = .ok (.iastore, 1) := by decide +kernel
theorem dX9_draw_14 : decode cX9_draw 14 = .ok (.aload_n 0, 1) := by decide +kernel
theorem dX9_draw_15 : decode cX9_draw 15 = .ok (.getfield 75, 3) := by decide +kernel
theorem dX9_draw_18 : decode cX9_draw 18 = .ok (.iload_n 1, 1) := by decide +kernel
theorem dX9_draw_19 : decode cX9_draw 19 = .ok (.iconst (-1), 1) := by decide +kernel
theorem dX9_draw_20 : decode cX9_draw 20 = .ok (.iastore, 1) := by decide +kernel
theorem dX9_draw_21 : decode cX9_draw 21 = .ok (.aload_n 0, 1) := by decide +kernel
theorem dX9_draw_22 : decode cX9_draw 22 = .ok (.getfield 81, 3) := by decide +kernel
theorem dX9_draw_25 : decode cX9_draw 25 = .ok (.iload_n 1, 1) := by decide +kernel
theorem dX9_draw_26 : decode cX9_draw 26 = .ok (.iaload, 1) := by decide +kernel
theorem dX9_draw_27 : decode cX9_draw 27 = .ok (.ifCond .lt 22, 3) := by decide +kernel
theorem dX9_draw_30 : decode cX9_draw 30 = .ok (.aload_n 0, 1) := by decide +kernel
theorem dX9_draw_31 : decode cX9_draw 31 = .ok (.getfield 81, 3) := by decide +kernel
theorem dX9_draw_34 : decode cX9_draw 34 = .ok (.aload_n 0, 1) := by decide +kernel
theorem dX9_draw_35 : decode cX9_draw 35 = .ok (.getfield 81, 3) := by decide +kernel
theorem dX9_draw_38 : decode cX9_draw 38 = .ok (.iload_n 1, 1) := by decide +kernel
theorem dX9_draw_39 : decode cX9_draw 39 = .ok (.iaload, 1) := by decide +kernel
theorem dX9_draw_40 : decode cX9_draw 40 = .ok (.iconst (-1), 1) := by decide +kernel
theorem dX9_draw_41 : decode cX9_draw 41 = .ok (.iastore, 1) := by decide +kernel
theorem dX9_draw_42 : decode cX9_draw 42 = .ok (.aload_n 0, 1) := by decide +kernel
theorem dX9_draw_43 : decode cX9_draw 43 = .ok (.getfield 81, 3) := by decide +kernel
theorem dX9_draw_46 : decode cX9_draw 46 = .ok (.iload_n 1, 1) := by decide +kernel
theorem dX9_draw_47 : decode cX9_draw 47 = .ok (.iconst (-1), 1) := by decide +kernel
theorem dX9_draw_48 : decode cX9_draw 48 = .ok (.iastore, 1) := by decide +kernel
theorem dX9_draw_49 : decode cX9_draw 49 = .ok (.return_, 1) := by decide +kernel
theorem dX9_withdraw_0 : decode cX9_withdraw 0 = .ok (.aload_n 0, 1) := by decide +kernel
theorem dX9_withdraw_1 : decode cX9_withdraw 1 = .ok (.iload_n 1, 1) := by decide +kernel
theorem dX9_withdraw_2 : decode cX9_withdraw 2 = .ok (.invokevirtual 114, 3) := by decide +kernel
theorem dX9_withdraw_5 : decode cX9_withdraw 5 = .ok (.ifCond .ne 5, 3) := by decide +kernel
theorem dX9_withdraw_8 : decode cX9_withdraw 8 = .ok (.iconst (-1), 1) := by decide +kernel
theorem dX9_withdraw_9 : decode cX9_withdraw 9 = .ok (.ireturn, 1) := by decide +kernel
theorem dX9_withdraw_10 : decode cX9_withdraw 10 = .ok (.aload_n 0, 1) := by decide +kernel
theorem dX9_withdraw_11 : decode cX9_withdraw 11 = .ok (.getfield 69, 3) := by decide +kernel
theorem dX9_withdraw_14 : decode cX9_withdraw 14 = .ok (.iload_n 1, 1) := by decide +kernel
theorem dX9_withdraw_15 : decode cX9_withdraw 15 = .ok (.iaload, 1) := by decide +kernel
theorem dX9_withdraw_16 : decode cX9_withdraw 16 = .ok (.iconst 1, 1) := by decide +kernel
theorem dX9_withdraw_17 : decode cX9_withdraw 17 = .ok (.if_icmp .le 6, 3) := by decide +kernel
theorem dX9_withdraw_20 : decode cX9_withdraw 20 = .ok (.bipush (-3), 2) := by decide +kernel
theorem dX9_withdraw_22 : decode cX9_withdraw 22 = .ok (.ireturn, 1) := by decide +kernel
theorem dX9_withdraw_23 : decode cX9_withdraw 23 = .ok (.aload_n 0, 1) := by decide +kernel
theorem dX9_withdraw_24 : decode cX9_withdraw 24 = .ok (.iload_n 1, 1) := by decide +kernel
theorem dX9_withdraw_25 : decode cX9_withdraw 25 = .ok (.invokevirtual 194, 3) := by decide +kernel
theorem dX9_withdraw_28 : decode cX9_withdraw 28 = .ok (.iconst 1, 1) := by decide +kernel
theorem dX9_withdraw_29 : decode cX9_withdraw 29 = .ok (.ireturn, 1) := by decide +kernel
theorem dX9_day_0 : decode cX9_day 0 = .ok (.iload_n 1, 1) := by decide +kernel
theorem dX9_day_1 : decode cX9_day 1 = .ok (.iconst 1, 1) := by decide +kernel
theorem dX9_day_2 : decode cX9_day 2 = .ok (.bipush 100, 2) := by decide +kernel
theorem dX9_day_4 : decode cX9_day 4 = .ok (.invokestatic 97, 3) := by decide +kernel
theorem dX9_day_7 : decode cX9_day 7 = .ok (.ifCond .eq 15, 3) := by decide +kernel
theorem dX9_day_10 : decode cX9_day 10 = .ok (.aload_n 0, 1) := by decide +kernel
theorem dX9_day_11 : decode cX9_day 11 = .ok (.getfield 154, 3) := by decide +kernel
theorem dX9_day_14 : decode cX9_day 14 = .ok (.iload_n 1, 1) := by decide +kernel
theorem dX9_day_15 : decode cX9_day 15 = .ok (.iadd, 1) := by decide +kernel
theorem dX9_day_16 : decode cX9_day 16 = .ok (.sipush 399, 3) := by decide +kernel
theorem dX9_day_19 : decode cX9_day 19 = .ok (.if_icmp .le 5, 3) := by decide +kernel
theorem dX9_day_22 : decode cX9_day 22 = .ok (.iconst (-1), 1) := by decide +kernel
theorem dX9_day_23 : decode cX9_day 23 = .ok (.ireturn, 1) := by decide +kernel
theorem dX9_day_24 : decode cX9_day 24 = .ok (.iconst 0, 1) := by decide +kernel
theorem dX9_day_25 : decode cX9_day 25 = .ok (.istore_n 2, 1) := by decide +kernel
theorem dX9_day_26 : decode cX9_day 26 = .ok (.iload_n 2, 1) := by decide +kernel
theorem dX9_day_27 : decode cX9_day 27 = .ok (.iload_n 1, 1) := by decide +kernel
theorem dX9_day_28 : decode cX9_day 28 = .ok (.if_icmp .ge 100, 3) := by decide +kernel
theorem dX9_day_31 : decode cX9_day 31 = .ok (.aload_n 0, 1) := by decide +kernel
theorem dX9_day_32 : decode cX9_day 32 = .ok (.dup, 1) := by decide +kernel
theorem dX9_day_33 : decode cX9_day 33 = .ok (.getfield 154, 3) := by decide +kernel
theorem dX9_day_36 : decode cX9_day 36 = .ok (.iconst 1, 1) := by decide +kernel
theorem dX9_day_37 : decode cX9_day 37 = .ok (.iadd, 1) := by decide +kernel
theorem dX9_day_38 : decode cX9_day 38 = .ok (.putfield 154, 3) := by decide +kernel
theorem dX9_day_41 : decode cX9_day 41 = .ok (.iconst 0, 1) := by decide +kernel
theorem dX9_day_42 : decode cX9_day 42 = .ok (.istore_n 3, 1) := by decide +kernel
theorem dX9_day_43 : decode cX9_day 43 = .ok (.iload_n 3, 1) := by decide +kernel
theorem dX9_day_44 : decode cX9_day 44 = .ok (.aload_n 0, 1) := by decide +kernel
theorem dX9_day_45 : decode cX9_day 45 = .ok (.getfield 107, 3) := by decide +kernel
theorem dX9_day_48 : decode cX9_day 48 = .ok (.if_icmp .ge 74, 3) := by decide +kernel
theorem dX9_day_51 : decode cX9_day 51 = .ok (.aload_n 0, 1) := by decide +kernel
theorem dX9_day_52 : decode cX9_day 52 = .ok (.getfield 69, 3) := by decide +kernel
theorem dX9_day_55 : decode cX9_day 55 = .ok (.iload_n 3, 1) := by decide +kernel
theorem dX9_day_56 : decode cX9_day 56 = .ok (.iaload, 1) := by decide +kernel
theorem dX9_day_57 : decode cX9_day 57 = .ok (.iconst 2, 1) := by decide +kernel
theorem dX9_day_58 : decode cX9_day 58 = .ok (.if_icmp .ne 28, 3) := by decide +kernel
theorem dX9_day_61 : decode cX9_day 61 = .ok (.aload_n 0, 1) := by decide +kernel
theorem dX9_day_62 : decode cX9_day 62 = .ok (.getfield 75, 3) := by decide +kernel
theorem dX9_day_65 : decode cX9_day 65 = .ok (.iload_n 3, 1) := by decide +kernel
theorem dX9_day_66 : decode cX9_day 66 = .ok (.iaload, 1) := by decide +kernel
theorem dX9_day_67 : decode cX9_day 67 = .ok (.aload_n 0, 1) := by decide +kernel
theorem dX9_day_68 : decode cX9_day 68 = .ok (.getfield 154, 3) := by decide +kernel
theorem dX9_day_71 : decode cX9_day 71 = .ok (.iconst 1, 1) := by decide +kernel
theorem dX9_day_72 : decode cX9_day 72 = .ok (.isub, 1) := by decide +kernel
theorem dX9_day_73 : decode cX9_day 73 = .ok (.if_icmp .ne 13, 3) := by decide +kernel
theorem dX9_day_76 : decode cX9_day 76 = .ok (.aload_n 0, 1) := by decide +kernel
theorem dX9_day_77 : decode cX9_day 77 = .ok (.getfield 69, 3) := by decide +kernel
theorem dX9_day_80 : decode cX9_day 80 = .ok (.iload_n 3, 1) := by decide +kernel
theorem dX9_day_81 : decode cX9_day 81 = .ok (.iconst 3, 1) := by decide +kernel
theorem dX9_day_82 : decode cX9_day 82 = .ok (.iastore, 1) := by decide +kernel
theorem dX9_day_83 : decode cX9_day 83 = .ok (.goto 33, 3) := by decide +kernel
theorem dX9_day_86 : decode cX9_day 86 = .ok (.aload_n 0, 1) := by decide +kernel
theorem dX9_day_87 : decode cX9_day 87 = .ok (.getfield 69, 3) := by decide +kernel
theorem dX9_day_90 : decode cX9_day 90 = .ok (.iload_n 3, 1) := by decide +kernel
theorem dX9_day_91 : decode cX9_day 91 = .ok (.iaload, 1) := by decide +kernel
theorem dX9_day_92 : decode cX9_day 92 = .ok (.iconst 1, 1) := by decide +kernel
theorem dX9_day_93 : decode cX9_day 93 = .ok (.if_icmp .ne 23, 3) := by decide +kernel
theorem dX9_day_96 : decode cX9_day 96 = .ok (.aload_n 0, 1) := by decide +kernel
theorem dX9_day_97 : decode cX9_day 97 = .ok (.getfield 72, 3) := by decide +kernel
theorem dX9_day_100 : decode cX9_day 100 = .ok (.iload_n 3, 1) := by decide +kernel
theorem dX9_day_101 : decode cX9_day 101 = .ok (.iaload, 1) := by decide +kernel
theorem dX9_day_102 : decode cX9_day 102 = .ok (.aload_n 0, 1) := by decide +kernel
theorem dX9_day_103 : decode cX9_day 103 = .ok (.getfield 154, 3) := by decide +kernel
theorem dX9_day_106 : decode cX9_day 106 = .ok (.if_icmp .ne 10, 3) := by decide +kernel
theorem dX9_day_109 : decode cX9_day 109 = .ok (.aload_n 0, 1) := by decide +kernel
theorem dX9_day_110 : decode cX9_day 110 = .ok (.getfield 69, 3) := by decide +kernel
theorem dX9_day_113 : decode cX9_day 113 = .ok (.iload_n 3, 1) := by decide +kernel
theorem dX9_day_114 : decode cX9_day 114 = .ok (.iconst 2, 1) := by decide +kernel
theorem dX9_day_115 : decode cX9_day 115 = .ok (.iastore, 1) := by decide +kernel
theorem dX9_day_116 : decode cX9_day 116 = .ok (.iinc 3 1, 3) := by decide +kernel
theorem dX9_day_119 : decode cX9_day 119 = .ok (.goto (-76), 3) := by decide +kernel
theorem dX9_day_122 : decode cX9_day 122 = .ok (.iinc 2 1, 3) := by decide +kernel
theorem dX9_day_125 : decode cX9_day 125 = .ok (.goto (-99), 3) := by decide +kernel
theorem dX9_day_128 : decode cX9_day 128 = .ok (.aload_n 0, 1) := by decide +kernel
theorem dX9_day_129 : decode cX9_day 129 = .ok (.getfield 154, 3) := by decide +kernel
theorem dX9_day_132 : decode cX9_day 132 = .ok (.ireturn, 1) := by decide +kernel
theorem dX9_moveAll_0 : decode cX9_moveAll 0 = .ok (.iconst 0, 1) := by decide +kernel
theorem dX9_moveAll_1 : decode cX9_moveAll 1 = .ok (.istore_n 1, 1) := by decide +kernel
theorem dX9_moveAll_2 : decode cX9_moveAll 2 = .ok (.iconst 0, 1) := by decide +kernel
theorem dX9_moveAll_3 : decode cX9_moveAll 3 = .ok (.istore_n 2, 1) := by decide +kernel
theorem dX9_moveAll_4 : decode cX9_moveAll 4 = .ok (.iload_n 2, 1) := by decide +kernel
theorem dX9_moveAll_5 : decode cX9_moveAll 5 = .ok (.aload_n 0, 1) := by decide +kernel
theorem dX9_moveAll_6 : decode cX9_moveAll 6 = .ok (.getfield 107, 3) := by decide +kernel
theorem dX9_moveAll_9 : decode cX9_moveAll 9 = .ok (.if_icmp .ge 102, 3) := by decide +kernel
theorem dX9_moveAll_12 : decode cX9_moveAll 12 = .ok (.aload_n 0, 1) := by decide +kernel
theorem dX9_moveAll_13 : decode cX9_moveAll 13 = .ok (.getfield 69, 3) := by decide +kernel
theorem dX9_moveAll_16 : decode cX9_moveAll 16 = .ok (.iload_n 2, 1) := by decide +kernel
theorem dX9_moveAll_17 : decode cX9_moveAll 17 = .ok (.iaload, 1) := by decide +kernel
theorem dX9_moveAll_18 : decode cX9_moveAll 18 = .ok (.iconst 1, 1) := by decide +kernel
theorem dX9_moveAll_19 : decode cX9_moveAll 19 = .ok (.if_icmp .ne 86, 3) := by decide +kernel
theorem dX9_moveAll_22 : decode cX9_moveAll 22 = .ok (.aload_n 0, 1) := by decide +kernel
theorem dX9_moveAll_23 : decode cX9_moveAll 23 = .ok (.iload_n 2, 1) := by decide +kernel
theorem dX9_moveAll_24 : decode cX9_moveAll 24 = .ok (.aload_n 0, 1) := by decide +kernel
theorem dX9_moveAll_25 : decode cX9_moveAll 25 = .ok (.getfield 72, 3) := by decide +kernel
theorem dX9_moveAll_28 : decode cX9_moveAll 28 = .ok (.iload_n 2, 1) := by decide +kernel
theorem dX9_moveAll_29 : decode cX9_moveAll 29 = .ok (.iaload, 1) := by decide +kernel
theorem dX9_moveAll_30 : decode cX9_moveAll 30 = .ok (.iconst 3, 1) := by decide +kernel
theorem dX9_moveAll_31 : decode cX9_moveAll 31 = .ok (.iconst 1, 1) := by decide +kernel
theorem dX9_moveAll_32 : decode cX9_moveAll 32 = .ok (.invokevirtual 179, 3) := by decide +kernel
theorem dX9_moveAll_35 : decode cX9_moveAll 35 = .ok (.ifCond .le 70, 3) := by decide +kernel
theorem dX9_moveAll_38 : decode cX9_moveAll 38 = .ok (.aload_n 0, 1) := by decide +kernel
theorem dX9_moveAll_39 : decode cX9_moveAll 39 = .ok (.getfield 72, 3) := by decide +kernel
theorem dX9_moveAll_42 : decode cX9_moveAll 42 = .ok (.iload_n 2, 1) := by decide +kernel
theorem dX9_moveAll_43 : decode cX9_moveAll 43 = .ok (.iaload, 1) := by decide +kernel
theorem dX9_moveAll_44 : decode cX9_moveAll 44 = .ok (.iconst 1, 1) := by decide +kernel
theorem dX9_moveAll_45 : decode cX9_moveAll 45 = .ok (.iadd, 1) := by decide +kernel
theorem dX9_moveAll_46 : decode cX9_moveAll 46 = .ok (.istore_n 3, 1) := by decide +kernel
theorem dX9_moveAll_47 : decode cX9_moveAll 47 = .ok (.iload_n 3, 1) := by decide +kernel
theorem dX9_moveAll_48 : decode cX9_moveAll 48 = .ok (.sipush 399, 3) := by decide +kernel
theorem dX9_moveAll_51 : decode cX9_moveAll 51 = .ok (.if_icmp .gt 20, 3) := by decide +kernel
theorem dX9_moveAll_54 : decode cX9_moveAll 54 = .ok (.aload_n 0, 1) := by decide +kernel
theorem dX9_moveAll_55 : decode cX9_moveAll 55 = .ok (.iload_n 2, 1) := by decide +kernel
theorem dX9_moveAll_56 : decode cX9_moveAll 56 = .ok (.iload_n 3, 1) := by decide +kernel
theorem dX9_moveAll_57 : decode cX9_moveAll 57 = .ok (.iconst 2, 1) := by decide +kernel
theorem dX9_moveAll_58 : decode cX9_moveAll 58 = .ok (.iconst 1, 1) := by decide +kernel
theorem dX9_moveAll_59 : decode cX9_moveAll 59 = .ok (.invokevirtual 179, 3) := by decide +kernel
theorem dX9_moveAll_62 : decode cX9_moveAll 62 = .ok (.ifCond .le 9, 3) := by decide +kernel
theorem dX9_moveAll_65 : decode cX9_moveAll 65 = .ok (.iinc 3 1, 3) := by decide +kernel
theorem dX9_moveAll_68 : decode cX9_moveAll 68 = .ok (.goto (-21), 3) := by decide +kernel
theorem dX9_moveAll_71 : decode cX9_moveAll 71 = .ok (.iinc 1 1, 3) := by decide +kernel
theorem dX9_moveAll_74 : decode cX9_moveAll 74 = .ok (.iload_n 3, 1) := by decide +kernel
theorem dX9_moveAll_75 : decode cX9_moveAll 75 = .ok (.sipush 399, 3) := by decide +kernel
theorem dX9_moveAll_78 : decode cX9_moveAll 78 = .ok (.if_icmp .le 11, 3) := by decide +kernel
theorem dX9_moveAll_81 : decode cX9_moveAll 81 = .ok (.aload_n 0, 1) := by decide +kernel
theorem dX9_moveAll_82 : decode cX9_moveAll 82 = .ok (.iload_n 2, 1) := by decide +kernel
theorem dX9_moveAll_83 : decode cX9_moveAll 83 = .ok (.invokevirtual 194, 3) := by decide +kernel
theorem dX9_moveAll_86 : decode cX9_moveAll 86 = .ok (.goto 19, 3) := by decide +kernel
theorem dX9_moveAll_89 : decode cX9_moveAll 89 = .ok (.aload_n 0, 1) := by decide +kernel
theorem dX9_moveAll_90 : decode cX9_moveAll 90 = .ok (.iload_n 2, 1) := by decide +kernel
theorem dX9_moveAll_91 : decode cX9_moveAll 91 = .ok (.iload_n 3, 1) := by decide +kernel
theorem dX9_moveAll_92 : decode cX9_moveAll 92 = .ok (.invokevirtual 190, 3) := by decide +kernel
theorem dX9_moveAll_95 : decode cX9_moveAll 95 = .ok (.aload_n 0, 1) := by decide +kernel
theorem dX9_moveAll_96 : decode cX9_moveAll 96 = .ok (.getfield 84, 3) := by decide +kernel
theorem dX9_moveAll_99 : decode cX9_moveAll 99 = .ok (.iload_n 2, 1) := by decide +kernel
theorem dX9_moveAll_100 : decode cX9_moveAll 100 = .ok (.dup2, 1) := by decide +kernel
theorem dX9_moveAll_101 : decode cX9_moveAll 101 = .ok (.iaload, 1) := by decide +kernel
theorem dX9_moveAll_102 : decode cX9_moveAll 102 = .ok (.iconst 1, 1) := by decide +kernel
theorem dX9_moveAll_103 : decode cX9_moveAll 103 = .ok (.iadd, 1) := by decide +kernel
theorem dX9_moveAll_104 : decode cX9_moveAll 104 = .ok (.iastore, 1) := by decide +kernel
theorem dX9_moveAll_105 : decode cX9_moveAll 105 = .ok (.iinc 2 1, 3) := by decide +kernel
theorem dX9_moveAll_108 : decode cX9_moveAll 108 = .ok (.goto (-104), 3) := by decide +kernel
theorem dX9_moveAll_111 : decode cX9_moveAll 111 = .ok (.iload_n 1, 1) := by decide +kernel
theorem dX9_moveAll_112 : decode cX9_moveAll 112 = .ok (.ireturn, 1) := by decide +kernel
theorem dX9_over_0 : decode cX9_over 0 = .ok (.aload_n 0, 1) := by decide +kernel
theorem dX9_over_1 : decode cX9_over 1 = .ok (.iload_n 1, 1) := by decide +kernel
theorem dX9_over_2 : decode cX9_over 2 = .ok (.invokevirtual 114, 3) := by decide +kernel
theorem dX9_over_5 : decode cX9_over 5 = .ok (.ifCond .eq 13, 3) := by decide +kernel
theorem dX9_over_8 : decode cX9_over 8 = .ok (.iload_n 2, 1) := by decide +kernel
theorem dX9_over_9 : decode cX9_over 9 = .ok (.iconst 1, 1) := by decide +kernel
theorem dX9_over_10 : decode cX9_over 10 = .ok (.bipush 30, 2) := by decide +kernel
theorem dX9_over_12 : decode cX9_over 12 = .ok (.invokestatic 97, 3) := by decide +kernel
theorem dX9_over_15 : decode cX9_over 15 = .ok (.ifCond .ne 5, 3) := by decide +kernel
theorem dX9_over_18 : decode cX9_over 18 = .ok (.iconst (-1), 1) := by decide +kernel
theorem dX9_over_19 : decode cX9_over 19 = .ok (.ireturn, 1) := by decide +kernel
theorem dX9_over_20 : decode cX9_over 20 = .ok (.aload_n 0, 1) := by decide +kernel
theorem dX9_over_21 : decode cX9_over 21 = .ok (.getfield 69, 3) := by decide +kernel
theorem dX9_over_24 : decode cX9_over 24 = .ok (.iload_n 1, 1) := by decide +kernel
theorem dX9_over_25 : decode cX9_over 25 = .ok (.iaload, 1) := by decide +kernel
theorem dX9_over_26 : decode cX9_over 26 = .ok (.iconst 2, 1) := by decide +kernel
theorem dX9_over_27 : decode cX9_over 27 = .ok (.if_icmp .eq 6, 3) := by decide +kernel
theorem dX9_over_30 : decode cX9_over 30 = .ok (.bipush (-3), 2) := by decide +kernel
theorem dX9_over_32 : decode cX9_over 32 = .ok (.ireturn, 1) := by decide +kernel
theorem dX9_over_33 : decode cX9_over 33 = .ok (.aload_n 0, 1) := by decide +kernel
theorem dX9_over_34 : decode cX9_over 34 = .ok (.getfield 75, 3) := by decide +kernel
theorem dX9_over_37 : decode cX9_over 37 = .ok (.iload_n 1, 1) := by decide +kernel
theorem dX9_over_38 : decode cX9_over 38 = .ok (.iaload, 1) := by decide +kernel
theorem dX9_over_39 : decode cX9_over 39 = .ok (.iload_n 2, 1) := by decide +kernel
theorem dX9_over_40 : decode cX9_over 40 = .ok (.iadd, 1) := by decide +kernel
theorem dX9_over_41 : decode cX9_over 41 = .ok (.sipush 399, 3) := by decide +kernel
theorem dX9_over_44 : decode cX9_over 44 = .ok (.if_icmp .ge 14, 3) := by decide +kernel
theorem dX9_over_47 : decode cX9_over 47 = .ok (.aload_n 0, 1) := by decide +kernel
theorem dX9_over_48 : decode cX9_over 48 = .ok (.getfield 75, 3) := by decide +kernel
theorem dX9_over_51 : decode cX9_over 51 = .ok (.iload_n 1, 1) := by decide +kernel
theorem dX9_over_52 : decode cX9_over 52 = .ok (.iaload, 1) := by decide +kernel
theorem dX9_over_53 : decode cX9_over 53 = .ok (.iload_n 2, 1) := by decide +kernel
theorem dX9_over_54 : decode cX9_over 54 = .ok (.iadd, 1) := by decide +kernel
theorem dX9_over_55 : decode cX9_over 55 = .ok (.goto 6, 3) := by decide +kernel
theorem dX9_over_58 : decode cX9_over 58 = .ok (.sipush 399, 3) := by decide +kernel
theorem dX9_over_61 : decode cX9_over 61 = .ok (.istore_n 3, 1) := by decide +kernel
theorem dX9_over_62 : decode cX9_over 62 = .ok (.aload_n 0, 1) := by decide +kernel
theorem dX9_over_63 : decode cX9_over 63 = .ok (.getfield 78, 3) := by decide +kernel
theorem dX9_over_66 : decode cX9_over 66 = .ok (.iload_n 1, 1) := by decide +kernel
theorem dX9_over_67 : decode cX9_over 67 = .ok (.dup2, 1) := by decide +kernel
theorem dX9_over_68 : decode cX9_over 68 = .ok (.iaload, 1) := by decide +kernel
theorem dX9_over_69 : decode cX9_over 69 = .ok (.iload_n 3, 1) := by decide +kernel
theorem dX9_over_70 : decode cX9_over 70 = .ok (.aload_n 0, 1) := by decide +kernel
theorem dX9_over_71 : decode cX9_over 71 = .ok (.getfield 75, 3) := by decide +kernel
theorem dX9_over_74 : decode cX9_over 74 = .ok (.iload_n 1, 1) := by decide +kernel
theorem dX9_over_75 : decode cX9_over 75 = .ok (.iaload, 1) := by decide +kernel
theorem dX9_over_76 : decode cX9_over 76 = .ok (.isub, 1) := by decide +kernel
theorem dX9_over_77 : decode cX9_over 77 = .ok (.iadd, 1) := by decide +kernel
theorem dX9_over_78 : decode cX9_over 78 = .ok (.iastore, 1) := by decide +kernel
theorem dX9_over_79 : decode cX9_over 79 = .ok (.aload_n 0, 1) := by decide +kernel
theorem dX9_over_80 : decode cX9_over 80 = .ok (.getfield 75, 3) := by decide +kernel
theorem dX9_over_83 : decode cX9_over 83 = .ok (.iload_n 1, 1) := by decide +kernel
theorem dX9_over_84 : decode cX9_over 84 = .ok (.iload_n 3, 1) := by decide +kernel
theorem dX9_over_85 : decode cX9_over 85 = .ok (.iastore, 1) := by decide +kernel
theorem dX9_over_86 : decode cX9_over 86 = .ok (.aload_n 0, 1) := by decide +kernel
theorem dX9_over_87 : decode cX9_over 87 = .ok (.invokevirtual 198, 3) := by decide +kernel
theorem dX9_over_90 : decode cX9_over 90 = .ok (.ireturn, 1) := by decide +kernel
theorem dX9_crash_0 : decode cX9_crash 0 = .ok (.aload_n 0, 1) := by decide +kernel
theorem dX9_crash_1 : decode cX9_crash 1 = .ok (.iload_n 1, 1) := by decide +kernel
theorem dX9_crash_2 : decode cX9_crash 2 = .ok (.invokevirtual 114, 3) := by decide +kernel
theorem dX9_crash_5 : decode cX9_crash 5 = .ok (.ifCond .ne 5, 3) := by decide +kernel
theorem dX9_crash_8 : decode cX9_crash 8 = .ok (.iconst (-1), 1) := by decide +kernel
theorem dX9_crash_9 : decode cX9_crash 9 = .ok (.ireturn, 1) := by decide +kernel
theorem dX9_crash_10 : decode cX9_crash 10 = .ok (.aload_n 0, 1) := by decide +kernel
theorem dX9_crash_11 : decode cX9_crash 11 = .ok (.getfield 44, 3) := by decide +kernel
theorem dX9_crash_14 : decode cX9_crash 14 = .ok (.iload_n 1, 1) := by decide +kernel
theorem dX9_crash_15 : decode cX9_crash 15 = .ok (.iaload, 1) := by decide +kernel
theorem dX9_crash_16 : decode cX9_crash 16 = .ok (.iconst 2, 1) := by decide +kernel
theorem dX9_crash_17 : decode cX9_crash 17 = .ok (.if_icmp .ne 12, 3) := by decide +kernel
theorem dX9_crash_20 : decode cX9_crash 20 = .ok (.aload_n 0, 1) := by decide +kernel
theorem dX9_crash_21 : decode cX9_crash 21 = .ok (.getfield 69, 3) := by decide +kernel
theorem dX9_crash_24 : decode cX9_crash 24 = .ok (.iload_n 1, 1) := by decide +kernel
theorem dX9_crash_25 : decode cX9_crash 25 = .ok (.iaload, 1) := by decide +kernel
theorem dX9_crash_26 : decode cX9_crash 26 = .ok (.ifCond .eq 6, 3) := by decide +kernel
theorem dX9_crash_29 : decode cX9_crash 29 = .ok (.bipush (-3), 2) := by decide +kernel
theorem dX9_crash_31 : decode cX9_crash 31 = .ok (.ireturn, 1) := by decide +kernel
theorem dX9_crash_32 : decode cX9_crash 32 = .ok (.aload_n 0, 1) := by decide +kernel
theorem dX9_crash_33 : decode cX9_crash 33 = .ok (.getfield 72, 3) := by decide +kernel
theorem dX9_crash_36 : decode cX9_crash 36 = .ok (.iload_n 1, 1) := by decide +kernel
theorem dX9_crash_37 : decode cX9_crash 37 = .ok (.aload_n 0, 1) := by decide +kernel
theorem dX9_crash_38 : decode cX9_crash 38 = .ok (.getfield 154, 3) := by decide +kernel
theorem dX9_crash_41 : decode cX9_crash 41 = .ok (.iastore, 1) := by decide +kernel
theorem dX9_crash_42 : decode cX9_crash 42 = .ok (.aload_n 0, 1) := by decide +kernel
theorem dX9_crash_43 : decode cX9_crash 43 = .ok (.getfield 75, 3) := by decide +kernel
theorem dX9_crash_46 : decode cX9_crash 46 = .ok (.iload_n 1, 1) := by decide +kernel
theorem dX9_crash_47 : decode cX9_crash 47 = .ok (.aload_n 0, 1) := by decide +kernel
theorem dX9_crash_48 : decode cX9_crash 48 = .ok (.getfield 154, 3) := by decide +kernel
theorem dX9_crash_51 : decode cX9_crash 51 = .ok (.aload_n 0, 1) := by decide +kernel
theorem dX9_crash_52 : decode cX9_crash 52 = .ok (.getfield 50, 3) := by decide +kernel
theorem dX9_crash_55 : decode cX9_crash 55 = .ok (.iload_n 1, 1) := by decide +kernel
theorem dX9_crash_56 : decode cX9_crash 56 = .ok (.iaload, 1) := by decide +kernel
theorem dX9_crash_57 : decode cX9_crash 57 = .ok (.iadd, 1) := by decide +kernel
theorem dX9_crash_58 : decode cX9_crash 58 = .ok (.iconst 1, 1) := by decide +kernel
theorem dX9_crash_59 : decode cX9_crash 59 = .ok (.isub, 1) := by decide +kernel
theorem dX9_crash_60 : decode cX9_crash 60 = .ok (.sipush 399, 3) := by decide +kernel
theorem dX9_crash_63 : decode cX9_crash 63 = .ok (.if_icmp .ge 19, 3) := by decide +kernel
theorem dX9_crash_66 : decode cX9_crash 66 = .ok (.aload_n 0, 1) := by decide +kernel
theorem dX9_crash_67 : decode cX9_crash 67 = .ok (.getfield 154, 3) := by decide +kernel
theorem dX9_crash_70 : decode cX9_crash 70 = .ok (.aload_n 0, 1) := by decide +kernel
theorem dX9_crash_71 : decode cX9_crash 71 = .ok (.getfield 50, 3) := by decide +kernel
theorem dX9_crash_74 : decode cX9_crash 74 = .ok (.iload_n 1, 1) := by decide +kernel
theorem dX9_crash_75 : decode cX9_crash 75 = .ok (.iaload, 1) := by decide +kernel
theorem dX9_crash_76 : decode cX9_crash 76 = .ok (.iadd, 1) := by decide +kernel
theorem dX9_crash_77 : decode cX9_crash 77 = .ok (.iconst 1, 1) := by decide +kernel
theorem dX9_crash_78 : decode cX9_crash 78 = .ok (.isub, 1) := by decide +kernel
theorem dX9_crash_79 : decode cX9_crash 79 = .ok (.goto 6, 3) := by decide +kernel
theorem dX9_crash_82 : decode cX9_crash 82 = .ok (.sipush 399, 3) := by decide +kernel
theorem dX9_crash_85 : decode cX9_crash 85 = .ok (.iastore, 1) := by decide +kernel
theorem dX9_crash_86 : decode cX9_crash 86 = .ok (.aload_n 0, 1) := by decide +kernel
theorem dX9_crash_87 : decode cX9_crash 87 = .ok (.getfield 69, 3) := by decide +kernel
theorem dX9_crash_90 : decode cX9_crash 90 = .ok (.iload_n 1, 1) := by decide +kernel
theorem dX9_crash_91 : decode cX9_crash 91 = .ok (.iconst 2, 1) := by decide +kernel
theorem dX9_crash_92 : decode cX9_crash 92 = .ok (.iastore, 1) := by decide +kernel
theorem dX9_crash_93 : decode cX9_crash 93 = .ok (.aload_n 0, 1) := by decide +kernel
theorem dX9_crash_94 : decode cX9_crash 94 = .ok (.invokevirtual 198, 3) := by decide +kernel
theorem dX9_crash_97 : decode cX9_crash 97 = .ok (.ireturn, 1) := by decide +kernel
theorem dX9_join_0 : decode cX9_join 0 = .ok (.aload_n 0, 1) := by decide +kernel
theorem dX9_join_1 : decode cX9_join 1 = .ok (.iload_n 1, 1) := by decide +kernel
theorem dX9_join_2 : decode cX9_join 2 = .ok (.invokevirtual 114, 3) := by decide +kernel
theorem dX9_join_5 : decode cX9_join 5 = .ok (.ifCond .eq 16, 3) := by decide +kernel
theorem dX9_join_8 : decode cX9_join 8 = .ok (.aload_n 0, 1) := by decide +kernel
theorem dX9_join_9 : decode cX9_join 9 = .ok (.iload_n 2, 1) := by decide +kernel
theorem dX9_join_10 : decode cX9_join 10 = .ok (.invokevirtual 114, 3) := by decide +kernel
theorem dX9_join_13 : decode cX9_join 13 = .ok (.ifCond .eq 8, 3) := by decide +kernel
theorem dX9_join_16 : decode cX9_join 16 = .ok (.iload_n 1, 1) := by decide +kernel
theorem dX9_join_17 : decode cX9_join 17 = .ok (.iload_n 2, 1) := by decide +kernel
theorem dX9_join_18 : decode cX9_join 18 = .ok (.if_icmp .ne 5, 3) := by decide +kernel
theorem dX9_join_21 : decode cX9_join 21 = .ok (.iconst (-1), 1) := by decide +kernel
theorem dX9_join_22 : decode cX9_join 22 = .ok (.ireturn, 1) := by decide +kernel
theorem dX9_join_23 : decode cX9_join 23 = .ok (.aload_n 0, 1) := by decide +kernel
theorem dX9_join_24 : decode cX9_join 24 = .ok (.getfield 44, 3) := by decide +kernel
theorem dX9_join_27 : decode cX9_join 27 = .ok (.iload_n 1, 1) := by decide +kernel
theorem dX9_join_28 : decode cX9_join 28 = .ok (.iaload, 1) := by decide +kernel
theorem dX9_join_29 : decode cX9_join 29 = .ok (.iconst 1, 1) := by decide +kernel
theorem dX9_join_30 : decode cX9_join 30 = .ok (.if_icmp .ne 83, 3) := by decide +kernel
theorem dX9_join_33 : decode cX9_join 33 = .ok (.aload_n 0, 1) := by decide +kernel
theorem dX9_join_34 : decode cX9_join 34 = .ok (.getfield 44, 3) := by decide +kernel
theorem dX9_join_37 : decode cX9_join 37 = .ok (.iload_n 2, 1) := by decide +kernel
theorem dX9_join_38 : decode cX9_join 38 = .ok (.iaload, 1) := by decide +kernel
theorem dX9_join_39 : decode cX9_join 39 = .ok (.iconst 1, 1) := by decide +kernel
theorem dX9_join_40 : decode cX9_join 40 = .ok (.if_icmp .ne 73, 3) := by decide +kernel
theorem dX9_join_43 : decode cX9_join 43 = .ok (.aload_n 0, 1) := by decide +kernel
theorem dX9_join_44 : decode cX9_join 44 = .ok (.getfield 41, 3) := by decide +kernel
theorem dX9_join_47 : decode cX9_join 47 = .ok (.iload_n 1, 1) := by decide +kernel
theorem dX9_join_48 : decode cX9_join 48 = .ok (.iaload, 1) := by decide +kernel
theorem dX9_join_49 : decode cX9_join 49 = .ok (.aload_n 0, 1) := by decide +kernel
theorem dX9_join_50 : decode cX9_join 50 = .ok (.getfield 41, 3) := by decide +kernel
theorem dX9_join_53 : decode cX9_join 53 = .ok (.iload_n 2, 1) := by decide +kernel
theorem dX9_join_54 : decode cX9_join 54 = .ok (.iaload, 1) := by decide +kernel
theorem dX9_join_55 : decode cX9_join 55 = .ok (.if_icmp .eq 58, 3) := by decide +kernel
theorem dX9_join_58 : decode cX9_join 58 = .ok (.aload_n 0, 1) := by decide +kernel
theorem dX9_join_59 : decode cX9_join 59 = .ok (.getfield 69, 3) := by decide +kernel
theorem dX9_join_62 : decode cX9_join 62 = .ok (.iload_n 1, 1) := by decide +kernel
theorem dX9_join_63 : decode cX9_join 63 = .ok (.iaload, 1) := by decide +kernel
theorem dX9_join_64 : decode cX9_join 64 = .ok (.iconst 1, 1) := by decide +kernel
theorem dX9_join_65 : decode cX9_join 65 = .ok (.if_icmp .gt 48, 3) := by decide +kernel
theorem dX9_join_68 : decode cX9_join 68 = .ok (.aload_n 0, 1) := by decide +kernel
theorem dX9_join_69 : decode cX9_join 69 = .ok (.getfield 69, 3) := by decide +kernel
theorem dX9_join_72 : decode cX9_join 72 = .ok (.iload_n 2, 1) := by decide +kernel
theorem dX9_join_73 : decode cX9_join 73 = .ok (.iaload, 1) := by decide +kernel
theorem dX9_join_74 : decode cX9_join 74 = .ok (.iconst 1, 1) := by decide +kernel
theorem dX9_join_75 : decode cX9_join 75 = .ok (.if_icmp .gt 38, 3) := by decide +kernel
theorem dX9_join_78 : decode cX9_join 78 = .ok (.aload_n 0, 1) := by decide +kernel
theorem dX9_join_79 : decode cX9_join 79 = .ok (.getfield 59, 3) := by decide +kernel
theorem dX9_join_82 : decode cX9_join 82 = .ok (.iload_n 1, 1) := by decide +kernel
theorem dX9_join_83 : decode cX9_join 83 = .ok (.laload, 1) := by decide +kernel
theorem dX9_join_84 : decode cX9_join 84 = .ok (.aload_n 0, 1) := by decide +kernel
theorem dX9_join_85 : decode cX9_join 85 = .ok (.getfield 59, 3) := by decide +kernel
theorem dX9_join_88 : decode cX9_join 88 = .ok (.iload_n 2, 1) := by decide +kernel
theorem dX9_join_89 : decode cX9_join 89 = .ok (.laload, 1) := by decide +kernel
theorem dX9_join_90 : decode cX9_join 90 = .ok (.lcmp, 1) := by decide +kernel
theorem dX9_join_91 : decode cX9_join 91 = .ok (.ifCond .ne 22, 3) := by decide +kernel
theorem dX9_join_94 : decode cX9_join 94 = .ok (.aload_n 0, 1) := by decide +kernel
theorem dX9_join_95 : decode cX9_join 95 = .ok (.getfield 53, 3) := by decide +kernel
theorem dX9_join_98 : decode cX9_join 98 = .ok (.iload_n 1, 1) := by decide +kernel
theorem dX9_join_99 : decode cX9_join 99 = .ok (.iaload, 1) := by decide +kernel
theorem dX9_join_100 : decode cX9_join 100 = .ok (.aload_n 0, 1) := by decide +kernel
theorem dX9_join_101 : decode cX9_join 101 = .ok (.getfield 53, 3) := by decide +kernel
theorem dX9_join_104 : decode cX9_join 104 = .ok (.iload_n 2, 1) := by decide +kernel
theorem dX9_join_105 : decode cX9_join 105 = .ok (.iaload, 1) := by decide +kernel
theorem dX9_join_106 : decode cX9_join 106 = .ok (.if_icmp .eq 7, 3) := by decide +kernel
theorem dX9_join_109 : decode cX9_join 109 = .ok (.iconst 1, 1) := by decide +kernel
theorem dX9_join_110 : decode cX9_join 110 = .ok (.goto 4, 3) := by decide +kernel
theorem dX9_join_113 : decode cX9_join 113 = .ok (.iconst 0, 1) := by decide +kernel
theorem dX9_join_114 : decode cX9_join 114 = .ok (.istore_n 3, 1) := by decide +kernel
theorem dX9_join_115 : decode cX9_join 115 = .ok (.iload_n 3, 1) := by decide +kernel
theorem dX9_join_116 : decode cX9_join 116 = .ok (.ifCond .eq 21, 3) := by decide +kernel
theorem dX9_join_119 : decode cX9_join 119 = .ok (.aload_n 0, 1) := by decide +kernel
theorem dX9_join_120 : decode cX9_join 120 = .ok (.getfield 81, 3) := by decide +kernel
theorem dX9_join_123 : decode cX9_join 123 = .ok (.iload_n 1, 1) := by decide +kernel
theorem dX9_join_124 : decode cX9_join 124 = .ok (.iaload, 1) := by decide +kernel
theorem dX9_join_125 : decode cX9_join 125 = .ok (.ifCond .ge 12, 3) := by decide +kernel
theorem dX9_join_128 : decode cX9_join 128 = .ok (.aload_n 0, 1) := by decide +kernel
theorem dX9_join_129 : decode cX9_join 129 = .ok (.getfield 81, 3) := by decide +kernel
theorem dX9_join_132 : decode cX9_join 132 = .ok (.iload_n 2, 1) := by decide +kernel
theorem dX9_join_133 : decode cX9_join 133 = .ok (.iaload, 1) := by decide +kernel
theorem dX9_join_134 : decode cX9_join 134 = .ok (.ifCond .lt 6, 3) := by decide +kernel
theorem dX9_join_137 : decode cX9_join 137 = .ok (.bipush (-3), 2) := by decide +kernel
theorem dX9_join_139 : decode cX9_join 139 = .ok (.ireturn, 1) := by decide +kernel
theorem dX9_join_140 : decode cX9_join 140 = .ok (.aload_n 0, 1) := by decide +kernel
theorem dX9_join_141 : decode cX9_join 141 = .ok (.getfield 81, 3) := by decide +kernel
theorem dX9_join_144 : decode cX9_join 144 = .ok (.iload_n 1, 1) := by decide +kernel
theorem dX9_join_145 : decode cX9_join 145 = .ok (.iload_n 2, 1) := by decide +kernel
theorem dX9_join_146 : decode cX9_join 146 = .ok (.iastore, 1) := by decide +kernel
theorem dX9_join_147 : decode cX9_join 147 = .ok (.aload_n 0, 1) := by decide +kernel
theorem dX9_join_148 : decode cX9_join 148 = .ok (.getfield 81, 3) := by decide +kernel
theorem dX9_join_151 : decode cX9_join 151 = .ok (.iload_n 2, 1) := by decide +kernel
theorem dX9_join_152 : decode cX9_join 152 = .ok (.iload_n 1, 1) := by decide +kernel
theorem dX9_join_153 : decode cX9_join 153 = .ok (.iastore, 1) := by decide +kernel
theorem dX9_join_154 : decode cX9_join 154 = .ok (.iconst 1, 1) := by decide +kernel
theorem dX9_join_155 : decode cX9_join 155 = .ok (.ireturn, 1) := by decide +kernel
theorem dX9_ranks_0 : decode cX9_ranks 0 = .ok (.iconst 0, 1) := by decide +kernel
theorem dX9_ranks_1 : decode cX9_ranks 1 = .ok (.istore_n 2, 1) := by decide +kernel
theorem dX9_ranks_2 : decode cX9_ranks 2 = .ok (.iconst 0, 1) := by decide +kernel
theorem dX9_ranks_3 : decode cX9_ranks 3 = .ok (.istore_n 3, 1) := by decide +kernel
theorem dX9_ranks_4 : decode cX9_ranks 4 = .ok (.iload_n 3, 1) := by decide +kernel
theorem dX9_ranks_5 : decode cX9_ranks 5 = .ok (.aload_n 0, 1) := by decide +kernel
theorem dX9_ranks_6 : decode cX9_ranks 6 = .ok (.getfield 101, 3) := by decide +kernel
theorem dX9_ranks_9 : decode cX9_ranks 9 = .ok (.if_icmp .ge 31, 3) := by decide +kernel
theorem dX9_ranks_12 : decode cX9_ranks 12 = .ok (.iload_n 2, 1) := by decide +kernel
theorem dX9_ranks_13 : decode cX9_ranks 13 = .ok (.aload_n 0, 1) := by decide +kernel
theorem dX9_ranks_14 : decode cX9_ranks 14 = .ok (.iload_n 1, 1) := by decide +kernel
theorem dX9_ranks_15 : decode cX9_ranks 15 = .ok (.iload_n 3, 1) := by decide +kernel
theorem dX9_ranks_16 : decode cX9_ranks 16 = .ok (.invokevirtual 117, 3) := by decide +kernel
theorem dX9_ranks_19 : decode cX9_ranks 19 = .ok (.ifCond .eq 12, 3) := by decide +kernel
theorem dX9_ranks_22 : decode cX9_ranks 22 = .ok (.aload_n 0, 1) := by decide +kernel
theorem dX9_ranks_23 : decode cX9_ranks 23 = .ok (.getfield 19, 3) := by decide +kernel
theorem dX9_ranks_26 : decode cX9_ranks 26 = .ok (.iload_n 3, 1) := by decide +kernel
theorem dX9_ranks_27 : decode cX9_ranks 27 = .ok (.iaload, 1) := by decide +kernel
theorem dX9_ranks_28 : decode cX9_ranks 28 = .ok (.goto 4, 3) := by decide +kernel
theorem dX9_ranks_31 : decode cX9_ranks 31 = .ok (.iconst 0, 1) := by decide +kernel
theorem dX9_ranks_32 : decode cX9_ranks 32 = .ok (.iadd, 1) := by decide +kernel
theorem dX9_ranks_33 : decode cX9_ranks 33 = .ok (.istore_n 2, 1) := by decide +kernel
theorem dX9_ranks_34 : decode cX9_ranks 34 = .ok (.iinc 3 1, 3) := by decide +kernel
theorem dX9_ranks_37 : decode cX9_ranks 37 = .ok (.goto (-33), 3) := by decide +kernel
theorem dX9_ranks_40 : decode cX9_ranks 40 = .ok (.iload_n 2, 1) := by decide +kernel
theorem dX9_ranks_41 : decode cX9_ranks 41 = .ok (.ireturn, 1) := by decide +kernel
theorem dX9_cost_0 : decode cX9_cost 0 = .ok (.aload_n 0, 1) := by decide +kernel
theorem dX9_cost_1 : decode cX9_cost 1 = .ok (.getfield 50, 3) := by decide +kernel
theorem dX9_cost_4 : decode cX9_cost 4 = .ok (.iload_n 1, 1) := by decide +kernel
theorem dX9_cost_5 : decode cX9_cost 5 = .ok (.iaload, 1) := by decide +kernel
theorem dX9_cost_6 : decode cX9_cost 6 = .ok (.aload_n 0, 1) := by decide +kernel
theorem dX9_cost_7 : decode cX9_cost 7 = .ok (.getfield 66, 3) := by decide +kernel
theorem dX9_cost_10 : decode cX9_cost 10 = .ok (.iload_n 1, 1) := by decide +kernel
theorem dX9_cost_11 : decode cX9_cost 11 = .ok (.iaload, 1) := by decide +kernel
theorem dX9_cost_12 : decode cX9_cost 12 = .ok (.bipush 20, 2) := by decide +kernel
theorem dX9_cost_14 : decode cX9_cost 14 = .ok (.iconst 5, 1) := by decide +kernel
theorem dX9_cost_15 : decode cX9_cost 15 = .ok (.aload_n 0, 1) := by decide +kernel
theorem dX9_cost_16 : decode cX9_cost 16 = .ok (.getfield 47, 3) := by decide +kernel
theorem dX9_cost_19 : decode cX9_cost 19 = .ok (.iload_n 1, 1) := by decide +kernel
theorem dX9_cost_20 : decode cX9_cost 20 = .ok (.iaload, 1) := by decide +kernel
theorem dX9_cost_21 : decode cX9_cost 21 = .ok (.imul, 1) := by decide +kernel
theorem dX9_cost_22 : decode cX9_cost 22 = .ok (.iadd, 1) := by decide +kernel
theorem dX9_cost_23 : decode cX9_cost 23 = .ok (.imul, 1) := by decide +kernel
theorem dX9_cost_24 : decode cX9_cost 24 = .ok (.bipush 10, 2) := by decide +kernel
theorem dX9_cost_26 : decode cX9_cost 26 = .ok (.aload_n 0, 1) := by decide +kernel
theorem dX9_cost_27 : decode cX9_cost 27 = .ok (.iload_n 1, 1) := by decide +kernel
theorem dX9_cost_28 : decode cX9_cost 28 = .ok (.invokevirtual 202, 3) := by decide +kernel
theorem dX9_cost_31 : decode cX9_cost 31 = .ok (.imul, 1) := by decide +kernel
theorem dX9_cost_32 : decode cX9_cost 32 = .ok (.iadd, 1) := by decide +kernel
theorem dX9_cost_33 : decode cX9_cost 33 = .ok (.imul, 1) := by decide +kernel
theorem dX9_cost_34 : decode cX9_cost 34 = .ok (.ireturn, 1) := by decide +kernel
theorem dX9_pays_0 : decode cX9_pays 0 = .ok (.aload_n 0, 1) := by decide +kernel
theorem dX9_pays_1 : decode cX9_pays 1 = .ok (.getfield 81, 3) := by decide +kernel
theorem dX9_pays_4 : decode cX9_pays 4 = .ok (.iload_n 1, 1) := by decide +kernel
theorem dX9_pays_5 : decode cX9_pays 5 = .ok (.iaload, 1) := by decide +kernel
theorem dX9_pays_6 : decode cX9_pays 6 = .ok (.istore_n 2, 1) := by decide +kernel
theorem dX9_pays_7 : decode cX9_pays 7 = .ok (.iload_n 2, 1) := by decide +kernel
theorem dX9_pays_8 : decode cX9_pays 8 = .ok (.ifCond .ge 9, 3) := by decide +kernel
theorem dX9_pays_11 : decode cX9_pays 11 = .ok (.aload_n 0, 1) := by decide +kernel
theorem dX9_pays_12 : decode cX9_pays 12 = .ok (.iload_n 1, 1) := by decide +kernel
theorem dX9_pays_13 : decode cX9_pays 13 = .ok (.invokevirtual 205, 3) := by decide +kernel
theorem dX9_pays_16 : decode cX9_pays 16 = .ok (.ireturn, 1) := by decide +kernel
theorem dX9_pays_17 : decode cX9_pays 17 = .ok (.aload_n 0, 1) := by decide +kernel
theorem dX9_pays_18 : decode cX9_pays 18 = .ok (.iload_n 1, 1) := by decide +kernel
theorem dX9_pays_19 : decode cX9_pays 19 = .ok (.invokevirtual 205, 3) := by decide +kernel
theorem dX9_pays_22 : decode cX9_pays 22 = .ok (.istore_n 3, 1) := by decide +kernel
theorem dX9_pays_23 : decode cX9_pays 23 = .ok (.aload_n 0, 1) := by decide +kernel
theorem dX9_pays_24 : decode cX9_pays 24 = .ok (.iload_n 2, 1) := by decide +kernel
theorem dX9_pays_25 : decode cX9_pays 25 = .ok (.invokevirtual 205, 3) := by decide +kernel
theorem dX9_pays_28 : decode cX9_pays 28 = .ok (.istore 4, 2) := by decide +kernel
theorem dX9_pays_30 : decode cX9_pays 30 = .ok (.iload_n 3, 1) := by decide +kernel
theorem dX9_pays_31 : decode cX9_pays 31 = .ok (.iload 4, 2) := by decide +kernel
theorem dX9_pays_33 : decode cX9_pays 33 = .ok (.if_icmp .le 13, 3) := by decide +kernel
theorem dX9_pays_36 : decode cX9_pays 36 = .ok (.iload_n 3, 1) := by decide +kernel
theorem dX9_pays_37 : decode cX9_pays 37 = .ok (.iload 4, 2) := by decide +kernel
theorem dX9_pays_39 : decode cX9_pays 39 = .ok (.iconst 4, 1) := by decide +kernel
theorem dX9_pays_40 : decode cX9_pays 40 = .ok (.idiv, 1) := by decide +kernel
theorem dX9_pays_41 : decode cX9_pays 41 = .ok (.iadd, 1) := by decide +kernel
theorem dX9_pays_42 : decode cX9_pays 42 = .ok (.i2l, 1) := by decide +kernel
theorem dX9_pays_43 : decode cX9_pays 43 = .ok (.goto 10, 3) := by decide +kernel
theorem dX9_pays_46 : decode cX9_pays 46 = .ok (.iload 4, 2) := by decide +kernel
theorem dX9_pays_48 : decode cX9_pays 48 = .ok (.iload_n 3, 1) := by decide +kernel
theorem dX9_pays_49 : decode cX9_pays 49 = .ok (.iconst 4, 1) := by decide +kernel
theorem dX9_pays_50 : decode cX9_pays 50 = .ok (.idiv, 1) := by decide +kernel
theorem dX9_pays_51 : decode cX9_pays 51 = .ok (.iadd, 1) := by decide +kernel
theorem dX9_pays_52 : decode cX9_pays 52 = .ok (.i2l, 1) := by decide +kernel
theorem dX9_pays_53 : decode cX9_pays 53 = .ok (.lstore 5, 2) := by decide +kernel
theorem dX9_pays_55 : decode cX9_pays 55 = .ok (.iload 4, 2) := by decide +kernel
theorem dX9_pays_57 : decode cX9_pays 57 = .ok (.i2l, 1) := by decide +kernel
theorem dX9_pays_58 : decode cX9_pays 58 = .ok (.lload 5, 2) := by decide +kernel
theorem dX9_pays_60 : decode cX9_pays 60 = .ok (.lmul, 1) := by decide +kernel
theorem dX9_pays_61 : decode cX9_pays 61 = .ok (.iload_n 3, 1) := by decide +kernel
theorem dX9_pays_62 : decode cX9_pays 62 = .ok (.iload 4, 2) := by decide +kernel
theorem dX9_pays_64 : decode cX9_pays 64 = .ok (.iadd, 1) := by decide +kernel
theorem dX9_pays_65 : decode cX9_pays 65 = .ok (.i2l, 1) := by decide +kernel
theorem dX9_pays_66 : decode cX9_pays 66 = .ok (.ldiv, 1) := by decide +kernel
theorem dX9_pays_67 : decode cX9_pays 67 = .ok (.lstore 7, 2) := by decide +kernel
theorem dX9_pays_69 : decode cX9_pays 69 = .ok (.iload_n 1, 1) := by decide +kernel
theorem dX9_pays_70 : decode cX9_pays 70 = .ok (.iload_n 2, 1) := by decide +kernel
theorem dX9_pays_71 : decode cX9_pays 71 = .ok (.if_icmp .ge 11, 3) := by decide +kernel
theorem dX9_pays_74 : decode cX9_pays 74 = .ok (.lload 5, 2) := by decide +kernel
theorem dX9_pays_76 : decode cX9_pays 76 = .ok (.lload 7, 2) := by decide +kernel
theorem dX9_pays_78 : decode cX9_pays 78 = .ok (.lsub, 1) := by decide +kernel
theorem dX9_pays_79 : decode cX9_pays 79 = .ok (.goto 14, 3) := by decide +kernel
theorem dX9_pays_82 : decode cX9_pays 82 = .ok (.iload_n 3, 1) := by decide +kernel
theorem dX9_pays_83 : decode cX9_pays 83 = .ok (.i2l, 1) := by decide +kernel
theorem dX9_pays_84 : decode cX9_pays 84 = .ok (.lload 5, 2) := by decide +kernel
theorem dX9_pays_86 : decode cX9_pays 86 = .ok (.lmul, 1) := by decide +kernel
theorem dX9_pays_87 : decode cX9_pays 87 = .ok (.iload_n 3, 1) := by decide +kernel
theorem dX9_pays_88 : decode cX9_pays 88 = .ok (.iload 4, 2) := by decide +kernel
theorem dX9_pays_90 : decode cX9_pays 90 = .ok (.iadd, 1) := by decide +kernel
theorem dX9_pays_91 : decode cX9_pays 91 = .ok (.i2l, 1) := by decide +kernel
theorem dX9_pays_92 : decode cX9_pays 92 = .ok (.ldiv, 1) := by decide +kernel
theorem dX9_pays_93 : decode cX9_pays 93 = .ok (.l2i, 1) := by decide +kernel
theorem dX9_pays_94 : decode cX9_pays 94 = .ok (.ireturn, 1) := by decide +kernel
theorem dX9_delay_0 : decode cX9_delay 0 = .ok (.aload_n 0, 1) := by decide +kernel
theorem dX9_delay_1 : decode cX9_delay 1 = .ok (.iload_n 1, 1) := by decide +kernel
theorem dX9_delay_2 : decode cX9_delay 2 = .ok (.invokevirtual 121, 3) := by decide +kernel
theorem dX9_delay_5 : decode cX9_delay 5 = .ok (.ifCond .eq 41, 3) := by decide +kernel
theorem dX9_delay_8 : decode cX9_delay 8 = .ok (.aload_n 0, 1) := by decide +kernel
theorem dX9_delay_9 : decode cX9_delay 9 = .ok (.getfield 72, 3) := by decide +kernel
theorem dX9_delay_12 : decode cX9_delay 12 = .ok (.iload_n 1, 1) := by decide +kernel
theorem dX9_delay_13 : decode cX9_delay 13 = .ok (.iaload, 1) := by decide +kernel
theorem dX9_delay_14 : decode cX9_delay 14 = .ok (.aload_n 0, 1) := by decide +kernel
theorem dX9_delay_15 : decode cX9_delay 15 = .ok (.getfield 56, 3) := by decide +kernel
theorem dX9_delay_18 : decode cX9_delay 18 = .ok (.iload_n 1, 1) := by decide +kernel
theorem dX9_delay_19 : decode cX9_delay 19 = .ok (.iaload, 1) := by decide +kernel
theorem dX9_delay_20 : decode cX9_delay 20 = .ok (.if_icmp .le 26, 3) := by decide +kernel
theorem dX9_delay_23 : decode cX9_delay 23 = .ok (.aload_n 0, 1) := by decide +kernel
theorem dX9_delay_24 : decode cX9_delay 24 = .ok (.getfield 72, 3) := by decide +kernel
theorem dX9_delay_27 : decode cX9_delay 27 = .ok (.iload_n 1, 1) := by decide +kernel
theorem dX9_delay_28 : decode cX9_delay 28 = .ok (.iaload, 1) := by decide +kernel
theorem dX9_delay_29 : decode cX9_delay 29 = .ok (.aload_n 0, 1) := by decide +kernel
theorem dX9_delay_30 : decode cX9_delay 30 = .ok (.getfield 56, 3) := by decide +kernel
theorem dX9_delay_33 : decode cX9_delay 33 = .ok (.iload_n 1, 1) := by decide +kernel
theorem dX9_delay_34 : decode cX9_delay 34 = .ok (.iaload, 1) := by decide +kernel
theorem dX9_delay_35 : decode cX9_delay 35 = .ok (.isub, 1) := by decide +kernel
theorem dX9_delay_36 : decode cX9_delay 36 = .ok (.aload_n 0, 1) := by decide +kernel
theorem dX9_delay_37 : decode cX9_delay 37 = .ok (.getfield 47, 3) := by decide +kernel
theorem dX9_delay_40 : decode cX9_delay 40 = .ok (.iload_n 1, 1) := by decide +kernel
theorem dX9_delay_41 : decode cX9_delay 41 = .ok (.iaload, 1) := by decide +kernel
theorem dX9_delay_42 : decode cX9_delay 42 = .ok (.imul, 1) := by decide +kernel
theorem dX9_delay_43 : decode cX9_delay 43 = .ok (.goto 4, 3) := by decide +kernel
theorem dX9_delay_46 : decode cX9_delay 46 = .ok (.iconst 0, 1) := by decide +kernel
theorem dX9_delay_47 : decode cX9_delay 47 = .ok (.ireturn, 1) := by decide +kernel
theorem dX9_about_0 : decode cX9_about 0 = .ok (.aload_n 0, 1) := by decide +kernel
theorem dX9_about_1 : decode cX9_about 1 = .ok (.iload_n 1, 1) := by decide +kernel
theorem dX9_about_2 : decode cX9_about 2 = .ok (.invokevirtual 114, 3) := by decide +kernel
theorem dX9_about_5 : decode cX9_about 5 = .ok (.ifCond .ne 6, 3) := by decide +kernel
theorem dX9_about_8 : decode cX9_about 8 = .ok (.bipush (-5), 2) := by decide +kernel
theorem dX9_about_10 : decode cX9_about 10 = .ok (.ireturn, 1) := by decide +kernel
theorem dX9_about_11 : decode cX9_about 11 = .ok (.iload_n 2, 1) := by decide +kernel
theorem dX9_about_12 : decode cX9_about 12 = .ok (.tableswitch 146 0 10 #[60, 67, 74, 81, 88, 94, 100, 119, 125, 132, 139], 60) := by decide +kernel
theorem dX9_about_72 : decode cX9_about 72 = .ok (.aload_n 0, 1) := by decide +kernel
theorem dX9_about_73 : decode cX9_about 73 = .ok (.getfield 69, 3) := by decide +kernel
theorem dX9_about_76 : decode cX9_about 76 = .ok (.iload_n 1, 1) := by decide +kernel
theorem dX9_about_77 : decode cX9_about 77 = .ok (.iaload, 1) := by decide +kernel
theorem dX9_about_78 : decode cX9_about 78 = .ok (.ireturn, 1) := by decide +kernel
theorem dX9_about_79 : decode cX9_about 79 = .ok (.aload_n 0, 1) := by decide +kernel
theorem dX9_about_80 : decode cX9_about 80 = .ok (.getfield 72, 3) := by decide +kernel
theorem dX9_about_83 : decode cX9_about 83 = .ok (.iload_n 1, 1) := by decide +kernel
theorem dX9_about_84 : decode cX9_about 84 = .ok (.iaload, 1) := by decide +kernel
theorem dX9_about_85 : decode cX9_about 85 = .ok (.ireturn, 1) := by decide +kernel
theorem dX9_about_86 : decode cX9_about 86 = .ok (.aload_n 0, 1) := by decide +kernel
theorem dX9_about_87 : decode cX9_about 87 = .ok (.getfield 75, 3) := by decide +kernel
theorem dX9_about_90 : decode cX9_about 90 = .ok (.iload_n 1, 1) := by decide +kernel
theorem dX9_about_91 : decode cX9_about 91 = .ok (.iaload, 1) := by decide +kernel
theorem dX9_about_92 : decode cX9_about 92 = .ok (.ireturn, 1) := by decide +kernel
theorem dX9_about_93 : decode cX9_about 93 = .ok (.aload_n 0, 1) := by decide +kernel
theorem dX9_about_94 : decode cX9_about 94 = .ok (.getfield 78, 3) := by decide +kernel
theorem dX9_about_97 : decode cX9_about 97 = .ok (.iload_n 1, 1) := by decide +kernel
theorem dX9_about_98 : decode cX9_about 98 = .ok (.iaload, 1) := by decide +kernel
theorem dX9_about_99 : decode cX9_about 99 = .ok (.ireturn, 1) := by decide +kernel
theorem dX9_about_100 : decode cX9_about 100 = .ok (.aload_n 0, 1) := by decide +kernel
theorem dX9_about_101 : decode cX9_about 101 = .ok (.iload_n 1, 1) := by decide +kernel
theorem dX9_about_102 : decode cX9_about 102 = .ok (.invokevirtual 205, 3) := by decide +kernel
theorem dX9_about_105 : decode cX9_about 105 = .ok (.ireturn, 1) := by decide +kernel
theorem dX9_about_106 : decode cX9_about 106 = .ok (.aload_n 0, 1) := by decide +kernel
theorem dX9_about_107 : decode cX9_about 107 = .ok (.iload_n 1, 1) := by decide +kernel
theorem dX9_about_108 : decode cX9_about 108 = .ok (.invokevirtual 208, 3) := by decide +kernel
theorem dX9_about_111 : decode cX9_about 111 = .ok (.ireturn, 1) := by decide +kernel
theorem dX9_about_112 : decode cX9_about 112 = .ok (.aload_n 0, 1) := by decide +kernel
theorem dX9_about_113 : decode cX9_about 113 = .ok (.getfield 78, 3) := by decide +kernel
theorem dX9_about_116 : decode cX9_about 116 = .ok (.iload_n 1, 1) := by decide +kernel
theorem dX9_about_117 : decode cX9_about 117 = .ok (.iaload, 1) := by decide +kernel
theorem dX9_about_118 : decode cX9_about 118 = .ok (.bipush 10, 2) := by decide +kernel
theorem dX9_about_120 : decode cX9_about 120 = .ok (.aload_n 0, 1) := by decide +kernel
theorem dX9_about_121 : decode cX9_about 121 = .ok (.iload_n 1, 1) := by decide +kernel
theorem dX9_about_122 : decode cX9_about 122 = .ok (.invokevirtual 202, 3) := by decide +kernel
theorem dX9_about_125 : decode cX9_about 125 = .ok (.imul, 1) := by decide +kernel
theorem dX9_about_126 : decode cX9_about 126 = .ok (.bipush 10, 2) := by decide +kernel
theorem dX9_about_128 : decode cX9_about 128 = .ok (.iadd, 1) := by decide +kernel
theorem dX9_about_129 : decode cX9_about 129 = .ok (.imul, 1) := by decide +kernel
theorem dX9_about_130 : decode cX9_about 130 = .ok (.ireturn, 1) := by decide +kernel
theorem dX9_about_131 : decode cX9_about 131 = .ok (.aload_n 0, 1) := by decide +kernel
theorem dX9_about_132 : decode cX9_about 132 = .ok (.iload_n 1, 1) := by decide +kernel
theorem dX9_about_133 : decode cX9_about 133 = .ok (.invokevirtual 211, 3) := by decide +kernel
theorem dX9_about_136 : decode cX9_about 136 = .ok (.ireturn, 1) := by decide +kernel
theorem dX9_about_137 : decode cX9_about 137 = .ok (.aload_n 0, 1) := by decide +kernel
theorem dX9_about_138 : decode cX9_about 138 = .ok (.getfield 81, 3) := by decide +kernel
theorem dX9_about_141 : decode cX9_about 141 = .ok (.iload_n 1, 1) := by decide +kernel
theorem dX9_about_142 : decode cX9_about 142 = .ok (.iaload, 1) := by decide +kernel
theorem dX9_about_143 : decode cX9_about 143 = .ok (.ireturn, 1) := by decide +kernel
theorem dX9_about_144 : decode cX9_about 144 = .ok (.aload_n 0, 1) := by decide +kernel
theorem dX9_about_145 : decode cX9_about 145 = .ok (.getfield 66, 3) := by decide +kernel
theorem dX9_about_148 : decode cX9_about 148 = .ok (.iload_n 1, 1) := by decide +kernel
theorem dX9_about_149 : decode cX9_about 149 = .ok (.iaload, 1) := by decide +kernel
theorem dX9_about_150 : decode cX9_about 150 = .ok (.ireturn, 1) := by decide +kernel
theorem dX9_about_151 : decode cX9_about 151 = .ok (.aload_n 0, 1) := by decide +kernel
theorem dX9_about_152 : decode cX9_about 152 = .ok (.getfield 84, 3) := by decide +kernel
theorem dX9_about_155 : decode cX9_about 155 = .ok (.iload_n 1, 1) := by decide +kernel
theorem dX9_about_156 : decode cX9_about 156 = .ok (.iaload, 1) := by decide +kernel
theorem dX9_about_157 : decode cX9_about 157 = .ok (.ireturn, 1) := by decide +kernel
theorem dX9_about_158 : decode cX9_about 158 = .ok (.bipush (-5), 2) := by decide +kernel
theorem dX9_about_160 : decode cX9_about 160 = .ok (.ireturn, 1) := by decide +kernel
theorem dX9_lanes_0 : decode cX9_lanes 0 = .ok (.aload_n 0, 1) := by decide +kernel
theorem dX9_lanes_1 : decode cX9_lanes 1 = .ok (.iload_n 1, 1) := by decide +kernel
theorem dX9_lanes_2 : decode cX9_lanes 2 = .ok (.invokevirtual 110, 3) := by decide +kernel
theorem dX9_lanes_5 : decode cX9_lanes 5 = .ok (.ifCond .eq 26, 3) := by decide +kernel
theorem dX9_lanes_8 : decode cX9_lanes 8 = .ok (.iload_n 2, 1) := by decide +kernel
theorem dX9_lanes_9 : decode cX9_lanes 9 = .ok (.iconst 0, 1) := by decide +kernel
theorem dX9_lanes_10 : decode cX9_lanes 10 = .ok (.sipush 399, 3) := by decide +kernel
theorem dX9_lanes_13 : decode cX9_lanes 13 = .ok (.invokestatic 97, 3) := by decide +kernel
theorem dX9_lanes_16 : decode cX9_lanes 16 = .ok (.ifCond .eq 15, 3) := by decide +kernel
theorem dX9_lanes_19 : decode cX9_lanes 19 = .ok (.aload_n 0, 1) := by decide +kernel
theorem dX9_lanes_20 : decode cX9_lanes 20 = .ok (.iload_n 1, 1) := by decide +kernel
theorem dX9_lanes_21 : decode cX9_lanes 21 = .ok (.iconst (-1), 1) := by decide +kernel
theorem dX9_lanes_22 : decode cX9_lanes 22 = .ok (.iconst (-1), 1) := by decide +kernel
theorem dX9_lanes_23 : decode cX9_lanes 23 = .ok (.iconst 0, 1) := by decide +kernel
theorem dX9_lanes_24 : decode cX9_lanes 24 = .ok (.iload_n 2, 1) := by decide +kernel
theorem dX9_lanes_25 : decode cX9_lanes 25 = .ok (.invokevirtual 132, 3) := by decide +kernel
theorem dX9_lanes_28 : decode cX9_lanes 28 = .ok (.goto 4, 3) := by decide +kernel
theorem dX9_lanes_31 : decode cX9_lanes 31 = .ok (.iconst (-1), 1) := by decide +kernel
theorem dX9_lanes_32 : decode cX9_lanes 32 = .ok (.ireturn, 1) := by decide +kernel
theorem dX9_way_0 : decode cX9_way 0 = .ok (.iload_n 1, 1) := by decide +kernel
theorem dX9_way_1 : decode cX9_way 1 = .ok (.ifCond .lt 22, 3) := by decide +kernel
theorem dX9_way_4 : decode cX9_way 4 = .ok (.iload_n 1, 1) := by decide +kernel
theorem dX9_way_5 : decode cX9_way 5 = .ok (.aload_n 0, 1) := by decide +kernel
theorem dX9_way_6 : decode cX9_way 6 = .ok (.getfield 104, 3) := by decide +kernel
theorem dX9_way_9 : decode cX9_way 9 = .ok (.if_icmp .ge 14, 3) := by decide +kernel
theorem dX9_way_12 : decode cX9_way 12 = .ok (.iload_n 2, 1) := by decide +kernel
theorem dX9_way_13 : decode cX9_way 13 = .ok (.iconst 0, 1) := by decide +kernel
theorem dX9_way_14 : decode cX9_way 14 = .ok (.sipush 399, 3) := by decide +kernel
theorem dX9_way_17 : decode cX9_way 17 = .ok (.invokestatic 97, 3) := by decide +kernel
theorem dX9_way_20 : decode cX9_way 20 = .ok (.ifCond .ne 5, 3) := by decide +kernel
theorem dX9_way_23 : decode cX9_way 23 = .ok (.iconst (-1), 1) := by decide +kernel
theorem dX9_way_24 : decode cX9_way 24 = .ok (.ireturn, 1) := by decide +kernel
theorem dX9_way_25 : decode cX9_way 25 = .ok (.aload_n 0, 1) := by decide +kernel
theorem dX9_way_26 : decode cX9_way 26 = .ok (.aload_n 0, 1) := by decide +kernel
theorem dX9_way_27 : decode cX9_way 27 = .ok (.getfield 28, 3) := by decide +kernel
theorem dX9_way_30 : decode cX9_way 30 = .ok (.iload_n 1, 1) := by decide +kernel
theorem dX9_way_31 : decode cX9_way 31 = .ok (.iaload, 1) := by decide +kernel
theorem dX9_way_32 : decode cX9_way 32 = .ok (.aload_n 0, 1) := by decide +kernel
theorem dX9_way_33 : decode cX9_way 33 = .ok (.getfield 31, 3) := by decide +kernel
theorem dX9_way_36 : decode cX9_way 36 = .ok (.iload_n 1, 1) := by decide +kernel
theorem dX9_way_37 : decode cX9_way 37 = .ok (.iaload, 1) := by decide +kernel
theorem dX9_way_38 : decode cX9_way 38 = .ok (.aload_n 0, 1) := by decide +kernel
theorem dX9_way_39 : decode cX9_way 39 = .ok (.iconst (-1), 1) := by decide +kernel
theorem dX9_way_40 : decode cX9_way 40 = .ok (.iconst (-1), 1) := by decide +kernel
theorem dX9_way_41 : decode cX9_way 41 = .ok (.iconst 0, 1) := by decide +kernel
theorem dX9_way_42 : decode cX9_way 42 = .ok (.iload_n 2, 1) := by decide +kernel
theorem dX9_way_43 : decode cX9_way 43 = .ok (.invokevirtual 146, 3) := by decide +kernel
theorem dX9_way_46 : decode cX9_way 46 = .ok (.invokevirtual 150, 3) := by decide +kernel
theorem dX9_way_49 : decode cX9_way 49 = .ok (.istore_n 3, 1) := by decide +kernel
theorem dX9_way_50 : decode cX9_way 50 = .ok (.iload_n 3, 1) := by decide +kernel
theorem dX9_way_51 : decode cX9_way 51 = .ok (.ldc 136, 2) := by decide +kernel
theorem dX9_way_53 : decode cX9_way 53 = .ok (.if_icmp .lt 8, 3) := by decide +kernel
theorem dX9_way_56 : decode cX9_way 56 = .ok (.bipush (-5), 2) := by decide +kernel
theorem dX9_way_58 : decode cX9_way 58 = .ok (.goto 4, 3) := by decide +kernel
theorem dX9_way_61 : decode cX9_way 61 = .ok (.iload_n 3, 1) := by decide +kernel
theorem dX9_way_62 : decode cX9_way 62 = .ok (.ireturn, 1) := by decide +kernel
theorem dX9_shut_0 : decode cX9_shut 0 = .ok (.iload_n 1, 1) := by decide +kernel
theorem dX9_shut_1 : decode cX9_shut 1 = .ok (.iconst 0, 1) := by decide +kernel
theorem dX9_shut_2 : decode cX9_shut 2 = .ok (.sipush 399, 3) := by decide +kernel
theorem dX9_shut_5 : decode cX9_shut 5 = .ok (.invokestatic 97, 3) := by decide +kernel
theorem dX9_shut_8 : decode cX9_shut 8 = .ok (.ifCond .ne 5, 3) := by decide +kernel
theorem dX9_shut_11 : decode cX9_shut 11 = .ok (.iconst (-1), 1) := by decide +kernel
theorem dX9_shut_12 : decode cX9_shut 12 = .ok (.ireturn, 1) := by decide +kernel
theorem dX9_shut_13 : decode cX9_shut 13 = .ok (.iconst 0, 1) := by decide +kernel
theorem dX9_shut_14 : decode cX9_shut 14 = .ok (.istore_n 2, 1) := by decide +kernel
theorem dX9_shut_15 : decode cX9_shut 15 = .ok (.iconst 0, 1) := by decide +kernel
theorem dX9_shut_16 : decode cX9_shut 16 = .ok (.istore_n 3, 1) := by decide +kernel
theorem dX9_shut_17 : decode cX9_shut 17 = .ok (.iload_n 3, 1) := by decide +kernel
theorem dX9_shut_18 : decode cX9_shut 18 = .ok (.aload_n 0, 1) := by decide +kernel
theorem dX9_shut_19 : decode cX9_shut 19 = .ok (.getfield 104, 3) := by decide +kernel
theorem dX9_shut_22 : decode cX9_shut 22 = .ok (.if_icmp .ge 50, 3) := by decide +kernel
theorem dX9_shut_25 : decode cX9_shut 25 = .ok (.iload_n 2, 1) := by decide +kernel
theorem dX9_shut_26 : decode cX9_shut 26 = .ok (.aload_n 0, 1) := by decide +kernel
theorem dX9_shut_27 : decode cX9_shut 27 = .ok (.aload_n 0, 1) := by decide +kernel
theorem dX9_shut_28 : decode cX9_shut 28 = .ok (.getfield 28, 3) := by decide +kernel
theorem dX9_shut_31 : decode cX9_shut 31 = .ok (.iload_n 3, 1) := by decide +kernel
theorem dX9_shut_32 : decode cX9_shut 32 = .ok (.iaload, 1) := by decide +kernel
theorem dX9_shut_33 : decode cX9_shut 33 = .ok (.aload_n 0, 1) := by decide +kernel
theorem dX9_shut_34 : decode cX9_shut 34 = .ok (.getfield 31, 3) := by decide +kernel
theorem dX9_shut_37 : decode cX9_shut 37 = .ok (.iload_n 3, 1) := by decide +kernel
theorem dX9_shut_38 : decode cX9_shut 38 = .ok (.iaload, 1) := by decide +kernel
theorem dX9_shut_39 : decode cX9_shut 39 = .ok (.aload_n 0, 1) := by decide +kernel
theorem dX9_shut_40 : decode cX9_shut 40 = .ok (.iconst (-1), 1) := by decide +kernel
theorem dX9_shut_41 : decode cX9_shut 41 = .ok (.iconst (-1), 1) := by decide +kernel
theorem dX9_shut_42 : decode cX9_shut 42 = .ok (.iconst 0, 1) := by decide +kernel
theorem dX9_shut_43 : decode cX9_shut 43 = .ok (.iload_n 1, 1) := by decide +kernel
theorem dX9_shut_44 : decode cX9_shut 44 = .ok (.invokevirtual 146, 3) := by decide +kernel
theorem dX9_shut_47 : decode cX9_shut 47 = .ok (.invokevirtual 150, 3) := by decide +kernel
theorem dX9_shut_50 : decode cX9_shut 50 = .ok (.aload_n 0, 1) := by decide +kernel
theorem dX9_shut_51 : decode cX9_shut 51 = .ok (.getfield 34, 3) := by decide +kernel
theorem dX9_shut_54 : decode cX9_shut 54 = .ok (.iload_n 3, 1) := by decide +kernel
theorem dX9_shut_55 : decode cX9_shut 55 = .ok (.iaload, 1) := by decide +kernel
theorem dX9_shut_56 : decode cX9_shut 56 = .ok (.if_icmp .le 7, 3) := by decide +kernel
theorem dX9_shut_59 : decode cX9_shut 59 = .ok (.iconst 1, 1) := by decide +kernel
theorem dX9_shut_60 : decode cX9_shut 60 = .ok (.goto 4, 3) := by decide +kernel
theorem dX9_shut_63 : decode cX9_shut 63 = .ok (.iconst 0, 1) := by decide +kernel
theorem dX9_shut_64 : decode cX9_shut 64 = .ok (.iadd, 1) := by decide +kernel
theorem dX9_shut_65 : decode cX9_shut 65 = .ok (.istore_n 2, 1) := by decide +kernel
theorem dX9_shut_66 : decode cX9_shut 66 = .ok (.iinc 3 1, 3) := by decide +kernel
theorem dX9_shut_69 : decode cX9_shut 69 = .ok (.goto (-52), 3) := by decide +kernel
theorem dX9_shut_72 : decode cX9_shut 72 = .ok (.iload_n 2, 1) := by decide +kernel
theorem dX9_shut_73 : decode cX9_shut 73 = .ok (.ireturn, 1) := by decide +kernel
theorem dX9_price_0 : decode cX9_price 0 = .ok (.iconst 0, 1) := by decide +kernel
theorem dX9_price_1 : decode cX9_price 1 = .ok (.istore_n 1, 1) := by decide +kernel
theorem dX9_price_2 : decode cX9_price 2 = .ok (.iconst 0, 1) := by decide +kernel
theorem dX9_price_3 : decode cX9_price 3 = .ok (.istore_n 2, 1) := by decide +kernel
theorem dX9_price_4 : decode cX9_price 4 = .ok (.iload_n 2, 1) := by decide +kernel
theorem dX9_price_5 : decode cX9_price 5 = .ok (.aload_n 0, 1) := by decide +kernel
theorem dX9_price_6 : decode cX9_price 6 = .ok (.getfield 107, 3) := by decide +kernel
theorem dX9_price_9 : decode cX9_price 9 = .ok (.if_icmp .ge 32, 3) := by decide +kernel
theorem dX9_price_12 : decode cX9_price 12 = .ok (.iload_n 1, 1) := by decide +kernel
theorem dX9_price_13 : decode cX9_price 13 = .ok (.aload_n 0, 1) := by decide +kernel
theorem dX9_price_14 : decode cX9_price 14 = .ok (.getfield 69, 3) := by decide +kernel
theorem dX9_price_17 : decode cX9_price 17 = .ok (.iload_n 2, 1) := by decide +kernel
theorem dX9_price_18 : decode cX9_price 18 = .ok (.iaload, 1) := by decide +kernel
theorem dX9_price_19 : decode cX9_price 19 = .ok (.ifCond .ne 9, 3) := by decide +kernel
theorem dX9_price_22 : decode cX9_price 22 = .ok (.sipush 500, 3) := by decide +kernel
theorem dX9_price_25 : decode cX9_price 25 = .ok (.goto 8, 3) := by decide +kernel
theorem dX9_price_28 : decode cX9_price 28 = .ok (.aload_n 0, 1) := by decide +kernel
theorem dX9_price_29 : decode cX9_price 29 = .ok (.iload_n 2, 1) := by decide +kernel
theorem dX9_price_30 : decode cX9_price 30 = .ok (.invokevirtual 211, 3) := by decide +kernel
theorem dX9_price_33 : decode cX9_price 33 = .ok (.iadd, 1) := by decide +kernel
theorem dX9_price_34 : decode cX9_price 34 = .ok (.istore_n 1, 1) := by decide +kernel
theorem dX9_price_35 : decode cX9_price 35 = .ok (.iinc 2 1, 3) := by decide +kernel
theorem dX9_price_38 : decode cX9_price 38 = .ok (.goto (-34), 3) := by decide +kernel
theorem dX9_price_41 : decode cX9_price 41 = .ok (.iload_n 1, 1) := by decide +kernel
theorem dX9_price_42 : decode cX9_price 42 = .ok (.ireturn, 1) := by decide +kernel
theorem dX9_othersKeep_0 : decode cX9_othersKeep 0 = .ok (.iconst 0, 1) := by decide +kernel
theorem dX9_othersKeep_1 : decode cX9_othersKeep 1 = .ok (.istore_n 2, 1) := by decide +kernel
theorem dX9_othersKeep_2 : decode cX9_othersKeep 2 = .ok (.iload_n 2, 1) := by decide +kernel
theorem dX9_othersKeep_3 : decode cX9_othersKeep 3 = .ok (.aload_n 0, 1) := by decide +kernel
theorem dX9_othersKeep_4 : decode cX9_othersKeep 4 = .ok (.getfield 107, 3) := by decide +kernel
theorem dX9_othersKeep_7 : decode cX9_othersKeep 7 = .ok (.if_icmp .ge 42, 3) := by decide +kernel
theorem dX9_othersKeep_10 : decode cX9_othersKeep 10 = .ok (.iload_n 2, 1) := by decide +kernel
theorem dX9_othersKeep_11 : decode cX9_othersKeep 11 = .ok (.iload_n 1, 1) := by decide +kernel
theorem dX9_othersKeep_12 : decode cX9_othersKeep 12 = .ok (.if_icmp .eq 31, 3) := by decide +kernel
theorem dX9_othersKeep_15 : decode cX9_othersKeep 15 = .ok (.aload_n 0, 1) := by decide +kernel
theorem dX9_othersKeep_16 : decode cX9_othersKeep 16 = .ok (.getfield 69, 3) := by decide +kernel
theorem dX9_othersKeep_19 : decode cX9_othersKeep 19 = .ok (.iload_n 2, 1) := by decide +kernel
theorem dX9_othersKeep_20 : decode cX9_othersKeep 20 = .ok (.iaload, 1) := by decide +kernel
theorem dX9_othersKeep_21 : decode cX9_othersKeep 21 = .ok (.iconst 1, 1) := by decide +kernel
theorem dX9_othersKeep_22 : decode cX9_othersKeep 22 = .ok (.if_icmp .ne 21, 3) := by decide +kernel
theorem dX9_othersKeep_25 : decode cX9_othersKeep 25 = .ok (.aload_n 0, 1) := by decide +kernel
theorem dX9_othersKeep_26 : decode cX9_othersKeep 26 = .ok (.iload_n 2, 1) := by decide +kernel
theorem dX9_othersKeep_27 : decode cX9_othersKeep 27 = .ok (.aload_n 0, 1) := by decide +kernel
theorem dX9_othersKeep_28 : decode cX9_othersKeep 28 = .ok (.getfield 72, 3) := by decide +kernel
theorem dX9_othersKeep_31 : decode cX9_othersKeep 31 = .ok (.iload_n 2, 1) := by decide +kernel
theorem dX9_othersKeep_32 : decode cX9_othersKeep 32 = .ok (.iaload, 1) := by decide +kernel
theorem dX9_othersKeep_33 : decode cX9_othersKeep 33 = .ok (.iconst 3, 1) := by decide +kernel
theorem dX9_othersKeep_34 : decode cX9_othersKeep 34 = .ok (.iconst 0, 1) := by decide +kernel
theorem dX9_othersKeep_35 : decode cX9_othersKeep 35 = .ok (.invokevirtual 179, 3) := by decide +kernel
theorem dX9_othersKeep_38 : decode cX9_othersKeep 38 = .ok (.ifCond .le 5, 3) := by decide +kernel
theorem dX9_othersKeep_41 : decode cX9_othersKeep 41 = .ok (.iconst 0, 1) := by decide +kernel
theorem dX9_othersKeep_42 : decode cX9_othersKeep 42 = .ok (.ireturn, 1) := by decide +kernel
theorem dX9_othersKeep_43 : decode cX9_othersKeep 43 = .ok (.iinc 2 1, 3) := by decide +kernel
theorem dX9_othersKeep_46 : decode cX9_othersKeep 46 = .ok (.goto (-44), 3) := by decide +kernel
theorem dX9_othersKeep_49 : decode cX9_othersKeep 49 = .ok (.iconst 1, 1) := by decide +kernel
theorem dX9_othersKeep_50 : decode cX9_othersKeep 50 = .ok (.ireturn, 1) := by decide +kernel
theorem dX9_betters_0 : decode cX9_betters 0 = .ok (.iconst 0, 1) := by decide +kernel
theorem dX9_betters_1 : decode cX9_betters 1 = .ok (.istore_n 1, 1) := by decide +kernel
theorem dX9_betters_2 : decode cX9_betters 2 = .ok (.iload_n 1, 1) := by decide +kernel
theorem dX9_betters_3 : decode cX9_betters 3 = .ok (.aload_n 0, 1) := by decide +kernel
theorem dX9_betters_4 : decode cX9_betters 4 = .ok (.getfield 107, 3) := by decide +kernel
theorem dX9_betters_7 : decode cX9_betters 7 = .ok (.if_icmp .ge 83, 3) := by decide +kernel
theorem dX9_betters_10 : decode cX9_betters 10 = .ok (.aload_n 0, 1) := by decide +kernel
theorem dX9_betters_11 : decode cX9_betters 11 = .ok (.getfield 69, 3) := by decide +kernel
theorem dX9_betters_14 : decode cX9_betters 14 = .ok (.iload_n 1, 1) := by decide +kernel
theorem dX9_betters_15 : decode cX9_betters 15 = .ok (.iaload, 1) := by decide +kernel
theorem dX9_betters_16 : decode cX9_betters 16 = .ok (.iconst 1, 1) := by decide +kernel
theorem dX9_betters_17 : decode cX9_betters 17 = .ok (.if_icmp .ne 67, 3) := by decide +kernel
theorem dX9_betters_20 : decode cX9_betters 20 = .ok (.aload_n 0, 1) := by decide +kernel
theorem dX9_betters_21 : decode cX9_betters 21 = .ok (.iload_n 1, 1) := by decide +kernel
theorem dX9_betters_22 : decode cX9_betters 22 = .ok (.invokevirtual 211, 3) := by decide +kernel
theorem dX9_betters_25 : decode cX9_betters 25 = .ok (.ifCond .le 59, 3) := by decide +kernel
theorem dX9_betters_28 : decode cX9_betters 28 = .ok (.aload_n 0, 1) := by decide +kernel
theorem dX9_betters_29 : decode cX9_betters 29 = .ok (.getfield 72, 3) := by decide +kernel
theorem dX9_betters_32 : decode cX9_betters 32 = .ok (.iload_n 1, 1) := by decide +kernel
theorem dX9_betters_33 : decode cX9_betters 33 = .ok (.iaload, 1) := by decide +kernel
theorem dX9_betters_34 : decode cX9_betters 34 = .ok (.istore_n 2, 1) := by decide +kernel
theorem dX9_betters_35 : decode cX9_betters 35 = .ok (.aload_n 0, 1) := by decide +kernel
theorem dX9_betters_36 : decode cX9_betters 36 = .ok (.getfield 154, 3) := by decide +kernel
theorem dX9_betters_39 : decode cX9_betters 39 = .ok (.istore_n 3, 1) := by decide +kernel
theorem dX9_betters_40 : decode cX9_betters 40 = .ok (.iload_n 3, 1) := by decide +kernel
theorem dX9_betters_41 : decode cX9_betters 41 = .ok (.iload_n 2, 1) := by decide +kernel
theorem dX9_betters_42 : decode cX9_betters 42 = .ok (.if_icmp .ge 42, 3) := by decide +kernel
theorem dX9_betters_45 : decode cX9_betters 45 = .ok (.aload_n 0, 1) := by decide +kernel
theorem dX9_betters_46 : decode cX9_betters 46 = .ok (.iload_n 1, 1) := by decide +kernel
theorem dX9_betters_47 : decode cX9_betters 47 = .ok (.iload_n 3, 1) := by decide +kernel
theorem dX9_betters_48 : decode cX9_betters 48 = .ok (.iconst 1, 1) := by decide +kernel
theorem dX9_betters_49 : decode cX9_betters 49 = .ok (.iconst 0, 1) := by decide +kernel
theorem dX9_betters_50 : decode cX9_betters 50 = .ok (.invokevirtual 179, 3) := by decide +kernel
theorem dX9_betters_53 : decode cX9_betters 53 = .ok (.ifCond .ne 25, 3) := by decide +kernel
theorem dX9_betters_56 : decode cX9_betters 56 = .ok (.aload_n 0, 1) := by decide +kernel
theorem dX9_betters_57 : decode cX9_betters 57 = .ok (.iload_n 1, 1) := by decide +kernel
theorem dX9_betters_58 : decode cX9_betters 58 = .ok (.iload_n 3, 1) := by decide +kernel
theorem dX9_betters_59 : decode cX9_betters 59 = .ok (.invokevirtual 190, 3) := by decide +kernel
theorem dX9_betters_62 : decode cX9_betters 62 = .ok (.aload_n 0, 1) := by decide +kernel
theorem dX9_betters_63 : decode cX9_betters 63 = .ok (.iload_n 1, 1) := by decide +kernel
theorem dX9_betters_64 : decode cX9_betters 64 = .ok (.invokevirtual 214, 3) := by decide +kernel
theorem dX9_betters_67 : decode cX9_betters 67 = .ok (.ifCond .eq 5, 3) := by decide +kernel
theorem dX9_betters_70 : decode cX9_betters 70 = .ok (.iconst 1, 1) := by decide +kernel
theorem dX9_betters_71 : decode cX9_betters 71 = .ok (.ireturn, 1) := by decide +kernel
theorem dX9_betters_72 : decode cX9_betters 72 = .ok (.aload_n 0, 1) := by decide +kernel
theorem dX9_betters_73 : decode cX9_betters 73 = .ok (.iload_n 1, 1) := by decide +kernel
theorem dX9_betters_74 : decode cX9_betters 74 = .ok (.iload_n 2, 1) := by decide +kernel
theorem dX9_betters_75 : decode cX9_betters 75 = .ok (.invokevirtual 190, 3) := by decide +kernel
theorem dX9_betters_78 : decode cX9_betters 78 = .ok (.iinc 3 1, 3) := by decide +kernel
theorem dX9_betters_81 : decode cX9_betters 81 = .ok (.goto (-41), 3) := by decide +kernel
theorem dX9_betters_84 : decode cX9_betters 84 = .ok (.iinc 1 1, 3) := by decide +kernel
theorem dX9_betters_87 : decode cX9_betters 87 = .ok (.goto (-85), 3) := by decide +kernel
theorem dX9_betters_90 : decode cX9_betters 90 = .ok (.iconst 0, 1) := by decide +kernel
theorem dX9_betters_91 : decode cX9_betters 91 = .ok (.ireturn, 1) := by decide +kernel
theorem dX9_better_0 : decode cX9_better 0 = .ok (.iconst 0, 1) := by decide +kernel
theorem dX9_better_1 : decode cX9_better 1 = .ok (.istore_n 1, 1) := by decide +kernel
theorem dX9_better_2 : decode cX9_better 2 = .ok (.aload_n 0, 1) := by decide +kernel
theorem dX9_better_3 : decode cX9_better 3 = .ok (.invokevirtual 217, 3) := by decide +kernel
theorem dX9_better_6 : decode cX9_better 6 = .ok (.ifCond .eq 9, 3) := by decide +kernel
theorem dX9_better_9 : decode cX9_better 9 = .ok (.iinc 1 1, 3) := by decide +kernel
theorem dX9_better_12 : decode cX9_better 12 = .ok (.goto (-10), 3) := by decide +kernel
theorem dX9_better_15 : decode cX9_better 15 = .ok (.iload_n 1, 1) := by decide +kernel
theorem dX9_better_16 : decode cX9_better 16 = .ok (.ireturn, 1) := by decide +kernel
theorem dX9_book_0 : decode cX9_book 0 = .ok (.aload_n 0, 1) := by decide +kernel
theorem dX9_book_1 : decode cX9_book 1 = .ok (.iload_n 1, 1) := by decide +kernel
theorem dX9_book_2 : decode cX9_book 2 = .ok (.invokevirtual 110, 3) := by decide +kernel
theorem dX9_book_5 : decode cX9_book 5 = .ok (.ifCond .eq 7, 3) := by decide +kernel
theorem dX9_book_8 : decode cX9_book 8 = .ok (.iload_n 2, 1) := by decide +kernel
theorem dX9_book_9 : decode cX9_book 9 = .ok (.ifCond .ge 5, 3) := by decide +kernel
theorem dX9_book_12 : decode cX9_book 12 = .ok (.iconst (-1), 1) := by decide +kernel
theorem dX9_book_13 : decode cX9_book 13 = .ok (.ireturn, 1) := by decide +kernel
theorem dX9_book_14 : decode cX9_book 14 = .ok (.iload_n 2, 1) := by decide +kernel
theorem dX9_book_15 : decode cX9_book 15 = .ok (.istore_n 3, 1) := by decide +kernel
theorem dX9_book_16 : decode cX9_book 16 = .ok (.iconst 0, 1) := by decide +kernel
theorem dX9_book_17 : decode cX9_book 17 = .ok (.istore 4, 2) := by decide +kernel
theorem dX9_book_19 : decode cX9_book 19 = .ok (.iload 4, 2) := by decide +kernel
theorem dX9_book_21 : decode cX9_book 21 = .ok (.sipush 400, 3) := by decide +kernel
theorem dX9_book_24 : decode cX9_book 24 = .ok (.if_icmp .ge 81, 3) := by decide +kernel
theorem dX9_book_27 : decode cX9_book 27 = .ok (.iconst 0, 1) := by decide +kernel
theorem dX9_book_28 : decode cX9_book 28 = .ok (.istore 5, 2) := by decide +kernel
theorem dX9_book_30 : decode cX9_book 30 = .ok (.iload 5, 2) := by decide +kernel
theorem dX9_book_32 : decode cX9_book 32 = .ok (.aload_n 0, 1) := by decide +kernel
theorem dX9_book_33 : decode cX9_book 33 = .ok (.getfield 107, 3) := by decide +kernel
theorem dX9_book_36 : decode cX9_book 36 = .ok (.if_icmp .ge 63, 3) := by decide +kernel
theorem dX9_book_39 : decode cX9_book 39 = .ok (.aload_n 0, 1) := by decide +kernel
theorem dX9_book_40 : decode cX9_book 40 = .ok (.getfield 69, 3) := by decide +kernel
theorem dX9_book_43 : decode cX9_book 43 = .ok (.iload 5, 2) := by decide +kernel
theorem dX9_book_45 : decode cX9_book 45 = .ok (.iaload, 1) := by decide +kernel
theorem dX9_book_46 : decode cX9_book 46 = .ok (.iconst 2, 1) := by decide +kernel
theorem dX9_book_47 : decode cX9_book 47 = .ok (.if_icmp .eq 14, 3) := by decide +kernel
theorem dX9_book_50 : decode cX9_book 50 = .ok (.aload_n 0, 1) := by decide +kernel
theorem dX9_book_51 : decode cX9_book 51 = .ok (.getfield 69, 3) := by decide +kernel
theorem dX9_book_54 : decode cX9_book 54 = .ok (.iload 5, 2) := by decide +kernel
theorem dX9_book_56 : decode cX9_book 56 = .ok (.iaload, 1) := by decide +kernel
theorem dX9_book_57 : decode cX9_book 57 = .ok (.iconst 3, 1) := by decide +kernel
theorem dX9_book_58 : decode cX9_book 58 = .ok (.if_icmp .ne 35, 3) := by decide +kernel
theorem dX9_book_61 : decode cX9_book 61 = .ok (.aload_n 0, 1) := by decide +kernel
theorem dX9_book_62 : decode cX9_book 62 = .ok (.iload 5, 2) := by decide +kernel
theorem dX9_book_64 : decode cX9_book 64 = .ok (.iload_n 1, 1) := by decide +kernel
theorem dX9_book_65 : decode cX9_book 65 = .ok (.invokevirtual 117, 3) := by decide +kernel
theorem dX9_book_68 : decode cX9_book 68 = .ok (.ifCond .eq 25, 3) := by decide +kernel
theorem dX9_book_71 : decode cX9_book 71 = .ok (.aload_n 0, 1) := by decide +kernel
theorem dX9_book_72 : decode cX9_book 72 = .ok (.getfield 72, 3) := by decide +kernel
theorem dX9_book_75 : decode cX9_book 75 = .ok (.iload 5, 2) := by decide +kernel
theorem dX9_book_77 : decode cX9_book 77 = .ok (.iaload, 1) := by decide +kernel
theorem dX9_book_78 : decode cX9_book 78 = .ok (.iload 4, 2) := by decide +kernel
theorem dX9_book_80 : decode cX9_book 80 = .ok (.if_icmp .ne 13, 3) := by decide +kernel
theorem dX9_book_83 : decode cX9_book 83 = .ok (.iload_n 3, 1) := by decide +kernel
theorem dX9_book_84 : decode cX9_book 84 = .ok (.ifCond .ne 6, 3) := by decide +kernel
theorem dX9_book_87 : decode cX9_book 87 = .ok (.iload 5, 2) := by decide +kernel
theorem dX9_book_89 : decode cX9_book 89 = .ok (.ireturn, 1) := by decide +kernel
theorem dX9_book_90 : decode cX9_book 90 = .ok (.iinc 3 (-1), 3) := by decide +kernel
theorem dX9_book_93 : decode cX9_book 93 = .ok (.iinc 5 1, 3) := by decide +kernel
theorem dX9_book_96 : decode cX9_book 96 = .ok (.goto (-66), 3) := by decide +kernel
theorem dX9_book_99 : decode cX9_book 99 = .ok (.iinc 4 1, 3) := by decide +kernel
theorem dX9_book_102 : decode cX9_book 102 = .ok (.goto (-83), 3) := by decide +kernel
theorem dX9_book_105 : decode cX9_book 105 = .ok (.iconst (-1), 1) := by decide +kernel
theorem dX9_book_106 : decode cX9_book 106 = .ok (.ireturn, 1) := by decide +kernel
theorem dX9_count_0 : decode cX9_count 0 = .ok (.iload_n 1, 1) := by decide +kernel
theorem dX9_count_1 : decode cX9_count 1 = .ok (.iconst 4, 1) := by decide +kernel
theorem dX9_count_2 : decode cX9_count 2 = .ok (.if_icmp .lt 9, 3) := by decide +kernel
theorem dX9_count_5 : decode cX9_count 5 = .ok (.iload_n 1, 1) := by decide +kernel
theorem dX9_count_6 : decode cX9_count 6 = .ok (.bipush 8, 2) := by decide +kernel
theorem dX9_count_8 : decode cX9_count 8 = .ok (.if_icmp .le 52, 3) := by decide +kernel
theorem dX9_count_11 : decode cX9_count 11 = .ok (.iload_n 1, 1) := by decide +kernel
theorem dX9_count_12 : decode cX9_count 12 = .ok (.ifCond .ne 10, 3) := by decide +kernel
theorem dX9_count_15 : decode cX9_count 15 = .ok (.aload_n 0, 1) := by decide +kernel
theorem dX9_count_16 : decode cX9_count 16 = .ok (.getfield 101, 3) := by decide +kernel
theorem dX9_count_19 : decode cX9_count 19 = .ok (.goto 40, 3) := by decide +kernel
theorem dX9_count_22 : decode cX9_count 22 = .ok (.iload_n 1, 1) := by decide +kernel
theorem dX9_count_23 : decode cX9_count 23 = .ok (.iconst 1, 1) := by decide +kernel
theorem dX9_count_24 : decode cX9_count 24 = .ok (.if_icmp .ne 10, 3) := by decide +kernel
theorem dX9_count_27 : decode cX9_count 27 = .ok (.aload_n 0, 1) := by decide +kernel
theorem dX9_count_28 : decode cX9_count 28 = .ok (.getfield 104, 3) := by decide +kernel
theorem dX9_count_31 : decode cX9_count 31 = .ok (.goto 28, 3) := by decide +kernel
theorem dX9_count_34 : decode cX9_count 34 = .ok (.iload_n 1, 1) := by decide +kernel
theorem dX9_count_35 : decode cX9_count 35 = .ok (.iconst 2, 1) := by decide +kernel
theorem dX9_count_36 : decode cX9_count 36 = .ok (.if_icmp .ne 10, 3) := by decide +kernel
theorem dX9_count_39 : decode cX9_count 39 = .ok (.aload_n 0, 1) := by decide +kernel
theorem dX9_count_40 : decode cX9_count 40 = .ok (.getfield 107, 3) := by decide +kernel
theorem dX9_count_43 : decode cX9_count 43 = .ok (.goto 16, 3) := by decide +kernel
theorem dX9_count_46 : decode cX9_count 46 = .ok (.iload_n 1, 1) := by decide +kernel
theorem dX9_count_47 : decode cX9_count 47 = .ok (.iconst 3, 1) := by decide +kernel
theorem dX9_count_48 : decode cX9_count 48 = .ok (.if_icmp .ne 10, 3) := by decide +kernel
theorem dX9_count_51 : decode cX9_count 51 = .ok (.aload_n 0, 1) := by decide +kernel
theorem dX9_count_52 : decode cX9_count 52 = .ok (.getfield 154, 3) := by decide +kernel
theorem dX9_count_55 : decode cX9_count 55 = .ok (.goto 4, 3) := by decide +kernel
theorem dX9_count_58 : decode cX9_count 58 = .ok (.iconst (-1), 1) := by decide +kernel
theorem dX9_count_59 : decode cX9_count 59 = .ok (.ireturn, 1) := by decide +kernel
theorem dX9_count_60 : decode cX9_count 60 = .ok (.iconst 0, 1) := by decide +kernel
theorem dX9_count_61 : decode cX9_count 61 = .ok (.istore_n 2, 1) := by decide +kernel
theorem dX9_count_62 : decode cX9_count 62 = .ok (.iconst 0, 1) := by decide +kernel
theorem dX9_count_63 : decode cX9_count 63 = .ok (.istore_n 3, 1) := by decide +kernel
theorem dX9_count_64 : decode cX9_count 64 = .ok (.iload_n 3, 1) := by decide +kernel
theorem dX9_count_65 : decode cX9_count 65 = .ok (.aload_n 0, 1) := by decide +kernel
theorem dX9_count_66 : decode cX9_count 66 = .ok (.getfield 107, 3) := by decide +kernel
theorem dX9_count_69 : decode cX9_count 69 = .ok (.if_icmp .ge 29, 3) := by decide +kernel
theorem dX9_count_72 : decode cX9_count 72 = .ok (.iload_n 2, 1) := by decide +kernel
theorem dX9_count_73 : decode cX9_count 73 = .ok (.aload_n 0, 1) := by decide +kernel
theorem dX9_count_74 : decode cX9_count 74 = .ok (.getfield 69, 3) := by decide +kernel
theorem dX9_count_77 : decode cX9_count 77 = .ok (.iload_n 3, 1) := by decide +kernel
theorem dX9_count_78 : decode cX9_count 78 = .ok (.iaload, 1) := by decide +kernel
theorem dX9_count_79 : decode cX9_count 79 = .ok (.iload_n 1, 1) := by decide +kernel
theorem dX9_count_80 : decode cX9_count 80 = .ok (.iconst 4, 1) := by decide +kernel
theorem dX9_count_81 : decode cX9_count 81 = .ok (.isub, 1) := by decide +kernel
theorem dX9_count_82 : decode cX9_count 82 = .ok (.if_icmp .ne 7, 3) := by decide +kernel
theorem dX9_count_85 : decode cX9_count 85 = .ok (.iconst 1, 1) := by decide +kernel
theorem dX9_count_86 : decode cX9_count 86 = .ok (.goto 4, 3) := by decide +kernel
theorem dX9_count_89 : decode cX9_count 89 = .ok (.iconst 0, 1) := by decide +kernel
theorem dX9_count_90 : decode cX9_count 90 = .ok (.iadd, 1) := by decide +kernel
theorem dX9_count_91 : decode cX9_count 91 = .ok (.istore_n 2, 1) := by decide +kernel
theorem dX9_count_92 : decode cX9_count 92 = .ok (.iinc 3 1, 3) := by decide +kernel
theorem dX9_count_95 : decode cX9_count 95 = .ok (.goto (-31), 3) := by decide +kernel
theorem dX9_count_98 : decode cX9_count 98 = .ok (.iload_n 2, 1) := by decide +kernel
theorem dX9_count_99 : decode cX9_count 99 = .ok (.ireturn, 1) := by decide +kernel
end
section
theorem dL_law_0 : decode cL_law 0 = .ok (.new 7, 3) := by decide +kernel
theorem dL_law_3 : decode cL_law 3 = .ok (.dup, 1) := by decide +kernel
theorem dL_law_4 : decode cL_law 4 = .ok (.invokespecial 9, 3) := by decide +kernel
theorem dL_law_7 : decode cL_law 7 = .ok (.astore_n 1, 1) := by decide +kernel
theorem dL_law_8 : decode cL_law 8 = .ok (.new 10, 3) := by decide +kernel
theorem dL_law_11 : decode cL_law 11 = .ok (.dup, 1) := by decide +kernel
theorem dL_law_12 : decode cL_law 12 = .ok (.invokespecial 12, 3) := by decide +kernel
theorem dL_law_15 : decode cL_law 15 = .ok (.astore_n 2, 1) := by decide +kernel
theorem dL_law_16 : decode cL_law 16 = .ok (.iconst 0, 1) := by decide +kernel
theorem dL_law_17 : decode cL_law 17 = .ok (.istore_n 3, 1) := by decide +kernel
theorem dL_law_18 : decode cL_law 18 = .ok (.iload_n 3, 1) := by decide +kernel
theorem dL_law_19 : decode cL_law 19 = .ok (.aload_n 0, 1) := by decide +kernel
theorem dL_law_20 : decode cL_law 20 = .ok (.arraylength, 1) := by decide +kernel
theorem dL_law_21 : decode cL_law 21 = .ok (.bipush 6, 2) := by decide +kernel
theorem dL_law_23 : decode cL_law 23 = .ok (.isub, 1) := by decide +kernel
theorem dL_law_24 : decode cL_law 24 = .ok (.if_icmp .gt 804, 3) := by decide +kernel
theorem dL_law_27 : decode cL_law 27 = .ok (.aload_n 0, 1) := by decide +kernel
theorem dL_law_28 : decode cL_law 28 = .ok (.iload_n 3, 1) := by decide +kernel
theorem dL_law_29 : decode cL_law 29 = .ok (.iaload, 1) := by decide +kernel
theorem dL_law_30 : decode cL_law 30 = .ok (.bipush 31, 2) := by decide +kernel
theorem dL_law_32 : decode cL_law 32 = .ok (.iand, 1) := by decide +kernel
theorem dL_law_33 : decode cL_law 33 = .ok (.tableswitch 789 0 21 #[103, 166, 209, 242, 285, 318, 351, 374, 417, 450, 473, 496, 529, 552, 585, 618, 651, 684, 707, 720, 733, 766], 103) := by decide +kernel
theorem dL_law_136 : decode cL_law 136 = .ok (.aload_n 1, 1) := by decide +kernel
theorem dL_law_137 : decode cL_law 137 = .ok (.aload_n 0, 1) := by decide +kernel
theorem dL_law_138 : decode cL_law 138 = .ok (.iload_n 3, 1) := by decide +kernel
theorem dL_law_139 : decode cL_law 139 = .ok (.iconst 1, 1) := by decide +kernel
theorem dL_law_140 : decode cL_law 140 = .ok (.iadd, 1) := by decide +kernel
theorem dL_law_141 : decode cL_law 141 = .ok (.iaload, 1) := by decide +kernel
theorem dL_law_142 : decode cL_law 142 = .ok (.aload_n 0, 1) := by decide +kernel
theorem dL_law_143 : decode cL_law 143 = .ok (.iload_n 3, 1) := by decide +kernel
theorem dL_law_144 : decode cL_law 144 = .ok (.iconst 2, 1) := by decide +kernel
theorem dL_law_145 : decode cL_law 145 = .ok (.iadd, 1) := by decide +kernel
theorem dL_law_146 : decode cL_law 146 = .ok (.iaload, 1) := by decide +kernel
theorem dL_law_147 : decode cL_law 147 = .ok (.aload_n 0, 1) := by decide +kernel
theorem dL_law_148 : decode cL_law 148 = .ok (.iload_n 3, 1) := by decide +kernel
theorem dL_law_149 : decode cL_law 149 = .ok (.iconst 3, 1) := by decide +kernel
theorem dL_law_150 : decode cL_law 150 = .ok (.iadd, 1) := by decide +kernel
theorem dL_law_151 : decode cL_law 151 = .ok (.iaload, 1) := by decide +kernel
theorem dL_law_152 : decode cL_law 152 = .ok (.aload_n 0, 1) := by decide +kernel
theorem dL_law_153 : decode cL_law 153 = .ok (.iload_n 3, 1) := by decide +kernel
theorem dL_law_154 : decode cL_law 154 = .ok (.iconst 4, 1) := by decide +kernel
theorem dL_law_155 : decode cL_law 155 = .ok (.iadd, 1) := by decide +kernel
theorem dL_law_156 : decode cL_law 156 = .ok (.iaload, 1) := by decide +kernel
theorem dL_law_157 : decode cL_law 157 = .ok (.aload_n 0, 1) := by decide +kernel
theorem dL_law_158 : decode cL_law 158 = .ok (.iload_n 3, 1) := by decide +kernel
theorem dL_law_159 : decode cL_law 159 = .ok (.iconst 5, 1) := by decide +kernel
theorem dL_law_160 : decode cL_law 160 = .ok (.iadd, 1) := by decide +kernel
theorem dL_law_161 : decode cL_law 161 = .ok (.iaload, 1) := by decide +kernel
theorem dL_law_162 : decode cL_law 162 = .ok (.invokevirtual 13, 3) := by decide +kernel
theorem dL_law_165 : decode cL_law 165 = .ok (.aload_n 2, 1) := by decide +kernel
theorem dL_law_166 : decode cL_law 166 = .ok (.aload_n 0, 1) := by decide +kernel
theorem dL_law_167 : decode cL_law 167 = .ok (.iload_n 3, 1) := by decide +kernel
theorem dL_law_168 : decode cL_law 168 = .ok (.iconst 1, 1) := by decide +kernel
theorem dL_law_169 : decode cL_law 169 = .ok (.iadd, 1) := by decide +kernel
theorem dL_law_170 : decode cL_law 170 = .ok (.iaload, 1) := by decide +kernel
theorem dL_law_171 : decode cL_law 171 = .ok (.aload_n 0, 1) := by decide +kernel
theorem dL_law_172 : decode cL_law 172 = .ok (.iload_n 3, 1) := by decide +kernel
theorem dL_law_173 : decode cL_law 173 = .ok (.iconst 2, 1) := by decide +kernel
theorem dL_law_174 : decode cL_law 174 = .ok (.iadd, 1) := by decide +kernel
theorem dL_law_175 : decode cL_law 175 = .ok (.iaload, 1) := by decide +kernel
theorem dL_law_176 : decode cL_law 176 = .ok (.aload_n 0, 1) := by decide +kernel
theorem dL_law_177 : decode cL_law 177 = .ok (.iload_n 3, 1) := by decide +kernel
theorem dL_law_178 : decode cL_law 178 = .ok (.iconst 3, 1) := by decide +kernel
theorem dL_law_179 : decode cL_law 179 = .ok (.iadd, 1) := by decide +kernel
theorem dL_law_180 : decode cL_law 180 = .ok (.iaload, 1) := by decide +kernel
theorem dL_law_181 : decode cL_law 181 = .ok (.aload_n 0, 1) := by decide +kernel
theorem dL_law_182 : decode cL_law 182 = .ok (.iload_n 3, 1) := by decide +kernel
theorem dL_law_183 : decode cL_law 183 = .ok (.iconst 4, 1) := by decide +kernel
theorem dL_law_184 : decode cL_law 184 = .ok (.iadd, 1) := by decide +kernel
theorem dL_law_185 : decode cL_law 185 = .ok (.iaload, 1) := by decide +kernel
theorem dL_law_186 : decode cL_law 186 = .ok (.aload_n 0, 1) := by decide +kernel
theorem dL_law_187 : decode cL_law 187 = .ok (.iload_n 3, 1) := by decide +kernel
theorem dL_law_188 : decode cL_law 188 = .ok (.iconst 5, 1) := by decide +kernel
theorem dL_law_189 : decode cL_law 189 = .ok (.iadd, 1) := by decide +kernel
theorem dL_law_190 : decode cL_law 190 = .ok (.iaload, 1) := by decide +kernel
theorem dL_law_191 : decode cL_law 191 = .ok (.invokevirtual 17, 3) := by decide +kernel
theorem dL_law_194 : decode cL_law 194 = .ok (.if_icmp .eq 628, 3) := by decide +kernel
theorem dL_law_197 : decode cL_law 197 = .ok (.iconst 0, 1) := by decide +kernel
theorem dL_law_198 : decode cL_law 198 = .ok (.ireturn, 1) := by decide +kernel
theorem dL_law_199 : decode cL_law 199 = .ok (.aload_n 1, 1) := by decide +kernel
theorem dL_law_200 : decode cL_law 200 = .ok (.aload_n 0, 1) := by decide +kernel
theorem dL_law_201 : decode cL_law 201 = .ok (.iload_n 3, 1) := by decide +kernel
theorem dL_law_202 : decode cL_law 202 = .ok (.iconst 1, 1) := by decide +kernel
theorem dL_law_203 : decode cL_law 203 = .ok (.iadd, 1) := by decide +kernel
theorem dL_law_204 : decode cL_law 204 = .ok (.iaload, 1) := by decide +kernel
theorem dL_law_205 : decode cL_law 205 = .ok (.aload_n 0, 1) := by decide +kernel
theorem dL_law_206 : decode cL_law 206 = .ok (.iload_n 3, 1) := by decide +kernel
theorem dL_law_207 : decode cL_law 207 = .ok (.iconst 2, 1) := by decide +kernel
theorem dL_law_208 : decode cL_law 208 = .ok (.iadd, 1) := by decide +kernel
theorem dL_law_209 : decode cL_law 209 = .ok (.iaload, 1) := by decide +kernel
theorem dL_law_210 : decode cL_law 210 = .ok (.aload_n 0, 1) := by decide +kernel
theorem dL_law_211 : decode cL_law 211 = .ok (.iload_n 3, 1) := by decide +kernel
theorem dL_law_212 : decode cL_law 212 = .ok (.iconst 3, 1) := by decide +kernel
theorem dL_law_213 : decode cL_law 213 = .ok (.iadd, 1) := by decide +kernel
theorem dL_law_214 : decode cL_law 214 = .ok (.iaload, 1) := by decide +kernel
theorem dL_law_215 : decode cL_law 215 = .ok (.invokevirtual 18, 3) := by decide +kernel
theorem dL_law_218 : decode cL_law 218 = .ok (.aload_n 2, 1) := by decide +kernel
theorem dL_law_219 : decode cL_law 219 = .ok (.aload_n 0, 1) := by decide +kernel
theorem dL_law_220 : decode cL_law 220 = .ok (.iload_n 3, 1) := by decide +kernel
theorem dL_law_221 : decode cL_law 221 = .ok (.iconst 1, 1) := by decide +kernel
theorem dL_law_222 : decode cL_law 222 = .ok (.iadd, 1) := by decide +kernel
theorem dL_law_223 : decode cL_law 223 = .ok (.iaload, 1) := by decide +kernel
theorem dL_law_224 : decode cL_law 224 = .ok (.aload_n 0, 1) := by decide +kernel
theorem dL_law_225 : decode cL_law 225 = .ok (.iload_n 3, 1) := by decide +kernel
theorem dL_law_226 : decode cL_law 226 = .ok (.iconst 2, 1) := by decide +kernel
theorem dL_law_227 : decode cL_law 227 = .ok (.iadd, 1) := by decide +kernel
theorem dL_law_228 : decode cL_law 228 = .ok (.iaload, 1) := by decide +kernel
theorem dL_law_229 : decode cL_law 229 = .ok (.aload_n 0, 1) := by decide +kernel
theorem dL_law_230 : decode cL_law 230 = .ok (.iload_n 3, 1) := by decide +kernel
theorem dL_law_231 : decode cL_law 231 = .ok (.iconst 3, 1) := by decide +kernel
theorem dL_law_232 : decode cL_law 232 = .ok (.iadd, 1) := by decide +kernel
theorem dL_law_233 : decode cL_law 233 = .ok (.iaload, 1) := by decide +kernel
theorem dL_law_234 : decode cL_law 234 = .ok (.invokevirtual 22, 3) := by decide +kernel
theorem dL_law_237 : decode cL_law 237 = .ok (.if_icmp .eq 585, 3) := by decide +kernel
theorem dL_law_240 : decode cL_law 240 = .ok (.iconst 0, 1) := by decide +kernel
theorem dL_law_241 : decode cL_law 241 = .ok (.ireturn, 1) := by decide +kernel
theorem dL_law_242 : decode cL_law 242 = .ok (.aload_n 1, 1) := by decide +kernel
theorem dL_law_243 : decode cL_law 243 = .ok (.aload_n 0, 1) := by decide +kernel
theorem dL_law_244 : decode cL_law 244 = .ok (.iload_n 3, 1) := by decide +kernel
theorem dL_law_245 : decode cL_law 245 = .ok (.iconst 1, 1) := by decide +kernel
theorem dL_law_246 : decode cL_law 246 = .ok (.iadd, 1) := by decide +kernel
theorem dL_law_247 : decode cL_law 247 = .ok (.iaload, 1) := by decide +kernel
theorem dL_law_248 : decode cL_law 248 = .ok (.aload_n 0, 1) := by decide +kernel
theorem dL_law_249 : decode cL_law 249 = .ok (.iload_n 3, 1) := by decide +kernel
theorem dL_law_250 : decode cL_law 250 = .ok (.iconst 2, 1) := by decide +kernel
theorem dL_law_251 : decode cL_law 251 = .ok (.iadd, 1) := by decide +kernel
theorem dL_law_252 : decode cL_law 252 = .ok (.iaload, 1) := by decide +kernel
theorem dL_law_253 : decode cL_law 253 = .ok (.invokevirtual 23, 3) := by decide +kernel
theorem dL_law_256 : decode cL_law 256 = .ok (.aload_n 2, 1) := by decide +kernel
theorem dL_law_257 : decode cL_law 257 = .ok (.aload_n 0, 1) := by decide +kernel
theorem dL_law_258 : decode cL_law 258 = .ok (.iload_n 3, 1) := by decide +kernel
theorem dL_law_259 : decode cL_law 259 = .ok (.iconst 1, 1) := by decide +kernel
theorem dL_law_260 : decode cL_law 260 = .ok (.iadd, 1) := by decide +kernel
theorem dL_law_261 : decode cL_law 261 = .ok (.iaload, 1) := by decide +kernel
theorem dL_law_262 : decode cL_law 262 = .ok (.aload_n 0, 1) := by decide +kernel
theorem dL_law_263 : decode cL_law 263 = .ok (.iload_n 3, 1) := by decide +kernel
theorem dL_law_264 : decode cL_law 264 = .ok (.iconst 2, 1) := by decide +kernel
theorem dL_law_265 : decode cL_law 265 = .ok (.iadd, 1) := by decide +kernel
theorem dL_law_266 : decode cL_law 266 = .ok (.iaload, 1) := by decide +kernel
theorem dL_law_267 : decode cL_law 267 = .ok (.invokevirtual 27, 3) := by decide +kernel
theorem dL_law_270 : decode cL_law 270 = .ok (.if_icmp .eq 552, 3) := by decide +kernel
theorem dL_law_273 : decode cL_law 273 = .ok (.iconst 0, 1) := by decide +kernel
theorem dL_law_274 : decode cL_law 274 = .ok (.ireturn, 1) := by decide +kernel
theorem dL_law_275 : decode cL_law 275 = .ok (.aload_n 1, 1) := by decide +kernel
theorem dL_law_276 : decode cL_law 276 = .ok (.aload_n 0, 1) := by decide +kernel
theorem dL_law_277 : decode cL_law 277 = .ok (.iload_n 3, 1) := by decide +kernel
theorem dL_law_278 : decode cL_law 278 = .ok (.iconst 1, 1) := by decide +kernel
theorem dL_law_279 : decode cL_law 279 = .ok (.iadd, 1) := by decide +kernel
theorem dL_law_280 : decode cL_law 280 = .ok (.iaload, 1) := by decide +kernel
theorem dL_law_281 : decode cL_law 281 = .ok (.aload_n 0, 1) := by decide +kernel
theorem dL_law_282 : decode cL_law 282 = .ok (.iload_n 3, 1) := by decide +kernel
theorem dL_law_283 : decode cL_law 283 = .ok (.iconst 2, 1) := by decide +kernel
theorem dL_law_284 : decode cL_law 284 = .ok (.iadd, 1) := by decide +kernel
theorem dL_law_285 : decode cL_law 285 = .ok (.iaload, 1) := by decide +kernel
theorem dL_law_286 : decode cL_law 286 = .ok (.aload_n 0, 1) := by decide +kernel
theorem dL_law_287 : decode cL_law 287 = .ok (.iload_n 3, 1) := by decide +kernel
theorem dL_law_288 : decode cL_law 288 = .ok (.iconst 3, 1) := by decide +kernel
theorem dL_law_289 : decode cL_law 289 = .ok (.iadd, 1) := by decide +kernel
theorem dL_law_290 : decode cL_law 290 = .ok (.iaload, 1) := by decide +kernel
theorem dL_law_291 : decode cL_law 291 = .ok (.invokevirtual 28, 3) := by decide +kernel
theorem dL_law_294 : decode cL_law 294 = .ok (.aload_n 2, 1) := by decide +kernel
theorem dL_law_295 : decode cL_law 295 = .ok (.aload_n 0, 1) := by decide +kernel
theorem dL_law_296 : decode cL_law 296 = .ok (.iload_n 3, 1) := by decide +kernel
theorem dL_law_297 : decode cL_law 297 = .ok (.iconst 1, 1) := by decide +kernel
theorem dL_law_298 : decode cL_law 298 = .ok (.iadd, 1) := by decide +kernel
theorem dL_law_299 : decode cL_law 299 = .ok (.iaload, 1) := by decide +kernel
theorem dL_law_300 : decode cL_law 300 = .ok (.aload_n 0, 1) := by decide +kernel
theorem dL_law_301 : decode cL_law 301 = .ok (.iload_n 3, 1) := by decide +kernel
theorem dL_law_302 : decode cL_law 302 = .ok (.iconst 2, 1) := by decide +kernel
theorem dL_law_303 : decode cL_law 303 = .ok (.iadd, 1) := by decide +kernel
theorem dL_law_304 : decode cL_law 304 = .ok (.iaload, 1) := by decide +kernel
theorem dL_law_305 : decode cL_law 305 = .ok (.aload_n 0, 1) := by decide +kernel
theorem dL_law_306 : decode cL_law 306 = .ok (.iload_n 3, 1) := by decide +kernel
theorem dL_law_307 : decode cL_law 307 = .ok (.iconst 3, 1) := by decide +kernel
theorem dL_law_308 : decode cL_law 308 = .ok (.iadd, 1) := by decide +kernel
theorem dL_law_309 : decode cL_law 309 = .ok (.iaload, 1) := by decide +kernel
theorem dL_law_310 : decode cL_law 310 = .ok (.invokevirtual 31, 3) := by decide +kernel
theorem dL_law_313 : decode cL_law 313 = .ok (.if_icmp .eq 509, 3) := by decide +kernel
theorem dL_law_316 : decode cL_law 316 = .ok (.iconst 0, 1) := by decide +kernel
theorem dL_law_317 : decode cL_law 317 = .ok (.ireturn, 1) := by decide +kernel
theorem dL_law_318 : decode cL_law 318 = .ok (.aload_n 1, 1) := by decide +kernel
theorem dL_law_319 : decode cL_law 319 = .ok (.aload_n 0, 1) := by decide +kernel
theorem dL_law_320 : decode cL_law 320 = .ok (.iload_n 3, 1) := by decide +kernel
theorem dL_law_321 : decode cL_law 321 = .ok (.iconst 1, 1) := by decide +kernel
theorem dL_law_322 : decode cL_law 322 = .ok (.iadd, 1) := by decide +kernel
theorem dL_law_323 : decode cL_law 323 = .ok (.iaload, 1) := by decide +kernel
theorem dL_law_324 : decode cL_law 324 = .ok (.aload_n 0, 1) := by decide +kernel
theorem dL_law_325 : decode cL_law 325 = .ok (.iload_n 3, 1) := by decide +kernel
theorem dL_law_326 : decode cL_law 326 = .ok (.iconst 2, 1) := by decide +kernel
theorem dL_law_327 : decode cL_law 327 = .ok (.iadd, 1) := by decide +kernel
theorem dL_law_328 : decode cL_law 328 = .ok (.iaload, 1) := by decide +kernel
theorem dL_law_329 : decode cL_law 329 = .ok (.invokevirtual 32, 3) := by decide +kernel
theorem dL_law_332 : decode cL_law 332 = .ok (.aload_n 2, 1) := by decide +kernel
theorem dL_law_333 : decode cL_law 333 = .ok (.aload_n 0, 1) := by decide +kernel
theorem dL_law_334 : decode cL_law 334 = .ok (.iload_n 3, 1) := by decide +kernel
theorem dL_law_335 : decode cL_law 335 = .ok (.iconst 1, 1) := by decide +kernel
theorem dL_law_336 : decode cL_law 336 = .ok (.iadd, 1) := by decide +kernel
theorem dL_law_337 : decode cL_law 337 = .ok (.iaload, 1) := by decide +kernel
theorem dL_law_338 : decode cL_law 338 = .ok (.aload_n 0, 1) := by decide +kernel
theorem dL_law_339 : decode cL_law 339 = .ok (.iload_n 3, 1) := by decide +kernel
theorem dL_law_340 : decode cL_law 340 = .ok (.iconst 2, 1) := by decide +kernel
theorem dL_law_341 : decode cL_law 341 = .ok (.iadd, 1) := by decide +kernel
theorem dL_law_342 : decode cL_law 342 = .ok (.iaload, 1) := by decide +kernel
theorem dL_law_343 : decode cL_law 343 = .ok (.invokevirtual 35, 3) := by decide +kernel
theorem dL_law_346 : decode cL_law 346 = .ok (.if_icmp .eq 476, 3) := by decide +kernel
theorem dL_law_349 : decode cL_law 349 = .ok (.iconst 0, 1) := by decide +kernel
theorem dL_law_350 : decode cL_law 350 = .ok (.ireturn, 1) := by decide +kernel
theorem dL_law_351 : decode cL_law 351 = .ok (.aload_n 1, 1) := by decide +kernel
theorem dL_law_352 : decode cL_law 352 = .ok (.aload_n 0, 1) := by decide +kernel
theorem dL_law_353 : decode cL_law 353 = .ok (.iload_n 3, 1) := by decide +kernel
theorem dL_law_354 : decode cL_law 354 = .ok (.iconst 1, 1) := by decide +kernel
theorem dL_law_355 : decode cL_law 355 = .ok (.iadd, 1) := by decide +kernel
theorem dL_law_356 : decode cL_law 356 = .ok (.iaload, 1) := by decide +kernel
theorem dL_law_357 : decode cL_law 357 = .ok (.aload_n 0, 1) := by decide +kernel
theorem dL_law_358 : decode cL_law 358 = .ok (.iload_n 3, 1) := by decide +kernel
theorem dL_law_359 : decode cL_law 359 = .ok (.iconst 2, 1) := by decide +kernel
theorem dL_law_360 : decode cL_law 360 = .ok (.iadd, 1) := by decide +kernel
theorem dL_law_361 : decode cL_law 361 = .ok (.iaload, 1) := by decide +kernel
theorem dL_law_362 : decode cL_law 362 = .ok (.invokevirtual 36, 3) := by decide +kernel
theorem dL_law_365 : decode cL_law 365 = .ok (.aload_n 2, 1) := by decide +kernel
theorem dL_law_366 : decode cL_law 366 = .ok (.aload_n 0, 1) := by decide +kernel
theorem dL_law_367 : decode cL_law 367 = .ok (.iload_n 3, 1) := by decide +kernel
theorem dL_law_368 : decode cL_law 368 = .ok (.iconst 1, 1) := by decide +kernel
theorem dL_law_369 : decode cL_law 369 = .ok (.iadd, 1) := by decide +kernel
theorem dL_law_370 : decode cL_law 370 = .ok (.iaload, 1) := by decide +kernel
theorem dL_law_371 : decode cL_law 371 = .ok (.aload_n 0, 1) := by decide +kernel
theorem dL_law_372 : decode cL_law 372 = .ok (.iload_n 3, 1) := by decide +kernel
theorem dL_law_373 : decode cL_law 373 = .ok (.iconst 2, 1) := by decide +kernel
theorem dL_law_374 : decode cL_law 374 = .ok (.iadd, 1) := by decide +kernel
theorem dL_law_375 : decode cL_law 375 = .ok (.iaload, 1) := by decide +kernel
theorem dL_law_376 : decode cL_law 376 = .ok (.invokevirtual 39, 3) := by decide +kernel
theorem dL_law_379 : decode cL_law 379 = .ok (.if_icmp .eq 443, 3) := by decide +kernel
theorem dL_law_382 : decode cL_law 382 = .ok (.iconst 0, 1) := by decide +kernel
theorem dL_law_383 : decode cL_law 383 = .ok (.ireturn, 1) := by decide +kernel
theorem dL_law_384 : decode cL_law 384 = .ok (.aload_n 1, 1) := by decide +kernel
theorem dL_law_385 : decode cL_law 385 = .ok (.aload_n 0, 1) := by decide +kernel
theorem dL_law_386 : decode cL_law 386 = .ok (.iload_n 3, 1) := by decide +kernel
theorem dL_law_387 : decode cL_law 387 = .ok (.iconst 1, 1) := by decide +kernel
theorem dL_law_388 : decode cL_law 388 = .ok (.iadd, 1) := by decide +kernel
theorem dL_law_389 : decode cL_law 389 = .ok (.iaload, 1) := by decide +kernel
theorem dL_law_390 : decode cL_law 390 = .ok (.invokevirtual 40, 3) := by decide +kernel
theorem dL_law_393 : decode cL_law 393 = .ok (.aload_n 2, 1) := by decide +kernel
theorem dL_law_394 : decode cL_law 394 = .ok (.aload_n 0, 1) := by decide +kernel
theorem dL_law_395 : decode cL_law 395 = .ok (.iload_n 3, 1) := by decide +kernel
theorem dL_law_396 : decode cL_law 396 = .ok (.iconst 1, 1) := by decide +kernel
theorem dL_law_397 : decode cL_law 397 = .ok (.iadd, 1) := by decide +kernel
theorem dL_law_398 : decode cL_law 398 = .ok (.iaload, 1) := by decide +kernel
theorem dL_law_399 : decode cL_law 399 = .ok (.invokevirtual 44, 3) := by decide +kernel
theorem dL_law_402 : decode cL_law 402 = .ok (.if_icmp .eq 420, 3) := by decide +kernel
theorem dL_law_405 : decode cL_law 405 = .ok (.iconst 0, 1) := by decide +kernel
theorem dL_law_406 : decode cL_law 406 = .ok (.ireturn, 1) := by decide +kernel
theorem dL_law_407 : decode cL_law 407 = .ok (.aload_n 1, 1) := by decide +kernel
theorem dL_law_408 : decode cL_law 408 = .ok (.aload_n 0, 1) := by decide +kernel
theorem dL_law_409 : decode cL_law 409 = .ok (.iload_n 3, 1) := by decide +kernel
theorem dL_law_410 : decode cL_law 410 = .ok (.iconst 1, 1) := by decide +kernel
theorem dL_law_411 : decode cL_law 411 = .ok (.iadd, 1) := by decide +kernel
theorem dL_law_412 : decode cL_law 412 = .ok (.iaload, 1) := by decide +kernel
theorem dL_law_413 : decode cL_law 413 = .ok (.aload_n 0, 1) := by decide +kernel
theorem dL_law_414 : decode cL_law 414 = .ok (.iload_n 3, 1) := by decide +kernel
theorem dL_law_415 : decode cL_law 415 = .ok (.iconst 2, 1) := by decide +kernel
theorem dL_law_416 : decode cL_law 416 = .ok (.iadd, 1) := by decide +kernel
theorem dL_law_417 : decode cL_law 417 = .ok (.iaload, 1) := by decide +kernel
theorem dL_law_418 : decode cL_law 418 = .ok (.aload_n 0, 1) := by decide +kernel
theorem dL_law_419 : decode cL_law 419 = .ok (.iload_n 3, 1) := by decide +kernel
theorem dL_law_420 : decode cL_law 420 = .ok (.iconst 3, 1) := by decide +kernel
theorem dL_law_421 : decode cL_law 421 = .ok (.iadd, 1) := by decide +kernel
theorem dL_law_422 : decode cL_law 422 = .ok (.iaload, 1) := by decide +kernel
theorem dL_law_423 : decode cL_law 423 = .ok (.invokevirtual 45, 3) := by decide +kernel
theorem dL_law_426 : decode cL_law 426 = .ok (.aload_n 2, 1) := by decide +kernel
theorem dL_law_427 : decode cL_law 427 = .ok (.aload_n 0, 1) := by decide +kernel
theorem dL_law_428 : decode cL_law 428 = .ok (.iload_n 3, 1) := by decide +kernel
theorem dL_law_429 : decode cL_law 429 = .ok (.iconst 1, 1) := by decide +kernel
theorem dL_law_430 : decode cL_law 430 = .ok (.iadd, 1) := by decide +kernel
theorem dL_law_431 : decode cL_law 431 = .ok (.iaload, 1) := by decide +kernel
theorem dL_law_432 : decode cL_law 432 = .ok (.aload_n 0, 1) := by decide +kernel
theorem dL_law_433 : decode cL_law 433 = .ok (.iload_n 3, 1) := by decide +kernel
theorem dL_law_434 : decode cL_law 434 = .ok (.iconst 2, 1) := by decide +kernel
theorem dL_law_435 : decode cL_law 435 = .ok (.iadd, 1) := by decide +kernel
theorem dL_law_436 : decode cL_law 436 = .ok (.iaload, 1) := by decide +kernel
theorem dL_law_437 : decode cL_law 437 = .ok (.aload_n 0, 1) := by decide +kernel
theorem dL_law_438 : decode cL_law 438 = .ok (.iload_n 3, 1) := by decide +kernel
theorem dL_law_439 : decode cL_law 439 = .ok (.iconst 3, 1) := by decide +kernel
theorem dL_law_440 : decode cL_law 440 = .ok (.iadd, 1) := by decide +kernel
theorem dL_law_441 : decode cL_law 441 = .ok (.iaload, 1) := by decide +kernel
theorem dL_law_442 : decode cL_law 442 = .ok (.invokevirtual 48, 3) := by decide +kernel
theorem dL_law_445 : decode cL_law 445 = .ok (.if_icmp .eq 377, 3) := by decide +kernel
theorem dL_law_448 : decode cL_law 448 = .ok (.iconst 0, 1) := by decide +kernel
theorem dL_law_449 : decode cL_law 449 = .ok (.ireturn, 1) := by decide +kernel
theorem dL_law_450 : decode cL_law 450 = .ok (.aload_n 1, 1) := by decide +kernel
theorem dL_law_451 : decode cL_law 451 = .ok (.aload_n 0, 1) := by decide +kernel
theorem dL_law_452 : decode cL_law 452 = .ok (.iload_n 3, 1) := by decide +kernel
theorem dL_law_453 : decode cL_law 453 = .ok (.iconst 1, 1) := by decide +kernel
theorem dL_law_454 : decode cL_law 454 = .ok (.iadd, 1) := by decide +kernel
theorem dL_law_455 : decode cL_law 455 = .ok (.iaload, 1) := by decide +kernel
theorem dL_law_456 : decode cL_law 456 = .ok (.aload_n 0, 1) := by decide +kernel
theorem dL_law_457 : decode cL_law 457 = .ok (.iload_n 3, 1) := by decide +kernel
theorem dL_law_458 : decode cL_law 458 = .ok (.iconst 2, 1) := by decide +kernel
theorem dL_law_459 : decode cL_law 459 = .ok (.iadd, 1) := by decide +kernel
theorem dL_law_460 : decode cL_law 460 = .ok (.iaload, 1) := by decide +kernel
theorem dL_law_461 : decode cL_law 461 = .ok (.invokevirtual 49, 3) := by decide +kernel
theorem dL_law_464 : decode cL_law 464 = .ok (.aload_n 2, 1) := by decide +kernel
theorem dL_law_465 : decode cL_law 465 = .ok (.aload_n 0, 1) := by decide +kernel
theorem dL_law_466 : decode cL_law 466 = .ok (.iload_n 3, 1) := by decide +kernel
theorem dL_law_467 : decode cL_law 467 = .ok (.iconst 1, 1) := by decide +kernel
theorem dL_law_468 : decode cL_law 468 = .ok (.iadd, 1) := by decide +kernel
theorem dL_law_469 : decode cL_law 469 = .ok (.iaload, 1) := by decide +kernel
theorem dL_law_470 : decode cL_law 470 = .ok (.aload_n 0, 1) := by decide +kernel
theorem dL_law_471 : decode cL_law 471 = .ok (.iload_n 3, 1) := by decide +kernel
theorem dL_law_472 : decode cL_law 472 = .ok (.iconst 2, 1) := by decide +kernel
theorem dL_law_473 : decode cL_law 473 = .ok (.iadd, 1) := by decide +kernel
theorem dL_law_474 : decode cL_law 474 = .ok (.iaload, 1) := by decide +kernel
theorem dL_law_475 : decode cL_law 475 = .ok (.invokevirtual 52, 3) := by decide +kernel
theorem dL_law_478 : decode cL_law 478 = .ok (.if_icmp .eq 344, 3) := by decide +kernel
theorem dL_law_481 : decode cL_law 481 = .ok (.iconst 0, 1) := by decide +kernel
theorem dL_law_482 : decode cL_law 482 = .ok (.ireturn, 1) := by decide +kernel
theorem dL_law_483 : decode cL_law 483 = .ok (.aload_n 1, 1) := by decide +kernel
theorem dL_law_484 : decode cL_law 484 = .ok (.aload_n 0, 1) := by decide +kernel
theorem dL_law_485 : decode cL_law 485 = .ok (.iload_n 3, 1) := by decide +kernel
theorem dL_law_486 : decode cL_law 486 = .ok (.iconst 1, 1) := by decide +kernel
theorem dL_law_487 : decode cL_law 487 = .ok (.iadd, 1) := by decide +kernel
theorem dL_law_488 : decode cL_law 488 = .ok (.iaload, 1) := by decide +kernel
theorem dL_law_489 : decode cL_law 489 = .ok (.invokevirtual 53, 3) := by decide +kernel
theorem dL_law_492 : decode cL_law 492 = .ok (.aload_n 2, 1) := by decide +kernel
theorem dL_law_493 : decode cL_law 493 = .ok (.aload_n 0, 1) := by decide +kernel
theorem dL_law_494 : decode cL_law 494 = .ok (.iload_n 3, 1) := by decide +kernel
theorem dL_law_495 : decode cL_law 495 = .ok (.iconst 1, 1) := by decide +kernel
theorem dL_law_496 : decode cL_law 496 = .ok (.iadd, 1) := by decide +kernel
theorem dL_law_497 : decode cL_law 497 = .ok (.iaload, 1) := by decide +kernel
theorem dL_law_498 : decode cL_law 498 = .ok (.invokevirtual 56, 3) := by decide +kernel
theorem dL_law_501 : decode cL_law 501 = .ok (.if_icmp .eq 321, 3) := by decide +kernel
theorem dL_law_504 : decode cL_law 504 = .ok (.iconst 0, 1) := by decide +kernel
theorem dL_law_505 : decode cL_law 505 = .ok (.ireturn, 1) := by decide +kernel
theorem dL_law_506 : decode cL_law 506 = .ok (.aload_n 1, 1) := by decide +kernel
theorem dL_law_507 : decode cL_law 507 = .ok (.aload_n 0, 1) := by decide +kernel
theorem dL_law_508 : decode cL_law 508 = .ok (.iload_n 3, 1) := by decide +kernel
theorem dL_law_509 : decode cL_law 509 = .ok (.iconst 1, 1) := by decide +kernel
theorem dL_law_510 : decode cL_law 510 = .ok (.iadd, 1) := by decide +kernel
theorem dL_law_511 : decode cL_law 511 = .ok (.iaload, 1) := by decide +kernel
theorem dL_law_512 : decode cL_law 512 = .ok (.invokevirtual 57, 3) := by decide +kernel
theorem dL_law_515 : decode cL_law 515 = .ok (.aload_n 2, 1) := by decide +kernel
theorem dL_law_516 : decode cL_law 516 = .ok (.aload_n 0, 1) := by decide +kernel
theorem dL_law_517 : decode cL_law 517 = .ok (.iload_n 3, 1) := by decide +kernel
theorem dL_law_518 : decode cL_law 518 = .ok (.iconst 1, 1) := by decide +kernel
theorem dL_law_519 : decode cL_law 519 = .ok (.iadd, 1) := by decide +kernel
theorem dL_law_520 : decode cL_law 520 = .ok (.iaload, 1) := by decide +kernel
theorem dL_law_521 : decode cL_law 521 = .ok (.invokevirtual 60, 3) := by decide +kernel
theorem dL_law_524 : decode cL_law 524 = .ok (.if_icmp .eq 298, 3) := by decide +kernel
theorem dL_law_527 : decode cL_law 527 = .ok (.iconst 0, 1) := by decide +kernel
theorem dL_law_528 : decode cL_law 528 = .ok (.ireturn, 1) := by decide +kernel
theorem dL_law_529 : decode cL_law 529 = .ok (.aload_n 1, 1) := by decide +kernel
theorem dL_law_530 : decode cL_law 530 = .ok (.aload_n 0, 1) := by decide +kernel
theorem dL_law_531 : decode cL_law 531 = .ok (.iload_n 3, 1) := by decide +kernel
theorem dL_law_532 : decode cL_law 532 = .ok (.iconst 1, 1) := by decide +kernel
theorem dL_law_533 : decode cL_law 533 = .ok (.iadd, 1) := by decide +kernel
theorem dL_law_534 : decode cL_law 534 = .ok (.iaload, 1) := by decide +kernel
theorem dL_law_535 : decode cL_law 535 = .ok (.aload_n 0, 1) := by decide +kernel
theorem dL_law_536 : decode cL_law 536 = .ok (.iload_n 3, 1) := by decide +kernel
theorem dL_law_537 : decode cL_law 537 = .ok (.iconst 2, 1) := by decide +kernel
theorem dL_law_538 : decode cL_law 538 = .ok (.iadd, 1) := by decide +kernel
theorem dL_law_539 : decode cL_law 539 = .ok (.iaload, 1) := by decide +kernel
theorem dL_law_540 : decode cL_law 540 = .ok (.invokevirtual 61, 3) := by decide +kernel
theorem dL_law_543 : decode cL_law 543 = .ok (.aload_n 2, 1) := by decide +kernel
theorem dL_law_544 : decode cL_law 544 = .ok (.aload_n 0, 1) := by decide +kernel
theorem dL_law_545 : decode cL_law 545 = .ok (.iload_n 3, 1) := by decide +kernel
theorem dL_law_546 : decode cL_law 546 = .ok (.iconst 1, 1) := by decide +kernel
theorem dL_law_547 : decode cL_law 547 = .ok (.iadd, 1) := by decide +kernel
theorem dL_law_548 : decode cL_law 548 = .ok (.iaload, 1) := by decide +kernel
theorem dL_law_549 : decode cL_law 549 = .ok (.aload_n 0, 1) := by decide +kernel
theorem dL_law_550 : decode cL_law 550 = .ok (.iload_n 3, 1) := by decide +kernel
theorem dL_law_551 : decode cL_law 551 = .ok (.iconst 2, 1) := by decide +kernel
theorem dL_law_552 : decode cL_law 552 = .ok (.iadd, 1) := by decide +kernel
theorem dL_law_553 : decode cL_law 553 = .ok (.iaload, 1) := by decide +kernel
theorem dL_law_554 : decode cL_law 554 = .ok (.invokevirtual 64, 3) := by decide +kernel
theorem dL_law_557 : decode cL_law 557 = .ok (.if_icmp .eq 265, 3) := by decide +kernel
theorem dL_law_560 : decode cL_law 560 = .ok (.iconst 0, 1) := by decide +kernel
theorem dL_law_561 : decode cL_law 561 = .ok (.ireturn, 1) := by decide +kernel
theorem dL_law_562 : decode cL_law 562 = .ok (.aload_n 1, 1) := by decide +kernel
theorem dL_law_563 : decode cL_law 563 = .ok (.aload_n 0, 1) := by decide +kernel
theorem dL_law_564 : decode cL_law 564 = .ok (.iload_n 3, 1) := by decide +kernel
theorem dL_law_565 : decode cL_law 565 = .ok (.iconst 1, 1) := by decide +kernel
theorem dL_law_566 : decode cL_law 566 = .ok (.iadd, 1) := by decide +kernel
theorem dL_law_567 : decode cL_law 567 = .ok (.iaload, 1) := by decide +kernel
theorem dL_law_568 : decode cL_law 568 = .ok (.invokevirtual 65, 3) := by decide +kernel
theorem dL_law_571 : decode cL_law 571 = .ok (.aload_n 2, 1) := by decide +kernel
theorem dL_law_572 : decode cL_law 572 = .ok (.aload_n 0, 1) := by decide +kernel
theorem dL_law_573 : decode cL_law 573 = .ok (.iload_n 3, 1) := by decide +kernel
theorem dL_law_574 : decode cL_law 574 = .ok (.iconst 1, 1) := by decide +kernel
theorem dL_law_575 : decode cL_law 575 = .ok (.iadd, 1) := by decide +kernel
theorem dL_law_576 : decode cL_law 576 = .ok (.iaload, 1) := by decide +kernel
theorem dL_law_577 : decode cL_law 577 = .ok (.invokevirtual 68, 3) := by decide +kernel
theorem dL_law_580 : decode cL_law 580 = .ok (.if_icmp .eq 242, 3) := by decide +kernel
theorem dL_law_583 : decode cL_law 583 = .ok (.iconst 0, 1) := by decide +kernel
theorem dL_law_584 : decode cL_law 584 = .ok (.ireturn, 1) := by decide +kernel
theorem dL_law_585 : decode cL_law 585 = .ok (.aload_n 1, 1) := by decide +kernel
theorem dL_law_586 : decode cL_law 586 = .ok (.aload_n 0, 1) := by decide +kernel
theorem dL_law_587 : decode cL_law 587 = .ok (.iload_n 3, 1) := by decide +kernel
theorem dL_law_588 : decode cL_law 588 = .ok (.iconst 1, 1) := by decide +kernel
theorem dL_law_589 : decode cL_law 589 = .ok (.iadd, 1) := by decide +kernel
theorem dL_law_590 : decode cL_law 590 = .ok (.iaload, 1) := by decide +kernel
theorem dL_law_591 : decode cL_law 591 = .ok (.aload_n 0, 1) := by decide +kernel
theorem dL_law_592 : decode cL_law 592 = .ok (.iload_n 3, 1) := by decide +kernel
theorem dL_law_593 : decode cL_law 593 = .ok (.iconst 2, 1) := by decide +kernel
theorem dL_law_594 : decode cL_law 594 = .ok (.iadd, 1) := by decide +kernel
theorem dL_law_595 : decode cL_law 595 = .ok (.iaload, 1) := by decide +kernel
theorem dL_law_596 : decode cL_law 596 = .ok (.invokevirtual 69, 3) := by decide +kernel
theorem dL_law_599 : decode cL_law 599 = .ok (.aload_n 2, 1) := by decide +kernel
theorem dL_law_600 : decode cL_law 600 = .ok (.aload_n 0, 1) := by decide +kernel
theorem dL_law_601 : decode cL_law 601 = .ok (.iload_n 3, 1) := by decide +kernel
theorem dL_law_602 : decode cL_law 602 = .ok (.iconst 1, 1) := by decide +kernel
theorem dL_law_603 : decode cL_law 603 = .ok (.iadd, 1) := by decide +kernel
theorem dL_law_604 : decode cL_law 604 = .ok (.iaload, 1) := by decide +kernel
theorem dL_law_605 : decode cL_law 605 = .ok (.aload_n 0, 1) := by decide +kernel
theorem dL_law_606 : decode cL_law 606 = .ok (.iload_n 3, 1) := by decide +kernel
theorem dL_law_607 : decode cL_law 607 = .ok (.iconst 2, 1) := by decide +kernel
theorem dL_law_608 : decode cL_law 608 = .ok (.iadd, 1) := by decide +kernel
theorem dL_law_609 : decode cL_law 609 = .ok (.iaload, 1) := by decide +kernel
theorem dL_law_610 : decode cL_law 610 = .ok (.invokevirtual 72, 3) := by decide +kernel
theorem dL_law_613 : decode cL_law 613 = .ok (.if_icmp .eq 209, 3) := by decide +kernel
theorem dL_law_616 : decode cL_law 616 = .ok (.iconst 0, 1) := by decide +kernel
theorem dL_law_617 : decode cL_law 617 = .ok (.ireturn, 1) := by decide +kernel
theorem dL_law_618 : decode cL_law 618 = .ok (.aload_n 1, 1) := by decide +kernel
theorem dL_law_619 : decode cL_law 619 = .ok (.aload_n 0, 1) := by decide +kernel
theorem dL_law_620 : decode cL_law 620 = .ok (.iload_n 3, 1) := by decide +kernel
theorem dL_law_621 : decode cL_law 621 = .ok (.iconst 1, 1) := by decide +kernel
theorem dL_law_622 : decode cL_law 622 = .ok (.iadd, 1) := by decide +kernel
theorem dL_law_623 : decode cL_law 623 = .ok (.iaload, 1) := by decide +kernel
theorem dL_law_624 : decode cL_law 624 = .ok (.aload_n 0, 1) := by decide +kernel
theorem dL_law_625 : decode cL_law 625 = .ok (.iload_n 3, 1) := by decide +kernel
theorem dL_law_626 : decode cL_law 626 = .ok (.iconst 2, 1) := by decide +kernel
theorem dL_law_627 : decode cL_law 627 = .ok (.iadd, 1) := by decide +kernel
theorem dL_law_628 : decode cL_law 628 = .ok (.iaload, 1) := by decide +kernel
theorem dL_law_629 : decode cL_law 629 = .ok (.invokevirtual 73, 3) := by decide +kernel
theorem dL_law_632 : decode cL_law 632 = .ok (.aload_n 2, 1) := by decide +kernel
theorem dL_law_633 : decode cL_law 633 = .ok (.aload_n 0, 1) := by decide +kernel
theorem dL_law_634 : decode cL_law 634 = .ok (.iload_n 3, 1) := by decide +kernel
theorem dL_law_635 : decode cL_law 635 = .ok (.iconst 1, 1) := by decide +kernel
theorem dL_law_636 : decode cL_law 636 = .ok (.iadd, 1) := by decide +kernel
theorem dL_law_637 : decode cL_law 637 = .ok (.iaload, 1) := by decide +kernel
theorem dL_law_638 : decode cL_law 638 = .ok (.aload_n 0, 1) := by decide +kernel
theorem dL_law_639 : decode cL_law 639 = .ok (.iload_n 3, 1) := by decide +kernel
theorem dL_law_640 : decode cL_law 640 = .ok (.iconst 2, 1) := by decide +kernel
theorem dL_law_641 : decode cL_law 641 = .ok (.iadd, 1) := by decide +kernel
theorem dL_law_642 : decode cL_law 642 = .ok (.iaload, 1) := by decide +kernel
theorem dL_law_643 : decode cL_law 643 = .ok (.invokevirtual 76, 3) := by decide +kernel
theorem dL_law_646 : decode cL_law 646 = .ok (.if_icmp .eq 176, 3) := by decide +kernel
theorem dL_law_649 : decode cL_law 649 = .ok (.iconst 0, 1) := by decide +kernel
theorem dL_law_650 : decode cL_law 650 = .ok (.ireturn, 1) := by decide +kernel
theorem dL_law_651 : decode cL_law 651 = .ok (.aload_n 1, 1) := by decide +kernel
theorem dL_law_652 : decode cL_law 652 = .ok (.aload_n 0, 1) := by decide +kernel
theorem dL_law_653 : decode cL_law 653 = .ok (.iload_n 3, 1) := by decide +kernel
theorem dL_law_654 : decode cL_law 654 = .ok (.iconst 1, 1) := by decide +kernel
theorem dL_law_655 : decode cL_law 655 = .ok (.iadd, 1) := by decide +kernel
theorem dL_law_656 : decode cL_law 656 = .ok (.iaload, 1) := by decide +kernel
theorem dL_law_657 : decode cL_law 657 = .ok (.aload_n 0, 1) := by decide +kernel
theorem dL_law_658 : decode cL_law 658 = .ok (.iload_n 3, 1) := by decide +kernel
theorem dL_law_659 : decode cL_law 659 = .ok (.iconst 2, 1) := by decide +kernel
theorem dL_law_660 : decode cL_law 660 = .ok (.iadd, 1) := by decide +kernel
theorem dL_law_661 : decode cL_law 661 = .ok (.iaload, 1) := by decide +kernel
theorem dL_law_662 : decode cL_law 662 = .ok (.invokevirtual 77, 3) := by decide +kernel
theorem dL_law_665 : decode cL_law 665 = .ok (.aload_n 2, 1) := by decide +kernel
theorem dL_law_666 : decode cL_law 666 = .ok (.aload_n 0, 1) := by decide +kernel
theorem dL_law_667 : decode cL_law 667 = .ok (.iload_n 3, 1) := by decide +kernel
theorem dL_law_668 : decode cL_law 668 = .ok (.iconst 1, 1) := by decide +kernel
theorem dL_law_669 : decode cL_law 669 = .ok (.iadd, 1) := by decide +kernel
theorem dL_law_670 : decode cL_law 670 = .ok (.iaload, 1) := by decide +kernel
theorem dL_law_671 : decode cL_law 671 = .ok (.aload_n 0, 1) := by decide +kernel
theorem dL_law_672 : decode cL_law 672 = .ok (.iload_n 3, 1) := by decide +kernel
theorem dL_law_673 : decode cL_law 673 = .ok (.iconst 2, 1) := by decide +kernel
theorem dL_law_674 : decode cL_law 674 = .ok (.iadd, 1) := by decide +kernel
theorem dL_law_675 : decode cL_law 675 = .ok (.iaload, 1) := by decide +kernel
theorem dL_law_676 : decode cL_law 676 = .ok (.invokevirtual 80, 3) := by decide +kernel
theorem dL_law_679 : decode cL_law 679 = .ok (.if_icmp .eq 143, 3) := by decide +kernel
theorem dL_law_682 : decode cL_law 682 = .ok (.iconst 0, 1) := by decide +kernel
theorem dL_law_683 : decode cL_law 683 = .ok (.ireturn, 1) := by decide +kernel
theorem dL_law_684 : decode cL_law 684 = .ok (.aload_n 1, 1) := by decide +kernel
theorem dL_law_685 : decode cL_law 685 = .ok (.aload_n 0, 1) := by decide +kernel
theorem dL_law_686 : decode cL_law 686 = .ok (.iload_n 3, 1) := by decide +kernel
theorem dL_law_687 : decode cL_law 687 = .ok (.iconst 1, 1) := by decide +kernel
theorem dL_law_688 : decode cL_law 688 = .ok (.iadd, 1) := by decide +kernel
theorem dL_law_689 : decode cL_law 689 = .ok (.iaload, 1) := by decide +kernel
theorem dL_law_690 : decode cL_law 690 = .ok (.aload_n 0, 1) := by decide +kernel
theorem dL_law_691 : decode cL_law 691 = .ok (.iload_n 3, 1) := by decide +kernel
theorem dL_law_692 : decode cL_law 692 = .ok (.iconst 2, 1) := by decide +kernel
theorem dL_law_693 : decode cL_law 693 = .ok (.iadd, 1) := by decide +kernel
theorem dL_law_694 : decode cL_law 694 = .ok (.iaload, 1) := by decide +kernel
theorem dL_law_695 : decode cL_law 695 = .ok (.invokevirtual 81, 3) := by decide +kernel
theorem dL_law_698 : decode cL_law 698 = .ok (.aload_n 2, 1) := by decide +kernel
theorem dL_law_699 : decode cL_law 699 = .ok (.aload_n 0, 1) := by decide +kernel
theorem dL_law_700 : decode cL_law 700 = .ok (.iload_n 3, 1) := by decide +kernel
theorem dL_law_701 : decode cL_law 701 = .ok (.iconst 1, 1) := by decide +kernel
theorem dL_law_702 : decode cL_law 702 = .ok (.iadd, 1) := by decide +kernel
theorem dL_law_703 : decode cL_law 703 = .ok (.iaload, 1) := by decide +kernel
theorem dL_law_704 : decode cL_law 704 = .ok (.aload_n 0, 1) := by decide +kernel
theorem dL_law_705 : decode cL_law 705 = .ok (.iload_n 3, 1) := by decide +kernel
theorem dL_law_706 : decode cL_law 706 = .ok (.iconst 2, 1) := by decide +kernel
theorem dL_law_707 : decode cL_law 707 = .ok (.iadd, 1) := by decide +kernel
theorem dL_law_708 : decode cL_law 708 = .ok (.iaload, 1) := by decide +kernel
theorem dL_law_709 : decode cL_law 709 = .ok (.invokevirtual 84, 3) := by decide +kernel
theorem dL_law_712 : decode cL_law 712 = .ok (.if_icmp .eq 110, 3) := by decide +kernel
theorem dL_law_715 : decode cL_law 715 = .ok (.iconst 0, 1) := by decide +kernel
theorem dL_law_716 : decode cL_law 716 = .ok (.ireturn, 1) := by decide +kernel
theorem dL_law_717 : decode cL_law 717 = .ok (.aload_n 1, 1) := by decide +kernel
theorem dL_law_718 : decode cL_law 718 = .ok (.aload_n 0, 1) := by decide +kernel
theorem dL_law_719 : decode cL_law 719 = .ok (.iload_n 3, 1) := by decide +kernel
theorem dL_law_720 : decode cL_law 720 = .ok (.iconst 1, 1) := by decide +kernel
theorem dL_law_721 : decode cL_law 721 = .ok (.iadd, 1) := by decide +kernel
theorem dL_law_722 : decode cL_law 722 = .ok (.iaload, 1) := by decide +kernel
theorem dL_law_723 : decode cL_law 723 = .ok (.invokevirtual 85, 3) := by decide +kernel
theorem dL_law_726 : decode cL_law 726 = .ok (.aload_n 2, 1) := by decide +kernel
theorem dL_law_727 : decode cL_law 727 = .ok (.aload_n 0, 1) := by decide +kernel
theorem dL_law_728 : decode cL_law 728 = .ok (.iload_n 3, 1) := by decide +kernel
theorem dL_law_729 : decode cL_law 729 = .ok (.iconst 1, 1) := by decide +kernel
theorem dL_law_730 : decode cL_law 730 = .ok (.iadd, 1) := by decide +kernel
theorem dL_law_731 : decode cL_law 731 = .ok (.iaload, 1) := by decide +kernel
theorem dL_law_732 : decode cL_law 732 = .ok (.invokevirtual 88, 3) := by decide +kernel
theorem dL_law_735 : decode cL_law 735 = .ok (.if_icmp .eq 87, 3) := by decide +kernel
theorem dL_law_738 : decode cL_law 738 = .ok (.iconst 0, 1) := by decide +kernel
theorem dL_law_739 : decode cL_law 739 = .ok (.ireturn, 1) := by decide +kernel
theorem dL_law_740 : decode cL_law 740 = .ok (.aload_n 1, 1) := by decide +kernel
theorem dL_law_741 : decode cL_law 741 = .ok (.invokevirtual 89, 3) := by decide +kernel
theorem dL_law_744 : decode cL_law 744 = .ok (.aload_n 2, 1) := by decide +kernel
theorem dL_law_745 : decode cL_law 745 = .ok (.invokevirtual 93, 3) := by decide +kernel
theorem dL_law_748 : decode cL_law 748 = .ok (.if_icmp .eq 74, 3) := by decide +kernel
theorem dL_law_751 : decode cL_law 751 = .ok (.iconst 0, 1) := by decide +kernel
theorem dL_law_752 : decode cL_law 752 = .ok (.ireturn, 1) := by decide +kernel
theorem dL_law_753 : decode cL_law 753 = .ok (.aload_n 1, 1) := by decide +kernel
theorem dL_law_754 : decode cL_law 754 = .ok (.invokevirtual 94, 3) := by decide +kernel
theorem dL_law_757 : decode cL_law 757 = .ok (.aload_n 2, 1) := by decide +kernel
theorem dL_law_758 : decode cL_law 758 = .ok (.invokevirtual 97, 3) := by decide +kernel
theorem dL_law_761 : decode cL_law 761 = .ok (.if_icmp .eq 61, 3) := by decide +kernel
theorem dL_law_764 : decode cL_law 764 = .ok (.iconst 0, 1) := by decide +kernel
theorem dL_law_765 : decode cL_law 765 = .ok (.ireturn, 1) := by decide +kernel
theorem dL_law_766 : decode cL_law 766 = .ok (.aload_n 1, 1) := by decide +kernel
theorem dL_law_767 : decode cL_law 767 = .ok (.aload_n 0, 1) := by decide +kernel
theorem dL_law_768 : decode cL_law 768 = .ok (.iload_n 3, 1) := by decide +kernel
theorem dL_law_769 : decode cL_law 769 = .ok (.iconst 1, 1) := by decide +kernel
theorem dL_law_770 : decode cL_law 770 = .ok (.iadd, 1) := by decide +kernel
theorem dL_law_771 : decode cL_law 771 = .ok (.iaload, 1) := by decide +kernel
theorem dL_law_772 : decode cL_law 772 = .ok (.aload_n 0, 1) := by decide +kernel
theorem dL_law_773 : decode cL_law 773 = .ok (.iload_n 3, 1) := by decide +kernel
theorem dL_law_774 : decode cL_law 774 = .ok (.iconst 2, 1) := by decide +kernel
theorem dL_law_775 : decode cL_law 775 = .ok (.iadd, 1) := by decide +kernel
theorem dL_law_776 : decode cL_law 776 = .ok (.iaload, 1) := by decide +kernel
theorem dL_law_777 : decode cL_law 777 = .ok (.invokevirtual 98, 3) := by decide +kernel
theorem dL_law_780 : decode cL_law 780 = .ok (.aload_n 2, 1) := by decide +kernel
theorem dL_law_781 : decode cL_law 781 = .ok (.aload_n 0, 1) := by decide +kernel
theorem dL_law_782 : decode cL_law 782 = .ok (.iload_n 3, 1) := by decide +kernel
theorem dL_law_783 : decode cL_law 783 = .ok (.iconst 1, 1) := by decide +kernel
theorem dL_law_784 : decode cL_law 784 = .ok (.iadd, 1) := by decide +kernel
theorem dL_law_785 : decode cL_law 785 = .ok (.iaload, 1) := by decide +kernel
theorem dL_law_786 : decode cL_law 786 = .ok (.aload_n 0, 1) := by decide +kernel
theorem dL_law_787 : decode cL_law 787 = .ok (.iload_n 3, 1) := by decide +kernel
theorem dL_law_788 : decode cL_law 788 = .ok (.iconst 2, 1) := by decide +kernel
theorem dL_law_789 : decode cL_law 789 = .ok (.iadd, 1) := by decide +kernel
theorem dL_law_790 : decode cL_law 790 = .ok (.iaload, 1) := by decide +kernel
theorem dL_law_791 : decode cL_law 791 = .ok (.invokevirtual 101, 3) := by decide +kernel
theorem dL_law_794 : decode cL_law 794 = .ok (.if_icmp .eq 28, 3) := by decide +kernel
theorem dL_law_797 : decode cL_law 797 = .ok (.iconst 0, 1) := by decide +kernel
theorem dL_law_798 : decode cL_law 798 = .ok (.ireturn, 1) := by decide +kernel
theorem dL_law_799 : decode cL_law 799 = .ok (.aload_n 1, 1) := by decide +kernel
theorem dL_law_800 : decode cL_law 800 = .ok (.aload_n 0, 1) := by decide +kernel
theorem dL_law_801 : decode cL_law 801 = .ok (.iload_n 3, 1) := by decide +kernel
theorem dL_law_802 : decode cL_law 802 = .ok (.iconst 1, 1) := by decide +kernel
theorem dL_law_803 : decode cL_law 803 = .ok (.iadd, 1) := by decide +kernel
theorem dL_law_804 : decode cL_law 804 = .ok (.iaload, 1) := by decide +kernel
theorem dL_law_805 : decode cL_law 805 = .ok (.invokevirtual 102, 3) := by decide +kernel
theorem dL_law_808 : decode cL_law 808 = .ok (.aload_n 2, 1) := by decide +kernel
theorem dL_law_809 : decode cL_law 809 = .ok (.aload_n 0, 1) := by decide +kernel
theorem dL_law_810 : decode cL_law 810 = .ok (.iload_n 3, 1) := by decide +kernel
theorem dL_law_811 : decode cL_law 811 = .ok (.iconst 1, 1) := by decide +kernel
theorem dL_law_812 : decode cL_law 812 = .ok (.iadd, 1) := by decide +kernel
theorem dL_law_813 : decode cL_law 813 = .ok (.iaload, 1) := by decide +kernel
theorem dL_law_814 : decode cL_law 814 = .ok (.invokevirtual 105, 3) := by decide +kernel
theorem dL_law_817 : decode cL_law 817 = .ok (.if_icmp .eq 5, 3) := by decide +kernel
theorem dL_law_820 : decode cL_law 820 = .ok (.iconst 0, 1) := by decide +kernel
theorem dL_law_821 : decode cL_law 821 = .ok (.ireturn, 1) := by decide +kernel
theorem dL_law_822 : decode cL_law 822 = .ok (.iinc 3 6, 3) := by decide +kernel
theorem dL_law_825 : decode cL_law 825 = .ok (.goto (-807), 3) := by decide +kernel
theorem dL_law_828 : decode cL_law 828 = .ok (.iconst 1, 1) := by decide +kernel
theorem dL_law_829 : decode cL_law 829 = .ok (.ireturn, 1) := by decide +kernel
end
section
/-! ===== numbers: an Int32 by an Int ===== -/
def iI (z : Int) : Int32 := Int32.ofInt z
theorem iI_add (a b : Int) : iI a + iI b = iI (a + b) := (Int32.ofInt_add a b).symm
theorem iI_sub (a b : Int) : iI a - iI b = iI (a - b) := (Int32.ofInt_sub a b).symm
theorem iI_mul (a b : Int) : iI a * iI b = iI (a * b) := (Int32.ofInt_mul a b).symm
theorem iI_toInt {z : Int} (h : -2147483648 ≤ z) (h2 : z < 2147483648) : (iI z).toInt = z := by
  unfold iI
  exact Int32.toInt_ofInt_of_le (by omega) (by omega)
theorem iI_eta (x : Int32) : iI x.toInt = x := Int32.ofInt_toInt x
theorem iI_of (x : Int32) : ∃ z : Int, (-2147483648 ≤ z ∧ z < 2147483648) ∧ x = iI z := by
  refine ⟨x.toInt, ⟨?_, ?_⟩, (iI_eta x).symm⟩
  · have := Int32.le_toInt x; simpa using this
  · have := Int32.toInt_lt x; simpa using this
theorem iI_lt {a b : Int} (ha : -2147483648 ≤ a ∧ a < 2147483648) (hb : -2147483648 ≤ b ∧ b < 2147483648) : iI a < iI b ↔ a < b := by
  rw [Int32.lt_iff_toInt_lt, iI_toInt ha.1 ha.2, iI_toInt hb.1 hb.2]
theorem iI_le {a b : Int} (ha : -2147483648 ≤ a ∧ a < 2147483648) (hb : -2147483648 ≤ b ∧ b < 2147483648) : iI a ≤ iI b ↔ a ≤ b := by
  rw [Int32.le_iff_toInt_le, iI_toInt ha.1 ha.2, iI_toInt hb.1 hb.2]
theorem iI_eq {a b : Int} (ha : -2147483648 ≤ a ∧ a < 2147483648) (hb : -2147483648 ≤ b ∧ b < 2147483648) : iI a = iI b ↔ a = b := by
  rw [← Int32.toInt_inj, iI_toInt ha.1 ha.2, iI_toInt hb.1 hb.2]
theorem iI_0 : (0 : Int32) = iI 0 := rfl
theorem iI_nat (n : Nat) : nI n = iI (n : Int) := rfl
theorem iI_clamp {z : Int} (h : 0 ≤ z) (h2 : z < 2147483648) : (iI z).toNatClampNeg = z.toNat := by
  show (iI z).toInt.toNat = z.toNat
  rw [iI_toInt (by omega) h2]
theorem iI_in {z : Int} {n : Nat} (h : 0 ≤ z ∧ z < n) (hn : n < 2147483648) : vp_in (iI z) n := by
  rw [vp_in_iff, iI_toInt (by omega) (by omega)]
  exact h
theorem iI_ne0 {z : Int} (h : -2147483648 ≤ z ∧ z < 2147483648) (h0 : z ≠ 0) : ¬ iI z = 0 := by
  rw [iI_0, iI_eq h (by omega)]
  exact h0
theorem iI_div {a b : Int} (ha : -2147483648 < a ∧ a < 2147483648) (hb : -2147483648 ≤ b ∧ b < 2147483648) : iI a / iI b = iI (a.tdiv b) := by
  apply Int32.toInt_inj.mp
  have hd : -2147483648 ≤ a.tdiv b ∧ a.tdiv b < 2147483648 := by
    have h1 : (a.tdiv b).natAbs ≤ a.natAbs := by
      rw [Int.natAbs_tdiv]; exact Nat.div_le_self _ _
    omega
  rw [iI_toInt hd.1 hd.2, Int32.toInt_div_of_ne_left, iI_toInt (by omega) ha.2, iI_toInt hb.1 hb.2]
  intro h
  have h2 := congrArg Int32.toInt h
  rw [iI_toInt (by omega) ha.2] at h2
  have h3 : Int32.minValue.toInt = -2147483648 := by decide +kernel
  omega
theorem iI_divN {a b : Int} (ha : 0 ≤ a ∧ a < 2147483648) (hb : 0 < b ∧ b < 2147483648) : iI a / iI b = iI (a / b) := by
  rw [iI_div (by omega) (by omega), Int.tdiv_eq_ediv_of_nonneg ha.1]
theorem iI_modN {a b : Int} (ha : 0 ≤ a ∧ a < 2147483648) (hb : 0 < b ∧ b < 2147483648) : iI a - iI a / iI b * iI b = iI (a % b) := by
  rw [iI_divN ha hb, iI_mul, iI_sub]
  congr 1
  have := Int.mul_ediv_add_emod a b
  rw [Int.mul_comm (a / b) b]
  omega
/-! ===== tables, choices, sums ===== -/
abbrev Tb : Type := Nat → Int → Int
def up (σ : Tb) (t : Nat) (i v : Int) : Tb := fun t' i' => if t' = t ∧ i' = i then v else σ t' i'
theorem up_self (σ : Tb) (t : Nat) (i v : Int) : up σ t i v t i = v := by simp [up]
theorem up_t {σ : Tb} {t t' : Nat} {i i' v : Int} (h : t' ≠ t) : up σ t i v t' i' = σ t' i' := by simp [up, h]
theorem up_i {σ : Tb} {t t' : Nat} {i i' v : Int} (h : i' ≠ i) : up σ t i v t' i' = σ t' i' := by simp [up, h]
noncomputable def cif {α : Type} (P : Prop) (a b : α) : α := @ite α P (Classical.propDecidable P) a b
theorem cif_t {α : Type} {P : Prop} {a b : α} (h : P) : cif P a b = a := by unfold cif; exact if_pos h
theorem cif_f {α : Type} {P : Prop} {a b : α} (h : ¬ P) : cif P a b = b := by unfold cif; exact if_neg h
theorem cif_c {α : Type} {P P' : Prop} {a a' b b' : α} (h : P ↔ P') (ha : P' → a = a') (hb : ¬ P' → b = b') : cif P a b = cif P' a' b' := by
  by_cases hp : P'
  · rw [cif_t hp, cif_t (h.mpr hp), ha hp]
  · rw [cif_f hp, cif_f (fun q => hp (h.mp q)), hb hp]
noncomputable def bI (P : Prop) : Int := cif P 1 0
theorem bI_t {P : Prop} (h : P) : bI P = 1 := cif_t h
theorem bI_f {P : Prop} (h : ¬ P) : bI P = 0 := cif_f h
theorem bI_c {P P' : Prop} (h : P ↔ P') : bI P = bI P' := cif_c h (fun _ => rfl) (fun _ => rfl)
theorem bI_01 (P : Prop) : bI P = 0 ∨ bI P = 1 := by
  by_cases h : P
  · exact Or.inr (bI_t h)
  · exact Or.inl (bI_f h)
theorem bI_1 {P : Prop} : bI P = 1 ↔ P := by
  by_cases h : P
  · exact ⟨fun _ => h, fun _ => bI_t h⟩
  · exact ⟨fun q => by rw [bI_f h] at q; omega, fun q => absurd q h⟩
theorem bI_0 {P : Prop} : bI P = 0 ↔ ¬ P := by
  by_cases h : P
  · exact ⟨fun q => by rw [bI_t h] at q; omega, fun q => absurd h q⟩
  · exact ⟨fun _ => h, fun _ => bI_f h⟩
/-! ===== worlds: the cells by keys ===== -/
def kw (K : Nat) (ad : Nat → Nat) (E : Nat → va_E) : va_W := (List.range K).map (fun k => (ad k, E k))
def kA (K : Nat) (ad : Nat → Nat) : Nat → Prop := fun q => ∃ k, k < K ∧ q = ad k
def kInj (K : Nat) (ad : Nat → Nat) : Prop := ∀ i j, i < K → j < K → ad i = ad j → i = j
theorem kw_get {K : Nat} {ad : Nat → Nat} {E : Nat → va_E} {k : Nat} (h : k < K) : (kw K ad E)[k]? = some (ad k, E k) := by
  simp [kw, h]
theorem kw_of {K : Nat} {ad : Nat → Nat} {E : Nat → va_E} {k : Nat} {q : Nat × va_E} (h : (kw K ad E)[k]? = some q) : k < K ∧ q = (ad k, E k) := by
  have hk : k < K := by
    have := (List.getElem?_eq_some_iff.mp h).1
    simpa [kw] using this
  rw [kw_get hk] at h
  exact ⟨hk, (Option.some.inj h).symm⟩
theorem kw_set {K : Nat} {ad : Nat → Nat} {E : Nat → va_E} {k : Nat} (h : k < K) (e : va_E) : (kw K ad E).set k (ad k, e) = kw K ad (va_up E k e) := by
  apply List.ext_getElem?
  intro j
  by_cases hj : j < K
  · rw [kw_get hj]
    by_cases hjk : j = k
    · subst hjk
      rw [List.getElem?_set_self (by simpa [kw] using hj), va_up_self]
    · rw [List.getElem?_set_ne (Ne.symm hjk), kw_get hj, va_up_ne _ _ hjk]
  · rw [List.getElem?_eq_none (by simp [kw]; omega), List.getElem?_eq_none (by simp [kw]; omega)]
theorem kw_D {A : Nat → Prop} {K : Nat} {ad : Nat → Nat} (hi : kInj K ad) (hA : ∀ k, k < K → A (ad k)) (E : Nat → va_E) : va_D A (kw K ad E) := by
  refine ⟨fun i j p q hp hq e => ?_, fun k q hq => ?_⟩
  · obtain ⟨h1, rfl⟩ := kw_of hp
    obtain ⟨h2, rfl⟩ := kw_of hq
    exact hi i j h1 h2 e
  · obtain ⟨h1, rfl⟩ := kw_of hq
    exact hA k h1
theorem kw_DK {K : Nat} {ad : Nat → Nat} (hi : kInj K ad) (E : Nat → va_E) : va_D (kA K ad) (kw K ad E) := kw_D hi (fun k h => ⟨k, h, rfl⟩) E
def kPc (D : va_G) (tys : List (ClassId × FieldType)) (K : Nat) (ad : Nat → Nat) (E : Nat → va_E) (av : List Value) : Array Value → State → Prop :=
  va_Pc av (fun U => va_P D vwCl (kw K ad E) U.heap ∧ va_K D vwCl tys U)
def kQi (D : va_G) (K : Nat) (ad : Nat → Nat) (post : Int → (Nat → va_E) → Prop) : Array Value → State → Outcome → State → Prop :=
  va_Qi (fun (r : Int32) (E' : Nat → va_E) => ∃ z : Int, r = iI z ∧ post z E') (fun E' t => va_P D vwCl (kw K ad E') t.heap) (kA K ad)
def kQl (D : va_G) (K : Nat) (ad : Nat → Nat) (post : Nat → (Nat → va_E) → Prop) : Array Value → State → Outcome → State → Prop :=
  va_Ql (fun (r : Int64) (E' : Nat → va_E) => ∃ z : Nat, r = lN z ∧ post z E') (fun E' t => va_P D vwCl (kw K ad E') t.heap) (kA K ad)
def kQv (D : va_G) (K : Nat) (ad : Nat → Nat) (post : (Nat → va_E) → Prop) : Array Value → State → Outcome → State → Prop :=
  va_Qv (fun (E' : Nat → va_E) => post E') (fun E' t => va_P D vwCl (kw K ad E') t.heap) (kA K ad)
theorem kPc_blind {D : va_G} {tys : List (ClassId × FieldType)} {K : Nat} {ad : Nat → Nat} {E : Nat → va_E} {av : List Value} : FrameBlind (kPc D tys K ad E av) := fun a U g mk q => by
  obtain ⟨q0, qP, qK⟩ := q
  exact ⟨q0, qP, va_K.moved (u := U) (U := U.calling g mk a) (Vm.Alike.refl U.vm) qK⟩
theorem k_met {l : Launch} {y : MethodName} {rm : Room} {cc : ByteArray} {maxL : Nat} {ret : Option FieldType} {D : va_G} {tys : List (ClassId × FieldType)} {K : Nat} {ad : Nat → Nat} {E : Nat → va_E} {av : List Value} {Qc : Array Value → State → Outcome → State → Prop}
    (hy : plainName y.cls = true) (hlen : (lg_sl av).length ≤ maxL)
    (body : ∀ (p : Program) (e : Env) (s : State) (m : MethodId) (below : List Frame) (meth : Method) (c : Code) (ls : Array Slot), p.tables.exec = Jvm.exec → c.code = cc → meth.sig.returnType = ret → meth.locks = false → c.maxLocals = maxL → s.vm.findClass y.cls = some m.cls → (∀ w ∈ wT, w.before av.toArray s = true) → va_K D vwCl tys s → va_P D vwCl (kw K ad E) s.heap → va_S (kA K ad) s.heap s.heap [] → lv_has ls maxL (lv_args 0 av) →
      W p l e rm s m av.toArray below meth c s.heap [] 0 0 (MQ below Qc av.toArray s 0 0 (kA K ad)) (F0 m 0 ls [])) : Met l y (.code y cc maxL ret :: wT) rm (kPc D tys K ad E av) Qc 0 0 (kA K ad) := by
  refine Met.ofW (cc := cc) (maxL := maxL) (ret := ret) hy rfl ?_
  intro p e s m args below meth c s₁ B hml hv
  obtain ⟨rfl, hP, hK⟩ := hv
  have hts : ∀ w ∈ wT, w.before av.toArray s = true := fun w h => atoms_spec (ws := .code y cc maxL ret :: wT) B.pre w (List.mem_cons_of_mem _ h)
  have hown : s.vm.findClass y.cls = some m.cls := findClass_of_methodNamed B.named
  have hl := lv_entry av hlen
  rw [lg_entry_eq]
  exact body p e s m below meth c _ B.exec B.bytes B.returns B.notSynchronized hml hown hts hK hP va_S.rf hl
section KR
variable {p : Program} {l : Launch} {e : Env} {R : Room} {s : State} {m : MethodId} {args : Array Value} {below : List Frame} {meth : Method} {c : Code} {H : Heap} {locs : List Loc} {cells slots : Nat} {Q : State → Prop}
variable {cc : ByteArray} {pc : Nat} {ls : Array Slot} {rest : List Value} {D : va_G} {tys : List (ClassId × FieldType)} {K : Nat} {ad : Nat → Nat} {E : Nat → va_E} {H0 : Heap}
theorem r_const (hx : p.tables.exec = Jvm.exec) (hb : c.code = cc) {n : Int} (hdg : decode cc pc = .ok (.iconst n, 1))
    (k : W p l e R s m args below meth c H locs cells slots Q (F0 m (pc + 1) ls (.int (iI n) :: rest))) : W p l e R s m args below meth c H locs cells slots Q (F0 m pc ls rest) := lv_iconst hx hb hdg rfl k
theorem r_bipush (hx : p.tables.exec = Jvm.exec) (hb : c.code = cc) {n : Int} (hdg : decode cc pc = .ok (.bipush n, 2)) (hv : (Int8.ofInt n).toInt32 = iI n)
    (k : W p l e R s m args below meth c H locs cells slots Q (F0 m (pc + 2) ls (.int (iI n) :: rest))) : W p l e R s m args below meth c H locs cells slots Q (F0 m pc ls rest) := lv_bipush hx hb hdg hv k
theorem r_sipush (hx : p.tables.exec = Jvm.exec) (hb : c.code = cc) {n : Int} (hdg : decode cc pc = .ok (.sipush n, 3)) (hv : (Int16.ofInt n).toInt32 = iI n)
    (k : W p l e R s m args below meth c H locs cells slots Q (F0 m (pc + 3) ls (.int (iI n) :: rest))) : W p l e R s m args below meth c H locs cells slots Q (F0 m pc ls rest) := lv_sipush hx hb hdg hv k
theorem r_add (hx : p.tables.exec = Jvm.exec) (hb : c.code = cc) {x y : Int} (hdg : decode cc pc = .ok (.iadd, 1))
    (k : W p l e R s m args below meth c H locs cells slots Q (F0 m (pc + 1) ls (.int (iI (x + y)) :: rest))) : W p l e R s m args below meth c H locs cells slots Q (F0 m pc ls (.int (iI y) :: .int (iI x) :: rest)) := lv_iadd hx hb hdg (by rw [iI_add]; exact k)
theorem r_sub (hx : p.tables.exec = Jvm.exec) (hb : c.code = cc) {x y : Int} (hdg : decode cc pc = .ok (.isub, 1))
    (k : W p l e R s m args below meth c H locs cells slots Q (F0 m (pc + 1) ls (.int (iI (x - y)) :: rest))) : W p l e R s m args below meth c H locs cells slots Q (F0 m pc ls (.int (iI y) :: .int (iI x) :: rest)) := lv_isub hx hb hdg (by rw [iI_sub]; exact k)
theorem r_mul (hx : p.tables.exec = Jvm.exec) (hb : c.code = cc) {x y : Int} (hdg : decode cc pc = .ok (.imul, 1))
    (k : W p l e R s m args below meth c H locs cells slots Q (F0 m (pc + 1) ls (.int (iI (x * y)) :: rest))) : W p l e R s m args below meth c H locs cells slots Q (F0 m pc ls (.int (iI y) :: .int (iI x) :: rest)) := lv_imul hx hb hdg (by rw [iI_mul]; exact k)
theorem r_div (hx : p.tables.exec = Jvm.exec) (hb : c.code = cc) {x y : Int} (ha : 0 ≤ x ∧ x < 2147483648) (hy : 0 < y ∧ y < 2147483648) (hdg : decode cc pc = .ok (.idiv, 1))
    (k : W p l e R s m args below meth c H locs cells slots Q (F0 m (pc + 1) ls (.int (iI (x / y)) :: rest))) : W p l e R s m args below meth c H locs cells slots Q (F0 m pc ls (.int (iI y) :: .int (iI x) :: rest)) := lv_idiv hx hb hdg (iI_ne0 (by omega) (by omega)) (by rw [iI_divN ha hy]; exact k)
theorem r_rem (hx : p.tables.exec = Jvm.exec) (hb : c.code = cc) {x y : Int} (ha : 0 ≤ x ∧ x < 2147483648) (hy : 0 < y ∧ y < 2147483648) (hdg : decode cc pc = .ok (.irem, 1))
    (k : W p l e R s m args below meth c H locs cells slots Q (F0 m (pc + 1) ls (.int (iI (x % y)) :: rest))) : W p l e R s m args below meth c H locs cells slots Q (F0 m pc ls (.int (iI y) :: .int (iI x) :: rest)) := lv_irem hx hb hdg (iI_ne0 (by omega) (by omega)) (by rw [iI_modN ha hy]; exact k)
theorem r_iinc (hx : p.tables.exec = Jvm.exec) (hb : c.code = cc) {i nL k : Nat} {n z : Int} {lv : List (Nat × Value)} (hdg : decode cc pc = .ok (.iinc i n, 3)) (h : lv_has ls nL lv) (hk : lv[k]? = some (i, .int (iI z))) (hn : i < nL)
    (kk : ∀ ls' : Array Slot, lv_has ls' nL ((i, Value.int (iI (z + n))) :: lv.filter (fun q => !(q.1 == i) && !(q.1 + 1 == i && q.2.category == 2))) → W p l e R s m args below meth c H locs cells slots Q (F0 m (pc + 3) ls' rest)) : W p l e R s m args below meth c H locs cells slots Q (F0 m pc ls rest) := lv_iinc (v := iI (z + n)) hx hb hdg h hk (iI_add z n) hn rfl kk
end KR
section KR2
variable {p : Program} {l : Launch} {e : Env} {R : Room} {s : State} {m : MethodId} {args : Array Value} {below : List Frame} {meth : Method} {c : Code} {H : Heap} {locs : List Loc} {cells slots : Nat} {Q : State → Prop}
variable {cc : ByteArray} {pc : Nat} {ls : Array Slot} {rest : List Value} {D : va_G} {tys : List (ClassId × FieldType)} {K : Nat} {ad : Nat → Nat} {E : Nat → va_E} {H0 : Heap}
theorem r_icmp_lt (hx : p.tables.exec = Jvm.exec) (hb : c.code = cc) {x y : Int} {off : Int} {tgt : Nat} (hx1 : -2147483648 ≤ x ∧ x < 2147483648) (hy1 : -2147483648 ≤ y ∧ y < 2147483648) (hdg : decode cc pc = .ok (.if_icmp .lt off, 3)) (ht : (pc : Int) + off = (tgt : Int))
    (kt : x < y → W p l e R s m args below meth c H locs cells slots Q (F0 m tgt ls rest)) (kf : ¬ x < y → W p l e R s m args below meth c H locs cells slots Q (F0 m (pc + 3) ls rest)) : W p l e R s m args below meth c H locs cells slots Q (F0 m pc ls (.int (iI y) :: .int (iI x) :: rest)) := lv_icmp_lt hx hb hdg ht (fun h => kt ((iI_lt hx1 hy1).mp h)) (fun h => kf (fun q => h ((iI_lt hx1 hy1).mpr q)))
theorem r_icmp_ge (hx : p.tables.exec = Jvm.exec) (hb : c.code = cc) {x y : Int} {off : Int} {tgt : Nat} (hx1 : -2147483648 ≤ x ∧ x < 2147483648) (hy1 : -2147483648 ≤ y ∧ y < 2147483648) (hdg : decode cc pc = .ok (.if_icmp .ge off, 3)) (ht : (pc : Int) + off = (tgt : Int))
    (kt : y ≤ x → W p l e R s m args below meth c H locs cells slots Q (F0 m tgt ls rest)) (kf : ¬ y ≤ x → W p l e R s m args below meth c H locs cells slots Q (F0 m (pc + 3) ls rest)) : W p l e R s m args below meth c H locs cells slots Q (F0 m pc ls (.int (iI y) :: .int (iI x) :: rest)) := lv_icmp_ge hx hb hdg ht (fun h => kt ((iI_le hy1 hx1).mp h)) (fun h => kf (fun q => h ((iI_le hy1 hx1).mpr q)))
theorem r_icmp_gt (hx : p.tables.exec = Jvm.exec) (hb : c.code = cc) {x y : Int} {off : Int} {tgt : Nat} (hx1 : -2147483648 ≤ x ∧ x < 2147483648) (hy1 : -2147483648 ≤ y ∧ y < 2147483648) (hdg : decode cc pc = .ok (.if_icmp .gt off, 3)) (ht : (pc : Int) + off = (tgt : Int))
    (kt : y < x → W p l e R s m args below meth c H locs cells slots Q (F0 m tgt ls rest)) (kf : ¬ y < x → W p l e R s m args below meth c H locs cells slots Q (F0 m (pc + 3) ls rest)) : W p l e R s m args below meth c H locs cells slots Q (F0 m pc ls (.int (iI y) :: .int (iI x) :: rest)) := lv_icmp_gt hx hb hdg ht (fun h => kt ((iI_lt hy1 hx1).mp h)) (fun h => kf (fun q => h ((iI_lt hy1 hx1).mpr q)))
theorem r_icmp_le (hx : p.tables.exec = Jvm.exec) (hb : c.code = cc) {x y : Int} {off : Int} {tgt : Nat} (hx1 : -2147483648 ≤ x ∧ x < 2147483648) (hy1 : -2147483648 ≤ y ∧ y < 2147483648) (hdg : decode cc pc = .ok (.if_icmp .le off, 3)) (ht : (pc : Int) + off = (tgt : Int))
    (kt : x ≤ y → W p l e R s m args below meth c H locs cells slots Q (F0 m tgt ls rest)) (kf : ¬ x ≤ y → W p l e R s m args below meth c H locs cells slots Q (F0 m (pc + 3) ls rest)) : W p l e R s m args below meth c H locs cells slots Q (F0 m pc ls (.int (iI y) :: .int (iI x) :: rest)) := lv_icmp_le hx hb hdg ht (fun h => kt ((iI_le hx1 hy1).mp h)) (fun h => kf (fun q => h ((iI_le hx1 hy1).mpr q)))
theorem r_icmp_eq (hx : p.tables.exec = Jvm.exec) (hb : c.code = cc) {x y : Int} {off : Int} {tgt : Nat} (hx1 : -2147483648 ≤ x ∧ x < 2147483648) (hy1 : -2147483648 ≤ y ∧ y < 2147483648) (hdg : decode cc pc = .ok (.if_icmp .eq off, 3)) (ht : (pc : Int) + off = (tgt : Int))
    (kt : x = y → W p l e R s m args below meth c H locs cells slots Q (F0 m tgt ls rest)) (kf : ¬ x = y → W p l e R s m args below meth c H locs cells slots Q (F0 m (pc + 3) ls rest)) : W p l e R s m args below meth c H locs cells slots Q (F0 m pc ls (.int (iI y) :: .int (iI x) :: rest)) := lv_icmp_eq hx hb hdg ht (fun h => kt ((iI_eq hx1 hy1).mp h)) (fun h => kf (fun q => h ((iI_eq hx1 hy1).mpr q)))
theorem r_icmp_ne (hx : p.tables.exec = Jvm.exec) (hb : c.code = cc) {x y : Int} {off : Int} {tgt : Nat} (hx1 : -2147483648 ≤ x ∧ x < 2147483648) (hy1 : -2147483648 ≤ y ∧ y < 2147483648) (hdg : decode cc pc = .ok (.if_icmp .ne off, 3)) (ht : (pc : Int) + off = (tgt : Int))
    (kt : ¬ x = y → W p l e R s m args below meth c H locs cells slots Q (F0 m tgt ls rest)) (kf : x = y → W p l e R s m args below meth c H locs cells slots Q (F0 m (pc + 3) ls rest)) : W p l e R s m args below meth c H locs cells slots Q (F0 m pc ls (.int (iI y) :: .int (iI x) :: rest)) := lv_icmp_ne hx hb hdg ht (fun h => kt (fun q => h ((iI_eq hx1 hy1).mpr q))) (fun h => kf ((iI_eq hx1 hy1).mp h))
theorem r_if_lt (hx : p.tables.exec = Jvm.exec) (hb : c.code = cc) {x : Int} {off : Int} {tgt : Nat} (hx1 : -2147483648 ≤ x ∧ x < 2147483648) (hdg : decode cc pc = .ok (.ifCond .lt off, 3)) (ht : (pc : Int) + off = (tgt : Int))
    (kt : x < 0 → W p l e R s m args below meth c H locs cells slots Q (F0 m tgt ls rest)) (kf : ¬ x < 0 → W p l e R s m args below meth c H locs cells slots Q (F0 m (pc + 3) ls rest)) : W p l e R s m args below meth c H locs cells slots Q (F0 m pc ls (.int (iI x) :: rest)) := lv_if_lt hx hb hdg ht (fun h => kt ((iI_lt hx1 (by omega)).mp h)) (fun h => kf (fun q => h ((iI_lt hx1 (by omega)).mpr q)))
theorem r_if_ge (hx : p.tables.exec = Jvm.exec) (hb : c.code = cc) {x : Int} {off : Int} {tgt : Nat} (hx1 : -2147483648 ≤ x ∧ x < 2147483648) (hdg : decode cc pc = .ok (.ifCond .ge off, 3)) (ht : (pc : Int) + off = (tgt : Int))
    (kt : 0 ≤ x → W p l e R s m args below meth c H locs cells slots Q (F0 m tgt ls rest)) (kf : ¬ 0 ≤ x → W p l e R s m args below meth c H locs cells slots Q (F0 m (pc + 3) ls rest)) : W p l e R s m args below meth c H locs cells slots Q (F0 m pc ls (.int (iI x) :: rest)) := lv_if_ge hx hb hdg ht (fun h => kt ((iI_le (by omega) hx1).mp h)) (fun h => kf (fun q => h ((iI_le (by omega) hx1).mpr q)))
theorem r_if_gt (hx : p.tables.exec = Jvm.exec) (hb : c.code = cc) {x : Int} {off : Int} {tgt : Nat} (hx1 : -2147483648 ≤ x ∧ x < 2147483648) (hdg : decode cc pc = .ok (.ifCond .gt off, 3)) (ht : (pc : Int) + off = (tgt : Int))
    (kt : 0 < x → W p l e R s m args below meth c H locs cells slots Q (F0 m tgt ls rest)) (kf : ¬ 0 < x → W p l e R s m args below meth c H locs cells slots Q (F0 m (pc + 3) ls rest)) : W p l e R s m args below meth c H locs cells slots Q (F0 m pc ls (.int (iI x) :: rest)) := lv_if_gt hx hb hdg ht (fun h => kt ((iI_lt (by omega) hx1).mp h)) (fun h => kf (fun q => h ((iI_lt (by omega) hx1).mpr q)))
theorem r_if_le (hx : p.tables.exec = Jvm.exec) (hb : c.code = cc) {x : Int} {off : Int} {tgt : Nat} (hx1 : -2147483648 ≤ x ∧ x < 2147483648) (hdg : decode cc pc = .ok (.ifCond .le off, 3)) (ht : (pc : Int) + off = (tgt : Int))
    (kt : x ≤ 0 → W p l e R s m args below meth c H locs cells slots Q (F0 m tgt ls rest)) (kf : ¬ x ≤ 0 → W p l e R s m args below meth c H locs cells slots Q (F0 m (pc + 3) ls rest)) : W p l e R s m args below meth c H locs cells slots Q (F0 m pc ls (.int (iI x) :: rest)) := lv_if_le hx hb hdg ht (fun h => kt ((iI_le hx1 (by omega)).mp h)) (fun h => kf (fun q => h ((iI_le hx1 (by omega)).mpr q)))
theorem r_if_eq (hx : p.tables.exec = Jvm.exec) (hb : c.code = cc) {x : Int} {off : Int} {tgt : Nat} (hx1 : -2147483648 ≤ x ∧ x < 2147483648) (hdg : decode cc pc = .ok (.ifCond .eq off, 3)) (ht : (pc : Int) + off = (tgt : Int))
    (kt : x = 0 → W p l e R s m args below meth c H locs cells slots Q (F0 m tgt ls rest)) (kf : ¬ x = 0 → W p l e R s m args below meth c H locs cells slots Q (F0 m (pc + 3) ls rest)) : W p l e R s m args below meth c H locs cells slots Q (F0 m pc ls (.int (iI x) :: rest)) := lv_if_eq hx hb hdg ht (fun h => kt ((iI_eq hx1 (by omega)).mp h)) (fun h => kf (fun q => h ((iI_eq hx1 (by omega)).mpr q)))
theorem r_if_ne (hx : p.tables.exec = Jvm.exec) (hb : c.code = cc) {x : Int} {off : Int} {tgt : Nat} (hx1 : -2147483648 ≤ x ∧ x < 2147483648) (hdg : decode cc pc = .ok (.ifCond .ne off, 3)) (ht : (pc : Int) + off = (tgt : Int))
    (kt : ¬ x = 0 → W p l e R s m args below meth c H locs cells slots Q (F0 m tgt ls rest)) (kf : x = 0 → W p l e R s m args below meth c H locs cells slots Q (F0 m (pc + 3) ls rest)) : W p l e R s m args below meth c H locs cells slots Q (F0 m pc ls (.int (iI x) :: rest)) := lv_if_ne hx hb hdg ht (fun h => kt (fun q => h ((iI_eq hx1 (by omega)).mpr q))) (fun h => kf ((iI_eq hx1 (by omega)).mp h))
theorem r_ifB_eq (hx : p.tables.exec = Jvm.exec) (hb : c.code = cc) {P : Prop} {off : Int} {tgt : Nat} (hdg : decode cc pc = .ok (.ifCond .eq off, 3)) (ht : (pc : Int) + off = (tgt : Int))
    (kt : ¬ P → W p l e R s m args below meth c H locs cells slots Q (F0 m tgt ls rest)) (kf : P → W p l e R s m args below meth c H locs cells slots Q (F0 m (pc + 3) ls rest)) : W p l e R s m args below meth c H locs cells slots Q (F0 m pc ls (.int (iI (bI P)) :: rest)) := r_if_eq hx hb (by rcases bI_01 P with h | h <;> omega) hdg ht (fun h => kt (bI_0.mp h)) (fun h => kf (Classical.not_not.mp (fun q => h (bI_0.mpr q))))
theorem r_ifB_ne (hx : p.tables.exec = Jvm.exec) (hb : c.code = cc) {P : Prop} {off : Int} {tgt : Nat} (hdg : decode cc pc = .ok (.ifCond .ne off, 3)) (ht : (pc : Int) + off = (tgt : Int))
    (kt : P → W p l e R s m args below meth c H locs cells slots Q (F0 m tgt ls rest)) (kf : ¬ P → W p l e R s m args below meth c H locs cells slots Q (F0 m (pc + 3) ls rest)) : W p l e R s m args below meth c H locs cells slots Q (F0 m pc ls (.int (iI (bI P)) :: rest)) := r_if_ne hx hb (by rcases bI_01 P with h | h <;> omega) hdg ht (fun h => kt (Classical.not_not.mp (fun q => h (bI_0.mpr q)))) (fun h => kf (bI_0.mp h))
theorem r_get (hx : p.tables.exec = Jvm.exec) (hb : c.code = cc) {own ref C : String} {T : u_T} {N ci index : Nat} {Ts : List Cond} (hts : ∀ w ∈ Ts, w.before args s = true) (hin : ∀ w ∈ u_ws C T N, w ∈ Ts) (hown : s.vm.findClass own = some m.cls) (hK : va_K D vwCl tys s) (hP : va_P D vwCl (kw K ad E) H) (j : Nat) {key : Nat} {fs : List Value} {v : Value} (hc : vwCl[ci]? = some (C, T, N)) (hj : j < N) (hlink : Cond.fieldLink own index ref (T j).2.1 (T j).2.2.1 ∈ Ts) (hsame : ∀ x, s.fieldFound? (T j).1 (T j).2.1 (T j).2.2.1 = some x → s.fieldFound? ref (T j).2.1 (T j).2.2.1 = some x) (hdg : decode cc pc = .ok (.getfield index, 3)) (hk : key < K) (he : E key = .inr (ci, fs)) (hv : fs[j]? = some v)
    (kk : W p l e R s m args below meth c H locs cells slots Q (F0 m (pc + 3) ls (v :: rest))) : W p l e R s m args below meth c H locs cells slots Q (F0 m pc ls (.ref (ad key) :: rest)) :=
  va_get hx hb hts hin hown hK hP key ((kw_get hk).trans (by rw [he])) hc j hj (hts _ hlink) hsame hv hdg kk
theorem r_put (hx : p.tables.exec = Jvm.exec) (hb : c.code = cc) {own ref C : String} {T : u_T} {N ci index : Nat} {Ts : List Cond} (hi : kInj K ad) (hts : ∀ w ∈ Ts, w.before args s = true) (hin : ∀ w ∈ u_ws C T N, w ∈ Ts) (ty0 : Nat → FieldType) (hty : ∀ k, k < N → parseFieldDescriptor (T k).2.2.1 = some (ty0 k)) (hnm : ∀ a, a < N → ∀ b, b < N → a ≠ b → (T a).2.1 ≠ (T b).2.1) (hown : s.vm.findClass own = some m.cls) (hK : va_K D vwCl tys s) (hP : va_P D vwCl (kw K ad E) H) (hS : va_S (kA K ad) H0 H locs) (j : Nat) {key : Nat} {fs : List Value} {v : Value} {E' : Nat → va_E} {ty : FieldType} (hc : vwCl[ci]? = some (C, T, N)) (hj : j < N) (hlink : Cond.fieldLink own index ref (T j).2.1 (T j).2.2.1 ∈ Ts) (hsame : ∀ x, s.fieldFound? (T j).1 (T j).2.1 (T j).2.2.1 = some x → s.fieldFound? ref (T j).2.1 (T j).2.2.1 = some x) (hfin : (T j).2.2.2 = false) (hd : parseFieldDescriptor (T j).2.2.1 = some ty) (hn : narrow ty v = v) (hfit : fits ty v = true) (hdg : decode cc pc = .ok (.putfield index, 3)) (hk : key < K) (he : E key = .inr (ci, fs)) (hl : j < fs.length) (hE : va_up E key (.inr (ci, fs.set j v)) = E')
    (kk : ∀ (H1 : Heap) (locs1 : List Loc), va_P D vwCl (kw K ad E') H1 → va_S (kA K ad) H0 H1 locs1 → W p l e R s m args below meth c H1 locs1 cells slots Q (F0 m (pc + 3) ls rest)) : W p l e R s m args below meth c H locs cells slots Q (F0 m pc ls (v :: .ref (ad key) :: rest)) :=
  va_put hx hb hts hin ty0 hty hnm hown hK hP (kw_DK hi E) hS key ((kw_get hk).trans (by rw [he])) hc j hj (hts _ hlink) hsame hfin hd hn hfit hl hdg (fun H1 locs1 hP1 _ hS1 => kk H1 locs1 (by rw [kw_set hk, hE] at hP1; exact hP1) hS1)
theorem r_iald (hx : p.tables.exec = Jvm.exec) (hb : c.code = cc) (hK : va_K D vwCl tys s) (hP : va_P D vwCl (kw K ad E) H) (t0 : Nat) {key n : Nat} {cA : ClassId} {f : Nat → Int32} {z : Int} {v : Int32} (ht : tys[t0]? = some (cA, .int)) (hdg : decode cc pc = .ok (.iaload, 1)) (hk : key < K) (he : E key = .inl (cA, n, .inl f)) (hn : n < 2147483648) (hz : 0 ≤ z ∧ z < n) (hv : f z.toNat = v)
    (kk : W p l e R s m args below meth c H locs cells slots Q (F0 m (pc + 1) ls (.int v :: rest))) : W p l e R s m args below meth c H locs cells slots Q (F0 m pc ls (.int (iI z) :: .ref (ad key) :: rest)) :=
  va_iald hx hb hK hP key t0 ((kw_get hk).trans (by rw [he])) ht (iI_in hz hn) hdg (by rw [iI_clamp hz.1 (by omega), hv]; exact kk)
theorem r_zald (hx : p.tables.exec = Jvm.exec) (hb : c.code = cc) (hK : va_K D vwCl tys s) (hP : va_P D vwCl (kw K ad E) H) (t0 : Nat) {key n : Nat} {cA : ClassId} {f : Nat → Int32} {z : Int} {v : Int32} (ht : tys[t0]? = some (cA, .boolean)) (hdg : decode cc pc = .ok (.baload, 1)) (hk : key < K) (he : E key = .inl (cA, n, .inl f)) (hn : n < 2147483648) (hz : 0 ≤ z ∧ z < n) (hv : f z.toNat = v)
    (kk : W p l e R s m args below meth c H locs cells slots Q (F0 m (pc + 1) ls (.int v :: rest))) : W p l e R s m args below meth c H locs cells slots Q (F0 m pc ls (.int (iI z) :: .ref (ad key) :: rest)) :=
  va_zald hx hb hK hP key t0 ((kw_get hk).trans (by rw [he])) ht (iI_in hz hn) hdg (by rw [iI_clamp hz.1 (by omega), hv]; exact kk)
theorem r_lald (hx : p.tables.exec = Jvm.exec) (hb : c.code = cc) (hK : va_K D vwCl tys s) (hP : va_P D vwCl (kw K ad E) H) (t0 : Nat) {key n : Nat} {cA : ClassId} {f : Nat → Int64} {z : Int} {v : Int64} (ht : tys[t0]? = some (cA, .long)) (hdg : decode cc pc = .ok (.laload, 1)) (hk : key < K) (he : E key = .inl (cA, n, .inr (.inl f))) (hn : n < 2147483648) (hz : 0 ≤ z ∧ z < n) (hv : f z.toNat = v)
    (kk : W p l e R s m args below meth c H locs cells slots Q (F0 m (pc + 1) ls (.long v :: rest))) : W p l e R s m args below meth c H locs cells slots Q (F0 m pc ls (.int (iI z) :: .ref (ad key) :: rest)) :=
  va_lald hx hb hK hP key t0 ((kw_get hk).trans (by rw [he])) ht (iI_in hz hn) hdg (by rw [iI_clamp hz.1 (by omega), hv]; exact kk)
theorem r_aald (hx : p.tables.exec = Jvm.exec) (hb : c.code = cc) (hK : va_K D vwCl tys s) (hP : va_P D vwCl (kw K ad E) H) (t0 : Nat) {key n a : Nat} {cA : ClassId} {C : String} {f : Nat → Option Nat} {z : Int} (ht : tys[t0]? = some (cA, .object C)) (hdg : decode cc pc = .ok (.aaload, 1)) (hk : key < K) (he : E key = .inl (cA, n, .inr (.inr (.inr (.inr f))))) (hn : n < 2147483648) (hz : 0 ≤ z ∧ z < n) (hv : f z.toNat = some a)
    (kk : W p l e R s m args below meth c H locs cells slots Q (F0 m (pc + 1) ls (.ref a :: rest))) : W p l e R s m args below meth c H locs cells slots Q (F0 m pc ls (.int (iI z) :: .ref (ad key) :: rest)) :=
  va_aldq hx hb hK hP key t0 ((kw_get hk).trans (by rw [he])) ht (iI_in hz hn) hdg (by rw [iI_clamp hz.1 (by omega), hv]; exact kk)
theorem r_iast (hx : p.tables.exec = Jvm.exec) (hb : c.code = cc) (hi : kInj K ad) (hK : va_K D vwCl tys s) (hP : va_P D vwCl (kw K ad E) H) (hS : va_S (kA K ad) H0 H locs) (t0 : Nat) {key n : Nat} {cA : ClassId} {f : Nat → Int32} {z : Int} {v : Int32} {E' : Nat → va_E} (ht : tys[t0]? = some (cA, .int)) (hdg : decode cc pc = .ok (.iastore, 1)) (hk : key < K) (he : E key = .inl (cA, n, .inl f)) (hn : n < 2147483648) (hz : 0 ≤ z ∧ z < n) (hE : va_up E key (.inl (cA, n, .inl (upd f z.toNat v))) = E')
    (kk : ∀ (H1 : Heap) (locs1 : List Loc), va_P D vwCl (kw K ad E') H1 → va_S (kA K ad) H0 H1 locs1 → W p l e R s m args below meth c H1 locs1 cells slots Q (F0 m (pc + 1) ls rest)) : W p l e R s m args below meth c H locs cells slots Q (F0 m pc ls (.int v :: .int (iI z) :: .ref (ad key) :: rest)) :=
  va_iast hx hb hK hP (kw_DK hi E) hS key t0 ((kw_get hk).trans (by rw [he])) ht (iI_in hz hn) hdg (fun H1 locs1 hP1 _ hS1 => kk H1 locs1 (by rw [iI_clamp hz.1 (by omega), kw_set hk, hE] at hP1; exact hP1) hS1)
theorem r_zast (hx : p.tables.exec = Jvm.exec) (hb : c.code = cc) (hi : kInj K ad) (hK : va_K D vwCl tys s) (hP : va_P D vwCl (kw K ad E) H) (hS : va_S (kA K ad) H0 H locs) (t0 : Nat) {key n : Nat} {cA : ClassId} {f : Nat → Int32} {z w : Int} {E' : Nat → va_E} (ht : tys[t0]? = some (cA, .boolean)) (hdg : decode cc pc = .ok (.bastore, 1)) (hk : key < K) (he : E key = .inl (cA, n, .inl f)) (hn : n < 2147483648) (hz : 0 ≤ z ∧ z < n) (hw : w = 0 ∨ w = 1) (hE : va_up E key (.inl (cA, n, .inl (upd f z.toNat (iI w)))) = E')
    (kk : ∀ (H1 : Heap) (locs1 : List Loc), va_P D vwCl (kw K ad E') H1 → va_S (kA K ad) H0 H1 locs1 → W p l e R s m args below meth c H1 locs1 cells slots Q (F0 m (pc + 1) ls rest)) : W p l e R s m args below meth c H locs cells slots Q (F0 m pc ls (.int (iI w) :: .int (iI z) :: .ref (ad key) :: rest)) :=
  va_zast hx hb hK hP (kw_DK hi E) hS key t0 ((kw_get hk).trans (by rw [he])) ht (iI_in hz hn) hdg (fun H1 locs1 hP1 _ hS1 => kk H1 locs1 (by rw [show vp_nar .boolean (iI w) = iI w by rcases hw with h | h <;> subst h <;> decide +kernel, iI_clamp hz.1 (by omega), kw_set hk, hE] at hP1; exact hP1) hS1)
theorem r_last (hx : p.tables.exec = Jvm.exec) (hb : c.code = cc) (hi : kInj K ad) (hK : va_K D vwCl tys s) (hP : va_P D vwCl (kw K ad E) H) (hS : va_S (kA K ad) H0 H locs) (t0 : Nat) {key n : Nat} {cA : ClassId} {f : Nat → Int64} {z : Int} {v : Int64} {E' : Nat → va_E} (ht : tys[t0]? = some (cA, .long)) (hdg : decode cc pc = .ok (.lastore, 1)) (hk : key < K) (he : E key = .inl (cA, n, .inr (.inl f))) (hn : n < 2147483648) (hz : 0 ≤ z ∧ z < n) (hE : va_up E key (.inl (cA, n, .inr (.inl (vp_updL f z.toNat v)))) = E')
    (kk : ∀ (H1 : Heap) (locs1 : List Loc), va_P D vwCl (kw K ad E') H1 → va_S (kA K ad) H0 H1 locs1 → W p l e R s m args below meth c H1 locs1 cells slots Q (F0 m (pc + 1) ls rest)) : W p l e R s m args below meth c H locs cells slots Q (F0 m pc ls (.long v :: .int (iI z) :: .ref (ad key) :: rest)) :=
  va_last hx hb hK hP (kw_DK hi E) hS key t0 ((kw_get hk).trans (by rw [he])) ht (iI_in hz hn) hdg (fun H1 locs1 hP1 _ hS1 => kk H1 locs1 (by rw [iI_clamp hz.1 (by omega), kw_set hk, hE] at hP1; exact hP1) hS1)
theorem k_iret (hx : p.tables.exec = Jvm.exec) (hb : c.code = cc) (hr : meth.sig.returnType = some .int) (hlocks : meth.locks = false) (hP : va_P D vwCl (kw K ad E) H) (hS : va_S (kA K ad) s.heap H locs) {z : Int} {post : Int → (Nat → va_E) → Prop} (hdg : decode cc pc = .ok (.ireturn, 1)) (hq : post z E) : W p l e R s m args below meth c H locs 0 0 (MQ below (kQi D K ad post) args s 0 0 (kA K ad)) (F0 m pc ls [.int (iI z)]) :=
  W.iret (v := iI z) hx hb hr (fun t ht hW => ⟨⟨iI z, E, rfl, ⟨z, rfl, hq⟩, by show va_P D vwCl (kw K ad E) t.heap; rw [ht]; exact hP⟩, hS.F ht⟩) hS.2.2 hdg hlocks
theorem k_zret (hx : p.tables.exec = Jvm.exec) (hb : c.code = cc) (hr : meth.sig.returnType = some .boolean) (hlocks : meth.locks = false) (hP : va_P D vwCl (kw K ad E) H) (hS : va_S (kA K ad) s.heap H locs) {z : Int} {post : Int → (Nat → va_E) → Prop} (hdg : decode cc pc = .ok (.ireturn, 1)) (hz : z = 0 ∨ z = 1) (hq : post z E) : W p l e R s m args below meth c H locs 0 0 (MQ below (kQi D K ad post) args s 0 0 (kA K ad)) (F0 m pc ls [.int (iI z)]) :=
  W.zret (v := iI z) hx hb hr (by rcases hz with h | h <;> subst h <;> decide +kernel) (fun t ht hW => ⟨⟨iI z, E, rfl, ⟨z, rfl, hq⟩, by show va_P D vwCl (kw K ad E) t.heap; rw [ht]; exact hP⟩, hS.F ht⟩) hS.2.2 hdg hlocks
theorem k_lret (hx : p.tables.exec = Jvm.exec) (hb : c.code = cc) (hr : meth.sig.returnType = some .long) (hlocks : meth.locks = false) (hP : va_P D vwCl (kw K ad E) H) (hS : va_S (kA K ad) s.heap H locs) {z : Nat} {post : Nat → (Nat → va_E) → Prop} (hdg : decode cc pc = .ok (.lreturn, 1)) (hq : post z E) : W p l e R s m args below meth c H locs 0 0 (MQ below (kQl D K ad post) args s 0 0 (kA K ad)) (F0 m pc ls [.long (lN z)]) :=
  W.lret (v := lN z) hx hb hr (fun t ht hW => ⟨⟨lN z, E, rfl, ⟨z, rfl, hq⟩, by show va_P D vwCl (kw K ad E) t.heap; rw [ht]; exact hP⟩, hS.F ht⟩) hS.2.2 hdg hlocks
theorem k_vret (hx : p.tables.exec = Jvm.exec) (hb : c.code = cc) (hr : meth.sig.returnType = none) (hlocks : meth.locks = false) (hP : va_P D vwCl (kw K ad E) H) (hS : va_S (kA K ad) s.heap H locs) {post : (Nat → va_E) → Prop} (hdg : decode cc pc = .ok (.return_, 1)) (hq : post E) : W p l e R s m args below meth c H locs 0 0 (MQ below (kQv D K ad post) args s 0 0 (kA K ad)) (F0 m pc ls []) :=
  W.vret hx hb hr (fun t ht hW => ⟨⟨E, rfl, hq, by show va_P D vwCl (kw K ad E) t.heap; rw [ht]; exact hP⟩, hS.F ht⟩) hS.2.2 hdg hlocks
theorem k_calliV (hx : p.tables.exec = Jvm.exec) (hb : c.code = cc) {nL n index maxL : Nat} {y : MethodName} {bytes : ByteArray} {ws Ts : List Cond} {rm : Room} {own : String} {ret : Option FieldType} {As st : List Value} (hml : c.maxLocals = nL) (hown : s.vm.findClass own = some m.cls) (hts : ∀ w ∈ Ts, w.before args s = true) (hK : va_K D vwCl tys s) (hP : va_P D vwCl (kw K ad E) H) (hS : va_S (kA K ad) H0 H locs) (hsz : ls.size = nL) {post : Int → (Nat → va_E) → Prop} {C : String} {T : u_T} {N ci key : Nat} {fs : List Value} (hM : Met l y ws rm (kPc D tys K ad E (.ref (ad key) :: As)) (kQi D K ad post) 0 0 (kA K ad)) (hst : st = As.reverse ++ .ref (ad key) :: rest) (hcat : (rest.map fun v => v.category).sum ≤ 8) (hc : vwCl[ci]? = some (C, T, N)) (cw : CallW R s args own C index y bytes maxL ret ws rm 0 0 n) (hn : As.length = n) (hdg : decode cc pc = .ok (.invokevirtual index, 3)) (hf : cells ≤ R.cells ∧ slots ≤ R.slots) (hk : key < K) (he : E key = .inr (ci, fs))
    (kk : ∀ (z : Int) (E' : Nat → va_E) (H1 : Heap) (locs1 : List Loc), post z E' → va_P D vwCl (kw K ad E') H1 → va_S (kA K ad) H0 H1 locs1 → W p l e R s m args below meth c H1 locs1 cells slots Q (F0 m (pc + 3) ls (.int (iI z) :: rest))) : W p l e R s m args below meth c H locs cells slots Q (F0 m pc ls st) :=
  va_calli (va_runV (As := As) (rest := rest) ⟨hx, hb, hml, hown, hts⟩ hM cw ⟨kPc_blind, va_recv hK hP hc ((kw_get hk).trans (by rw [he])), fun U hU hW => ⟨rfl, by rw [hU]; exact hP, va_K.moved hW.alike hK⟩⟩ rfl hn hsz hst (lv_room hcat) hdg hf) hS (fun _ _ h => h) (fun _ h => h) (fun r E' t H1 locs1 ht hvm hw hB hz1 hk1 hS1 => by obtain ⟨z, rfl, hw⟩ := hw; exact kk z E' H1 locs1 hw (by rw [← ht]; exact hB) hS1)
theorem k_calliS (hx : p.tables.exec = Jvm.exec) (hb : c.code = cc) {nL n index maxL : Nat} {y : MethodName} {bytes : ByteArray} {ws Ts : List Cond} {rm : Room} {own : String} {ret : Option FieldType} {As st : List Value} (hml : c.maxLocals = nL) (hown : s.vm.findClass own = some m.cls) (hts : ∀ w ∈ Ts, w.before args s = true) (hK : va_K D vwCl tys s) (hP : va_P D vwCl (kw K ad E) H) (hS : va_S (kA K ad) H0 H locs) (hsz : ls.size = nL) {post : Int → (Nat → va_E) → Prop} (hM : Met l y ws rm (kPc D tys K ad E As) (kQi D K ad post) 0 0 (kA K ad)) (hst : st = As.reverse ++ rest) (hcat : (rest.map fun v => v.category).sum ≤ 8) (cw : CallB R s args own index y bytes maxL ret ws rm 0 0 n ∧ (Cond.static y).before args s = true) (hn : As.length = n) (hdg : decode cc pc = .ok (.invokestatic index, 3)) (hf : cells ≤ R.cells ∧ slots ≤ R.slots)
    (kk : ∀ (z : Int) (E' : Nat → va_E) (H1 : Heap) (locs1 : List Loc), post z E' → va_P D vwCl (kw K ad E') H1 → va_S (kA K ad) H0 H1 locs1 → W p l e R s m args below meth c H1 locs1 cells slots Q (F0 m (pc + 3) ls (.int (iI z) :: rest))) : W p l e R s m args below meth c H locs cells slots Q (F0 m pc ls st) :=
  va_calli (va_runS (As := As) (rest := rest) ⟨hx, hb, hml, hown, hts⟩ hM cw ⟨kPc_blind, fun U hU hW => ⟨rfl, by rw [hU]; exact hP, va_K.moved hW.alike hK⟩⟩ rfl hn hsz hst (lv_room hcat) hdg hf) hS (fun _ _ h => h) (fun _ h => h) (fun r E' t H1 locs1 ht hvm hw hB hz1 hk1 hS1 => by obtain ⟨z, rfl, hw⟩ := hw; exact kk z E' H1 locs1 hw (by rw [← ht]; exact hB) hS1)
theorem k_calllV (hx : p.tables.exec = Jvm.exec) (hb : c.code = cc) {nL n index maxL : Nat} {y : MethodName} {bytes : ByteArray} {ws Ts : List Cond} {rm : Room} {own : String} {ret : Option FieldType} {As st : List Value} (hml : c.maxLocals = nL) (hown : s.vm.findClass own = some m.cls) (hts : ∀ w ∈ Ts, w.before args s = true) (hK : va_K D vwCl tys s) (hP : va_P D vwCl (kw K ad E) H) (hS : va_S (kA K ad) H0 H locs) (hsz : ls.size = nL) {post : Nat → (Nat → va_E) → Prop} {C : String} {T : u_T} {N ci key : Nat} {fs : List Value} (hM : Met l y ws rm (kPc D tys K ad E (.ref (ad key) :: As)) (kQl D K ad post) 0 0 (kA K ad)) (hst : st = As.reverse ++ .ref (ad key) :: rest) (hcat : (rest.map fun v => v.category).sum ≤ 8) (hc : vwCl[ci]? = some (C, T, N)) (cw : CallW R s args own C index y bytes maxL ret ws rm 0 0 n) (hn : As.length = n) (hdg : decode cc pc = .ok (.invokevirtual index, 3)) (hf : cells ≤ R.cells ∧ slots ≤ R.slots) (hk : key < K) (he : E key = .inr (ci, fs))
    (kk : ∀ (z : Nat) (E' : Nat → va_E) (H1 : Heap) (locs1 : List Loc), post z E' → va_P D vwCl (kw K ad E') H1 → va_S (kA K ad) H0 H1 locs1 → W p l e R s m args below meth c H1 locs1 cells slots Q (F0 m (pc + 3) ls (.long (lN z) :: rest))) : W p l e R s m args below meth c H locs cells slots Q (F0 m pc ls st) :=
  va_calll (va_runV (As := As) (rest := rest) ⟨hx, hb, hml, hown, hts⟩ hM cw ⟨kPc_blind, va_recv hK hP hc ((kw_get hk).trans (by rw [he])), fun U hU hW => ⟨rfl, by rw [hU]; exact hP, va_K.moved hW.alike hK⟩⟩ rfl hn hsz hst (lv_room hcat) hdg hf) hS (fun _ _ h => h) (fun _ h => h) (fun r E' t H1 locs1 ht hvm hw hB hz1 hk1 hS1 => by obtain ⟨z, rfl, hw⟩ := hw; exact kk z E' H1 locs1 hw (by rw [← ht]; exact hB) hS1)
theorem k_calllS (hx : p.tables.exec = Jvm.exec) (hb : c.code = cc) {nL n index maxL : Nat} {y : MethodName} {bytes : ByteArray} {ws Ts : List Cond} {rm : Room} {own : String} {ret : Option FieldType} {As st : List Value} (hml : c.maxLocals = nL) (hown : s.vm.findClass own = some m.cls) (hts : ∀ w ∈ Ts, w.before args s = true) (hK : va_K D vwCl tys s) (hP : va_P D vwCl (kw K ad E) H) (hS : va_S (kA K ad) H0 H locs) (hsz : ls.size = nL) {post : Nat → (Nat → va_E) → Prop} (hM : Met l y ws rm (kPc D tys K ad E As) (kQl D K ad post) 0 0 (kA K ad)) (hst : st = As.reverse ++ rest) (hcat : (rest.map fun v => v.category).sum ≤ 8) (cw : CallB R s args own index y bytes maxL ret ws rm 0 0 n ∧ (Cond.static y).before args s = true) (hn : As.length = n) (hdg : decode cc pc = .ok (.invokestatic index, 3)) (hf : cells ≤ R.cells ∧ slots ≤ R.slots)
    (kk : ∀ (z : Nat) (E' : Nat → va_E) (H1 : Heap) (locs1 : List Loc), post z E' → va_P D vwCl (kw K ad E') H1 → va_S (kA K ad) H0 H1 locs1 → W p l e R s m args below meth c H1 locs1 cells slots Q (F0 m (pc + 3) ls (.long (lN z) :: rest))) : W p l e R s m args below meth c H locs cells slots Q (F0 m pc ls st) :=
  va_calll (va_runS (As := As) (rest := rest) ⟨hx, hb, hml, hown, hts⟩ hM cw ⟨kPc_blind, fun U hU hW => ⟨rfl, by rw [hU]; exact hP, va_K.moved hW.alike hK⟩⟩ rfl hn hsz hst (lv_room hcat) hdg hf) hS (fun _ _ h => h) (fun _ h => h) (fun r E' t H1 locs1 ht hvm hw hB hz1 hk1 hS1 => by obtain ⟨z, rfl, hw⟩ := hw; exact kk z E' H1 locs1 hw (by rw [← ht]; exact hB) hS1)
theorem k_callvV (hx : p.tables.exec = Jvm.exec) (hb : c.code = cc) {nL n index maxL : Nat} {y : MethodName} {bytes : ByteArray} {ws Ts : List Cond} {rm : Room} {own : String} {ret : Option FieldType} {As st : List Value} (hml : c.maxLocals = nL) (hown : s.vm.findClass own = some m.cls) (hts : ∀ w ∈ Ts, w.before args s = true) (hK : va_K D vwCl tys s) (hP : va_P D vwCl (kw K ad E) H) (hS : va_S (kA K ad) H0 H locs) (hsz : ls.size = nL) {post : (Nat → va_E) → Prop} {C : String} {T : u_T} {N ci key : Nat} {fs : List Value} (hM : Met l y ws rm (kPc D tys K ad E (.ref (ad key) :: As)) (kQv D K ad post) 0 0 (kA K ad)) (hst : st = As.reverse ++ .ref (ad key) :: rest) (hcat : (rest.map fun v => v.category).sum ≤ 8) (hc : vwCl[ci]? = some (C, T, N)) (cw : CallW R s args own C index y bytes maxL ret ws rm 0 0 n) (hn : As.length = n) (hdg : decode cc pc = .ok (.invokevirtual index, 3)) (hf : cells ≤ R.cells ∧ slots ≤ R.slots) (hk : key < K) (he : E key = .inr (ci, fs))
    (kk : ∀ (E' : Nat → va_E) (H1 : Heap) (locs1 : List Loc), post E' → va_P D vwCl (kw K ad E') H1 → va_S (kA K ad) H0 H1 locs1 → W p l e R s m args below meth c H1 locs1 cells slots Q (F0 m (pc + 3) ls (rest))) : W p l e R s m args below meth c H locs cells slots Q (F0 m pc ls st) :=
  va_callv (va_runV (As := As) (rest := rest) ⟨hx, hb, hml, hown, hts⟩ hM cw ⟨kPc_blind, va_recv hK hP hc ((kw_get hk).trans (by rw [he])), fun U hU hW => ⟨rfl, by rw [hU]; exact hP, va_K.moved hW.alike hK⟩⟩ rfl hn hsz hst (lv_room hcat) hdg hf) hS (fun _ _ h => h) (fun _ h => h) (fun E' t H1 locs1 ht hvm hw hB hz1 hk1 hS1 => kk E' H1 locs1 hw (by rw [← ht]; exact hB) hS1)
theorem k_callvS (hx : p.tables.exec = Jvm.exec) (hb : c.code = cc) {nL n index maxL : Nat} {y : MethodName} {bytes : ByteArray} {ws Ts : List Cond} {rm : Room} {own : String} {ret : Option FieldType} {As st : List Value} (hml : c.maxLocals = nL) (hown : s.vm.findClass own = some m.cls) (hts : ∀ w ∈ Ts, w.before args s = true) (hK : va_K D vwCl tys s) (hP : va_P D vwCl (kw K ad E) H) (hS : va_S (kA K ad) H0 H locs) (hsz : ls.size = nL) {post : (Nat → va_E) → Prop} (hM : Met l y ws rm (kPc D tys K ad E As) (kQv D K ad post) 0 0 (kA K ad)) (hst : st = As.reverse ++ rest) (hcat : (rest.map fun v => v.category).sum ≤ 8) (cw : CallB R s args own index y bytes maxL ret ws rm 0 0 n ∧ (Cond.static y).before args s = true) (hn : As.length = n) (hdg : decode cc pc = .ok (.invokestatic index, 3)) (hf : cells ≤ R.cells ∧ slots ≤ R.slots)
    (kk : ∀ (E' : Nat → va_E) (H1 : Heap) (locs1 : List Loc), post E' → va_P D vwCl (kw K ad E') H1 → va_S (kA K ad) H0 H1 locs1 → W p l e R s m args below meth c H1 locs1 cells slots Q (F0 m (pc + 3) ls (rest))) : W p l e R s m args below meth c H locs cells slots Q (F0 m pc ls st) :=
  va_callv (va_runS (As := As) (rest := rest) ⟨hx, hb, hml, hown, hts⟩ hM cw ⟨kPc_blind, fun U hU hW => ⟨rfl, by rw [hU]; exact hP, va_K.moved hW.alike hK⟩⟩ rfl hn hsz hst (lv_room hcat) hdg hf) hS (fun _ _ h => h) (fun _ h => h) (fun E' t H1 locs1 ht hvm hw hB hz1 hk1 hS1 => kk E' H1 locs1 hw (by rw [← ht]; exact hB) hS1)
theorem r_lconst0 (hx : p.tables.exec = Jvm.exec) (hb : c.code = cc) (hdg : decode cc pc = .ok (.lconst 0, 1))
    (k : W p l e R s m args below meth c H locs cells slots Q (F0 m (pc + 1) ls (.long (lN 0) :: rest))) : W p l e R s m args below meth c H locs cells slots Q (F0 m pc ls rest) := lv_lconst hx hb hdg rfl k
theorem r_lconst1 (hx : p.tables.exec = Jvm.exec) (hb : c.code = cc) (hdg : decode cc pc = .ok (.lconst 1, 1))
    (k : W p l e R s m args below meth c H locs cells slots Q (F0 m (pc + 1) ls (.long (lN 1) :: rest))) : W p l e R s m args below meth c H locs cells slots Q (F0 m pc ls rest) := lv_lconst hx hb hdg rfl k
theorem k_abs {g : JFrame} (k : ∀ Wg : Heap → List Loc → JFrame → Prop, (∀ H locs g, Wg H locs g = W p l e R s m args below meth c H locs cells slots Q g) → W p l e R s m args below meth c H locs cells slots Q g) : W p l e R s m args below meth c H locs cells slots Q g := k (fun H locs g => W p l e R s m args below meth c H locs cells slots Q g) (fun _ _ _ => rfl)
theorem r_ldc (hx : p.tables.exec = Jvm.exec) (hb : c.code = cc) {own : String} {index : Nat} {v : Int32} {z : Int} (hown : s.vm.findClass own = some m.cls) (hconst : (Jvm.Cond.constant own index v).before args s = true) (hv : v = iI z) (hdg : decode cc pc = .ok (.ldc index, 2))
    (k : W p l e R s m args below meth c H locs cells slots Q (F0 m (pc + 2) ls (.int (iI z) :: rest))) : W p l e R s m args below meth c H locs cells slots Q (F0 m pc ls rest) := lv_ldc hx hb hown hconst hdg (by rw [hv]; exact k)
theorem r_aaldA (hx : p.tables.exec = Jvm.exec) (hb : c.code = cc) (hK : va_K D vwCl tys s) (hP : va_P D vwCl (kw K ad E) H) (t0 : Nat) {key n a : Nat} {cA : ClassId} {f : Nat → Option Nat} {z : Int} (ht : tys[t0]? = some (cA, .array .int)) (hdg : decode cc pc = .ok (.aaload, 1)) (hk : key < K) (he : E key = .inl (cA, n, .inr (.inr (.inr (.inr f))))) (hn : n < 2147483648) (hz : 0 ≤ z ∧ z < n) (hv : f z.toNat = some a)
    (kk : W p l e R s m args below meth c H locs cells slots Q (F0 m (pc + 1) ls (.ref a :: rest))) : W p l e R s m args below meth c H locs cells slots Q (F0 m pc ls (.int (iI z) :: .ref (ad key) :: rest)) := by
  have ha : (kw K ad E)[key]? = some (ad key, .inl (cA, n, .inr (.inr (.inr (.inr f))))) := (kw_get hk).trans (by rw [he])
  have hlt : (iI z).toNatClampNeg < n := by rw [iI_clamp hz.1 (by omega)]; omega
  exact W.aald (v := va_rf (f (iI z).toNatClampNeg)) (ty := .array .int) hx hb (hP key _ ha) ((hK.2 t0 _ ht).1 n (fun j => va_rf (f j))) rfl (fun q => by cases q) (by show ¬ (iI z < 0 ∨ (arrV _ _ _).slots.size ≤ _); rw [arrV_size]; exact iI_in hz hn) (by show (arrV _ _ _).slots[_]? = _; rw [arrV_read _ _ hlt]) rfl rfl hdg (by rw [iI_clamp hz.1 (by omega), hv]; exact kk)
theorem r_mmax (hx : p.tables.exec = Jvm.exec) (hb : c.code = cc) {nL : Nat} (hml : c.maxLocals = nL) (hsz : ls.size = nL) {own : String} {index : Nat} (hown : s.vm.findClass own = some m.cls) (hts : ∀ w ∈ wT, w.before args s = true) (hlink : Cond.methodLink own index Lib.Math.max.name ∈ wT) (hframes : 1 ≤ R.frames) (hlocals : (rest.map fun v => v.category).sum + 13 ≤ R.locals) (hf : cells ≤ R.cells ∧ slots ≤ R.slots) {x y : Int} (hx1 : -2147483648 ≤ x ∧ x < 2147483648) (hy1 : -2147483648 ≤ y ∧ y < 2147483648) (hdg : decode cc pc = .ok (.invokestatic index, 3))
    (kk : W p l e R s m args below meth c H locs cells slots Q (F0 m (pc + 3) ls (.int (iI (if x < y then y else x)) :: rest))) : W p l e R s m args below meth c H locs cells slots Q (F0 m pc ls (.int (iI y) :: .int (iI x) :: rest)) :=
  va_mmax hx hb (hml.trans hsz.symm) hown (hts _ hlink) (hts _ ms_max) (hts _ mi_math) (hts _ mc_max) hframes hlocals hf.1 hf.2 hdg (by
    rw [show (if iI x < iI y then iI y else iI x) = iI (if x < y then y else x) by
      by_cases h : x < y
      · rw [if_pos h, if_pos ((iI_lt hx1 hy1).mpr h)]
      · rw [if_neg h, if_neg (fun q => h ((iI_lt hx1 hy1).mp q))]]
    exact kk)
theorem r_mmin (hx : p.tables.exec = Jvm.exec) (hb : c.code = cc) {nL : Nat} (hml : c.maxLocals = nL) (hsz : ls.size = nL) {own : String} {index : Nat} (hown : s.vm.findClass own = some m.cls) (hts : ∀ w ∈ wT, w.before args s = true) (hlink : Cond.methodLink own index Lib.Math.min.name ∈ wT) (hframes : 1 ≤ R.frames) (hlocals : (rest.map fun v => v.category).sum + 13 ≤ R.locals) (hf : cells ≤ R.cells ∧ slots ≤ R.slots) {x y : Int} (hx1 : -2147483648 ≤ x ∧ x < 2147483648) (hy1 : -2147483648 ≤ y ∧ y < 2147483648) (hdg : decode cc pc = .ok (.invokestatic index, 3))
    (kk : W p l e R s m args below meth c H locs cells slots Q (F0 m (pc + 3) ls (.int (iI (if y < x then y else x)) :: rest))) : W p l e R s m args below meth c H locs cells slots Q (F0 m pc ls (.int (iI y) :: .int (iI x) :: rest)) :=
  va_mmin hx hb (hml.trans hsz.symm) hown (hts _ hlink) (hts _ ms_min) (hts _ mi_math) (hts _ mc_min) hframes hlocals hf.1 hf.2 hdg (by
    rw [show (if iI y < iI x then iI y else iI x) = iI (if y < x then y else x) by
      by_cases h : y < x
      · rw [if_pos h, if_pos ((iI_lt hy1 hx1).mpr h)]
      · rw [if_neg h, if_neg (fun q => h ((iI_lt hy1 hx1).mp q))]]
    exact kk)
end KR2
end
section
/-! the arrays' classes: G 0 int, 1 long, 2 boolean, 3 Pair, 4 Piece, 5 Work, 6 rows of int -/
abbrev tysG (G : Nat → ClassId) : List (ClassId × FieldType) := [(G 0, .int), (G 1, .long), (G 2, .boolean), (G 3, .object "RoadWorks$Pair"), (G 4, .object "RoadWorks$Piece"), (G 5, .object "RoadWorks$Work"), (G 6, .array .int)]
/-- a table as an array of ints -/
def tI (σ : Tb) (t : Nat) : Nat → Int32 := fun j => iI (σ t (j : Int))
theorem tI_at {σ : Tb} {t : Nat} {z : Int} (h : 0 ≤ z) : tI σ t z.toNat = iI (σ t z) := by show iI (σ t ((z.toNat : Nat) : Int)) = _; rw [Int.toNat_of_nonneg h]
theorem tI_up {σ : Tb} {t : Nat} {z v : Int} (h : 0 ≤ z) : upd (tI σ t) z.toNat (iI v) = tI (up σ t z v) t := by
  funext j
  by_cases hj : j = z.toNat
  · subst hj
    simp [upd, tI, up, Int.toNat_of_nonneg h]
  · have h2 : ¬ (j : Int) = z := by omega
    simp [upd, tI, up, hj, h2]
theorem tI_o {σ : Tb} {t t' : Nat} {z v : Int} (h : t' ≠ t) : tI (up σ t z v) t' = tI σ t' := by funext j; simp [tI, up_t h]
/-- a table of masks as an array of longs -/
def tL (σ : Tb) (t : Nat) : Nat → Int64 := fun j => lN (σ t (j : Int)).toNat
theorem tL_at {σ : Tb} {t : Nat} {z : Int} (h : 0 ≤ z) : tL σ t z.toNat = lN (σ t z).toNat := by show lN (σ t ((z.toNat : Nat) : Int)).toNat = _; rw [Int.toNat_of_nonneg h]
theorem tL_up {σ : Tb} {t : Nat} {z : Int} {v : Nat} (h : 0 ≤ z) : vp_updL (tL σ t) z.toNat (lN v) = tL (up σ t z (v : Int)) t := by
  funext j
  by_cases hj : j = z.toNat
  · subst hj
    simp [vp_updL, tL, up, Int.toNat_of_nonneg h]
  · have h2 : ¬ (j : Int) = z := by omega
    simp [vp_updL, tL, up, hj, h2]
theorem tL_o {σ : Tb} {t t' : Nat} {z v : Int} (h : t' ≠ t) : tL (up σ t z v) t' = tL σ t' := by funext j; simp [tL, up_t h]
/-- a table whose places from n on hold 0 -/
def tD (σ : Tb) (t : Nat) (n : Int) : Nat → Int32 := fun j => iI (if (j : Int) < n then σ t (j : Int) else 0)
theorem tD_at {σ : Tb} {t : Nat} {n z : Int} (h : 0 ≤ z) (h2 : z < n) : tD σ t n z.toNat = iI (σ t z) := by show iI (if ((z.toNat : Nat) : Int) < n then _ else _) = _; rw [Int.toNat_of_nonneg h, if_pos h2]
theorem tD_up {σ : Tb} {t : Nat} {n z v : Int} (h : 0 ≤ z) (h2 : z < n) : upd (tD σ t n) z.toNat (iI v) = tD (up σ t z v) t n := by
  funext j
  by_cases hj : j = z.toNat
  · subst hj
    simp [upd, tD, up, Int.toNat_of_nonneg h, h2]
  · have h2 : ¬ (j : Int) = z := by omega
    simp [upd, tD, up, hj, h2]
theorem tD_new {σ : Tb} {t : Nat} {n z v : Int} (h : 0 ≤ z) (h2 : z = n) (h3 : σ t z = v) : upd (tD σ t n) z.toNat (iI v) = tD σ t (z + 1) := by
  subst h2
  funext j
  by_cases hj : j = z.toNat
  · subst hj
    simp [upd, tD, Int.toNat_of_nonneg h, h3, show z < z + 1 by omega]
  · have e : ((j : Int) < z) ↔ ((j : Int) < z + 1) := by omega
    simp [upd, tD, hj, e]
theorem tD_o {σ : Tb} {t t' : Nat} {n z v : Int} (h : t' ≠ t) : tD (up σ t z v) t' n = tD σ t' n := by funext j; simp [tD, up_t h]
abbrev FP (σ : Tb) (i : Int) : List Value := [.int (iI (σ 1 i)), .int (iI (σ 2 i)), .int (iI (σ 3 i)), .int (iI (σ 4 i)), .int (iI (σ 5 i)), .int (iI (σ 6 i))]
abbrev FR (σ : Tb) (i : Int) : List Value := [.int (iI (σ 7 i)), .int (iI (σ 8 i)), .int (iI (σ 9 i))]
abbrev FW (ad : Nat → Nat) (σ : Tb) (i : Int) : List Value := [.int (iI i), .ref (ad (129 + i.toNat)), .int (iI (σ 18 i)), .long (lN (σ 17 i).toNat), .int (iI (σ 11 i)), .int (iI (σ 12 i)), .int (iI (σ 13 i)), .int (iI (σ 14 i)), .int (iI (σ 15 i)), .int (iI (σ 16 i)), .int (iI (σ 19 i)), .int (iI (σ 20 i)), .int (iI (σ 21 i)), .int (iI (σ 22 i)), .int (iI (σ 23 i)), .int (iI (σ 24 i))]
/-- the four places of a work's own array -/
def tQ (σ : Tb) (i : Int) : Nat → Int32 := fun j => iI (σ (25 + j) i)
/-- the class's fixed cells: 0 the object, 1 town, 2 company, 3 ways, 4 rules, 5 shifts, 6 pieces, 7 pairs, 8 works, 9 feasts, 10 counted, 11 members, 12 near, 13 taken, 14 takenBeside, 15..18 its rows, 19 added, 20 minutes -/
def CE0 (G : Nat → ClassId) (ad : Nat → Nat) (σ τ : Tb) (k : Nat) : va_E := match k with
  | 0 => .inr (8, [.ref (ad 1), .ref (ad 2), .ref (ad 3), .ref (ad 4), .ref (ad 5), .int (iI (σ 0 4)), .int (iI (σ 0 5)), .int (iI (σ 0 6))])
  | 1 => .inr (5, [.ref (ad 6), .ref (ad 7), .ref (ad 8), .ref (ad 9), .int (iI (σ 0 0)), .int (iI (σ 0 1)), .int (iI (σ 0 2)), .int (iI (σ 0 3))])
  | 2 => .inr (0, [.ref (ad 1), .ref (ad 10), .ref (ad 11), .int (iI (τ 2 0)), .ref (ad 12), .int (iI (τ 2 1)), .ref (ad 13), .ref (ad 14), .ref (ad 19)])
  | 3 => .inr (6, [.ref (ad 1), .ref (ad 20)])
  | 4 => .inr (3, [.ref (ad 1), .ref (ad 2), .ref (ad 3), .int (iI (τ 2 2)), .int (iI (τ 2 3))])
  | 5 => .inr (4, [.ref (ad 1), .ref (ad 4), .int (iI (τ 2 4))])
  | 6 => .inl (G 4, 40, .inr (.inr (.inr (.inr (fun j => some (ad (21 + j)))))))
  | 7 => .inl (G 3, 8, .inr (.inr (.inr (.inr (fun j => some (ad (61 + j)))))))
  | 8 => .inl (G 5, 60, .inr (.inr (.inr (.inr (fun j => some (ad (69 + j)))))))
  | 9 => .inl (G 2, 400, .inl (tI σ 10))
  | 10 => .inl (G 2, 60, .inl (tI τ 0))
  | 11 => .inl (G 0, 60, .inl (tI τ 1))
  | 12 => .inl (G 0, 60, .inl (tI τ 3))
  | 13 => .inl (G 0, 40, .inl (tI τ 4))
  | 14 => .inl (G 6, 4, .inr (.inr (.inr (.inr (fun j => some (ad (15 + j)))))))
  | 15 => .inl (G 0, 400, .inl (tI τ 5))
  | 16 => .inl (G 0, 400, .inl (tI τ 6))
  | 17 => .inl (G 0, 400, .inl (tI τ 7))
  | 18 => .inl (G 0, 400, .inl (tI τ 8))
  | 19 => .inl (G 0, 400, .inl (tI τ 9))
  | _ => .inl (G 0, 20, .inl (tI τ 10))
/-- the class's cells: 21.. pieces, 61.. pairs, 69.. works, 129.. the works' own arrays -/
def CE (G : Nat → ClassId) (ad : Nat → Nat) (σ τ : Tb) (k : Nat) : va_E := if k < 21 then CE0 G ad σ τ k else if k < 61 then .inr (2, FP σ ((k - 21 : Nat) : Int)) else if k < 69 then .inr (1, FR σ ((k - 61 : Nat) : Int)) else if k < 129 then .inr (7, FW ad σ ((k - 69 : Nat) : Int)) else .inl (G 0, 4, .inl (tQ σ ((k - 129 : Nat) : Int)))
section ST
variable {G : Nat → ClassId} {ad : Nat → Nat} {σ τ : Tb}
theorem CE_0 : CE G ad σ τ 0 = .inr (8, [.ref (ad 1), .ref (ad 2), .ref (ad 3), .ref (ad 4), .ref (ad 5), .int (iI (σ 0 4)), .int (iI (σ 0 5)), .int (iI (σ 0 6))]) := rfl
theorem CE_1 : CE G ad σ τ 1 = .inr (5, [.ref (ad 6), .ref (ad 7), .ref (ad 8), .ref (ad 9), .int (iI (σ 0 0)), .int (iI (σ 0 1)), .int (iI (σ 0 2)), .int (iI (σ 0 3))]) := rfl
theorem CE_2 : CE G ad σ τ 2 = .inr (0, [.ref (ad 1), .ref (ad 10), .ref (ad 11), .int (iI (τ 2 0)), .ref (ad 12), .int (iI (τ 2 1)), .ref (ad 13), .ref (ad 14), .ref (ad 19)]) := rfl
theorem CE_3 : CE G ad σ τ 3 = .inr (6, [.ref (ad 1), .ref (ad 20)]) := rfl
theorem CE_4 : CE G ad σ τ 4 = .inr (3, [.ref (ad 1), .ref (ad 2), .ref (ad 3), .int (iI (τ 2 2)), .int (iI (τ 2 3))]) := rfl
theorem CE_5 : CE G ad σ τ 5 = .inr (4, [.ref (ad 1), .ref (ad 4), .int (iI (τ 2 4))]) := rfl
theorem CE_6 : CE G ad σ τ 6 = .inl (G 4, 40, .inr (.inr (.inr (.inr (fun j => some (ad (21 + j))))))) := rfl
theorem CE_7 : CE G ad σ τ 7 = .inl (G 3, 8, .inr (.inr (.inr (.inr (fun j => some (ad (61 + j))))))) := rfl
theorem CE_8 : CE G ad σ τ 8 = .inl (G 5, 60, .inr (.inr (.inr (.inr (fun j => some (ad (69 + j))))))) := rfl
theorem CE_9 : CE G ad σ τ 9 = .inl (G 2, 400, .inl (tI σ 10)) := rfl
theorem CE_10 : CE G ad σ τ 10 = .inl (G 2, 60, .inl (tI τ 0)) := rfl
theorem CE_11 : CE G ad σ τ 11 = .inl (G 0, 60, .inl (tI τ 1)) := rfl
theorem CE_12 : CE G ad σ τ 12 = .inl (G 0, 60, .inl (tI τ 3)) := rfl
theorem CE_13 : CE G ad σ τ 13 = .inl (G 0, 40, .inl (tI τ 4)) := rfl
theorem CE_14 : CE G ad σ τ 14 = .inl (G 6, 4, .inr (.inr (.inr (.inr (fun j => some (ad (15 + j))))))) := rfl
theorem CE_15 : CE G ad σ τ 15 = .inl (G 0, 400, .inl (tI τ 5)) := rfl
theorem CE_16 : CE G ad σ τ 16 = .inl (G 0, 400, .inl (tI τ 6)) := rfl
theorem CE_17 : CE G ad σ τ 17 = .inl (G 0, 400, .inl (tI τ 7)) := rfl
theorem CE_18 : CE G ad σ τ 18 = .inl (G 0, 400, .inl (tI τ 8)) := rfl
theorem CE_19 : CE G ad σ τ 19 = .inl (G 0, 400, .inl (tI τ 9)) := rfl
theorem CE_20 : CE G ad σ τ 20 = .inl (G 0, 20, .inl (tI τ 10)) := rfl
theorem CE_p {i : Int} (h : 0 ≤ i ∧ i < 40) : CE G ad σ τ (21 + i.toNat) = .inr (2, FP σ i) := by
  unfold CE
  rw [if_neg (by omega), if_pos (by omega), show (((21 + i.toNat - 21 : Nat)) : Int) = i by omega]
theorem CE_r {i : Int} (h : 0 ≤ i ∧ i < 8) : CE G ad σ τ (61 + i.toNat) = .inr (1, FR σ i) := by
  unfold CE
  rw [if_neg (by omega), if_neg (by omega), if_pos (by omega), show (((61 + i.toNat - 61 : Nat)) : Int) = i by omega]
theorem CE_w {i : Int} (h : 0 ≤ i ∧ i < 60) : CE G ad σ τ (69 + i.toNat) = .inr (7, FW ad σ i) := by
  unfold CE
  rw [if_neg (by omega), if_neg (by omega), if_neg (by omega), if_pos (by omega), show (((69 + i.toNat - 69 : Nat)) : Int) = i by omega]
theorem CE_q {i : Int} (h : 0 ≤ i ∧ i < 60) : CE G ad σ τ (129 + i.toNat) = .inl (G 0, 4, .inl (tQ σ i)) := by
  unfold CE
  rw [if_neg (by omega), if_neg (by omega), if_neg (by omega), if_neg (by omega), show (((129 + i.toNat - 129 : Nat)) : Int) = i by omega]
theorem CE_ext {σ' τ' : Tb} {key : Nat} {e : va_E} (h0 : ∀ k, k < 21 → k ≠ key → CE0 G ad σ τ k = CE0 G ad σ' τ' k) (hp : ∀ i : Int, 0 ≤ i → i < 40 → 21 + i.toNat ≠ key → FP σ i = FP σ' i) (hr : ∀ i : Int, 0 ≤ i → i < 8 → 61 + i.toNat ≠ key → FR σ i = FR σ' i) (hw : ∀ i : Int, 0 ≤ i → i < 60 → 69 + i.toNat ≠ key → FW ad σ i = FW ad σ' i) (hq : ∀ i : Int, 0 ≤ i → 129 + i.toNat ≠ key → tQ σ i = tQ σ' i) (he : CE G ad σ' τ' key = e) : va_up (CE G ad σ τ) key e = CE G ad σ' τ' := by
  funext k
  by_cases hk : k = key
  · subst hk
    rw [va_up_self, he]
  · rw [va_up_ne _ _ hk]
    unfold CE
    by_cases h1 : k < 21
    · rw [if_pos h1, if_pos h1, h0 k h1 hk]
    · rw [if_neg h1, if_neg h1]
      by_cases h2 : k < 61
      · rw [if_pos h2, if_pos h2, hp _ (by omega) (by omega) (by omega)]
      · rw [if_neg h2, if_neg h2]
        by_cases h3 : k < 69
        · rw [if_pos h3, if_pos h3, hr _ (by omega) (by omega) (by omega)]
        · rw [if_neg h3, if_neg h3]
          by_cases h4 : k < 129
          · rw [if_pos h4, if_pos h4, hw _ (by omega) (by omega) (by omega)]
          · rw [if_neg h4, if_neg h4, hq _ (by omega) (by omega)]
theorem cu_whyKnown {v : Int} : va_up (CE G ad σ τ) 0 (.inr (8, ([.ref (ad 1), .ref (ad 2), .ref (ad 3), .ref (ad 4), .ref (ad 5), .int (iI (σ 0 4)), .int (iI (σ 0 5)), .int (iI (σ 0 6))] : List Value).set 5 (.int (iI v)))) = CE G ad (up σ 0 4 v) τ := by
  refine CE_ext (fun k hk hne => ?_) (fun i _ _ _ => ?_) (fun i _ _ _ => ?_) (fun i _ _ _ => ?_) (fun i _ _ => ?_) ?_
  · rcases (show k = 0 ∨ k = 1 ∨ k = 2 ∨ k = 3 ∨ k = 4 ∨ k = 5 ∨ k = 6 ∨ k = 7 ∨ k = 8 ∨ k = 9 ∨ k = 10 ∨ k = 11 ∨ k = 12 ∨ k = 13 ∨ k = 14 ∨ k = 15 ∨ k = 16 ∨ k = 17 ∨ k = 18 ∨ k = 19 ∨ k = 20 by omega) with rfl | rfl | rfl | rfl | rfl | rfl | rfl | rfl | rfl | rfl | rfl | rfl | rfl | rfl | rfl | rfl | rfl | rfl | rfl | rfl | rfl <;> first | exact absurd rfl hne | rfl | (simp only [CE0]; simp [tI, up]; done)
  · first | rfl | simp [FP, up]
  · first | rfl | simp [FR, up]
  · first | rfl | simp [FW, up]
  · first | rfl | (funext j; simp [tQ, up])
  · rw [CE_0]; simp [up]
theorem cu_whyDay {v : Int} : va_up (CE G ad σ τ) 0 (.inr (8, ([.ref (ad 1), .ref (ad 2), .ref (ad 3), .ref (ad 4), .ref (ad 5), .int (iI (σ 0 4)), .int (iI (σ 0 5)), .int (iI (σ 0 6))] : List Value).set 6 (.int (iI v)))) = CE G ad (up σ 0 5 v) τ := by
  refine CE_ext (fun k hk hne => ?_) (fun i _ _ _ => ?_) (fun i _ _ _ => ?_) (fun i _ _ _ => ?_) (fun i _ _ => ?_) ?_
  · rcases (show k = 0 ∨ k = 1 ∨ k = 2 ∨ k = 3 ∨ k = 4 ∨ k = 5 ∨ k = 6 ∨ k = 7 ∨ k = 8 ∨ k = 9 ∨ k = 10 ∨ k = 11 ∨ k = 12 ∨ k = 13 ∨ k = 14 ∨ k = 15 ∨ k = 16 ∨ k = 17 ∨ k = 18 ∨ k = 19 ∨ k = 20 by omega) with rfl | rfl | rfl | rfl | rfl | rfl | rfl | rfl | rfl | rfl | rfl | rfl | rfl | rfl | rfl | rfl | rfl | rfl | rfl | rfl | rfl <;> first | exact absurd rfl hne | rfl | (simp only [CE0]; simp [tI, up]; done)
  · first | rfl | simp [FP, up]
  · first | rfl | simp [FR, up]
  · first | rfl | simp [FW, up]
  · first | rfl | (funext j; simp [tQ, up])
  · rw [CE_0]; simp [up]
theorem cu_whyPlace {v : Int} : va_up (CE G ad σ τ) 0 (.inr (8, ([.ref (ad 1), .ref (ad 2), .ref (ad 3), .ref (ad 4), .ref (ad 5), .int (iI (σ 0 4)), .int (iI (σ 0 5)), .int (iI (σ 0 6))] : List Value).set 7 (.int (iI v)))) = CE G ad (up σ 0 6 v) τ := by
  refine CE_ext (fun k hk hne => ?_) (fun i _ _ _ => ?_) (fun i _ _ _ => ?_) (fun i _ _ _ => ?_) (fun i _ _ => ?_) ?_
  · rcases (show k = 0 ∨ k = 1 ∨ k = 2 ∨ k = 3 ∨ k = 4 ∨ k = 5 ∨ k = 6 ∨ k = 7 ∨ k = 8 ∨ k = 9 ∨ k = 10 ∨ k = 11 ∨ k = 12 ∨ k = 13 ∨ k = 14 ∨ k = 15 ∨ k = 16 ∨ k = 17 ∨ k = 18 ∨ k = 19 ∨ k = 20 by omega) with rfl | rfl | rfl | rfl | rfl | rfl | rfl | rfl | rfl | rfl | rfl | rfl | rfl | rfl | rfl | rfl | rfl | rfl | rfl | rfl | rfl <;> first | exact absurd rfl hne | rfl | (simp only [CE0]; simp [tI, up]; done)
  · first | rfl | simp [FP, up]
  · first | rfl | simp [FR, up]
  · first | rfl | simp [FW, up]
  · first | rfl | (funext j; simp [tQ, up])
  · rw [CE_0]; simp [up]
theorem cu_pieceCount {v : Int} : va_up (CE G ad σ τ) 1 (.inr (5, ([.ref (ad 6), .ref (ad 7), .ref (ad 8), .ref (ad 9), .int (iI (σ 0 0)), .int (iI (σ 0 1)), .int (iI (σ 0 2)), .int (iI (σ 0 3))] : List Value).set 4 (.int (iI v)))) = CE G ad (up σ 0 0 v) τ := by
  refine CE_ext (fun k hk hne => ?_) (fun i _ _ _ => ?_) (fun i _ _ _ => ?_) (fun i _ _ _ => ?_) (fun i _ _ => ?_) ?_
  · rcases (show k = 0 ∨ k = 1 ∨ k = 2 ∨ k = 3 ∨ k = 4 ∨ k = 5 ∨ k = 6 ∨ k = 7 ∨ k = 8 ∨ k = 9 ∨ k = 10 ∨ k = 11 ∨ k = 12 ∨ k = 13 ∨ k = 14 ∨ k = 15 ∨ k = 16 ∨ k = 17 ∨ k = 18 ∨ k = 19 ∨ k = 20 by omega) with rfl | rfl | rfl | rfl | rfl | rfl | rfl | rfl | rfl | rfl | rfl | rfl | rfl | rfl | rfl | rfl | rfl | rfl | rfl | rfl | rfl <;> first | exact absurd rfl hne | rfl | (simp only [CE0]; simp [tI, up]; done)
  · first | rfl | simp [FP, up]
  · first | rfl | simp [FR, up]
  · first | rfl | simp [FW, up]
  · first | rfl | (funext j; simp [tQ, up])
  · rw [CE_1]; simp [up]
theorem cu_pairCount {v : Int} : va_up (CE G ad σ τ) 1 (.inr (5, ([.ref (ad 6), .ref (ad 7), .ref (ad 8), .ref (ad 9), .int (iI (σ 0 0)), .int (iI (σ 0 1)), .int (iI (σ 0 2)), .int (iI (σ 0 3))] : List Value).set 5 (.int (iI v)))) = CE G ad (up σ 0 1 v) τ := by
  refine CE_ext (fun k hk hne => ?_) (fun i _ _ _ => ?_) (fun i _ _ _ => ?_) (fun i _ _ _ => ?_) (fun i _ _ => ?_) ?_
  · rcases (show k = 0 ∨ k = 1 ∨ k = 2 ∨ k = 3 ∨ k = 4 ∨ k = 5 ∨ k = 6 ∨ k = 7 ∨ k = 8 ∨ k = 9 ∨ k = 10 ∨ k = 11 ∨ k = 12 ∨ k = 13 ∨ k = 14 ∨ k = 15 ∨ k = 16 ∨ k = 17 ∨ k = 18 ∨ k = 19 ∨ k = 20 by omega) with rfl | rfl | rfl | rfl | rfl | rfl | rfl | rfl | rfl | rfl | rfl | rfl | rfl | rfl | rfl | rfl | rfl | rfl | rfl | rfl | rfl <;> first | exact absurd rfl hne | rfl | (simp only [CE0]; simp [tI, up]; done)
  · first | rfl | simp [FP, up]
  · first | rfl | simp [FR, up]
  · first | rfl | simp [FW, up]
  · first | rfl | (funext j; simp [tQ, up])
  · rw [CE_1]; simp [up]
theorem cu_workCount {v : Int} : va_up (CE G ad σ τ) 1 (.inr (5, ([.ref (ad 6), .ref (ad 7), .ref (ad 8), .ref (ad 9), .int (iI (σ 0 0)), .int (iI (σ 0 1)), .int (iI (σ 0 2)), .int (iI (σ 0 3))] : List Value).set 6 (.int (iI v)))) = CE G ad (up σ 0 2 v) τ := by
  refine CE_ext (fun k hk hne => ?_) (fun i _ _ _ => ?_) (fun i _ _ _ => ?_) (fun i _ _ _ => ?_) (fun i _ _ => ?_) ?_
  · rcases (show k = 0 ∨ k = 1 ∨ k = 2 ∨ k = 3 ∨ k = 4 ∨ k = 5 ∨ k = 6 ∨ k = 7 ∨ k = 8 ∨ k = 9 ∨ k = 10 ∨ k = 11 ∨ k = 12 ∨ k = 13 ∨ k = 14 ∨ k = 15 ∨ k = 16 ∨ k = 17 ∨ k = 18 ∨ k = 19 ∨ k = 20 by omega) with rfl | rfl | rfl | rfl | rfl | rfl | rfl | rfl | rfl | rfl | rfl | rfl | rfl | rfl | rfl | rfl | rfl | rfl | rfl | rfl | rfl <;> first | exact absurd rfl hne | rfl | (simp only [CE0]; simp [tI, up]; done)
  · first | rfl | simp [FP, up]
  · first | rfl | simp [FR, up]
  · first | rfl | simp [FW, up]
  · first | rfl | (funext j; simp [tQ, up])
  · rw [CE_1]; simp [up]
theorem cu_today {v : Int} : va_up (CE G ad σ τ) 1 (.inr (5, ([.ref (ad 6), .ref (ad 7), .ref (ad 8), .ref (ad 9), .int (iI (σ 0 0)), .int (iI (σ 0 1)), .int (iI (σ 0 2)), .int (iI (σ 0 3))] : List Value).set 7 (.int (iI v)))) = CE G ad (up σ 0 3 v) τ := by
  refine CE_ext (fun k hk hne => ?_) (fun i _ _ _ => ?_) (fun i _ _ _ => ?_) (fun i _ _ _ => ?_) (fun i _ _ => ?_) ?_
  · rcases (show k = 0 ∨ k = 1 ∨ k = 2 ∨ k = 3 ∨ k = 4 ∨ k = 5 ∨ k = 6 ∨ k = 7 ∨ k = 8 ∨ k = 9 ∨ k = 10 ∨ k = 11 ∨ k = 12 ∨ k = 13 ∨ k = 14 ∨ k = 15 ∨ k = 16 ∨ k = 17 ∨ k = 18 ∨ k = 19 ∨ k = 20 by omega) with rfl | rfl | rfl | rfl | rfl | rfl | rfl | rfl | rfl | rfl | rfl | rfl | rfl | rfl | rfl | rfl | rfl | rfl | rfl | rfl | rfl <;> first | exact absurd rfl hne | rfl | (simp only [CE0]; simp [tI, up]; done)
  · first | rfl | simp [FP, up]
  · first | rfl | simp [FR, up]
  · first | rfl | simp [FW, up]
  · first | rfl | (funext j; simp [tQ, up])
  · rw [CE_1]; simp [up]
theorem cu_memberCount {v : Int} : va_up (CE G ad σ τ) 2 (.inr (0, ([.ref (ad 1), .ref (ad 10), .ref (ad 11), .int (iI (τ 2 0)), .ref (ad 12), .int (iI (τ 2 1)), .ref (ad 13), .ref (ad 14), .ref (ad 19)] : List Value).set 3 (.int (iI v)))) = CE G ad σ (up τ 2 0 v) := by
  refine CE_ext (fun k hk hne => ?_) (fun i _ _ _ => ?_) (fun i _ _ _ => ?_) (fun i _ _ _ => ?_) (fun i _ _ => ?_) ?_
  · rcases (show k = 0 ∨ k = 1 ∨ k = 2 ∨ k = 3 ∨ k = 4 ∨ k = 5 ∨ k = 6 ∨ k = 7 ∨ k = 8 ∨ k = 9 ∨ k = 10 ∨ k = 11 ∨ k = 12 ∨ k = 13 ∨ k = 14 ∨ k = 15 ∨ k = 16 ∨ k = 17 ∨ k = 18 ∨ k = 19 ∨ k = 20 by omega) with rfl | rfl | rfl | rfl | rfl | rfl | rfl | rfl | rfl | rfl | rfl | rfl | rfl | rfl | rfl | rfl | rfl | rfl | rfl | rfl | rfl <;> first | exact absurd rfl hne | rfl | (simp only [CE0]; simp [tI, up]; done)
  · first | rfl | simp [FP, up]
  · first | rfl | simp [FR, up]
  · first | rfl | simp [FW, up]
  · first | rfl | (funext j; simp [tQ, up])
  · rw [CE_2]; simp [up]
theorem cu_nearCount {v : Int} : va_up (CE G ad σ τ) 2 (.inr (0, ([.ref (ad 1), .ref (ad 10), .ref (ad 11), .int (iI (τ 2 0)), .ref (ad 12), .int (iI (τ 2 1)), .ref (ad 13), .ref (ad 14), .ref (ad 19)] : List Value).set 5 (.int (iI v)))) = CE G ad σ (up τ 2 1 v) := by
  refine CE_ext (fun k hk hne => ?_) (fun i _ _ _ => ?_) (fun i _ _ _ => ?_) (fun i _ _ _ => ?_) (fun i _ _ => ?_) ?_
  · rcases (show k = 0 ∨ k = 1 ∨ k = 2 ∨ k = 3 ∨ k = 4 ∨ k = 5 ∨ k = 6 ∨ k = 7 ∨ k = 8 ∨ k = 9 ∨ k = 10 ∨ k = 11 ∨ k = 12 ∨ k = 13 ∨ k = 14 ∨ k = 15 ∨ k = 16 ∨ k = 17 ∨ k = 18 ∨ k = 19 ∨ k = 20 by omega) with rfl | rfl | rfl | rfl | rfl | rfl | rfl | rfl | rfl | rfl | rfl | rfl | rfl | rfl | rfl | rfl | rfl | rfl | rfl | rfl | rfl <;> first | exact absurd rfl hne | rfl | (simp only [CE0]; simp [tI, up]; done)
  · first | rfl | simp [FP, up]
  · first | rfl | simp [FR, up]
  · first | rfl | simp [FW, up]
  · first | rfl | (funext j; simp [tQ, up])
  · rw [CE_2]; simp [up]
theorem cu_foundDay {v : Int} : va_up (CE G ad σ τ) 4 (.inr (3, ([.ref (ad 1), .ref (ad 2), .ref (ad 3), .int (iI (τ 2 2)), .int (iI (τ 2 3))] : List Value).set 3 (.int (iI v)))) = CE G ad σ (up τ 2 2 v) := by
  refine CE_ext (fun k hk hne => ?_) (fun i _ _ _ => ?_) (fun i _ _ _ => ?_) (fun i _ _ _ => ?_) (fun i _ _ => ?_) ?_
  · rcases (show k = 0 ∨ k = 1 ∨ k = 2 ∨ k = 3 ∨ k = 4 ∨ k = 5 ∨ k = 6 ∨ k = 7 ∨ k = 8 ∨ k = 9 ∨ k = 10 ∨ k = 11 ∨ k = 12 ∨ k = 13 ∨ k = 14 ∨ k = 15 ∨ k = 16 ∨ k = 17 ∨ k = 18 ∨ k = 19 ∨ k = 20 by omega) with rfl | rfl | rfl | rfl | rfl | rfl | rfl | rfl | rfl | rfl | rfl | rfl | rfl | rfl | rfl | rfl | rfl | rfl | rfl | rfl | rfl <;> first | exact absurd rfl hne | rfl | (simp only [CE0]; simp [tI, up]; done)
  · first | rfl | simp [FP, up]
  · first | rfl | simp [FR, up]
  · first | rfl | simp [FW, up]
  · first | rfl | (funext j; simp [tQ, up])
  · rw [CE_4]; simp [up]
theorem cu_foundPlace {v : Int} : va_up (CE G ad σ τ) 4 (.inr (3, ([.ref (ad 1), .ref (ad 2), .ref (ad 3), .int (iI (τ 2 2)), .int (iI (τ 2 3))] : List Value).set 4 (.int (iI v)))) = CE G ad σ (up τ 2 3 v) := by
  refine CE_ext (fun k hk hne => ?_) (fun i _ _ _ => ?_) (fun i _ _ _ => ?_) (fun i _ _ _ => ?_) (fun i _ _ => ?_) ?_
  · rcases (show k = 0 ∨ k = 1 ∨ k = 2 ∨ k = 3 ∨ k = 4 ∨ k = 5 ∨ k = 6 ∨ k = 7 ∨ k = 8 ∨ k = 9 ∨ k = 10 ∨ k = 11 ∨ k = 12 ∨ k = 13 ∨ k = 14 ∨ k = 15 ∨ k = 16 ∨ k = 17 ∨ k = 18 ∨ k = 19 ∨ k = 20 by omega) with rfl | rfl | rfl | rfl | rfl | rfl | rfl | rfl | rfl | rfl | rfl | rfl | rfl | rfl | rfl | rfl | rfl | rfl | rfl | rfl | rfl <;> first | exact absurd rfl hne | rfl | (simp only [CE0]; simp [tI, up]; done)
  · first | rfl | simp [FP, up]
  · first | rfl | simp [FR, up]
  · first | rfl | simp [FW, up]
  · first | rfl | (funext j; simp [tQ, up])
  · rw [CE_4]; simp [up]
theorem cu_breaker {v : Int} : va_up (CE G ad σ τ) 5 (.inr (4, ([.ref (ad 1), .ref (ad 4), .int (iI (τ 2 4))] : List Value).set 2 (.int (iI v)))) = CE G ad σ (up τ 2 4 v) := by
  refine CE_ext (fun k hk hne => ?_) (fun i _ _ _ => ?_) (fun i _ _ _ => ?_) (fun i _ _ _ => ?_) (fun i _ _ => ?_) ?_
  · rcases (show k = 0 ∨ k = 1 ∨ k = 2 ∨ k = 3 ∨ k = 4 ∨ k = 5 ∨ k = 6 ∨ k = 7 ∨ k = 8 ∨ k = 9 ∨ k = 10 ∨ k = 11 ∨ k = 12 ∨ k = 13 ∨ k = 14 ∨ k = 15 ∨ k = 16 ∨ k = 17 ∨ k = 18 ∨ k = 19 ∨ k = 20 by omega) with rfl | rfl | rfl | rfl | rfl | rfl | rfl | rfl | rfl | rfl | rfl | rfl | rfl | rfl | rfl | rfl | rfl | rfl | rfl | rfl | rfl <;> first | exact absurd rfl hne | rfl | (simp only [CE0]; simp [tI, up]; done)
  · first | rfl | simp [FP, up]
  · first | rfl | simp [FR, up]
  · first | rfl | simp [FW, up]
  · first | rfl | (funext j; simp [tQ, up])
  · rw [CE_5]; simp [up]
theorem cu_feast {z v : Int} (h : 0 ≤ z) : va_up (CE G ad σ τ) 9 (.inl (G 2, 400, .inl (upd (tI σ 10) z.toNat (iI v)))) = CE G ad (up σ 10 z v) τ := by
  refine CE_ext (fun k hk hne => ?_) (fun i _ _ _ => ?_) (fun i _ _ _ => ?_) (fun i _ _ _ => ?_) (fun i _ _ => ?_) ?_
  · rcases (show k = 0 ∨ k = 1 ∨ k = 2 ∨ k = 3 ∨ k = 4 ∨ k = 5 ∨ k = 6 ∨ k = 7 ∨ k = 8 ∨ k = 9 ∨ k = 10 ∨ k = 11 ∨ k = 12 ∨ k = 13 ∨ k = 14 ∨ k = 15 ∨ k = 16 ∨ k = 17 ∨ k = 18 ∨ k = 19 ∨ k = 20 by omega) with rfl | rfl | rfl | rfl | rfl | rfl | rfl | rfl | rfl | rfl | rfl | rfl | rfl | rfl | rfl | rfl | rfl | rfl | rfl | rfl | rfl <;> first | exact absurd rfl hne | rfl | (simp only [CE0]; simp [up]; done) | (simp only [CE0]; rw [tI_o (by decide)])
  · first | rfl | simp [FP, up]
  · first | rfl | simp [FR, up]
  · first | rfl | simp [FW, up]
  · first | rfl | (funext j; simp [tQ, up, show 25 + j ≠ 10 by omega])
  · rw [CE_9, tI_up h]
theorem cu_counted {z v : Int} (h : 0 ≤ z) : va_up (CE G ad σ τ) 10 (.inl (G 2, 60, .inl (upd (tI τ 0) z.toNat (iI v)))) = CE G ad σ (up τ 0 z v) := by
  refine CE_ext (fun k hk hne => ?_) (fun i _ _ _ => ?_) (fun i _ _ _ => ?_) (fun i _ _ _ => ?_) (fun i _ _ => ?_) ?_
  · rcases (show k = 0 ∨ k = 1 ∨ k = 2 ∨ k = 3 ∨ k = 4 ∨ k = 5 ∨ k = 6 ∨ k = 7 ∨ k = 8 ∨ k = 9 ∨ k = 10 ∨ k = 11 ∨ k = 12 ∨ k = 13 ∨ k = 14 ∨ k = 15 ∨ k = 16 ∨ k = 17 ∨ k = 18 ∨ k = 19 ∨ k = 20 by omega) with rfl | rfl | rfl | rfl | rfl | rfl | rfl | rfl | rfl | rfl | rfl | rfl | rfl | rfl | rfl | rfl | rfl | rfl | rfl | rfl | rfl <;> first | exact absurd rfl hne | rfl | (simp only [CE0]; simp [up]; done) | (simp only [CE0]; rw [tI_o (by decide)])
  · first | rfl | simp [FP, up]
  · first | rfl | simp [FR, up]
  · first | rfl | simp [FW, up]
  · first | rfl | (funext j; simp [tQ, up, show 25 + j ≠ 10 by omega])
  · rw [CE_10, tI_up h]
theorem cu_members {z v : Int} (h : 0 ≤ z) : va_up (CE G ad σ τ) 11 (.inl (G 0, 60, .inl (upd (tI τ 1) z.toNat (iI v)))) = CE G ad σ (up τ 1 z v) := by
  refine CE_ext (fun k hk hne => ?_) (fun i _ _ _ => ?_) (fun i _ _ _ => ?_) (fun i _ _ _ => ?_) (fun i _ _ => ?_) ?_
  · rcases (show k = 0 ∨ k = 1 ∨ k = 2 ∨ k = 3 ∨ k = 4 ∨ k = 5 ∨ k = 6 ∨ k = 7 ∨ k = 8 ∨ k = 9 ∨ k = 10 ∨ k = 11 ∨ k = 12 ∨ k = 13 ∨ k = 14 ∨ k = 15 ∨ k = 16 ∨ k = 17 ∨ k = 18 ∨ k = 19 ∨ k = 20 by omega) with rfl | rfl | rfl | rfl | rfl | rfl | rfl | rfl | rfl | rfl | rfl | rfl | rfl | rfl | rfl | rfl | rfl | rfl | rfl | rfl | rfl <;> first | exact absurd rfl hne | rfl | (simp only [CE0]; simp [up]; done) | (simp only [CE0]; rw [tI_o (by decide)])
  · first | rfl | simp [FP, up]
  · first | rfl | simp [FR, up]
  · first | rfl | simp [FW, up]
  · first | rfl | (funext j; simp [tQ, up, show 25 + j ≠ 10 by omega])
  · rw [CE_11, tI_up h]
theorem cu_near {z v : Int} (h : 0 ≤ z) : va_up (CE G ad σ τ) 12 (.inl (G 0, 60, .inl (upd (tI τ 3) z.toNat (iI v)))) = CE G ad σ (up τ 3 z v) := by
  refine CE_ext (fun k hk hne => ?_) (fun i _ _ _ => ?_) (fun i _ _ _ => ?_) (fun i _ _ _ => ?_) (fun i _ _ => ?_) ?_
  · rcases (show k = 0 ∨ k = 1 ∨ k = 2 ∨ k = 3 ∨ k = 4 ∨ k = 5 ∨ k = 6 ∨ k = 7 ∨ k = 8 ∨ k = 9 ∨ k = 10 ∨ k = 11 ∨ k = 12 ∨ k = 13 ∨ k = 14 ∨ k = 15 ∨ k = 16 ∨ k = 17 ∨ k = 18 ∨ k = 19 ∨ k = 20 by omega) with rfl | rfl | rfl | rfl | rfl | rfl | rfl | rfl | rfl | rfl | rfl | rfl | rfl | rfl | rfl | rfl | rfl | rfl | rfl | rfl | rfl <;> first | exact absurd rfl hne | rfl | (simp only [CE0]; simp [up]; done) | (simp only [CE0]; rw [tI_o (by decide)])
  · first | rfl | simp [FP, up]
  · first | rfl | simp [FR, up]
  · first | rfl | simp [FW, up]
  · first | rfl | (funext j; simp [tQ, up, show 25 + j ≠ 10 by omega])
  · rw [CE_12, tI_up h]
theorem cu_taken {z v : Int} (h : 0 ≤ z) : va_up (CE G ad σ τ) 13 (.inl (G 0, 40, .inl (upd (tI τ 4) z.toNat (iI v)))) = CE G ad σ (up τ 4 z v) := by
  refine CE_ext (fun k hk hne => ?_) (fun i _ _ _ => ?_) (fun i _ _ _ => ?_) (fun i _ _ _ => ?_) (fun i _ _ => ?_) ?_
  · rcases (show k = 0 ∨ k = 1 ∨ k = 2 ∨ k = 3 ∨ k = 4 ∨ k = 5 ∨ k = 6 ∨ k = 7 ∨ k = 8 ∨ k = 9 ∨ k = 10 ∨ k = 11 ∨ k = 12 ∨ k = 13 ∨ k = 14 ∨ k = 15 ∨ k = 16 ∨ k = 17 ∨ k = 18 ∨ k = 19 ∨ k = 20 by omega) with rfl | rfl | rfl | rfl | rfl | rfl | rfl | rfl | rfl | rfl | rfl | rfl | rfl | rfl | rfl | rfl | rfl | rfl | rfl | rfl | rfl <;> first | exact absurd rfl hne | rfl | (simp only [CE0]; simp [up]; done) | (simp only [CE0]; rw [tI_o (by decide)])
  · first | rfl | simp [FP, up]
  · first | rfl | simp [FR, up]
  · first | rfl | simp [FW, up]
  · first | rfl | (funext j; simp [tQ, up, show 25 + j ≠ 10 by omega])
  · rw [CE_13, tI_up h]
theorem cu_beside0 {z v : Int} (h : 0 ≤ z) : va_up (CE G ad σ τ) 15 (.inl (G 0, 400, .inl (upd (tI τ 5) z.toNat (iI v)))) = CE G ad σ (up τ 5 z v) := by
  refine CE_ext (fun k hk hne => ?_) (fun i _ _ _ => ?_) (fun i _ _ _ => ?_) (fun i _ _ _ => ?_) (fun i _ _ => ?_) ?_
  · rcases (show k = 0 ∨ k = 1 ∨ k = 2 ∨ k = 3 ∨ k = 4 ∨ k = 5 ∨ k = 6 ∨ k = 7 ∨ k = 8 ∨ k = 9 ∨ k = 10 ∨ k = 11 ∨ k = 12 ∨ k = 13 ∨ k = 14 ∨ k = 15 ∨ k = 16 ∨ k = 17 ∨ k = 18 ∨ k = 19 ∨ k = 20 by omega) with rfl | rfl | rfl | rfl | rfl | rfl | rfl | rfl | rfl | rfl | rfl | rfl | rfl | rfl | rfl | rfl | rfl | rfl | rfl | rfl | rfl <;> first | exact absurd rfl hne | rfl | (simp only [CE0]; simp [up]; done) | (simp only [CE0]; rw [tI_o (by decide)])
  · first | rfl | simp [FP, up]
  · first | rfl | simp [FR, up]
  · first | rfl | simp [FW, up]
  · first | rfl | (funext j; simp [tQ, up, show 25 + j ≠ 10 by omega])
  · rw [CE_15, tI_up h]
theorem cu_beside1 {z v : Int} (h : 0 ≤ z) : va_up (CE G ad σ τ) 16 (.inl (G 0, 400, .inl (upd (tI τ 6) z.toNat (iI v)))) = CE G ad σ (up τ 6 z v) := by
  refine CE_ext (fun k hk hne => ?_) (fun i _ _ _ => ?_) (fun i _ _ _ => ?_) (fun i _ _ _ => ?_) (fun i _ _ => ?_) ?_
  · rcases (show k = 0 ∨ k = 1 ∨ k = 2 ∨ k = 3 ∨ k = 4 ∨ k = 5 ∨ k = 6 ∨ k = 7 ∨ k = 8 ∨ k = 9 ∨ k = 10 ∨ k = 11 ∨ k = 12 ∨ k = 13 ∨ k = 14 ∨ k = 15 ∨ k = 16 ∨ k = 17 ∨ k = 18 ∨ k = 19 ∨ k = 20 by omega) with rfl | rfl | rfl | rfl | rfl | rfl | rfl | rfl | rfl | rfl | rfl | rfl | rfl | rfl | rfl | rfl | rfl | rfl | rfl | rfl | rfl <;> first | exact absurd rfl hne | rfl | (simp only [CE0]; simp [up]; done) | (simp only [CE0]; rw [tI_o (by decide)])
  · first | rfl | simp [FP, up]
  · first | rfl | simp [FR, up]
  · first | rfl | simp [FW, up]
  · first | rfl | (funext j; simp [tQ, up, show 25 + j ≠ 10 by omega])
  · rw [CE_16, tI_up h]
theorem cu_beside2 {z v : Int} (h : 0 ≤ z) : va_up (CE G ad σ τ) 17 (.inl (G 0, 400, .inl (upd (tI τ 7) z.toNat (iI v)))) = CE G ad σ (up τ 7 z v) := by
  refine CE_ext (fun k hk hne => ?_) (fun i _ _ _ => ?_) (fun i _ _ _ => ?_) (fun i _ _ _ => ?_) (fun i _ _ => ?_) ?_
  · rcases (show k = 0 ∨ k = 1 ∨ k = 2 ∨ k = 3 ∨ k = 4 ∨ k = 5 ∨ k = 6 ∨ k = 7 ∨ k = 8 ∨ k = 9 ∨ k = 10 ∨ k = 11 ∨ k = 12 ∨ k = 13 ∨ k = 14 ∨ k = 15 ∨ k = 16 ∨ k = 17 ∨ k = 18 ∨ k = 19 ∨ k = 20 by omega) with rfl | rfl | rfl | rfl | rfl | rfl | rfl | rfl | rfl | rfl | rfl | rfl | rfl | rfl | rfl | rfl | rfl | rfl | rfl | rfl | rfl <;> first | exact absurd rfl hne | rfl | (simp only [CE0]; simp [up]; done) | (simp only [CE0]; rw [tI_o (by decide)])
  · first | rfl | simp [FP, up]
  · first | rfl | simp [FR, up]
  · first | rfl | simp [FW, up]
  · first | rfl | (funext j; simp [tQ, up, show 25 + j ≠ 10 by omega])
  · rw [CE_17, tI_up h]
theorem cu_beside3 {z v : Int} (h : 0 ≤ z) : va_up (CE G ad σ τ) 18 (.inl (G 0, 400, .inl (upd (tI τ 8) z.toNat (iI v)))) = CE G ad σ (up τ 8 z v) := by
  refine CE_ext (fun k hk hne => ?_) (fun i _ _ _ => ?_) (fun i _ _ _ => ?_) (fun i _ _ _ => ?_) (fun i _ _ => ?_) ?_
  · rcases (show k = 0 ∨ k = 1 ∨ k = 2 ∨ k = 3 ∨ k = 4 ∨ k = 5 ∨ k = 6 ∨ k = 7 ∨ k = 8 ∨ k = 9 ∨ k = 10 ∨ k = 11 ∨ k = 12 ∨ k = 13 ∨ k = 14 ∨ k = 15 ∨ k = 16 ∨ k = 17 ∨ k = 18 ∨ k = 19 ∨ k = 20 by omega) with rfl | rfl | rfl | rfl | rfl | rfl | rfl | rfl | rfl | rfl | rfl | rfl | rfl | rfl | rfl | rfl | rfl | rfl | rfl | rfl | rfl <;> first | exact absurd rfl hne | rfl | (simp only [CE0]; simp [up]; done) | (simp only [CE0]; rw [tI_o (by decide)])
  · first | rfl | simp [FP, up]
  · first | rfl | simp [FR, up]
  · first | rfl | simp [FW, up]
  · first | rfl | (funext j; simp [tQ, up, show 25 + j ≠ 10 by omega])
  · rw [CE_18, tI_up h]
theorem cu_added {z v : Int} (h : 0 ≤ z) : va_up (CE G ad σ τ) 19 (.inl (G 0, 400, .inl (upd (tI τ 9) z.toNat (iI v)))) = CE G ad σ (up τ 9 z v) := by
  refine CE_ext (fun k hk hne => ?_) (fun i _ _ _ => ?_) (fun i _ _ _ => ?_) (fun i _ _ _ => ?_) (fun i _ _ => ?_) ?_
  · rcases (show k = 0 ∨ k = 1 ∨ k = 2 ∨ k = 3 ∨ k = 4 ∨ k = 5 ∨ k = 6 ∨ k = 7 ∨ k = 8 ∨ k = 9 ∨ k = 10 ∨ k = 11 ∨ k = 12 ∨ k = 13 ∨ k = 14 ∨ k = 15 ∨ k = 16 ∨ k = 17 ∨ k = 18 ∨ k = 19 ∨ k = 20 by omega) with rfl | rfl | rfl | rfl | rfl | rfl | rfl | rfl | rfl | rfl | rfl | rfl | rfl | rfl | rfl | rfl | rfl | rfl | rfl | rfl | rfl <;> first | exact absurd rfl hne | rfl | (simp only [CE0]; simp [up]; done) | (simp only [CE0]; rw [tI_o (by decide)])
  · first | rfl | simp [FP, up]
  · first | rfl | simp [FR, up]
  · first | rfl | simp [FW, up]
  · first | rfl | (funext j; simp [tQ, up, show 25 + j ≠ 10 by omega])
  · rw [CE_19, tI_up h]
theorem cu_minutes {z v : Int} (h : 0 ≤ z) : va_up (CE G ad σ τ) 20 (.inl (G 0, 20, .inl (upd (tI τ 10) z.toNat (iI v)))) = CE G ad σ (up τ 10 z v) := by
  refine CE_ext (fun k hk hne => ?_) (fun i _ _ _ => ?_) (fun i _ _ _ => ?_) (fun i _ _ _ => ?_) (fun i _ _ => ?_) ?_
  · rcases (show k = 0 ∨ k = 1 ∨ k = 2 ∨ k = 3 ∨ k = 4 ∨ k = 5 ∨ k = 6 ∨ k = 7 ∨ k = 8 ∨ k = 9 ∨ k = 10 ∨ k = 11 ∨ k = 12 ∨ k = 13 ∨ k = 14 ∨ k = 15 ∨ k = 16 ∨ k = 17 ∨ k = 18 ∨ k = 19 ∨ k = 20 by omega) with rfl | rfl | rfl | rfl | rfl | rfl | rfl | rfl | rfl | rfl | rfl | rfl | rfl | rfl | rfl | rfl | rfl | rfl | rfl | rfl | rfl <;> first | exact absurd rfl hne | rfl | (simp only [CE0]; simp [up]; done) | (simp only [CE0]; rw [tI_o (by decide)])
  · first | rfl | simp [FP, up]
  · first | rfl | simp [FR, up]
  · first | rfl | simp [FW, up]
  · first | rfl | (funext j; simp [tQ, up, show 25 + j ≠ 10 by omega])
  · rw [CE_20, tI_up h]
theorem cu_beside {k z v : Int} (hk : 0 ≤ k ∧ k < 4) (h : 0 ≤ z) : va_up (CE G ad σ τ) (15 + k.toNat) (.inl (G 0, 400, .inl (upd (tI τ (5 + k.toNat)) z.toNat (iI v)))) = CE G ad σ (up τ (5 + k.toNat) z v) := by
  rcases (show k = 0 ∨ k = 1 ∨ k = 2 ∨ k = 3 by omega) with rfl | rfl | rfl | rfl
  · exact cu_beside0 h
  · exact cu_beside1 h
  · exact cu_beside2 h
  · exact cu_beside3 h
theorem CE_b {k : Int} (hk : 0 ≤ k ∧ k < 4) : CE G ad σ τ (15 + k.toNat) = .inl (G 0, 400, .inl (tI τ (5 + k.toNat))) := by
  rcases (show k = 0 ∨ k = 1 ∨ k = 2 ∨ k = 3 by omega) with rfl | rfl | rfl | rfl <;> rfl
theorem cu_p_from {i : Int} {v : Int} (h : 0 ≤ i ∧ i < 40) : va_up (CE G ad σ τ) (21 + i.toNat) (.inr (2, (FP σ i).set 0 (.int (iI v)))) = CE G ad (up σ 1 i v) τ := by
  refine CE_ext (fun k hk hne => ?_) (fun i' a1 a2 a3 => ?_) (fun i' a1 a2 a3 => ?_) (fun i' a1 a2 a3 => ?_) (fun i' a1 a2 => ?_) ?_
  · rcases (show k = 0 ∨ k = 1 ∨ k = 2 ∨ k = 3 ∨ k = 4 ∨ k = 5 ∨ k = 6 ∨ k = 7 ∨ k = 8 ∨ k = 9 ∨ k = 10 ∨ k = 11 ∨ k = 12 ∨ k = 13 ∨ k = 14 ∨ k = 15 ∨ k = 16 ∨ k = 17 ∨ k = 18 ∨ k = 19 ∨ k = 20 by omega) with rfl | rfl | rfl | rfl | rfl | rfl | rfl | rfl | rfl | rfl | rfl | rfl | rfl | rfl | rfl | rfl | rfl | rfl | rfl | rfl | rfl <;> first | rfl | (simp only [CE0]; simp [up]; done) | (simp only [CE0]; rw [tI_o (by decide)])
  · have h2 : ¬ i' = i := by omega
    simp [FP, up, h2]
  · first | rfl | simp [FR, up]
  · first | rfl | simp [FW, up]
  · first | rfl | (funext j; simp [tQ, up, show 25 + j ≠ 1 by omega])
  · rw [CE_p h]; simp [FP, up]
theorem cu_p_to {i : Int} {v : Int} (h : 0 ≤ i ∧ i < 40) : va_up (CE G ad σ τ) (21 + i.toNat) (.inr (2, (FP σ i).set 1 (.int (iI v)))) = CE G ad (up σ 2 i v) τ := by
  refine CE_ext (fun k hk hne => ?_) (fun i' a1 a2 a3 => ?_) (fun i' a1 a2 a3 => ?_) (fun i' a1 a2 a3 => ?_) (fun i' a1 a2 => ?_) ?_
  · rcases (show k = 0 ∨ k = 1 ∨ k = 2 ∨ k = 3 ∨ k = 4 ∨ k = 5 ∨ k = 6 ∨ k = 7 ∨ k = 8 ∨ k = 9 ∨ k = 10 ∨ k = 11 ∨ k = 12 ∨ k = 13 ∨ k = 14 ∨ k = 15 ∨ k = 16 ∨ k = 17 ∨ k = 18 ∨ k = 19 ∨ k = 20 by omega) with rfl | rfl | rfl | rfl | rfl | rfl | rfl | rfl | rfl | rfl | rfl | rfl | rfl | rfl | rfl | rfl | rfl | rfl | rfl | rfl | rfl <;> first | rfl | (simp only [CE0]; simp [up]; done) | (simp only [CE0]; rw [tI_o (by decide)])
  · have h2 : ¬ i' = i := by omega
    simp [FP, up, h2]
  · first | rfl | simp [FR, up]
  · first | rfl | simp [FW, up]
  · first | rfl | (funext j; simp [tQ, up, show 25 + j ≠ 2 by omega])
  · rw [CE_p h]; simp [FP, up]
theorem cu_p_lanes {i : Int} {v : Int} (h : 0 ≤ i ∧ i < 40) : va_up (CE G ad σ τ) (21 + i.toNat) (.inr (2, (FP σ i).set 2 (.int (iI v)))) = CE G ad (up σ 3 i v) τ := by
  refine CE_ext (fun k hk hne => ?_) (fun i' a1 a2 a3 => ?_) (fun i' a1 a2 a3 => ?_) (fun i' a1 a2 a3 => ?_) (fun i' a1 a2 => ?_) ?_
  · rcases (show k = 0 ∨ k = 1 ∨ k = 2 ∨ k = 3 ∨ k = 4 ∨ k = 5 ∨ k = 6 ∨ k = 7 ∨ k = 8 ∨ k = 9 ∨ k = 10 ∨ k = 11 ∨ k = 12 ∨ k = 13 ∨ k = 14 ∨ k = 15 ∨ k = 16 ∨ k = 17 ∨ k = 18 ∨ k = 19 ∨ k = 20 by omega) with rfl | rfl | rfl | rfl | rfl | rfl | rfl | rfl | rfl | rfl | rfl | rfl | rfl | rfl | rfl | rfl | rfl | rfl | rfl | rfl | rfl <;> first | rfl | (simp only [CE0]; simp [up]; done) | (simp only [CE0]; rw [tI_o (by decide)])
  · have h2 : ¬ i' = i := by omega
    simp [FP, up, h2]
  · first | rfl | simp [FR, up]
  · first | rfl | simp [FW, up]
  · first | rfl | (funext j; simp [tQ, up, show 25 + j ≠ 3 by omega])
  · rw [CE_p h]; simp [FP, up]
theorem cu_p_rank {i : Int} {v : Int} (h : 0 ≤ i ∧ i < 40) : va_up (CE G ad σ τ) (21 + i.toNat) (.inr (2, (FP σ i).set 3 (.int (iI v)))) = CE G ad (up σ 4 i v) τ := by
  refine CE_ext (fun k hk hne => ?_) (fun i' a1 a2 a3 => ?_) (fun i' a1 a2 a3 => ?_) (fun i' a1 a2 a3 => ?_) (fun i' a1 a2 => ?_) ?_
  · rcases (show k = 0 ∨ k = 1 ∨ k = 2 ∨ k = 3 ∨ k = 4 ∨ k = 5 ∨ k = 6 ∨ k = 7 ∨ k = 8 ∨ k = 9 ∨ k = 10 ∨ k = 11 ∨ k = 12 ∨ k = 13 ∨ k = 14 ∨ k = 15 ∨ k = 16 ∨ k = 17 ∨ k = 18 ∨ k = 19 ∨ k = 20 by omega) with rfl | rfl | rfl | rfl | rfl | rfl | rfl | rfl | rfl | rfl | rfl | rfl | rfl | rfl | rfl | rfl | rfl | rfl | rfl | rfl | rfl <;> first | rfl | (simp only [CE0]; simp [up]; done) | (simp only [CE0]; rw [tI_o (by decide)])
  · have h2 : ¬ i' = i := by omega
    simp [FP, up, h2]
  · first | rfl | simp [FR, up]
  · first | rfl | simp [FW, up]
  · first | rfl | (funext j; simp [tQ, up, show 25 + j ≠ 4 by omega])
  · rw [CE_p h]; simp [FP, up]
theorem cu_p_minutes {i : Int} {v : Int} (h : 0 ≤ i ∧ i < 40) : va_up (CE G ad σ τ) (21 + i.toNat) (.inr (2, (FP σ i).set 4 (.int (iI v)))) = CE G ad (up σ 5 i v) τ := by
  refine CE_ext (fun k hk hne => ?_) (fun i' a1 a2 a3 => ?_) (fun i' a1 a2 a3 => ?_) (fun i' a1 a2 a3 => ?_) (fun i' a1 a2 => ?_) ?_
  · rcases (show k = 0 ∨ k = 1 ∨ k = 2 ∨ k = 3 ∨ k = 4 ∨ k = 5 ∨ k = 6 ∨ k = 7 ∨ k = 8 ∨ k = 9 ∨ k = 10 ∨ k = 11 ∨ k = 12 ∨ k = 13 ∨ k = 14 ∨ k = 15 ∨ k = 16 ∨ k = 17 ∨ k = 18 ∨ k = 19 ∨ k = 20 by omega) with rfl | rfl | rfl | rfl | rfl | rfl | rfl | rfl | rfl | rfl | rfl | rfl | rfl | rfl | rfl | rfl | rfl | rfl | rfl | rfl | rfl <;> first | rfl | (simp only [CE0]; simp [up]; done) | (simp only [CE0]; rw [tI_o (by decide)])
  · have h2 : ¬ i' = i := by omega
    simp [FP, up, h2]
  · first | rfl | simp [FR, up]
  · first | rfl | simp [FW, up]
  · first | rfl | (funext j; simp [tQ, up, show 25 + j ≠ 5 by omega])
  · rw [CE_p h]; simp [FP, up]
theorem cu_p_rest {i : Int} {v : Int} (h : 0 ≤ i ∧ i < 40) : va_up (CE G ad σ τ) (21 + i.toNat) (.inr (2, (FP σ i).set 5 (.int (iI v)))) = CE G ad (up σ 6 i v) τ := by
  refine CE_ext (fun k hk hne => ?_) (fun i' a1 a2 a3 => ?_) (fun i' a1 a2 a3 => ?_) (fun i' a1 a2 a3 => ?_) (fun i' a1 a2 => ?_) ?_
  · rcases (show k = 0 ∨ k = 1 ∨ k = 2 ∨ k = 3 ∨ k = 4 ∨ k = 5 ∨ k = 6 ∨ k = 7 ∨ k = 8 ∨ k = 9 ∨ k = 10 ∨ k = 11 ∨ k = 12 ∨ k = 13 ∨ k = 14 ∨ k = 15 ∨ k = 16 ∨ k = 17 ∨ k = 18 ∨ k = 19 ∨ k = 20 by omega) with rfl | rfl | rfl | rfl | rfl | rfl | rfl | rfl | rfl | rfl | rfl | rfl | rfl | rfl | rfl | rfl | rfl | rfl | rfl | rfl | rfl <;> first | rfl | (simp only [CE0]; simp [up]; done) | (simp only [CE0]; rw [tI_o (by decide)])
  · have h2 : ¬ i' = i := by omega
    simp [FP, up, h2]
  · first | rfl | simp [FR, up]
  · first | rfl | simp [FW, up]
  · first | rfl | (funext j; simp [tQ, up, show 25 + j ≠ 6 by omega])
  · rw [CE_p h]; simp [FP, up]
theorem cu_r_from {i : Int} {v : Int} (h : 0 ≤ i ∧ i < 8) : va_up (CE G ad σ τ) (61 + i.toNat) (.inr (1, (FR σ i).set 0 (.int (iI v)))) = CE G ad (up σ 7 i v) τ := by
  refine CE_ext (fun k hk hne => ?_) (fun i' a1 a2 a3 => ?_) (fun i' a1 a2 a3 => ?_) (fun i' a1 a2 a3 => ?_) (fun i' a1 a2 => ?_) ?_
  · rcases (show k = 0 ∨ k = 1 ∨ k = 2 ∨ k = 3 ∨ k = 4 ∨ k = 5 ∨ k = 6 ∨ k = 7 ∨ k = 8 ∨ k = 9 ∨ k = 10 ∨ k = 11 ∨ k = 12 ∨ k = 13 ∨ k = 14 ∨ k = 15 ∨ k = 16 ∨ k = 17 ∨ k = 18 ∨ k = 19 ∨ k = 20 by omega) with rfl | rfl | rfl | rfl | rfl | rfl | rfl | rfl | rfl | rfl | rfl | rfl | rfl | rfl | rfl | rfl | rfl | rfl | rfl | rfl | rfl <;> first | rfl | (simp only [CE0]; simp [up]; done) | (simp only [CE0]; rw [tI_o (by decide)])
  · first | rfl | simp [FP, up]
  · have h2 : ¬ i' = i := by omega
    simp [FR, up, h2]
  · first | rfl | simp [FW, up]
  · first | rfl | (funext j; simp [tQ, up, show 25 + j ≠ 7 by omega])
  · rw [CE_r h]; simp [FR, up]
theorem cu_r_to {i : Int} {v : Int} (h : 0 ≤ i ∧ i < 8) : va_up (CE G ad σ τ) (61 + i.toNat) (.inr (1, (FR σ i).set 1 (.int (iI v)))) = CE G ad (up σ 8 i v) τ := by
  refine CE_ext (fun k hk hne => ?_) (fun i' a1 a2 a3 => ?_) (fun i' a1 a2 a3 => ?_) (fun i' a1 a2 a3 => ?_) (fun i' a1 a2 => ?_) ?_
  · rcases (show k = 0 ∨ k = 1 ∨ k = 2 ∨ k = 3 ∨ k = 4 ∨ k = 5 ∨ k = 6 ∨ k = 7 ∨ k = 8 ∨ k = 9 ∨ k = 10 ∨ k = 11 ∨ k = 12 ∨ k = 13 ∨ k = 14 ∨ k = 15 ∨ k = 16 ∨ k = 17 ∨ k = 18 ∨ k = 19 ∨ k = 20 by omega) with rfl | rfl | rfl | rfl | rfl | rfl | rfl | rfl | rfl | rfl | rfl | rfl | rfl | rfl | rfl | rfl | rfl | rfl | rfl | rfl | rfl <;> first | rfl | (simp only [CE0]; simp [up]; done) | (simp only [CE0]; rw [tI_o (by decide)])
  · first | rfl | simp [FP, up]
  · have h2 : ¬ i' = i := by omega
    simp [FR, up, h2]
  · first | rfl | simp [FW, up]
  · first | rfl | (funext j; simp [tQ, up, show 25 + j ≠ 8 by omega])
  · rw [CE_r h]; simp [FR, up]
theorem cu_r_limit {i : Int} {v : Int} (h : 0 ≤ i ∧ i < 8) : va_up (CE G ad σ τ) (61 + i.toNat) (.inr (1, (FR σ i).set 2 (.int (iI v)))) = CE G ad (up σ 9 i v) τ := by
  refine CE_ext (fun k hk hne => ?_) (fun i' a1 a2 a3 => ?_) (fun i' a1 a2 a3 => ?_) (fun i' a1 a2 a3 => ?_) (fun i' a1 a2 => ?_) ?_
  · rcases (show k = 0 ∨ k = 1 ∨ k = 2 ∨ k = 3 ∨ k = 4 ∨ k = 5 ∨ k = 6 ∨ k = 7 ∨ k = 8 ∨ k = 9 ∨ k = 10 ∨ k = 11 ∨ k = 12 ∨ k = 13 ∨ k = 14 ∨ k = 15 ∨ k = 16 ∨ k = 17 ∨ k = 18 ∨ k = 19 ∨ k = 20 by omega) with rfl | rfl | rfl | rfl | rfl | rfl | rfl | rfl | rfl | rfl | rfl | rfl | rfl | rfl | rfl | rfl | rfl | rfl | rfl | rfl | rfl <;> first | rfl | (simp only [CE0]; simp [up]; done) | (simp only [CE0]; rw [tI_o (by decide)])
  · first | rfl | simp [FP, up]
  · have h2 : ¬ i' = i := by omega
    simp [FR, up, h2]
  · first | rfl | simp [FW, up]
  · first | rfl | (funext j; simp [tQ, up, show 25 + j ≠ 9 by omega])
  · rw [CE_r h]; simp [FR, up]
theorem cu_w_size {i : Int} {v : Int} (h : 0 ≤ i ∧ i < 60) : va_up (CE G ad σ τ) (69 + i.toNat) (.inr (7, (FW ad σ i).set 2 (.int (iI v)))) = CE G ad (up σ 18 i v) τ := by
  refine CE_ext (fun k hk hne => ?_) (fun i' a1 a2 a3 => ?_) (fun i' a1 a2 a3 => ?_) (fun i' a1 a2 a3 => ?_) (fun i' a1 a2 => ?_) ?_
  · rcases (show k = 0 ∨ k = 1 ∨ k = 2 ∨ k = 3 ∨ k = 4 ∨ k = 5 ∨ k = 6 ∨ k = 7 ∨ k = 8 ∨ k = 9 ∨ k = 10 ∨ k = 11 ∨ k = 12 ∨ k = 13 ∨ k = 14 ∨ k = 15 ∨ k = 16 ∨ k = 17 ∨ k = 18 ∨ k = 19 ∨ k = 20 by omega) with rfl | rfl | rfl | rfl | rfl | rfl | rfl | rfl | rfl | rfl | rfl | rfl | rfl | rfl | rfl | rfl | rfl | rfl | rfl | rfl | rfl <;> first | rfl | (simp only [CE0]; simp [up]; done) | (simp only [CE0]; rw [tI_o (by decide)])
  · first | rfl | simp [FP, up]
  · first | rfl | simp [FR, up]
  · have h2 : ¬ i' = i := by omega
    simp [FW, up, h2]
  · first | rfl | (funext j; simp [tQ, up, show 25 + j ≠ 18 by omega])
  · rw [CE_w h]; simp [FW, up]
theorem cu_w_house {i : Int} {v : Int} (h : 0 ≤ i ∧ i < 60) : va_up (CE G ad σ τ) (69 + i.toNat) (.inr (7, (FW ad σ i).set 4 (.int (iI v)))) = CE G ad (up σ 11 i v) τ := by
  refine CE_ext (fun k hk hne => ?_) (fun i' a1 a2 a3 => ?_) (fun i' a1 a2 a3 => ?_) (fun i' a1 a2 a3 => ?_) (fun i' a1 a2 => ?_) ?_
  · rcases (show k = 0 ∨ k = 1 ∨ k = 2 ∨ k = 3 ∨ k = 4 ∨ k = 5 ∨ k = 6 ∨ k = 7 ∨ k = 8 ∨ k = 9 ∨ k = 10 ∨ k = 11 ∨ k = 12 ∨ k = 13 ∨ k = 14 ∨ k = 15 ∨ k = 16 ∨ k = 17 ∨ k = 18 ∨ k = 19 ∨ k = 20 by omega) with rfl | rfl | rfl | rfl | rfl | rfl | rfl | rfl | rfl | rfl | rfl | rfl | rfl | rfl | rfl | rfl | rfl | rfl | rfl | rfl | rfl <;> first | rfl | (simp only [CE0]; simp [up]; done) | (simp only [CE0]; rw [tI_o (by decide)])
  · first | rfl | simp [FP, up]
  · first | rfl | simp [FR, up]
  · have h2 : ¬ i' = i := by omega
    simp [FW, up, h2]
  · first | rfl | (funext j; simp [tQ, up, show 25 + j ≠ 11 by omega])
  · rw [CE_w h]; simp [FW, up]
theorem cu_w_sort {i : Int} {v : Int} (h : 0 ≤ i ∧ i < 60) : va_up (CE G ad σ τ) (69 + i.toNat) (.inr (7, (FW ad σ i).set 5 (.int (iI v)))) = CE G ad (up σ 12 i v) τ := by
  refine CE_ext (fun k hk hne => ?_) (fun i' a1 a2 a3 => ?_) (fun i' a1 a2 a3 => ?_) (fun i' a1 a2 a3 => ?_) (fun i' a1 a2 => ?_) ?_
  · rcases (show k = 0 ∨ k = 1 ∨ k = 2 ∨ k = 3 ∨ k = 4 ∨ k = 5 ∨ k = 6 ∨ k = 7 ∨ k = 8 ∨ k = 9 ∨ k = 10 ∨ k = 11 ∨ k = 12 ∨ k = 13 ∨ k = 14 ∨ k = 15 ∨ k = 16 ∨ k = 17 ∨ k = 18 ∨ k = 19 ∨ k = 20 by omega) with rfl | rfl | rfl | rfl | rfl | rfl | rfl | rfl | rfl | rfl | rfl | rfl | rfl | rfl | rfl | rfl | rfl | rfl | rfl | rfl | rfl <;> first | rfl | (simp only [CE0]; simp [up]; done) | (simp only [CE0]; rw [tI_o (by decide)])
  · first | rfl | simp [FP, up]
  · first | rfl | simp [FR, up]
  · have h2 : ¬ i' = i := by omega
    simp [FW, up, h2]
  · first | rfl | (funext j; simp [tQ, up, show 25 + j ≠ 12 by omega])
  · rw [CE_w h]; simp [FW, up]
theorem cu_w_lanes {i : Int} {v : Int} (h : 0 ≤ i ∧ i < 60) : va_up (CE G ad σ τ) (69 + i.toNat) (.inr (7, (FW ad σ i).set 6 (.int (iI v)))) = CE G ad (up σ 13 i v) τ := by
  refine CE_ext (fun k hk hne => ?_) (fun i' a1 a2 a3 => ?_) (fun i' a1 a2 a3 => ?_) (fun i' a1 a2 a3 => ?_) (fun i' a1 a2 => ?_) ?_
  · rcases (show k = 0 ∨ k = 1 ∨ k = 2 ∨ k = 3 ∨ k = 4 ∨ k = 5 ∨ k = 6 ∨ k = 7 ∨ k = 8 ∨ k = 9 ∨ k = 10 ∨ k = 11 ∨ k = 12 ∨ k = 13 ∨ k = 14 ∨ k = 15 ∨ k = 16 ∨ k = 17 ∨ k = 18 ∨ k = 19 ∨ k = 20 by omega) with rfl | rfl | rfl | rfl | rfl | rfl | rfl | rfl | rfl | rfl | rfl | rfl | rfl | rfl | rfl | rfl | rfl | rfl | rfl | rfl | rfl <;> first | rfl | (simp only [CE0]; simp [up]; done) | (simp only [CE0]; rw [tI_o (by decide)])
  · first | rfl | simp [FP, up]
  · first | rfl | simp [FR, up]
  · have h2 : ¬ i' = i := by omega
    simp [FW, up, h2]
  · first | rfl | (funext j; simp [tQ, up, show 25 + j ≠ 13 by omega])
  · rw [CE_w h]; simp [FW, up]
theorem cu_w_days {i : Int} {v : Int} (h : 0 ≤ i ∧ i < 60) : va_up (CE G ad σ τ) (69 + i.toNat) (.inr (7, (FW ad σ i).set 7 (.int (iI v)))) = CE G ad (up σ 14 i v) τ := by
  refine CE_ext (fun k hk hne => ?_) (fun i' a1 a2 a3 => ?_) (fun i' a1 a2 a3 => ?_) (fun i' a1 a2 a3 => ?_) (fun i' a1 a2 => ?_) ?_
  · rcases (show k = 0 ∨ k = 1 ∨ k = 2 ∨ k = 3 ∨ k = 4 ∨ k = 5 ∨ k = 6 ∨ k = 7 ∨ k = 8 ∨ k = 9 ∨ k = 10 ∨ k = 11 ∨ k = 12 ∨ k = 13 ∨ k = 14 ∨ k = 15 ∨ k = 16 ∨ k = 17 ∨ k = 18 ∨ k = 19 ∨ k = 20 by omega) with rfl | rfl | rfl | rfl | rfl | rfl | rfl | rfl | rfl | rfl | rfl | rfl | rfl | rfl | rfl | rfl | rfl | rfl | rfl | rfl | rfl <;> first | rfl | (simp only [CE0]; simp [up]; done) | (simp only [CE0]; rw [tI_o (by decide)])
  · first | rfl | simp [FP, up]
  · first | rfl | simp [FR, up]
  · have h2 : ¬ i' = i := by omega
    simp [FW, up, h2]
  · first | rfl | (funext j; simp [tQ, up, show 25 + j ≠ 14 by omega])
  · rw [CE_w h]; simp [FW, up]
theorem cu_w_depth {i : Int} {v : Int} (h : 0 ≤ i ∧ i < 60) : va_up (CE G ad σ τ) (69 + i.toNat) (.inr (7, (FW ad σ i).set 8 (.int (iI v)))) = CE G ad (up σ 15 i v) τ := by
  refine CE_ext (fun k hk hne => ?_) (fun i' a1 a2 a3 => ?_) (fun i' a1 a2 a3 => ?_) (fun i' a1 a2 a3 => ?_) (fun i' a1 a2 => ?_) ?_
  · rcases (show k = 0 ∨ k = 1 ∨ k = 2 ∨ k = 3 ∨ k = 4 ∨ k = 5 ∨ k = 6 ∨ k = 7 ∨ k = 8 ∨ k = 9 ∨ k = 10 ∨ k = 11 ∨ k = 12 ∨ k = 13 ∨ k = 14 ∨ k = 15 ∨ k = 16 ∨ k = 17 ∨ k = 18 ∨ k = 19 ∨ k = 20 by omega) with rfl | rfl | rfl | rfl | rfl | rfl | rfl | rfl | rfl | rfl | rfl | rfl | rfl | rfl | rfl | rfl | rfl | rfl | rfl | rfl | rfl <;> first | rfl | (simp only [CE0]; simp [up]; done) | (simp only [CE0]; rw [tI_o (by decide)])
  · first | rfl | simp [FP, up]
  · first | rfl | simp [FR, up]
  · have h2 : ¬ i' = i := by omega
    simp [FW, up, h2]
  · first | rfl | (funext j; simp [tQ, up, show 25 + j ≠ 15 by omega])
  · rw [CE_w h]; simp [FW, up]
theorem cu_w_wanted {i : Int} {v : Int} (h : 0 ≤ i ∧ i < 60) : va_up (CE G ad σ τ) (69 + i.toNat) (.inr (7, (FW ad σ i).set 9 (.int (iI v)))) = CE G ad (up σ 16 i v) τ := by
  refine CE_ext (fun k hk hne => ?_) (fun i' a1 a2 a3 => ?_) (fun i' a1 a2 a3 => ?_) (fun i' a1 a2 a3 => ?_) (fun i' a1 a2 => ?_) ?_
  · rcases (show k = 0 ∨ k = 1 ∨ k = 2 ∨ k = 3 ∨ k = 4 ∨ k = 5 ∨ k = 6 ∨ k = 7 ∨ k = 8 ∨ k = 9 ∨ k = 10 ∨ k = 11 ∨ k = 12 ∨ k = 13 ∨ k = 14 ∨ k = 15 ∨ k = 16 ∨ k = 17 ∨ k = 18 ∨ k = 19 ∨ k = 20 by omega) with rfl | rfl | rfl | rfl | rfl | rfl | rfl | rfl | rfl | rfl | rfl | rfl | rfl | rfl | rfl | rfl | rfl | rfl | rfl | rfl | rfl <;> first | rfl | (simp only [CE0]; simp [up]; done) | (simp only [CE0]; rw [tI_o (by decide)])
  · first | rfl | simp [FP, up]
  · first | rfl | simp [FR, up]
  · have h2 : ¬ i' = i := by omega
    simp [FW, up, h2]
  · first | rfl | (funext j; simp [tQ, up, show 25 + j ≠ 16 by omega])
  · rw [CE_w h]; simp [FW, up]
theorem cu_w_state {i : Int} {v : Int} (h : 0 ≤ i ∧ i < 60) : va_up (CE G ad σ τ) (69 + i.toNat) (.inr (7, (FW ad σ i).set 10 (.int (iI v)))) = CE G ad (up σ 19 i v) τ := by
  refine CE_ext (fun k hk hne => ?_) (fun i' a1 a2 a3 => ?_) (fun i' a1 a2 a3 => ?_) (fun i' a1 a2 a3 => ?_) (fun i' a1 a2 => ?_) ?_
  · rcases (show k = 0 ∨ k = 1 ∨ k = 2 ∨ k = 3 ∨ k = 4 ∨ k = 5 ∨ k = 6 ∨ k = 7 ∨ k = 8 ∨ k = 9 ∨ k = 10 ∨ k = 11 ∨ k = 12 ∨ k = 13 ∨ k = 14 ∨ k = 15 ∨ k = 16 ∨ k = 17 ∨ k = 18 ∨ k = 19 ∨ k = 20 by omega) with rfl | rfl | rfl | rfl | rfl | rfl | rfl | rfl | rfl | rfl | rfl | rfl | rfl | rfl | rfl | rfl | rfl | rfl | rfl | rfl | rfl <;> first | rfl | (simp only [CE0]; simp [up]; done) | (simp only [CE0]; rw [tI_o (by decide)])
  · first | rfl | simp [FP, up]
  · first | rfl | simp [FR, up]
  · have h2 : ¬ i' = i := by omega
    simp [FW, up, h2]
  · first | rfl | (funext j; simp [tQ, up, show 25 + j ≠ 19 by omega])
  · rw [CE_w h]; simp [FW, up]
theorem cu_w_begin {i : Int} {v : Int} (h : 0 ≤ i ∧ i < 60) : va_up (CE G ad σ τ) (69 + i.toNat) (.inr (7, (FW ad σ i).set 11 (.int (iI v)))) = CE G ad (up σ 20 i v) τ := by
  refine CE_ext (fun k hk hne => ?_) (fun i' a1 a2 a3 => ?_) (fun i' a1 a2 a3 => ?_) (fun i' a1 a2 a3 => ?_) (fun i' a1 a2 => ?_) ?_
  · rcases (show k = 0 ∨ k = 1 ∨ k = 2 ∨ k = 3 ∨ k = 4 ∨ k = 5 ∨ k = 6 ∨ k = 7 ∨ k = 8 ∨ k = 9 ∨ k = 10 ∨ k = 11 ∨ k = 12 ∨ k = 13 ∨ k = 14 ∨ k = 15 ∨ k = 16 ∨ k = 17 ∨ k = 18 ∨ k = 19 ∨ k = 20 by omega) with rfl | rfl | rfl | rfl | rfl | rfl | rfl | rfl | rfl | rfl | rfl | rfl | rfl | rfl | rfl | rfl | rfl | rfl | rfl | rfl | rfl <;> first | rfl | (simp only [CE0]; simp [up]; done) | (simp only [CE0]; rw [tI_o (by decide)])
  · first | rfl | simp [FP, up]
  · first | rfl | simp [FR, up]
  · have h2 : ¬ i' = i := by omega
    simp [FW, up, h2]
  · first | rfl | (funext j; simp [tQ, up, show 25 + j ≠ 20 by omega])
  · rw [CE_w h]; simp [FW, up]
theorem cu_w_last {i : Int} {v : Int} (h : 0 ≤ i ∧ i < 60) : va_up (CE G ad σ τ) (69 + i.toNat) (.inr (7, (FW ad σ i).set 12 (.int (iI v)))) = CE G ad (up σ 21 i v) τ := by
  refine CE_ext (fun k hk hne => ?_) (fun i' a1 a2 a3 => ?_) (fun i' a1 a2 a3 => ?_) (fun i' a1 a2 a3 => ?_) (fun i' a1 a2 => ?_) ?_
  · rcases (show k = 0 ∨ k = 1 ∨ k = 2 ∨ k = 3 ∨ k = 4 ∨ k = 5 ∨ k = 6 ∨ k = 7 ∨ k = 8 ∨ k = 9 ∨ k = 10 ∨ k = 11 ∨ k = 12 ∨ k = 13 ∨ k = 14 ∨ k = 15 ∨ k = 16 ∨ k = 17 ∨ k = 18 ∨ k = 19 ∨ k = 20 by omega) with rfl | rfl | rfl | rfl | rfl | rfl | rfl | rfl | rfl | rfl | rfl | rfl | rfl | rfl | rfl | rfl | rfl | rfl | rfl | rfl | rfl <;> first | rfl | (simp only [CE0]; simp [up]; done) | (simp only [CE0]; rw [tI_o (by decide)])
  · first | rfl | simp [FP, up]
  · first | rfl | simp [FR, up]
  · have h2 : ¬ i' = i := by omega
    simp [FW, up, h2]
  · first | rfl | (funext j; simp [tQ, up, show 25 + j ≠ 21 by omega])
  · rw [CE_w h]; simp [FW, up]
theorem cu_w_over {i : Int} {v : Int} (h : 0 ≤ i ∧ i < 60) : va_up (CE G ad σ τ) (69 + i.toNat) (.inr (7, (FW ad σ i).set 13 (.int (iI v)))) = CE G ad (up σ 22 i v) τ := by
  refine CE_ext (fun k hk hne => ?_) (fun i' a1 a2 a3 => ?_) (fun i' a1 a2 a3 => ?_) (fun i' a1 a2 a3 => ?_) (fun i' a1 a2 => ?_) ?_
  · rcases (show k = 0 ∨ k = 1 ∨ k = 2 ∨ k = 3 ∨ k = 4 ∨ k = 5 ∨ k = 6 ∨ k = 7 ∨ k = 8 ∨ k = 9 ∨ k = 10 ∨ k = 11 ∨ k = 12 ∨ k = 13 ∨ k = 14 ∨ k = 15 ∨ k = 16 ∨ k = 17 ∨ k = 18 ∨ k = 19 ∨ k = 20 by omega) with rfl | rfl | rfl | rfl | rfl | rfl | rfl | rfl | rfl | rfl | rfl | rfl | rfl | rfl | rfl | rfl | rfl | rfl | rfl | rfl | rfl <;> first | rfl | (simp only [CE0]; simp [up]; done) | (simp only [CE0]; rw [tI_o (by decide)])
  · first | rfl | simp [FP, up]
  · first | rfl | simp [FR, up]
  · have h2 : ¬ i' = i := by omega
    simp [FW, up, h2]
  · first | rfl | (funext j; simp [tQ, up, show 25 + j ≠ 22 by omega])
  · rw [CE_w h]; simp [FW, up]
theorem cu_w_partner {i : Int} {v : Int} (h : 0 ≤ i ∧ i < 60) : va_up (CE G ad σ τ) (69 + i.toNat) (.inr (7, (FW ad σ i).set 14 (.int (iI v)))) = CE G ad (up σ 23 i v) τ := by
  refine CE_ext (fun k hk hne => ?_) (fun i' a1 a2 a3 => ?_) (fun i' a1 a2 a3 => ?_) (fun i' a1 a2 a3 => ?_) (fun i' a1 a2 => ?_) ?_
  · rcases (show k = 0 ∨ k = 1 ∨ k = 2 ∨ k = 3 ∨ k = 4 ∨ k = 5 ∨ k = 6 ∨ k = 7 ∨ k = 8 ∨ k = 9 ∨ k = 10 ∨ k = 11 ∨ k = 12 ∨ k = 13 ∨ k = 14 ∨ k = 15 ∨ k = 16 ∨ k = 17 ∨ k = 18 ∨ k = 19 ∨ k = 20 by omega) with rfl | rfl | rfl | rfl | rfl | rfl | rfl | rfl | rfl | rfl | rfl | rfl | rfl | rfl | rfl | rfl | rfl | rfl | rfl | rfl | rfl <;> first | rfl | (simp only [CE0]; simp [up]; done) | (simp only [CE0]; rw [tI_o (by decide)])
  · first | rfl | simp [FP, up]
  · first | rfl | simp [FR, up]
  · have h2 : ¬ i' = i := by omega
    simp [FW, up, h2]
  · first | rfl | (funext j; simp [tQ, up, show 25 + j ≠ 23 by omega])
  · rw [CE_w h]; simp [FW, up]
theorem cu_w_moves {i : Int} {v : Int} (h : 0 ≤ i ∧ i < 60) : va_up (CE G ad σ τ) (69 + i.toNat) (.inr (7, (FW ad σ i).set 15 (.int (iI v)))) = CE G ad (up σ 24 i v) τ := by
  refine CE_ext (fun k hk hne => ?_) (fun i' a1 a2 a3 => ?_) (fun i' a1 a2 a3 => ?_) (fun i' a1 a2 a3 => ?_) (fun i' a1 a2 => ?_) ?_
  · rcases (show k = 0 ∨ k = 1 ∨ k = 2 ∨ k = 3 ∨ k = 4 ∨ k = 5 ∨ k = 6 ∨ k = 7 ∨ k = 8 ∨ k = 9 ∨ k = 10 ∨ k = 11 ∨ k = 12 ∨ k = 13 ∨ k = 14 ∨ k = 15 ∨ k = 16 ∨ k = 17 ∨ k = 18 ∨ k = 19 ∨ k = 20 by omega) with rfl | rfl | rfl | rfl | rfl | rfl | rfl | rfl | rfl | rfl | rfl | rfl | rfl | rfl | rfl | rfl | rfl | rfl | rfl | rfl | rfl <;> first | rfl | (simp only [CE0]; simp [up]; done) | (simp only [CE0]; rw [tI_o (by decide)])
  · first | rfl | simp [FP, up]
  · first | rfl | simp [FR, up]
  · have h2 : ¬ i' = i := by omega
    simp [FW, up, h2]
  · first | rfl | (funext j; simp [tQ, up, show 25 + j ≠ 24 by omega])
  · rw [CE_w h]; simp [FW, up]
theorem cu_w_mask {i : Int} {v : Nat} (h : 0 ≤ i ∧ i < 60) : va_up (CE G ad σ τ) (69 + i.toNat) (.inr (7, (FW ad σ i).set 3 (.long (lN v)))) = CE G ad (up σ 17 i (v : Int)) τ := by
  refine CE_ext (fun k hk hne => ?_) (fun i' a1 a2 a3 => ?_) (fun i' a1 a2 a3 => ?_) (fun i' a1 a2 a3 => ?_) (fun i' a1 a2 => ?_) ?_
  · rcases (show k = 0 ∨ k = 1 ∨ k = 2 ∨ k = 3 ∨ k = 4 ∨ k = 5 ∨ k = 6 ∨ k = 7 ∨ k = 8 ∨ k = 9 ∨ k = 10 ∨ k = 11 ∨ k = 12 ∨ k = 13 ∨ k = 14 ∨ k = 15 ∨ k = 16 ∨ k = 17 ∨ k = 18 ∨ k = 19 ∨ k = 20 by omega) with rfl | rfl | rfl | rfl | rfl | rfl | rfl | rfl | rfl | rfl | rfl | rfl | rfl | rfl | rfl | rfl | rfl | rfl | rfl | rfl | rfl <;> first | rfl | (simp only [CE0]; simp [up]; done) | (simp only [CE0]; rw [tI_o (by decide)])
  · first | rfl | simp [FP, up]
  · first | rfl | simp [FR, up]
  · have h2 : ¬ i' = i := by omega
    simp [FW, up, h2]
  · first | rfl | (funext j; simp [tQ, up, show 25 + j ≠ 17 by omega])
  · rw [CE_w h]; simp [FW, up]
theorem cu_q {i k v : Int} (h : 0 ≤ i ∧ i < 60) (hk : 0 ≤ k ∧ k < 4) : va_up (CE G ad σ τ) (129 + i.toNat) (.inl (G 0, 4, .inl (upd (tQ σ i) k.toNat (iI v)))) = CE G ad (up σ (25 + k.toNat) i v) τ := by
  refine CE_ext (fun k' hk' hne => ?_) (fun i' a1 a2 a3 => ?_) (fun i' a1 a2 a3 => ?_) (fun i' a1 a2 a3 => ?_) (fun i' a1 a2 => ?_) ?_
  · have e1 : tI σ 10 = tI (up σ (25 + k.toNat) i v) 10 := (tI_o (by omega)).symm
    have e2 : ∀ x, σ 0 x = up σ (25 + k.toNat) i v 0 x := fun x => (up_t (by omega)).symm
    unfold CE0
    simp only [e1, e2]
  · have e : ∀ t, t < 25 → σ t i' = up σ (25 + k.toNat) i v t i' := fun t ht => (up_t (by omega)).symm
    show FP _ _ = FP _ _
    unfold FP
    rw [e 1 (by omega), e 2 (by omega), e 3 (by omega), e 4 (by omega), e 5 (by omega), e 6 (by omega)]
  · have e : ∀ t, t < 25 → σ t i' = up σ (25 + k.toNat) i v t i' := fun t ht => (up_t (by omega)).symm
    unfold FR
    rw [e 7 (by omega), e 8 (by omega), e 9 (by omega)]
  · have e : ∀ t, t < 25 → σ t i' = up σ (25 + k.toNat) i v t i' := fun t ht => (up_t (by omega)).symm
    unfold FW
    rw [e 11 (by omega), e 12 (by omega), e 13 (by omega), e 14 (by omega), e 15 (by omega), e 16 (by omega), e 17 (by omega), e 18 (by omega), e 19 (by omega), e 20 (by omega), e 21 (by omega), e 22 (by omega), e 23 (by omega), e 24 (by omega)]
  · have h2 : ¬ i' = i := by omega
    funext j
    simp [tQ, up, h2]
  · rw [CE_q h]
    congr 4
    funext j
    by_cases hj : j = k.toNat
    · subst hj
      simp [tQ, up, upd]
    · simp [tQ, up, upd, hj]
theorem tQ_at {i k : Int} {t : Nat} (h : 0 ≤ k) (ht : 25 + k.toNat = t) : tQ σ i k.toNat = iI (σ t i) := by subst ht; rfl
end ST
abbrev FM (ad : Nat → Nat) (σ τ : Tb) : List Value := [.ref (ad 1), .ref (ad 2), .ref (ad 3), .ref (ad 4), .ref (ad 5), .ref (ad 6), .int (iI (σ 0 0)), .ref (ad 7), .ref (ad 8), .ref (ad 9), .int (iI (σ 0 1)), .ref (ad 10), .int (iI (σ 0 3)), .ref (ad 11), .ref (ad 12), .ref (ad 13), .ref (ad 14), .ref (ad 15), .ref (ad 16), .ref (ad 17), .ref (ad 25), .ref (ad 18), .ref (ad 19), .ref (ad 20), .ref (ad 21), .ref (ad 22), .ref (ad 23), .ref (ad 24), .int (iI (σ 0 2)), .int (iI (τ 0 0)), .int (iI (τ 0 1)), .int (iI (τ 0 5)), .int (iI (τ 0 6)), .ref (ad 26)]
/-- the reference's cells: 0 the object, 1..24 its rows by the shared tables' numbers, 25 firstPiece, 26 far -/
def RE (G : Nat → ClassId) (ad : Nat → Nat) (σ τ : Tb) (k : Nat) : va_E := match k with
  | 0 => .inr (9, FM ad σ τ)
  | 1 => .inl (G 0, 40, .inl (tI σ 1))
  | 2 => .inl (G 0, 40, .inl (tI σ 2))
  | 3 => .inl (G 0, 40, .inl (tI σ 3))
  | 4 => .inl (G 0, 40, .inl (tI σ 4))
  | 5 => .inl (G 0, 40, .inl (tI σ 5))
  | 6 => .inl (G 0, 40, .inl (tI σ 6))
  | 7 => .inl (G 0, 8, .inl (tI σ 7))
  | 8 => .inl (G 0, 8, .inl (tI σ 8))
  | 9 => .inl (G 0, 8, .inl (tI σ 9))
  | 10 => .inl (G 2, 400, .inl (tI σ 10))
  | 11 => .inl (G 0, 60, .inl (tI σ 11))
  | 12 => .inl (G 0, 60, .inl (tI σ 12))
  | 13 => .inl (G 0, 60, .inl (tI σ 13))
  | 14 => .inl (G 0, 60, .inl (tI σ 14))
  | 15 => .inl (G 0, 60, .inl (tI σ 15))
  | 16 => .inl (G 0, 60, .inl (tI σ 16))
  | 17 => .inl (G 1, 60, .inr (.inl (tL σ 17)))
  | 18 => .inl (G 0, 60, .inl (tI σ 18))
  | 19 => .inl (G 0, 60, .inl (tI σ 19))
  | 20 => .inl (G 0, 60, .inl (tD σ 20 (τ 0 2)))
  | 21 => .inl (G 0, 60, .inl (tD σ 21 (τ 0 3)))
  | 22 => .inl (G 0, 60, .inl (tI σ 22))
  | 23 => .inl (G 0, 60, .inl (tD σ 23 (τ 0 4)))
  | 24 => .inl (G 0, 60, .inl (tI σ 24))
  | 25 => .inl (G 0, 60, .inl (tI τ 1))
  | 26 => .inl (G 0, 20, .inl (tI τ 2))
  | _ => .inr (9, [])
section SR
variable {G : Nat → ClassId} {ad : Nat → Nat} {σ τ : Tb}
theorem RE_0 : RE G ad σ τ 0 = .inr (9, FM ad σ τ) := rfl
theorem RE_1 : RE G ad σ τ 1 = .inl (G 0, 40, .inl (tI σ 1)) := rfl
theorem RE_2 : RE G ad σ τ 2 = .inl (G 0, 40, .inl (tI σ 2)) := rfl
theorem RE_3 : RE G ad σ τ 3 = .inl (G 0, 40, .inl (tI σ 3)) := rfl
theorem RE_4 : RE G ad σ τ 4 = .inl (G 0, 40, .inl (tI σ 4)) := rfl
theorem RE_5 : RE G ad σ τ 5 = .inl (G 0, 40, .inl (tI σ 5)) := rfl
theorem RE_6 : RE G ad σ τ 6 = .inl (G 0, 40, .inl (tI σ 6)) := rfl
theorem RE_7 : RE G ad σ τ 7 = .inl (G 0, 8, .inl (tI σ 7)) := rfl
theorem RE_8 : RE G ad σ τ 8 = .inl (G 0, 8, .inl (tI σ 8)) := rfl
theorem RE_9 : RE G ad σ τ 9 = .inl (G 0, 8, .inl (tI σ 9)) := rfl
theorem RE_10 : RE G ad σ τ 10 = .inl (G 2, 400, .inl (tI σ 10)) := rfl
theorem RE_11 : RE G ad σ τ 11 = .inl (G 0, 60, .inl (tI σ 11)) := rfl
theorem RE_12 : RE G ad σ τ 12 = .inl (G 0, 60, .inl (tI σ 12)) := rfl
theorem RE_13 : RE G ad σ τ 13 = .inl (G 0, 60, .inl (tI σ 13)) := rfl
theorem RE_14 : RE G ad σ τ 14 = .inl (G 0, 60, .inl (tI σ 14)) := rfl
theorem RE_15 : RE G ad σ τ 15 = .inl (G 0, 60, .inl (tI σ 15)) := rfl
theorem RE_16 : RE G ad σ τ 16 = .inl (G 0, 60, .inl (tI σ 16)) := rfl
theorem RE_17 : RE G ad σ τ 17 = .inl (G 1, 60, .inr (.inl (tL σ 17))) := rfl
theorem RE_18 : RE G ad σ τ 18 = .inl (G 0, 60, .inl (tI σ 18)) := rfl
theorem RE_19 : RE G ad σ τ 19 = .inl (G 0, 60, .inl (tI σ 19)) := rfl
theorem RE_20 : RE G ad σ τ 20 = .inl (G 0, 60, .inl (tD σ 20 (τ 0 2))) := rfl
theorem RE_21 : RE G ad σ τ 21 = .inl (G 0, 60, .inl (tD σ 21 (τ 0 3))) := rfl
theorem RE_22 : RE G ad σ τ 22 = .inl (G 0, 60, .inl (tI σ 22)) := rfl
theorem RE_23 : RE G ad σ τ 23 = .inl (G 0, 60, .inl (tD σ 23 (τ 0 4))) := rfl
theorem RE_24 : RE G ad σ τ 24 = .inl (G 0, 60, .inl (tI σ 24)) := rfl
theorem RE_25 : RE G ad σ τ 25 = .inl (G 0, 60, .inl (tI τ 1)) := rfl
theorem RE_26 : RE G ad σ τ 26 = .inl (G 0, 20, .inl (tI τ 2)) := rfl
theorem RE_ext {σ' τ' : Tb} {key : Nat} {e : va_E} (hk : key < 27) (h : ∀ k, k < 27 → k ≠ key → RE G ad σ τ k = RE G ad σ' τ' k) (he : RE G ad σ' τ' key = e) : va_up (RE G ad σ τ) key e = RE G ad σ' τ' := by
  funext k
  by_cases hkk : k = key
  · subst hkk
    rw [va_up_self, he]
  · rw [va_up_ne _ _ hkk]
    by_cases h27 : k < 27
    · exact h k h27 hkk
    · obtain ⟨j, rfl⟩ : ∃ j, k = j + 27 := ⟨k - 27, by omega⟩
      rfl
theorem ru_from {z v : Int} (h : 0 ≤ z) : va_up (RE G ad σ τ) 1 (.inl (G 0, 40, .inl (upd (tI σ 1) z.toNat (iI v)))) = RE G ad (up σ 1 z v) τ := by
  refine RE_ext (by decide) (fun k hk hne => ?_) ?_
  · rcases (show k = 0 ∨ k = 1 ∨ k = 2 ∨ k = 3 ∨ k = 4 ∨ k = 5 ∨ k = 6 ∨ k = 7 ∨ k = 8 ∨ k = 9 ∨ k = 10 ∨ k = 11 ∨ k = 12 ∨ k = 13 ∨ k = 14 ∨ k = 15 ∨ k = 16 ∨ k = 17 ∨ k = 18 ∨ k = 19 ∨ k = 20 ∨ k = 21 ∨ k = 22 ∨ k = 23 ∨ k = 24 ∨ k = 25 ∨ k = 26 by omega) with rfl | rfl | rfl | rfl | rfl | rfl | rfl | rfl | rfl | rfl | rfl | rfl | rfl | rfl | rfl | rfl | rfl | rfl | rfl | rfl | rfl | rfl | rfl | rfl | rfl | rfl | rfl <;> first | exact absurd rfl hne | rfl | (simp only [RE]; simp [FM, up]; done) | (simp only [RE]; simp [tD, up]; done) | (simp only [RE]; rw [tI_o (by decide)]) | (simp only [RE]; rw [tL_o (by decide)])
  · rw [RE_1]; rw [tI_up h]
theorem ru_to {z v : Int} (h : 0 ≤ z) : va_up (RE G ad σ τ) 2 (.inl (G 0, 40, .inl (upd (tI σ 2) z.toNat (iI v)))) = RE G ad (up σ 2 z v) τ := by
  refine RE_ext (by decide) (fun k hk hne => ?_) ?_
  · rcases (show k = 0 ∨ k = 1 ∨ k = 2 ∨ k = 3 ∨ k = 4 ∨ k = 5 ∨ k = 6 ∨ k = 7 ∨ k = 8 ∨ k = 9 ∨ k = 10 ∨ k = 11 ∨ k = 12 ∨ k = 13 ∨ k = 14 ∨ k = 15 ∨ k = 16 ∨ k = 17 ∨ k = 18 ∨ k = 19 ∨ k = 20 ∨ k = 21 ∨ k = 22 ∨ k = 23 ∨ k = 24 ∨ k = 25 ∨ k = 26 by omega) with rfl | rfl | rfl | rfl | rfl | rfl | rfl | rfl | rfl | rfl | rfl | rfl | rfl | rfl | rfl | rfl | rfl | rfl | rfl | rfl | rfl | rfl | rfl | rfl | rfl | rfl | rfl <;> first | exact absurd rfl hne | rfl | (simp only [RE]; simp [FM, up]; done) | (simp only [RE]; simp [tD, up]; done) | (simp only [RE]; rw [tI_o (by decide)]) | (simp only [RE]; rw [tL_o (by decide)])
  · rw [RE_2]; rw [tI_up h]
theorem ru_lanes {z v : Int} (h : 0 ≤ z) : va_up (RE G ad σ τ) 3 (.inl (G 0, 40, .inl (upd (tI σ 3) z.toNat (iI v)))) = RE G ad (up σ 3 z v) τ := by
  refine RE_ext (by decide) (fun k hk hne => ?_) ?_
  · rcases (show k = 0 ∨ k = 1 ∨ k = 2 ∨ k = 3 ∨ k = 4 ∨ k = 5 ∨ k = 6 ∨ k = 7 ∨ k = 8 ∨ k = 9 ∨ k = 10 ∨ k = 11 ∨ k = 12 ∨ k = 13 ∨ k = 14 ∨ k = 15 ∨ k = 16 ∨ k = 17 ∨ k = 18 ∨ k = 19 ∨ k = 20 ∨ k = 21 ∨ k = 22 ∨ k = 23 ∨ k = 24 ∨ k = 25 ∨ k = 26 by omega) with rfl | rfl | rfl | rfl | rfl | rfl | rfl | rfl | rfl | rfl | rfl | rfl | rfl | rfl | rfl | rfl | rfl | rfl | rfl | rfl | rfl | rfl | rfl | rfl | rfl | rfl | rfl <;> first | exact absurd rfl hne | rfl | (simp only [RE]; simp [FM, up]; done) | (simp only [RE]; simp [tD, up]; done) | (simp only [RE]; rw [tI_o (by decide)]) | (simp only [RE]; rw [tL_o (by decide)])
  · rw [RE_3]; rw [tI_up h]
theorem ru_rank {z v : Int} (h : 0 ≤ z) : va_up (RE G ad σ τ) 4 (.inl (G 0, 40, .inl (upd (tI σ 4) z.toNat (iI v)))) = RE G ad (up σ 4 z v) τ := by
  refine RE_ext (by decide) (fun k hk hne => ?_) ?_
  · rcases (show k = 0 ∨ k = 1 ∨ k = 2 ∨ k = 3 ∨ k = 4 ∨ k = 5 ∨ k = 6 ∨ k = 7 ∨ k = 8 ∨ k = 9 ∨ k = 10 ∨ k = 11 ∨ k = 12 ∨ k = 13 ∨ k = 14 ∨ k = 15 ∨ k = 16 ∨ k = 17 ∨ k = 18 ∨ k = 19 ∨ k = 20 ∨ k = 21 ∨ k = 22 ∨ k = 23 ∨ k = 24 ∨ k = 25 ∨ k = 26 by omega) with rfl | rfl | rfl | rfl | rfl | rfl | rfl | rfl | rfl | rfl | rfl | rfl | rfl | rfl | rfl | rfl | rfl | rfl | rfl | rfl | rfl | rfl | rfl | rfl | rfl | rfl | rfl <;> first | exact absurd rfl hne | rfl | (simp only [RE]; simp [FM, up]; done) | (simp only [RE]; simp [tD, up]; done) | (simp only [RE]; rw [tI_o (by decide)]) | (simp only [RE]; rw [tL_o (by decide)])
  · rw [RE_4]; rw [tI_up h]
theorem ru_minutes {z v : Int} (h : 0 ≤ z) : va_up (RE G ad σ τ) 5 (.inl (G 0, 40, .inl (upd (tI σ 5) z.toNat (iI v)))) = RE G ad (up σ 5 z v) τ := by
  refine RE_ext (by decide) (fun k hk hne => ?_) ?_
  · rcases (show k = 0 ∨ k = 1 ∨ k = 2 ∨ k = 3 ∨ k = 4 ∨ k = 5 ∨ k = 6 ∨ k = 7 ∨ k = 8 ∨ k = 9 ∨ k = 10 ∨ k = 11 ∨ k = 12 ∨ k = 13 ∨ k = 14 ∨ k = 15 ∨ k = 16 ∨ k = 17 ∨ k = 18 ∨ k = 19 ∨ k = 20 ∨ k = 21 ∨ k = 22 ∨ k = 23 ∨ k = 24 ∨ k = 25 ∨ k = 26 by omega) with rfl | rfl | rfl | rfl | rfl | rfl | rfl | rfl | rfl | rfl | rfl | rfl | rfl | rfl | rfl | rfl | rfl | rfl | rfl | rfl | rfl | rfl | rfl | rfl | rfl | rfl | rfl <;> first | exact absurd rfl hne | rfl | (simp only [RE]; simp [FM, up]; done) | (simp only [RE]; simp [tD, up]; done) | (simp only [RE]; rw [tI_o (by decide)]) | (simp only [RE]; rw [tL_o (by decide)])
  · rw [RE_5]; rw [tI_up h]
theorem ru_rest {z v : Int} (h : 0 ≤ z) : va_up (RE G ad σ τ) 6 (.inl (G 0, 40, .inl (upd (tI σ 6) z.toNat (iI v)))) = RE G ad (up σ 6 z v) τ := by
  refine RE_ext (by decide) (fun k hk hne => ?_) ?_
  · rcases (show k = 0 ∨ k = 1 ∨ k = 2 ∨ k = 3 ∨ k = 4 ∨ k = 5 ∨ k = 6 ∨ k = 7 ∨ k = 8 ∨ k = 9 ∨ k = 10 ∨ k = 11 ∨ k = 12 ∨ k = 13 ∨ k = 14 ∨ k = 15 ∨ k = 16 ∨ k = 17 ∨ k = 18 ∨ k = 19 ∨ k = 20 ∨ k = 21 ∨ k = 22 ∨ k = 23 ∨ k = 24 ∨ k = 25 ∨ k = 26 by omega) with rfl | rfl | rfl | rfl | rfl | rfl | rfl | rfl | rfl | rfl | rfl | rfl | rfl | rfl | rfl | rfl | rfl | rfl | rfl | rfl | rfl | rfl | rfl | rfl | rfl | rfl | rfl <;> first | exact absurd rfl hne | rfl | (simp only [RE]; simp [FM, up]; done) | (simp only [RE]; simp [tD, up]; done) | (simp only [RE]; rw [tI_o (by decide)]) | (simp only [RE]; rw [tL_o (by decide)])
  · rw [RE_6]; rw [tI_up h]
theorem ru_pieces {v : Int} : va_up (RE G ad σ τ) 0 (.inr (9, (FM ad σ τ).set 6 (.int (iI v)))) = RE G ad (up σ 0 0 v) τ := by
  refine RE_ext (by decide) (fun k hk hne => ?_) ?_
  · rcases (show k = 0 ∨ k = 1 ∨ k = 2 ∨ k = 3 ∨ k = 4 ∨ k = 5 ∨ k = 6 ∨ k = 7 ∨ k = 8 ∨ k = 9 ∨ k = 10 ∨ k = 11 ∨ k = 12 ∨ k = 13 ∨ k = 14 ∨ k = 15 ∨ k = 16 ∨ k = 17 ∨ k = 18 ∨ k = 19 ∨ k = 20 ∨ k = 21 ∨ k = 22 ∨ k = 23 ∨ k = 24 ∨ k = 25 ∨ k = 26 by omega) with rfl | rfl | rfl | rfl | rfl | rfl | rfl | rfl | rfl | rfl | rfl | rfl | rfl | rfl | rfl | rfl | rfl | rfl | rfl | rfl | rfl | rfl | rfl | rfl | rfl | rfl | rfl <;> first | exact absurd rfl hne | rfl | (simp only [RE]; simp [FM, up]; done) | (simp only [RE]; simp [tD, up]; done) | (simp only [RE]; rw [tI_o (by decide)]) | (simp only [RE]; rw [tL_o (by decide)])
  · rw [RE_0]; simp [FM, up]
theorem ru_pairA {z v : Int} (h : 0 ≤ z) : va_up (RE G ad σ τ) 7 (.inl (G 0, 8, .inl (upd (tI σ 7) z.toNat (iI v)))) = RE G ad (up σ 7 z v) τ := by
  refine RE_ext (by decide) (fun k hk hne => ?_) ?_
  · rcases (show k = 0 ∨ k = 1 ∨ k = 2 ∨ k = 3 ∨ k = 4 ∨ k = 5 ∨ k = 6 ∨ k = 7 ∨ k = 8 ∨ k = 9 ∨ k = 10 ∨ k = 11 ∨ k = 12 ∨ k = 13 ∨ k = 14 ∨ k = 15 ∨ k = 16 ∨ k = 17 ∨ k = 18 ∨ k = 19 ∨ k = 20 ∨ k = 21 ∨ k = 22 ∨ k = 23 ∨ k = 24 ∨ k = 25 ∨ k = 26 by omega) with rfl | rfl | rfl | rfl | rfl | rfl | rfl | rfl | rfl | rfl | rfl | rfl | rfl | rfl | rfl | rfl | rfl | rfl | rfl | rfl | rfl | rfl | rfl | rfl | rfl | rfl | rfl <;> first | exact absurd rfl hne | rfl | (simp only [RE]; simp [FM, up]; done) | (simp only [RE]; simp [tD, up]; done) | (simp only [RE]; rw [tI_o (by decide)]) | (simp only [RE]; rw [tL_o (by decide)])
  · rw [RE_7]; rw [tI_up h]
theorem ru_pairB {z v : Int} (h : 0 ≤ z) : va_up (RE G ad σ τ) 8 (.inl (G 0, 8, .inl (upd (tI σ 8) z.toNat (iI v)))) = RE G ad (up σ 8 z v) τ := by
  refine RE_ext (by decide) (fun k hk hne => ?_) ?_
  · rcases (show k = 0 ∨ k = 1 ∨ k = 2 ∨ k = 3 ∨ k = 4 ∨ k = 5 ∨ k = 6 ∨ k = 7 ∨ k = 8 ∨ k = 9 ∨ k = 10 ∨ k = 11 ∨ k = 12 ∨ k = 13 ∨ k = 14 ∨ k = 15 ∨ k = 16 ∨ k = 17 ∨ k = 18 ∨ k = 19 ∨ k = 20 ∨ k = 21 ∨ k = 22 ∨ k = 23 ∨ k = 24 ∨ k = 25 ∨ k = 26 by omega) with rfl | rfl | rfl | rfl | rfl | rfl | rfl | rfl | rfl | rfl | rfl | rfl | rfl | rfl | rfl | rfl | rfl | rfl | rfl | rfl | rfl | rfl | rfl | rfl | rfl | rfl | rfl <;> first | exact absurd rfl hne | rfl | (simp only [RE]; simp [FM, up]; done) | (simp only [RE]; simp [tD, up]; done) | (simp only [RE]; rw [tI_o (by decide)]) | (simp only [RE]; rw [tL_o (by decide)])
  · rw [RE_8]; rw [tI_up h]
theorem ru_limit {z v : Int} (h : 0 ≤ z) : va_up (RE G ad σ τ) 9 (.inl (G 0, 8, .inl (upd (tI σ 9) z.toNat (iI v)))) = RE G ad (up σ 9 z v) τ := by
  refine RE_ext (by decide) (fun k hk hne => ?_) ?_
  · rcases (show k = 0 ∨ k = 1 ∨ k = 2 ∨ k = 3 ∨ k = 4 ∨ k = 5 ∨ k = 6 ∨ k = 7 ∨ k = 8 ∨ k = 9 ∨ k = 10 ∨ k = 11 ∨ k = 12 ∨ k = 13 ∨ k = 14 ∨ k = 15 ∨ k = 16 ∨ k = 17 ∨ k = 18 ∨ k = 19 ∨ k = 20 ∨ k = 21 ∨ k = 22 ∨ k = 23 ∨ k = 24 ∨ k = 25 ∨ k = 26 by omega) with rfl | rfl | rfl | rfl | rfl | rfl | rfl | rfl | rfl | rfl | rfl | rfl | rfl | rfl | rfl | rfl | rfl | rfl | rfl | rfl | rfl | rfl | rfl | rfl | rfl | rfl | rfl <;> first | exact absurd rfl hne | rfl | (simp only [RE]; simp [FM, up]; done) | (simp only [RE]; simp [tD, up]; done) | (simp only [RE]; rw [tI_o (by decide)]) | (simp only [RE]; rw [tL_o (by decide)])
  · rw [RE_9]; rw [tI_up h]
theorem ru_pairs {v : Int} : va_up (RE G ad σ τ) 0 (.inr (9, (FM ad σ τ).set 10 (.int (iI v)))) = RE G ad (up σ 0 1 v) τ := by
  refine RE_ext (by decide) (fun k hk hne => ?_) ?_
  · rcases (show k = 0 ∨ k = 1 ∨ k = 2 ∨ k = 3 ∨ k = 4 ∨ k = 5 ∨ k = 6 ∨ k = 7 ∨ k = 8 ∨ k = 9 ∨ k = 10 ∨ k = 11 ∨ k = 12 ∨ k = 13 ∨ k = 14 ∨ k = 15 ∨ k = 16 ∨ k = 17 ∨ k = 18 ∨ k = 19 ∨ k = 20 ∨ k = 21 ∨ k = 22 ∨ k = 23 ∨ k = 24 ∨ k = 25 ∨ k = 26 by omega) with rfl | rfl | rfl | rfl | rfl | rfl | rfl | rfl | rfl | rfl | rfl | rfl | rfl | rfl | rfl | rfl | rfl | rfl | rfl | rfl | rfl | rfl | rfl | rfl | rfl | rfl | rfl <;> first | exact absurd rfl hne | rfl | (simp only [RE]; simp [FM, up]; done) | (simp only [RE]; simp [tD, up]; done) | (simp only [RE]; rw [tI_o (by decide)]) | (simp only [RE]; rw [tL_o (by decide)])
  · rw [RE_0]; simp [FM, up]
theorem ru_feast {z v : Int} (h : 0 ≤ z) : va_up (RE G ad σ τ) 10 (.inl (G 2, 400, .inl (upd (tI σ 10) z.toNat (iI v)))) = RE G ad (up σ 10 z v) τ := by
  refine RE_ext (by decide) (fun k hk hne => ?_) ?_
  · rcases (show k = 0 ∨ k = 1 ∨ k = 2 ∨ k = 3 ∨ k = 4 ∨ k = 5 ∨ k = 6 ∨ k = 7 ∨ k = 8 ∨ k = 9 ∨ k = 10 ∨ k = 11 ∨ k = 12 ∨ k = 13 ∨ k = 14 ∨ k = 15 ∨ k = 16 ∨ k = 17 ∨ k = 18 ∨ k = 19 ∨ k = 20 ∨ k = 21 ∨ k = 22 ∨ k = 23 ∨ k = 24 ∨ k = 25 ∨ k = 26 by omega) with rfl | rfl | rfl | rfl | rfl | rfl | rfl | rfl | rfl | rfl | rfl | rfl | rfl | rfl | rfl | rfl | rfl | rfl | rfl | rfl | rfl | rfl | rfl | rfl | rfl | rfl | rfl <;> first | exact absurd rfl hne | rfl | (simp only [RE]; simp [FM, up]; done) | (simp only [RE]; simp [tD, up]; done) | (simp only [RE]; rw [tI_o (by decide)]) | (simp only [RE]; rw [tL_o (by decide)])
  · rw [RE_10]; rw [tI_up h]
theorem ru_today {v : Int} : va_up (RE G ad σ τ) 0 (.inr (9, (FM ad σ τ).set 12 (.int (iI v)))) = RE G ad (up σ 0 3 v) τ := by
  refine RE_ext (by decide) (fun k hk hne => ?_) ?_
  · rcases (show k = 0 ∨ k = 1 ∨ k = 2 ∨ k = 3 ∨ k = 4 ∨ k = 5 ∨ k = 6 ∨ k = 7 ∨ k = 8 ∨ k = 9 ∨ k = 10 ∨ k = 11 ∨ k = 12 ∨ k = 13 ∨ k = 14 ∨ k = 15 ∨ k = 16 ∨ k = 17 ∨ k = 18 ∨ k = 19 ∨ k = 20 ∨ k = 21 ∨ k = 22 ∨ k = 23 ∨ k = 24 ∨ k = 25 ∨ k = 26 by omega) with rfl | rfl | rfl | rfl | rfl | rfl | rfl | rfl | rfl | rfl | rfl | rfl | rfl | rfl | rfl | rfl | rfl | rfl | rfl | rfl | rfl | rfl | rfl | rfl | rfl | rfl | rfl <;> first | exact absurd rfl hne | rfl | (simp only [RE]; simp [FM, up]; done) | (simp only [RE]; simp [tD, up]; done) | (simp only [RE]; rw [tI_o (by decide)]) | (simp only [RE]; rw [tL_o (by decide)])
  · rw [RE_0]; simp [FM, up]
theorem ru_house {z v : Int} (h : 0 ≤ z) : va_up (RE G ad σ τ) 11 (.inl (G 0, 60, .inl (upd (tI σ 11) z.toNat (iI v)))) = RE G ad (up σ 11 z v) τ := by
  refine RE_ext (by decide) (fun k hk hne => ?_) ?_
  · rcases (show k = 0 ∨ k = 1 ∨ k = 2 ∨ k = 3 ∨ k = 4 ∨ k = 5 ∨ k = 6 ∨ k = 7 ∨ k = 8 ∨ k = 9 ∨ k = 10 ∨ k = 11 ∨ k = 12 ∨ k = 13 ∨ k = 14 ∨ k = 15 ∨ k = 16 ∨ k = 17 ∨ k = 18 ∨ k = 19 ∨ k = 20 ∨ k = 21 ∨ k = 22 ∨ k = 23 ∨ k = 24 ∨ k = 25 ∨ k = 26 by omega) with rfl | rfl | rfl | rfl | rfl | rfl | rfl | rfl | rfl | rfl | rfl | rfl | rfl | rfl | rfl | rfl | rfl | rfl | rfl | rfl | rfl | rfl | rfl | rfl | rfl | rfl | rfl <;> first | exact absurd rfl hne | rfl | (simp only [RE]; simp [FM, up]; done) | (simp only [RE]; simp [tD, up]; done) | (simp only [RE]; rw [tI_o (by decide)]) | (simp only [RE]; rw [tL_o (by decide)])
  · rw [RE_11]; rw [tI_up h]
theorem ru_sort {z v : Int} (h : 0 ≤ z) : va_up (RE G ad σ τ) 12 (.inl (G 0, 60, .inl (upd (tI σ 12) z.toNat (iI v)))) = RE G ad (up σ 12 z v) τ := by
  refine RE_ext (by decide) (fun k hk hne => ?_) ?_
  · rcases (show k = 0 ∨ k = 1 ∨ k = 2 ∨ k = 3 ∨ k = 4 ∨ k = 5 ∨ k = 6 ∨ k = 7 ∨ k = 8 ∨ k = 9 ∨ k = 10 ∨ k = 11 ∨ k = 12 ∨ k = 13 ∨ k = 14 ∨ k = 15 ∨ k = 16 ∨ k = 17 ∨ k = 18 ∨ k = 19 ∨ k = 20 ∨ k = 21 ∨ k = 22 ∨ k = 23 ∨ k = 24 ∨ k = 25 ∨ k = 26 by omega) with rfl | rfl | rfl | rfl | rfl | rfl | rfl | rfl | rfl | rfl | rfl | rfl | rfl | rfl | rfl | rfl | rfl | rfl | rfl | rfl | rfl | rfl | rfl | rfl | rfl | rfl | rfl <;> first | exact absurd rfl hne | rfl | (simp only [RE]; simp [FM, up]; done) | (simp only [RE]; simp [tD, up]; done) | (simp only [RE]; rw [tI_o (by decide)]) | (simp only [RE]; rw [tL_o (by decide)])
  · rw [RE_12]; rw [tI_up h]
theorem ru_takes {z v : Int} (h : 0 ≤ z) : va_up (RE G ad σ τ) 13 (.inl (G 0, 60, .inl (upd (tI σ 13) z.toNat (iI v)))) = RE G ad (up σ 13 z v) τ := by
  refine RE_ext (by decide) (fun k hk hne => ?_) ?_
  · rcases (show k = 0 ∨ k = 1 ∨ k = 2 ∨ k = 3 ∨ k = 4 ∨ k = 5 ∨ k = 6 ∨ k = 7 ∨ k = 8 ∨ k = 9 ∨ k = 10 ∨ k = 11 ∨ k = 12 ∨ k = 13 ∨ k = 14 ∨ k = 15 ∨ k = 16 ∨ k = 17 ∨ k = 18 ∨ k = 19 ∨ k = 20 ∨ k = 21 ∨ k = 22 ∨ k = 23 ∨ k = 24 ∨ k = 25 ∨ k = 26 by omega) with rfl | rfl | rfl | rfl | rfl | rfl | rfl | rfl | rfl | rfl | rfl | rfl | rfl | rfl | rfl | rfl | rfl | rfl | rfl | rfl | rfl | rfl | rfl | rfl | rfl | rfl | rfl <;> first | exact absurd rfl hne | rfl | (simp only [RE]; simp [FM, up]; done) | (simp only [RE]; simp [tD, up]; done) | (simp only [RE]; rw [tI_o (by decide)]) | (simp only [RE]; rw [tL_o (by decide)])
  · rw [RE_13]; rw [tI_up h]
theorem ru_days {z v : Int} (h : 0 ≤ z) : va_up (RE G ad σ τ) 14 (.inl (G 0, 60, .inl (upd (tI σ 14) z.toNat (iI v)))) = RE G ad (up σ 14 z v) τ := by
  refine RE_ext (by decide) (fun k hk hne => ?_) ?_
  · rcases (show k = 0 ∨ k = 1 ∨ k = 2 ∨ k = 3 ∨ k = 4 ∨ k = 5 ∨ k = 6 ∨ k = 7 ∨ k = 8 ∨ k = 9 ∨ k = 10 ∨ k = 11 ∨ k = 12 ∨ k = 13 ∨ k = 14 ∨ k = 15 ∨ k = 16 ∨ k = 17 ∨ k = 18 ∨ k = 19 ∨ k = 20 ∨ k = 21 ∨ k = 22 ∨ k = 23 ∨ k = 24 ∨ k = 25 ∨ k = 26 by omega) with rfl | rfl | rfl | rfl | rfl | rfl | rfl | rfl | rfl | rfl | rfl | rfl | rfl | rfl | rfl | rfl | rfl | rfl | rfl | rfl | rfl | rfl | rfl | rfl | rfl | rfl | rfl <;> first | exact absurd rfl hne | rfl | (simp only [RE]; simp [FM, up]; done) | (simp only [RE]; simp [tD, up]; done) | (simp only [RE]; rw [tI_o (by decide)]) | (simp only [RE]; rw [tL_o (by decide)])
  · rw [RE_14]; rw [tI_up h]
theorem ru_depth {z v : Int} (h : 0 ≤ z) : va_up (RE G ad σ τ) 15 (.inl (G 0, 60, .inl (upd (tI σ 15) z.toNat (iI v)))) = RE G ad (up σ 15 z v) τ := by
  refine RE_ext (by decide) (fun k hk hne => ?_) ?_
  · rcases (show k = 0 ∨ k = 1 ∨ k = 2 ∨ k = 3 ∨ k = 4 ∨ k = 5 ∨ k = 6 ∨ k = 7 ∨ k = 8 ∨ k = 9 ∨ k = 10 ∨ k = 11 ∨ k = 12 ∨ k = 13 ∨ k = 14 ∨ k = 15 ∨ k = 16 ∨ k = 17 ∨ k = 18 ∨ k = 19 ∨ k = 20 ∨ k = 21 ∨ k = 22 ∨ k = 23 ∨ k = 24 ∨ k = 25 ∨ k = 26 by omega) with rfl | rfl | rfl | rfl | rfl | rfl | rfl | rfl | rfl | rfl | rfl | rfl | rfl | rfl | rfl | rfl | rfl | rfl | rfl | rfl | rfl | rfl | rfl | rfl | rfl | rfl | rfl <;> first | exact absurd rfl hne | rfl | (simp only [RE]; simp [FM, up]; done) | (simp only [RE]; simp [tD, up]; done) | (simp only [RE]; rw [tI_o (by decide)]) | (simp only [RE]; rw [tL_o (by decide)])
  · rw [RE_15]; rw [tI_up h]
theorem ru_wanted {z v : Int} (h : 0 ≤ z) : va_up (RE G ad σ τ) 16 (.inl (G 0, 60, .inl (upd (tI σ 16) z.toNat (iI v)))) = RE G ad (up σ 16 z v) τ := by
  refine RE_ext (by decide) (fun k hk hne => ?_) ?_
  · rcases (show k = 0 ∨ k = 1 ∨ k = 2 ∨ k = 3 ∨ k = 4 ∨ k = 5 ∨ k = 6 ∨ k = 7 ∨ k = 8 ∨ k = 9 ∨ k = 10 ∨ k = 11 ∨ k = 12 ∨ k = 13 ∨ k = 14 ∨ k = 15 ∨ k = 16 ∨ k = 17 ∨ k = 18 ∨ k = 19 ∨ k = 20 ∨ k = 21 ∨ k = 22 ∨ k = 23 ∨ k = 24 ∨ k = 25 ∨ k = 26 by omega) with rfl | rfl | rfl | rfl | rfl | rfl | rfl | rfl | rfl | rfl | rfl | rfl | rfl | rfl | rfl | rfl | rfl | rfl | rfl | rfl | rfl | rfl | rfl | rfl | rfl | rfl | rfl <;> first | exact absurd rfl hne | rfl | (simp only [RE]; simp [FM, up]; done) | (simp only [RE]; simp [tD, up]; done) | (simp only [RE]; rw [tI_o (by decide)]) | (simp only [RE]; rw [tL_o (by decide)])
  · rw [RE_16]; rw [tI_up h]
theorem ru_on {z : Int} {v : Nat} (h : 0 ≤ z) : va_up (RE G ad σ τ) 17 (.inl (G 1, 60, .inr (.inl (vp_updL (tL σ 17) z.toNat (lN v))))) = RE G ad (up σ 17 z (v : Int)) τ := by
  refine RE_ext (by decide) (fun k hk hne => ?_) ?_
  · rcases (show k = 0 ∨ k = 1 ∨ k = 2 ∨ k = 3 ∨ k = 4 ∨ k = 5 ∨ k = 6 ∨ k = 7 ∨ k = 8 ∨ k = 9 ∨ k = 10 ∨ k = 11 ∨ k = 12 ∨ k = 13 ∨ k = 14 ∨ k = 15 ∨ k = 16 ∨ k = 17 ∨ k = 18 ∨ k = 19 ∨ k = 20 ∨ k = 21 ∨ k = 22 ∨ k = 23 ∨ k = 24 ∨ k = 25 ∨ k = 26 by omega) with rfl | rfl | rfl | rfl | rfl | rfl | rfl | rfl | rfl | rfl | rfl | rfl | rfl | rfl | rfl | rfl | rfl | rfl | rfl | rfl | rfl | rfl | rfl | rfl | rfl | rfl | rfl <;> first | exact absurd rfl hne | rfl | (simp only [RE]; simp [FM, up]; done) | (simp only [RE]; simp [tD, up]; done) | (simp only [RE]; rw [tI_o (by decide)]) | (simp only [RE]; rw [tL_o (by decide)])
  · rw [RE_17]; rw [tL_up h]
theorem ru_firstPiece {z v : Int} (h : 0 ≤ z) : va_up (RE G ad σ τ) 25 (.inl (G 0, 60, .inl (upd (tI τ 1) z.toNat (iI v)))) = RE G ad σ (up τ 1 z v) := by
  refine RE_ext (by decide) (fun k hk hne => ?_) ?_
  · rcases (show k = 0 ∨ k = 1 ∨ k = 2 ∨ k = 3 ∨ k = 4 ∨ k = 5 ∨ k = 6 ∨ k = 7 ∨ k = 8 ∨ k = 9 ∨ k = 10 ∨ k = 11 ∨ k = 12 ∨ k = 13 ∨ k = 14 ∨ k = 15 ∨ k = 16 ∨ k = 17 ∨ k = 18 ∨ k = 19 ∨ k = 20 ∨ k = 21 ∨ k = 22 ∨ k = 23 ∨ k = 24 ∨ k = 25 ∨ k = 26 by omega) with rfl | rfl | rfl | rfl | rfl | rfl | rfl | rfl | rfl | rfl | rfl | rfl | rfl | rfl | rfl | rfl | rfl | rfl | rfl | rfl | rfl | rfl | rfl | rfl | rfl | rfl | rfl <;> first | exact absurd rfl hne | rfl | (simp only [RE]; simp [FM, up]; done) | (simp only [RE]; simp [tD, up]; done) | (simp only [RE]; rw [tI_o (by decide)]) | (simp only [RE]; rw [tL_o (by decide)])
  · rw [RE_25]; rw [tI_up h]
theorem ru_pieceMany {z v : Int} (h : 0 ≤ z) : va_up (RE G ad σ τ) 18 (.inl (G 0, 60, .inl (upd (tI σ 18) z.toNat (iI v)))) = RE G ad (up σ 18 z v) τ := by
  refine RE_ext (by decide) (fun k hk hne => ?_) ?_
  · rcases (show k = 0 ∨ k = 1 ∨ k = 2 ∨ k = 3 ∨ k = 4 ∨ k = 5 ∨ k = 6 ∨ k = 7 ∨ k = 8 ∨ k = 9 ∨ k = 10 ∨ k = 11 ∨ k = 12 ∨ k = 13 ∨ k = 14 ∨ k = 15 ∨ k = 16 ∨ k = 17 ∨ k = 18 ∨ k = 19 ∨ k = 20 ∨ k = 21 ∨ k = 22 ∨ k = 23 ∨ k = 24 ∨ k = 25 ∨ k = 26 by omega) with rfl | rfl | rfl | rfl | rfl | rfl | rfl | rfl | rfl | rfl | rfl | rfl | rfl | rfl | rfl | rfl | rfl | rfl | rfl | rfl | rfl | rfl | rfl | rfl | rfl | rfl | rfl <;> first | exact absurd rfl hne | rfl | (simp only [RE]; simp [FM, up]; done) | (simp only [RE]; simp [tD, up]; done) | (simp only [RE]; rw [tI_o (by decide)]) | (simp only [RE]; rw [tL_o (by decide)])
  · rw [RE_18]; rw [tI_up h]
theorem ru_state {z v : Int} (h : 0 ≤ z) : va_up (RE G ad σ τ) 19 (.inl (G 0, 60, .inl (upd (tI σ 19) z.toNat (iI v)))) = RE G ad (up σ 19 z v) τ := by
  refine RE_ext (by decide) (fun k hk hne => ?_) ?_
  · rcases (show k = 0 ∨ k = 1 ∨ k = 2 ∨ k = 3 ∨ k = 4 ∨ k = 5 ∨ k = 6 ∨ k = 7 ∨ k = 8 ∨ k = 9 ∨ k = 10 ∨ k = 11 ∨ k = 12 ∨ k = 13 ∨ k = 14 ∨ k = 15 ∨ k = 16 ∨ k = 17 ∨ k = 18 ∨ k = 19 ∨ k = 20 ∨ k = 21 ∨ k = 22 ∨ k = 23 ∨ k = 24 ∨ k = 25 ∨ k = 26 by omega) with rfl | rfl | rfl | rfl | rfl | rfl | rfl | rfl | rfl | rfl | rfl | rfl | rfl | rfl | rfl | rfl | rfl | rfl | rfl | rfl | rfl | rfl | rfl | rfl | rfl | rfl | rfl <;> first | exact absurd rfl hne | rfl | (simp only [RE]; simp [FM, up]; done) | (simp only [RE]; simp [tD, up]; done) | (simp only [RE]; rw [tI_o (by decide)]) | (simp only [RE]; rw [tL_o (by decide)])
  · rw [RE_19]; rw [tI_up h]
theorem ru_begins {z v : Int} (h : 0 ≤ z) (h2 : z < τ 0 2) : va_up (RE G ad σ τ) 20 (.inl (G 0, 60, .inl (upd (tD σ 20 (τ 0 2)) z.toNat (iI v)))) = RE G ad (up σ 20 z v) τ := by
  refine RE_ext (by decide) (fun k hk hne => ?_) ?_
  · rcases (show k = 0 ∨ k = 1 ∨ k = 2 ∨ k = 3 ∨ k = 4 ∨ k = 5 ∨ k = 6 ∨ k = 7 ∨ k = 8 ∨ k = 9 ∨ k = 10 ∨ k = 11 ∨ k = 12 ∨ k = 13 ∨ k = 14 ∨ k = 15 ∨ k = 16 ∨ k = 17 ∨ k = 18 ∨ k = 19 ∨ k = 20 ∨ k = 21 ∨ k = 22 ∨ k = 23 ∨ k = 24 ∨ k = 25 ∨ k = 26 by omega) with rfl | rfl | rfl | rfl | rfl | rfl | rfl | rfl | rfl | rfl | rfl | rfl | rfl | rfl | rfl | rfl | rfl | rfl | rfl | rfl | rfl | rfl | rfl | rfl | rfl | rfl | rfl <;> first | exact absurd rfl hne | rfl | (simp only [RE]; simp [FM, up]; done) | (simp only [RE]; simp [tD, up]; done) | (simp only [RE]; rw [tI_o (by decide)]) | (simp only [RE]; rw [tL_o (by decide)])
  · rw [RE_20]; rw [tD_up h h2]
theorem rn_begins {z v : Int} (h : 0 ≤ z) (h2 : z = τ 0 2) (h3 : σ 20 z = v) : va_up (RE G ad σ τ) 20 (.inl (G 0, 60, .inl (upd (tD σ 20 (τ 0 2)) z.toNat (iI v)))) = RE G ad σ (up τ 0 2 (z + 1)) := by
  refine RE_ext (by decide) (fun k hk hne => ?_) ?_
  · rcases (show k = 0 ∨ k = 1 ∨ k = 2 ∨ k = 3 ∨ k = 4 ∨ k = 5 ∨ k = 6 ∨ k = 7 ∨ k = 8 ∨ k = 9 ∨ k = 10 ∨ k = 11 ∨ k = 12 ∨ k = 13 ∨ k = 14 ∨ k = 15 ∨ k = 16 ∨ k = 17 ∨ k = 18 ∨ k = 19 ∨ k = 20 ∨ k = 21 ∨ k = 22 ∨ k = 23 ∨ k = 24 ∨ k = 25 ∨ k = 26 by omega) with rfl | rfl | rfl | rfl | rfl | rfl | rfl | rfl | rfl | rfl | rfl | rfl | rfl | rfl | rfl | rfl | rfl | rfl | rfl | rfl | rfl | rfl | rfl | rfl | rfl | rfl | rfl <;> first | exact absurd rfl hne | rfl | (simp only [RE]; simp [FM, up]; done) | (simp only [RE]; simp [tD, up]; done) | (simp only [RE]; rw [tI_o (by decide)]) | (simp only [RE]; rw [tL_o (by decide)])
  · rw [RE_20]; rw [tD_new h h2 h3, up_self]
theorem ru_ends {z v : Int} (h : 0 ≤ z) (h2 : z < τ 0 3) : va_up (RE G ad σ τ) 21 (.inl (G 0, 60, .inl (upd (tD σ 21 (τ 0 3)) z.toNat (iI v)))) = RE G ad (up σ 21 z v) τ := by
  refine RE_ext (by decide) (fun k hk hne => ?_) ?_
  · rcases (show k = 0 ∨ k = 1 ∨ k = 2 ∨ k = 3 ∨ k = 4 ∨ k = 5 ∨ k = 6 ∨ k = 7 ∨ k = 8 ∨ k = 9 ∨ k = 10 ∨ k = 11 ∨ k = 12 ∨ k = 13 ∨ k = 14 ∨ k = 15 ∨ k = 16 ∨ k = 17 ∨ k = 18 ∨ k = 19 ∨ k = 20 ∨ k = 21 ∨ k = 22 ∨ k = 23 ∨ k = 24 ∨ k = 25 ∨ k = 26 by omega) with rfl | rfl | rfl | rfl | rfl | rfl | rfl | rfl | rfl | rfl | rfl | rfl | rfl | rfl | rfl | rfl | rfl | rfl | rfl | rfl | rfl | rfl | rfl | rfl | rfl | rfl | rfl <;> first | exact absurd rfl hne | rfl | (simp only [RE]; simp [FM, up]; done) | (simp only [RE]; simp [tD, up]; done) | (simp only [RE]; rw [tI_o (by decide)]) | (simp only [RE]; rw [tL_o (by decide)])
  · rw [RE_21]; rw [tD_up h h2]
theorem rn_ends {z v : Int} (h : 0 ≤ z) (h2 : z = τ 0 3) (h3 : σ 21 z = v) : va_up (RE G ad σ τ) 21 (.inl (G 0, 60, .inl (upd (tD σ 21 (τ 0 3)) z.toNat (iI v)))) = RE G ad σ (up τ 0 3 (z + 1)) := by
  refine RE_ext (by decide) (fun k hk hne => ?_) ?_
  · rcases (show k = 0 ∨ k = 1 ∨ k = 2 ∨ k = 3 ∨ k = 4 ∨ k = 5 ∨ k = 6 ∨ k = 7 ∨ k = 8 ∨ k = 9 ∨ k = 10 ∨ k = 11 ∨ k = 12 ∨ k = 13 ∨ k = 14 ∨ k = 15 ∨ k = 16 ∨ k = 17 ∨ k = 18 ∨ k = 19 ∨ k = 20 ∨ k = 21 ∨ k = 22 ∨ k = 23 ∨ k = 24 ∨ k = 25 ∨ k = 26 by omega) with rfl | rfl | rfl | rfl | rfl | rfl | rfl | rfl | rfl | rfl | rfl | rfl | rfl | rfl | rfl | rfl | rfl | rfl | rfl | rfl | rfl | rfl | rfl | rfl | rfl | rfl | rfl <;> first | exact absurd rfl hne | rfl | (simp only [RE]; simp [FM, up]; done) | (simp only [RE]; simp [tD, up]; done) | (simp only [RE]; rw [tI_o (by decide)]) | (simp only [RE]; rw [tL_o (by decide)])
  · rw [RE_21]; rw [tD_new h h2 h3, up_self]
theorem ru_overs {z v : Int} (h : 0 ≤ z) : va_up (RE G ad σ τ) 22 (.inl (G 0, 60, .inl (upd (tI σ 22) z.toNat (iI v)))) = RE G ad (up σ 22 z v) τ := by
  refine RE_ext (by decide) (fun k hk hne => ?_) ?_
  · rcases (show k = 0 ∨ k = 1 ∨ k = 2 ∨ k = 3 ∨ k = 4 ∨ k = 5 ∨ k = 6 ∨ k = 7 ∨ k = 8 ∨ k = 9 ∨ k = 10 ∨ k = 11 ∨ k = 12 ∨ k = 13 ∨ k = 14 ∨ k = 15 ∨ k = 16 ∨ k = 17 ∨ k = 18 ∨ k = 19 ∨ k = 20 ∨ k = 21 ∨ k = 22 ∨ k = 23 ∨ k = 24 ∨ k = 25 ∨ k = 26 by omega) with rfl | rfl | rfl | rfl | rfl | rfl | rfl | rfl | rfl | rfl | rfl | rfl | rfl | rfl | rfl | rfl | rfl | rfl | rfl | rfl | rfl | rfl | rfl | rfl | rfl | rfl | rfl <;> first | exact absurd rfl hne | rfl | (simp only [RE]; simp [FM, up]; done) | (simp only [RE]; simp [tD, up]; done) | (simp only [RE]; rw [tI_o (by decide)]) | (simp only [RE]; rw [tL_o (by decide)])
  · rw [RE_22]; rw [tI_up h]
theorem ru_joined {z v : Int} (h : 0 ≤ z) (h2 : z < τ 0 4) : va_up (RE G ad σ τ) 23 (.inl (G 0, 60, .inl (upd (tD σ 23 (τ 0 4)) z.toNat (iI v)))) = RE G ad (up σ 23 z v) τ := by
  refine RE_ext (by decide) (fun k hk hne => ?_) ?_
  · rcases (show k = 0 ∨ k = 1 ∨ k = 2 ∨ k = 3 ∨ k = 4 ∨ k = 5 ∨ k = 6 ∨ k = 7 ∨ k = 8 ∨ k = 9 ∨ k = 10 ∨ k = 11 ∨ k = 12 ∨ k = 13 ∨ k = 14 ∨ k = 15 ∨ k = 16 ∨ k = 17 ∨ k = 18 ∨ k = 19 ∨ k = 20 ∨ k = 21 ∨ k = 22 ∨ k = 23 ∨ k = 24 ∨ k = 25 ∨ k = 26 by omega) with rfl | rfl | rfl | rfl | rfl | rfl | rfl | rfl | rfl | rfl | rfl | rfl | rfl | rfl | rfl | rfl | rfl | rfl | rfl | rfl | rfl | rfl | rfl | rfl | rfl | rfl | rfl <;> first | exact absurd rfl hne | rfl | (simp only [RE]; simp [FM, up]; done) | (simp only [RE]; simp [tD, up]; done) | (simp only [RE]; rw [tI_o (by decide)]) | (simp only [RE]; rw [tL_o (by decide)])
  · rw [RE_23]; rw [tD_up h h2]
theorem rn_joined {z v : Int} (h : 0 ≤ z) (h2 : z = τ 0 4) (h3 : σ 23 z = v) : va_up (RE G ad σ τ) 23 (.inl (G 0, 60, .inl (upd (tD σ 23 (τ 0 4)) z.toNat (iI v)))) = RE G ad σ (up τ 0 4 (z + 1)) := by
  refine RE_ext (by decide) (fun k hk hne => ?_) ?_
  · rcases (show k = 0 ∨ k = 1 ∨ k = 2 ∨ k = 3 ∨ k = 4 ∨ k = 5 ∨ k = 6 ∨ k = 7 ∨ k = 8 ∨ k = 9 ∨ k = 10 ∨ k = 11 ∨ k = 12 ∨ k = 13 ∨ k = 14 ∨ k = 15 ∨ k = 16 ∨ k = 17 ∨ k = 18 ∨ k = 19 ∨ k = 20 ∨ k = 21 ∨ k = 22 ∨ k = 23 ∨ k = 24 ∨ k = 25 ∨ k = 26 by omega) with rfl | rfl | rfl | rfl | rfl | rfl | rfl | rfl | rfl | rfl | rfl | rfl | rfl | rfl | rfl | rfl | rfl | rfl | rfl | rfl | rfl | rfl | rfl | rfl | rfl | rfl | rfl <;> first | exact absurd rfl hne | rfl | (simp only [RE]; simp [FM, up]; done) | (simp only [RE]; simp [tD, up]; done) | (simp only [RE]; rw [tI_o (by decide)]) | (simp only [RE]; rw [tL_o (by decide)])
  · rw [RE_23]; rw [tD_new h h2 h3, up_self]
theorem ru_moved {z v : Int} (h : 0 ≤ z) : va_up (RE G ad σ τ) 24 (.inl (G 0, 60, .inl (upd (tI σ 24) z.toNat (iI v)))) = RE G ad (up σ 24 z v) τ := by
  refine RE_ext (by decide) (fun k hk hne => ?_) ?_
  · rcases (show k = 0 ∨ k = 1 ∨ k = 2 ∨ k = 3 ∨ k = 4 ∨ k = 5 ∨ k = 6 ∨ k = 7 ∨ k = 8 ∨ k = 9 ∨ k = 10 ∨ k = 11 ∨ k = 12 ∨ k = 13 ∨ k = 14 ∨ k = 15 ∨ k = 16 ∨ k = 17 ∨ k = 18 ∨ k = 19 ∨ k = 20 ∨ k = 21 ∨ k = 22 ∨ k = 23 ∨ k = 24 ∨ k = 25 ∨ k = 26 by omega) with rfl | rfl | rfl | rfl | rfl | rfl | rfl | rfl | rfl | rfl | rfl | rfl | rfl | rfl | rfl | rfl | rfl | rfl | rfl | rfl | rfl | rfl | rfl | rfl | rfl | rfl | rfl <;> first | exact absurd rfl hne | rfl | (simp only [RE]; simp [FM, up]; done) | (simp only [RE]; simp [tD, up]; done) | (simp only [RE]; rw [tI_o (by decide)]) | (simp only [RE]; rw [tL_o (by decide)])
  · rw [RE_24]; rw [tI_up h]
theorem ru_works {v : Int} : va_up (RE G ad σ τ) 0 (.inr (9, (FM ad σ τ).set 28 (.int (iI v)))) = RE G ad (up σ 0 2 v) τ := by
  refine RE_ext (by decide) (fun k hk hne => ?_) ?_
  · rcases (show k = 0 ∨ k = 1 ∨ k = 2 ∨ k = 3 ∨ k = 4 ∨ k = 5 ∨ k = 6 ∨ k = 7 ∨ k = 8 ∨ k = 9 ∨ k = 10 ∨ k = 11 ∨ k = 12 ∨ k = 13 ∨ k = 14 ∨ k = 15 ∨ k = 16 ∨ k = 17 ∨ k = 18 ∨ k = 19 ∨ k = 20 ∨ k = 21 ∨ k = 22 ∨ k = 23 ∨ k = 24 ∨ k = 25 ∨ k = 26 by omega) with rfl | rfl | rfl | rfl | rfl | rfl | rfl | rfl | rfl | rfl | rfl | rfl | rfl | rfl | rfl | rfl | rfl | rfl | rfl | rfl | rfl | rfl | rfl | rfl | rfl | rfl | rfl <;> first | exact absurd rfl hne | rfl | (simp only [RE]; simp [FM, up]; done) | (simp only [RE]; simp [tD, up]; done) | (simp only [RE]; rw [tI_o (by decide)]) | (simp only [RE]; rw [tL_o (by decide)])
  · rw [RE_0]; simp [FM, up]
theorem ru_brokenDay {v : Int} : va_up (RE G ad σ τ) 0 (.inr (9, (FM ad σ τ).set 29 (.int (iI v)))) = RE G ad σ (up τ 0 0 v) := by
  refine RE_ext (by decide) (fun k hk hne => ?_) ?_
  · rcases (show k = 0 ∨ k = 1 ∨ k = 2 ∨ k = 3 ∨ k = 4 ∨ k = 5 ∨ k = 6 ∨ k = 7 ∨ k = 8 ∨ k = 9 ∨ k = 10 ∨ k = 11 ∨ k = 12 ∨ k = 13 ∨ k = 14 ∨ k = 15 ∨ k = 16 ∨ k = 17 ∨ k = 18 ∨ k = 19 ∨ k = 20 ∨ k = 21 ∨ k = 22 ∨ k = 23 ∨ k = 24 ∨ k = 25 ∨ k = 26 by omega) with rfl | rfl | rfl | rfl | rfl | rfl | rfl | rfl | rfl | rfl | rfl | rfl | rfl | rfl | rfl | rfl | rfl | rfl | rfl | rfl | rfl | rfl | rfl | rfl | rfl | rfl | rfl <;> first | exact absurd rfl hne | rfl | (simp only [RE]; simp [FM, up]; done) | (simp only [RE]; simp [tD, up]; done) | (simp only [RE]; rw [tI_o (by decide)]) | (simp only [RE]; rw [tL_o (by decide)])
  · rw [RE_0]; simp [FM, up]
theorem ru_brokenAt {v : Int} : va_up (RE G ad σ τ) 0 (.inr (9, (FM ad σ τ).set 30 (.int (iI v)))) = RE G ad σ (up τ 0 1 v) := by
  refine RE_ext (by decide) (fun k hk hne => ?_) ?_
  · rcases (show k = 0 ∨ k = 1 ∨ k = 2 ∨ k = 3 ∨ k = 4 ∨ k = 5 ∨ k = 6 ∨ k = 7 ∨ k = 8 ∨ k = 9 ∨ k = 10 ∨ k = 11 ∨ k = 12 ∨ k = 13 ∨ k = 14 ∨ k = 15 ∨ k = 16 ∨ k = 17 ∨ k = 18 ∨ k = 19 ∨ k = 20 ∨ k = 21 ∨ k = 22 ∨ k = 23 ∨ k = 24 ∨ k = 25 ∨ k = 26 by omega) with rfl | rfl | rfl | rfl | rfl | rfl | rfl | rfl | rfl | rfl | rfl | rfl | rfl | rfl | rfl | rfl | rfl | rfl | rfl | rfl | rfl | rfl | rfl | rfl | rfl | rfl | rfl <;> first | exact absurd rfl hne | rfl | (simp only [RE]; simp [FM, up]; done) | (simp only [RE]; simp [tD, up]; done) | (simp only [RE]; rw [tI_o (by decide)]) | (simp only [RE]; rw [tL_o (by decide)])
  · rw [RE_0]; simp [FM, up]
theorem ru_toldDay {v : Int} : va_up (RE G ad σ τ) 0 (.inr (9, (FM ad σ τ).set 31 (.int (iI v)))) = RE G ad σ (up τ 0 5 v) := by
  refine RE_ext (by decide) (fun k hk hne => ?_) ?_
  · rcases (show k = 0 ∨ k = 1 ∨ k = 2 ∨ k = 3 ∨ k = 4 ∨ k = 5 ∨ k = 6 ∨ k = 7 ∨ k = 8 ∨ k = 9 ∨ k = 10 ∨ k = 11 ∨ k = 12 ∨ k = 13 ∨ k = 14 ∨ k = 15 ∨ k = 16 ∨ k = 17 ∨ k = 18 ∨ k = 19 ∨ k = 20 ∨ k = 21 ∨ k = 22 ∨ k = 23 ∨ k = 24 ∨ k = 25 ∨ k = 26 by omega) with rfl | rfl | rfl | rfl | rfl | rfl | rfl | rfl | rfl | rfl | rfl | rfl | rfl | rfl | rfl | rfl | rfl | rfl | rfl | rfl | rfl | rfl | rfl | rfl | rfl | rfl | rfl <;> first | exact absurd rfl hne | rfl | (simp only [RE]; simp [FM, up]; done) | (simp only [RE]; simp [tD, up]; done) | (simp only [RE]; rw [tI_o (by decide)]) | (simp only [RE]; rw [tL_o (by decide)])
  · rw [RE_0]; simp [FM, up]
theorem ru_toldAt {v : Int} : va_up (RE G ad σ τ) 0 (.inr (9, (FM ad σ τ).set 32 (.int (iI v)))) = RE G ad σ (up τ 0 6 v) := by
  refine RE_ext (by decide) (fun k hk hne => ?_) ?_
  · rcases (show k = 0 ∨ k = 1 ∨ k = 2 ∨ k = 3 ∨ k = 4 ∨ k = 5 ∨ k = 6 ∨ k = 7 ∨ k = 8 ∨ k = 9 ∨ k = 10 ∨ k = 11 ∨ k = 12 ∨ k = 13 ∨ k = 14 ∨ k = 15 ∨ k = 16 ∨ k = 17 ∨ k = 18 ∨ k = 19 ∨ k = 20 ∨ k = 21 ∨ k = 22 ∨ k = 23 ∨ k = 24 ∨ k = 25 ∨ k = 26 by omega) with rfl | rfl | rfl | rfl | rfl | rfl | rfl | rfl | rfl | rfl | rfl | rfl | rfl | rfl | rfl | rfl | rfl | rfl | rfl | rfl | rfl | rfl | rfl | rfl | rfl | rfl | rfl <;> first | exact absurd rfl hne | rfl | (simp only [RE]; simp [FM, up]; done) | (simp only [RE]; simp [tD, up]; done) | (simp only [RE]; rw [tI_o (by decide)]) | (simp only [RE]; rw [tL_o (by decide)])
  · rw [RE_0]; simp [FM, up]
theorem ru_far {z v : Int} (h : 0 ≤ z) : va_up (RE G ad σ τ) 26 (.inl (G 0, 20, .inl (upd (tI τ 2) z.toNat (iI v)))) = RE G ad σ (up τ 2 z v) := by
  refine RE_ext (by decide) (fun k hk hne => ?_) ?_
  · rcases (show k = 0 ∨ k = 1 ∨ k = 2 ∨ k = 3 ∨ k = 4 ∨ k = 5 ∨ k = 6 ∨ k = 7 ∨ k = 8 ∨ k = 9 ∨ k = 10 ∨ k = 11 ∨ k = 12 ∨ k = 13 ∨ k = 14 ∨ k = 15 ∨ k = 16 ∨ k = 17 ∨ k = 18 ∨ k = 19 ∨ k = 20 ∨ k = 21 ∨ k = 22 ∨ k = 23 ∨ k = 24 ∨ k = 25 ∨ k = 26 by omega) with rfl | rfl | rfl | rfl | rfl | rfl | rfl | rfl | rfl | rfl | rfl | rfl | rfl | rfl | rfl | rfl | rfl | rfl | rfl | rfl | rfl | rfl | rfl | rfl | rfl | rfl | rfl <;> first | exact absurd rfl hne | rfl | (simp only [RE]; simp [FM, up]; done) | (simp only [RE]; simp [tD, up]; done) | (simp only [RE]; rw [tI_o (by decide)]) | (simp only [RE]; rw [tL_o (by decide)])
  · rw [RE_26]; rw [tI_up h]
end SR
end
section
/-! ===== sums, masks, least pairs ===== -/
def sumN (f : Int → Int) : Nat → Int
  | 0 => 0
  | n + 1 => sumN f n + f (n : Int)
def sumI (f : Int → Int) (n : Int) : Int := sumN f n.toNat
theorem sumI_0 {f : Int → Int} : sumI f 0 = 0 := rfl
theorem sumI_s {f : Int → Int} {i : Int} (h : 0 ≤ i) : sumI f (i + 1) = sumI f i + f i := by
  unfold sumI
  rw [show (i + 1).toNat = i.toNat + 1 by omega]
  show sumN f i.toNat + f ((i.toNat : Nat) : Int) = _
  rw [Int.toNat_of_nonneg h]
theorem sumN_c {f g : Int → Int} : ∀ k : Nat, (∀ i : Int, 0 ≤ i → i < k → f i = g i) → sumN f k = sumN g k
  | 0, _ => rfl
  | k + 1, h => by
    show sumN f k + f k = sumN g k + g k
    rw [sumN_c k (fun i h1 h2 => h i h1 (by omega)), h k (by omega) (by omega)]
theorem sumI_c {f g : Int → Int} {n : Int} (h : ∀ i, 0 ≤ i → i < n → f i = g i) : sumI f n = sumI g n :=
  sumN_c n.toNat (fun i h1 h2 => h i h1 (by omega))
theorem sumN_b {f : Int → Int} {M : Int} : ∀ k : Nat, (∀ i : Int, 0 ≤ i → i < k → 0 ≤ f i ∧ f i ≤ M) → 0 ≤ sumN f k ∧ sumN f k ≤ k * M
  | 0, _ => by simp [sumN]
  | k + 1, h => by
    have h1 := sumN_b k (fun i h1 h2 => h i h1 (by omega))
    have h2 := h k (by omega) (by omega)
    have e : ((k + 1 : Nat) : Int) * M = k * M + M := by rw [show ((k + 1 : Nat) : Int) = (k : Int) + 1 by omega, Int.add_mul, Int.one_mul]
    rw [e]
    show 0 ≤ sumN f k + f k ∧ sumN f k + f k ≤ _
    omega
theorem sumI_b {f : Int → Int} {n M : Int} (hn : 0 ≤ n) (h : ∀ i, 0 ≤ i → i < n → 0 ≤ f i ∧ f i ≤ M) : 0 ≤ sumI f n ∧ sumI f n ≤ n * M := by
  have := sumN_b (f := f) (M := M) n.toNat (fun i h1 h2 => h i h1 (by omega))
  rw [Int.toNat_of_nonneg hn] at this
  exact this
theorem sumN_add {f g : Int → Int} : ∀ k : Nat, sumN (fun i => f i + g i) k = sumN f k + sumN g k
  | 0 => rfl
  | k + 1 => by
    show sumN (fun i => f i + g i) k + (f k + g k) = (sumN f k + f k) + (sumN g k + g k)
    rw [sumN_add k]
    omega
theorem sumI_add {f g : Int → Int} {n : Int} : sumI (fun i => f i + g i) n = sumI f n + sumI g n := sumN_add _
theorem sumN_pt {a v : Int} : ∀ k : Nat, 0 ≤ a → sumN (fun i => cif (i = a) v 0) k = cif (a < k) v 0
  | 0, h => by rw [cif_f (by omega)]; rfl
  | k + 1, h => by
    show sumN (fun i => cif (i = a) v 0) k + cif ((k : Int) = a) v 0 = _
    rw [sumN_pt k h]
    by_cases h1 : a < (k : Int)
    · rw [cif_t h1, cif_f (by omega), cif_t (by omega)]; omega
    · by_cases h2 : (k : Int) = a
      · rw [cif_f h1, cif_t h2, cif_t (by omega)]; omega
      · rw [cif_f h1, cif_f h2, cif_f (by omega)]; omega
theorem sumI_pt {a v n : Int} (h : 0 ≤ a ∧ a < n) : sumI (fun i => cif (i = a) v 0) n = v := by
  unfold sumI
  rw [sumN_pt _ h.1, cif_t (by omega)]
noncomputable def msk (P : Int → Prop) : Nat → Nat
  | 0 => 0
  | n + 1 => msk P n ||| cif (P (n : Int)) (2 ^ n) 0
theorem msk_bit {P : Int → Prop} : ∀ (n k : Nat), (msk P n).testBit k = true ↔ k < n ∧ P (k : Int)
  | 0, k => by simp [msk]
  | n + 1, k => by
    show (msk P n ||| cif (P (n : Int)) (2 ^ n) 0).testBit k = true ↔ _
    rw [Nat.testBit_or, Bool.or_eq_true, msk_bit n k]
    by_cases h : P (n : Int)
    · rw [cif_t h, Nat.testBit_two_pow]
      constructor
      · rintro (⟨h1, h2⟩ | h1)
        · exact ⟨by omega, h2⟩
        · have h1 : n = k := by simpa using h1
          subst h1
          exact ⟨by omega, h⟩
      · rintro ⟨h1, h2⟩
        by_cases h3 : k < n
        · exact Or.inl ⟨h3, h2⟩
        · right
          have : n = k := by omega
          simpa using this
    · rw [cif_f h, Nat.zero_testBit]
      constructor
      · rintro (⟨h1, h2⟩ | h1)
        · exact ⟨by omega, h2⟩
        · cases h1
      · rintro ⟨h1, h2⟩
        by_cases h3 : k < n
        · exact Or.inl ⟨h3, h2⟩
        · have h4 : k = n := by omega
          subst h4
          exact absurd h2 h
theorem msk_lt {P : Int → Prop} : ∀ n : Nat, msk P n < 2 ^ n
  | 0 => by simp [msk]
  | n + 1 => by
    have h1 := msk_lt (P := P) n
    have h2 : (2 : Nat) ^ n < 2 ^ (n + 1) := Nat.pow_lt_pow_succ (by omega)
    refine Nat.or_lt_two_pow (by omega) ?_
    by_cases h : P (n : Int)
    · rw [cif_t h]; exact h2
    · rw [cif_f h]; exact Nat.two_pow_pos _
/-- the least pair, by its first part, then by its second -/
def isFst (P : Int → Int → Prop) (a b : Int) : Prop := P a b ∧ ∀ a' b', P a' b' → a < a' ∨ (a = a' ∧ b ≤ b')
theorem isFst_eq {P : Int → Int → Prop} {a b a' b' : Int} (h : isFst P a b) (h' : isFst P a' b') : a = a' ∧ b = b' := by
  have h1 := h.2 _ _ h'.1
  have h2 := h'.2 _ _ h.1
  omega
noncomputable def fstA (P : Int → Int → Prop) : Int := cif (∃ a b, isFst P a b) (Classical.epsilon (fun a => ∃ b, isFst P a b)) 0
noncomputable def fstB (P : Int → Int → Prop) : Int := cif (∃ a b, isFst P a b) (Classical.epsilon (fun b => ∃ a, isFst P a b)) 0
theorem fst_of {P : Int → Int → Prop} {a b : Int} (h : isFst P a b) : fstA P = a ∧ fstB P = b := by
  have e : ∃ a b, isFst P a b := ⟨a, b, h⟩
  unfold fstA fstB
  rw [cif_t e, cif_t e]
  have h1 : ∃ b, isFst P (Classical.epsilon (fun a => ∃ b, isFst P a b)) b := Classical.epsilon_spec (p := fun a => ∃ b, isFst P a b) ⟨a, b, h⟩
  have h2 : ∃ a, isFst P a (Classical.epsilon (fun b => ∃ a, isFst P a b)) := Classical.epsilon_spec (p := fun b => ∃ a, isFst P a b) ⟨b, a, h⟩
  obtain ⟨x, hx⟩ := h1
  obtain ⟨y, hy⟩ := h2
  exact ⟨(isFst_eq hx h).1, (isFst_eq hy h).2⟩
/-! ===== what the tables say ===== -/
def isOn (σ : Tb) (w p : Int) : Prop := ((σ 17 w).toNat.testBit p.toNat) = true
def hasD (σ : Tb) (o : Int) : Prop := 1 ≤ σ 19 o ∧ σ 19 o ≤ 3
def cnts (σ : Tb) (w : Int) (les : Prop) (o : Int) : Prop := o ≠ w ∧ hasD σ o ∧ (les → σ 19 o ≠ 1 ∨ o < w)
def lsts (σ : Tb) (w d : Int) (les : Prop) (day o : Int) : Prop := (o = w ∧ 0 ≤ d ∧ d ≤ day ∧ day < d + σ 14 w) ∨ (o ≠ w ∧ cnts σ w les o ∧ σ 20 o ≤ day ∧ day ≤ σ 21 o)
def lss (σ : Tb) (p w d : Int) (les : Prop) (day o : Int) : Prop := 0 ≤ σ 23 o ∧ isOn σ (σ 23 o) p ∧ lsts σ w d les day (σ 23 o) ∧ (σ 13 o < σ 13 (σ 23 o) ∨ (σ 13 (σ 23 o) = σ 13 o ∧ σ 23 o < o))
noncomputable def tkF (σ : Tb) (p w d : Int) (les : Prop) (day o : Int) : Int := cif (isOn σ o p ∧ lsts σ w d les day o) (cif (lss σ p w d les day o) 0 (σ 13 o)) 0
noncomputable def tkn (σ : Tb) (p w d : Int) (les : Prop) (day : Int) : Int := sumI (tkF σ p w d les day) (σ 0 2)
noncomputable def shM (σ : Tb) (w d : Int) (les : Prop) (day : Int) : Nat := msk (fun p => σ 3 p ≤ tkn σ p w d les day) (σ 0 0).toNat
/-- the minutes of the shortest ways from a crossing, the pieces of S closed -/
def isDs (σ : Tb) (S : Nat) (a : Int) (f : Int → Int) : Prop :=
  f a = 0 ∧ (∀ v, 0 ≤ v → v < 20 → 0 ≤ f v ∧ f v ≤ 1000000) ∧
  (∀ p, 0 ≤ p → p < σ 0 0 → ¬ S.testBit p.toNat = true → f (σ 1 p) ≤ f (σ 2 p) + σ 5 p ∧ f (σ 2 p) ≤ f (σ 1 p) + σ 5 p) ∧
  (∀ v, 0 ≤ v → v < 20 → v ≠ a → f v < 1000000 → ∃ p, 0 ≤ p ∧ p < σ 0 0 ∧ ¬ S.testBit p.toNat = true ∧ ((σ 2 p = v ∧ f (σ 1 p) + σ 5 p ≤ f v) ∨ (σ 1 p = v ∧ f (σ 2 p) + σ 5 p ≤ f v)))
noncomputable def dst (σ : Tb) (S : Nat) (a b : Int) : Int := cif (∃ f, isDs σ S a f) (Classical.epsilon (fun f => isDs σ S a f) b) 0
/-! ===== the rules ===== -/
noncomputable def ntc (σ : Tb) (w : Int) : Int := cif (σ 12 w = 1) 30 (cif (σ 12 w = 3) 0 3)
def inW (σ : Tb) (w d day : Int) : Prop := d ≤ day ∧ day < d + σ 14 w
def inP (σ : Tb) (p : Int) : Prop := 0 ≤ p ∧ p < σ 0 0
def B3 (σ : Tb) (w d : Int) (day p : Int) : Prop := inW σ w d day ∧ inP σ p ∧ isOn σ w p ∧ σ 10 day = 1 ∧ σ 4 p = 2
def B4 (σ : Tb) (w d : Int) (les : Prop) (day p : Int) : Prop := inW σ w d day ∧ inP σ p ∧ isOn σ w p ∧ σ 3 p < tkn σ p w d les day
def B5o (σ : Tb) (w d : Int) (les : Prop) (day p o : Int) : Prop := o ≠ w ∧ isOn σ o p ∧ σ 11 o ≠ σ 11 w ∧ σ 15 o = σ 15 w ∧ σ 23 w ≠ o ∧ lsts σ w d les day o
def B5 (σ : Tb) (w d : Int) (les : Prop) (day p : Int) : Prop := inW σ w d day ∧ inP σ p ∧ isOn σ w p ∧ ∃ o, 0 ≤ o ∧ o < σ 0 2 ∧ B5o σ w d les day p o
def B6o (σ : Tb) (w d : Int) (les : Prop) (p o : Int) : Prop := cnts σ w les o ∧ isOn σ o p ∧ ((σ 12 w ≠ 3 ∧ σ 21 o < d ∧ d ≤ σ 21 o + σ 6 p) ∨ (σ 12 o ≠ 3 ∧ σ 19 o ≠ 3 ∧ d + σ 14 w - 1 < σ 20 o ∧ σ 20 o ≤ d + σ 14 w - 1 + σ 6 p))
def B6 (σ : Tb) (w d : Int) (les : Prop) (day p : Int) : Prop := day = d ∧ inP σ p ∧ isOn σ w p ∧ ∃ o, 0 ≤ o ∧ o < σ 0 2 ∧ B6o σ w d les p o
def B7 (σ : Tb) (w d : Int) (les : Prop) (day k : Int) : Prop := inW σ w d day ∧ 0 ≤ k ∧ k < σ 0 1 ∧ σ 9 k < dst σ (shM σ w d les day) (σ 7 k) (σ 8 k) ∧ dst σ (shM σ w (-1) les day) (σ 7 k) (σ 8 k) ≤ σ 9 k
def ex2 (P : Int → Int → Prop) : Prop := ∃ a b, P a b
/-- rules 3 to 7 -/
noncomputable def rul3 (σ : Tb) (w d : Int) (les : Prop) : Int := cif (ex2 (B3 σ w d)) 3 (cif (ex2 (B4 σ w d les)) 4 (cif (ex2 (B5 σ w d les)) 5 (cif (ex2 (B6 σ w d les)) 6 (cif (ex2 (B7 σ w d les)) 7 0))))
noncomputable def rul2 (σ : Tb) (w d : Int) (les : Prop) : Int := cif (399 < d + σ 14 w - 1) 2 (rul3 σ w d les)
noncomputable def rul1 (σ : Tb) (w d : Int) (les : Prop) : Int := cif (d < σ 0 3 + ntc σ w) 1 (rul2 σ w d les)
/-- day and place of the rule r that is broken -/
def rAt (σ : Tb) (w d : Int) (les : Prop) (r day pl : Int) : Prop :=
  (r = 1 → day = d ∧ pl = σ 25 w) ∧ (r = 2 → day = 400 ∧ pl = σ 25 w) ∧ (r = 3 → isFst (B3 σ w d) day pl) ∧ (r = 4 → isFst (B4 σ w d les) day pl) ∧ (r = 5 → isFst (B5 σ w d les) day pl) ∧ (r = 6 → isFst (B6 σ w d les) day pl) ∧ (r = 7 → isFst (B7 σ w d les) day pl)
theorem rAt_eq {σ : Tb} {w d : Int} {les : Prop} {r day pl day' pl' : Int} (hr : 1 ≤ r ∧ r ≤ 7) (h : rAt σ w d les r day pl) (h' : rAt σ w d les r day' pl') : day = day' ∧ pl = pl' := by
  obtain ⟨a1, a2, a3, a4, a5, a6, a7⟩ := h
  obtain ⟨b1, b2, b3, b4, b5, b6, b7⟩ := h'
  rcases (show r = 1 ∨ r = 2 ∨ r = 3 ∨ r = 4 ∨ r = 5 ∨ r = 6 ∨ r = 7 by omega) with e | e | e | e | e | e | e
  · have := a1 e; have := b1 e; omega
  · have := a2 e; have := b2 e; omega
  · exact isFst_eq (a3 e) (b3 e)
  · exact isFst_eq (a4 e) (b4 e)
  · exact isFst_eq (a5 e) (b5 e)
  · exact isFst_eq (a6 e) (b6 e)
  · exact isFst_eq (a7 e) (b7 e)
theorem rul3_r {σ : Tb} {w d : Int} {les : Prop} : rul3 σ w d les = 0 ∨ (3 ≤ rul3 σ w d les ∧ rul3 σ w d les ≤ 7) := by
  unfold rul3
  by_cases h3 : ex2 (B3 σ w d)
  · rw [cif_t h3]; omega
  rw [cif_f h3]
  by_cases h4 : ex2 (B4 σ w d les)
  · rw [cif_t h4]; omega
  rw [cif_f h4]
  by_cases h5 : ex2 (B5 σ w d les)
  · rw [cif_t h5]; omega
  rw [cif_f h5]
  by_cases h6 : ex2 (B6 σ w d les)
  · rw [cif_t h6]; omega
  rw [cif_f h6]
  by_cases h7 : ex2 (B7 σ w d les)
  · rw [cif_t h7]; omega
  rw [cif_f h7]; omega
/-! ===== what always holds between two calls ===== -/
def PQ (σ : Tb) (w k : Int) : Int := σ (25 + k.toNat) w
def IP (σ : Tb) (p : Int) : Prop := (0 ≤ σ 1 p ∧ σ 1 p ≤ 19) ∧ (0 ≤ σ 2 p ∧ σ 2 p ≤ 19) ∧ σ 1 p ≠ σ 2 p ∧ (1 ≤ σ 3 p ∧ σ 3 p ≤ 4) ∧ (0 ≤ σ 4 p ∧ σ 4 p ≤ 2) ∧ (1 ≤ σ 5 p ∧ σ 5 p ≤ 30) ∧ (0 ≤ σ 6 p ∧ σ 6 p ≤ 60)
def IR (σ : Tb) (k : Int) : Prop := (0 ≤ σ 7 k ∧ σ 7 k ≤ 19) ∧ (0 ≤ σ 8 k ∧ σ 8 k ≤ 19) ∧ σ 7 k ≠ σ 8 k ∧ (1 ≤ σ 9 k ∧ σ 9 k ≤ 200)
/-- a work's pieces: the mask, and the places of its own row, by number -/
def IQ (σ : Tb) (w : Int) : Prop := (0 ≤ σ 17 w ∧ σ 17 w < 1099511627776) ∧ (1 ≤ σ 18 w ∧ σ 18 w ≤ 4) ∧ (∀ k, 0 ≤ k → k < σ 18 w → (0 ≤ PQ σ w k ∧ PQ σ w k < σ 0 0) ∧ isOn σ w (PQ σ w k)) ∧ (∀ j k, 0 ≤ j → j < k → k < σ 18 w → PQ σ w j < PQ σ w k) ∧ (∀ p, 0 ≤ p → isOn σ w p → ∃ k, 0 ≤ k ∧ k < σ 18 w ∧ PQ σ w k = p)
def IN (σ : Tb) (w : Int) : Prop := (0 ≤ σ 11 w ∧ σ 11 w ≤ 9) ∧ (0 ≤ σ 12 w ∧ σ 12 w ≤ 3) ∧ (1 ≤ σ 13 w ∧ σ 13 w ≤ 4) ∧ (1 ≤ σ 14 w ∧ σ 14 w ≤ 30) ∧ (1 ≤ σ 15 w ∧ σ 15 w ≤ 9) ∧ (0 ≤ σ 16 w ∧ σ 16 w ≤ 399) ∧ (0 ≤ σ 19 w ∧ σ 19 w ≤ 4) ∧ (σ 19 w = 0 → σ 20 w = -1 ∧ σ 21 w = -1) ∧ (σ 19 w = 4 → σ 20 w = -1 ∧ σ 21 w = -1) ∧ (σ 19 w = 1 → σ 0 3 ≤ σ 20 w ∧ σ 21 w = σ 20 w + σ 14 w - 1 ∧ σ 21 w ≤ 399 ∧ σ 12 w ≠ 2) ∧ (σ 19 w = 2 → 0 ≤ σ 20 w ∧ σ 20 w ≤ σ 0 3 ∧ σ 0 3 ≤ σ 21 w ∧ σ 21 w ≤ 399) ∧ (σ 19 w = 3 → 0 ≤ σ 20 w ∧ σ 20 w ≤ σ 21 w ∧ σ 21 w < σ 0 3)
def IJ (σ : Tb) (w : Int) : Prop := σ 23 w = -1 ∨ ((0 ≤ σ 23 w ∧ σ 23 w < σ 0 2) ∧ σ 23 w ≠ w ∧ σ 23 (σ 23 w) = w ∧ σ 17 (σ 23 w) = σ 17 w ∧ σ 11 (σ 23 w) ≠ σ 11 w ∧ σ 15 (σ 23 w) ≠ σ 15 w ∧ σ 19 w ≠ 4)
def ID (σ : Tb) (w : Int) : Prop := σ 17 w = 0 ∧ σ 18 w = 0 ∧ σ 19 w = 0 ∧ σ 20 w = -1 ∧ σ 21 w = -1 ∧ σ 22 w = 0 ∧ σ 23 w = -1 ∧ σ 24 w = 0
def Inv (σ : Tb) : Prop := ((0 ≤ σ 0 0 ∧ σ 0 0 ≤ 40) ∧ (0 ≤ σ 0 1 ∧ σ 0 1 ≤ 8) ∧ (0 ≤ σ 0 2 ∧ σ 0 2 ≤ 60) ∧ (0 ≤ σ 0 3 ∧ σ 0 3 ≤ 399) ∧ (σ 0 4 = 0 ∨ σ 0 4 = 1)) ∧ (∀ p, 0 ≤ p → p < σ 0 0 → IP σ p) ∧ (∀ k, 0 ≤ k → k < σ 0 1 → IR σ k) ∧ (∀ d, 0 ≤ d → d < 400 → σ 10 d = 0 ∨ σ 10 d = 1) ∧ (∀ w, 0 ≤ w → w < σ 0 2 → IN σ w ∧ IQ σ w ∧ IJ σ w) ∧ (∀ w, σ 0 2 ≤ w → w < 60 → ID σ w)
/-- and between two calls of the law a PERMITTED work's BEGINNING is behind TODAY -/
def InvS (σ : Tb) : Prop := Inv σ ∧ ∀ w, 0 ≤ w → w < σ 0 2 → σ 19 w = 1 → σ 0 3 < σ 20 w
end
section
/-! ===== longs as numbers (the wb_ rows began as rows of kit/laws/BITS.to-paste) ===== -/
theorem wb_tb (n : Nat) : (lN n).toBitVec = BitVec.ofNat 64 n := rfl
theorem wb_inj {a b : Int64} (h : a.toBitVec = b.toBitVec) : a = b := Int64.toBitVec_inj.mp h
theorem wb_c : ∀ k, k < 64 → ((nI k).toInt64 &&& 63) = lN k := by decide +kernel
theorem wb_sm : ∀ k, k < 64 → (BitVec.ofNat 64 k).smod 64 = BitVec.ofNat 64 k := by decide +kernel
theorem wb_shl (n : Nat) {k : Nat} (hk : k < 64) : lN n <<< ((nI k).toInt64 &&& 63) = lN (n * 2 ^ k) := by
  rw [wb_c k hk]
  apply wb_inj
  rw [Int64.toBitVec_shiftLeft, wb_tb, wb_tb, wb_tb, wb_sm k hk]
  apply BitVec.eq_of_toNat_eq
  rw [BitVec.shiftLeft_eq', BitVec.toNat_shiftLeft, BitVec.toNat_ofNat, BitVec.toNat_ofNat, BitVec.toNat_ofNat, Nat.mod_eq_of_lt (show k < 2 ^ 64 by omega), Nat.shiftLeft_eq, Nat.mul_mod, Nat.mod_mod, ← Nat.mul_mod]
theorem wb_and {a b : Nat} (ha : a < 2 ^ 64) (hb : b < 2 ^ 64) : lN a &&& lN b = lN (a &&& b) := by
  apply wb_inj
  rw [Int64.toBitVec_and, wb_tb, wb_tb, wb_tb]
  apply BitVec.eq_of_toNat_eq
  rw [BitVec.toNat_and, BitVec.toNat_ofNat, BitVec.toNat_ofNat, BitVec.toNat_ofNat, Nat.mod_eq_of_lt ha, Nat.mod_eq_of_lt hb, Nat.mod_eq_of_lt (Nat.and_lt_two_pow _ hb)]
theorem wb_or {a b : Nat} (ha : a < 2 ^ 64) (hb : b < 2 ^ 64) : lN a ||| lN b = lN (a ||| b) := by
  apply wb_inj
  rw [Int64.toBitVec_or, wb_tb, wb_tb, wb_tb]
  apply BitVec.eq_of_toNat_eq
  rw [BitVec.toNat_or, BitVec.toNat_ofNat, BitVec.toNat_ofNat, BitVec.toNat_ofNat, Nat.mod_eq_of_lt ha, Nat.mod_eq_of_lt hb, Nat.mod_eq_of_lt (Nat.or_lt_two_pow ha hb)]
theorem wb_sshr {n k : Nat} (hn : n < 2 ^ 63) (hk : k < 64) : lN n >>> ((nI k).toInt64 &&& 63) = lN (n / 2 ^ k) := by
  rw [wb_c k hk]
  apply wb_inj
  rw [Int64.toBitVec_shiftRight, wb_tb, wb_tb, wb_tb, wb_sm k hk]
  have hm : (BitVec.ofNat 64 n).msb = false := by
    rw [BitVec.msb_eq_false_iff_two_mul_lt, BitVec.toNat_ofNat]
    omega
  have hkn : (BitVec.ofNat 64 k).toNat = k := by rw [BitVec.toNat_ofNat]; omega
  show (BitVec.ofNat 64 n).sshiftRight (BitVec.ofNat 64 k).toNat = _
  rw [hkn, BitVec.sshiftRight_eq_of_msb_false hm]
  apply BitVec.eq_of_toNat_eq
  rw [BitVec.toNat_ushiftRight, BitVec.toNat_ofNat, BitVec.toNat_ofNat, Nat.shiftRight_eq_div_pow]
  have h1 : n / 2 ^ k ≤ n := Nat.div_le_self _ _
  rw [Nat.mod_eq_of_lt (by omega), Nat.mod_eq_of_lt (by omega)]
/-- what lcmp says of two numbers -/
def cmpN (a b : Nat) : Int := if b < a then 1 else if a = b then 0 else -1
theorem cmpN_r (a b : Nat) : -2147483648 ≤ cmpN a b ∧ cmpN a b < 2147483648 := by
  unfold cmpN
  split
  · omega
  · split <;> omega
theorem cmpN_0 {a b : Nat} : cmpN a b = 0 ↔ a = b := by
  unfold cmpN
  split
  · omega
  · split <;> omega
theorem cmpN_e {a b : Nat} (ha : a < 2 ^ 63) (hb : b < 2 ^ 63) : lg_cmp (lN a) (lN b) = iI (cmpN a b) := by
  unfold lg_cmp cmpN
  by_cases h1 : b < a
  · rw [if_pos (show lN a > lN b from (pk_lLT hb ha).mpr h1), if_pos h1]; rfl
  · rw [if_neg (show ¬ lN a > lN b from fun q => h1 ((pk_lLT hb ha).mp q)), if_neg h1]
    by_cases h2 : a = b
    · rw [if_pos (by rw [h2]), if_pos h2]; rfl
    · rw [if_neg (fun q => h2 ((pk_lEQ ha hb).mp q)), if_neg h2]; rfl
theorem tb_and {m k : Nat} : m &&& 2 ^ k = 0 ↔ ¬ m.testBit k = true := by
  constructor
  · intro h hb
    have h2 := congrArg (fun x => x.testBit k) h
    simp [Nat.testBit_and, hb] at h2
  · intro h
    apply Nat.eq_of_testBit_eq
    intro i
    rw [Nat.testBit_and, Nat.testBit_two_pow, Nat.zero_testBit]
    by_cases e : k = i
    · subst e
      simp only [Bool.not_eq_true] at h
      rw [h]; rfl
    · simp [e]
theorem tb_div {m k : Nat} : (m / 2 ^ k) &&& 1 = 1 ↔ m.testBit k = true := by
  rw [Nat.testBit_eq_decide_div_mod_eq, decide_eq_true_eq, Nat.and_one_is_mod]
theorem tb_div0 {m k : Nat} : (m / 2 ^ k) &&& 1 = 0 ↔ ¬ m.testBit k = true := by
  rw [← tb_div, Nat.and_one_is_mod]
  omega
section KR3
variable {p : Program} {l : Launch} {e : Env} {R : Room} {s : State} {m : MethodId} {args : Array Value} {below : List Frame} {meth : Method} {c : Code} {H : Heap} {locs : List Loc} {cells slots : Nat} {Q : State → Prop}
variable {cc : ByteArray} {pc : Nat} {ls : Array Slot} {rest : List Value}
theorem r_lshl (hx : p.tables.exec = Jvm.exec) (hb : c.code = cc) {n : Nat} {z : Int} (hdg : decode cc pc = .ok (.lshl, 1)) (hz : 0 ≤ z ∧ z < 64)
    (k : W p l e R s m args below meth c H locs cells slots Q (F0 m (pc + 1) ls (.long (lN (n * 2 ^ z.toNat)) :: rest))) : W p l e R s m args below meth c H locs cells slots Q (F0 m pc ls (.int (iI z) :: .long (lN n) :: rest)) :=
  lv_lshl hx hb hdg (by rw [show iI z = nI z.toNat by rw [iI_nat, Int.toNat_of_nonneg hz.1]]; exact wb_shl n (by omega)) k
theorem r_lshl1 (hx : p.tables.exec = Jvm.exec) (hb : c.code = cc) {z : Int} (hdg : decode cc pc = .ok (.lshl, 1)) (hz : 0 ≤ z ∧ z < 64)
    (k : W p l e R s m args below meth c H locs cells slots Q (F0 m (pc + 1) ls (.long (lN (2 ^ z.toNat)) :: rest))) : W p l e R s m args below meth c H locs cells slots Q (F0 m pc ls (.int (iI z) :: .long (lN 1) :: rest)) :=
  r_lshl hx hb hdg hz (by rw [Nat.one_mul]; exact k)
theorem r_lshr (hx : p.tables.exec = Jvm.exec) (hb : c.code = cc) {n : Nat} {z : Int} (hdg : decode cc pc = .ok (.lshr, 1)) (hz : 0 ≤ z ∧ z < 64) (hn : n < 2 ^ 63)
    (k : W p l e R s m args below meth c H locs cells slots Q (F0 m (pc + 1) ls (.long (lN (n / 2 ^ z.toNat)) :: rest))) : W p l e R s m args below meth c H locs cells slots Q (F0 m pc ls (.int (iI z) :: .long (lN n) :: rest)) :=
  lv_lshr hx hb hdg (by rw [show iI z = nI z.toNat by rw [iI_nat, Int.toNat_of_nonneg hz.1]]; exact wb_sshr hn (by omega)) k
theorem r_land (hx : p.tables.exec = Jvm.exec) (hb : c.code = cc) {a b : Nat} (hdg : decode cc pc = .ok (.land, 1)) (ha : a < 2 ^ 64) (hb2 : b < 2 ^ 64)
    (k : W p l e R s m args below meth c H locs cells slots Q (F0 m (pc + 1) ls (.long (lN (a &&& b)) :: rest))) : W p l e R s m args below meth c H locs cells slots Q (F0 m pc ls (.long (lN b) :: .long (lN a) :: rest)) :=
  lv_land hx hb hdg (by rw [wb_and ha hb2]; exact k)
theorem r_lor (hx : p.tables.exec = Jvm.exec) (hb : c.code = cc) {a b : Nat} (hdg : decode cc pc = .ok (.lor, 1)) (ha : a < 2 ^ 64) (hb2 : b < 2 ^ 64)
    (k : W p l e R s m args below meth c H locs cells slots Q (F0 m (pc + 1) ls (.long (lN (a ||| b)) :: rest))) : W p l e R s m args below meth c H locs cells slots Q (F0 m pc ls (.long (lN b) :: .long (lN a) :: rest)) :=
  lv_lor hx hb hdg (by rw [wb_or ha hb2]; exact k)
theorem r_lcmp (hx : p.tables.exec = Jvm.exec) (hb : c.code = cc) {a b : Nat} (hdg : decode cc pc = .ok (.lcmp, 1)) (ha : a < 2 ^ 63) (hb2 : b < 2 ^ 63)
    (k : W p l e R s m args below meth c H locs cells slots Q (F0 m (pc + 1) ls (.int (iI (cmpN a b)) :: rest))) : W p l e R s m args below meth c H locs cells slots Q (F0 m pc ls (.long (lN b) :: .long (lN a) :: rest)) :=
  W.lcmp hx hb hdg (by rw [cmpN_e ha hb2]; exact k)
end KR3
end
section
noncomputable def lstF (σ : Tb) (w d : Int) : Int := if d + σ 14 w - 1 < 399 then d + σ 14 w - 1 else 399
noncomputable def ntcC (σ : Tb) (w : Int) : Int := cif (σ 12 w = 0) 3 (cif (σ 12 w = 1) 30 0)
noncomputable def dlyC (σ : Tb) (w : Int) : Int := cif (σ 16 w < σ 20 w) ((σ 20 w - σ 16 w) * σ 13 w) 0
abbrev rmX7_uses : Room := { frames := 0, cells := 0, slots := 0, locals := 0 }
set_option maxRecDepth 100000 in
set_option maxHeartbeats 4000000 in
theorem c_X7_uses {l : Launch} {D : va_G} {G : Nat → ClassId} {ad : Nat → Nat} {σ τ : Tb} (hi : kInj 189 ad) {w p : Int} (hw : 0 ≤ w ∧ w < 60) (hp : 0 ≤ p ∧ p < 40) (hm : 0 ≤ σ 17 w ∧ σ 17 w < 1099511627776) : Met l yX7_uses wsX7_uses rmX7_uses (kPc D (tysG G) 189 ad (CE G ad σ τ) [.ref (ad (69 + w.toNat)), .int (iI p)]) (kQi D 189 ad (fun z E' => z = bI (isOn σ w p) ∧ E' = CE G ad σ τ)) 0 0 (kA 189 ad) := by
  refine k_met (cc := cX7_uses) (maxL := 2) (ret := (some .boolean)) (by decide) (Nat.le_of_ble_eq_true rfl) ?_
  intro P0 e0 s m0 below meth c0 ls hx hb hr hlocks hml hown hts hK hP hS hl
  replace hl : lv_has ls 2 [(0, _), (1, _)] := hl
  replace hown : s.vm.findClass RX7 = some m0.cls := hown
  refine k_abs (fun Wg hWg => ?_)
  have h1 : (σ 17 w).toNat < 2 ^ 63 := by omega
  have h2 : 2 ^ p.toNat < 2 ^ 63 := Nat.pow_lt_pow_right (by decide) (by omega)
  refine lv_aload_n hx hb dX7_uses_0 rfl (lv_at hl 0 rfl) ?_
  refine r_get (C := RX7) (T := TX7) (N := 16) (ci := 7) hx hb hts hi_X7 hown hK hP 3 rfl (by decide) lk_X7_31 (fun _ h9 => h9) dX7_uses_1 (by omega) (CE_w (by omega)) rfl ?_
  refine r_lconst1 hx hb dX7_uses_4 ?_
  refine lv_iload_n hx hb dX7_uses_5 rfl (lv_at hl 1 rfl) ?_
  refine r_lshl1 hx hb dX7_uses_6 (by omega) ?_
  refine r_land hx hb dX7_uses_7 (by omega) (by omega) ?_
  refine r_lconst0 hx hb dX7_uses_8 ?_
  refine r_lcmp hx hb dX7_uses_9 (Nat.lt_of_le_of_lt Nat.and_le_left h1) (by decide) ?_
  refine r_if_eq (tgt := 17) hx hb (cmpN_r _ _) dX7_uses_10 (by decide) (fun c10 => ?_) (fun c10 => ?_)
  · refine r_const hx hb dX7_uses_17 ?_
    exact k_zret hx hb hr hlocks hP hS dX7_uses_18 (by omega) ⟨(bI_f (tb_and.mp (cmpN_0.mp c10))).symm, rfl⟩
  · refine r_const hx hb dX7_uses_13 ?_
    refine lv_goto (tgt := 18) hx hb dX7_uses_14 (by decide) ?_
    exact k_zret hx hb hr hlocks hP hS dX7_uses_18 (by omega) ⟨(bI_t (Classical.not_not.mp (fun q => c10 (cmpN_0.mpr (tb_and.mpr q))))).symm, rfl⟩
abbrev rmX7_isOpen : Room := { frames := 0, cells := 0, slots := 0, locals := 0 }
set_option maxRecDepth 100000 in
set_option maxHeartbeats 4000000 in
theorem c_X7_isOpen {l : Launch} {D : va_G} {G : Nat → ClassId} {ad : Nat → Nat} {σ τ : Tb} (hi : kInj 189 ad) {w : Int} (hw : 0 ≤ w ∧ w < 60) (hm : 0 ≤ σ 19 w ∧ σ 19 w ≤ 4) : Met l yX7_isOpen wsX7_isOpen rmX7_isOpen (kPc D (tysG G) 189 ad (CE G ad σ τ) [.ref (ad (69 + w.toNat))]) (kQi D 189 ad (fun z E' => z = bI (σ 19 w = 0 ∨ σ 19 w = 1) ∧ E' = CE G ad σ τ)) 0 0 (kA 189 ad) := by
  refine k_met (cc := cX7_isOpen) (maxL := 1) (ret := (some .boolean)) (by decide) (Nat.le_of_ble_eq_true rfl) ?_
  intro P0 e0 s m0 below meth c0 ls hx hb hr hlocks hml hown hts hK hP hS hl
  replace hl : lv_has ls 1 [(0, _)] := hl
  replace hown : s.vm.findClass RX7 = some m0.cls := hown
  refine k_abs (fun Wg hWg => ?_)
  refine lv_aload_n hx hb dX7_isOpen_0 rfl (lv_at hl 0 rfl) ?_
  refine r_get (C := RX7) (T := TX7) (N := 16) (ci := 7) hx hb hts hi_X7 hown hK hP 10 rfl (by decide) lk_X7_35 (fun _ h9 => h9) dX7_isOpen_1 (by omega) (CE_w (by omega)) rfl ?_
  refine r_if_eq (tgt := 15) hx hb (by omega) dX7_isOpen_4 (by decide) (fun c4 => ?_) (fun c4 => ?_)
  · refine r_const hx hb dX7_isOpen_15 ?_
    refine lv_goto (tgt := 20) hx hb dX7_isOpen_16 (by decide) ?_
    exact k_zret hx hb hr hlocks hP hS dX7_isOpen_20 (by omega) ⟨(bI_t (by omega)).symm, rfl⟩
  · refine lv_aload_n hx hb dX7_isOpen_7 rfl (lv_at hl 0 rfl) ?_
    refine r_get (C := RX7) (T := TX7) (N := 16) (ci := 7) hx hb hts hi_X7 hown hK hP 10 rfl (by decide) lk_X7_35 (fun _ h9 => h9) dX7_isOpen_8 (by omega) (CE_w (by omega)) rfl ?_
    refine r_const hx hb dX7_isOpen_11 ?_
    refine r_icmp_ne (tgt := 19) hx hb (by omega) (by omega) dX7_isOpen_12 (by decide) (fun c12 => ?_) (fun c12 => ?_)
    · refine r_const hx hb dX7_isOpen_19 ?_
      exact k_zret hx hb hr hlocks hP hS dX7_isOpen_20 (by omega) ⟨(bI_f (by omega)).symm, rfl⟩
    · refine r_const hx hb dX7_isOpen_15 ?_
      refine lv_goto (tgt := 20) hx hb dX7_isOpen_16 (by decide) ?_
      exact k_zret hx hb hr hlocks hP hS dX7_isOpen_20 (by omega) ⟨(bI_t (by omega)).symm, rfl⟩
abbrev rmX7_stands : Room := { frames := 0, cells := 0, slots := 0, locals := 0 }
set_option maxRecDepth 100000 in
set_option maxHeartbeats 4000000 in
theorem c_X7_stands {l : Launch} {D : va_G} {G : Nat → ClassId} {ad : Nat → Nat} {σ τ : Tb} (hi : kInj 189 ad) {w : Int} (hw : 0 ≤ w ∧ w < 60) (hm : 0 ≤ σ 19 w ∧ σ 19 w ≤ 4) : Met l yX7_stands wsX7_stands rmX7_stands (kPc D (tysG G) 189 ad (CE G ad σ τ) [.ref (ad (69 + w.toNat))]) (kQi D 189 ad (fun z E' => z = bI (hasD σ w) ∧ E' = CE G ad σ τ)) 0 0 (kA 189 ad) := by
  refine k_met (cc := cX7_stands) (maxL := 1) (ret := (some .boolean)) (by decide) (Nat.le_of_ble_eq_true rfl) ?_
  intro P0 e0 s m0 below meth c0 ls hx hb hr hlocks hml hown hts hK hP hS hl
  replace hl : lv_has ls 1 [(0, _)] := hl
  replace hown : s.vm.findClass RX7 = some m0.cls := hown
  refine k_abs (fun Wg hWg => ?_)
  refine lv_aload_n hx hb dX7_stands_0 rfl (lv_at hl 0 rfl) ?_
  refine r_get (C := RX7) (T := TX7) (N := 16) (ci := 7) hx hb hts hi_X7 hown hK hP 10 rfl (by decide) lk_X7_35 (fun _ h9 => h9) dX7_stands_1 (by omega) (CE_w (by omega)) rfl ?_
  refine r_const hx hb dX7_stands_4 ?_
  refine r_icmp_eq (tgt := 24) hx hb (by omega) (by omega) dX7_stands_5 (by decide) (fun c5 => ?_) (fun c5 => ?_)
  · refine r_const hx hb dX7_stands_24 ?_
    refine lv_goto (tgt := 29) hx hb dX7_stands_25 (by decide) ?_
    exact k_zret hx hb hr hlocks hP hS dX7_stands_29 (by omega) ⟨(bI_t (by unfold hasD; omega)).symm, rfl⟩
  · refine lv_aload_n hx hb dX7_stands_8 rfl (lv_at hl 0 rfl) ?_
    refine r_get (C := RX7) (T := TX7) (N := 16) (ci := 7) hx hb hts hi_X7 hown hK hP 10 rfl (by decide) lk_X7_35 (fun _ h9 => h9) dX7_stands_9 (by omega) (CE_w (by omega)) rfl ?_
    refine r_const hx hb dX7_stands_12 ?_
    refine r_icmp_eq (tgt := 24) hx hb (by omega) (by omega) dX7_stands_13 (by decide) (fun c13 => ?_) (fun c13 => ?_)
    · refine r_const hx hb dX7_stands_24 ?_
      refine lv_goto (tgt := 29) hx hb dX7_stands_25 (by decide) ?_
      exact k_zret hx hb hr hlocks hP hS dX7_stands_29 (by omega) ⟨(bI_t (by unfold hasD; omega)).symm, rfl⟩
    · refine lv_aload_n hx hb dX7_stands_16 rfl (lv_at hl 0 rfl) ?_
      refine r_get (C := RX7) (T := TX7) (N := 16) (ci := 7) hx hb hts hi_X7 hown hK hP 10 rfl (by decide) lk_X7_35 (fun _ h9 => h9) dX7_stands_17 (by omega) (CE_w (by omega)) rfl ?_
      refine r_const hx hb dX7_stands_20 ?_
      refine r_icmp_ne (tgt := 28) hx hb (by omega) (by omega) dX7_stands_21 (by decide) (fun c21 => ?_) (fun c21 => ?_)
      · refine r_const hx hb dX7_stands_28 ?_
        exact k_zret hx hb hr hlocks hP hS dX7_stands_29 (by omega) ⟨(bI_f (by unfold hasD; omega)).symm, rfl⟩
      · refine r_const hx hb dX7_stands_24 ?_
        refine lv_goto (tgt := 29) hx hb dX7_stands_25 (by decide) ?_
        exact k_zret hx hb hr hlocks hP hS dX7_stands_29 (by omega) ⟨(bI_t (by unfold hasD; omega)).symm, rfl⟩
abbrev rmX7_canBeJoined : Room := { frames := 1, cells := 0, slots := 0, locals := 20 }
set_option maxRecDepth 100000 in
set_option maxHeartbeats 4000000 in
theorem c_X7_canBeJoined {l : Launch} {D : va_G} {G : Nat → ClassId} {ad : Nat → Nat} {σ τ : Tb} (hi : kInj 189 ad) {w : Int} (hw : 0 ≤ w ∧ w < 60) (hm : 0 ≤ σ 19 w ∧ σ 19 w ≤ 4) (hs : 0 ≤ σ 12 w ∧ σ 12 w ≤ 3) (hj : -1 ≤ σ 23 w ∧ σ 23 w < 60) : Met l yX7_canBeJoined wsX7_canBeJoined rmX7_canBeJoined (kPc D (tysG G) 189 ad (CE G ad σ τ) [.ref (ad (69 + w.toNat))]) (kQi D 189 ad (fun z E' => z = bI (σ 12 w = 1 ∧ (σ 19 w = 0 ∨ σ 19 w = 1) ∧ σ 23 w < 0) ∧ E' = CE G ad σ τ)) 0 0 (kA 189 ad) := by
  refine k_met (cc := cX7_canBeJoined) (maxL := 1) (ret := (some .boolean)) (by decide) (Nat.le_of_ble_eq_true rfl) ?_
  intro P0 e0 s m0 below meth c0 ls hx hb hr hlocks hml hown hts hK hP hS hl
  replace hl : lv_has ls 1 [(0, _)] := hl
  replace hown : s.vm.findClass RX7 = some m0.cls := hown
  refine k_abs (fun Wg hWg => ?_)
  refine lv_aload_n hx hb dX7_canBeJoined_0 rfl (lv_at hl 0 rfl) ?_
  refine r_get (C := RX7) (T := TX7) (N := 16) (ci := 7) hx hb hts hi_X7 hown hK hP 5 rfl (by decide) lk_X7_38 (fun _ h9 => h9) dX7_canBeJoined_1 (by omega) (CE_w (by omega)) rfl ?_
  refine r_const hx hb dX7_canBeJoined_4 ?_
  refine r_icmp_ne (tgt := 26) hx hb (by omega) (by omega) dX7_canBeJoined_5 (by decide) (fun c5 => ?_) (fun c5 => ?_)
  · refine r_const hx hb dX7_canBeJoined_26 ?_
    exact k_zret hx hb hr hlocks hP hS dX7_canBeJoined_27 (by omega) ⟨(bI_f (by omega)).symm, rfl⟩
  · refine lv_aload_n hx hb dX7_canBeJoined_8 rfl (lv_at hl 0 rfl) ?_
    refine k_calliV (nL := 1) (C := RX7) (T := TX7) (N := 16) (ci := 7) hx hb hml hown hts hK hP hS hl.1 (c_X7_isOpen hi hw hm) rfl (Nat.le_of_ble_eq_true rfl) rfl (cwV 0 hts (gV lm_X7_41 ti_X7_isOpen tl_X7_isOpen tn_X7 tc_X7_isOpen) rfl rfl rfl (by decide +kernel) ⟨Nat.le_of_ble_eq_true rfl, Nat.le_of_ble_eq_true rfl⟩) rfl dX7_canBeJoined_9 ⟨Nat.zero_le _, Nat.zero_le _⟩ (by omega) (CE_w (by omega)) (fun r9 E1 H locs hq hP hS => ?_)
    obtain ⟨rfl, rfl⟩ := hq
    refine r_ifB_eq (tgt := 26) hx hb dX7_canBeJoined_12 (by decide) (fun c12 => ?_) (fun c12 => ?_)
    · refine r_const hx hb dX7_canBeJoined_26 ?_
      exact k_zret hx hb hr hlocks hP hS dX7_canBeJoined_27 (by omega) ⟨(bI_f (by omega)).symm, rfl⟩
    · refine lv_aload_n hx hb dX7_canBeJoined_15 rfl (lv_at hl 0 rfl) ?_
      refine r_get (C := RX7) (T := TX7) (N := 16) (ci := 7) hx hb hts hi_X7 hown hK hP 14 rfl (by decide) lk_X7_25 (fun _ h9 => h9) dX7_canBeJoined_16 (by omega) (CE_w (by omega)) rfl ?_
      refine r_if_ge (tgt := 26) hx hb (by omega) dX7_canBeJoined_19 (by decide) (fun c19 => ?_) (fun c19 => ?_)
      · refine r_const hx hb dX7_canBeJoined_26 ?_
        exact k_zret hx hb hr hlocks hP hS dX7_canBeJoined_27 (by omega) ⟨(bI_f (by omega)).symm, rfl⟩
      · refine r_const hx hb dX7_canBeJoined_22 ?_
        refine lv_goto (tgt := 27) hx hb dX7_canBeJoined_23 (by decide) ?_
        exact k_zret hx hb hr hlocks hP hS dX7_canBeJoined_27 (by omega) ⟨(bI_t (by omega)).symm, rfl⟩
abbrev rmX7_isBookedOn : Room := { frames := 1, cells := 0, slots := 0, locals := 21 }
set_option maxRecDepth 100000 in
set_option maxHeartbeats 4000000 in
theorem c_X7_isBookedOn {l : Launch} {D : va_G} {G : Nat → ClassId} {ad : Nat → Nat} {σ τ : Tb} (hi : kInj 189 ad) {w p : Int} (hw : 0 ≤ w ∧ w < 60) (hp : 0 ≤ p ∧ p < 40) (hm : 0 ≤ σ 17 w ∧ σ 17 w < 1099511627776) (hs : 0 ≤ σ 19 w ∧ σ 19 w ≤ 4) : Met l yX7_isBookedOn wsX7_isBookedOn rmX7_isBookedOn (kPc D (tysG G) 189 ad (CE G ad σ τ) [.ref (ad (69 + w.toNat)), .int (iI p)]) (kQi D 189 ad (fun z E' => z = bI ((σ 19 w = 2 ∨ σ 19 w = 3) ∧ isOn σ w p) ∧ E' = CE G ad σ τ)) 0 0 (kA 189 ad) := by
  refine k_met (cc := cX7_isBookedOn) (maxL := 2) (ret := (some .boolean)) (by decide) (Nat.le_of_ble_eq_true rfl) ?_
  intro P0 e0 s m0 below meth c0 ls hx hb hr hlocks hml hown hts hK hP hS hl
  replace hl : lv_has ls 2 [(0, _), (1, _)] := hl
  replace hown : s.vm.findClass RX7 = some m0.cls := hown
  refine k_abs (fun Wg hWg => ?_)
  have join16 : ∀  (H : Heap) (locs : List Loc) (ls : Array Slot), va_P D vwCl (kw 189 ad (CE G ad σ τ)) H → va_S (kA 189 ad) s.heap H locs → lv_has ls 2 [(0, .ref (ad (69 + w.toNat))), (1, .int (iI p))] → (σ 19 w = 2 ∨ σ 19 w = 3) → Wg H locs (F0 m0 16 ls []) := by
    intro  H locs ls hP hS hl hv16
    rw [hWg]
    refine lv_aload_n hx hb dX7_isBookedOn_16 rfl (lv_at hl 0 rfl) ?_
    refine lv_iload_n hx hb dX7_isBookedOn_17 rfl (lv_at hl 1 rfl) ?_
    refine k_calliV (nL := 2) (C := RX7) (T := TX7) (N := 16) (ci := 7) hx hb hml hown hts hK hP hS hl.1 (c_X7_uses hi hw hp hm) rfl (Nat.le_of_ble_eq_true rfl) rfl (cwV 1 hts (gV lm_X7_45 ti_X7_uses tl_X7_uses tn_X7 tc_X7_uses) rfl rfl rfl (by decide +kernel) ⟨Nat.le_of_ble_eq_true rfl, Nat.le_of_ble_eq_true rfl⟩) rfl dX7_isBookedOn_18 ⟨Nat.zero_le _, Nat.zero_le _⟩ (by omega) (CE_w (by omega)) (fun r18 E1 H locs hq hP hS => ?_)
    obtain ⟨rfl, rfl⟩ := hq
    refine r_ifB_eq (tgt := 28) hx hb dX7_isBookedOn_21 (by decide) (fun c21 => ?_) (fun c21 => ?_)
    · refine r_const hx hb dX7_isBookedOn_28 ?_
      exact k_zret hx hb hr hlocks hP hS dX7_isBookedOn_29 (by omega) ⟨(bI_f (fun q => c21 q.2)).symm, rfl⟩
    · refine r_const hx hb dX7_isBookedOn_24 ?_
      refine lv_goto (tgt := 29) hx hb dX7_isBookedOn_25 (by decide) ?_
      exact k_zret hx hb hr hlocks hP hS dX7_isBookedOn_29 (by omega) ⟨(bI_t ⟨hv16, c21⟩).symm, rfl⟩
  refine lv_aload_n hx hb dX7_isBookedOn_0 rfl (lv_at hl 0 rfl) ?_
  refine r_get (C := RX7) (T := TX7) (N := 16) (ci := 7) hx hb hts hi_X7 hown hK hP 10 rfl (by decide) lk_X7_35 (fun _ h9 => h9) dX7_isBookedOn_1 (by omega) (CE_w (by omega)) rfl ?_
  refine r_const hx hb dX7_isBookedOn_4 ?_
  refine r_icmp_eq (tgt := 16) hx hb (by omega) (by omega) dX7_isBookedOn_5 (by decide) (fun c5 => ?_) (fun c5 => ?_)
  · rw [← hWg]
    exact join16  _ _ _ hP hS hl (by omega)
  · refine lv_aload_n hx hb dX7_isBookedOn_8 rfl (lv_at hl 0 rfl) ?_
    refine r_get (C := RX7) (T := TX7) (N := 16) (ci := 7) hx hb hts hi_X7 hown hK hP 10 rfl (by decide) lk_X7_35 (fun _ h9 => h9) dX7_isBookedOn_9 (by omega) (CE_w (by omega)) rfl ?_
    refine r_const hx hb dX7_isBookedOn_12 ?_
    refine r_icmp_ne (tgt := 28) hx hb (by omega) (by omega) dX7_isBookedOn_13 (by decide) (fun c13 => ?_) (fun c13 => ?_)
    · refine r_const hx hb dX7_isBookedOn_28 ?_
      exact k_zret hx hb hr hlocks hP hS dX7_isBookedOn_29 (by omega) ⟨(bI_f (by omega)).symm, rfl⟩
    · rw [← hWg]
      exact join16  _ _ _ hP hS hl (by omega)
abbrev rmX7_lastFrom : Room := { frames := 1, cells := 0, slots := 0, locals := 21 }
set_option maxRecDepth 100000 in
set_option maxHeartbeats 4000000 in
theorem c_X7_lastFrom {l : Launch} {D : va_G} {G : Nat → ClassId} {ad : Nat → Nat} {σ τ : Tb} (hi : kInj 189 ad) {w d : Int} (hw : 0 ≤ w ∧ w < 60) (hd : -1000 ≤ d ∧ d < 1000) (hm : 0 ≤ σ 14 w ∧ σ 14 w ≤ 30) : Met l yX7_lastFrom wsX7_lastFrom rmX7_lastFrom (kPc D (tysG G) 189 ad (CE G ad σ τ) [.ref (ad (69 + w.toNat)), .int (iI d)]) (kQi D 189 ad (fun z E' => z = lstF σ w d ∧ E' = CE G ad σ τ)) 0 0 (kA 189 ad) := by
  refine k_met (cc := cX7_lastFrom) (maxL := 2) (ret := (some .int)) (by decide) (Nat.le_of_ble_eq_true rfl) ?_
  intro P0 e0 s m0 below meth c0 ls hx hb hr hlocks hml hown hts hK hP hS hl
  replace hl : lv_has ls 2 [(0, _), (1, _)] := hl
  replace hown : s.vm.findClass RX7 = some m0.cls := hown
  refine k_abs (fun Wg hWg => ?_)
  refine r_sipush hx hb dX7_lastFrom_0 (by decide +kernel) ?_
  refine lv_iload_n hx hb dX7_lastFrom_3 rfl (lv_at hl 1 rfl) ?_
  refine lv_aload_n hx hb dX7_lastFrom_4 rfl (lv_at hl 0 rfl) ?_
  refine r_get (C := RX7) (T := TX7) (N := 16) (ci := 7) hx hb hts hi_X7 hown hK hP 7 rfl (by decide) lk_X7_49 (fun _ h9 => h9) dX7_lastFrom_5 (by omega) (CE_w (by omega)) rfl ?_
  refine r_add hx hb dX7_lastFrom_8 ?_
  refine r_const hx hb dX7_lastFrom_9 ?_
  refine r_sub hx hb dX7_lastFrom_10 ?_
  refine r_mmin hx hb hml hl.1 hown hts mm_X7_52 (Nat.le_of_ble_eq_true rfl) (Nat.le_of_ble_eq_true rfl) ⟨Nat.zero_le _, Nat.zero_le _⟩ (by omega) (by omega) dX7_lastFrom_11 ?_
  exact k_iret hx hb hr hlocks hP hS dX7_lastFrom_14 ⟨rfl, rfl⟩
abbrev rmX7_placeAt : Room := { frames := 2, cells := 0, slots := 0, locals := 42 }
set_option maxRecDepth 100000 in
set_option maxHeartbeats 4000000 in
theorem c_X7_placeAt {l : Launch} {D : va_G} {G : Nat → ClassId} {ad : Nat → Nat} {σ τ : Tb} (hi : kInj 189 ad) {w d : Int} (hw : 0 ≤ w ∧ w < 60) (hd : -1000 ≤ d ∧ d < 1000) (hm : 0 ≤ σ 14 w ∧ σ 14 w ≤ 30) : Met l yX7_placeAt wsX7_placeAt rmX7_placeAt (kPc D (tysG G) 189 ad (CE G ad σ τ) [.ref (ad (69 + w.toNat)), .int (iI d)]) (kQv D 189 ad (fun E' => E' = CE G ad (up (up σ 20 w d) 21 w (lstF σ w d)) τ)) 0 0 (kA 189 ad) := by
  refine k_met (cc := cX7_placeAt) (maxL := 2) (ret := none) (by decide) (Nat.le_of_ble_eq_true rfl) ?_
  intro P0 e0 s m0 below meth c0 ls hx hb hr hlocks hml hown hts hK hP hS hl
  replace hl : lv_has ls 2 [(0, _), (1, _)] := hl
  replace hown : s.vm.findClass RX7 = some m0.cls := hown
  refine k_abs (fun Wg hWg => ?_)
  refine lv_aload_n hx hb dX7_placeAt_0 rfl (lv_at hl 0 rfl) ?_
  refine lv_iload_n hx hb dX7_placeAt_1 rfl (lv_at hl 1 rfl) ?_
  refine r_put (C := RX7) (T := TX7) (N := 16) (ci := 7) hx hb hi hts hi_X7 tyX7 tyX7_ok nmX7 hown hK hP hS 11 rfl (by decide) lk_X7_19 (fun _ h9 => h9) rfl (ty := .int) (by decide +kernel) rfl rfl dX7_placeAt_2 (by omega) (CE_w (by omega)) (Nat.le_of_ble_eq_true rfl) (cu_w_begin (by omega)) (fun H locs hP hS => ?_)
  refine lv_aload_n hx hb dX7_placeAt_5 rfl (lv_at hl 0 rfl) ?_
  refine lv_aload_n hx hb dX7_placeAt_6 rfl (lv_at hl 0 rfl) ?_
  refine lv_iload_n hx hb dX7_placeAt_7 rfl (lv_at hl 1 rfl) ?_
  refine k_calliV (nL := 2) (C := RX7) (T := TX7) (N := 16) (ci := 7) hx hb hml hown hts hK hP hS hl.1 (c_X7_lastFrom hi hw hd (by simpa [up] using hm)) rfl (Nat.le_of_ble_eq_true rfl) rfl (cwV 1 hts (gV lm_X7_58 ti_X7_lastFrom tl_X7_lastFrom tn_X7 tc_X7_lastFrom) rfl rfl rfl (by decide +kernel) ⟨Nat.le_of_ble_eq_true rfl, Nat.le_of_ble_eq_true rfl⟩) rfl dX7_placeAt_8 ⟨Nat.zero_le _, Nat.zero_le _⟩ (by omega) (CE_w (by omega)) (fun r8 E1 H locs hq hP hS => ?_)
  obtain ⟨rfl, rfl⟩ := hq
  refine r_put (C := RX7) (T := TX7) (N := 16) (ci := 7) hx hb hi hts hi_X7 tyX7 tyX7_ok nmX7 hown hK hP hS 12 rfl (by decide) lk_X7_22 (fun _ h9 => h9) rfl (ty := .int) (by decide +kernel) rfl rfl dX7_placeAt_11 (by omega) (CE_w (by omega)) (Nat.le_of_ble_eq_true rfl) (cu_w_last (by omega)) (fun H locs hP hS => ?_)
  exact k_vret hx hb hr hlocks hP hS dX7_placeAt_14 (by simp [lstF, up])
abbrev rmX7_notice : Room := { frames := 0, cells := 0, slots := 0, locals := 0 }
set_option maxRecDepth 100000 in
set_option maxHeartbeats 4000000 in
theorem c_X7_notice {l : Launch} {D : va_G} {G : Nat → ClassId} {ad : Nat → Nat} {σ τ : Tb} (hi : kInj 189 ad) {w : Int} (hw : 0 ≤ w ∧ w < 60) (hs : 0 ≤ σ 12 w ∧ σ 12 w ≤ 3) : Met l yX7_notice wsX7_notice rmX7_notice (kPc D (tysG G) 189 ad (CE G ad σ τ) [.ref (ad (69 + w.toNat))]) (kQi D 189 ad (fun z E' => z = ntcC σ w ∧ E' = CE G ad σ τ)) 0 0 (kA 189 ad) := by
  refine k_met (cc := cX7_notice) (maxL := 1) (ret := (some .int)) (by decide) (Nat.le_of_ble_eq_true rfl) ?_
  intro P0 e0 s m0 below meth c0 ls hx hb hr hlocks hml hown hts hK hP hS hl
  replace hl : lv_has ls 1 [(0, _)] := hl
  replace hown : s.vm.findClass RX7 = some m0.cls := hown
  refine k_abs (fun Wg hWg => ?_)
  refine lv_aload_n hx hb dX7_notice_0 rfl (lv_at hl 0 rfl) ?_
  refine r_get (C := RX7) (T := TX7) (N := 16) (ci := 7) hx hb hts hi_X7 hown hK hP 5 rfl (by decide) lk_X7_38 (fun _ h9 => h9) dX7_notice_1 (by omega) (CE_w (by omega)) rfl ?_
  refine r_if_ne (tgt := 11) hx hb (by omega) dX7_notice_4 (by decide) (fun c4 => ?_) (fun c4 => ?_)
  · refine lv_aload_n hx hb dX7_notice_11 rfl (lv_at hl 0 rfl) ?_
    refine r_get (C := RX7) (T := TX7) (N := 16) (ci := 7) hx hb hts hi_X7 hown hK hP 5 rfl (by decide) lk_X7_38 (fun _ h9 => h9) dX7_notice_12 (by omega) (CE_w (by omega)) rfl ?_
    refine r_const hx hb dX7_notice_15 ?_
    refine r_icmp_ne (tgt := 24) hx hb (by omega) (by omega) dX7_notice_16 (by decide) (fun c16 => ?_) (fun c16 => ?_)
    · refine r_const hx hb dX7_notice_24 ?_
      exact k_iret hx hb hr hlocks hP hS dX7_notice_25 ⟨by rw [ntcC, cif_f c4, cif_f c16], rfl⟩
    · refine r_bipush hx hb dX7_notice_19 (by decide +kernel) ?_
      refine lv_goto (tgt := 25) hx hb dX7_notice_21 (by decide) ?_
      exact k_iret hx hb hr hlocks hP hS dX7_notice_25 ⟨by rw [ntcC, cif_f c4, cif_t c16], rfl⟩
  · refine r_const hx hb dX7_notice_7 ?_
    refine lv_goto (tgt := 25) hx hb dX7_notice_8 (by decide) ?_
    exact k_iret hx hb hr hlocks hP hS dX7_notice_25 ⟨by rw [ntcC, cif_t c4], rfl⟩
abbrev rmX7_delay : Room := { frames := 0, cells := 0, slots := 0, locals := 0 }
set_option maxRecDepth 100000 in
set_option maxHeartbeats 4000000 in
theorem c_X7_delay {l : Launch} {D : va_G} {G : Nat → ClassId} {ad : Nat → Nat} {σ τ : Tb} (hi : kInj 189 ad) {w : Int} (hw : 0 ≤ w ∧ w < 60) (hb1 : -1000 ≤ σ 20 w ∧ σ 20 w ≤ 1000) (hb2 : -1000 ≤ σ 16 w ∧ σ 16 w ≤ 1000) : Met l yX7_delay wsX7_delay rmX7_delay (kPc D (tysG G) 189 ad (CE G ad σ τ) [.ref (ad (69 + w.toNat))]) (kQi D 189 ad (fun z E' => z = dlyC σ w ∧ E' = CE G ad σ τ)) 0 0 (kA 189 ad) := by
  refine k_met (cc := cX7_delay) (maxL := 1) (ret := (some .int)) (by decide) (Nat.le_of_ble_eq_true rfl) ?_
  intro P0 e0 s m0 below meth c0 ls hx hb hr hlocks hml hown hts hK hP hS hl
  replace hl : lv_has ls 1 [(0, _)] := hl
  replace hown : s.vm.findClass RX7 = some m0.cls := hown
  refine k_abs (fun Wg hWg => ?_)
  refine lv_aload_n hx hb dX7_delay_0 rfl (lv_at hl 0 rfl) ?_
  refine r_get (C := RX7) (T := TX7) (N := 16) (ci := 7) hx hb hts hi_X7 hown hK hP 11 rfl (by decide) lk_X7_19 (fun _ h9 => h9) dX7_delay_1 (by omega) (CE_w (by omega)) rfl ?_
  refine lv_aload_n hx hb dX7_delay_4 rfl (lv_at hl 0 rfl) ?_
  refine r_get (C := RX7) (T := TX7) (N := 16) (ci := 7) hx hb hts hi_X7 hown hK hP 9 rfl (by decide) lk_X7_62 (fun _ h9 => h9) dX7_delay_5 (by omega) (CE_w (by omega)) rfl ?_
  refine r_icmp_le (tgt := 28) hx hb (by omega) (by omega) dX7_delay_8 (by decide) (fun c8 => ?_) (fun c8 => ?_)
  · refine r_const hx hb dX7_delay_28 ?_
    exact k_iret hx hb hr hlocks hP hS dX7_delay_29 ⟨by rw [dlyC, cif_f (by omega)], rfl⟩
  · refine lv_aload_n hx hb dX7_delay_11 rfl (lv_at hl 0 rfl) ?_
    refine r_get (C := RX7) (T := TX7) (N := 16) (ci := 7) hx hb hts hi_X7 hown hK hP 11 rfl (by decide) lk_X7_19 (fun _ h9 => h9) dX7_delay_12 (by omega) (CE_w (by omega)) rfl ?_
    refine lv_aload_n hx hb dX7_delay_15 rfl (lv_at hl 0 rfl) ?_
    refine r_get (C := RX7) (T := TX7) (N := 16) (ci := 7) hx hb hts hi_X7 hown hK hP 9 rfl (by decide) lk_X7_62 (fun _ h9 => h9) dX7_delay_16 (by omega) (CE_w (by omega)) rfl ?_
    refine r_sub hx hb dX7_delay_19 ?_
    refine lv_aload_n hx hb dX7_delay_20 rfl (lv_at hl 0 rfl) ?_
    refine r_get (C := RX7) (T := TX7) (N := 16) (ci := 7) hx hb hts hi_X7 hown hK hP 6 rfl (by decide) lk_X7_65 (fun _ h9 => h9) dX7_delay_21 (by omega) (CE_w (by omega)) rfl ?_
    refine r_mul hx hb dX7_delay_24 ?_
    refine lv_goto (tgt := 29) hx hb dX7_delay_25 (by decide) ?_
    exact k_iret hx hb hr hlocks hP hS dX7_delay_29 ⟨by rw [dlyC, cif_t (by omega)], rfl⟩
end
section
theorem tQ_PQ {σ : Tb} {w k : Int} : tQ σ w k.toNat = iI (PQ σ w k) := rfl
theorem Inv_w {σ : Tb} (h : Inv σ) {w : Int} (hw : 0 ≤ w ∧ w < σ 0 2) : IN σ w ∧ IQ σ w ∧ IJ σ w := h.2.2.2.2.1 w hw.1 hw.2
theorem Inv_p {σ : Tb} (h : Inv σ) {p : Int} (hp : 0 ≤ p ∧ p < σ 0 0) : IP σ p := h.2.1 p hp.1 hp.2
theorem Inv_r {σ : Tb} (h : Inv σ) {k : Int} (hk : 0 ≤ k ∧ k < σ 0 1) : IR σ k := h.2.2.1 k hk.1 hk.2
theorem Inv_f {σ : Tb} (h : Inv σ) {d : Int} (hd : 0 ≤ d ∧ d < 400) : σ 10 d = 0 ∨ σ 10 d = 1 := h.2.2.2.1 d hd.1 hd.2
theorem Inv_0 {σ : Tb} (h : Inv σ) : (0 ≤ σ 0 0 ∧ σ 0 0 ≤ 40) ∧ (0 ≤ σ 0 1 ∧ σ 0 1 ≤ 8) ∧ (0 ≤ σ 0 2 ∧ σ 0 2 ≤ 60) ∧ (0 ≤ σ 0 3 ∧ σ 0 3 ≤ 399) ∧ (σ 0 4 = 0 ∨ σ 0 4 = 1) := h.1
/-- ranges of a work's begin and last -/
theorem IN_b {σ : Tb} (h : Inv σ) {w : Int} (hw : 0 ≤ w ∧ w < σ 0 2) : -1 ≤ σ 20 w ∧ σ 20 w ≤ 399 ∧ -1 ≤ σ 21 w ∧ σ 21 w ≤ 399 := by
  obtain ⟨⟨_, _, _, h4, _, _, h7, h8, h9, h10, h11, h12⟩, _⟩ := Inv_w h hw
  have h0 := Inv_0 h
  rcases (show σ 19 w = 0 ∨ σ 19 w = 1 ∨ σ 19 w = 2 ∨ σ 19 w = 3 ∨ σ 19 w = 4 by omega) with e | e | e | e | e
  · have := h8 e; omega
  · have := h10 e; omega
  · have := h11 e; omega
  · have := h12 e; omega
  · have := h9 e; omega
noncomputable def cntS (σ : Tb) (q : Int) : Int := sumI (fun o => bI (σ 19 o = q)) (σ 0 2)
noncomputable def rnkC (σ : Tb) (w : Int) : Int := sumI (fun k => σ 4 (PQ σ w k)) (σ 18 w)
noncomputable def cstC (σ : Tb) (w : Int) : Int := σ 14 w * (σ 18 w * (20 + 5 * σ 13 w) + 10 * rnkC σ w)
/-- a day that goes by, for the works below k -/
noncomputable def psS (σ : Tb) (o : Int) : Int := cif (σ 19 o = 2 ∧ σ 21 o < σ 0 3 + 1) 3 (cif (σ 19 o = 1 ∧ σ 20 o = σ 0 3 + 1) 2 (σ 19 o))
noncomputable def psN (σ : Tb) (k : Int) : Tb := fun t i => cif (t = 0 ∧ i = 3) (σ 0 3 + 1) (cif (t = 19 ∧ 0 ≤ i ∧ i < k) (psS σ i) (σ t i))
theorem psN_0 (σ : Tb) : up σ 0 3 (σ 0 3 + 1) = psN σ 0 := by
  funext t i
  unfold psN up
  by_cases h : t = 0 ∧ i = 3
  · rw [if_pos h, cif_t h]
  · rw [if_neg h, cif_f h, cif_f (by omega)]
theorem psN_s {σ : Tb} {k v : Int} (hk : 0 ≤ k) (hv : v = psS σ k) : up (psN σ k) 19 k v = psN σ (k + 1) := by
  funext t i
  unfold up
  by_cases h : t = 19 ∧ i = k
  · obtain ⟨rfl, rfl⟩ := h
    rw [if_pos ⟨rfl, rfl⟩]
    unfold psN
    rw [cif_f (by omega), cif_t (by omega), hv]
  · rw [if_neg h]
    unfold psN
    exact cif_c Iff.rfl (fun _ => rfl) (fun _ => cif_c (by omega) (fun _ => rfl) (fun _ => rfl))
theorem psN_k {σ : Tb} {k : Int} (hk : 0 ≤ k) (hv : σ 19 k = psS σ k) : psN σ k = psN σ (k + 1) := by
  funext t i
  unfold psN
  refine cif_c Iff.rfl (fun _ => rfl) (fun _ => ?_)
  by_cases h : t = 19 ∧ i = k
  · obtain ⟨rfl, rfl⟩ := h
    rw [cif_f (by omega), cif_t (by omega), hv]
  · exact cif_c (by omega) (fun _ => rfl) (fun _ => rfl)
theorem psN_o {σ : Tb} {k i : Int} {t : Nat} (h : ¬ (t = 0 ∧ i = 3)) (h2 : ¬ (t = 19 ∧ i < k)) : psN σ k t i = σ t i := by
  unfold psN
  rw [cif_f h, cif_f (by omega)]
theorem psN_d {σ : Tb} {k : Int} : psN σ k 0 3 = σ 0 3 + 1 := by
  unfold psN
  rw [cif_t ⟨rfl, rfl⟩]
noncomputable def drp (σ : Tb) (w : Int) : Tb := up (cif (0 ≤ σ 23 w ∧ σ 23 w < σ 0 2) (up (up (up (up σ 19 w 4) 20 w (-1)) 21 w (-1)) 23 (σ 23 w) (-1)) (up (up (up σ 19 w 4) 20 w (-1)) 21 w (-1))) 23 w (-1)
noncomputable def pmt (σ : Tb) (w d : Int) : Tb := up (up (up σ 20 w d) 21 w (lstF σ w d)) 19 w (cif (d = σ 0 3) 2 1)
noncomputable def bkA (σ : Tb) (p w : Int) : Int := sumI (fun o => bI (((σ 19 o = 2 ∨ σ 19 o = 3) ∧ isOn σ o p) ∧ (σ 20 o < σ 20 w ∨ (σ 20 o = σ 20 w ∧ o < w)))) (σ 0 2)
abbrev rmX8_within : Room := { frames := 0, cells := 0, slots := 0, locals := 0 }
set_option maxRecDepth 100000 in
set_option maxHeartbeats 4000000 in
theorem c_X8_within {l : Launch} {D : va_G} {G : Nat → ClassId} {ad : Nat → Nat} {σ τ : Tb} (hi : kInj 189 ad) {z a b : Int} (hz : (-2147483648 ≤ z ∧ z < 2147483648)) (ha : (-2147483648 ≤ a ∧ a < 2147483648)) (hb1 : (-2147483648 ≤ b ∧ b < 2147483648)) : Met l yX8_within wsX8_within rmX8_within (kPc D (tysG G) 189 ad (CE G ad σ τ) [.int (iI z), .int (iI a), .int (iI b)]) (kQi D 189 ad (fun r E' => r = bI (a ≤ z ∧ z ≤ b) ∧ E' = CE G ad σ τ)) 0 0 (kA 189 ad) := by
  refine k_met (cc := cX8_within) (maxL := 3) (ret := (some .boolean)) (by decide) (Nat.le_of_ble_eq_true rfl) ?_
  intro P0 e0 s m0 below meth c0 ls hx hb hr hlocks hml hown hts hK hP hS hl
  replace hl : lv_has ls 3 [(0, _), (1, _), (2, _)] := hl
  replace hown : s.vm.findClass RX8 = some m0.cls := hown
  refine k_abs (fun Wg hWg => ?_)
  refine lv_iload_n hx hb dX8_within_0 rfl (lv_at hl 0 rfl) ?_
  refine lv_iload_n hx hb dX8_within_1 rfl (lv_at hl 1 rfl) ?_
  refine r_icmp_lt (tgt := 14) hx hb (by omega) (by omega) dX8_within_2 (by decide) (fun c2 => ?_) (fun c2 => ?_)
  · refine r_const hx hb dX8_within_14 ?_
    exact k_zret hx hb hr hlocks hP hS dX8_within_15 (by omega) ⟨(bI_f (by omega)).symm, rfl⟩
  · refine lv_iload_n hx hb dX8_within_5 rfl (lv_at hl 0 rfl) ?_
    refine lv_iload_n hx hb dX8_within_6 rfl (lv_at hl 2 rfl) ?_
    refine r_icmp_gt (tgt := 14) hx hb (by omega) (by omega) dX8_within_7 (by decide) (fun c7 => ?_) (fun c7 => ?_)
    · refine r_const hx hb dX8_within_14 ?_
      exact k_zret hx hb hr hlocks hP hS dX8_within_15 (by omega) ⟨(bI_f (by omega)).symm, rfl⟩
    · refine r_const hx hb dX8_within_10 ?_
      refine lv_goto (tgt := 15) hx hb dX8_within_11 (by decide) ?_
      exact k_zret hx hb hr hlocks hP hS dX8_within_15 (by omega) ⟨(bI_t (by omega)).symm, rfl⟩
abbrev rmX8_isDay : Room := { frames := 1, cells := 0, slots := 0, locals := 22 }
set_option maxRecDepth 100000 in
set_option maxHeartbeats 4000000 in
theorem c_X8_isDay {l : Launch} {D : va_G} {G : Nat → ClassId} {ad : Nat → Nat} {σ τ : Tb} (hi : kInj 189 ad) {z : Int} (hz : (-2147483648 ≤ z ∧ z < 2147483648)) : Met l yX8_isDay wsX8_isDay rmX8_isDay (kPc D (tysG G) 189 ad (CE G ad σ τ) [.int (iI z)]) (kQi D 189 ad (fun r E' => r = bI (0 ≤ z ∧ z ≤ 399) ∧ E' = CE G ad σ τ)) 0 0 (kA 189 ad) := by
  refine k_met (cc := cX8_isDay) (maxL := 1) (ret := (some .boolean)) (by decide) (Nat.le_of_ble_eq_true rfl) ?_
  intro P0 e0 s m0 below meth c0 ls hx hb hr hlocks hml hown hts hK hP hS hl
  replace hl : lv_has ls 1 [(0, _)] := hl
  replace hown : s.vm.findClass RX8 = some m0.cls := hown
  refine k_abs (fun Wg hWg => ?_)
  refine lv_iload_n hx hb dX8_isDay_0 rfl (lv_at hl 0 rfl) ?_
  refine r_const hx hb dX8_isDay_1 ?_
  refine r_sipush hx hb dX8_isDay_2 (by decide +kernel) ?_
  refine k_calliS (nL := 1) hx hb hml hown hts hK hP hS hl.1 (c_X8_within hi hz (by omega) (by omega)) rfl (Nat.le_of_ble_eq_true rfl) (va_cwS 3 hts (gS lm_X8_54 ts_X8_within tn_X8 tc_X8_within) rfl rfl rfl (by decide +kernel) ⟨Nat.le_of_ble_eq_true rfl, Nat.le_of_ble_eq_true rfl⟩) rfl dX8_isDay_5 ⟨Nat.zero_le _, Nat.zero_le _⟩ (fun r5 E1 H locs hq hP hS => ?_)
  obtain ⟨rfl, rfl⟩ := hq
  exact k_zret hx hb hr hlocks hP hS dX8_isDay_8 (bI_01 _) ⟨rfl, rfl⟩
abbrev rmX8_areCrossings : Room := { frames := 1, cells := 0, slots := 0, locals := 22 }
set_option maxRecDepth 100000 in
set_option maxHeartbeats 4000000 in
theorem c_X8_areCrossings {l : Launch} {D : va_G} {G : Nat → ClassId} {ad : Nat → Nat} {σ τ : Tb} (hi : kInj 189 ad) {a b : Int} (ha : (-2147483648 ≤ a ∧ a < 2147483648)) (hb1 : (-2147483648 ≤ b ∧ b < 2147483648)) : Met l yX8_areCrossings wsX8_areCrossings rmX8_areCrossings (kPc D (tysG G) 189 ad (CE G ad σ τ) [.int (iI a), .int (iI b)]) (kQi D 189 ad (fun r E' => r = bI ((0 ≤ a ∧ a ≤ 19) ∧ (0 ≤ b ∧ b ≤ 19) ∧ a ≠ b) ∧ E' = CE G ad σ τ)) 0 0 (kA 189 ad) := by
  refine k_met (cc := cX8_areCrossings) (maxL := 2) (ret := (some .boolean)) (by decide) (Nat.le_of_ble_eq_true rfl) ?_
  intro P0 e0 s m0 below meth c0 ls hx hb hr hlocks hml hown hts hK hP hS hl
  replace hl : lv_has ls 2 [(0, _), (1, _)] := hl
  replace hown : s.vm.findClass RX8 = some m0.cls := hown
  refine k_abs (fun Wg hWg => ?_)
  refine lv_iload_n hx hb dX8_areCrossings_0 rfl (lv_at hl 0 rfl) ?_
  refine r_const hx hb dX8_areCrossings_1 ?_
  refine r_bipush hx hb dX8_areCrossings_2 (by decide +kernel) ?_
  refine k_calliS (nL := 2) hx hb hml hown hts hK hP hS hl.1 (c_X8_within hi ha (by omega) (by omega)) rfl (Nat.le_of_ble_eq_true rfl) (va_cwS 3 hts (gS lm_X8_54 ts_X8_within tn_X8 tc_X8_within) rfl rfl rfl (by decide +kernel) ⟨Nat.le_of_ble_eq_true rfl, Nat.le_of_ble_eq_true rfl⟩) rfl dX8_areCrossings_4 ⟨Nat.zero_le _, Nat.zero_le _⟩ (fun r4 E1 H locs hq hP hS => ?_)
  obtain ⟨rfl, rfl⟩ := hq
  refine r_ifB_eq (tgt := 29) hx hb dX8_areCrossings_7 (by decide) (fun c7 => ?_) (fun c7 => ?_)
  · refine r_const hx hb dX8_areCrossings_29 ?_
    exact k_zret hx hb hr hlocks hP hS dX8_areCrossings_30 (by omega) ⟨(bI_f (by omega)).symm, rfl⟩
  · refine lv_iload_n hx hb dX8_areCrossings_10 rfl (lv_at hl 1 rfl) ?_
    refine r_const hx hb dX8_areCrossings_11 ?_
    refine r_bipush hx hb dX8_areCrossings_12 (by decide +kernel) ?_
    refine k_calliS (nL := 2) hx hb hml hown hts hK hP hS hl.1 (c_X8_within hi hb1 (by omega) (by omega)) rfl (Nat.le_of_ble_eq_true rfl) (va_cwS 3 hts (gS lm_X8_54 ts_X8_within tn_X8 tc_X8_within) rfl rfl rfl (by decide +kernel) ⟨Nat.le_of_ble_eq_true rfl, Nat.le_of_ble_eq_true rfl⟩) rfl dX8_areCrossings_14 ⟨Nat.zero_le _, Nat.zero_le _⟩ (fun r14 E1 H locs hq hP hS => ?_)
    obtain ⟨rfl, rfl⟩ := hq
    refine r_ifB_eq (tgt := 29) hx hb dX8_areCrossings_17 (by decide) (fun c17 => ?_) (fun c17 => ?_)
    · refine r_const hx hb dX8_areCrossings_29 ?_
      exact k_zret hx hb hr hlocks hP hS dX8_areCrossings_30 (by omega) ⟨(bI_f (by omega)).symm, rfl⟩
    · refine lv_iload_n hx hb dX8_areCrossings_20 rfl (lv_at hl 0 rfl) ?_
      refine lv_iload_n hx hb dX8_areCrossings_21 rfl (lv_at hl 1 rfl) ?_
      refine r_icmp_eq (tgt := 29) hx hb (by omega) (by omega) dX8_areCrossings_22 (by decide) (fun c22 => ?_) (fun c22 => ?_)
      · refine r_const hx hb dX8_areCrossings_29 ?_
        exact k_zret hx hb hr hlocks hP hS dX8_areCrossings_30 (by omega) ⟨(bI_f (by omega)).symm, rfl⟩
      · refine r_const hx hb dX8_areCrossings_25 ?_
        refine lv_goto (tgt := 30) hx hb dX8_areCrossings_26 (by decide) ?_
        exact k_zret hx hb hr hlocks hP hS dX8_areCrossings_30 (by omega) ⟨(bI_t (by omega)).symm, rfl⟩
abbrev rmX5_hasPiece : Room := { frames := 0, cells := 0, slots := 0, locals := 0 }
set_option maxRecDepth 100000 in
set_option maxHeartbeats 4000000 in
theorem c_X5_hasPiece {l : Launch} {D : va_G} {G : Nat → ClassId} {ad : Nat → Nat} {σ τ : Tb} (hi : kInj 189 ad) {z : Int} (hz : (-2147483648 ≤ z ∧ z < 2147483648)) (hI : Inv σ) : Met l yX5_hasPiece wsX5_hasPiece rmX5_hasPiece (kPc D (tysG G) 189 ad (CE G ad σ τ) [.ref (ad 1), .int (iI z)]) (kQi D 189 ad (fun r E' => r = bI (0 ≤ z ∧ z < σ 0 0) ∧ E' = CE G ad σ τ)) 0 0 (kA 189 ad) := by
  refine k_met (cc := cX5_hasPiece) (maxL := 2) (ret := (some .boolean)) (by decide) (Nat.le_of_ble_eq_true rfl) ?_
  intro P0 e0 s m0 below meth c0 ls hx hb hr hlocks hml hown hts hK hP hS hl
  replace hl : lv_has ls 2 [(0, _), (1, _)] := hl
  replace hown : s.vm.findClass RX5 = some m0.cls := hown
  refine k_abs (fun Wg hWg => ?_)
  have h0 := Inv_0 hI
  refine lv_iload_n hx hb dX5_hasPiece_0 rfl (lv_at hl 1 rfl) ?_
  refine r_if_lt (tgt := 16) hx hb (by omega) dX5_hasPiece_1 (by decide) (fun c1 => ?_) (fun c1 => ?_)
  · refine r_const hx hb dX5_hasPiece_16 ?_
    exact k_zret hx hb hr hlocks hP hS dX5_hasPiece_17 (by omega) ⟨(bI_f (by omega)).symm, rfl⟩
  · refine lv_iload_n hx hb dX5_hasPiece_4 rfl (lv_at hl 1 rfl) ?_
    refine lv_aload_n hx hb dX5_hasPiece_5 rfl (lv_at hl 0 rfl) ?_
    refine r_get (C := RX5) (T := TX5) (N := 8) (ci := 5) hx hb hts hi_X5 hown hK hP 4 rfl (by decide) lk_X5_38 (fun _ h9 => h9) dX5_hasPiece_6 (by omega) CE_1 rfl ?_
    refine r_icmp_ge (tgt := 16) hx hb (by omega) (by omega) dX5_hasPiece_9 (by decide) (fun c9 => ?_) (fun c9 => ?_)
    · refine r_const hx hb dX5_hasPiece_16 ?_
      exact k_zret hx hb hr hlocks hP hS dX5_hasPiece_17 (by omega) ⟨(bI_f (by omega)).symm, rfl⟩
    · refine r_const hx hb dX5_hasPiece_12 ?_
      refine lv_goto (tgt := 17) hx hb dX5_hasPiece_13 (by decide) ?_
      exact k_zret hx hb hr hlocks hP hS dX5_hasPiece_17 (by omega) ⟨(bI_t (by omega)).symm, rfl⟩
abbrev rmX5_hasPair : Room := { frames := 0, cells := 0, slots := 0, locals := 0 }
set_option maxRecDepth 100000 in
set_option maxHeartbeats 4000000 in
theorem c_X5_hasPair {l : Launch} {D : va_G} {G : Nat → ClassId} {ad : Nat → Nat} {σ τ : Tb} (hi : kInj 189 ad) {z : Int} (hz : (-2147483648 ≤ z ∧ z < 2147483648)) (hI : Inv σ) : Met l yX5_hasPair wsX5_hasPair rmX5_hasPair (kPc D (tysG G) 189 ad (CE G ad σ τ) [.ref (ad 1), .int (iI z)]) (kQi D 189 ad (fun r E' => r = bI (0 ≤ z ∧ z < σ 0 1) ∧ E' = CE G ad σ τ)) 0 0 (kA 189 ad) := by
  refine k_met (cc := cX5_hasPair) (maxL := 2) (ret := (some .boolean)) (by decide) (Nat.le_of_ble_eq_true rfl) ?_
  intro P0 e0 s m0 below meth c0 ls hx hb hr hlocks hml hown hts hK hP hS hl
  replace hl : lv_has ls 2 [(0, _), (1, _)] := hl
  replace hown : s.vm.findClass RX5 = some m0.cls := hown
  refine k_abs (fun Wg hWg => ?_)
  have h0 := Inv_0 hI
  refine lv_iload_n hx hb dX5_hasPair_0 rfl (lv_at hl 1 rfl) ?_
  refine r_if_lt (tgt := 16) hx hb (by omega) dX5_hasPair_1 (by decide) (fun c1 => ?_) (fun c1 => ?_)
  · refine r_const hx hb dX5_hasPair_16 ?_
    exact k_zret hx hb hr hlocks hP hS dX5_hasPair_17 (by omega) ⟨(bI_f (by omega)).symm, rfl⟩
  · refine lv_iload_n hx hb dX5_hasPair_4 rfl (lv_at hl 1 rfl) ?_
    refine lv_aload_n hx hb dX5_hasPair_5 rfl (lv_at hl 0 rfl) ?_
    refine r_get (C := RX5) (T := TX5) (N := 8) (ci := 5) hx hb hts hi_X5 hown hK hP 5 rfl (by decide) lk_X5_42 (fun _ h9 => h9) dX5_hasPair_6 (by omega) CE_1 rfl ?_
    refine r_icmp_ge (tgt := 16) hx hb (by omega) (by omega) dX5_hasPair_9 (by decide) (fun c9 => ?_) (fun c9 => ?_)
    · refine r_const hx hb dX5_hasPair_16 ?_
      exact k_zret hx hb hr hlocks hP hS dX5_hasPair_17 (by omega) ⟨(bI_f (by omega)).symm, rfl⟩
    · refine r_const hx hb dX5_hasPair_12 ?_
      refine lv_goto (tgt := 17) hx hb dX5_hasPair_13 (by decide) ?_
      exact k_zret hx hb hr hlocks hP hS dX5_hasPair_17 (by omega) ⟨(bI_t (by omega)).symm, rfl⟩
abbrev rmX5_hasWork : Room := { frames := 0, cells := 0, slots := 0, locals := 0 }
set_option maxRecDepth 100000 in
set_option maxHeartbeats 4000000 in
theorem c_X5_hasWork {l : Launch} {D : va_G} {G : Nat → ClassId} {ad : Nat → Nat} {σ τ : Tb} (hi : kInj 189 ad) {z : Int} (hz : (-2147483648 ≤ z ∧ z < 2147483648)) (hn : 0 ≤ σ 0 2 ∧ σ 0 2 ≤ 60) : Met l yX5_hasWork wsX5_hasWork rmX5_hasWork (kPc D (tysG G) 189 ad (CE G ad σ τ) [.ref (ad 1), .int (iI z)]) (kQi D 189 ad (fun r E' => r = bI (0 ≤ z ∧ z < σ 0 2) ∧ E' = CE G ad σ τ)) 0 0 (kA 189 ad) := by
  refine k_met (cc := cX5_hasWork) (maxL := 2) (ret := (some .boolean)) (by decide) (Nat.le_of_ble_eq_true rfl) ?_
  intro P0 e0 s m0 below meth c0 ls hx hb hr hlocks hml hown hts hK hP hS hl
  replace hl : lv_has ls 2 [(0, _), (1, _)] := hl
  replace hown : s.vm.findClass RX5 = some m0.cls := hown
  refine k_abs (fun Wg hWg => ?_)
  refine lv_iload_n hx hb dX5_hasWork_0 rfl (lv_at hl 1 rfl) ?_
  refine r_if_lt (tgt := 16) hx hb (by omega) dX5_hasWork_1 (by decide) (fun c1 => ?_) (fun c1 => ?_)
  · refine r_const hx hb dX5_hasWork_16 ?_
    exact k_zret hx hb hr hlocks hP hS dX5_hasWork_17 (by omega) ⟨(bI_f (by omega)).symm, rfl⟩
  · refine lv_iload_n hx hb dX5_hasWork_4 rfl (lv_at hl 1 rfl) ?_
    refine lv_aload_n hx hb dX5_hasWork_5 rfl (lv_at hl 0 rfl) ?_
    refine r_get (C := RX5) (T := TX5) (N := 8) (ci := 5) hx hb hts hi_X5 hown hK hP 6 rfl (by decide) lk_X5_45 (fun _ h9 => h9) dX5_hasWork_6 (by omega) CE_1 rfl ?_
    refine r_icmp_ge (tgt := 16) hx hb (by omega) (by omega) dX5_hasWork_9 (by decide) (fun c9 => ?_) (fun c9 => ?_)
    · refine r_const hx hb dX5_hasWork_16 ?_
      exact k_zret hx hb hr hlocks hP hS dX5_hasWork_17 (by omega) ⟨(bI_f (by omega)).symm, rfl⟩
    · refine r_const hx hb dX5_hasWork_12 ?_
      refine lv_goto (tgt := 17) hx hb dX5_hasWork_13 (by decide) ?_
      exact k_zret hx hb hr hlocks hP hS dX5_hasWork_17 (by omega) ⟨(bI_t (by omega)).symm, rfl⟩
abbrev rmX5_worksIn : Room := { frames := 0, cells := 0, slots := 0, locals := 0 }
set_option maxRecDepth 100000 in
set_option maxHeartbeats 4000000 in
theorem c_X5_worksIn {l : Launch} {D : va_G} {G : Nat → ClassId} {ad : Nat → Nat} {σ τ : Tb} (hi : kInj 189 ad) {q : Int} (hq : (-2147483648 ≤ q ∧ q < 2147483648)) (hI : Inv σ) : Met l yX5_worksIn wsX5_worksIn rmX5_worksIn (kPc D (tysG G) 189 ad (CE G ad σ τ) [.ref (ad 1), .int (iI q)]) (kQi D 189 ad (fun r E' => r = cntS σ q ∧ E' = CE G ad σ τ)) 0 0 (kA 189 ad) := by
  refine k_met (cc := cX5_worksIn) (maxL := 4) (ret := (some .int)) (by decide) (Nat.le_of_ble_eq_true rfl) ?_
  intro P0 e0 s m0 below meth c0 ls hx hb hr hlocks hml hown hts hK hP hS hl
  replace hl : lv_has ls 4 [(0, _), (1, _)] := hl
  replace hown : s.vm.findClass RX5 = some m0.cls := hown
  refine k_abs (fun Wg hWg => ?_)
  have h0 := Inv_0 hI
  refine r_const hx hb dX5_worksIn_0 ?_
  refine lv_istore_n hx hb dX5_worksIn_1 rfl hl (by decide) rfl (fun ls hl => ?_)
  replace hl : lv_has ls 4 [(0, _), (1, _), (2, _)] := lv_sub hl [1, 2, 0] rfl
  refine r_const hx hb dX5_worksIn_2 ?_
  refine lv_istore_n hx hb dX5_worksIn_3 rfl hl (by decide) rfl (fun ls hl => ?_)
  replace hl : lv_has ls 4 [(0, _), (1, _), (2, _), (3, _)] := lv_sub hl [1, 2, 3, 0] rfl
  have loop4 : ∀ (n : Nat) (i c : Int) (H : Heap) (locs : List Loc) (ls : Array Slot), va_P D vwCl (kw 189 ad (CE G ad σ τ)) H → va_S (kA 189 ad) s.heap H locs → lv_has ls 4 [(0, .ref (ad 1)), (1, .int (iI q)), (2, .int (iI c)), (3, .int (iI i))] → ((0 ≤ i ∧ i ≤ σ 0 2) ∧ c = sumI (fun o => bI (σ 19 o = q)) i) → (σ 0 2 - i).toNat < n → Wg H locs (F0 m0 4 ls []) := by
    intro n
    induction n with
    | zero => intro i c H locs ls _ _ _ _ hn; omega
    | succ n ih4 =>
      intro i c H locs ls hP hS hl hv4 hn4
      rw [hWg]
      refine lv_iload_n hx hb dX5_worksIn_4 rfl (lv_at hl 3 rfl) ?_
      refine lv_aload_n hx hb dX5_worksIn_5 rfl (lv_at hl 0 rfl) ?_
      refine r_get (C := RX5) (T := TX5) (N := 8) (ci := 5) hx hb hts hi_X5 hown hK hP 6 rfl (by decide) lk_X5_45 (fun _ h9 => h9) dX5_worksIn_6 (by omega) CE_1 rfl ?_
      refine r_icmp_ge (tgt := 34) hx hb (by omega) (by omega) dX5_worksIn_9 (by decide) (fun c9 => ?_) (fun c9 => ?_)
      · refine lv_iload_n hx hb dX5_worksIn_34 rfl (lv_at hl 2 rfl) ?_
        exact k_iret hx hb hr hlocks hP hS dX5_worksIn_35 ⟨by rw [cntS, hv4.2, show i = σ 0 2 by omega], rfl⟩
      · obtain ⟨hN, _⟩ := Inv_w hI (w := i) (by omega)
        unfold IN at hN
        refine lv_aload_n hx hb dX5_worksIn_12 rfl (lv_at hl 0 rfl) ?_
        refine r_get (C := RX5) (T := TX5) (N := 8) (ci := 5) hx hb hts hi_X5 hown hK hP 2 rfl (by decide) lk_X5_25 (fun _ h9 => h9) dX5_worksIn_13 (by omega) CE_1 rfl ?_
        refine lv_iload_n hx hb dX5_worksIn_16 rfl (lv_at hl 3 rfl) ?_
        refine r_aald hx hb hK hP 5 rfl dX5_worksIn_17 (by omega) rfl (by omega) (by omega) rfl ?_
        refine r_get (C := RX7) (T := TX7) (N := 16) (ci := 7) hx hb hts hi_X7 hown hK hP 10 rfl (by decide) lk_X5_48 (fun _ h9 => h9) dX5_worksIn_18 (by omega) (CE_w (by omega)) rfl ?_
        refine lv_iload_n hx hb dX5_worksIn_21 rfl (lv_at hl 1 rfl) ?_
        refine r_icmp_ne (tgt := 28) hx hb (by omega) (by omega) dX5_worksIn_22 (by decide) (fun c22 => ?_) (fun c22 => ?_)
        · refine r_iinc hx hb dX5_worksIn_28 hl (k := 3) rfl (by decide) (fun ls hl => ?_)
          replace hl : lv_has ls 4 [(0, _), (1, _), (2, _), (3, _)] := lv_sub hl [1, 2, 3, 0] rfl
          refine lv_goto (tgt := 4) hx hb dX5_worksIn_31 (by decide) ?_
          rw [← hWg]
          exact ih4 (i + 1) c _ _ _ hP hS hl ⟨by omega, by rw [sumI_s (by omega), bI_f c22, hv4.2]; omega⟩ (by omega)
        · refine r_iinc hx hb dX5_worksIn_25 hl (k := 2) rfl (by decide) (fun ls hl => ?_)
          replace hl : lv_has ls 4 [(0, _), (1, _), (2, _), (3, _)] := lv_sub hl [1, 2, 0, 3] rfl
          refine r_iinc hx hb dX5_worksIn_28 hl (k := 3) rfl (by decide) (fun ls hl => ?_)
          replace hl : lv_has ls 4 [(0, _), (1, _), (2, _), (3, _)] := lv_sub hl [1, 2, 3, 0] rfl
          refine lv_goto (tgt := 4) hx hb dX5_worksIn_31 (by decide) ?_
          rw [← hWg]
          exact ih4 (i + 1) (c + 1) _ _ _ hP hS hl ⟨by omega, by rw [sumI_s (by omega), bI_t c22, hv4.2]⟩ (by omega)
  rw [← hWg]
  exact loop4 _ 0 0 _ _ _ hP hS hl ⟨by omega, sumI_0.symm⟩ (Nat.lt_succ_self _)
abbrev rmX5_permitFrom : Room := { frames := 3, cells := 0, slots := 0, locals := 63 }
set_option maxRecDepth 100000 in
set_option maxHeartbeats 4000000 in
theorem c_X5_permitFrom {l : Launch} {D : va_G} {G : Nat → ClassId} {ad : Nat → Nat} {σ τ : Tb} (hi : kInj 189 ad) {w d : Int} (hw : 0 ≤ w ∧ w < 60) (hd : -1000 ≤ d ∧ d < 1000) (hm : 0 ≤ σ 14 w ∧ σ 14 w ≤ 30) (ht : 0 ≤ σ 0 3 ∧ σ 0 3 ≤ 399) : Met l yX5_permitFrom wsX5_permitFrom rmX5_permitFrom (kPc D (tysG G) 189 ad (CE G ad σ τ) [.ref (ad 1), .ref (ad (69 + w.toNat)), .int (iI d)]) (kQv D 189 ad (fun E' => E' = CE G ad (pmt σ w d) τ)) 0 0 (kA 189 ad) := by
  refine k_met (cc := cX5_permitFrom) (maxL := 3) (ret := none) (by decide) (Nat.le_of_ble_eq_true rfl) ?_
  intro P0 e0 s m0 below meth c0 ls hx hb hr hlocks hml hown hts hK hP hS hl
  replace hl : lv_has ls 3 [(0, _), (1, _), (2, _)] := hl
  replace hown : s.vm.findClass RX5 = some m0.cls := hown
  refine k_abs (fun Wg hWg => ?_)
  refine lv_aload_n hx hb dX5_permitFrom_0 rfl (lv_at hl 1 rfl) ?_
  refine lv_iload_n hx hb dX5_permitFrom_1 rfl (lv_at hl 2 rfl) ?_
  refine k_callvV (nL := 3) (C := RX7) (T := TX7) (N := 16) (ci := 7) hx hb hml hown hts hK hP hS hl.1 (c_X7_placeAt hi hw hd hm) rfl (Nat.le_of_ble_eq_true rfl) rfl (cwV 1 hts (gV lm_X5_51 ti_X7_placeAt tl_X7_placeAt tn_X7 tc_X7_placeAt) rfl rfl rfl (by decide +kernel) ⟨Nat.le_of_ble_eq_true rfl, Nat.le_of_ble_eq_true rfl⟩) rfl dX5_permitFrom_2 ⟨Nat.zero_le _, Nat.zero_le _⟩ (by omega) (CE_w (by omega)) (fun E1 H locs hq hP hS => ?_)
  subst hq
  have e3 : up (up σ 20 w d) 21 w (lstF σ w d) 0 3 = σ 0 3 := by simp [up]
  refine lv_aload_n hx hb dX5_permitFrom_5 rfl (lv_at hl 1 rfl) ?_
  refine lv_iload_n hx hb dX5_permitFrom_6 rfl (lv_at hl 2 rfl) ?_
  refine lv_aload_n hx hb dX5_permitFrom_7 rfl (lv_at hl 0 rfl) ?_
  refine r_get (C := RX5) (T := TX5) (N := 8) (ci := 5) hx hb hts hi_X5 hown hK hP 7 rfl (by decide) lk_X5_54 (fun _ h9 => h9) dX5_permitFrom_8 (by omega) CE_1 rfl ?_
  refine r_icmp_ne (tgt := 18) hx hb (by omega) (by omega) dX5_permitFrom_11 (by decide) (fun c11 => ?_) (fun c11 => ?_)
  · refine r_const hx hb dX5_permitFrom_18 ?_
    refine r_put (C := RX7) (T := TX7) (N := 16) (ci := 7) hx hb hi hts hi_X7 tyX7 tyX7_ok nmX7 hown hK hP hS 10 rfl (by decide) lk_X5_48 (fun _ h9 => h9) rfl (ty := .int) (by decide +kernel) rfl rfl dX5_permitFrom_19 (by omega) (CE_w (by omega)) (Nat.le_of_ble_eq_true rfl) (cu_w_state (by omega)) (fun H locs hP hS => ?_)
    exact k_vret hx hb hr hlocks hP hS dX5_permitFrom_22 (by rw [pmt, cif_f (by simpa [up] using c11)])
  · refine r_const hx hb dX5_permitFrom_14 ?_
    refine lv_goto (tgt := 19) hx hb dX5_permitFrom_15 (by decide) ?_
    refine r_put (C := RX7) (T := TX7) (N := 16) (ci := 7) hx hb hi hts hi_X7 tyX7 tyX7_ok nmX7 hown hK hP hS 10 rfl (by decide) lk_X5_48 (fun _ h9 => h9) rfl (ty := .int) (by decide +kernel) rfl rfl dX5_permitFrom_19 (by omega) (CE_w (by omega)) (Nat.le_of_ble_eq_true rfl) (cu_w_state (by omega)) (fun H locs hP hS => ?_)
    exact k_vret hx hb hr hlocks hP hS dX5_permitFrom_22 (by rw [pmt, cif_t (by simpa [up] using c11)])
abbrev rmX5_drop : Room := { frames := 1, cells := 0, slots := 0, locals := 21 }
set_option maxRecDepth 100000 in
set_option maxHeartbeats 4000000 in
theorem c_X5_drop {l : Launch} {D : va_G} {G : Nat → ClassId} {ad : Nat → Nat} {σ τ : Tb} (hi : kInj 189 ad) {w : Int} (hw : 0 ≤ w ∧ w < 60) (hn : 0 ≤ σ 0 2 ∧ σ 0 2 ≤ 60) (hj : -1 ≤ σ 23 w ∧ σ 23 w < 60) : Met l yX5_drop wsX5_drop rmX5_drop (kPc D (tysG G) 189 ad (CE G ad σ τ) [.ref (ad 1), .ref (ad (69 + w.toNat))]) (kQv D 189 ad (fun E' => E' = CE G ad (drp σ w) τ)) 0 0 (kA 189 ad) := by
  refine k_met (cc := cX5_drop) (maxL := 2) (ret := none) (by decide) (Nat.le_of_ble_eq_true rfl) ?_
  intro P0 e0 s m0 below meth c0 ls hx hb hr hlocks hml hown hts hK hP hS hl
  replace hl : lv_has ls 2 [(0, _), (1, _)] := hl
  replace hown : s.vm.findClass RX5 = some m0.cls := hown
  refine k_abs (fun Wg hWg => ?_)
  refine lv_aload_n hx hb dX5_drop_0 rfl (lv_at hl 1 rfl) ?_
  refine r_const hx hb dX5_drop_1 ?_
  refine r_put (C := RX7) (T := TX7) (N := 16) (ci := 7) hx hb hi hts hi_X7 tyX7 tyX7_ok nmX7 hown hK hP hS 10 rfl (by decide) lk_X5_48 (fun _ h9 => h9) rfl (ty := .int) (by decide +kernel) rfl rfl dX5_drop_2 (by omega) (CE_w (by omega)) (Nat.le_of_ble_eq_true rfl) (cu_w_state (by omega)) (fun H locs hP hS => ?_)
  refine lv_aload_n hx hb dX5_drop_5 rfl (lv_at hl 1 rfl) ?_
  refine r_const hx hb dX5_drop_6 ?_
  refine r_put (C := RX7) (T := TX7) (N := 16) (ci := 7) hx hb hi hts hi_X7 tyX7 tyX7_ok nmX7 hown hK hP hS 11 rfl (by decide) lk_X5_57 (fun _ h9 => h9) rfl (ty := .int) (by decide +kernel) rfl rfl dX5_drop_7 (by omega) (CE_w (by omega)) (Nat.le_of_ble_eq_true rfl) (cu_w_begin (by omega)) (fun H locs hP hS => ?_)
  refine lv_aload_n hx hb dX5_drop_10 rfl (lv_at hl 1 rfl) ?_
  refine r_const hx hb dX5_drop_11 ?_
  refine r_put (C := RX7) (T := TX7) (N := 16) (ci := 7) hx hb hi hts hi_X7 tyX7 tyX7_ok nmX7 hown hK hP hS 12 rfl (by decide) lk_X5_60 (fun _ h9 => h9) rfl (ty := .int) (by decide +kernel) rfl rfl dX5_drop_12 (by omega) (CE_w (by omega)) (Nat.le_of_ble_eq_true rfl) (cu_w_last (by omega)) (fun H locs hP hS => ?_)
  refine lv_aload_n hx hb dX5_drop_15 rfl (lv_at hl 0 rfl) ?_
  refine lv_aload_n hx hb dX5_drop_16 rfl (lv_at hl 1 rfl) ?_
  refine r_get (C := RX7) (T := TX7) (N := 16) (ci := 7) hx hb hts hi_X7 hown hK hP 14 rfl (by decide) lk_X5_63 (fun _ h9 => h9) dX5_drop_17 (by omega) (CE_w (by omega)) rfl ?_
  refine k_calliV (nL := 2) (C := RX5) (T := TX5) (N := 8) (ci := 5) hx hb hml hown hts hK hP hS hl.1 (c_X5_hasWork hi (by simp [up]; omega) (by simpa [up] using hn)) rfl (Nat.le_of_ble_eq_true rfl) rfl (cwV 1 hts (gV lm_X5_66 ti_X5_hasWork tl_X5_hasWork tn_X5 tc_X5_hasWork) rfl rfl rfl (by decide +kernel) ⟨Nat.le_of_ble_eq_true rfl, Nat.le_of_ble_eq_true rfl⟩) rfl dX5_drop_20 ⟨Nat.zero_le _, Nat.zero_le _⟩ (by omega) CE_1 (fun r20 E1 H locs hq hP hS => ?_)
  obtain ⟨rfl, rfl⟩ := hq
  refine r_ifB_eq (tgt := 39) hx hb dX5_drop_23 (by decide) (fun c23 => ?_) (fun c23 => ?_)
  · refine lv_aload_n hx hb dX5_drop_39 rfl (lv_at hl 1 rfl) ?_
    refine r_const hx hb dX5_drop_40 ?_
    refine r_put (C := RX7) (T := TX7) (N := 16) (ci := 7) hx hb hi hts hi_X7 tyX7 tyX7_ok nmX7 hown hK hP hS 14 rfl (by decide) lk_X5_63 (fun _ h9 => h9) rfl (ty := .int) (by decide +kernel) rfl rfl dX5_drop_41 (by omega) (CE_w (by omega)) (Nat.le_of_ble_eq_true rfl) (cu_w_partner (by omega)) (fun H locs hP hS => ?_)
    exact k_vret hx hb hr hlocks hP hS dX5_drop_44 (by rw [drp, cif_f (by simpa [up] using c23)])
  · have e2 : up (up (up σ 19 w 4) 20 w (-1)) 21 w (-1) 0 2 = σ 0 2 := by simp [up]
    have e23 : up (up (up σ 19 w 4) 20 w (-1)) 21 w (-1) 23 w = σ 23 w := by simp [up]
    refine lv_aload_n hx hb dX5_drop_26 rfl (lv_at hl 0 rfl) ?_
    refine r_get (C := RX5) (T := TX5) (N := 8) (ci := 5) hx hb hts hi_X5 hown hK hP 2 rfl (by decide) lk_X5_25 (fun _ h9 => h9) dX5_drop_27 (by omega) CE_1 rfl ?_
    refine lv_aload_n hx hb dX5_drop_30 rfl (lv_at hl 1 rfl) ?_
    refine r_get (C := RX7) (T := TX7) (N := 16) (ci := 7) hx hb hts hi_X7 hown hK hP 14 rfl (by decide) lk_X5_63 (fun _ h9 => h9) dX5_drop_31 (by omega) (CE_w (by omega)) rfl ?_
    refine r_aald hx hb hK hP 5 rfl dX5_drop_34 (by omega) rfl (by omega) (by omega) rfl ?_
    refine r_const hx hb dX5_drop_35 ?_
    refine r_put (C := RX7) (T := TX7) (N := 16) (ci := 7) hx hb hi hts hi_X7 tyX7 tyX7_ok nmX7 hown hK hP hS 14 rfl (by decide) lk_X5_63 (fun _ h9 => h9) rfl (ty := .int) (by decide +kernel) rfl rfl dX5_drop_36 (by omega) (CE_w (by omega)) (Nat.le_of_ble_eq_true rfl) (cu_w_partner (by omega)) (fun H locs hP hS => ?_)
    refine lv_aload_n hx hb dX5_drop_39 rfl (lv_at hl 1 rfl) ?_
    refine r_const hx hb dX5_drop_40 ?_
    refine r_put (C := RX7) (T := TX7) (N := 16) (ci := 7) hx hb hi hts hi_X7 tyX7 tyX7_ok nmX7 hown hK hP hS 14 rfl (by decide) lk_X5_63 (fun _ h9 => h9) rfl (ty := .int) (by decide +kernel) rfl rfl dX5_drop_41 (by omega) (CE_w (by omega)) (Nat.le_of_ble_eq_true rfl) (cu_w_partner (by omega)) (fun H locs hP hS => ?_)
    exact k_vret hx hb hr hlocks hP hS dX5_drop_44 (by rw [drp, cif_t (by simpa [up] using c23)]; simp [up])
abbrev rmX5_passDay : Room := { frames := 0, cells := 0, slots := 0, locals := 0 }
set_option maxRecDepth 100000 in
set_option maxHeartbeats 4000000 in
theorem c_X5_passDay {l : Launch} {D : va_G} {G : Nat → ClassId} {ad : Nat → Nat} {σ τ : Tb} (hi : kInj 189 ad) (hI : Inv σ) : Met l yX5_passDay wsX5_passDay rmX5_passDay (kPc D (tysG G) 189 ad (CE G ad σ τ) [.ref (ad 1)]) (kQv D 189 ad (fun E' => E' = CE G ad (psN σ (σ 0 2)) τ)) 0 0 (kA 189 ad) := by
  refine k_met (cc := cX5_passDay) (maxL := 3) (ret := none) (by decide) (Nat.le_of_ble_eq_true rfl) ?_
  intro P0 e0 s m0 below meth c0 ls hx hb hr hlocks hml hown hts hK hP hS hl
  replace hl : lv_has ls 3 [(0, _)] := hl
  replace hown : s.vm.findClass RX5 = some m0.cls := hown
  refine k_abs (fun Wg hWg => ?_)
  have h0 := Inv_0 hI
  refine lv_aload_n hx hb dX5_passDay_0 rfl (lv_at hl 0 rfl) ?_
  refine lv_dup hx hb dX5_passDay_1 rfl ?_
  refine r_get (C := RX5) (T := TX5) (N := 8) (ci := 5) hx hb hts hi_X5 hown hK hP 7 rfl (by decide) lk_X5_54 (fun _ h9 => h9) dX5_passDay_2 (by omega) CE_1 rfl ?_
  refine r_const hx hb dX5_passDay_5 ?_
  refine r_add hx hb dX5_passDay_6 ?_
  refine r_put (C := RX5) (T := TX5) (N := 8) (ci := 5) hx hb hi hts hi_X5 tyX5 tyX5_ok nmX5 hown hK hP hS 7 rfl (by decide) lk_X5_54 (fun _ h9 => h9) rfl (ty := .int) (by decide +kernel) rfl rfl dX5_passDay_7 (by omega) CE_1 (Nat.le_of_ble_eq_true rfl) cu_today (fun H locs hP hS => ?_)
  refine r_const hx hb dX5_passDay_10 ?_
  refine lv_istore_n hx hb dX5_passDay_11 rfl hl (by decide) rfl (fun ls hl => ?_)
  replace hl : lv_has ls 3 [(0, _), (1, _)] := lv_sub hl [1, 0] rfl
  have loop12 : ∀ (n : Nat) (i : Int) (H : Heap) (locs : List Loc) (ls : Array Slot), va_P D vwCl (kw 189 ad (CE G ad (psN σ i) τ)) H → va_S (kA 189 ad) s.heap H locs → lv_has ls 3 [(0, .ref (ad 1)), (1, .int (iI i))] → (0 ≤ i ∧ i ≤ σ 0 2) → (σ 0 2 - i).toNat < n → Wg H locs (F0 m0 12 ls []) := by
    intro n
    induction n with
    | zero => intro i H locs ls _ _ _ _ hn; omega
    | succ n ih12 =>
      intro i H locs ls hP hS hl hv12 hn12
      rw [hWg]
      have e2 : psN σ i 0 2 = σ 0 2 := psN_o (by omega) (by omega)
      refine lv_iload_n hx hb dX5_passDay_12 rfl (lv_at hl 1 rfl) ?_
      refine lv_aload_n hx hb dX5_passDay_13 rfl (lv_at hl 0 rfl) ?_
      refine r_get (C := RX5) (T := TX5) (N := 8) (ci := 5) hx hb hts hi_X5 hown hK hP 6 rfl (by decide) lk_X5_45 (fun _ h9 => h9) dX5_passDay_14 (by omega) CE_1 rfl ?_
      refine r_icmp_ge (tgt := 81) hx hb (by omega) (by omega) dX5_passDay_17 (by decide) (fun c17 => ?_) (fun c17 => ?_)
      · exact k_vret hx hb hr hlocks hP hS dX5_passDay_81 (by rw [show i = σ 0 2 by omega])
      · rw [e2] at c17
        obtain ⟨hN, _⟩ := Inv_w hI (w := i) (by omega)
        have hB := IN_b hI (w := i) (by omega)
        unfold IN at hN
        have e19 : psN σ i 19 i = σ 19 i := psN_o (by omega) (by omega)
        have e20 : psN σ i 20 i = σ 20 i := psN_o (by omega) (by omega)
        have e21 : psN σ i 21 i = σ 21 i := psN_o (by omega) (by omega)
        have e3 : psN σ i 0 3 = σ 0 3 + 1 := psN_d
        have join75 : ∀  (H : Heap) (locs : List Loc) (ls : Array Slot), va_P D vwCl (kw 189 ad (CE G ad (psN σ (i + 1)) τ)) H → va_S (kA 189 ad) s.heap H locs → lv_has ls 3 [(0, .ref (ad 1)), (1, .int (iI i))] → (True) → Wg H locs (F0 m0 75 ls []) := by
          intro  H locs ls hP hS hl hv75
          rw [hWg]
          refine r_iinc hx hb dX5_passDay_75 hl (k := 1) rfl (by decide) (fun ls hl => ?_)
          replace hl : lv_has ls 3 [(0, _), (1, _)] := lv_sub hl [1, 0] rfl
          refine lv_goto (tgt := 12) hx hb dX5_passDay_78 (by decide) ?_
          rw [← hWg]
          exact ih12 (i + 1) _ _ _ hP hS hl (by omega) (by omega)
        have join51 : ∀  (H : Heap) (locs : List Loc) (ls : Array Slot), va_P D vwCl (kw 189 ad (CE G ad (psN σ i) τ)) H → va_S (kA 189 ad) s.heap H locs → lv_has ls 3 [(0, .ref (ad 1)), (1, .int (iI i)), (2, .ref (ad (69 + i.toNat)))] → (¬ (σ 19 i = 2 ∧ σ 21 i < σ 0 3 + 1)) → Wg H locs (F0 m0 51 ls []) := by
          intro  H locs ls hP hS hl hv51
          rw [hWg]
          refine lv_aload_n hx hb dX5_passDay_51 rfl (lv_at hl 2 rfl) ?_
          refine r_get (C := RX7) (T := TX7) (N := 16) (ci := 7) hx hb hts hi_X7 hown hK hP 10 rfl (by decide) lk_X5_48 (fun _ h9 => h9) dX5_passDay_52 (by omega) (CE_w (by omega)) rfl ?_
          refine r_const hx hb dX5_passDay_55 ?_
          refine r_icmp_ne (tgt := 75) hx hb (by omega) (by omega) dX5_passDay_56 (by decide) (fun c56 => ?_) (fun c56 => ?_)
          · rw [psN_k (by omega) (by rw [psS, cif_f hv51, cif_f (by omega)])] at hP
            rw [← hWg]
            exact join75  _ _ _ hP hS (lv_sub hl [0, 1] rfl) trivial
          · refine lv_aload_n hx hb dX5_passDay_59 rfl (lv_at hl 2 rfl) ?_
            refine r_get (C := RX7) (T := TX7) (N := 16) (ci := 7) hx hb hts hi_X7 hown hK hP 11 rfl (by decide) lk_X5_57 (fun _ h9 => h9) dX5_passDay_60 (by omega) (CE_w (by omega)) rfl ?_
            refine lv_aload_n hx hb dX5_passDay_63 rfl (lv_at hl 0 rfl) ?_
            refine r_get (C := RX5) (T := TX5) (N := 8) (ci := 5) hx hb hts hi_X5 hown hK hP 7 rfl (by decide) lk_X5_54 (fun _ h9 => h9) dX5_passDay_64 (by omega) CE_1 rfl ?_
            refine r_icmp_ne (tgt := 75) hx hb (by omega) (by omega) dX5_passDay_67 (by decide) (fun c67 => ?_) (fun c67 => ?_)
            · rw [psN_k (by omega) (by rw [psS, cif_f hv51, cif_f (by omega)])] at hP
              rw [← hWg]
              exact join75  _ _ _ hP hS (lv_sub hl [0, 1] rfl) trivial
            · refine lv_aload_n hx hb dX5_passDay_70 rfl (lv_at hl 2 rfl) ?_
              refine r_const hx hb dX5_passDay_71 ?_
              refine r_put (C := RX7) (T := TX7) (N := 16) (ci := 7) hx hb hi hts hi_X7 tyX7 tyX7_ok nmX7 hown hK hP hS 10 rfl (by decide) lk_X5_48 (fun _ h9 => h9) rfl (ty := .int) (by decide +kernel) rfl rfl dX5_passDay_72 (by omega) (CE_w (by omega)) (Nat.le_of_ble_eq_true rfl) (cu_w_state (by omega)) (fun H locs hP hS => ?_)
              rw [psN_s (by omega) (by rw [psS, cif_f hv51, cif_t (by omega)])] at hP
              rw [← hWg]
              exact join75  _ _ _ hP hS (lv_sub hl [0, 1] rfl) trivial
        refine lv_aload_n hx hb dX5_passDay_20 rfl (lv_at hl 0 rfl) ?_
        refine r_get (C := RX5) (T := TX5) (N := 8) (ci := 5) hx hb hts hi_X5 hown hK hP 2 rfl (by decide) lk_X5_25 (fun _ h9 => h9) dX5_passDay_21 (by omega) CE_1 rfl ?_
        refine lv_iload_n hx hb dX5_passDay_24 rfl (lv_at hl 1 rfl) ?_
        refine r_aald hx hb hK hP 5 rfl dX5_passDay_25 (by omega) rfl (by omega) (by omega) rfl ?_
        refine lv_astore_n hx hb dX5_passDay_26 rfl hl (by decide) rfl (fun ls hl => ?_)
        replace hl : lv_has ls 3 [(0, _), (1, _), (2, _)] := lv_sub hl [1, 2, 0] rfl
        refine lv_aload_n hx hb dX5_passDay_27 rfl (lv_at hl 2 rfl) ?_
        refine r_get (C := RX7) (T := TX7) (N := 16) (ci := 7) hx hb hts hi_X7 hown hK hP 10 rfl (by decide) lk_X5_48 (fun _ h9 => h9) dX5_passDay_28 (by omega) (CE_w (by omega)) rfl ?_
        refine r_const hx hb dX5_passDay_31 ?_
        refine r_icmp_ne (tgt := 51) hx hb (by omega) (by omega) dX5_passDay_32 (by decide) (fun c32 => ?_) (fun c32 => ?_)
        · rw [← hWg]
          exact join51  _ _ _ hP hS hl (by omega)
        · refine lv_aload_n hx hb dX5_passDay_35 rfl (lv_at hl 2 rfl) ?_
          refine r_get (C := RX7) (T := TX7) (N := 16) (ci := 7) hx hb hts hi_X7 hown hK hP 12 rfl (by decide) lk_X5_60 (fun _ h9 => h9) dX5_passDay_36 (by omega) (CE_w (by omega)) rfl ?_
          refine lv_aload_n hx hb dX5_passDay_39 rfl (lv_at hl 0 rfl) ?_
          refine r_get (C := RX5) (T := TX5) (N := 8) (ci := 5) hx hb hts hi_X5 hown hK hP 7 rfl (by decide) lk_X5_54 (fun _ h9 => h9) dX5_passDay_40 (by omega) CE_1 rfl ?_
          refine r_icmp_ge (tgt := 51) hx hb (by omega) (by omega) dX5_passDay_43 (by decide) (fun c43 => ?_) (fun c43 => ?_)
          · rw [← hWg]
            exact join51  _ _ _ hP hS hl (by omega)
          · refine lv_aload_n hx hb dX5_passDay_46 rfl (lv_at hl 2 rfl) ?_
            refine r_const hx hb dX5_passDay_47 ?_
            refine r_put (C := RX7) (T := TX7) (N := 16) (ci := 7) hx hb hi hts hi_X7 tyX7 tyX7_ok nmX7 hown hK hP hS 10 rfl (by decide) lk_X5_48 (fun _ h9 => h9) rfl (ty := .int) (by decide +kernel) rfl rfl dX5_passDay_48 (by omega) (CE_w (by omega)) (Nat.le_of_ble_eq_true rfl) (cu_w_state (by omega)) (fun H locs hP hS => ?_)
            rw [psN_s (by omega) (by rw [psS, cif_t (by omega)])] at hP
            have e19 : psN σ (i + 1) 19 i = 3 := by rw [← psN_s (v := 3) (by omega) (by rw [psS, cif_t (by omega)])]; simp [up]
            refine lv_aload_n hx hb dX5_passDay_51 rfl (lv_at hl 2 rfl) ?_
            refine r_get (C := RX7) (T := TX7) (N := 16) (ci := 7) hx hb hts hi_X7 hown hK hP 10 rfl (by decide) lk_X5_48 (fun _ h9 => h9) dX5_passDay_52 (by omega) (CE_w (by omega)) rfl ?_
            refine r_const hx hb dX5_passDay_55 ?_
            refine r_icmp_ne (tgt := 75) hx hb (by omega) (by omega) dX5_passDay_56 (by decide) (fun c56 => ?_) (fun c56 => ?_)
            · rw [← hWg]
              exact join75  _ _ _ hP hS (lv_sub hl [0, 1] rfl) trivial
            · omega
  have hP : va_P D vwCl (kw 189 ad (CE G ad (psN σ 0) τ)) H := by rw [← psN_0]; exact hP
  rw [← hWg]
  exact loop12 _ 0 _ _ _ hP hS hl (by omega) (Nat.lt_succ_self _)
abbrev rmX5_ranks : Room := { frames := 0, cells := 0, slots := 0, locals := 0 }
set_option maxRecDepth 100000 in
set_option maxHeartbeats 4000000 in
theorem c_X5_ranks {l : Launch} {D : va_G} {G : Nat → ClassId} {ad : Nat → Nat} {σ τ : Tb} (hi : kInj 189 ad) {w : Int} (hI : Inv σ) (hw : 0 ≤ w ∧ w < σ 0 2) : Met l yX5_ranks wsX5_ranks rmX5_ranks (kPc D (tysG G) 189 ad (CE G ad σ τ) [.ref (ad 1), .ref (ad (69 + w.toNat))]) (kQi D 189 ad (fun r E' => r = rnkC σ w ∧ E' = CE G ad σ τ)) 0 0 (kA 189 ad) := by
  refine k_met (cc := cX5_ranks) (maxL := 4) (ret := (some .int)) (by decide) (Nat.le_of_ble_eq_true rfl) ?_
  intro P0 e0 s m0 below meth c0 ls hx hb hr hlocks hml hown hts hK hP hS hl
  replace hl : lv_has ls 4 [(0, _), (1, _)] := hl
  replace hown : s.vm.findClass RX5 = some m0.cls := hown
  refine k_abs (fun Wg hWg => ?_)
  have h0 := Inv_0 hI
  obtain ⟨_, ⟨hq1, hq2, hq3, _⟩, _⟩ := Inv_w hI hw
  refine r_const hx hb dX5_ranks_0 ?_
  refine lv_istore_n hx hb dX5_ranks_1 rfl hl (by decide) rfl (fun ls hl => ?_)
  replace hl : lv_has ls 4 [(0, _), (1, _), (2, _)] := lv_sub hl [1, 2, 0] rfl
  refine r_const hx hb dX5_ranks_2 ?_
  refine lv_istore_n hx hb dX5_ranks_3 rfl hl (by decide) rfl (fun ls hl => ?_)
  replace hl : lv_has ls 4 [(0, _), (1, _), (2, _), (3, _)] := lv_sub hl [1, 2, 3, 0] rfl
  have loop4 : ∀ (n : Nat) (i c : Int) (H : Heap) (locs : List Loc) (ls : Array Slot), va_P D vwCl (kw 189 ad (CE G ad σ τ)) H → va_S (kA 189 ad) s.heap H locs → lv_has ls 4 [(0, .ref (ad 1)), (1, .ref (ad (69 + w.toNat))), (2, .int (iI c)), (3, .int (iI i))] → ((0 ≤ i ∧ i ≤ σ 18 w) ∧ c = sumI (fun k => σ 4 (PQ σ w k)) i) → (σ 18 w - i).toNat < n → Wg H locs (F0 m0 4 ls []) := by
    intro n
    induction n with
    | zero => intro i c H locs ls _ _ _ _ hn; omega
    | succ n ih4 =>
      intro i c H locs ls hP hS hl hv4 hn4
      rw [hWg]
      refine lv_iload_n hx hb dX5_ranks_4 rfl (lv_at hl 3 rfl) ?_
      refine lv_aload_n hx hb dX5_ranks_5 rfl (lv_at hl 1 rfl) ?_
      refine r_get (C := RX7) (T := TX7) (N := 16) (ci := 7) hx hb hts hi_X7 hown hK hP 2 rfl (by decide) lk_X5_70 (fun _ h9 => h9) dX5_ranks_6 (by omega) (CE_w (by omega)) rfl ?_
      refine r_icmp_ge (tgt := 35) hx hb (by omega) (by omega) dX5_ranks_9 (by decide) (fun c9 => ?_) (fun c9 => ?_)
      · refine lv_iload_n hx hb dX5_ranks_35 rfl (lv_at hl 2 rfl) ?_
        exact k_iret hx hb hr hlocks hP hS dX5_ranks_36 ⟨by rw [rnkC, hv4.2, show i = σ 18 w by omega], rfl⟩
      · have hp := (hq3 i (by omega) (by omega)).1
        refine lv_iload_n hx hb dX5_ranks_12 rfl (lv_at hl 2 rfl) ?_
        refine lv_aload_n hx hb dX5_ranks_13 rfl (lv_at hl 0 rfl) ?_
        refine r_get (C := RX5) (T := TX5) (N := 8) (ci := 5) hx hb hts hi_X5 hown hK hP 0 rfl (by decide) lk_X5_11 (fun _ h9 => h9) dX5_ranks_14 (by omega) CE_1 rfl ?_
        refine lv_aload_n hx hb dX5_ranks_17 rfl (lv_at hl 1 rfl) ?_
        refine r_get (C := RX7) (T := TX7) (N := 16) (ci := 7) hx hb hts hi_X7 hown hK hP 1 rfl (by decide) lk_X5_73 (fun _ h9 => h9) dX5_ranks_18 (by omega) (CE_w (by omega)) rfl ?_
        refine lv_iload_n hx hb dX5_ranks_21 rfl (lv_at hl 3 rfl) ?_
        refine r_iald hx hb hK hP 0 rfl dX5_ranks_22 (by omega) (CE_q (by omega)) (by omega) (by omega) tQ_PQ ?_
        refine r_aald hx hb hK hP 4 rfl dX5_ranks_23 (by omega) rfl (by omega) (by omega) rfl ?_
        refine r_get (C := RX2) (T := TX2) (N := 6) (ci := 2) hx hb hts hi_X2 hown hK hP 3 rfl (by decide) lk_X5_76 (fun _ h9 => h9) dX5_ranks_24 (by omega) (CE_p (by omega)) rfl ?_
        refine r_add hx hb dX5_ranks_27 ?_
        refine lv_istore_n hx hb dX5_ranks_28 rfl hl (by decide) rfl (fun ls hl => ?_)
        replace hl : lv_has ls 4 [(0, _), (1, _), (2, _), (3, _)] := lv_sub hl [1, 2, 0, 3] rfl
        refine r_iinc hx hb dX5_ranks_29 hl (k := 3) rfl (by decide) (fun ls hl => ?_)
        replace hl : lv_has ls 4 [(0, _), (1, _), (2, _), (3, _)] := lv_sub hl [1, 2, 3, 0] rfl
        refine lv_goto (tgt := 4) hx hb dX5_ranks_32 (by decide) ?_
        rw [← hWg]
        exact ih4 (i + 1) _ _ _ _ hP hS hl ⟨by omega, by rw [sumI_s (by omega), hv4.2]⟩ (by omega)
  rw [← hWg]
  exact loop4 _ 0 0 _ _ _ hP hS hl ⟨by omega, sumI_0.symm⟩ (Nat.lt_succ_self _)
abbrev rmX5_costAlone : Room := { frames := 1, cells := 0, slots := 0, locals := 23 }
set_option maxRecDepth 100000 in
set_option maxHeartbeats 4000000 in
theorem c_X5_costAlone {l : Launch} {D : va_G} {G : Nat → ClassId} {ad : Nat → Nat} {σ τ : Tb} (hi : kInj 189 ad) {w : Int} (hI : Inv σ) (hw : 0 ≤ w ∧ w < σ 0 2) : Met l yX5_costAlone wsX5_costAlone rmX5_costAlone (kPc D (tysG G) 189 ad (CE G ad σ τ) [.ref (ad 1), .ref (ad (69 + w.toNat))]) (kQi D 189 ad (fun r E' => r = cstC σ w ∧ E' = CE G ad σ τ)) 0 0 (kA 189 ad) := by
  refine k_met (cc := cX5_costAlone) (maxL := 2) (ret := (some .int)) (by decide) (Nat.le_of_ble_eq_true rfl) ?_
  intro P0 e0 s m0 below meth c0 ls hx hb hr hlocks hml hown hts hK hP hS hl
  replace hl : lv_has ls 2 [(0, _), (1, _)] := hl
  replace hown : s.vm.findClass RX5 = some m0.cls := hown
  refine k_abs (fun Wg hWg => ?_)
  have h0 := Inv_0 hI
  refine lv_aload_n hx hb dX5_costAlone_0 rfl (lv_at hl 1 rfl) ?_
  refine r_get (C := RX7) (T := TX7) (N := 16) (ci := 7) hx hb hts hi_X7 hown hK hP 7 rfl (by decide) lk_X5_79 (fun _ h9 => h9) dX5_costAlone_1 (by omega) (CE_w (by omega)) rfl ?_
  refine lv_aload_n hx hb dX5_costAlone_4 rfl (lv_at hl 1 rfl) ?_
  refine r_get (C := RX7) (T := TX7) (N := 16) (ci := 7) hx hb hts hi_X7 hown hK hP 2 rfl (by decide) lk_X5_70 (fun _ h9 => h9) dX5_costAlone_5 (by omega) (CE_w (by omega)) rfl ?_
  refine r_bipush hx hb dX5_costAlone_8 (by decide +kernel) ?_
  refine r_const hx hb dX5_costAlone_10 ?_
  refine lv_aload_n hx hb dX5_costAlone_11 rfl (lv_at hl 1 rfl) ?_
  refine r_get (C := RX7) (T := TX7) (N := 16) (ci := 7) hx hb hts hi_X7 hown hK hP 6 rfl (by decide) lk_X5_82 (fun _ h9 => h9) dX5_costAlone_12 (by omega) (CE_w (by omega)) rfl ?_
  refine r_mul hx hb dX5_costAlone_15 ?_
  refine r_add hx hb dX5_costAlone_16 ?_
  refine r_mul hx hb dX5_costAlone_17 ?_
  refine r_bipush hx hb dX5_costAlone_18 (by decide +kernel) ?_
  refine lv_aload_n hx hb dX5_costAlone_20 rfl (lv_at hl 0 rfl) ?_
  refine lv_aload_n hx hb dX5_costAlone_21 rfl (lv_at hl 1 rfl) ?_
  refine k_calliV (nL := 2) (C := RX5) (T := TX5) (N := 8) (ci := 5) hx hb hml hown hts hK hP hS hl.1 (c_X5_ranks hi hI hw) rfl (Nat.le_of_ble_eq_true rfl) rfl (cwV 1 hts (gV lm_X5_85 ti_X5_ranks tl_X5_ranks tn_X5 tc_X5_ranks) rfl rfl rfl (by decide +kernel) ⟨Nat.le_of_ble_eq_true rfl, Nat.le_of_ble_eq_true rfl⟩) rfl dX5_costAlone_22 ⟨Nat.zero_le _, Nat.zero_le _⟩ (by omega) CE_1 (fun r22 E1 H locs hq hP hS => ?_)
  obtain ⟨rfl, rfl⟩ := hq
  refine r_mul hx hb dX5_costAlone_25 ?_
  refine r_add hx hb dX5_costAlone_26 ?_
  refine r_mul hx hb dX5_costAlone_27 ?_
  exact k_iret hx hb hr hlocks hP hS dX5_costAlone_28 ⟨rfl, rfl⟩
abbrev rmX5_fine : Room := { frames := 1, cells := 0, slots := 0, locals := 23 }
set_option maxRecDepth 100000 in
set_option maxHeartbeats 4000000 in
theorem c_X5_fine {l : Launch} {D : va_G} {G : Nat → ClassId} {ad : Nat → Nat} {σ τ : Tb} (hi : kInj 189 ad) {w : Int} (hI : Inv σ) (hw : 0 ≤ w ∧ w < σ 0 2) : Met l yX5_fine wsX5_fine rmX5_fine (kPc D (tysG G) 189 ad (CE G ad σ τ) [.ref (ad 1), .ref (ad (69 + w.toNat))]) (kQi D 189 ad (fun r E' => r = σ 22 w * (10 * rnkC σ w + 10) ∧ E' = CE G ad σ τ)) 0 0 (kA 189 ad) := by
  refine k_met (cc := cX5_fine) (maxL := 2) (ret := (some .int)) (by decide) (Nat.le_of_ble_eq_true rfl) ?_
  intro P0 e0 s m0 below meth c0 ls hx hb hr hlocks hml hown hts hK hP hS hl
  replace hl : lv_has ls 2 [(0, _), (1, _)] := hl
  replace hown : s.vm.findClass RX5 = some m0.cls := hown
  refine k_abs (fun Wg hWg => ?_)
  have h0 := Inv_0 hI
  refine lv_aload_n hx hb dX5_fine_0 rfl (lv_at hl 1 rfl) ?_
  refine r_get (C := RX7) (T := TX7) (N := 16) (ci := 7) hx hb hts hi_X7 hown hK hP 13 rfl (by decide) lk_X5_89 (fun _ h9 => h9) dX5_fine_1 (by omega) (CE_w (by omega)) rfl ?_
  refine r_bipush hx hb dX5_fine_4 (by decide +kernel) ?_
  refine lv_aload_n hx hb dX5_fine_6 rfl (lv_at hl 0 rfl) ?_
  refine lv_aload_n hx hb dX5_fine_7 rfl (lv_at hl 1 rfl) ?_
  refine k_calliV (nL := 2) (C := RX5) (T := TX5) (N := 8) (ci := 5) hx hb hml hown hts hK hP hS hl.1 (c_X5_ranks hi hI hw) rfl (Nat.le_of_ble_eq_true rfl) rfl (cwV 1 hts (gV lm_X5_85 ti_X5_ranks tl_X5_ranks tn_X5 tc_X5_ranks) rfl rfl rfl (by decide +kernel) ⟨Nat.le_of_ble_eq_true rfl, Nat.le_of_ble_eq_true rfl⟩) rfl dX5_fine_8 ⟨Nat.zero_le _, Nat.zero_le _⟩ (by omega) CE_1 (fun r8 E1 H locs hq hP hS => ?_)
  obtain ⟨rfl, rfl⟩ := hq
  refine r_mul hx hb dX5_fine_11 ?_
  refine r_bipush hx hb dX5_fine_12 (by decide +kernel) ?_
  refine r_add hx hb dX5_fine_14 ?_
  refine r_mul hx hb dX5_fine_15 ?_
  exact k_iret hx hb hr hlocks hP hS dX5_fine_16 ⟨rfl, rfl⟩
abbrev rmX5_bookedAhead : Room := { frames := 2, cells := 0, slots := 0, locals := 42 }
set_option maxRecDepth 100000 in
set_option maxHeartbeats 4000000 in
theorem c_X5_bookedAhead {l : Launch} {D : va_G} {G : Nat → ClassId} {ad : Nat → Nat} {σ τ : Tb} (hi : kInj 189 ad) {p w : Int} (hI : Inv σ) (hp : 0 ≤ p ∧ p < 40) (hw : 0 ≤ w ∧ w < σ 0 2) : Met l yX5_bookedAhead wsX5_bookedAhead rmX5_bookedAhead (kPc D (tysG G) 189 ad (CE G ad σ τ) [.ref (ad 1), .int (iI p), .ref (ad (69 + w.toNat))]) (kQi D 189 ad (fun r E' => r = bkA σ p w ∧ E' = CE G ad σ τ)) 0 0 (kA 189 ad) := by
  refine k_met (cc := cX5_bookedAhead) (maxL := 6) (ret := (some .int)) (by decide) (Nat.le_of_ble_eq_true rfl) ?_
  intro P0 e0 s m0 below meth c0 ls hx hb hr hlocks hml hown hts hK hP hS hl
  replace hl : lv_has ls 6 [(0, _), (1, _), (2, _)] := hl
  replace hown : s.vm.findClass RX5 = some m0.cls := hown
  refine k_abs (fun Wg hWg => ?_)
  have h0 := Inv_0 hI
  have hBw := IN_b hI hw
  refine r_const hx hb dX5_bookedAhead_0 ?_
  refine lv_istore_n hx hb dX5_bookedAhead_1 rfl hl (by decide) rfl (fun ls hl => ?_)
  replace hl : lv_has ls 6 [(0, _), (1, _), (2, _), (3, _)] := lv_sub hl [1, 2, 3, 0] rfl
  refine r_const hx hb dX5_bookedAhead_2 ?_
  refine lv_istore hx hb dX5_bookedAhead_3 hl (by decide) rfl (fun ls hl => ?_)
  replace hl : lv_has ls 6 [(0, _), (1, _), (2, _), (3, _), (4, _)] := lv_sub hl [1, 2, 3, 4, 0] rfl
  have loop5 : ∀ (n : Nat) (i c : Int) (H : Heap) (locs : List Loc) (ls : Array Slot), va_P D vwCl (kw 189 ad (CE G ad σ τ)) H → va_S (kA 189 ad) s.heap H locs → lv_has ls 6 [(0, .ref (ad 1)), (1, .int (iI p)), (2, .ref (ad (69 + w.toNat))), (3, .int (iI c)), (4, .int (iI i))] → ((0 ≤ i ∧ i ≤ σ 0 2) ∧ c = sumI (fun o => bI (((σ 19 o = 2 ∨ σ 19 o = 3) ∧ isOn σ o p) ∧ (σ 20 o < σ 20 w ∨ (σ 20 o = σ 20 w ∧ o < w)))) i) → (σ 0 2 - i).toNat < n → Wg H locs (F0 m0 5 ls []) := by
    intro n
    induction n with
    | zero => intro i c H locs ls _ _ _ _ hn; omega
    | succ n ih5 =>
      intro i c H locs ls hP hS hl hv5 hn5
      rw [hWg]
      refine lv_iload hx hb dX5_bookedAhead_5 (lv_at hl 4 rfl) ?_
      refine lv_aload_n hx hb dX5_bookedAhead_7 rfl (lv_at hl 0 rfl) ?_
      refine r_get (C := RX5) (T := TX5) (N := 8) (ci := 5) hx hb hts hi_X5 hown hK hP 6 rfl (by decide) lk_X5_45 (fun _ h9 => h9) dX5_bookedAhead_8 (by omega) CE_1 rfl ?_
      refine r_icmp_ge (tgt := 77) hx hb (by omega) (by omega) dX5_bookedAhead_11 (by decide) (fun c11 => ?_) (fun c11 => ?_)
      · refine lv_iload_n hx hb dX5_bookedAhead_77 rfl (lv_at hl 3 rfl) ?_
        exact k_iret hx hb hr hlocks hP hS dX5_bookedAhead_78 ⟨by rw [bkA, hv5.2, show i = σ 0 2 by omega], rfl⟩
      · obtain ⟨hN, hQ, _⟩ := Inv_w hI (w := i) (by omega)
        have hB := IN_b hI (w := i) (by omega)
        unfold IN at hN
        unfold IQ at hQ
        have join71 : ∀ (c' : Int) (H : Heap) (locs : List Loc) (ls : Array Slot), va_P D vwCl (kw 189 ad (CE G ad σ τ)) H → va_S (kA 189 ad) s.heap H locs → lv_has ls 6 [(0, .ref (ad 1)), (1, .int (iI p)), (2, .ref (ad (69 + w.toNat))), (3, .int (iI c')), (4, .int (iI i))] → (c' = sumI (fun o => bI (((σ 19 o = 2 ∨ σ 19 o = 3) ∧ isOn σ o p) ∧ (σ 20 o < σ 20 w ∨ (σ 20 o = σ 20 w ∧ o < w)))) (i + 1)) → Wg H locs (F0 m0 71 ls []) := by
          intro c' H locs ls hP hS hl hv71
          rw [hWg]
          refine r_iinc hx hb dX5_bookedAhead_71 hl (k := 4) rfl (by decide) (fun ls hl => ?_)
          replace hl : lv_has ls 6 [(0, _), (1, _), (2, _), (3, _), (4, _)] := lv_sub hl [1, 2, 3, 4, 0] rfl
          refine lv_goto (tgt := 5) hx hb dX5_bookedAhead_74 (by decide) ?_
          rw [← hWg]
          exact ih5 (i + 1) c' _ _ _ hP hS hl ⟨by omega, hv71⟩ (by omega)
        refine lv_aload_n hx hb dX5_bookedAhead_14 rfl (lv_at hl 0 rfl) ?_
        refine r_get (C := RX5) (T := TX5) (N := 8) (ci := 5) hx hb hts hi_X5 hown hK hP 2 rfl (by decide) lk_X5_25 (fun _ h9 => h9) dX5_bookedAhead_15 (by omega) CE_1 rfl ?_
        refine lv_iload hx hb dX5_bookedAhead_18 (lv_at hl 4 rfl) ?_
        refine r_aald hx hb hK hP 5 rfl dX5_bookedAhead_20 (by omega) rfl (by omega) (by omega) rfl ?_
        refine lv_astore hx hb dX5_bookedAhead_21 hl (by decide) rfl (fun ls hl => ?_)
        replace hl : lv_has ls 6 [(0, _), (1, _), (2, _), (3, _), (4, _), (5, _)] := lv_sub hl [1, 2, 3, 4, 5, 0] rfl
        refine lv_aload hx hb dX5_bookedAhead_23 (lv_at hl 5 rfl) ?_
        refine lv_iload_n hx hb dX5_bookedAhead_25 rfl (lv_at hl 1 rfl) ?_
        refine k_calliV (nL := 6) (C := RX7) (T := TX7) (N := 16) (ci := 7) hx hb hml hown hts hK hP hS hl.1 (c_X7_isBookedOn hi (by omega) hp hQ.1 (by omega)) rfl (Nat.le_of_ble_eq_true rfl) rfl (cwV 1 hts (gV lm_X5_107 ti_X7_isBookedOn tl_X7_isBookedOn tn_X7 tc_X7_isBookedOn) rfl rfl rfl (by decide +kernel) ⟨Nat.le_of_ble_eq_true rfl, Nat.le_of_ble_eq_true rfl⟩) rfl dX5_bookedAhead_26 ⟨Nat.zero_le _, Nat.zero_le _⟩ (by omega) (CE_w (by omega)) (fun r26 E1 H locs hq hP hS => ?_)
        obtain ⟨rfl, rfl⟩ := hq
        refine r_ifB_ne (tgt := 35) hx hb dX5_bookedAhead_29 (by decide) (fun c29 => ?_) (fun c29 => ?_)
        · refine lv_aload hx hb dX5_bookedAhead_35 (lv_at hl 5 rfl) ?_
          refine r_get (C := RX7) (T := TX7) (N := 16) (ci := 7) hx hb hts hi_X7 hown hK hP 11 rfl (by decide) lk_X5_57 (fun _ h9 => h9) dX5_bookedAhead_37 (by omega) (CE_w (by omega)) rfl ?_
          refine lv_aload_n hx hb dX5_bookedAhead_40 rfl (lv_at hl 2 rfl) ?_
          refine r_get (C := RX7) (T := TX7) (N := 16) (ci := 7) hx hb hts hi_X7 hown hK hP 11 rfl (by decide) lk_X5_57 (fun _ h9 => h9) dX5_bookedAhead_41 (by omega) (CE_w (by omega)) rfl ?_
          refine r_icmp_lt (tgt := 68) hx hb (by omega) (by omega) dX5_bookedAhead_44 (by decide) (fun c44 => ?_) (fun c44 => ?_)
          · refine r_iinc hx hb dX5_bookedAhead_68 hl (k := 3) rfl (by decide) (fun ls hl => ?_)
            replace hl : lv_has ls 6 [(0, _), (1, _), (2, _), (3, _), (4, _), (5, _)] := lv_sub hl [1, 2, 3, 0, 4, 5] rfl
            rw [← hWg]
            exact join71 _ _ _ _ hP hS (lv_sub hl [0, 1, 2, 3, 4] rfl) (by rw [sumI_s (by omega), bI_t ⟨c29, by omega⟩, hv5.2])
          · refine lv_aload hx hb dX5_bookedAhead_47 (lv_at hl 5 rfl) ?_
            refine r_get (C := RX7) (T := TX7) (N := 16) (ci := 7) hx hb hts hi_X7 hown hK hP 11 rfl (by decide) lk_X5_57 (fun _ h9 => h9) dX5_bookedAhead_49 (by omega) (CE_w (by omega)) rfl ?_
            refine lv_aload_n hx hb dX5_bookedAhead_52 rfl (lv_at hl 2 rfl) ?_
            refine r_get (C := RX7) (T := TX7) (N := 16) (ci := 7) hx hb hts hi_X7 hown hK hP 11 rfl (by decide) lk_X5_57 (fun _ h9 => h9) dX5_bookedAhead_53 (by omega) (CE_w (by omega)) rfl ?_
            refine r_icmp_ne (tgt := 71) hx hb (by omega) (by omega) dX5_bookedAhead_56 (by decide) (fun c56 => ?_) (fun c56 => ?_)
            · rw [← hWg]
              exact join71 _ _ _ _ hP hS (lv_sub hl [0, 1, 2, 3, 4] rfl) (by rw [sumI_s (by omega), bI_f (by omega), hv5.2]; omega)
            · refine lv_iload hx hb dX5_bookedAhead_59 (lv_at hl 4 rfl) ?_
              refine lv_aload_n hx hb dX5_bookedAhead_61 rfl (lv_at hl 2 rfl) ?_
              refine r_get (C := RX7) (T := TX7) (N := 16) (ci := 7) hx hb hts hi_X7 hown hK hP 0 rfl (by decide) lk_X5_104 (fun _ h9 => h9) dX5_bookedAhead_62 (by omega) (CE_w (by omega)) rfl ?_
              refine r_icmp_ge (tgt := 71) hx hb (by omega) (by omega) dX5_bookedAhead_65 (by decide) (fun c65 => ?_) (fun c65 => ?_)
              · rw [← hWg]
                exact join71 _ _ _ _ hP hS (lv_sub hl [0, 1, 2, 3, 4] rfl) (by rw [sumI_s (by omega), bI_f (by omega), hv5.2]; omega)
              · refine r_iinc hx hb dX5_bookedAhead_68 hl (k := 3) rfl (by decide) (fun ls hl => ?_)
                replace hl : lv_has ls 6 [(0, _), (1, _), (2, _), (3, _), (4, _), (5, _)] := lv_sub hl [1, 2, 3, 0, 4, 5] rfl
                rw [← hWg]
                exact join71 _ _ _ _ hP hS (lv_sub hl [0, 1, 2, 3, 4] rfl) (by rw [sumI_s (by omega), bI_t ⟨c29, by omega⟩, hv5.2])
        · refine lv_goto (tgt := 71) hx hb dX5_bookedAhead_32 (by decide) ?_
          rw [← hWg]
          exact join71 _ _ _ _ hP hS (lv_sub hl [0, 1, 2, 3, 4] rfl) (by rw [sumI_s (by omega), bI_f (fun q => c29 q.1), hv5.2]; omega)
  rw [← hWg]
  exact loop5 _ 0 0 _ _ _ hP hS hl ⟨by omega, sumI_0.symm⟩ (Nat.lt_succ_self _)
end
section
/-! ===== pays, take ===== -/
theorem mulb {a b A B : Int} (ha : 0 ≤ a ∧ a ≤ A) (hb : 0 ≤ b ∧ b ≤ B) : 0 ≤ a * b ∧ a * b ≤ A * B :=
  ⟨Int.mul_nonneg ha.1 hb.1, Int.mul_le_mul ha.2 hb.2 hb.1 (by omega)⟩
theorem rnk_r {σ : Tb} (h : Inv σ) {w : Int} (hw : 0 ≤ w ∧ w < σ 0 2) : 0 ≤ rnkC σ w ∧ rnkC σ w ≤ 8 := by
  obtain ⟨_, ⟨_, hs, hq, _⟩, _⟩ := Inv_w h hw
  have := sumI_b (f := fun k => σ 4 (PQ σ w k)) (n := σ 18 w) (M := 2) (by omega) (fun k h1 h2 => by
    have hp := Inv_p h (hq k h1 h2).1
    unfold IP at hp
    show 0 ≤ σ 4 (PQ σ w k) ∧ σ 4 (PQ σ w k) ≤ 2
    omega)
  unfold rnkC
  omega
theorem cst_r {σ : Tb} (h : Inv σ) {w : Int} (hw : 0 ≤ w ∧ w < σ 0 2) : 1 ≤ cstC σ w ∧ cstC σ w ≤ 7200 := by
  obtain ⟨hN, ⟨_, hs, _⟩, _⟩ := Inv_w h hw
  have hr := rnk_r h hw
  unfold IN at hN
  unfold cstC
  have h1 : 25 ≤ σ 18 w * (20 + 5 * σ 13 w) ∧ σ 18 w * (20 + 5 * σ 13 w) ≤ 160 := by
    rcases (show σ 18 w = 1 ∨ σ 18 w = 2 ∨ σ 18 w = 3 ∨ σ 18 w = 4 by omega) with e | e | e | e <;> rw [e] <;> omega
  generalize σ 18 w * (20 + 5 * σ 13 w) = X at h1 ⊢
  have h2 := mulb (a := σ 14 w) (b := X + 10 * rnkC σ w) (A := 30) (B := 240) (by omega) (by omega)
  have h3 := Int.mul_le_mul (show 1 ≤ σ 14 w by omega) (show 1 ≤ X + 10 * rnkC σ w by omega) (by omega) (by omega)
  omega
noncomputable def payF (w j a b : Int) : Int := cif (w < j) (((if a < b then b else a) + (if b < a then b else a) / 4) - b * ((if a < b then b else a) + (if b < a then b else a) / 4) / (a + b)) (a * ((if a < b then b else a) + (if b < a then b else a) / 4) / (a + b))
noncomputable def payC (σ : Tb) (w : Int) : Int := cif (0 ≤ σ 23 w) (payF w (σ 23 w) (cstC σ w) (cstC σ (σ 23 w))) (cstC σ w)
theorem IJ_r {σ : Tb} (h : Inv σ) {w : Int} (hw : 0 ≤ w ∧ w < σ 0 2) : σ 23 w = -1 ∨ (0 ≤ σ 23 w ∧ σ 23 w < σ 0 2) := by
  obtain ⟨_, _, hJ⟩ := Inv_w h hw
  rcases hJ with e | e
  · exact Or.inl e
  · exact Or.inr e.1
abbrev rmX5_pays : Room := { frames := 2, cells := 0, slots := 0, locals := 44 }
set_option maxRecDepth 100000 in
set_option maxHeartbeats 4000000 in
theorem c_X5_pays {l : Launch} {D : va_G} {G : Nat → ClassId} {ad : Nat → Nat} {σ τ : Tb} (hi : kInj 189 ad) {w : Int} (hI : Inv σ) (hw : 0 ≤ w ∧ w < σ 0 2) : Met l yX5_pays wsX5_pays rmX5_pays (kPc D (tysG G) 189 ad (CE G ad σ τ) [.ref (ad 1), .ref (ad (69 + w.toNat))]) (kQi D 189 ad (fun r E' => r = payC σ w ∧ E' = CE G ad σ τ)) 0 0 (kA 189 ad) := by
  refine k_met (cc := cX5_pays) (maxL := 6) (ret := (some .int)) (by decide) (Nat.le_of_ble_eq_true rfl) ?_
  intro P0 e0 s m0 below meth c0 ls hx hb hr hlocks hml hown hts hK hP hS hl
  replace hl : lv_has ls 6 [(0, _), (1, _)] := hl
  replace hown : s.vm.findClass RX5 = some m0.cls := hown
  refine k_abs (fun Wg hWg => ?_)
  have h0 := Inv_0 hI
  have hJ := IJ_r hI hw
  have hc := cst_r hI hw
  refine lv_aload_n hx hb dX5_pays_0 rfl (lv_at hl 0 rfl) ?_
  refine lv_aload_n hx hb dX5_pays_1 rfl (lv_at hl 1 rfl) ?_
  refine k_calliV (nL := 6) (C := RX5) (T := TX5) (N := 8) (ci := 5) hx hb hml hown hts hK hP hS hl.1 (c_X5_costAlone hi hI hw) rfl (Nat.le_of_ble_eq_true rfl) rfl (cwV 1 hts (gV lm_X5_92 ti_X5_costAlone tl_X5_costAlone tn_X5 tc_X5_costAlone) rfl rfl rfl (by decide +kernel) ⟨Nat.le_of_ble_eq_true rfl, Nat.le_of_ble_eq_true rfl⟩) rfl dX5_pays_2 ⟨Nat.zero_le _, Nat.zero_le _⟩ (by omega) CE_1 (fun r2 E1 H locs hq hP hS => ?_)
  obtain ⟨rfl, rfl⟩ := hq
  refine lv_istore_n hx hb dX5_pays_5 rfl hl (by decide) rfl (fun ls hl => ?_)
  replace hl : lv_has ls 6 [(0, _), (1, _), (2, _)] := lv_sub hl [1, 2, 0] rfl
  refine lv_aload_n hx hb dX5_pays_6 rfl (lv_at hl 0 rfl) ?_
  refine lv_aload_n hx hb dX5_pays_7 rfl (lv_at hl 1 rfl) ?_
  refine r_get (C := RX7) (T := TX7) (N := 16) (ci := 7) hx hb hts hi_X7 hown hK hP 14 rfl (by decide) lk_X5_63 (fun _ h9 => h9) dX5_pays_8 (by omega) (CE_w (by omega)) rfl ?_
  refine k_calliV (nL := 6) (C := RX5) (T := TX5) (N := 8) (ci := 5) hx hb hml hown hts hK hP hS hl.1 (c_X5_hasWork hi (by omega) h0.2.2.1) rfl (Nat.le_of_ble_eq_true rfl) rfl (cwV 1 hts (gV lm_X5_66 ti_X5_hasWork tl_X5_hasWork tn_X5 tc_X5_hasWork) rfl rfl rfl (by decide +kernel) ⟨Nat.le_of_ble_eq_true rfl, Nat.le_of_ble_eq_true rfl⟩) rfl dX5_pays_11 ⟨Nat.zero_le _, Nat.zero_le _⟩ (by omega) CE_1 (fun r11 E1 H locs hq hP hS => ?_)
  obtain ⟨rfl, rfl⟩ := hq
  refine r_ifB_ne (tgt := 19) hx hb dX5_pays_14 (by decide) (fun c14 => ?_) (fun c14 => ?_)
  · have hcj := cst_r hI c14
    refine lv_aload_n hx hb dX5_pays_19 rfl (lv_at hl 0 rfl) ?_
    refine lv_aload_n hx hb dX5_pays_20 rfl (lv_at hl 0 rfl) ?_
    refine r_get (C := RX5) (T := TX5) (N := 8) (ci := 5) hx hb hts hi_X5 hown hK hP 2 rfl (by decide) lk_X5_25 (fun _ h9 => h9) dX5_pays_21 (by omega) CE_1 rfl ?_
    refine lv_aload_n hx hb dX5_pays_24 rfl (lv_at hl 1 rfl) ?_
    refine r_get (C := RX7) (T := TX7) (N := 16) (ci := 7) hx hb hts hi_X7 hown hK hP 14 rfl (by decide) lk_X5_63 (fun _ h9 => h9) dX5_pays_25 (by omega) (CE_w (by omega)) rfl ?_
    refine r_aald hx hb hK hP 5 rfl dX5_pays_28 (by omega) rfl (by omega) (by omega) rfl ?_
    refine k_calliV (nL := 6) (C := RX5) (T := TX5) (N := 8) (ci := 5) hx hb hml hown hts hK hP hS hl.1 (c_X5_costAlone hi hI c14) rfl (Nat.le_of_ble_eq_true rfl) rfl (cwV 1 hts (gV lm_X5_92 ti_X5_costAlone tl_X5_costAlone tn_X5 tc_X5_costAlone) rfl rfl rfl (by decide +kernel) ⟨Nat.le_of_ble_eq_true rfl, Nat.le_of_ble_eq_true rfl⟩) rfl dX5_pays_29 ⟨Nat.zero_le _, Nat.zero_le _⟩ (by omega) CE_1 (fun r29 E1 H locs hq hP hS => ?_)
    obtain ⟨rfl, rfl⟩ := hq
    refine lv_istore_n hx hb dX5_pays_32 rfl hl (by decide) rfl (fun ls hl => ?_)
    replace hl : lv_has ls 6 [(0, _), (1, _), (2, _), (3, _)] := lv_sub hl [1, 2, 3, 0] rfl
    refine lv_iload_n hx hb dX5_pays_33 rfl (lv_at hl 2 rfl) ?_
    refine lv_iload_n hx hb dX5_pays_34 rfl (lv_at hl 3 rfl) ?_
    refine r_add hx hb dX5_pays_35 ?_
    refine lv_istore hx hb dX5_pays_36 hl (by decide) rfl (fun ls hl => ?_)
    replace hl : lv_has ls 6 [(0, _), (1, _), (2, _), (3, _), (4, _)] := lv_sub hl [1, 2, 3, 4, 0] rfl
    refine lv_iload hx hb dX5_pays_38 (lv_at hl 4 rfl) ?_
    refine r_if_gt (tgt := 45) hx hb (by omega) dX5_pays_40 (by decide) (fun c40 => ?_) (fun c40 => ?_)
    · refine lv_iload_n hx hb dX5_pays_45 rfl (lv_at hl 2 rfl) ?_
      refine lv_iload_n hx hb dX5_pays_46 rfl (lv_at hl 3 rfl) ?_
      refine r_mmax hx hb hml hl.1 hown hts mm_X5_95 (Nat.le_of_ble_eq_true rfl) (Nat.le_of_ble_eq_true rfl) ⟨Nat.zero_le _, Nat.zero_le _⟩ (by omega) (by omega) dX5_pays_47 ?_
      refine lv_iload_n hx hb dX5_pays_50 rfl (lv_at hl 2 rfl) ?_
      refine lv_iload_n hx hb dX5_pays_51 rfl (lv_at hl 3 rfl) ?_
      refine r_mmin hx hb hml hl.1 hown hts mm_X5_101 (Nat.le_of_ble_eq_true rfl) (Nat.le_of_ble_eq_true rfl) ⟨Nat.zero_le _, Nat.zero_le _⟩ (by omega) (by omega) dX5_pays_52 ?_
      have hm1 : 0 ≤ (if cstC σ (σ 23 w) < cstC σ w then cstC σ (σ 23 w) else cstC σ w) ∧ (if cstC σ (σ 23 w) < cstC σ w then cstC σ (σ 23 w) else cstC σ w) ≤ 7200 := by split <;> omega
      have hm2 : 0 ≤ (if cstC σ w < cstC σ (σ 23 w) then cstC σ (σ 23 w) else cstC σ w) ∧ (if cstC σ w < cstC σ (σ 23 w) then cstC σ (σ 23 w) else cstC σ w) ≤ 7200 := by split <;> omega
      refine r_const hx hb dX5_pays_55 ?_
      refine r_div hx hb (by omega) (by omega) dX5_pays_56 ?_
      refine r_add hx hb dX5_pays_57 ?_
      refine lv_istore hx hb dX5_pays_58 hl (by decide) rfl (fun ls hl => ?_)
      replace hl : lv_has ls 6 [(0, _), (1, _), (2, _), (3, _), (4, _), (5, _)] := lv_sub hl [1, 2, 3, 4, 5, 0] rfl
      refine lv_aload_n hx hb dX5_pays_60 rfl (lv_at hl 1 rfl) ?_
      refine r_get (C := RX7) (T := TX7) (N := 16) (ci := 7) hx hb hts hi_X7 hown hK hP 0 rfl (by decide) lk_X5_104 (fun _ h9 => h9) dX5_pays_61 (by omega) (CE_w (by omega)) rfl ?_
      refine lv_aload_n hx hb dX5_pays_64 rfl (lv_at hl 1 rfl) ?_
      refine r_get (C := RX7) (T := TX7) (N := 16) (ci := 7) hx hb hts hi_X7 hown hK hP 14 rfl (by decide) lk_X5_63 (fun _ h9 => h9) dX5_pays_65 (by omega) (CE_w (by omega)) rfl ?_
      have hm3 := mulb (a := cstC σ (σ 23 w)) (b := (if cstC σ w < cstC σ (σ 23 w) then cstC σ (σ 23 w) else cstC σ w) + (if cstC σ (σ 23 w) < cstC σ w then cstC σ (σ 23 w) else cstC σ w) / 4) (A := 7200) (B := 9000) (by omega) (by omega)
      have hm4 := mulb (a := cstC σ w) (b := (if cstC σ w < cstC σ (σ 23 w) then cstC σ (σ 23 w) else cstC σ w) + (if cstC σ (σ 23 w) < cstC σ w then cstC σ (σ 23 w) else cstC σ w) / 4) (A := 7200) (B := 9000) (by omega) (by omega)
      refine r_icmp_ge (tgt := 84) hx hb (by omega) (by omega) dX5_pays_68 (by decide) (fun c68 => ?_) (fun c68 => ?_)
      · refine lv_iload_n hx hb dX5_pays_84 rfl (lv_at hl 2 rfl) ?_
        refine lv_iload hx hb dX5_pays_85 (lv_at hl 5 rfl) ?_
        refine r_mul hx hb dX5_pays_87 ?_
        refine lv_iload hx hb dX5_pays_88 (lv_at hl 4 rfl) ?_
        refine r_div hx hb (by omega) (by omega) dX5_pays_90 ?_
        exact k_iret hx hb hr hlocks hP hS dX5_pays_91 ⟨by rw [payC, cif_t (by omega), payF, cif_f (by omega)], rfl⟩
      · refine lv_iload hx hb dX5_pays_71 (lv_at hl 5 rfl) ?_
        refine lv_iload_n hx hb dX5_pays_73 rfl (lv_at hl 3 rfl) ?_
        refine lv_iload hx hb dX5_pays_74 (lv_at hl 5 rfl) ?_
        refine r_mul hx hb dX5_pays_76 ?_
        refine lv_iload hx hb dX5_pays_77 (lv_at hl 4 rfl) ?_
        refine r_div hx hb (by omega) (by omega) dX5_pays_79 ?_
        refine r_sub hx hb dX5_pays_80 ?_
        refine lv_goto (tgt := 91) hx hb dX5_pays_81 (by decide) ?_
        exact k_iret hx hb hr hlocks hP hS dX5_pays_91 ⟨by rw [payC, cif_t (by omega), payF, cif_t (by omega)], rfl⟩
    · omega
  · refine lv_iload_n hx hb dX5_pays_17 rfl (lv_at hl 2 rfl) ?_
    exact k_iret hx hb hr hlocks hP hS dX5_pays_18 ⟨by rw [payC, cif_f (by omega)], rfl⟩
/-- the places above a, up to the n-th, moved on by one -/
def shf (σ : Tb) (w a n : Int) : Tb := fun t i => if i = w ∧ 25 + a < (t : Int) ∧ (t : Int) ≤ 25 + n then σ (t - 1) w else σ t i
theorem shf_0 (σ : Tb) (w n : Int) : shf σ w n n = σ := by
  funext t i
  unfold shf
  rw [if_neg (by omega)]
theorem shf_s {σ : Tb} {w a n : Int} (h : 0 < a ∧ a ≤ n) : up (shf σ w a n) (25 + a.toNat) w (PQ (shf σ w a n) w (a - 1)) = shf σ w (a - 1) n := by
  have e1 : PQ (shf σ w a n) w (a - 1) = σ (25 + (a - 1).toNat) w := by
    unfold PQ shf
    rw [if_neg (by omega)]
  rw [e1]
  funext t i
  unfold up
  by_cases h1 : t = 25 + a.toNat ∧ i = w
  · obtain ⟨rfl, rfl⟩ := h1
    rw [if_pos ⟨rfl, rfl⟩]
    unfold shf
    rw [if_pos (by omega), show 25 + a.toNat - 1 = 25 + (a - 1).toNat by omega]
  · rw [if_neg h1]
    unfold shf
    by_cases h2 : i = w ∧ 25 + a < (t : Int) ∧ (t : Int) ≤ 25 + n
    · rw [if_pos h2, if_pos (by omega)]
    · rw [if_neg h2, if_neg (by omega)]
theorem shf_o {σ : Tb} {w a n i : Int} {t : Nat} (h : i ≠ w ∨ (t : Int) ≤ 25 + a ∨ 25 + n < (t : Int)) : shf σ w a n t i = σ t i := by
  unfold shf
  rw [if_neg (by omega)]
/-- where a piece goes among a work's own -/
def insOk (σ : Tb) (w p a : Int) : Prop := (0 ≤ a ∧ a ≤ σ 18 w) ∧ (∀ k, 0 ≤ k → k < a → PQ σ w k ≤ p) ∧ (∀ k, a ≤ k → k < σ 18 w → p < PQ σ w k)
noncomputable def insA (σ : Tb) (w p : Int) : Int := Classical.epsilon (insOk σ w p)
theorem insA_eq {σ : Tb} {w p a : Int} (h : insOk σ w p a) : insA σ w p = a := by
  have h2 : insOk σ w p (insA σ w p) := Classical.epsilon_spec (p := insOk σ w p) ⟨a, h⟩
  generalize insA σ w p = b at h2
  obtain ⟨a1, a2, a3⟩ := h
  obtain ⟨b1, b2, b3⟩ := h2
  rcases Int.lt_trichotomy a b with e | e | e
  · have := b2 a (by omega) e; have := a3 a (by omega) (by omega); omega
  · exact e.symm
  · have := a2 b (by omega) e; have := b3 b (by omega) (by omega); omega
noncomputable def insQ (σ : Tb) (w p : Int) : Tb := up (up (up (shf σ w (insA σ w p) (σ 18 w)) (25 + (insA σ w p).toNat) w p) 17 w (((σ 17 w).toNat ||| 2 ^ p.toNat : Nat) : Int)) 18 w (σ 18 w + 1)
abbrev rmX7_take : Room := { frames := 0, cells := 0, slots := 0, locals := 0 }
set_option maxRecDepth 100000 in
set_option maxHeartbeats 4000000 in
theorem c_X7_take {l : Launch} {D : va_G} {G : Nat → ClassId} {ad : Nat → Nat} {σ τ : Tb} (hi : kInj 189 ad) {w p : Int} (hw : 0 ≤ w ∧ w < 60) (hp : 0 ≤ p ∧ p < 40) (hn : 0 ≤ σ 18 w ∧ σ 18 w ≤ 3) (hm : 0 ≤ σ 17 w ∧ σ 17 w < 1099511627776) (hq0 : ∀ k, 0 ≤ k → k < σ 18 w → 0 ≤ PQ σ w k ∧ PQ σ w k < 40) (hs0 : ∀ j k, 0 ≤ j → j < k → k < σ 18 w → PQ σ w j < PQ σ w k) : Met l yX7_take wsX7_take rmX7_take (kPc D (tysG G) 189 ad (CE G ad σ τ) [.ref (ad (69 + w.toNat)), .int (iI p)]) (kQv D 189 ad (fun E' => E' = CE G ad (insQ σ w p) τ)) 0 0 (kA 189 ad) := by
  refine k_met (cc := cX7_take) (maxL := 3) (ret := none) (by decide) (Nat.le_of_ble_eq_true rfl) ?_
  intro P0 e0 s m0 below meth c0 ls hx hb hr hlocks hml hown hts hK hP hS hl
  replace hl : lv_has ls 3 [(0, _), (1, _)] := hl
  replace hown : s.vm.findClass RX7 = some m0.cls := hown
  refine k_abs (fun Wg hWg => ?_)
  have h1 : (σ 17 w).toNat < 2 ^ 63 := by omega
  have h2 : 2 ^ p.toNat < 2 ^ 63 := Nat.pow_lt_pow_right (by decide) (by omega)
  refine lv_aload_n hx hb dX7_take_0 rfl (lv_at hl 0 rfl) ?_
  refine r_get (C := RX7) (T := TX7) (N := 16) (ci := 7) hx hb hts hi_X7 hown hK hP 2 rfl (by decide) lk_X7_28 (fun _ h9 => h9) dX7_take_1 (by omega) (CE_w (by omega)) rfl ?_
  refine r_const hx hb dX7_take_4 ?_
  refine r_icmp_lt (tgt := 9) hx hb (by omega) (by omega) dX7_take_5 (by decide) (fun c5 => ?_) (fun c5 => ?_)
  · refine lv_aload_n hx hb dX7_take_9 rfl (lv_at hl 0 rfl) ?_
    refine r_get (C := RX7) (T := TX7) (N := 16) (ci := 7) hx hb hts hi_X7 hown hK hP 2 rfl (by decide) lk_X7_28 (fun _ h9 => h9) dX7_take_10 (by omega) (CE_w (by omega)) rfl ?_
    refine lv_istore_n hx hb dX7_take_13 rfl hl (by decide) rfl (fun ls hl => ?_)
    replace hl : lv_has ls 3 [(0, _), (1, _), (2, _)] := lv_sub hl [1, 2, 0] rfl
    have join50 : ∀ (a : Int) (H : Heap) (locs : List Loc) (ls : Array Slot), va_P D vwCl (kw 189 ad (CE G ad (shf σ w a (σ 18 w)) τ)) H → va_S (kA 189 ad) s.heap H locs → lv_has ls 3 [(0, .ref (ad (69 + w.toNat))), (1, .int (iI p)), (2, .int (iI a))] → (insOk σ w p a) → Wg H locs (F0 m0 50 ls []) := by
      intro a H locs ls hP hS hl hv50
      rw [hWg]
      have hv := hv50.1
      have e17 : up (shf σ w a (σ 18 w)) (25 + a.toNat) w p 17 w = σ 17 w := by rw [up_t (by omega)]; exact shf_o (by omega)
      have e18 : up (up (shf σ w a (σ 18 w)) (25 + a.toNat) w p) 17 w (((σ 17 w).toNat ||| 2 ^ p.toNat : Nat) : Int) 18 w = σ 18 w := by rw [up_t (by omega), up_t (by omega)]; exact shf_o (by omega)
      refine lv_aload_n hx hb dX7_take_50 rfl (lv_at hl 0 rfl) ?_
      refine r_get (C := RX7) (T := TX7) (N := 16) (ci := 7) hx hb hts hi_X7 hown hK hP 1 rfl (by decide) lk_X7_9 (fun _ h9 => h9) dX7_take_51 (by omega) (CE_w (by omega)) rfl ?_
      refine lv_iload_n hx hb dX7_take_54 rfl (lv_at hl 2 rfl) ?_
      refine lv_iload_n hx hb dX7_take_55 rfl (lv_at hl 1 rfl) ?_
      refine r_iast hx hb hi hK hP hS 0 rfl dX7_take_56 (by omega) (CE_q (by omega)) (by omega) (by omega) (cu_q (by omega) (by omega)) (fun H locs hP hS => ?_)
      refine lv_aload_n hx hb dX7_take_57 rfl (lv_at hl 0 rfl) ?_
      refine lv_dup hx hb dX7_take_58 rfl ?_
      refine r_get (C := RX7) (T := TX7) (N := 16) (ci := 7) hx hb hts hi_X7 hown hK hP 3 rfl (by decide) lk_X7_31 (fun _ h9 => h9) dX7_take_59 (by omega) (CE_w (by omega)) rfl ?_
      rw [e17]
      refine r_lconst1 hx hb dX7_take_62 ?_
      refine lv_iload_n hx hb dX7_take_63 rfl (lv_at hl 1 rfl) ?_
      refine r_lshl1 hx hb dX7_take_64 (by omega) ?_
      refine r_lor hx hb dX7_take_65 (by omega) (by omega) ?_
      refine r_put (C := RX7) (T := TX7) (N := 16) (ci := 7) hx hb hi hts hi_X7 tyX7 tyX7_ok nmX7 hown hK hP hS 3 rfl (by decide) lk_X7_31 (fun _ h9 => h9) rfl (ty := .long) (by decide +kernel) rfl rfl dX7_take_66 (by omega) (CE_w (by omega)) (Nat.le_of_ble_eq_true rfl) (cu_w_mask (by omega)) (fun H locs hP hS => ?_)
      refine lv_aload_n hx hb dX7_take_69 rfl (lv_at hl 0 rfl) ?_
      refine lv_dup hx hb dX7_take_70 rfl ?_
      refine r_get (C := RX7) (T := TX7) (N := 16) (ci := 7) hx hb hts hi_X7 hown hK hP 2 rfl (by decide) lk_X7_28 (fun _ h9 => h9) dX7_take_71 (by omega) (CE_w (by omega)) rfl ?_
      rw [e18]
      refine r_const hx hb dX7_take_74 ?_
      refine r_add hx hb dX7_take_75 ?_
      refine r_put (C := RX7) (T := TX7) (N := 16) (ci := 7) hx hb hi hts hi_X7 tyX7 tyX7_ok nmX7 hown hK hP hS 2 rfl (by decide) lk_X7_28 (fun _ h9 => h9) rfl (ty := .int) (by decide +kernel) rfl rfl dX7_take_76 (by omega) (CE_w (by omega)) (Nat.le_of_ble_eq_true rfl) (cu_w_size (by omega)) (fun H locs hP hS => ?_)
      exact k_vret hx hb hr hlocks hP hS dX7_take_79 (by rw [insQ, insA_eq hv50])
    have hP : va_P D vwCl (kw 189 ad (CE G ad (shf σ w (σ 18 w) (σ 18 w)) τ)) s.heap := by rw [shf_0]; exact hP
    have loop14 : ∀ (n : Nat) (a : Int) (H : Heap) (locs : List Loc) (ls : Array Slot), va_P D vwCl (kw 189 ad (CE G ad (shf σ w a (σ 18 w)) τ)) H → va_S (kA 189 ad) s.heap H locs → lv_has ls 3 [(0, .ref (ad (69 + w.toNat))), (1, .int (iI p)), (2, .int (iI a))] → ((0 ≤ a ∧ a ≤ σ 18 w) ∧ (∀ k, a ≤ k → k < σ 18 w → p < PQ σ w k)) → (a).toNat < n → Wg H locs (F0 m0 14 ls []) := by
      intro n
      induction n with
      | zero => intro a H locs ls _ _ _ _ hn; omega
      | succ n ih14 =>
        intro a H locs ls hP hS hl hv14 hn14
        rw [hWg]
        have hv := hv14.1
        refine lv_iload_n hx hb dX7_take_14 rfl (lv_at hl 2 rfl) ?_
        refine r_if_le (tgt := 50) hx hb (by omega) dX7_take_15 (by decide) (fun c15 => ?_) (fun c15 => ?_)
        · rw [← hWg]
          exact join50 a _ _ _ hP hS hl ⟨hv, fun k h1 h2 => by omega, hv14.2⟩
        · have e1 : PQ (shf σ w a (σ 18 w)) w (a - 1) = PQ σ w (a - 1) := shf_o (by omega)
          have hq1 := hq0 (a - 1) (by omega) (by omega)
          refine lv_aload_n hx hb dX7_take_18 rfl (lv_at hl 0 rfl) ?_
          refine r_get (C := RX7) (T := TX7) (N := 16) (ci := 7) hx hb hts hi_X7 hown hK hP 1 rfl (by decide) lk_X7_9 (fun _ h9 => h9) dX7_take_19 (by omega) (CE_w (by omega)) rfl ?_
          refine lv_iload_n hx hb dX7_take_22 rfl (lv_at hl 2 rfl) ?_
          refine r_const hx hb dX7_take_23 ?_
          refine r_sub hx hb dX7_take_24 ?_
          refine r_iald hx hb hK hP 0 rfl dX7_take_25 (by omega) (CE_q (by omega)) (by omega) (by omega) tQ_PQ ?_
          refine lv_iload_n hx hb dX7_take_26 rfl (lv_at hl 1 rfl) ?_
          rw [e1]
          refine r_icmp_le (tgt := 50) hx hb (by omega) (by omega) dX7_take_27 (by decide) (fun c27 => ?_) (fun c27 => ?_)
          · have hk : ∀ k, 0 ≤ k → k < a → PQ σ w k ≤ p := by
              intro k k1 k2
              rcases (show k = a - 1 ∨ k < a - 1 by omega) with e | e
              · rw [e]; exact c27
              · have := hs0 k (a - 1) k1 e (by omega)
                omega
            rw [← hWg]
            exact join50 a _ _ _ hP hS hl ⟨hv, hk, hv14.2⟩
          · refine lv_aload_n hx hb dX7_take_30 rfl (lv_at hl 0 rfl) ?_
            refine r_get (C := RX7) (T := TX7) (N := 16) (ci := 7) hx hb hts hi_X7 hown hK hP 1 rfl (by decide) lk_X7_9 (fun _ h9 => h9) dX7_take_31 (by omega) (CE_w (by omega)) rfl ?_
            refine lv_iload_n hx hb dX7_take_34 rfl (lv_at hl 2 rfl) ?_
            refine lv_aload_n hx hb dX7_take_35 rfl (lv_at hl 0 rfl) ?_
            refine r_get (C := RX7) (T := TX7) (N := 16) (ci := 7) hx hb hts hi_X7 hown hK hP 1 rfl (by decide) lk_X7_9 (fun _ h9 => h9) dX7_take_36 (by omega) (CE_w (by omega)) rfl ?_
            refine lv_iload_n hx hb dX7_take_39 rfl (lv_at hl 2 rfl) ?_
            refine r_const hx hb dX7_take_40 ?_
            refine r_sub hx hb dX7_take_41 ?_
            refine r_iald hx hb hK hP 0 rfl dX7_take_42 (by omega) (CE_q (by omega)) (by omega) (by omega) tQ_PQ ?_
            refine r_iast hx hb hi hK hP hS 0 rfl dX7_take_43 (by omega) (CE_q (by omega)) (by omega) (by omega) (cu_q (by omega) (by omega)) (fun H locs hP hS => ?_)
            rw [shf_s (by omega)] at hP
            refine r_iinc hx hb dX7_take_44 hl (k := 2) rfl (by decide) (fun ls hl => ?_)
            replace hl : lv_has ls 3 [(0, _), (1, _), (2, _)] := lv_sub hl [1, 2, 0] rfl
            refine lv_goto (tgt := 14) hx hb dX7_take_47 (by decide) ?_
            have hk : ∀ k, a - 1 ≤ k → k < σ 18 w → p < PQ σ w k := by
              intro k k1 k2
              rcases (show k = a - 1 ∨ a ≤ k by omega) with e | e
              · rw [e]; omega
              · exact hv14.2 k e k2
            rw [← hWg]
            exact ih14 (a - 1) _ _ _ hP hS hl ⟨by omega, hk⟩ (by omega)
    rw [← hWg]
    exact loop14 _ (σ 18 w) _ _ _ hP hS hl ⟨by omega, fun k k1 k2 => by omega⟩ (Nat.lt_succ_self _)
  · omega
/-! ===== the company ===== -/
noncomputable def lnO (σ : Tb) (C : Int → Prop) (o day : Int) : Int := cif (σ 20 o ≤ day ∧ day ≤ σ 21 o) (cif (0 ≤ σ 23 o ∧ C (σ 23 o) ∧ (σ 20 (σ 23 o) ≤ day ∧ day ≤ σ 21 (σ 23 o)) ∧ (σ 13 o < σ 13 (σ 23 o) ∨ (σ 13 (σ 23 o) = σ 13 o ∧ σ 23 o < o))) 0 (σ 13 o)) 0
noncomputable def lnA (σ : Tb) (C : Int → Prop) (w day : Int) : Int := cif (0 ≤ σ 23 w ∧ C (σ 23 w) ∧ (σ 20 (σ 23 w) ≤ day ∧ day ≤ σ 21 (σ 23 w))) (cif (σ 13 (σ 23 w) < σ 13 w) (σ 13 w - σ 13 (σ 23 w)) 0) (σ 13 w)
def Cnt (σ τ : Tb) (C : Int → Prop) : Prop := ∀ i, 0 ≤ i → i < σ 0 2 → τ 0 i = bI (C i)
theorem lnO_r {σ : Tb} {C : Int → Prop} (h : Inv σ) {o day : Int} (ho : 0 ≤ o ∧ o < σ 0 2) : 0 ≤ lnO σ C o day ∧ lnO σ C o day ≤ 4 := by
  obtain ⟨hN, _⟩ := Inv_w h ho
  unfold IN at hN
  unfold lnO
  by_cases h1 : σ 20 o ≤ day ∧ day ≤ σ 21 o
  · rw [cif_t h1]
    by_cases h2 : 0 ≤ σ 23 o ∧ C (σ 23 o) ∧ (σ 20 (σ 23 o) ≤ day ∧ day ≤ σ 21 (σ 23 o)) ∧ (σ 13 o < σ 13 (σ 23 o) ∨ (σ 13 (σ 23 o) = σ 13 o ∧ σ 23 o < o))
    · rw [cif_t h2]; omega
    · rw [cif_f h2]; omega
  · rw [cif_f h1]; omega
abbrev rmX0_lanesOf : Room := { frames := 0, cells := 0, slots := 0, locals := 0 }
set_option maxRecDepth 100000 in
set_option maxHeartbeats 4000000 in
theorem c_X0_lanesOf {l : Launch} {D : va_G} {G : Nat → ClassId} {ad : Nat → Nat} {σ τ : Tb} (hi : kInj 189 ad) {C : Int → Prop} {o day : Int} (hI : Inv σ) (ho : 0 ≤ o ∧ o < σ 0 2) (hd : (-2147483648 ≤ day ∧ day < 2147483648)) (hC : Cnt σ τ C) : Met l yX0_lanesOf wsX0_lanesOf rmX0_lanesOf (kPc D (tysG G) 189 ad (CE G ad σ τ) [.ref (ad 2), .ref (ad (69 + o.toNat)), .int (iI day)]) (kQi D 189 ad (fun z E' => z = lnO σ C o day ∧ E' = CE G ad σ τ)) 0 0 (kA 189 ad) := by
  refine k_met (cc := cX0_lanesOf) (maxL := 5) (ret := (some .int)) (by decide) (Nat.le_of_ble_eq_true rfl) ?_
  intro P0 e0 s m0 below meth c0 ls hx hb hr hlocks hml hown hts hK hP hS hl
  replace hl : lv_has ls 5 [(0, _), (1, _), (2, _)] := hl
  replace hown : s.vm.findClass RX0 = some m0.cls := hown
  refine k_abs (fun Wg hWg => ?_)
  have h0 := Inv_0 hI
  obtain ⟨hN, hQ, _⟩ := Inv_w hI ho
  have hB := IN_b hI ho
  have hJ := IJ_r hI ho
  unfold IN at hN
  refine lv_iload_n hx hb dX0_lanesOf_0 rfl (lv_at hl 2 rfl) ?_
  refine lv_aload_n hx hb dX0_lanesOf_1 rfl (lv_at hl 1 rfl) ?_
  refine r_get (C := RX7) (T := TX7) (N := 16) (ci := 7) hx hb hts hi_X7 hown hK hP 11 rfl (by decide) lk_X0_103 (fun _ h9 => h9) dX0_lanesOf_2 (by omega) (CE_w (by omega)) rfl ?_
  refine r_icmp_lt (tgt := 16) hx hb (by omega) (by omega) dX0_lanesOf_5 (by decide) (fun c5 => ?_) (fun c5 => ?_)
  · refine r_const hx hb dX0_lanesOf_16 ?_
    exact k_iret hx hb hr hlocks hP hS dX0_lanesOf_17 ⟨by rw [lnO, cif_f (by omega)], rfl⟩
  · refine lv_iload_n hx hb dX0_lanesOf_8 rfl (lv_at hl 2 rfl) ?_
    refine lv_aload_n hx hb dX0_lanesOf_9 rfl (lv_at hl 1 rfl) ?_
    refine r_get (C := RX7) (T := TX7) (N := 16) (ci := 7) hx hb hts hi_X7 hown hK hP 12 rfl (by decide) lk_X0_94 (fun _ h9 => h9) dX0_lanesOf_10 (by omega) (CE_w (by omega)) rfl ?_
    refine r_icmp_le (tgt := 18) hx hb (by omega) (by omega) dX0_lanesOf_13 (by decide) (fun c13 => ?_) (fun c13 => ?_)
    · refine lv_aload_n hx hb dX0_lanesOf_18 rfl (lv_at hl 1 rfl) ?_
      refine r_get (C := RX7) (T := TX7) (N := 16) (ci := 7) hx hb hts hi_X7 hown hK hP 14 rfl (by decide) lk_X0_113 (fun _ h9 => h9) dX0_lanesOf_19 (by omega) (CE_w (by omega)) rfl ?_
      refine lv_istore_n hx hb dX0_lanesOf_22 rfl hl (by decide) rfl (fun ls hl => ?_)
      replace hl : lv_has ls 5 [(0, _), (1, _), (2, _), (3, _)] := lv_sub hl [1, 2, 3, 0] rfl
      refine lv_iload_n hx hb dX0_lanesOf_23 rfl (lv_at hl 3 rfl) ?_
      refine r_if_lt (tgt := 47) hx hb (by omega) dX0_lanesOf_24 (by decide) (fun c24 => ?_) (fun c24 => ?_)
      · refine lv_aload_n hx hb dX0_lanesOf_47 rfl (lv_at hl 1 rfl) ?_
        refine r_get (C := RX7) (T := TX7) (N := 16) (ci := 7) hx hb hts hi_X7 hown hK hP 6 rfl (by decide) lk_X0_116 (fun _ h9 => h9) dX0_lanesOf_48 (by omega) (CE_w (by omega)) rfl ?_
        exact k_iret hx hb hr hlocks hP hS dX0_lanesOf_51 ⟨by rw [lnO, cif_t (by omega), cif_f (by omega)], rfl⟩
      · refine lv_iload_n hx hb dX0_lanesOf_27 rfl (lv_at hl 3 rfl) ?_
        refine lv_aload_n hx hb dX0_lanesOf_28 rfl (lv_at hl 0 rfl) ?_
        refine r_get (C := RX0) (T := TX0) (N := 9) (ci := 0) hx hb hts hi_X0 hown hK hP 0 rfl (by decide) lk_X0_33 (fun _ h9 => h9) dX0_lanesOf_29 (by omega) CE_2 rfl ?_
        refine r_get (C := RX5) (T := TX5) (N := 8) (ci := 5) hx hb hts hi_X5 hown hK hP 6 rfl (by decide) lk_X0_48 (fun _ h9 => h9) dX0_lanesOf_32 (by omega) CE_1 rfl ?_
        refine r_icmp_ge (tgt := 47) hx hb (by omega) (by omega) dX0_lanesOf_35 (by decide) (fun c35 => ?_) (fun c35 => ?_)
        · omega
        · have hc := hC (σ 23 o) (by omega) (by omega)
          refine lv_aload_n hx hb dX0_lanesOf_38 rfl (lv_at hl 0 rfl) ?_
          refine r_get (C := RX0) (T := TX0) (N := 9) (ci := 0) hx hb hts hi_X0 hown hK hP 1 rfl (by decide) lk_X0_9 (fun _ h9 => h9) dX0_lanesOf_39 (by omega) CE_2 rfl ?_
          refine lv_iload_n hx hb dX0_lanesOf_42 rfl (lv_at hl 3 rfl) ?_
          refine r_zald hx hb hK hP 2 rfl dX0_lanesOf_43 (by omega) rfl (by omega) (by omega) (tI_at (by omega)) ?_
          rw [hc]
          refine r_ifB_ne (tgt := 52) hx hb dX0_lanesOf_44 (by decide) (fun c44 => ?_) (fun c44 => ?_)
          · obtain ⟨hNj, _, _⟩ := Inv_w hI (w := σ 23 o) (by omega)
            have hBj := IN_b hI (w := σ 23 o) (by omega)
            unfold IN at hNj
            refine lv_aload_n hx hb dX0_lanesOf_52 rfl (lv_at hl 0 rfl) ?_
            refine r_get (C := RX0) (T := TX0) (N := 9) (ci := 0) hx hb hts hi_X0 hown hK hP 0 rfl (by decide) lk_X0_33 (fun _ h9 => h9) dX0_lanesOf_53 (by omega) CE_2 rfl ?_
            refine r_get (C := RX5) (T := TX5) (N := 8) (ci := 5) hx hb hts hi_X5 hown hK hP 2 rfl (by decide) lk_X0_53 (fun _ h9 => h9) dX0_lanesOf_56 (by omega) CE_1 rfl ?_
            refine lv_iload_n hx hb dX0_lanesOf_59 rfl (lv_at hl 3 rfl) ?_
            refine r_aald hx hb hK hP 5 rfl dX0_lanesOf_60 (by omega) rfl (by omega) (by omega) rfl ?_
            refine lv_astore hx hb dX0_lanesOf_61 hl (by decide) rfl (fun ls hl => ?_)
            replace hl : lv_has ls 5 [(0, _), (1, _), (2, _), (3, _), (4, _)] := lv_sub hl [1, 2, 3, 4, 0] rfl
            refine lv_iload_n hx hb dX0_lanesOf_63 rfl (lv_at hl 2 rfl) ?_
            refine lv_aload hx hb dX0_lanesOf_64 (lv_at hl 4 rfl) ?_
            refine r_get (C := RX7) (T := TX7) (N := 16) (ci := 7) hx hb hts hi_X7 hown hK hP 11 rfl (by decide) lk_X0_103 (fun _ h9 => h9) dX0_lanesOf_66 (by omega) (CE_w (by omega)) rfl ?_
            refine r_icmp_lt (tgt := 81) hx hb (by omega) (by omega) dX0_lanesOf_69 (by decide) (fun c69 => ?_) (fun c69 => ?_)
            · refine lv_aload_n hx hb dX0_lanesOf_81 rfl (lv_at hl 1 rfl) ?_
              refine r_get (C := RX7) (T := TX7) (N := 16) (ci := 7) hx hb hts hi_X7 hown hK hP 6 rfl (by decide) lk_X0_116 (fun _ h9 => h9) dX0_lanesOf_82 (by omega) (CE_w (by omega)) rfl ?_
              exact k_iret hx hb hr hlocks hP hS dX0_lanesOf_85 ⟨by rw [lnO, cif_t (by omega), cif_f (by omega)], rfl⟩
            · refine lv_iload_n hx hb dX0_lanesOf_72 rfl (lv_at hl 2 rfl) ?_
              refine lv_aload hx hb dX0_lanesOf_73 (lv_at hl 4 rfl) ?_
              refine r_get (C := RX7) (T := TX7) (N := 16) (ci := 7) hx hb hts hi_X7 hown hK hP 12 rfl (by decide) lk_X0_94 (fun _ h9 => h9) dX0_lanesOf_75 (by omega) (CE_w (by omega)) rfl ?_
              refine r_icmp_le (tgt := 86) hx hb (by omega) (by omega) dX0_lanesOf_78 (by decide) (fun c78 => ?_) (fun c78 => ?_)
              · refine lv_aload_n hx hb dX0_lanesOf_86 rfl (lv_at hl 1 rfl) ?_
                refine r_get (C := RX7) (T := TX7) (N := 16) (ci := 7) hx hb hts hi_X7 hown hK hP 6 rfl (by decide) lk_X0_116 (fun _ h9 => h9) dX0_lanesOf_87 (by omega) (CE_w (by omega)) rfl ?_
                refine lv_aload hx hb dX0_lanesOf_90 (lv_at hl 4 rfl) ?_
                refine r_get (C := RX7) (T := TX7) (N := 16) (ci := 7) hx hb hts hi_X7 hown hK hP 6 rfl (by decide) lk_X0_116 (fun _ h9 => h9) dX0_lanesOf_92 (by omega) (CE_w (by omega)) rfl ?_
                refine r_icmp_eq (tgt := 119) hx hb (by omega) (by omega) dX0_lanesOf_95 (by decide) (fun c95 => ?_) (fun c95 => ?_)
                · refine lv_aload_n hx hb dX0_lanesOf_119 rfl (lv_at hl 1 rfl) ?_
                  refine r_get (C := RX7) (T := TX7) (N := 16) (ci := 7) hx hb hts hi_X7 hown hK hP 0 rfl (by decide) lk_X0_117 (fun _ h9 => h9) dX0_lanesOf_120 (by omega) (CE_w (by omega)) rfl ?_
                  refine lv_iload_n hx hb dX0_lanesOf_123 rfl (lv_at hl 3 rfl) ?_
                  refine r_icmp_ge (tgt := 134) hx hb (by omega) (by omega) dX0_lanesOf_124 (by decide) (fun c124 => ?_) (fun c124 => ?_)
                  · refine r_const hx hb dX0_lanesOf_134 ?_
                    have hne : σ 23 o ≠ o := by
                      obtain ⟨_, _, hJ2⟩ := Inv_w hI ho
                      rcases hJ2 with q | q
                      · omega
                      · exact q.2.1
                    exact k_iret hx hb hr hlocks hP hS dX0_lanesOf_135 ⟨by rw [lnO, cif_t (by omega), cif_t ⟨by omega, c44, by omega, by omega⟩], rfl⟩
                  · refine lv_aload_n hx hb dX0_lanesOf_127 rfl (lv_at hl 1 rfl) ?_
                    refine r_get (C := RX7) (T := TX7) (N := 16) (ci := 7) hx hb hts hi_X7 hown hK hP 6 rfl (by decide) lk_X0_116 (fun _ h9 => h9) dX0_lanesOf_128 (by omega) (CE_w (by omega)) rfl ?_
                    refine lv_goto (tgt := 135) hx hb dX0_lanesOf_131 (by decide) ?_
                    exact k_iret hx hb hr hlocks hP hS dX0_lanesOf_135 ⟨by rw [lnO, cif_t (by omega), cif_f (by omega)], rfl⟩
                · refine lv_aload_n hx hb dX0_lanesOf_98 rfl (lv_at hl 1 rfl) ?_
                  refine r_get (C := RX7) (T := TX7) (N := 16) (ci := 7) hx hb hts hi_X7 hown hK hP 6 rfl (by decide) lk_X0_116 (fun _ h9 => h9) dX0_lanesOf_99 (by omega) (CE_w (by omega)) rfl ?_
                  refine lv_aload hx hb dX0_lanesOf_102 (lv_at hl 4 rfl) ?_
                  refine r_get (C := RX7) (T := TX7) (N := 16) (ci := 7) hx hb hts hi_X7 hown hK hP 6 rfl (by decide) lk_X0_116 (fun _ h9 => h9) dX0_lanesOf_104 (by omega) (CE_w (by omega)) rfl ?_
                  refine r_icmp_le (tgt := 117) hx hb (by omega) (by omega) dX0_lanesOf_107 (by decide) (fun c107 => ?_) (fun c107 => ?_)
                  · refine r_const hx hb dX0_lanesOf_117 ?_
                    exact k_iret hx hb hr hlocks hP hS dX0_lanesOf_118 ⟨by rw [lnO, cif_t (by omega), cif_t ⟨by omega, c44, by omega, by omega⟩], rfl⟩
                  · refine lv_aload_n hx hb dX0_lanesOf_110 rfl (lv_at hl 1 rfl) ?_
                    refine r_get (C := RX7) (T := TX7) (N := 16) (ci := 7) hx hb hts hi_X7 hown hK hP 6 rfl (by decide) lk_X0_116 (fun _ h9 => h9) dX0_lanesOf_111 (by omega) (CE_w (by omega)) rfl ?_
                    refine lv_goto (tgt := 118) hx hb dX0_lanesOf_114 (by decide) ?_
                    exact k_iret hx hb hr hlocks hP hS dX0_lanesOf_118 ⟨by rw [lnO, cif_t (by omega), cif_f (by omega)], rfl⟩
              · refine lv_aload_n hx hb dX0_lanesOf_81 rfl (lv_at hl 1 rfl) ?_
                refine r_get (C := RX7) (T := TX7) (N := 16) (ci := 7) hx hb hts hi_X7 hown hK hP 6 rfl (by decide) lk_X0_116 (fun _ h9 => h9) dX0_lanesOf_82 (by omega) (CE_w (by omega)) rfl ?_
                exact k_iret hx hb hr hlocks hP hS dX0_lanesOf_85 ⟨by rw [lnO, cif_t (by omega), cif_f (by omega)], rfl⟩
          · refine lv_aload_n hx hb dX0_lanesOf_47 rfl (lv_at hl 1 rfl) ?_
            refine r_get (C := RX7) (T := TX7) (N := 16) (ci := 7) hx hb hts hi_X7 hown hK hP 6 rfl (by decide) lk_X0_116 (fun _ h9 => h9) dX0_lanesOf_48 (by omega) (CE_w (by omega)) rfl ?_
            exact k_iret hx hb hr hlocks hP hS dX0_lanesOf_51 ⟨by rw [lnO, cif_t (by omega), cif_f (fun q => c44 q.2.1)], rfl⟩
    · refine r_const hx hb dX0_lanesOf_16 ?_
      exact k_iret hx hb hr hlocks hP hS dX0_lanesOf_17 ⟨by rw [lnO, cif_f (by omega)], rfl⟩
abbrev rmX0_lanesAddedBy : Room := { frames := 0, cells := 0, slots := 0, locals := 0 }
set_option maxRecDepth 100000 in
set_option maxHeartbeats 4000000 in
theorem c_X0_lanesAddedBy {l : Launch} {D : va_G} {G : Nat → ClassId} {ad : Nat → Nat} {σ τ : Tb} (hi : kInj 189 ad) {C : Int → Prop} {w day : Int} (hI : Inv σ) (hw : 0 ≤ w ∧ w < σ 0 2) (hd : (-2147483648 ≤ day ∧ day < 2147483648)) (hC : Cnt σ τ C) : Met l yX0_lanesAddedBy wsX0_lanesAddedBy rmX0_lanesAddedBy (kPc D (tysG G) 189 ad (CE G ad σ τ) [.ref (ad 2), .ref (ad (69 + w.toNat)), .int (iI day)]) (kQi D 189 ad (fun z E' => z = lnA σ C w day ∧ E' = CE G ad σ τ)) 0 0 (kA 189 ad) := by
  refine k_met (cc := cX0_lanesAddedBy) (maxL := 5) (ret := (some .int)) (by decide) (Nat.le_of_ble_eq_true rfl) ?_
  intro P0 e0 s m0 below meth c0 ls hx hb hr hlocks hml hown hts hK hP hS hl
  replace hl : lv_has ls 5 [(0, _), (1, _), (2, _)] := hl
  replace hown : s.vm.findClass RX0 = some m0.cls := hown
  refine k_abs (fun Wg hWg => ?_)
  have h0 := Inv_0 hI
  obtain ⟨hN, hQ, _⟩ := Inv_w hI hw
  have hB := IN_b hI hw
  have hJ := IJ_r hI hw
  unfold IN at hN
  refine lv_aload_n hx hb dX0_lanesAddedBy_0 rfl (lv_at hl 1 rfl) ?_
  refine r_get (C := RX7) (T := TX7) (N := 16) (ci := 7) hx hb hts hi_X7 hown hK hP 14 rfl (by decide) lk_X0_113 (fun _ h9 => h9) dX0_lanesAddedBy_1 (by omega) (CE_w (by omega)) rfl ?_
  refine lv_istore_n hx hb dX0_lanesAddedBy_4 rfl hl (by decide) rfl (fun ls hl => ?_)
  replace hl : lv_has ls 5 [(0, _), (1, _), (2, _), (3, _)] := lv_sub hl [1, 2, 3, 0] rfl
  refine lv_iload_n hx hb dX0_lanesAddedBy_5 rfl (lv_at hl 3 rfl) ?_
  refine r_if_lt (tgt := 29) hx hb (by omega) dX0_lanesAddedBy_6 (by decide) (fun c6 => ?_) (fun c6 => ?_)
  · refine lv_aload_n hx hb dX0_lanesAddedBy_29 rfl (lv_at hl 1 rfl) ?_
    refine r_get (C := RX7) (T := TX7) (N := 16) (ci := 7) hx hb hts hi_X7 hown hK hP 6 rfl (by decide) lk_X0_116 (fun _ h9 => h9) dX0_lanesAddedBy_30 (by omega) (CE_w (by omega)) rfl ?_
    exact k_iret hx hb hr hlocks hP hS dX0_lanesAddedBy_33 ⟨by rw [lnA, cif_f (by omega)], rfl⟩
  · refine lv_iload_n hx hb dX0_lanesAddedBy_9 rfl (lv_at hl 3 rfl) ?_
    refine lv_aload_n hx hb dX0_lanesAddedBy_10 rfl (lv_at hl 0 rfl) ?_
    refine r_get (C := RX0) (T := TX0) (N := 9) (ci := 0) hx hb hts hi_X0 hown hK hP 0 rfl (by decide) lk_X0_33 (fun _ h9 => h9) dX0_lanesAddedBy_11 (by omega) CE_2 rfl ?_
    refine r_get (C := RX5) (T := TX5) (N := 8) (ci := 5) hx hb hts hi_X5 hown hK hP 6 rfl (by decide) lk_X0_48 (fun _ h9 => h9) dX0_lanesAddedBy_14 (by omega) CE_1 rfl ?_
    refine r_icmp_ge (tgt := 29) hx hb (by omega) (by omega) dX0_lanesAddedBy_17 (by decide) (fun c17 => ?_) (fun c17 => ?_)
    · omega
    · have hc := hC (σ 23 w) (by omega) (by omega)
      refine lv_aload_n hx hb dX0_lanesAddedBy_20 rfl (lv_at hl 0 rfl) ?_
      refine r_get (C := RX0) (T := TX0) (N := 9) (ci := 0) hx hb hts hi_X0 hown hK hP 1 rfl (by decide) lk_X0_9 (fun _ h9 => h9) dX0_lanesAddedBy_21 (by omega) CE_2 rfl ?_
      refine lv_iload_n hx hb dX0_lanesAddedBy_24 rfl (lv_at hl 3 rfl) ?_
      refine r_zald hx hb hK hP 2 rfl dX0_lanesAddedBy_25 (by omega) rfl (by omega) (by omega) (tI_at (by omega)) ?_
      rw [hc]
      refine r_ifB_ne (tgt := 34) hx hb dX0_lanesAddedBy_26 (by decide) (fun c26 => ?_) (fun c26 => ?_)
      · obtain ⟨hNj, _, _⟩ := Inv_w hI (w := σ 23 w) (by omega)
        have hBj := IN_b hI (w := σ 23 w) (by omega)
        unfold IN at hNj
        refine lv_aload_n hx hb dX0_lanesAddedBy_34 rfl (lv_at hl 0 rfl) ?_
        refine r_get (C := RX0) (T := TX0) (N := 9) (ci := 0) hx hb hts hi_X0 hown hK hP 0 rfl (by decide) lk_X0_33 (fun _ h9 => h9) dX0_lanesAddedBy_35 (by omega) CE_2 rfl ?_
        refine r_get (C := RX5) (T := TX5) (N := 8) (ci := 5) hx hb hts hi_X5 hown hK hP 2 rfl (by decide) lk_X0_53 (fun _ h9 => h9) dX0_lanesAddedBy_38 (by omega) CE_1 rfl ?_
        refine lv_iload_n hx hb dX0_lanesAddedBy_41 rfl (lv_at hl 3 rfl) ?_
        refine r_aald hx hb hK hP 5 rfl dX0_lanesAddedBy_42 (by omega) rfl (by omega) (by omega) rfl ?_
        refine lv_astore hx hb dX0_lanesAddedBy_43 hl (by decide) rfl (fun ls hl => ?_)
        replace hl : lv_has ls 5 [(0, _), (1, _), (2, _), (3, _), (4, _)] := lv_sub hl [1, 2, 3, 4, 0] rfl
        refine lv_iload_n hx hb dX0_lanesAddedBy_45 rfl (lv_at hl 2 rfl) ?_
        refine lv_aload hx hb dX0_lanesAddedBy_46 (lv_at hl 4 rfl) ?_
        refine r_get (C := RX7) (T := TX7) (N := 16) (ci := 7) hx hb hts hi_X7 hown hK hP 11 rfl (by decide) lk_X0_103 (fun _ h9 => h9) dX0_lanesAddedBy_48 (by omega) (CE_w (by omega)) rfl ?_
        refine r_icmp_lt (tgt := 63) hx hb (by omega) (by omega) dX0_lanesAddedBy_51 (by decide) (fun c51 => ?_) (fun c51 => ?_)
        · refine lv_aload_n hx hb dX0_lanesAddedBy_63 rfl (lv_at hl 1 rfl) ?_
          refine r_get (C := RX7) (T := TX7) (N := 16) (ci := 7) hx hb hts hi_X7 hown hK hP 6 rfl (by decide) lk_X0_116 (fun _ h9 => h9) dX0_lanesAddedBy_64 (by omega) (CE_w (by omega)) rfl ?_
          exact k_iret hx hb hr hlocks hP hS dX0_lanesAddedBy_67 ⟨by rw [lnA, cif_f (by omega)], rfl⟩
        · refine lv_iload_n hx hb dX0_lanesAddedBy_54 rfl (lv_at hl 2 rfl) ?_
          refine lv_aload hx hb dX0_lanesAddedBy_55 (lv_at hl 4 rfl) ?_
          refine r_get (C := RX7) (T := TX7) (N := 16) (ci := 7) hx hb hts hi_X7 hown hK hP 12 rfl (by decide) lk_X0_94 (fun _ h9 => h9) dX0_lanesAddedBy_57 (by omega) (CE_w (by omega)) rfl ?_
          refine r_icmp_le (tgt := 68) hx hb (by omega) (by omega) dX0_lanesAddedBy_60 (by decide) (fun c60 => ?_) (fun c60 => ?_)
          · refine lv_aload_n hx hb dX0_lanesAddedBy_68 rfl (lv_at hl 1 rfl) ?_
            refine r_get (C := RX7) (T := TX7) (N := 16) (ci := 7) hx hb hts hi_X7 hown hK hP 6 rfl (by decide) lk_X0_116 (fun _ h9 => h9) dX0_lanesAddedBy_69 (by omega) (CE_w (by omega)) rfl ?_
            refine lv_aload hx hb dX0_lanesAddedBy_72 (lv_at hl 4 rfl) ?_
            refine r_get (C := RX7) (T := TX7) (N := 16) (ci := 7) hx hb hts hi_X7 hown hK hP 6 rfl (by decide) lk_X0_116 (fun _ h9 => h9) dX0_lanesAddedBy_74 (by omega) (CE_w (by omega)) rfl ?_
            refine r_icmp_le (tgt := 93) hx hb (by omega) (by omega) dX0_lanesAddedBy_77 (by decide) (fun c77 => ?_) (fun c77 => ?_)
            · refine r_const hx hb dX0_lanesAddedBy_93 ?_
              exact k_iret hx hb hr hlocks hP hS dX0_lanesAddedBy_94 ⟨by rw [lnA, cif_t ⟨by omega, c26, by omega⟩, cif_f (by omega)], rfl⟩
            · refine lv_aload_n hx hb dX0_lanesAddedBy_80 rfl (lv_at hl 1 rfl) ?_
              refine r_get (C := RX7) (T := TX7) (N := 16) (ci := 7) hx hb hts hi_X7 hown hK hP 6 rfl (by decide) lk_X0_116 (fun _ h9 => h9) dX0_lanesAddedBy_81 (by omega) (CE_w (by omega)) rfl ?_
              refine lv_aload hx hb dX0_lanesAddedBy_84 (lv_at hl 4 rfl) ?_
              refine r_get (C := RX7) (T := TX7) (N := 16) (ci := 7) hx hb hts hi_X7 hown hK hP 6 rfl (by decide) lk_X0_116 (fun _ h9 => h9) dX0_lanesAddedBy_86 (by omega) (CE_w (by omega)) rfl ?_
              refine r_sub hx hb dX0_lanesAddedBy_89 ?_
              refine lv_goto (tgt := 94) hx hb dX0_lanesAddedBy_90 (by decide) ?_
              exact k_iret hx hb hr hlocks hP hS dX0_lanesAddedBy_94 ⟨by rw [lnA, cif_t ⟨by omega, c26, by omega⟩, cif_t (by omega)], rfl⟩
          · refine lv_aload_n hx hb dX0_lanesAddedBy_63 rfl (lv_at hl 1 rfl) ?_
            refine r_get (C := RX7) (T := TX7) (N := 16) (ci := 7) hx hb hts hi_X7 hown hK hP 6 rfl (by decide) lk_X0_116 (fun _ h9 => h9) dX0_lanesAddedBy_64 (by omega) (CE_w (by omega)) rfl ?_
            exact k_iret hx hb hr hlocks hP hS dX0_lanesAddedBy_67 ⟨by rw [lnA, cif_f (by omega)], rfl⟩
      · refine lv_aload_n hx hb dX0_lanesAddedBy_29 rfl (lv_at hl 1 rfl) ?_
        refine r_get (C := RX7) (T := TX7) (N := 16) (ci := 7) hx hb hts hi_X7 hown hK hP 6 rfl (by decide) lk_X0_116 (fun _ h9 => h9) dX0_lanesAddedBy_30 (by omega) (CE_w (by omega)) rfl ?_
        exact k_iret hx hb hr hlocks hP hS dX0_lanesAddedBy_33 ⟨by rw [lnA, cif_f (fun q => c26 q.2.1)], rfl⟩
end
section
/-! ===== lists of works by number ===== -/
def Lst (f : Int → Int) (n : Int) (P : Int → Prop) (N : Int) : Prop := (0 ≤ n ∧ n ≤ N) ∧ (∀ k, 0 ≤ k → k < n → (0 ≤ f k ∧ f k < N) ∧ P (f k)) ∧ (∀ o, 0 ≤ o → o < N → P o → ∃ k, 0 ≤ k ∧ k < n ∧ f k = o) ∧ (∀ g : Int → Int, sumI (fun k => g (f k)) n = sumI (fun o => cif (P o) (g o) 0) N)
theorem Lst_0 {f : Int → Int} {P : Int → Prop} : Lst f 0 P 0 := ⟨by omega, fun k h1 h2 => by omega, fun o h1 h2 => by omega, fun g => rfl⟩
theorem Lst_c {f f' : Int → Int} {n : Int} {P : Int → Prop} {N : Int} (h : Lst f n P N) (e : ∀ k, 0 ≤ k → k < n → f' k = f k) : Lst f' n P N := by
  obtain ⟨h1, h2, h3, h4⟩ := h
  refine ⟨h1, fun k a b => by rw [e k a b]; exact h2 k a b, fun o a b c => ?_, fun g => ?_⟩
  · obtain ⟨k, k1, k2, k3⟩ := h3 o a b c
    exact ⟨k, k1, k2, by rw [e k k1 k2]; exact k3⟩
  · rw [← h4 g]
    exact sumI_c (fun k a b => by rw [e k a b])
theorem Lst_a {f f' : Int → Int} {n : Int} {P : Int → Prop} {i : Int} (hi : 0 ≤ i) (h : Lst f n P i) (hp : P i) (e : ∀ k, 0 ≤ k → k < n → f' k = f k) (e2 : f' n = i) : Lst f' (n + 1) P (i + 1) := by
  obtain ⟨h1, h2, h3, h4⟩ := Lst_c h e
  refine ⟨by omega, fun k a b => ?_, fun o a b c => ?_, fun g => ?_⟩
  · rcases (show k < n ∨ k = n by omega) with q | q
    · obtain ⟨x, y⟩ := h2 k a q
      exact ⟨by omega, y⟩
    · subst q
      rw [e2]
      exact ⟨by omega, hp⟩
  · rcases (show o < i ∨ o = i by omega) with q | q
    · obtain ⟨k, k1, k2, k3⟩ := h3 o a q c
      exact ⟨k, k1, by omega, k3⟩
    · exact ⟨n, by omega, by omega, by rw [e2, q]⟩
  · rw [sumI_s h1.1, sumI_s hi, h4 g, cif_t hp, e2]
theorem Lst_k {f : Int → Int} {n : Int} {P : Int → Prop} {i : Int} (hi : 0 ≤ i) (h : Lst f n P i) (hp : ¬ P i) : Lst f n P (i + 1) := by
  obtain ⟨h1, h2, h3, h4⟩ := h
  refine ⟨by omega, fun k a b => ?_, fun o a b c => ?_, fun g => ?_⟩
  · obtain ⟨x, y⟩ := h2 k a b
    exact ⟨by omega, y⟩
  · rcases (show o < i ∨ o = i by omega) with q | q
    · exact h3 o a q c
    · subst q
      exact absurd c hp
  · rw [sumI_s hi, h4 g, cif_f hp]
    omega
def Gth (σ τ : Tb) (C N : Int → Prop) : Prop := Cnt σ τ C ∧ Lst (τ 1) (τ 2 0) C (σ 0 2) ∧ Lst (τ 3) (τ 2 1) N (σ 0 2)
/-- of the scratch, only the lists of the company are other -/
def Fr1 (τ τ' : Tb) : Prop := (∀ t i, 4 ≤ t → τ' t i = τ t i) ∧ ∀ i, 2 ≤ i → τ' 2 i = τ 2 i
def nrP (σ : Tb) (C : Int → Prop) (M : Nat) (o : Int) : Prop := C o ∧ (σ 17 o).toNat &&& M ≠ 0
abbrev rmX0_gather : Room := { frames := 1, cells := 0, slots := 0, locals := 20 }
set_option maxRecDepth 100000 in
set_option maxHeartbeats 4000000 in
theorem c_X0_gather {l : Launch} {D : va_G} {G : Nat → ClassId} {ad : Nat → Nat} {σ τ : Tb} (hi : kInj 189 ad) {w bel : Int} {M : Nat} {les : Prop} (hI : Inv σ) (hw : -1 ≤ w ∧ w < 60) (hM : M < 1099511627776) (hb1 : (bel = 60 ∧ ¬ les) ∨ (bel = w ∧ les)) : Met l yX0_gather wsX0_gather rmX0_gather (kPc D (tysG G) 189 ad (CE G ad σ τ) [.ref (ad 2), .int (iI w), .long (lN M), .int (iI bel)]) (kQv D 189 ad (fun E' => ∃ τ', E' = CE G ad σ τ' ∧ Gth σ τ' (cnts σ w les) (nrP σ (cnts σ w les) M) ∧ Fr1 τ τ')) 0 0 (kA 189 ad) := by
  refine k_met (cc := cX0_gather) (maxL := 7) (ret := none) (by decide) (Nat.le_of_ble_eq_true rfl) ?_
  intro P0 e0 s m0 below meth c0 ls hx hb hr hlocks hml hown hts hK hP hS hl
  replace hl : lv_has ls 7 [(0, _), (1, _), (2, _), (4, _)] := hl
  replace hown : s.vm.findClass RX0 = some m0.cls := hown
  refine k_abs (fun Wg hWg => ?_)
  have h0 := Inv_0 hI
  refine lv_aload_n hx hb dX0_gather_0 rfl (lv_at hl 0 rfl) ?_
  refine r_const hx hb dX0_gather_1 ?_
  refine r_put (C := RX0) (T := TX0) (N := 9) (ci := 0) hx hb hi hts hi_X0 tyX0 tyX0_ok nmX0 hown hK hP hS 3 rfl (by decide) lk_X0_41 (fun _ h9 => h9) rfl (ty := .int) (by decide +kernel) rfl rfl dX0_gather_2 (by omega) CE_2 (Nat.le_of_ble_eq_true rfl) cu_memberCount (fun H locs hP hS => ?_)
  refine lv_aload_n hx hb dX0_gather_5 rfl (lv_at hl 0 rfl) ?_
  refine r_const hx hb dX0_gather_6 ?_
  refine r_put (C := RX0) (T := TX0) (N := 9) (ci := 0) hx hb hi hts hi_X0 tyX0 tyX0_ok nmX0 hown hK hP hS 5 rfl (by decide) lk_X0_45 (fun _ h9 => h9) rfl (ty := .int) (by decide +kernel) rfl rfl dX0_gather_7 (by omega) CE_2 (Nat.le_of_ble_eq_true rfl) cu_nearCount (fun H locs hP hS => ?_)
  refine r_const hx hb dX0_gather_10 ?_
  refine lv_istore hx hb dX0_gather_11 hl (by decide) rfl (fun ls hl => ?_)
  replace hl : lv_has ls 7 [(0, _), (1, _), (2, _), (4, _), (5, _)] := lv_sub hl [1, 2, 3, 4, 0] rfl
  have loop13 : ∀ (n : Nat) (i : Int) (τ1 : Tb) (H : Heap) (locs : List Loc) (ls : Array Slot), va_P D vwCl (kw 189 ad (CE G ad σ τ1)) H → va_S (kA 189 ad) s.heap H locs → lv_has ls 7 [(0, .ref (ad 2)), (1, .int (iI w)), (2, .long (lN M)), (4, .int (iI bel)), (5, .int (iI i))] → ((0 ≤ i ∧ i ≤ σ 0 2) ∧ (∀ k, 0 ≤ k → k < i → τ1 0 k = bI (cnts σ w les k)) ∧ Lst (τ1 1) (τ1 2 0) (cnts σ w les) i ∧ Lst (τ1 3) (τ1 2 1) (nrP σ (cnts σ w les) M) i ∧ Fr1 τ τ1) → (σ 0 2 - i).toNat < n → Wg H locs (F0 m0 13 ls []) := by
    intro n
    induction n with
    | zero => intro i τ1 H locs ls _ _ _ _ hn; omega
    | succ n ih13 =>
      intro i τ1 H locs ls hP hS hl hv13 hn13
      rw [hWg]
      obtain ⟨hv, hcn, hL1, hL3, hF⟩ := hv13
      have hn1 := hL1.1
      have hn3 := hL3.1
      refine lv_iload hx hb dX0_gather_13 (lv_at hl 4 rfl) ?_
      refine lv_aload_n hx hb dX0_gather_15 rfl (lv_at hl 0 rfl) ?_
      refine r_get (C := RX0) (T := TX0) (N := 9) (ci := 0) hx hb hts hi_X0 hown hK hP 0 rfl (by decide) lk_X0_33 (fun _ h9 => h9) dX0_gather_16 (by omega) CE_2 rfl ?_
      refine r_get (C := RX5) (T := TX5) (N := 8) (ci := 5) hx hb hts hi_X5 hown hK hP 6 rfl (by decide) lk_X0_48 (fun _ h9 => h9) dX0_gather_19 (by omega) CE_1 rfl ?_
      refine r_icmp_ge (tgt := 152) hx hb (by omega) (by omega) dX0_gather_22 (by decide) (fun c22 => ?_) (fun c22 => ?_)
      · obtain rfl : i = σ 0 2 := by omega
        exact k_vret hx hb hr hlocks hP hS dX0_gather_152 ⟨τ1, rfl, ⟨hcn, hL1, hL3⟩, hF⟩
      · obtain ⟨hN, hQ, _⟩ := Inv_w hI (w := i) (by omega)
        unfold IN at hN
        unfold IQ at hQ
        have join78 : ∀  (H : Heap) (locs : List Loc) (ls : Array Slot), va_P D vwCl (kw 189 ad (CE G ad σ τ1)) H → va_S (kA 189 ad) s.heap H locs → lv_has ls 7 [(0, .ref (ad 2)), (1, .int (iI w)), (2, .long (lN M)), (4, .int (iI bel)), (5, .int (iI i)), (6, .ref (ad (69 + i.toNat)))] → (True) → Wg H locs (F0 m0 78 ls [.int (iI (bI (cnts σ w les i))), .int (iI i), .ref (ad 10)]) := by
          intro  H locs ls hP hS hl hv78
          rw [hWg]
          have hz1 : bI (cnts σ w les i) = 0 ∨ bI (cnts σ w les i) = 1 := bI_01 _
          refine r_zast hx hb hi hK hP hS 2 rfl dX0_gather_78 (by omega) rfl (by omega) (by omega) hz1 (cu_counted (by omega)) (fun H locs hP hS => ?_)
          refine lv_aload_n hx hb dX0_gather_79 rfl (lv_at hl 0 rfl) ?_
          refine r_get (C := RX0) (T := TX0) (N := 9) (ci := 0) hx hb hts hi_X0 hown hK hP 1 rfl (by decide) lk_X0_9 (fun _ h9 => h9) dX0_gather_80 (by omega) CE_2 rfl ?_
          refine lv_iload hx hb dX0_gather_83 (lv_at hl 4 rfl) ?_
          refine r_zald hx hb hK hP 2 rfl dX0_gather_85 (by omega) rfl (by omega) (by omega) ((tI_at (by omega)).trans (by rw [up_self])) ?_
          have hcn2 : ∀ k, 0 ≤ k → k < i + 1 → up τ1 0 i (bI (cnts σ w les i)) 0 k = bI (cnts σ w les k) := by
            intro k k1 k2
            rcases (show k < i ∨ k = i by omega) with q | q
            · rw [up_i (by omega)]; exact hcn k k1 q
            · rw [q, up_self]
          have hF2 : Fr1 τ (up τ1 0 i (bI (cnts σ w les i))) := ⟨fun t j ht => by rw [up_t (by omega)]; exact hF.1 t j ht, fun j hj => by rw [up_t (by omega)]; exact hF.2 j hj⟩
          have join146 : ∀ (τ2 : Tb) (H : Heap) (locs : List Loc) (ls : Array Slot), va_P D vwCl (kw 189 ad (CE G ad σ τ2)) H → va_S (kA 189 ad) s.heap H locs → lv_has ls 7 [(0, .ref (ad 2)), (1, .int (iI w)), (2, .long (lN M)), (4, .int (iI bel)), (5, .int (iI i))] → ((∀ k, 0 ≤ k → k < i + 1 → τ2 0 k = bI (cnts σ w les k)) ∧ Lst (τ2 1) (τ2 2 0) (cnts σ w les) (i + 1) ∧ Lst (τ2 3) (τ2 2 1) (nrP σ (cnts σ w les) M) (i + 1) ∧ Fr1 τ τ2) → Wg H locs (F0 m0 146 ls []) := by
            intro τ2 H locs ls hP hS hl hv146
            rw [hWg]
            refine r_iinc hx hb dX0_gather_146 hl (k := 4) rfl (by decide) (fun ls hl => ?_)
            replace hl : lv_has ls 7 [(0, _), (1, _), (2, _), (4, _), (5, _)] := lv_sub hl [1, 2, 3, 4, 0] rfl
            refine lv_goto (tgt := 13) hx hb dX0_gather_149 (by decide) ?_
            rw [← hWg]
            exact ih13 (i + 1) τ2 _ _ _ hP hS hl ⟨by omega, hv146.1, hv146.2.1, hv146.2.2.1, hv146.2.2.2⟩ (by omega)
          refine r_ifB_ne (tgt := 92) hx hb dX0_gather_86 (by decide) (fun c86 => ?_) (fun c86 => ?_)
          · have hL1' : Lst (up (up (up τ1 0 i (bI (cnts σ w les i))) 1 (τ1 2 0) i) 2 0 (τ1 2 0 + 1) 1) (τ1 2 0 + 1) (cnts σ w les) (i + 1) := by
              refine Lst_a hv.1 hL1 c86 (fun k k1 k2 => ?_) ?_
              · rw [up_t (by decide), up_i (by omega), up_t (by decide)]
              · rw [up_t (by decide), up_self]
            have e20 : up τ1 0 i (bI (cnts σ w les i)) 2 0 = τ1 2 0 := up_t (by decide)
            have e21 : up (up τ1 0 i (bI (cnts σ w les i))) 1 (τ1 2 0) i 2 0 = τ1 2 0 := by rw [up_t (by decide), up_t (by decide)]
            have e22 : up (up (up τ1 0 i (bI (cnts σ w les i))) 1 (τ1 2 0) i) 2 0 (τ1 2 0 + 1) 2 1 = τ1 2 1 := by rw [up_i (by decide), up_t (by decide), up_t (by decide)]
            have e23 : up (up (up (up τ1 0 i (bI (cnts σ w les i))) 1 (τ1 2 0) i) 2 0 (τ1 2 0 + 1)) 3 (τ1 2 1) i 2 1 = τ1 2 1 := by rw [up_t (by decide)]; exact e22
            have h3 : (σ 17 i).toNat < 2 ^ 63 := by omega
            have hand : (σ 17 i).toNat &&& M < 2 ^ 63 := Nat.lt_of_le_of_lt Nat.and_le_left h3
            refine lv_aload_n hx hb dX0_gather_92 rfl (lv_at hl 0 rfl) ?_
            refine r_get (C := RX0) (T := TX0) (N := 9) (ci := 0) hx hb hts hi_X0 hown hK hP 2 rfl (by decide) lk_X0_15 (fun _ h9 => h9) dX0_gather_93 (by omega) CE_2 rfl ?_
            refine lv_aload_n hx hb dX0_gather_96 rfl (lv_at hl 0 rfl) ?_
            refine r_get (C := RX0) (T := TX0) (N := 9) (ci := 0) hx hb hts hi_X0 hown hK hP 3 rfl (by decide) lk_X0_41 (fun _ h9 => h9) dX0_gather_97 (by omega) CE_2 rfl ?_
            rw [e20]
            refine lv_iload hx hb dX0_gather_100 (lv_at hl 4 rfl) ?_
            refine r_iast hx hb hi hK hP hS 0 rfl dX0_gather_102 (by omega) rfl (by omega) (by omega) (cu_members (by omega)) (fun H locs hP hS => ?_)
            refine lv_aload_n hx hb dX0_gather_103 rfl (lv_at hl 0 rfl) ?_
            refine lv_dup hx hb dX0_gather_104 rfl ?_
            refine r_get (C := RX0) (T := TX0) (N := 9) (ci := 0) hx hb hts hi_X0 hown hK hP 3 rfl (by decide) lk_X0_41 (fun _ h9 => h9) dX0_gather_105 (by omega) CE_2 rfl ?_
            rw [e21]
            refine r_const hx hb dX0_gather_108 ?_
            refine r_add hx hb dX0_gather_109 ?_
            refine r_put (C := RX0) (T := TX0) (N := 9) (ci := 0) hx hb hi hts hi_X0 tyX0 tyX0_ok nmX0 hown hK hP hS 3 rfl (by decide) lk_X0_41 (fun _ h9 => h9) rfl (ty := .int) (by decide +kernel) rfl rfl dX0_gather_110 (by omega) CE_2 (Nat.le_of_ble_eq_true rfl) cu_memberCount (fun H locs hP hS => ?_)
            refine lv_aload hx hb dX0_gather_113 (lv_at hl 5 rfl) ?_
            refine r_get (C := RX7) (T := TX7) (N := 16) (ci := 7) hx hb hts hi_X7 hown hK hP 3 rfl (by decide) lk_X0_66 (fun _ h9 => h9) dX0_gather_115 (by omega) (CE_w (by omega)) rfl ?_
            refine lv_lload_n hx hb dX0_gather_118 rfl (lv_at hl 2 rfl) ?_
            refine r_land hx hb dX0_gather_119 (by omega) (by omega) ?_
            refine r_lconst0 hx hb dX0_gather_120 ?_
            refine r_lcmp hx hb dX0_gather_121 hand (by decide) ?_
            refine r_if_eq (tgt := 146) hx hb (cmpN_r _ _) dX0_gather_122 (by decide) (fun c122 => ?_) (fun c122 => ?_)
            · have hz2 : (σ 17 i).toNat &&& M = 0 := cmpN_0.mp c122
              have hL3' : Lst (up (up (up τ1 0 i (bI (cnts σ w les i))) 1 (τ1 2 0) i) 2 0 (τ1 2 0 + 1) 3) (τ1 2 1) (nrP σ (cnts σ w les) M) (i + 1) := Lst_c (Lst_k hv.1 hL3 (fun q => q.2 hz2)) (fun k k1 k2 => by rw [up_t (by decide), up_t (by decide), up_t (by decide)])
              rw [← hWg]
              exact join146 _ _ _ _ hP hS (lv_sub hl [0, 1, 2, 3, 4] rfl) ⟨fun k k1 k2 => by rw [up_t (by decide), up_t (by decide)]; exact hcn2 k k1 k2, by rw [up_self]; exact hL1', by rw [e22]; exact hL3', ⟨fun t j ht => by rw [up_t (by omega), up_t (by omega)]; exact hF2.1 t j ht, fun j hj => by rw [up_i (by omega), up_t (by decide)]; exact hF2.2 j hj⟩⟩
            · have hz2 : (σ 17 i).toNat &&& M ≠ 0 := fun q => c122 (cmpN_0.mpr q)
              have hL3' : Lst (up (up (up (up (up τ1 0 i (bI (cnts σ w les i))) 1 (τ1 2 0) i) 2 0 (τ1 2 0 + 1)) 3 (τ1 2 1) i) 2 1 (τ1 2 1 + 1) 3) (τ1 2 1 + 1) (nrP σ (cnts σ w les) M) (i + 1) := by
                refine Lst_a hv.1 hL3 ⟨c86, hz2⟩ (fun k k1 k2 => ?_) ?_
                · rw [up_t (by decide), up_i (by omega), up_t (by decide), up_t (by decide), up_t (by decide)]
                · rw [up_t (by decide), up_self]
              have hL1'' : Lst (up (up (up (up (up τ1 0 i (bI (cnts σ w les i))) 1 (τ1 2 0) i) 2 0 (τ1 2 0 + 1)) 3 (τ1 2 1) i) 2 1 (τ1 2 1 + 1) 1) (τ1 2 0 + 1) (cnts σ w les) (i + 1) := Lst_c hL1' (fun k k1 k2 => by rw [up_t (by decide), up_t (by decide)])
              refine lv_aload_n hx hb dX0_gather_125 rfl (lv_at hl 0 rfl) ?_
              refine r_get (C := RX0) (T := TX0) (N := 9) (ci := 0) hx hb hts hi_X0 hown hK hP 4 rfl (by decide) lk_X0_19 (fun _ h9 => h9) dX0_gather_126 (by omega) CE_2 rfl ?_
              refine lv_aload_n hx hb dX0_gather_129 rfl (lv_at hl 0 rfl) ?_
              refine r_get (C := RX0) (T := TX0) (N := 9) (ci := 0) hx hb hts hi_X0 hown hK hP 5 rfl (by decide) lk_X0_45 (fun _ h9 => h9) dX0_gather_130 (by omega) CE_2 rfl ?_
              rw [e22]
              refine lv_iload hx hb dX0_gather_133 (lv_at hl 4 rfl) ?_
              refine r_iast hx hb hi hK hP hS 0 rfl dX0_gather_135 (by omega) rfl (by omega) (by omega) (cu_near (by omega)) (fun H locs hP hS => ?_)
              refine lv_aload_n hx hb dX0_gather_136 rfl (lv_at hl 0 rfl) ?_
              refine lv_dup hx hb dX0_gather_137 rfl ?_
              refine r_get (C := RX0) (T := TX0) (N := 9) (ci := 0) hx hb hts hi_X0 hown hK hP 5 rfl (by decide) lk_X0_45 (fun _ h9 => h9) dX0_gather_138 (by omega) CE_2 rfl ?_
              rw [e23]
              refine r_const hx hb dX0_gather_141 ?_
              refine r_add hx hb dX0_gather_142 ?_
              refine r_put (C := RX0) (T := TX0) (N := 9) (ci := 0) hx hb hi hts hi_X0 tyX0 tyX0_ok nmX0 hown hK hP hS 5 rfl (by decide) lk_X0_45 (fun _ h9 => h9) rfl (ty := .int) (by decide +kernel) rfl rfl dX0_gather_143 (by omega) CE_2 (Nat.le_of_ble_eq_true rfl) cu_nearCount (fun H locs hP hS => ?_)
              rw [← hWg]
              exact join146 _ _ _ _ hP hS (lv_sub hl [0, 1, 2, 3, 4] rfl) ⟨fun k k1 k2 => by rw [up_t (by decide), up_t (by decide), up_t (by decide), up_t (by decide)]; exact hcn2 k k1 k2, by rw [up_i (by decide), up_t (by decide), up_self]; exact hL1'', by rw [up_self]; exact hL3', ⟨fun t j ht => by rw [up_t (by omega), up_t (by omega), up_t (by omega), up_t (by omega)]; exact hF2.1 t j ht, fun j hj => by rw [up_i (by omega), up_t (by decide), up_i (by omega), up_t (by decide)]; exact hF2.2 j hj⟩⟩
          · have hL1' : Lst (up τ1 0 i (bI (cnts σ w les i)) 1) (up τ1 0 i (bI (cnts σ w les i)) 2 0) (cnts σ w les) (i + 1) := by
              rw [up_t (by decide)]
              exact Lst_c (Lst_k hv.1 hL1 c86) (fun k k1 k2 => up_t (by decide))
            have hL3' : Lst (up τ1 0 i (bI (cnts σ w les i)) 3) (up τ1 0 i (bI (cnts σ w les i)) 2 1) (nrP σ (cnts σ w les) M) (i + 1) := by
              rw [up_t (by decide)]
              exact Lst_c (Lst_k hv.1 hL3 (fun q => c86 q.1)) (fun k k1 k2 => up_t (by decide))
            refine lv_goto (tgt := 146) hx hb dX0_gather_89 (by decide) ?_
            rw [← hWg]
            exact join146 _ _ _ _ hP hS (lv_sub hl [0, 1, 2, 3, 4] rfl) ⟨hcn2, hL1', hL3', hF2⟩
        refine lv_aload_n hx hb dX0_gather_25 rfl (lv_at hl 0 rfl) ?_
        refine r_get (C := RX0) (T := TX0) (N := 9) (ci := 0) hx hb hts hi_X0 hown hK hP 0 rfl (by decide) lk_X0_33 (fun _ h9 => h9) dX0_gather_26 (by omega) CE_2 rfl ?_
        refine r_get (C := RX5) (T := TX5) (N := 8) (ci := 5) hx hb hts hi_X5 hown hK hP 2 rfl (by decide) lk_X0_53 (fun _ h9 => h9) dX0_gather_29 (by omega) CE_1 rfl ?_
        refine lv_iload hx hb dX0_gather_32 (lv_at hl 4 rfl) ?_
        refine r_aald hx hb hK hP 5 rfl dX0_gather_34 (by omega) rfl (by omega) (by omega) rfl ?_
        refine lv_astore hx hb dX0_gather_35 hl (by decide) rfl (fun ls hl => ?_)
        replace hl : lv_has ls 7 [(0, _), (1, _), (2, _), (4, _), (5, _), (6, _)] := lv_sub hl [1, 2, 3, 4, 5, 0] rfl
        refine lv_aload_n hx hb dX0_gather_37 rfl (lv_at hl 0 rfl) ?_
        refine r_get (C := RX0) (T := TX0) (N := 9) (ci := 0) hx hb hts hi_X0 hown hK hP 1 rfl (by decide) lk_X0_9 (fun _ h9 => h9) dX0_gather_38 (by omega) CE_2 rfl ?_
        refine lv_iload hx hb dX0_gather_41 (lv_at hl 4 rfl) ?_
        refine lv_iload hx hb dX0_gather_43 (lv_at hl 4 rfl) ?_
        refine lv_iload_n hx hb dX0_gather_45 rfl (lv_at hl 1 rfl) ?_
        refine r_icmp_eq (tgt := 77) hx hb (by omega) (by omega) dX0_gather_46 (by decide) (fun c46 => ?_) (fun c46 => ?_)
        · refine r_const hx hb dX0_gather_77 ?_
          rw [show (0 : Int) = bI (cnts σ w les i) from (bI_f (fun q => q.1 c46)).symm]
          rw [← hWg]
          exact join78  _ _ _ hP hS hl trivial
        · refine lv_aload hx hb dX0_gather_49 (lv_at hl 5 rfl) ?_
          refine k_calliV (nL := 7) (C := RX7) (T := TX7) (N := 16) (ci := 7) hx hb hml hown hts hK hP hS hl.1 (c_X7_stands hi (by omega) (by omega)) rfl (Nat.le_of_ble_eq_true rfl) rfl (cwV 0 hts (gV lm_X0_57 ti_X7_stands tl_X7_stands tn_X7 tc_X7_stands) rfl rfl rfl (by decide +kernel) ⟨Nat.le_of_ble_eq_true rfl, Nat.le_of_ble_eq_true rfl⟩) rfl dX0_gather_51 ⟨Nat.zero_le _, Nat.zero_le _⟩ (by omega) (CE_w (by omega)) (fun r51 E1 H locs hq hP hS => ?_)
          obtain ⟨rfl, rfl⟩ := hq
          refine r_ifB_eq (tgt := 77) hx hb dX0_gather_54 (by decide) (fun c54 => ?_) (fun c54 => ?_)
          · refine r_const hx hb dX0_gather_77 ?_
            rw [show (0 : Int) = bI (cnts σ w les i) from (bI_f (fun q => c54 q.2.1)).symm]
            rw [← hWg]
            exact join78  _ _ _ hP hS hl trivial
          · refine lv_aload hx hb dX0_gather_57 (lv_at hl 5 rfl) ?_
            refine r_get (C := RX7) (T := TX7) (N := 16) (ci := 7) hx hb hts hi_X7 hown hK hP 10 rfl (by decide) lk_X0_63 (fun _ h9 => h9) dX0_gather_59 (by omega) (CE_w (by omega)) rfl ?_
            refine r_const hx hb dX0_gather_62 ?_
            refine r_icmp_ne (tgt := 73) hx hb (by omega) (by omega) dX0_gather_63 (by decide) (fun c63 => ?_) (fun c63 => ?_)
            · refine r_const hx hb dX0_gather_73 ?_
              refine lv_goto (tgt := 78) hx hb dX0_gather_74 (by decide) ?_
              rw [show (1 : Int) = bI (cnts σ w les i) from (bI_t ⟨c46, c54, fun _ => Or.inl c63⟩).symm]
              rw [← hWg]
              exact join78  _ _ _ hP hS hl trivial
            · refine lv_iload hx hb dX0_gather_66 (lv_at hl 4 rfl) ?_
              refine lv_iload hx hb dX0_gather_68 (lv_at hl 3 rfl) ?_
              refine r_icmp_ge (tgt := 77) hx hb (by omega) (by omega) dX0_gather_70 (by decide) (fun c70 => ?_) (fun c70 => ?_)
              · refine r_const hx hb dX0_gather_77 ?_
                rw [show (0 : Int) = bI (cnts σ w les i) from (bI_f (fun q => hb1.elim (fun z => by omega) (fun z => (q.2.2 z.2).elim (fun y => by omega) (fun y => by omega)))).symm]
                rw [← hWg]
                exact join78  _ _ _ hP hS hl trivial
              · refine r_const hx hb dX0_gather_73 ?_
                refine lv_goto (tgt := 78) hx hb dX0_gather_74 (by decide) ?_
                rw [show (1 : Int) = bI (cnts σ w les i) from (bI_t ⟨c46, c54, fun z => hb1.elim (fun y => absurd z y.2) (fun y => Or.inr (by omega))⟩).symm]
                rw [← hWg]
                exact join78  _ _ _ hP hS hl trivial
  rw [← hWg]
  exact loop13 _ 0 _ _ _ _ hP hS hl ⟨by omega, fun k k1 k2 => by omega, by rw [up_i (by decide), up_self]; exact Lst_0, by rw [up_self]; exact Lst_0, ⟨fun t j ht => by rw [up_t (by omega), up_t (by omega)], fun j hj => by rw [up_i (by omega), up_i (by omega)]⟩⟩ (Nat.lt_succ_self _)
abbrev rmX0_gatherAll : Room := { frames := 2, cells := 0, slots := 0, locals := 46 }
set_option maxRecDepth 100000 in
set_option maxHeartbeats 4000000 in
theorem c_X0_gatherAll {l : Launch} {D : va_G} {G : Nat → ClassId} {ad : Nat → Nat} {σ τ : Tb} (hi : kInj 189 ad) (hI : Inv σ) : Met l yX0_gatherAll wsX0_gatherAll rmX0_gatherAll (kPc D (tysG G) 189 ad (CE G ad σ τ) [.ref (ad 2)]) (kQv D 189 ad (fun E' => ∃ τ', E' = CE G ad σ τ' ∧ Gth σ τ' (cnts σ (-1) False) (nrP σ (cnts σ (-1) False) 0) ∧ Fr1 τ τ')) 0 0 (kA 189 ad) := by
  refine k_met (cc := cX0_gatherAll) (maxL := 1) (ret := none) (by decide) (Nat.le_of_ble_eq_true rfl) ?_
  intro P0 e0 s m0 below meth c0 ls hx hb hr hlocks hml hown hts hK hP hS hl
  replace hl : lv_has ls 1 [(0, _)] := hl
  replace hown : s.vm.findClass RX0 = some m0.cls := hown
  refine k_abs (fun Wg hWg => ?_)
  refine lv_aload_n hx hb dX0_gatherAll_0 rfl (lv_at hl 0 rfl) ?_
  refine r_const hx hb dX0_gatherAll_1 ?_
  refine r_lconst0 hx hb dX0_gatherAll_2 ?_
  refine r_bipush hx hb dX0_gatherAll_3 (by decide +kernel) ?_
  refine k_callvV (nL := 1) (C := RX0) (T := TX0) (N := 9) (ci := 0) hx hb hml hown hts hK hP hS hl.1 (c_X0_gather (les := False) hi hI (by omega) (by omega) (Or.inl ⟨rfl, id⟩)) rfl (Nat.le_of_ble_eq_true rfl) rfl (cwV 3 hts (gV lm_X0_37 ti_X0_gather tl_X0_gather tn_X0 tc_X0_gather) rfl rfl rfl (by decide +kernel) ⟨Nat.le_of_ble_eq_true rfl, Nat.le_of_ble_eq_true rfl⟩) rfl dX0_gatherAll_5 ⟨Nat.zero_le _, Nat.zero_le _⟩ (by omega) CE_2 (fun E1 H locs hq hP hS => ?_)
  exact k_vret hx hb hr hlocks hP hS dX0_gatherAll_8 hq
end
