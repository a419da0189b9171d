section
/-- a private method of a class that the tables say can be made, by its rows of tables_1 -/
def lw_okq (q : MethodName × Nat) : Prop := (q.1.cls ≠ "java/lang/invoke/MethodHandle" ∧ q.1.cls ≠ "java/lang/invoke/VarHandle") ∧ Cond.instantiable q.1.cls q.2 ∈ tables_1 ∧ Cond.privateMethod q.1 ∈ tables_1 ∧ Cond.instanceMethod q.1 ∈ tables_1
theorem lw_p0 : lw_okq (⟨"StationPasses", "layText", "()I"⟩, 7) := ⟨⟨by decide +kernel, by decide +kernel⟩, List.mem_of_getElem? (i := 22) (by decide +kernel), List.mem_of_getElem? (i := 391) (by decide +kernel), List.mem_of_getElem? (i := 392) (by decide +kernel)⟩
theorem lw_p1 : lw_okq (⟨"StationPasses$Setting", "readItem", "(LStationPasses$Letters;I)I"⟩, 3) := ⟨⟨by decide +kernel, by decide +kernel⟩, List.mem_of_getElem? (i := 52) (by decide +kernel), List.mem_of_getElem? (i := 399) (by decide +kernel), List.mem_of_getElem? (i := 400) (by decide +kernel)⟩
theorem lw_p2 : lw_okq (⟨"StationPasses$Setting", "itemsOf", "(C)LStationPasses$Items;"⟩, 3) := ⟨⟨by decide +kernel, by decide +kernel⟩, List.mem_of_getElem? (i := 52) (by decide +kernel), List.mem_of_getElem? (i := 407) (by decide +kernel), List.mem_of_getElem? (i := 408) (by decide +kernel)⟩
theorem lw_p3 : lw_okq (⟨"StationPasses$Passes", "append", "(LStationPasses$Setting;III)V"⟩, 7) := ⟨⟨by decide +kernel, by decide +kernel⟩, List.mem_of_getElem? (i := 118) (by decide +kernel), List.mem_of_getElem? (i := 457) (by decide +kernel), List.mem_of_getElem? (i := 458) (by decide +kernel)⟩
theorem lw_p4 : lw_okq (⟨"StationPasses", "prepareChange", "()V"⟩, 7) := ⟨⟨by decide +kernel, by decide +kernel⟩, List.mem_of_getElem? (i := 22) (by decide +kernel), List.mem_of_getElem? (i := 631) (by decide +kernel), List.mem_of_getElem? (i := 632) (by decide +kernel)⟩
theorem lw_p5 : lw_okq (⟨"StationPasses$Chain", "tryHead", "(LStationPasses$Network;II)V"⟩, 4) := ⟨⟨by decide +kernel, by decide +kernel⟩, List.mem_of_getElem? (i := 254) (by decide +kernel), List.mem_of_getElem? (i := 687) (by decide +kernel), List.mem_of_getElem? (i := 688) (by decide +kernel)⟩
theorem lw_p6 : lw_okq (⟨"StationPasses", "isBadPlan", "(III)Z"⟩, 7) := ⟨⟨by decide +kernel, by decide +kernel⟩, List.mem_of_getElem? (i := 22) (by decide +kernel), List.mem_of_getElem? (i := 700) (by decide +kernel), List.mem_of_getElem? (i := 701) (by decide +kernel)⟩
theorem lw_p7 : lw_okq (⟨"StationPasses$Planner", "findOpen", "(LStationPasses$Network;)V"⟩, 17) := ⟨⟨by decide +kernel, by decide +kernel⟩, List.mem_of_getElem? (i := 275) (by decide +kernel), List.mem_of_getElem? (i := 714) (by decide +kernel), List.mem_of_getElem? (i := 715) (by decide +kernel)⟩
theorem lw_p8 : lw_okq (⟨"StationPasses$Planner", "findApart", "(LStationPasses$Network;)V"⟩, 17) := ⟨⟨by decide +kernel, by decide +kernel⟩, List.mem_of_getElem? (i := 275) (by decide +kernel), List.mem_of_getElem? (i := 720) (by decide +kernel), List.mem_of_getElem? (i := 721) (by decide +kernel)⟩
theorem lw_p9 : lw_okq (⟨"StationPasses$Planner", "weighVolumes", "(LStationPasses$Network;)V"⟩, 17) := ⟨⟨by decide +kernel, by decide +kernel⟩, List.mem_of_getElem? (i := 275) (by decide +kernel), List.mem_of_getElem? (i := 726) (by decide +kernel), List.mem_of_getElem? (i := 727) (by decide +kernel)⟩
theorem lw_p10 : lw_okq (⟨"StationPasses$Planner", "weighLosses", "(LStationPasses$Network;LStationPasses$Stores;)V"⟩, 17) := ⟨⟨by decide +kernel, by decide +kernel⟩, List.mem_of_getElem? (i := 275) (by decide +kernel), List.mem_of_getElem? (i := 734) (by decide +kernel), List.mem_of_getElem? (i := 735) (by decide +kernel)⟩
theorem lw_p11 : lw_okq (⟨"StationPasses$Planner", "passesOf", "(LStationPasses$Network;I)I"⟩, 17) := ⟨⟨by decide +kernel, by decide +kernel⟩, List.mem_of_getElem? (i := 275) (by decide +kernel), List.mem_of_getElem? (i := 739) (by decide +kernel), List.mem_of_getElem? (i := 740) (by decide +kernel)⟩
theorem lw_p12 : lw_okq (⟨"StationPasses$Stores", "gatherFlow", "(LStationPasses$Passes;II)V"⟩, 5) := ⟨⟨by decide +kernel, by decide +kernel⟩, List.mem_of_getElem? (i := 227) (by decide +kernel), List.mem_of_getElem? (i := 751) (by decide +kernel), List.mem_of_getElem? (i := 752) (by decide +kernel)⟩
theorem lw_p13 : lw_okq (⟨"StationPasses$Planner", "rankMasks", "()V"⟩, 17) := ⟨⟨by decide +kernel, by decide +kernel⟩, List.mem_of_getElem? (i := 275) (by decide +kernel), List.mem_of_getElem? (i := 759) (by decide +kernel), List.mem_of_getElem? (i := 760) (by decide +kernel)⟩
theorem lw_p14 : lw_okq (⟨"StationPasses$Planner", "lookOut", "()V"⟩, 17) := ⟨⟨by decide +kernel, by decide +kernel⟩, List.mem_of_getElem? (i := 275) (by decide +kernel), List.mem_of_getElem? (i := 765) (by decide +kernel), List.mem_of_getElem? (i := 766) (by decide +kernel)⟩
theorem lw_p15 : lw_okq (⟨"StationPasses$Planner", "startFromNow", "(LStationPasses$Network;)V"⟩, 17) := ⟨⟨by decide +kernel, by decide +kernel⟩, List.mem_of_getElem? (i := 275) (by decide +kernel), List.mem_of_getElem? (i := 770) (by decide +kernel), List.mem_of_getElem? (i := 771) (by decide +kernel)⟩
def lw_privs_1 : List (MethodName × Nat) := [(⟨"StationPasses", "layText", "()I"⟩, 7), (⟨"StationPasses$Setting", "readItem", "(LStationPasses$Letters;I)I"⟩, 3), (⟨"StationPasses$Setting", "itemsOf", "(C)LStationPasses$Items;"⟩, 3), (⟨"StationPasses$Passes", "append", "(LStationPasses$Setting;III)V"⟩, 7), (⟨"StationPasses", "prepareChange", "()V"⟩, 7), (⟨"StationPasses$Chain", "tryHead", "(LStationPasses$Network;II)V"⟩, 4), (⟨"StationPasses", "isBadPlan", "(III)Z"⟩, 7), (⟨"StationPasses$Planner", "findOpen", "(LStationPasses$Network;)V"⟩, 17), (⟨"StationPasses$Planner", "findApart", "(LStationPasses$Network;)V"⟩, 17), (⟨"StationPasses$Planner", "weighVolumes", "(LStationPasses$Network;)V"⟩, 17), (⟨"StationPasses$Planner", "weighLosses", "(LStationPasses$Network;LStationPasses$Stores;)V"⟩, 17), (⟨"StationPasses$Planner", "passesOf", "(LStationPasses$Network;I)I"⟩, 17), (⟨"StationPasses$Stores", "gatherFlow", "(LStationPasses$Passes;II)V"⟩, 5), (⟨"StationPasses$Planner", "rankMasks", "()V"⟩, 17), (⟨"StationPasses$Planner", "lookOut", "()V"⟩, 17), (⟨"StationPasses$Planner", "startFromNow", "(LStationPasses$Network;)V"⟩, 17)]
theorem lw_r1 : ∀ q ∈ lw_privs_1, lw_okq q := List.forall_mem_cons.mpr ⟨lw_p0, List.forall_mem_cons.mpr ⟨lw_p1, List.forall_mem_cons.mpr ⟨lw_p2, List.forall_mem_cons.mpr ⟨lw_p3, List.forall_mem_cons.mpr ⟨lw_p4, List.forall_mem_cons.mpr ⟨lw_p5, List.forall_mem_cons.mpr ⟨lw_p6, List.forall_mem_cons.mpr ⟨lw_p7, List.forall_mem_cons.mpr ⟨lw_p8, List.forall_mem_cons.mpr ⟨lw_p9, List.forall_mem_cons.mpr ⟨lw_p10, List.forall_mem_cons.mpr ⟨lw_p11, List.forall_mem_cons.mpr ⟨lw_p12, List.forall_mem_cons.mpr ⟨lw_p13, List.forall_mem_cons.mpr ⟨lw_p14, List.forall_mem_cons.mpr ⟨lw_p15, fun _ h => absurd h List.not_mem_nil⟩⟩⟩⟩⟩⟩⟩⟩⟩⟩⟩⟩⟩⟩⟩⟩
theorem lw_p16 : lw_okq (⟨"StationPasses$Planner", "changesAhead", "(II)I"⟩, 17) := ⟨⟨by decide +kernel, by decide +kernel⟩, List.mem_of_getElem? (i := 275) (by decide +kernel), List.mem_of_getElem? (i := 778) (by decide +kernel), List.mem_of_getElem? (i := 779) (by decide +kernel)⟩
theorem lw_p17 : lw_okq (⟨"StationPasses$Planner", "keepWay", "(II)V"⟩, 17) := ⟨⟨by decide +kernel, by decide +kernel⟩, List.mem_of_getElem? (i := 275) (by decide +kernel), List.mem_of_getElem? (i := 782) (by decide +kernel), List.mem_of_getElem? (i := 783) (by decide +kernel)⟩
theorem lw_p18 : lw_okq (⟨"StationPasses$Planner", "freeAntennas", "(II)I"⟩, 17) := ⟨⟨by decide +kernel, by decide +kernel⟩, List.mem_of_getElem? (i := 275) (by decide +kernel), List.mem_of_getElem? (i := 786) (by decide +kernel), List.mem_of_getElem? (i := 787) (by decide +kernel)⟩
theorem lw_p19 : lw_okq (⟨"StationPassesModel", "satNow", "(IIIIII)V"⟩, 28) := ⟨⟨by decide +kernel, by decide +kernel⟩, List.mem_of_getElem? (i := 823) (by decide +kernel), List.mem_of_getElem? (i := 829) (by decide +kernel), List.mem_of_getElem? (i := 830) (by decide +kernel)⟩
theorem lw_p20 : lw_okq (⟨"StationPassesModel", "lays", "()V"⟩, 28) := ⟨⟨by decide +kernel, by decide +kernel⟩, List.mem_of_getElem? (i := 823) (by decide +kernel), List.mem_of_getElem? (i := 833) (by decide +kernel), List.mem_of_getElem? (i := 834) (by decide +kernel)⟩
theorem lw_p21 : lw_okq (⟨"StationPassesModel", "sees", "(III)Z"⟩, 28) := ⟨⟨by decide +kernel, by decide +kernel⟩, List.mem_of_getElem? (i := 823) (by decide +kernel), List.mem_of_getElem? (i := 837) (by decide +kernel), List.mem_of_getElem? (i := 838) (by decide +kernel)⟩
theorem lw_p22 : lw_okq (⟨"StationPassesModel", "rateOf", "(III)I"⟩, 28) := ⟨⟨by decide +kernel, by decide +kernel⟩, List.mem_of_getElem? (i := 823) (by decide +kernel), List.mem_of_getElem? (i := 841) (by decide +kernel), List.mem_of_getElem? (i := 842) (by decide +kernel)⟩
theorem lw_p23 : lw_okq (⟨"StationPassesModel", "item", "(I)Z"⟩, 28) := ⟨⟨by decide +kernel, by decide +kernel⟩, List.mem_of_getElem? (i := 823) (by decide +kernel), List.mem_of_getElem? (i := 947) (by decide +kernel), List.mem_of_getElem? (i := 948) (by decide +kernel)⟩
theorem lw_p24 : lw_okq (⟨"StationPassesModel", "number", "(III[II)Z"⟩, 28) := ⟨⟨by decide +kernel, by decide +kernel⟩, List.mem_of_getElem? (i := 823) (by decide +kernel), List.mem_of_getElem? (i := 951) (by decide +kernel), List.mem_of_getElem? (i := 952) (by decide +kernel)⟩
theorem lw_p25 : lw_okq (⟨"StationPassesModel", "byteAt", "(I)I"⟩, 28) := ⟨⟨by decide +kernel, by decide +kernel⟩, List.mem_of_getElem? (i := 823) (by decide +kernel), List.mem_of_getElem? (i := 955) (by decide +kernel), List.mem_of_getElem? (i := 956) (by decide +kernel)⟩
theorem lw_p26 : lw_okq (⟨"StationPassesModel", "sumOf", "(II)I"⟩, 28) := ⟨⟨by decide +kernel, by decide +kernel⟩, List.mem_of_getElem? (i := 823) (by decide +kernel), List.mem_of_getElem? (i := 971) (by decide +kernel), List.mem_of_getElem? (i := 972) (by decide +kernel)⟩
theorem lw_p27 : lw_okq (⟨"StationPassesModel", "isAntenna", "(I)Z"⟩, 28) := ⟨⟨by decide +kernel, by decide +kernel⟩, List.mem_of_getElem? (i := 823) (by decide +kernel), List.mem_of_getElem? (i := 979) (by decide +kernel), List.mem_of_getElem? (i := 980) (by decide +kernel)⟩
theorem lw_p28 : lw_okq (⟨"StationPassesModel", "isPass", "(I)Z"⟩, 28) := ⟨⟨by decide +kernel, by decide +kernel⟩, List.mem_of_getElem? (i := 823) (by decide +kernel), List.mem_of_getElem? (i := 992) (by decide +kernel), List.mem_of_getElem? (i := 993) (by decide +kernel)⟩
theorem lw_p29 : lw_okq (⟨"StationPassesModel", "fits", "(II)Z"⟩, 28) := ⟨⟨by decide +kernel, by decide +kernel⟩, List.mem_of_getElem? (i := 823) (by decide +kernel), List.mem_of_getElem? (i := 996) (by decide +kernel), List.mem_of_getElem? (i := 997) (by decide +kernel)⟩
theorem lw_p30 : lw_okq (⟨"StationPassesModel", "rateAt", "(II)I"⟩, 28) := ⟨⟨by decide +kernel, by decide +kernel⟩, List.mem_of_getElem? (i := 823) (by decide +kernel), List.mem_of_getElem? (i := 1004) (by decide +kernel), List.mem_of_getElem? (i := 1005) (by decide +kernel)⟩
theorem lw_p31 : lw_okq (⟨"StationPassesModel", "whyNot", "(II)I"⟩, 28) := ⟨⟨by decide +kernel, by decide +kernel⟩, List.mem_of_getElem? (i := 823) (by decide +kernel), List.mem_of_getElem? (i := 1012) (by decide +kernel), List.mem_of_getElem? (i := 1013) (by decide +kernel)⟩
def lw_privs_2 : List (MethodName × Nat) := [(⟨"StationPasses$Planner", "changesAhead", "(II)I"⟩, 17), (⟨"StationPasses$Planner", "keepWay", "(II)V"⟩, 17), (⟨"StationPasses$Planner", "freeAntennas", "(II)I"⟩, 17), (⟨"StationPassesModel", "satNow", "(IIIIII)V"⟩, 28), (⟨"StationPassesModel", "lays", "()V"⟩, 28), (⟨"StationPassesModel", "sees", "(III)Z"⟩, 28), (⟨"StationPassesModel", "rateOf", "(III)I"⟩, 28), (⟨"StationPassesModel", "item", "(I)Z"⟩, 28), (⟨"StationPassesModel", "number", "(III[II)Z"⟩, 28), (⟨"StationPassesModel", "byteAt", "(I)I"⟩, 28), (⟨"StationPassesModel", "sumOf", "(II)I"⟩, 28), (⟨"StationPassesModel", "isAntenna", "(I)Z"⟩, 28), (⟨"StationPassesModel", "isPass", "(I)Z"⟩, 28), (⟨"StationPassesModel", "fits", "(II)Z"⟩, 28), (⟨"StationPassesModel", "rateAt", "(II)I"⟩, 28), (⟨"StationPassesModel", "whyNot", "(II)I"⟩, 28)]
theorem lw_r2 : ∀ q ∈ lw_privs_2, lw_okq q := List.forall_mem_cons.mpr ⟨lw_p16, List.forall_mem_cons.mpr ⟨lw_p17, List.forall_mem_cons.mpr ⟨lw_p18, List.forall_mem_cons.mpr ⟨lw_p19, List.forall_mem_cons.mpr ⟨lw_p20, List.forall_mem_cons.mpr ⟨lw_p21, List.forall_mem_cons.mpr ⟨lw_p22, List.forall_mem_cons.mpr ⟨lw_p23, List.forall_mem_cons.mpr ⟨lw_p24, List.forall_mem_cons.mpr ⟨lw_p25, List.forall_mem_cons.mpr ⟨lw_p26, List.forall_mem_cons.mpr ⟨lw_p27, List.forall_mem_cons.mpr ⟨lw_p28, List.forall_mem_cons.mpr ⟨lw_p29, List.forall_mem_cons.mpr ⟨lw_p30, List.forall_mem_cons.mpr ⟨lw_p31, fun _ h => absurd h List.not_mem_nil⟩⟩⟩⟩⟩⟩⟩⟩⟩⟩⟩⟩⟩⟩⟩⟩
theorem lw_p32 : lw_okq (⟨"StationPassesModel", "together", "(III)Z"⟩, 28) := ⟨⟨by decide +kernel, by decide +kernel⟩, List.mem_of_getElem? (i := 823) (by decide +kernel), List.mem_of_getElem? (i := 1016) (by decide +kernel), List.mem_of_getElem? (i := 1017) (by decide +kernel)⟩
theorem lw_p33 : lw_okq (⟨"StationPassesModel", "overlap", "(II)Z"⟩, 28) := ⟨⟨by decide +kernel, by decide +kernel⟩, List.mem_of_getElem? (i := 823) (by decide +kernel), List.mem_of_getElem? (i := 1020) (by decide +kernel), List.mem_of_getElem? (i := 1021) (by decide +kernel)⟩
theorem lw_p34 : lw_okq (⟨"StationPassesModel", "note", "()V"⟩, 28) := ⟨⟨by decide +kernel, by decide +kernel⟩, List.mem_of_getElem? (i := 823) (by decide +kernel), List.mem_of_getElem? (i := 1032) (by decide +kernel), List.mem_of_getElem? (i := 1033) (by decide +kernel)⟩
theorem lw_p35 : lw_okq (⟨"StationPassesModel", "contacts", "()I"⟩, 28) := ⟨⟨by decide +kernel, by decide +kernel⟩, List.mem_of_getElem? (i := 823) (by decide +kernel), List.mem_of_getElem? (i := 1036) (by decide +kernel), List.mem_of_getElem? (i := 1037) (by decide +kernel)⟩
theorem lw_p36 : lw_okq (⟨"StationPassesModel", "bests", "(I)V"⟩, 28) := ⟨⟨by decide +kernel, by decide +kernel⟩, List.mem_of_getElem? (i := 823) (by decide +kernel), List.mem_of_getElem? (i := 1052) (by decide +kernel), List.mem_of_getElem? (i := 1053) (by decide +kernel)⟩
theorem lw_p37 : lw_okq (⟨"StationPassesModel", "bestBehind", "(II)I"⟩, 28) := ⟨⟨by decide +kernel, by decide +kernel⟩, List.mem_of_getElem? (i := 823) (by decide +kernel), List.mem_of_getElem? (i := 1056) (by decide +kernel), List.mem_of_getElem? (i := 1057) (by decide +kernel)⟩
theorem lw_p38 : lw_okq (⟨"StationPassesModel", "wide", "(I)I"⟩, 28) := ⟨⟨by decide +kernel, by decide +kernel⟩, List.mem_of_getElem? (i := 823) (by decide +kernel), List.mem_of_getElem? (i := 1065) (by decide +kernel), List.mem_of_getElem? (i := 1066) (by decide +kernel)⟩
theorem lw_p39 : lw_okq (⟨"StationPassesModel", "plans", "(III)V"⟩, 28) := ⟨⟨by decide +kernel, by decide +kernel⟩, List.mem_of_getElem? (i := 823) (by decide +kernel), List.mem_of_getElem? (i := 1069) (by decide +kernel), List.mem_of_getElem? (i := 1070) (by decide +kernel)⟩
theorem lw_p40 : lw_okq (⟨"StationPassesModel", "isWay", "(II)Z"⟩, 28) := ⟨⟨by decide +kernel, by decide +kernel⟩, List.mem_of_getElem? (i := 823) (by decide +kernel), List.mem_of_getElem? (i := 1074) (by decide +kernel), List.mem_of_getElem? (i := 1075) (by decide +kernel)⟩
theorem lw_p41 : lw_okq (⟨"StationPassesModel", "volumeOf", "([III)I"⟩, 28) := ⟨⟨by decide +kernel, by decide +kernel⟩, List.mem_of_getElem? (i := 823) (by decide +kernel), List.mem_of_getElem? (i := 1078) (by decide +kernel), List.mem_of_getElem? (i := 1079) (by decide +kernel)⟩
theorem lw_p42 : lw_okq (⟨"StationPassesModel", "lost", "([I)I"⟩, 28) := ⟨⟨by decide +kernel, by decide +kernel⟩, List.mem_of_getElem? (i := 823) (by decide +kernel), List.mem_of_getElem? (i := 1082) (by decide +kernel), List.mem_of_getElem? (i := 1083) (by decide +kernel)⟩
theorem lw_p43 : lw_okq (⟨"StationPassesModel", "fills", "([I)V"⟩, 28) := ⟨⟨by decide +kernel, by decide +kernel⟩, List.mem_of_getElem? (i := 823) (by decide +kernel), List.mem_of_getElem? (i := 1086) (by decide +kernel), List.mem_of_getElem? (i := 1087) (by decide +kernel)⟩
theorem lw_p44 : lw_okq (⟨"StationPassesModel", "flows", "(II)V"⟩, 28) := ⟨⟨by decide +kernel, by decide +kernel⟩, List.mem_of_getElem? (i := 823) (by decide +kernel), List.mem_of_getElem? (i := 1090) (by decide +kernel), List.mem_of_getElem? (i := 1091) (by decide +kernel)⟩
theorem lw_p45 : lw_okq (⟨"StationPassesModel", "isLess", "(III)Z"⟩, 28) := ⟨⟨by decide +kernel, by decide +kernel⟩, List.mem_of_getElem? (i := 823) (by decide +kernel), List.mem_of_getElem? (i := 1094) (by decide +kernel), List.mem_of_getElem? (i := 1095) (by decide +kernel)⟩
def lw_privs_3 : List (MethodName × Nat) := [(⟨"StationPassesModel", "together", "(III)Z"⟩, 28), (⟨"StationPassesModel", "overlap", "(II)Z"⟩, 28), (⟨"StationPassesModel", "note", "()V"⟩, 28), (⟨"StationPassesModel", "contacts", "()I"⟩, 28), (⟨"StationPassesModel", "bests", "(I)V"⟩, 28), (⟨"StationPassesModel", "bestBehind", "(II)I"⟩, 28), (⟨"StationPassesModel", "wide", "(I)I"⟩, 28), (⟨"StationPassesModel", "plans", "(III)V"⟩, 28), (⟨"StationPassesModel", "isWay", "(II)Z"⟩, 28), (⟨"StationPassesModel", "volumeOf", "([III)I"⟩, 28), (⟨"StationPassesModel", "lost", "([I)I"⟩, 28), (⟨"StationPassesModel", "fills", "([I)V"⟩, 28), (⟨"StationPassesModel", "flows", "(II)V"⟩, 28), (⟨"StationPassesModel", "isLess", "(III)Z"⟩, 28)]
theorem lw_r3 : ∀ q ∈ lw_privs_3, lw_okq q := List.forall_mem_cons.mpr ⟨lw_p32, List.forall_mem_cons.mpr ⟨lw_p33, List.forall_mem_cons.mpr ⟨lw_p34, List.forall_mem_cons.mpr ⟨lw_p35, List.forall_mem_cons.mpr ⟨lw_p36, List.forall_mem_cons.mpr ⟨lw_p37, List.forall_mem_cons.mpr ⟨lw_p38, List.forall_mem_cons.mpr ⟨lw_p39, List.forall_mem_cons.mpr ⟨lw_p40, List.forall_mem_cons.mpr ⟨lw_p41, List.forall_mem_cons.mpr ⟨lw_p42, List.forall_mem_cons.mpr ⟨lw_p43, List.forall_mem_cons.mpr ⟨lw_p44, List.forall_mem_cons.mpr ⟨lw_p45, fun _ h => absurd h List.not_mem_nil⟩⟩⟩⟩⟩⟩⟩⟩⟩⟩⟩⟩⟩⟩
def lw_privs : List (MethodName × Nat) := lw_privs_1 ++ (lw_privs_2 ++ (lw_privs_3))
def lw_tbl : List Cond := k2_sels lw_privs ++ tables_1
theorem lw_privs_ok : ∀ q ∈ lw_privs, lw_okq q := by
  show ∀ q ∈ lw_privs_1 ++ (lw_privs_2 ++ (lw_privs_3)), lw_okq q
  exact List.forall_mem_append.mpr ⟨lw_r1, List.forall_mem_append.mpr ⟨lw_r2, lw_r3⟩⟩
end
section
def RX0 : String := "StationPasses$Chain"
def TX0 : u_T := fun k => match k with
  | 0 => ("StationPasses$Chain", "volume", "[I", true)
  | 1 => ("StationPasses$Chain", "length", "[I", true)
  | 2 => ("StationPasses$Chain", "head", "[I", true)
  | _ => ("StationPasses$Chain", "rest", "[I", true)
def tyX0 : Nat → FieldType := fun k => match k with
  | 0 => .array .int
  | 1 => .array .int
  | 2 => .array .int
  | _ => .array .int
theorem nmX0 : ∀ a, a < 4 → ∀ b, b < 4 → a ≠ b → (TX0 a).2.1 ≠ (TX0 b).2.1 := by decide +kernel
theorem tyX0_ok : ∀ k, k < 4 → parseFieldDescriptor (TX0 k).2.2.1 = some (tyX0 k) := by decide +kernel
abbrev cX0_init : ByteArray := prog_2_method_1_code
def yX0_init : MethodName := ⟨RX0, "<init>", "()V"⟩
abbrev cX0_find : ByteArray := prog_2_method_2_code
def yX0_find : MethodName := ⟨RX0, "find", "(LStationPasses$Network;I)V"⟩
abbrev cX0_tryHead : ByteArray := prog_2_method_3_code
def yX0_tryHead : MethodName := ⟨RX0, "tryHead", "(LStationPasses$Network;II)V"⟩
abbrev cX0_member : ByteArray := prog_2_method_4_code
def yX0_member : MethodName := ⟨RX0, "member", "(I)I"⟩
def RX1 : String := "StationPasses$History"
def TX1 : u_T := fun k => match k with
  | 0 => ("StationPasses$History", "states", "[LStationPasses$State;", true)
  | 1 => ("StationPasses$History", "next", "I", false)
  | _ => ("StationPasses$History", "kept", "I", false)
def tyX1 : Nat → FieldType := fun k => match k with
  | 0 => .array (.object "StationPasses$State")
  | 1 => .int
  | _ => .int
theorem nmX1 : ∀ a, a < 3 → ∀ b, b < 3 → a ≠ b → (TX1 a).2.1 ≠ (TX1 b).2.1 := by decide +kernel
theorem tyX1_ok : ∀ k, k < 3 → parseFieldDescriptor (TX1 k).2.2.1 = some (tyX1 k) := by decide +kernel
abbrev cX1_init : ByteArray := prog_3_method_1_code
def yX1_init : MethodName := ⟨RX1, "<init>", "()V"⟩
abbrev cX1_clear : ByteArray := prog_3_method_2_code
def yX1_clear : MethodName := ⟨RX1, "clear", "()V"⟩
abbrev cX1_keep : ByteArray := prog_3_method_3_code
def yX1_keep : MethodName := ⟨RX1, "keep", "(LStationPasses$State;)V"⟩
abbrev cX1_bringBack : ByteArray := prog_3_method_4_code
def yX1_bringBack : MethodName := ⟨RX1, "bringBack", "(LStationPasses$State;)V"⟩
def RX2 : String := "StationPasses$Items"
def TX2 : u_T := fun k => match k with
  | 0 => ("StationPasses$Items", "lows", "[I", true)
  | 1 => ("StationPasses$Items", "highs", "[I", true)
  | 2 => ("StationPasses$Items", "numbers", "[[I", true)
  | _ => ("StationPasses$Items", "told", "I", false)
def tyX2 : Nat → FieldType := fun k => match k with
  | 0 => .array .int
  | 1 => .array .int
  | 2 => .array (.array .int)
  | _ => .int
theorem nmX2 : ∀ a, a < 4 → ∀ b, b < 4 → a ≠ b → (TX2 a).2.1 ≠ (TX2 b).2.1 := by decide +kernel
theorem tyX2_ok : ∀ k, k < 4 → parseFieldDescriptor (TX2 k).2.2.1 = some (tyX2 k) := by decide +kernel
abbrev cX2_init : ByteArray := prog_4_method_1_code
def yX2_init : MethodName := ⟨RX2, "<init>", "(I[I[I)V"⟩
abbrev cX2_has : ByteArray := prog_4_method_2_code
def yX2_has : MethodName := ⟨RX2, "has", "(I)Z"⟩
abbrev cX2_number : ByteArray := prog_4_method_3_code
def yX2_number : MethodName := ⟨RX2, "number", "(II)I"⟩
abbrev cX2_isFull : ByteArray := prog_4_method_4_code
def yX2_isFull : MethodName := ⟨RX2, "isFull", "()Z"⟩
abbrev cX2_allows : ByteArray := prog_4_method_5_code
def yX2_allows : MethodName := ⟨RX2, "allows", "(II)Z"⟩
def RX3 : String := "StationPasses$Letters"
def TX3 : u_T := fun k => match k with
  | 0 => ("StationPasses$Letters", "row", "[C", true)
  | _ => ("StationPasses$Letters", "length", "I", false)
def tyX3 : Nat → FieldType := fun k => match k with
  | 0 => .array .char
  | _ => .int
theorem nmX3 : ∀ a, a < 2 → ∀ b, b < 2 → a ≠ b → (TX3 a).2.1 ≠ (TX3 b).2.1 := by decide +kernel
theorem tyX3_ok : ∀ k, k < 2 → parseFieldDescriptor (TX3 k).2.2.1 = some (tyX3 k) := by decide +kernel
abbrev cX3_init : ByteArray := prog_5_method_1_code
def yX3_init : MethodName := ⟨RX3, "<init>", "()V"⟩
abbrev cX3_append : ByteArray := prog_5_method_2_code
def yX3_append : MethodName := ⟨RX3, "append", "(C)V"⟩
abbrev cX3_clear : ByteArray := prog_5_method_3_code
def yX3_clear : MethodName := ⟨RX3, "clear", "()V"⟩
abbrev cX3_letterAt : ByteArray := prog_5_method_4_code
def yX3_letterAt : MethodName := ⟨RX3, "letterAt", "(I)C"⟩
abbrev cX3_figuresAt : ByteArray := prog_5_method_5_code
def yX3_figuresAt : MethodName := ⟨RX3, "figuresAt", "(I)I"⟩
abbrev cX3_numberAt : ByteArray := prog_5_method_6_code
def yX3_numberAt : MethodName := ⟨RX3, "numberAt", "(II)I"⟩
abbrev cX3_isFigure : ByteArray := prog_5_method_7_code
def yX3_isFigure : MethodName := ⟨RX3, "isFigure", "(C)Z"⟩
def RX4 : String := "StationPasses$Network"
def TX4 : u_T := fun k => match k with
  | 0 => ("StationPasses$Network", "setting", "LStationPasses$Setting;", false)
  | 1 => ("StationPasses$Network", "passes", "LStationPasses$Passes;", true)
  | _ => ("StationPasses$Network", "now", "LStationPasses$State;", true)
def tyX4 : Nat → FieldType := fun k => match k with
  | 0 => .object "StationPasses$Setting"
  | 1 => .object "StationPasses$Passes"
  | _ => .object "StationPasses$State"
theorem nmX4 : ∀ a, a < 3 → ∀ b, b < 3 → a ≠ b → (TX4 a).2.1 ≠ (TX4 b).2.1 := by decide +kernel
theorem tyX4_ok : ∀ k, k < 3 → parseFieldDescriptor (TX4 k).2.2.1 = some (tyX4 k) := by decide +kernel
abbrev cX4_init : ByteArray := prog_6_method_1_code
def yX4_init : MethodName := ⟨RX4, "<init>", "()V"⟩
abbrev cX4_layOut : ByteArray := prog_6_method_2_code
def yX4_layOut : MethodName := ⟨RX4, "layOut", "(LStationPasses$Setting;)V"⟩
abbrev cX4_windowSize : ByteArray := prog_6_method_3_code
def yX4_windowSize : MethodName := ⟨RX4, "windowSize", "(I)I"⟩
abbrev cX4_contactBits : ByteArray := prog_6_method_4_code
def yX4_contactBits : MethodName := ⟨RX4, "contactBits", "()I"⟩
abbrev cX4_volumeOf : ByteArray := prog_6_method_5_code
def yX4_volumeOf : MethodName := ⟨RX4, "volumeOf", "(I)I"⟩
abbrev cX4_passesOfSat : ByteArray := prog_6_method_6_code
def yX4_passesOfSat : MethodName := ⟨RX4, "passesOfSat", "(I)I"⟩
abbrev cX4_contactsOfSat : ByteArray := prog_6_method_7_code
def yX4_contactsOfSat : MethodName := ⟨RX4, "contactsOfSat", "(I)I"⟩
abbrev cX4_contactsOfAntenna : ByteArray := prog_6_method_8_code
def yX4_contactsOfAntenna : MethodName := ⟨RX4, "contactsOfAntenna", "(I)I"⟩
abbrev cX4_busySlotsOfAntenna : ByteArray := prog_6_method_9_code
def yX4_busySlotsOfAntenna : MethodName := ⟨RX4, "busySlotsOfAntenna", "(I)I"⟩
abbrev cX4_fits : ByteArray := prog_6_method_10_code
def yX4_fits : MethodName := ⟨RX4, "fits", "(II)Z"⟩
abbrev cX4_fittingAntennas : ByteArray := prog_6_method_11_code
def yX4_fittingAntennas : MethodName := ⟨RX4, "fittingAntennas", "(I)I"⟩
abbrev cX4_goTogether : ByteArray := prog_6_method_12_code
def yX4_goTogether : MethodName := ⟨RX4, "goTogether", "(III)Z"⟩
abbrev cX4_clash : ByteArray := prog_6_method_13_code
def yX4_clash : MethodName := ⟨RX4, "clash", "(IIII)I"⟩
abbrev cX4_shareSatAndSlot : ByteArray := prog_6_method_14_code
def yX4_shareSatAndSlot : MethodName := ⟨RX4, "shareSatAndSlot", "(II)Z"⟩
abbrev cX4_whyNot : ByteArray := prog_6_method_15_code
def yX4_whyNot : MethodName := ⟨RX4, "whyNot", "(II)I"⟩
abbrev cX4_clashWith : ByteArray := prog_6_method_16_code
def yX4_clashWith : MethodName := ⟨RX4, "clashWith", "(III)I"⟩
abbrev cX4_dropContactsThatDoNotFit : ByteArray := prog_6_method_17_code
def yX4_dropContactsThatDoNotFit : MethodName := ⟨RX4, "dropContactsThatDoNotFit", "(I)I"⟩
def RX5 : String := "StationPasses$Passes"
def TX5 : u_T := fun k => match k with
  | 0 => ("StationPasses$Passes", "first", "[I", true)
  | 1 => ("StationPasses$Passes", "last", "[I", true)
  | 2 => ("StationPasses$Passes", "satOf", "[I", true)
  | 3 => ("StationPasses$Passes", "stationOf", "[I", true)
  | 4 => ("StationPasses$Passes", "volume", "[I", true)
  | 5 => ("StationPasses$Passes", "step", "[I", true)
  | _ => ("StationPasses$Passes", "known", "I", false)
def tyX5 : Nat → FieldType := fun k => match k with
  | 0 => .array .int
  | 1 => .array .int
  | 2 => .array .int
  | 3 => .array .int
  | 4 => .array .int
  | 5 => .array .int
  | _ => .int
theorem nmX5 : ∀ a, a < 7 → ∀ b, b < 7 → a ≠ b → (TX5 a).2.1 ≠ (TX5 b).2.1 := by decide +kernel
theorem tyX5_ok : ∀ k, k < 7 → parseFieldDescriptor (TX5 k).2.2.1 = some (tyX5 k) := by decide +kernel
abbrev cX5_init : ByteArray := prog_7_method_1_code
def yX5_init : MethodName := ⟨RX5, "<init>", "()V"⟩
abbrev cX5_find : ByteArray := prog_7_method_2_code
def yX5_find : MethodName := ⟨RX5, "find", "(LStationPasses$Setting;)V"⟩
abbrev cX5_append : ByteArray := prog_7_method_3_code
def yX5_append : MethodName := ⟨RX5, "append", "(LStationPasses$Setting;III)V"⟩
abbrev cX5_has : ByteArray := prog_7_method_4_code
def yX5_has : MethodName := ⟨RX5, "has", "(I)Z"⟩
abbrev cX5_covers : ByteArray := prog_7_method_5_code
def yX5_covers : MethodName := ⟨RX5, "covers", "(II)Z"⟩
abbrev cX5_rateIn : ByteArray := prog_7_method_6_code
def yX5_rateIn : MethodName := ⟨RX5, "rateIn", "(II)I"⟩
def RX6 : String := "StationPasses$Planner"
def TX6 : u_T := fun k => match k with
  | 0 => ("StationPasses$Planner", "open", "[I", true)
  | 1 => ("StationPasses$Planner", "apart", "[I", true)
  | 2 => ("StationPasses$Planner", "rivals", "[I", true)
  | 3 => ("StationPasses$Planner", "outlook", "[I", true)
  | 4 => ("StationPasses$Planner", "lossOfOne", "[I", true)
  | 5 => ("StationPasses$Planner", "way", "[I", true)
  | 6 => ("StationPasses$Planner", "outside", "I", false)
  | 7 => ("StationPasses$Planner", "maskNow", "I", false)
  | 8 => ("StationPasses$Planner", "size", "I", false)
  | 9 => ("StationPasses$Planner", "isFound", "Z", false)
  | 10 => ("StationPasses$Planner", "law", "I", false)
  | 11 => ("StationPasses$Planner", "first", "I", false)
  | 12 => ("StationPasses$Planner", "mostChanges", "I", false)
  | 13 => ("StationPasses$Planner", "bestRank", "I", false)
  | 14 => ("StationPasses$Planner", "bestWay", "[I", true)
  | 15 => ("StationPasses$Planner", "bestMask", "I", false)
  | _ => ("StationPasses$Planner", "bestChanges", "I", false)
def tyX6 : Nat → FieldType := fun k => match k with
  | 0 => .array .int
  | 1 => .array .int
  | 2 => .array .int
  | 3 => .array .int
  | 4 => .array .int
  | 5 => .array .int
  | 6 => .int
  | 7 => .int
  | 8 => .int
  | 9 => .boolean
  | 10 => .int
  | 11 => .int
  | 12 => .int
  | 13 => .int
  | 14 => .array .int
  | 15 => .int
  | _ => .int
theorem nmX6 : ∀ a, a < 17 → ∀ b, b < 17 → a ≠ b → (TX6 a).2.1 ≠ (TX6 b).2.1 := by decide +kernel
theorem tyX6_ok : ∀ k, k < 17 → parseFieldDescriptor (TX6 k).2.2.1 = some (tyX6 k) := by decide +kernel
abbrev cX6_init : ByteArray := prog_8_method_1_code
def yX6_init : MethodName := ⟨RX6, "<init>", "()V"⟩
abbrev cX6_forget : ByteArray := prog_8_method_2_code
def yX6_forget : MethodName := ⟨RX6, "forget", "()V"⟩
abbrev cX6_find : ByteArray := prog_8_method_3_code
def yX6_find : MethodName := ⟨RX6, "find", "(LStationPasses$Network;LStationPasses$Stores;III)V"⟩
abbrev cX6_contactBits : ByteArray := prog_8_method_4_code
def yX6_contactBits : MethodName := ⟨RX6, "contactBits", "(I)I"⟩
abbrev cX6_findOpen : ByteArray := prog_8_method_5_code
def yX6_findOpen : MethodName := ⟨RX6, "findOpen", "(LStationPasses$Network;)V"⟩
abbrev cX6_findApart : ByteArray := prog_8_method_6_code
def yX6_findApart : MethodName := ⟨RX6, "findApart", "(LStationPasses$Network;)V"⟩
abbrev cX6_weighVolumes : ByteArray := prog_8_method_7_code
def yX6_weighVolumes : MethodName := ⟨RX6, "weighVolumes", "(LStationPasses$Network;)V"⟩
abbrev cX6_weighLosses : ByteArray := prog_8_method_8_code
def yX6_weighLosses : MethodName := ⟨RX6, "weighLosses", "(LStationPasses$Network;LStationPasses$Stores;)V"⟩
abbrev cX6_passesOf : ByteArray := prog_8_method_9_code
def yX6_passesOf : MethodName := ⟨RX6, "passesOf", "(LStationPasses$Network;I)I"⟩
abbrev cX6_rankMasks : ByteArray := prog_8_method_10_code
def yX6_rankMasks : MethodName := ⟨RX6, "rankMasks", "()V"⟩
abbrev cX6_lookOut : ByteArray := prog_8_method_11_code
def yX6_lookOut : MethodName := ⟨RX6, "lookOut", "()V"⟩
abbrev cX6_startFromNow : ByteArray := prog_8_method_12_code
def yX6_startFromNow : MethodName := ⟨RX6, "startFromNow", "(LStationPasses$Network;)V"⟩
abbrev cX6_tryPass : ByteArray := prog_8_method_13_code
def yX6_tryPass : MethodName := ⟨RX6, "tryPass", "(LStationPasses$Planner;LStationPasses$Network;III)V"⟩
abbrev cX6_changesAhead : ByteArray := prog_8_method_14_code
def yX6_changesAhead : MethodName := ⟨RX6, "changesAhead", "(II)I"⟩
abbrev cX6_keepWay : ByteArray := prog_8_method_15_code
def yX6_keepWay : MethodName := ⟨RX6, "keepWay", "(II)V"⟩
abbrev cX6_freeAntennas : ByteArray := prog_8_method_16_code
def yX6_freeAntennas : MethodName := ⟨RX6, "freeAntennas", "(II)I"⟩
def RX7 : String := "StationPasses$Setting"
def TX7 : u_T := fun k => match k with
  | 0 => ("StationPasses$Setting", "sats", "LStationPasses$Items;", true)
  | 1 => ("StationPasses$Setting", "stations", "LStationPasses$Items;", true)
  | _ => ("StationPasses$Setting", "antennas", "LStationPasses$Items;", true)
def tyX7 : Nat → FieldType := fun k => match k with
  | 0 => .object "StationPasses$Items"
  | 1 => .object "StationPasses$Items"
  | _ => .object "StationPasses$Items"
theorem nmX7 : ∀ a, a < 3 → ∀ b, b < 3 → a ≠ b → (TX7 a).2.1 ≠ (TX7 b).2.1 := by decide +kernel
theorem tyX7_ok : ∀ k, k < 3 → parseFieldDescriptor (TX7 k).2.2.1 = some (tyX7 k) := by decide +kernel
abbrev cX7_init : ByteArray := prog_9_method_1_code
def yX7_init : MethodName := ⟨RX7, "<init>", "()V"⟩
abbrev cX7_readAll : ByteArray := prog_9_method_2_code
def yX7_readAll : MethodName := ⟨RX7, "readAll", "(LStationPasses$Letters;)I"⟩
abbrev cX7_readItem : ByteArray := prog_9_method_3_code
def yX7_readItem : MethodName := ⟨RX7, "readItem", "(LStationPasses$Letters;I)I"⟩
abbrev cX7_itemsOf : ByteArray := prog_9_method_4_code
def yX7_itemsOf : MethodName := ⟨RX7, "itemsOf", "(C)LStationPasses$Items;"⟩
abbrev cX7_readNumbers : ByteArray := prog_9_method_5_code
def yX7_readNumbers : MethodName := ⟨RX7, "readNumbers", "(LStationPasses$Letters;ILStationPasses$Items;[I)I"⟩
abbrev cX7_sees : ByteArray := prog_9_method_6_code
def yX7_sees : MethodName := ⟨RX7, "sees", "(III)Z"⟩
abbrev cX7_takes : ByteArray := prog_9_method_7_code
def yX7_takes : MethodName := ⟨RX7, "takes", "(II)Z"⟩
def RX8 : String := "StationPasses$State"
def TX8 : u_T := fun k => match k with
  | 0 => ("StationPasses$State", "antennaOf", "[I", true)
  | 1 => ("StationPasses$State", "outFrom", "[I", true)
  | _ => ("StationPasses$State", "outTo", "[I", true)
def tyX8 : Nat → FieldType := fun k => match k with
  | 0 => .array .int
  | 1 => .array .int
  | _ => .array .int
theorem nmX8 : ∀ a, a < 3 → ∀ b, b < 3 → a ≠ b → (TX8 a).2.1 ≠ (TX8 b).2.1 := by decide +kernel
theorem tyX8_ok : ∀ k, k < 3 → parseFieldDescriptor (TX8 k).2.2.1 = some (tyX8 k) := by decide +kernel
abbrev cX8_init : ByteArray := prog_10_method_1_code
def yX8_init : MethodName := ⟨RX8, "<init>", "()V"⟩
abbrev cX8_clear : ByteArray := prog_10_method_2_code
def yX8_clear : MethodName := ⟨RX8, "clear", "()V"⟩
abbrev cX8_copyFrom : ByteArray := prog_10_method_3_code
def yX8_copyFrom : MethodName := ⟨RX8, "copyFrom", "(LStationPasses$State;)V"⟩
abbrev cX8_isOut : ByteArray := prog_10_method_4_code
def yX8_isOut : MethodName := ⟨RX8, "isOut", "(I)Z"⟩
def RX9 : String := "StationPasses$Stores"
def TX9 : u_T := fun k => match k with
  | 0 => ("StationPasses$Stores", "flow", "[I", true)
  | 1 => ("StationPasses$Stores", "content", "I", false)
  | 2 => ("StationPasses$Stores", "lost", "I", false)
  | 3 => ("StationPasses$Stores", "got", "I", false)
  | _ => ("StationPasses$Stores", "firstLoss", "I", false)
def tyX9 : Nat → FieldType := fun k => match k with
  | 0 => .array .int
  | 1 => .int
  | 2 => .int
  | 3 => .int
  | _ => .int
theorem nmX9 : ∀ a, a < 5 → ∀ b, b < 5 → a ≠ b → (TX9 a).2.1 ≠ (TX9 b).2.1 := by decide +kernel
theorem tyX9_ok : ∀ k, k < 5 → parseFieldDescriptor (TX9 k).2.2.1 = some (tyX9 k) := by decide +kernel
abbrev cX9_init : ByteArray := prog_11_method_1_code
def yX9_init : MethodName := ⟨RX9, "<init>", "()V"⟩
abbrev cX9_follow : ByteArray := prog_11_method_2_code
def yX9_follow : MethodName := ⟨RX9, "follow", "(LStationPasses$Network;III)V"⟩
abbrev cX9_gatherFlow : ByteArray := prog_11_method_3_code
def yX9_gatherFlow : MethodName := ⟨RX9, "gatherFlow", "(LStationPasses$Passes;II)V"⟩
abbrev cX9_lostByAll : ByteArray := prog_11_method_4_code
def yX9_lostByAll : MethodName := ⟨RX9, "lostByAll", "(LStationPasses$Network;I)I"⟩
abbrev cX9_gotByAll : ByteArray := prog_11_method_5_code
def yX9_gotByAll : MethodName := ⟨RX9, "gotByAll", "(LStationPasses$Network;I)I"⟩
def RX10 : String := "StationPasses"
def TX10 : u_T := fun k => match k with
  | 0 => ("StationPasses", "text", "LStationPasses$Letters;", true)
  | 1 => ("StationPasses", "net", "LStationPasses$Network;", true)
  | 2 => ("StationPasses", "history", "LStationPasses$History;", true)
  | 3 => ("StationPasses", "stores", "LStationPasses$Stores;", true)
  | 4 => ("StationPasses", "chain", "LStationPasses$Chain;", true)
  | 5 => ("StationPasses", "planner", "LStationPasses$Planner;", true)
  | _ => ("StationPasses", "draft", "LStationPasses$Setting;", false)
def tyX10 : Nat → FieldType := fun k => match k with
  | 0 => .object "StationPasses$Letters"
  | 1 => .object "StationPasses$Network"
  | 2 => .object "StationPasses$History"
  | 3 => .object "StationPasses$Stores"
  | 4 => .object "StationPasses$Chain"
  | 5 => .object "StationPasses$Planner"
  | _ => .object "StationPasses$Setting"
theorem nmX10 : ∀ a, a < 7 → ∀ b, b < 7 → a ≠ b → (TX10 a).2.1 ≠ (TX10 b).2.1 := by decide +kernel
theorem tyX10_ok : ∀ k, k < 7 → parseFieldDescriptor (TX10 k).2.2.1 = some (tyX10 k) := by decide +kernel
abbrev cX10_init : ByteArray := prog_1_method_1_code
def yX10_init : MethodName := ⟨RX10, "<init>", "()V"⟩
abbrev cX10_write : ByteArray := prog_1_method_2_code
def yX10_write : MethodName := ⟨RX10, "write", "(I)I"⟩
abbrev cX10_wipe : ByteArray := prog_1_method_3_code
def yX10_wipe : MethodName := ⟨RX10, "wipe", "()I"⟩
abbrev cX10_fault : ByteArray := prog_1_method_4_code
def yX10_fault : MethodName := ⟨RX10, "fault", "()I"⟩
abbrev cX10_lay : ByteArray := prog_1_method_5_code
def yX10_lay : MethodName := ⟨RX10, "lay", "()I"⟩
abbrev cX10_sat : ByteArray := prog_1_method_6_code
def yX10_sat : MethodName := ⟨RX10, "sat", "(II)I"⟩
abbrev cX10_antenna : ByteArray := prog_1_method_7_code
def yX10_antenna : MethodName := ⟨RX10, "antenna", "(II)I"⟩
abbrev cX10_seen : ByteArray := prog_1_method_8_code
def yX10_seen : MethodName := ⟨RX10, "seen", "(III)I"⟩
abbrev cX10_pass : ByteArray := prog_1_method_9_code
def yX10_pass : MethodName := ⟨RX10, "pass", "(II)I"⟩
abbrev cX10_rate : ByteArray := prog_1_method_10_code
def yX10_rate : MethodName := ⟨RX10, "rate", "(II)I"⟩
abbrev cX10_give : ByteArray := prog_1_method_11_code
def yX10_give : MethodName := ⟨RX10, "give", "(II)I"⟩
abbrev cX10_why : ByteArray := prog_1_method_12_code
def yX10_why : MethodName := ⟨RX10, "why", "(II)I"⟩
abbrev cX10_take : ByteArray := prog_1_method_13_code
def yX10_take : MethodName := ⟨RX10, "take", "(I)I"⟩
abbrev cX10_out : ByteArray := prog_1_method_14_code
def yX10_out : MethodName := ⟨RX10, "out", "(III)I"⟩
abbrev cX10_undo : ByteArray := prog_1_method_15_code
def yX10_undo : MethodName := ⟨RX10, "undo", "()I"⟩
abbrev cX10_best : ByteArray := prog_1_method_16_code
def yX10_best : MethodName := ⟨RX10, "best", "(II)I"⟩
abbrev cX10_plan : ByteArray := prog_1_method_17_code
def yX10_plan : MethodName := ⟨RX10, "plan", "(IIII)I"⟩
abbrev cX10_adopt : ByteArray := prog_1_method_18_code
def yX10_adopt : MethodName := ⟨RX10, "adopt", "(III)I"⟩
abbrev cX10_bound : ByteArray := prog_1_method_19_code
def yX10_bound : MethodName := ⟨RX10, "bound", "(I)I"⟩
abbrev cX10_store : ByteArray := prog_1_method_20_code
def yX10_store : MethodName := ⟨RX10, "store", "(III)I"⟩
abbrev cX10_over : ByteArray := prog_1_method_21_code
def yX10_over : MethodName := ⟨RX10, "over", "(I)I"⟩
abbrev cX10_count : ByteArray := prog_1_method_22_code
def yX10_count : MethodName := ⟨RX10, "count", "(I)I"⟩
abbrev cX10_layText : ByteArray := prog_1_method_23_code
def yX10_layText : MethodName := ⟨RX10, "layText", "()I"⟩
abbrev cX10_prepareChange : ByteArray := prog_1_method_24_code
def yX10_prepareChange : MethodName := ⟨RX10, "prepareChange", "()V"⟩
abbrev cX10_isBadPlan : ByteArray := prog_1_method_25_code
def yX10_isBadPlan : MethodName := ⟨RX10, "isBadPlan", "(III)Z"⟩
abbrev cX10_isSlot : ByteArray := prog_1_method_26_code
def yX10_isSlot : MethodName := ⟨RX10, "isSlot", "(I)Z"⟩
abbrev cX10_antennaOrNone : ByteArray := prog_1_method_27_code
def yX10_antennaOrNone : MethodName := ⟨RX10, "antennaOrNone", "(I)I"⟩
def RX11 : String := "StationPassesModel"
def TX11 : u_T := fun k => match k with
  | 0 => ("StationPassesModel", "length", "I", false)
  | 1 => ("StationPassesModel", "text", "[I", true)
  | 2 => ("StationPassesModel", "spot", "I", false)
  | 3 => ("StationPassesModel", "sats", "[I", true)
  | 4 => ("StationPassesModel", "stations", "[I", true)
  | 5 => ("StationPassesModel", "antennas", "[I", true)
  | 6 => ("StationPassesModel", "many", "[I", true)
  | 7 => ("StationPassesModel", "readSats", "[I", true)
  | 8 => ("StationPassesModel", "readStations", "[I", true)
  | 9 => ("StationPassesModel", "readAntennas", "[I", true)
  | 10 => ("StationPassesModel", "readMany", "[I", true)
  | 11 => ("StationPassesModel", "first", "[I", true)
  | 12 => ("StationPassesModel", "last", "[I", true)
  | 13 => ("StationPassesModel", "whose", "[I", true)
  | 14 => ("StationPassesModel", "where", "[I", true)
  | 15 => ("StationPassesModel", "volume", "[I", true)
  | 16 => ("StationPassesModel", "passMany", "I", false)
  | 17 => ("StationPassesModel", "now", "[I", true)
  | 18 => ("StationPassesModel", "before", "[I", true)
  | 19 => ("StationPassesModel", "undoMany", "I", false)
  | 20 => ("StationPassesModel", "most", "[I", true)
  | 21 => ("StationPassesModel", "rowMany", "[I", true)
  | 22 => ("StationPassesModel", "next", "[I", true)
  | 23 => ("StationPassesModel", "way", "[I", true)
  | 24 => ("StationPassesModel", "bestWay", "[I", true)
  | 25 => ("StationPassesModel", "found", "[I", true)
  | 26 => ("StationPassesModel", "held", "[I", true)
  | _ => ("StationPassesModel", "rates", "[I", true)
def tyX11 : Nat → FieldType := fun k => match k with
  | 0 => .int
  | 1 => .array .int
  | 2 => .int
  | 3 => .array .int
  | 4 => .array .int
  | 5 => .array .int
  | 6 => .array .int
  | 7 => .array .int
  | 8 => .array .int
  | 9 => .array .int
  | 10 => .array .int
  | 11 => .array .int
  | 12 => .array .int
  | 13 => .array .int
  | 14 => .array .int
  | 15 => .array .int
  | 16 => .int
  | 17 => .array .int
  | 18 => .array .int
  | 19 => .int
  | 20 => .array .int
  | 21 => .array .int
  | 22 => .array .int
  | 23 => .array .int
  | 24 => .array .int
  | 25 => .array .int
  | 26 => .array .int
  | _ => .array .int
theorem nmX11 : ∀ a, a < 28 → ∀ b, b < 28 → a ≠ b → (TX11 a).2.1 ≠ (TX11 b).2.1 := by decide +kernel
theorem tyX11_ok : ∀ k, k < 28 → parseFieldDescriptor (TX11 k).2.2.1 = some (tyX11 k) := by decide +kernel
abbrev cX11_init : ByteArray := prog_13_method_1_code
def yX11_init : MethodName := ⟨RX11, "<init>", "()V"⟩
abbrev cX11_satNow : ByteArray := prog_13_method_2_code
def yX11_satNow : MethodName := ⟨RX11, "satNow", "(IIIIII)V"⟩
abbrev cX11_in : ByteArray := prog_13_method_3_code
def yX11_in : MethodName := ⟨RX11, "in", "(JJJ)Z"⟩
abbrev cX11_write : ByteArray := prog_13_method_4_code
def yX11_write : MethodName := ⟨RX11, "write", "(I)I"⟩
abbrev cX11_wipe : ByteArray := prog_13_method_5_code
def yX11_wipe : MethodName := ⟨RX11, "wipe", "()I"⟩
abbrev cX11_byteAt : ByteArray := prog_13_method_6_code
def yX11_byteAt : MethodName := ⟨RX11, "byteAt", "(I)I"⟩
abbrev cX11_number : ByteArray := prog_13_method_7_code
def yX11_number : MethodName := ⟨RX11, "number", "(III[II)Z"⟩
abbrev cX11_item : ByteArray := prog_13_method_8_code
def yX11_item : MethodName := ⟨RX11, "item", "(I)Z"⟩
abbrev cX11_fault : ByteArray := prog_13_method_9_code
def yX11_fault : MethodName := ⟨RX11, "fault", "()I"⟩
abbrev cX11_lay : ByteArray := prog_13_method_10_code
def yX11_lay : MethodName := ⟨RX11, "lay", "()I"⟩
abbrev cX11_sees : ByteArray := prog_13_method_11_code
def yX11_sees : MethodName := ⟨RX11, "sees", "(III)Z"⟩
abbrev cX11_rateOf : ByteArray := prog_13_method_12_code
def yX11_rateOf : MethodName := ⟨RX11, "rateOf", "(III)I"⟩
abbrev cX11_lays : ByteArray := prog_13_method_13_code
def yX11_lays : MethodName := ⟨RX11, "lays", "()V"⟩
abbrev cX11_isPass : ByteArray := prog_13_method_14_code
def yX11_isPass : MethodName := ⟨RX11, "isPass", "(I)Z"⟩
abbrev cX11_isAntenna : ByteArray := prog_13_method_15_code
def yX11_isAntenna : MethodName := ⟨RX11, "isAntenna", "(I)Z"⟩
abbrev cX11_fits : ByteArray := prog_13_method_16_code
def yX11_fits : MethodName := ⟨RX11, "fits", "(II)Z"⟩
abbrev cX11_together : ByteArray := prog_13_method_17_code
def yX11_together : MethodName := ⟨RX11, "together", "(III)Z"⟩
abbrev cX11_overlap : ByteArray := prog_13_method_18_code
def yX11_overlap : MethodName := ⟨RX11, "overlap", "(II)Z"⟩
abbrev cX11_sumOf : ByteArray := prog_13_method_19_code
def yX11_sumOf : MethodName := ⟨RX11, "sumOf", "(II)I"⟩
abbrev cX11_sat : ByteArray := prog_13_method_20_code
def yX11_sat : MethodName := ⟨RX11, "sat", "(II)I"⟩
abbrev cX11_antenna : ByteArray := prog_13_method_21_code
def yX11_antenna : MethodName := ⟨RX11, "antenna", "(II)I"⟩
abbrev cX11_seen : ByteArray := prog_13_method_22_code
def yX11_seen : MethodName := ⟨RX11, "seen", "(III)I"⟩
abbrev cX11_pass : ByteArray := prog_13_method_23_code
def yX11_pass : MethodName := ⟨RX11, "pass", "(II)I"⟩
abbrev cX11_rateAt : ByteArray := prog_13_method_24_code
def yX11_rateAt : MethodName := ⟨RX11, "rateAt", "(II)I"⟩
abbrev cX11_rate : ByteArray := prog_13_method_25_code
def yX11_rate : MethodName := ⟨RX11, "rate", "(II)I"⟩
abbrev cX11_whyNot : ByteArray := prog_13_method_26_code
def yX11_whyNot : MethodName := ⟨RX11, "whyNot", "(II)I"⟩
abbrev cX11_why : ByteArray := prog_13_method_27_code
def yX11_why : MethodName := ⟨RX11, "why", "(II)I"⟩
abbrev cX11_note : ByteArray := prog_13_method_28_code
def yX11_note : MethodName := ⟨RX11, "note", "()V"⟩
abbrev cX11_undo : ByteArray := prog_13_method_29_code
def yX11_undo : MethodName := ⟨RX11, "undo", "()I"⟩
abbrev cX11_contacts : ByteArray := prog_13_method_30_code
def yX11_contacts : MethodName := ⟨RX11, "contacts", "()I"⟩
abbrev cX11_give : ByteArray := prog_13_method_31_code
def yX11_give : MethodName := ⟨RX11, "give", "(II)I"⟩
abbrev cX11_take : ByteArray := prog_13_method_32_code
def yX11_take : MethodName := ⟨RX11, "take", "(I)I"⟩
abbrev cX11_out : ByteArray := prog_13_method_33_code
def yX11_out : MethodName := ⟨RX11, "out", "(III)I"⟩
abbrev cX11_bestBehind : ByteArray := prog_13_method_34_code
def yX11_bestBehind : MethodName := ⟨RX11, "bestBehind", "(II)I"⟩
abbrev cX11_bests : ByteArray := prog_13_method_35_code
def yX11_bests : MethodName := ⟨RX11, "bests", "(I)V"⟩
abbrev cX11_best : ByteArray := prog_13_method_36_code
def yX11_best : MethodName := ⟨RX11, "best", "(II)I"⟩
abbrev cX11_wide : ByteArray := prog_13_method_37_code
def yX11_wide : MethodName := ⟨RX11, "wide", "(I)I"⟩
abbrev cX11_isWay : ByteArray := prog_13_method_38_code
def yX11_isWay : MethodName := ⟨RX11, "isWay", "(II)Z"⟩
abbrev cX11_fills : ByteArray := prog_13_method_39_code
def yX11_fills : MethodName := ⟨RX11, "fills", "([I)V"⟩
abbrev cX11_flows : ByteArray := prog_13_method_40_code
def yX11_flows : MethodName := ⟨RX11, "flows", "(II)V"⟩
abbrev cX11_lost : ByteArray := prog_13_method_41_code
def yX11_lost : MethodName := ⟨RX11, "lost", "([I)I"⟩
abbrev cX11_volumeOf : ByteArray := prog_13_method_42_code
def yX11_volumeOf : MethodName := ⟨RX11, "volumeOf", "([III)I"⟩
abbrev cX11_isLess : ByteArray := prog_13_method_43_code
def yX11_isLess : MethodName := ⟨RX11, "isLess", "(III)Z"⟩
abbrev cX11_plans : ByteArray := prog_13_method_44_code
def yX11_plans : MethodName := ⟨RX11, "plans", "(III)V"⟩
abbrev cX11_plan : ByteArray := prog_13_method_45_code
def yX11_plan : MethodName := ⟨RX11, "plan", "(IIII)I"⟩
abbrev cX11_adopt : ByteArray := prog_13_method_46_code
def yX11_adopt : MethodName := ⟨RX11, "adopt", "(III)I"⟩
abbrev cX11_bound : ByteArray := prog_13_method_47_code
def yX11_bound : MethodName := ⟨RX11, "bound", "(I)I"⟩
abbrev cX11_store : ByteArray := prog_13_method_48_code
def yX11_store : MethodName := ⟨RX11, "store", "(III)I"⟩
abbrev cX11_over : ByteArray := prog_13_method_49_code
def yX11_over : MethodName := ⟨RX11, "over", "(I)I"⟩
abbrev cX11_count : ByteArray := prog_13_method_50_code
def yX11_count : MethodName := ⟨RX11, "count", "(I)I"⟩
def RJx145de : String := "java/io/Serializable"
def TJx145de : u_T := fun k => match k with
  | _ => ("", "", "", false)
def tyJx145de : Nat → FieldType := fun k => match k with
  | _ => .int
theorem nmJx145de : ∀ a, a < 0 → ∀ b, b < 0 → a ≠ b → (TJx145de a).2.1 ≠ (TJx145de b).2.1 := by decide +kernel
theorem tyJx145de_ok : ∀ k, k < 0 → parseFieldDescriptor (TJx145de k).2.2.1 = some (tyJx145de k) := by decide +kernel
def RJx9f9b0 : String := "java/lang/CharSequence"
def TJx9f9b0 : u_T := fun k => match k with
  | _ => ("", "", "", false)
def tyJx9f9b0 : Nat → FieldType := fun k => match k with
  | _ => .int
theorem nmJx9f9b0 : ∀ a, a < 0 → ∀ b, b < 0 → a ≠ b → (TJx9f9b0 a).2.1 ≠ (TJx9f9b0 b).2.1 := by decide +kernel
theorem tyJx9f9b0_ok : ∀ k, k < 0 → parseFieldDescriptor (TJx9f9b0 k).2.2.1 = some (tyJx9f9b0 k) := by decide +kernel
def RJxb160c : String := "java/lang/Comparable"
def TJxb160c : u_T := fun k => match k with
  | _ => ("", "", "", false)
def tyJxb160c : Nat → FieldType := fun k => match k with
  | _ => .int
theorem nmJxb160c : ∀ a, a < 0 → ∀ b, b < 0 → a ≠ b → (TJxb160c a).2.1 ≠ (TJxb160c b).2.1 := by decide +kernel
theorem tyJxb160c_ok : ∀ k, k < 0 → parseFieldDescriptor (TJxb160c k).2.2.1 = some (tyJxb160c k) := by decide +kernel
def RJ6 : String := "java/lang/Integer"
def TJ6 : u_T := fun k => match k with
  | _ => ("", "", "", false)
def tyJ6 : Nat → FieldType := fun k => match k with
  | _ => .int
theorem nmJ6 : ∀ a, a < 0 → ∀ b, b < 0 → a ≠ b → (TJ6 a).2.1 ≠ (TJ6 b).2.1 := by decide +kernel
theorem tyJ6_ok : ∀ k, k < 0 → parseFieldDescriptor (TJ6 k).2.2.1 = some (tyJ6 k) := by decide +kernel
abbrev cJ6_bitCount_0f7a4 : ByteArray := prog_14_method_49_code
def yJ6_bitCount_0f7a4 : MethodName := ⟨RJ6, "bitCount", "(I)I"⟩
def RJ9 : String := "java/lang/Math"
def TJ9 : u_T := fun k => match k with
  | _ => ("", "", "", false)
def tyJ9 : Nat → FieldType := fun k => match k with
  | _ => .int
theorem nmJ9 : ∀ a, a < 0 → ∀ b, b < 0 → a ≠ b → (TJ9 a).2.1 ≠ (TJ9 b).2.1 := by decide +kernel
theorem tyJ9_ok : ∀ k, k < 0 → parseFieldDescriptor (TJ9 k).2.2.1 = some (tyJ9 k) := by decide +kernel
abbrev cJ9_floorMod_7cf53 : ByteArray := prog_15_method_50_code
def yJ9_floorMod_7cf53 : MethodName := ⟨RJ9, "floorMod", "(II)I"⟩
abbrev cJ9_max_7cf53 : ByteArray := prog_15_method_65_code
def yJ9_max_7cf53 : MethodName := ⟨RJ9, "max", "(II)I"⟩
abbrev cJ9_min_7cf53 : ByteArray := prog_15_method_69_code
def yJ9_min_7cf53 : MethodName := ⟨RJ9, "min", "(II)I"⟩
def RJ0 : String := "java/lang/String"
def TJ0 : u_T := fun k => match k with
  | _ => ("", "", "", false)
def tyJ0 : Nat → FieldType := fun k => match k with
  | _ => .int
theorem nmJ0 : ∀ a, a < 0 → ∀ b, b < 0 → a ≠ b → (TJ0 a).2.1 ≠ (TJ0 b).2.1 := by decide +kernel
theorem tyJ0_ok : ∀ k, k < 0 → parseFieldDescriptor (TJ0 k).2.2.1 = some (tyJ0 k) := by decide +kernel
abbrev cJ0_length_8abf5 : ByteArray := prog_16_method_54_code
def yJ0_length_8abf5 : MethodName := ⟨RJ0, "length", "()I"⟩
abbrev cJ0_charAt_5068e : ByteArray := prog_16_method_56_code
def yJ0_charAt_5068e : MethodName := ⟨RJ0, "charAt", "(I)C"⟩
abbrev cJ0_coder_7d493 : ByteArray := prog_16_method_152_code
def yJ0_coder_7d493 : MethodName := ⟨RJ0, "coder", "()B"⟩
abbrev cJ0_isLatin1_aae02 : ByteArray := prog_16_method_154_code
def yJ0_isLatin1_aae02 : MethodName := ⟨RJ0, "isLatin1", "()Z"⟩
abbrev cJ0_checkIndex_df160 : ByteArray := prog_16_method_155_code
def yJ0_checkIndex_df160 : MethodName := ⟨RJ0, "checkIndex", "(II)V"⟩
def RJ1 : String := "java/lang/StringLatin1"
def TJ1 : u_T := fun k => match k with
  | _ => ("", "", "", false)
def tyJ1 : Nat → FieldType := fun k => match k with
  | _ => .int
theorem nmJ1 : ∀ a, a < 0 → ∀ b, b < 0 → a ≠ b → (TJ1 a).2.1 ≠ (TJ1 b).2.1 := by decide +kernel
theorem tyJ1_ok : ∀ k, k < 0 → parseFieldDescriptor (TJ1 k).2.2.1 = some (tyJ1 k) := by decide +kernel
abbrev cJ1_charAt_3b067 : ByteArray := prog_17_method_2_code
def yJ1_charAt_3b067 : MethodName := ⟨RJ1, "charAt", "([BI)C"⟩
def RJ2 : String := "java/lang/StringUTF16"
def TJ2 : u_T := fun k => match k with
  | _ => ("", "", "", false)
def tyJ2 : Nat → FieldType := fun k => match k with
  | _ => .int
theorem nmJ2 : ∀ a, a < 0 → ∀ b, b < 0 → a ≠ b → (TJ2 a).2.1 ≠ (TJ2 b).2.1 := by decide +kernel
theorem tyJ2_ok : ∀ k, k < 0 → parseFieldDescriptor (TJ2 k).2.2.1 = some (tyJ2 k) := by decide +kernel
abbrev cJ2_getChar_3b067 : ByteArray := prog_18_method_5_code
def yJ2_getChar_3b067 : MethodName := ⟨RJ2, "getChar", "([BI)C"⟩
abbrev cJ2_length_9d52b : ByteArray := prog_18_method_6_code
def yJ2_length_9d52b : MethodName := ⟨RJ2, "length", "([B)I"⟩
abbrev cJ2_charAt_3b067 : ByteArray := prog_18_method_83_code
def yJ2_charAt_3b067 : MethodName := ⟨RJ2, "charAt", "([BI)C"⟩
abbrev cJ2_checkIndex_2214a : ByteArray := prog_18_method_91_code
def yJ2_checkIndex_2214a : MethodName := ⟨RJ2, "checkIndex", "(I[B)V"⟩
def RJ10 : String := "java/lang/System"
def TJ10 : u_T := fun k => match k with
  | _ => ("", "", "", false)
def tyJ10 : Nat → FieldType := fun k => match k with
  | _ => .int
theorem nmJ10 : ∀ a, a < 0 → ∀ b, b < 0 → a ≠ b → (TJ10 a).2.1 ≠ (TJ10 b).2.1 := by decide +kernel
theorem tyJ10_ok : ∀ k, k < 0 → parseFieldDescriptor (TJ10 k).2.2.1 = some (tyJ10 k) := by decide +kernel
def RJxfd54e : String := "java/lang/constant/Constable"
def TJxfd54e : u_T := fun k => match k with
  | _ => ("", "", "", false)
def tyJxfd54e : Nat → FieldType := fun k => match k with
  | _ => .int
theorem nmJxfd54e : ∀ a, a < 0 → ∀ b, b < 0 → a ≠ b → (TJxfd54e a).2.1 ≠ (TJxfd54e b).2.1 := by decide +kernel
theorem tyJxfd54e_ok : ∀ k, k < 0 → parseFieldDescriptor (TJxfd54e k).2.2.1 = some (tyJxfd54e k) := by decide +kernel
def RJx3cf43 : String := "java/lang/constant/ConstantDesc"
def TJx3cf43 : u_T := fun k => match k with
  | _ => ("", "", "", false)
def tyJx3cf43 : Nat → FieldType := fun k => match k with
  | _ => .int
theorem nmJx3cf43 : ∀ a, a < 0 → ∀ b, b < 0 → a ≠ b → (TJx3cf43 a).2.1 ≠ (TJx3cf43 b).2.1 := by decide +kernel
theorem tyJx3cf43_ok : ∀ k, k < 0 → parseFieldDescriptor (TJx3cf43 k).2.2.1 = some (tyJx3cf43 k) := by decide +kernel
def RJ7 : String := "java/util/Arrays"
def TJ7 : u_T := fun k => match k with
  | _ => ("", "", "", false)
def tyJ7 : Nat → FieldType := fun k => match k with
  | _ => .int
theorem nmJ7 : ∀ a, a < 0 → ∀ b, b < 0 → a ≠ b → (TJ7 a).2.1 ≠ (TJ7 b).2.1 := by decide +kernel
theorem tyJ7_ok : ∀ k, k < 0 → parseFieldDescriptor (TJ7 k).2.2.1 = some (tyJ7 k) := by decide +kernel
abbrev cJ7_fill_53178 : ByteArray := prog_20_method_103_code
def yJ7_fill_53178 : MethodName := ⟨RJ7, "fill", "([II)V"⟩
def RJ3 : String := "jdk/internal/util/Preconditions"
def TJ3 : u_T := fun k => match k with
  | _ => ("", "", "", false)
def tyJ3 : Nat → FieldType := fun k => match k with
  | _ => .int
theorem nmJ3 : ∀ a, a < 0 → ∀ b, b < 0 → a ≠ b → (TJ3 a).2.1 ≠ (TJ3 b).2.1 := by decide +kernel
theorem tyJ3_ok : ∀ k, k < 0 → parseFieldDescriptor (TJ3 k).2.2.1 = some (tyJ3 k) := by decide +kernel
abbrev cJ3_checkIndex_8e157 : ByteArray := prog_21_method_11_code
def yJ3_checkIndex_8e157 : MethodName := ⟨RJ3, "checkIndex", "(IILjava/util/function/BiFunction;)I"⟩
def RL : String := "StationPassesLaw"
abbrev cL_law : ByteArray := code
def yL_law : MethodName := ⟨RL, "law", "([I)Z"⟩
abbrev vwCl : List vw_C := [(RX0, TX0, 4), (RX1, TX1, 3), (RX2, TX2, 4), (RX3, TX3, 2), (RX4, TX4, 3), (RX5, TX5, 7), (RX6, TX6, 17), (RX7, TX7, 3), (RX8, TX8, 3), (RX9, TX9, 5), (RX10, TX10, 7), (RX11, TX11, 28)]
end
section
theorem dX0_init_0 : decode cX0_init 0 = .ok (.aload_n 0, 1) := by decide +kernel
theorem dX0_init_1 : decode cX0_init 1 = .ok (.invokespecial 3, 3) := by decide +kernel
theorem dX0_init_4 : decode cX0_init 4 = .ok (.aload_n 0, 1) := by decide +kernel
theorem dX0_init_5 : decode cX0_init 5 = .ok (.bipush 25, 2) := by decide +kernel
theorem dX0_init_7 : decode cX0_init 7 = .ok (.newarray .int, 2) := by decide +kernel
theorem dX0_init_9 : decode cX0_init 9 = .ok (.putfield 9, 3) := by decide +kernel
theorem dX0_init_12 : decode cX0_init 12 = .ok (.aload_n 0, 1) := by decide +kernel
theorem dX0_init_13 : decode cX0_init 13 = .ok (.bipush 25, 2) := by decide +kernel
theorem dX0_init_15 : decode cX0_init 15 = .ok (.newarray .int, 2) := by decide +kernel
theorem dX0_init_17 : decode cX0_init 17 = .ok (.putfield 15, 3) := by decide +kernel
theorem dX0_init_20 : decode cX0_init 20 = .ok (.aload_n 0, 1) := by decide +kernel
theorem dX0_init_21 : decode cX0_init 21 = .ok (.bipush 25, 2) := by decide +kernel
theorem dX0_init_23 : decode cX0_init 23 = .ok (.newarray .int, 2) := by decide +kernel
theorem dX0_init_25 : decode cX0_init 25 = .ok (.putfield 18, 3) := by decide +kernel
theorem dX0_init_28 : decode cX0_init 28 = .ok (.aload_n 0, 1) := by decide +kernel
theorem dX0_init_29 : decode cX0_init 29 = .ok (.bipush 25, 2) := by decide +kernel
theorem dX0_init_31 : decode cX0_init 31 = .ok (.newarray .int, 2) := by decide +kernel
theorem dX0_init_33 : decode cX0_init 33 = .ok (.putfield 21, 3) := by decide +kernel
theorem dX0_init_36 : decode cX0_init 36 = .ok (.return_, 1) := by decide +kernel
theorem dX0_find_0 : decode cX0_find 0 = .ok (.aload_n 1, 1) := by decide +kernel
theorem dX0_find_1 : decode cX0_find 1 = .ok (.getfield 24, 3) := by decide +kernel
theorem dX0_find_4 : decode cX0_find 4 = .ok (.getfield 30, 3) := by decide +kernel
theorem dX0_find_7 : decode cX0_find 7 = .ok (.istore_n 3, 1) := by decide +kernel
theorem dX0_find_8 : decode cX0_find 8 = .ok (.aload_n 0, 1) := by decide +kernel
theorem dX0_find_9 : decode cX0_find 9 = .ok (.getfield 9, 3) := by decide +kernel
theorem dX0_find_12 : decode cX0_find 12 = .ok (.iload_n 3, 1) := by decide +kernel
theorem dX0_find_13 : decode cX0_find 13 = .ok (.iconst 0, 1) := by decide +kernel
theorem dX0_find_14 : decode cX0_find 14 = .ok (.iastore, 1) := by decide +kernel
theorem dX0_find_15 : decode cX0_find 15 = .ok (.aload_n 0, 1) := by decide +kernel
theorem dX0_find_16 : decode cX0_find 16 = .ok (.getfield 15, 3) := by decide +kernel
theorem dX0_find_19 : decode cX0_find 19 = .ok (.iload_n 3, 1) := by decide +kernel
theorem dX0_find_20 : decode cX0_find 20 = .ok (.iconst 0, 1) := by decide +kernel
theorem dX0_find_21 : decode cX0_find 21 = .ok (.iastore, 1) := by decide +kernel
theorem dX0_find_22 : decode cX0_find 22 = .ok (.aload_n 0, 1) := by decide +kernel
theorem dX0_find_23 : decode cX0_find 23 = .ok (.getfield 18, 3) := by decide +kernel
theorem dX0_find_26 : decode cX0_find 26 = .ok (.iload_n 3, 1) := by decide +kernel
theorem dX0_find_27 : decode cX0_find 27 = .ok (.iload_n 3, 1) := by decide +kernel
theorem dX0_find_28 : decode cX0_find 28 = .ok (.iastore, 1) := by decide +kernel
theorem dX0_find_29 : decode cX0_find 29 = .ok (.aload_n 0, 1) := by decide +kernel
theorem dX0_find_30 : decode cX0_find 30 = .ok (.getfield 21, 3) := by decide +kernel
theorem dX0_find_33 : decode cX0_find 33 = .ok (.iload_n 3, 1) := by decide +kernel
theorem dX0_find_34 : decode cX0_find 34 = .ok (.iload_n 3, 1) := by decide +kernel
theorem dX0_find_35 : decode cX0_find 35 = .ok (.iastore, 1) := by decide +kernel
theorem dX0_find_36 : decode cX0_find 36 = .ok (.iload_n 3, 1) := by decide +kernel
theorem dX0_find_37 : decode cX0_find 37 = .ok (.iconst 1, 1) := by decide +kernel
theorem dX0_find_38 : decode cX0_find 38 = .ok (.isub, 1) := by decide +kernel
theorem dX0_find_39 : decode cX0_find 39 = .ok (.istore 4, 2) := by decide +kernel
theorem dX0_find_41 : decode cX0_find 41 = .ok (.iload 4, 2) := by decide +kernel
theorem dX0_find_43 : decode cX0_find 43 = .ok (.ifCond .lt 91, 3) := by decide +kernel
theorem dX0_find_46 : decode cX0_find 46 = .ok (.aload_n 0, 1) := by decide +kernel
theorem dX0_find_47 : decode cX0_find 47 = .ok (.getfield 9, 3) := by decide +kernel
theorem dX0_find_50 : decode cX0_find 50 = .ok (.iload 4, 2) := by decide +kernel
theorem dX0_find_52 : decode cX0_find 52 = .ok (.aload_n 0, 1) := by decide +kernel
theorem dX0_find_53 : decode cX0_find 53 = .ok (.getfield 9, 3) := by decide +kernel
theorem dX0_find_56 : decode cX0_find 56 = .ok (.iload 4, 2) := by decide +kernel
theorem dX0_find_58 : decode cX0_find 58 = .ok (.iconst 1, 1) := by decide +kernel
theorem dX0_find_59 : decode cX0_find 59 = .ok (.iadd, 1) := by decide +kernel
theorem dX0_find_60 : decode cX0_find 60 = .ok (.iaload, 1) := by decide +kernel
theorem dX0_find_61 : decode cX0_find 61 = .ok (.iastore, 1) := by decide +kernel
theorem dX0_find_62 : decode cX0_find 62 = .ok (.aload_n 0, 1) := by decide +kernel
theorem dX0_find_63 : decode cX0_find 63 = .ok (.getfield 15, 3) := by decide +kernel
theorem dX0_find_66 : decode cX0_find 66 = .ok (.iload 4, 2) := by decide +kernel
theorem dX0_find_68 : decode cX0_find 68 = .ok (.aload_n 0, 1) := by decide +kernel
theorem dX0_find_69 : decode cX0_find 69 = .ok (.getfield 15, 3) := by decide +kernel
theorem dX0_find_72 : decode cX0_find 72 = .ok (.iload 4, 2) := by decide +kernel
theorem dX0_find_74 : decode cX0_find 74 = .ok (.iconst 1, 1) := by decide +kernel
theorem dX0_find_75 : decode cX0_find 75 = .ok (.iadd, 1) := by decide +kernel
theorem dX0_find_76 : decode cX0_find 76 = .ok (.iaload, 1) := by decide +kernel
theorem dX0_find_77 : decode cX0_find 77 = .ok (.iastore, 1) := by decide +kernel
theorem dX0_find_78 : decode cX0_find 78 = .ok (.aload_n 0, 1) := by decide +kernel
theorem dX0_find_79 : decode cX0_find 79 = .ok (.getfield 18, 3) := by decide +kernel
theorem dX0_find_82 : decode cX0_find 82 = .ok (.iload 4, 2) := by decide +kernel
theorem dX0_find_84 : decode cX0_find 84 = .ok (.aload_n 0, 1) := by decide +kernel
theorem dX0_find_85 : decode cX0_find 85 = .ok (.getfield 18, 3) := by decide +kernel
theorem dX0_find_88 : decode cX0_find 88 = .ok (.iload 4, 2) := by decide +kernel
theorem dX0_find_90 : decode cX0_find 90 = .ok (.iconst 1, 1) := by decide +kernel
theorem dX0_find_91 : decode cX0_find 91 = .ok (.iadd, 1) := by decide +kernel
theorem dX0_find_92 : decode cX0_find 92 = .ok (.iaload, 1) := by decide +kernel
theorem dX0_find_93 : decode cX0_find 93 = .ok (.iastore, 1) := by decide +kernel
theorem dX0_find_94 : decode cX0_find 94 = .ok (.aload_n 0, 1) := by decide +kernel
theorem dX0_find_95 : decode cX0_find 95 = .ok (.getfield 21, 3) := by decide +kernel
theorem dX0_find_98 : decode cX0_find 98 = .ok (.iload 4, 2) := by decide +kernel
theorem dX0_find_100 : decode cX0_find 100 = .ok (.aload_n 0, 1) := by decide +kernel
theorem dX0_find_101 : decode cX0_find 101 = .ok (.getfield 21, 3) := by decide +kernel
theorem dX0_find_104 : decode cX0_find 104 = .ok (.iload 4, 2) := by decide +kernel
theorem dX0_find_106 : decode cX0_find 106 = .ok (.iconst 1, 1) := by decide +kernel
theorem dX0_find_107 : decode cX0_find 107 = .ok (.iadd, 1) := by decide +kernel
theorem dX0_find_108 : decode cX0_find 108 = .ok (.iaload, 1) := by decide +kernel
theorem dX0_find_109 : decode cX0_find 109 = .ok (.iastore, 1) := by decide +kernel
theorem dX0_find_110 : decode cX0_find 110 = .ok (.aload_n 1, 1) := by decide +kernel
theorem dX0_find_111 : decode cX0_find 111 = .ok (.iload 4, 2) := by decide +kernel
theorem dX0_find_113 : decode cX0_find 113 = .ok (.iload_n 2, 1) := by decide +kernel
theorem dX0_find_114 : decode cX0_find 114 = .ok (.invokevirtual 36, 3) := by decide +kernel
theorem dX0_find_117 : decode cX0_find 117 = .ok (.ifCond .eq 11, 3) := by decide +kernel
theorem dX0_find_120 : decode cX0_find 120 = .ok (.aload_n 0, 1) := by decide +kernel
theorem dX0_find_121 : decode cX0_find 121 = .ok (.aload_n 1, 1) := by decide +kernel
theorem dX0_find_122 : decode cX0_find 122 = .ok (.iload_n 2, 1) := by decide +kernel
theorem dX0_find_123 : decode cX0_find 123 = .ok (.iload 4, 2) := by decide +kernel
theorem dX0_find_125 : decode cX0_find 125 = .ok (.invokevirtual 40, 3) := by decide +kernel
theorem dX0_find_128 : decode cX0_find 128 = .ok (.iinc 4 (-1), 3) := by decide +kernel
theorem dX0_find_131 : decode cX0_find 131 = .ok (.goto (-90), 3) := by decide +kernel
theorem dX0_find_134 : decode cX0_find 134 = .ok (.return_, 1) := by decide +kernel
theorem dX0_tryHead_0 : decode cX0_tryHead 0 = .ok (.iload_n 3, 1) := by decide +kernel
theorem dX0_tryHead_1 : decode cX0_tryHead 1 = .ok (.iconst 1, 1) := by decide +kernel
theorem dX0_tryHead_2 : decode cX0_tryHead 2 = .ok (.iadd, 1) := by decide +kernel
theorem dX0_tryHead_3 : decode cX0_tryHead 3 = .ok (.istore 4, 2) := by decide +kernel
theorem dX0_tryHead_5 : decode cX0_tryHead 5 = .ok (.iload 4, 2) := by decide +kernel
theorem dX0_tryHead_7 : decode cX0_tryHead 7 = .ok (.aload_n 1, 1) := by decide +kernel
theorem dX0_tryHead_8 : decode cX0_tryHead 8 = .ok (.getfield 24, 3) := by decide +kernel
theorem dX0_tryHead_11 : decode cX0_tryHead 11 = .ok (.getfield 30, 3) := by decide +kernel
theorem dX0_tryHead_14 : decode cX0_tryHead 14 = .ok (.if_icmp .ge 20, 3) := by decide +kernel
theorem dX0_tryHead_17 : decode cX0_tryHead 17 = .ok (.aload_n 1, 1) := by decide +kernel
theorem dX0_tryHead_18 : decode cX0_tryHead 18 = .ok (.iload_n 3, 1) := by decide +kernel
theorem dX0_tryHead_19 : decode cX0_tryHead 19 = .ok (.iload 4, 2) := by decide +kernel
theorem dX0_tryHead_21 : decode cX0_tryHead 21 = .ok (.iload_n 2, 1) := by decide +kernel
theorem dX0_tryHead_22 : decode cX0_tryHead 22 = .ok (.invokevirtual 44, 3) := by decide +kernel
theorem dX0_tryHead_25 : decode cX0_tryHead 25 = .ok (.ifCond .ne 9, 3) := by decide +kernel
theorem dX0_tryHead_28 : decode cX0_tryHead 28 = .ok (.iinc 4 1, 3) := by decide +kernel
theorem dX0_tryHead_31 : decode cX0_tryHead 31 = .ok (.goto (-26), 3) := by decide +kernel
theorem dX0_tryHead_34 : decode cX0_tryHead 34 = .ok (.aload_n 1, 1) := by decide +kernel
theorem dX0_tryHead_35 : decode cX0_tryHead 35 = .ok (.getfield 24, 3) := by decide +kernel
theorem dX0_tryHead_38 : decode cX0_tryHead 38 = .ok (.getfield 48, 3) := by decide +kernel
theorem dX0_tryHead_41 : decode cX0_tryHead 41 = .ok (.iload_n 3, 1) := by decide +kernel
theorem dX0_tryHead_42 : decode cX0_tryHead 42 = .ok (.iaload, 1) := by decide +kernel
theorem dX0_tryHead_43 : decode cX0_tryHead 43 = .ok (.aload_n 0, 1) := by decide +kernel
theorem dX0_tryHead_44 : decode cX0_tryHead 44 = .ok (.getfield 9, 3) := by decide +kernel
theorem dX0_tryHead_47 : decode cX0_tryHead 47 = .ok (.iload 4, 2) := by decide +kernel
theorem dX0_tryHead_49 : decode cX0_tryHead 49 = .ok (.iaload, 1) := by decide +kernel
theorem dX0_tryHead_50 : decode cX0_tryHead 50 = .ok (.iadd, 1) := by decide +kernel
theorem dX0_tryHead_51 : decode cX0_tryHead 51 = .ok (.istore 5, 2) := by decide +kernel
theorem dX0_tryHead_53 : decode cX0_tryHead 53 = .ok (.iconst 1, 1) := by decide +kernel
theorem dX0_tryHead_54 : decode cX0_tryHead 54 = .ok (.aload_n 0, 1) := by decide +kernel
theorem dX0_tryHead_55 : decode cX0_tryHead 55 = .ok (.getfield 15, 3) := by decide +kernel
theorem dX0_tryHead_58 : decode cX0_tryHead 58 = .ok (.iload 4, 2) := by decide +kernel
theorem dX0_tryHead_60 : decode cX0_tryHead 60 = .ok (.iaload, 1) := by decide +kernel
theorem dX0_tryHead_61 : decode cX0_tryHead 61 = .ok (.iadd, 1) := by decide +kernel
theorem dX0_tryHead_62 : decode cX0_tryHead 62 = .ok (.istore 6, 2) := by decide +kernel
theorem dX0_tryHead_64 : decode cX0_tryHead 64 = .ok (.iload 5, 2) := by decide +kernel
theorem dX0_tryHead_66 : decode cX0_tryHead 66 = .ok (.aload_n 0, 1) := by decide +kernel
theorem dX0_tryHead_67 : decode cX0_tryHead 67 = .ok (.getfield 9, 3) := by decide +kernel
theorem dX0_tryHead_70 : decode cX0_tryHead 70 = .ok (.iload_n 3, 1) := by decide +kernel
theorem dX0_tryHead_71 : decode cX0_tryHead 71 = .ok (.iaload, 1) := by decide +kernel
theorem dX0_tryHead_72 : decode cX0_tryHead 72 = .ok (.if_icmp .gt 25, 3) := by decide +kernel
theorem dX0_tryHead_75 : decode cX0_tryHead 75 = .ok (.iload 5, 2) := by decide +kernel
theorem dX0_tryHead_77 : decode cX0_tryHead 77 = .ok (.aload_n 0, 1) := by decide +kernel
theorem dX0_tryHead_78 : decode cX0_tryHead 78 = .ok (.getfield 9, 3) := by decide +kernel
theorem dX0_tryHead_81 : decode cX0_tryHead 81 = .ok (.iload_n 3, 1) := by decide +kernel
theorem dX0_tryHead_82 : decode cX0_tryHead 82 = .ok (.iaload, 1) := by decide +kernel
theorem dX0_tryHead_83 : decode cX0_tryHead 83 = .ok (.if_icmp .ne 45, 3) := by decide +kernel
theorem dX0_tryHead_86 : decode cX0_tryHead 86 = .ok (.iload 6, 2) := by decide +kernel
theorem dX0_tryHead_88 : decode cX0_tryHead 88 = .ok (.aload_n 0, 1) := by decide +kernel
theorem dX0_tryHead_89 : decode cX0_tryHead 89 = .ok (.getfield 15, 3) := by decide +kernel
theorem dX0_tryHead_92 : decode cX0_tryHead 92 = .ok (.iload_n 3, 1) := by decide +kernel
theorem dX0_tryHead_93 : decode cX0_tryHead 93 = .ok (.iaload, 1) := by decide +kernel
theorem dX0_tryHead_94 : decode cX0_tryHead 94 = .ok (.if_icmp .gt 34, 3) := by decide +kernel
theorem dX0_tryHead_97 : decode cX0_tryHead 97 = .ok (.aload_n 0, 1) := by decide +kernel
theorem dX0_tryHead_98 : decode cX0_tryHead 98 = .ok (.getfield 9, 3) := by decide +kernel
theorem dX0_tryHead_101 : decode cX0_tryHead 101 = .ok (.iload_n 3, 1) := by decide +kernel
theorem dX0_tryHead_102 : decode cX0_tryHead 102 = .ok (.iload 5, 2) := by decide +kernel
theorem dX0_tryHead_104 : decode cX0_tryHead 104 = .ok (.iastore, 1) := by decide +kernel
theorem dX0_tryHead_105 : decode cX0_tryHead 105 = .ok (.aload_n 0, 1) := by decide +kernel
theorem dX0_tryHead_106 : decode cX0_tryHead 106 = .ok (.getfield 15, 3) := by decide +kernel
theorem dX0_tryHead_109 : decode cX0_tryHead 109 = .ok (.iload_n 3, 1) := by decide +kernel
theorem dX0_tryHead_110 : decode cX0_tryHead 110 = .ok (.iload 6, 2) := by decide +kernel
theorem dX0_tryHead_112 : decode cX0_tryHead 112 = .ok (.iastore, 1) := by decide +kernel
theorem dX0_tryHead_113 : decode cX0_tryHead 113 = .ok (.aload_n 0, 1) := by decide +kernel
theorem dX0_tryHead_114 : decode cX0_tryHead 114 = .ok (.getfield 18, 3) := by decide +kernel
theorem dX0_tryHead_117 : decode cX0_tryHead 117 = .ok (.iload_n 3, 1) := by decide +kernel
theorem dX0_tryHead_118 : decode cX0_tryHead 118 = .ok (.iload_n 3, 1) := by decide +kernel
theorem dX0_tryHead_119 : decode cX0_tryHead 119 = .ok (.iastore, 1) := by decide +kernel
theorem dX0_tryHead_120 : decode cX0_tryHead 120 = .ok (.aload_n 0, 1) := by decide +kernel
theorem dX0_tryHead_121 : decode cX0_tryHead 121 = .ok (.getfield 21, 3) := by decide +kernel
theorem dX0_tryHead_124 : decode cX0_tryHead 124 = .ok (.iload_n 3, 1) := by decide +kernel
theorem dX0_tryHead_125 : decode cX0_tryHead 125 = .ok (.iload 4, 2) := by decide +kernel
theorem dX0_tryHead_127 : decode cX0_tryHead 127 = .ok (.iastore, 1) := by decide +kernel
theorem dX0_tryHead_128 : decode cX0_tryHead 128 = .ok (.return_, 1) := by decide +kernel
theorem dX0_member_0 : decode cX0_member 0 = .ok (.iload_n 1, 1) := by decide +kernel
theorem dX0_member_1 : decode cX0_member 1 = .ok (.ifCond .lt 13, 3) := by decide +kernel
theorem dX0_member_4 : decode cX0_member 4 = .ok (.iload_n 1, 1) := by decide +kernel
theorem dX0_member_5 : decode cX0_member 5 = .ok (.aload_n 0, 1) := by decide +kernel
theorem dX0_member_6 : decode cX0_member 6 = .ok (.getfield 15, 3) := by decide +kernel
theorem dX0_member_9 : decode cX0_member 9 = .ok (.iconst 0, 1) := by decide +kernel
theorem dX0_member_10 : decode cX0_member 10 = .ok (.iaload, 1) := by decide +kernel
theorem dX0_member_11 : decode cX0_member 11 = .ok (.if_icmp .lt 6, 3) := by decide +kernel
theorem dX0_member_14 : decode cX0_member 14 = .ok (.bipush (-4), 2) := by decide +kernel
theorem dX0_member_16 : decode cX0_member 16 = .ok (.ireturn, 1) := by decide +kernel
theorem dX0_member_17 : decode cX0_member 17 = .ok (.iconst 0, 1) := by decide +kernel
theorem dX0_member_18 : decode cX0_member 18 = .ok (.istore_n 2, 1) := by decide +kernel
theorem dX0_member_19 : decode cX0_member 19 = .ok (.iconst 0, 1) := by decide +kernel
theorem dX0_member_20 : decode cX0_member 20 = .ok (.istore_n 3, 1) := by decide +kernel
theorem dX0_member_21 : decode cX0_member 21 = .ok (.iload_n 3, 1) := by decide +kernel
theorem dX0_member_22 : decode cX0_member 22 = .ok (.iload_n 1, 1) := by decide +kernel
theorem dX0_member_23 : decode cX0_member 23 = .ok (.if_icmp .ge 16, 3) := by decide +kernel
theorem dX0_member_26 : decode cX0_member 26 = .ok (.aload_n 0, 1) := by decide +kernel
theorem dX0_member_27 : decode cX0_member 27 = .ok (.getfield 21, 3) := by decide +kernel
theorem dX0_member_30 : decode cX0_member 30 = .ok (.iload_n 2, 1) := by decide +kernel
theorem dX0_member_31 : decode cX0_member 31 = .ok (.iaload, 1) := by decide +kernel
theorem dX0_member_32 : decode cX0_member 32 = .ok (.istore_n 2, 1) := by decide +kernel
theorem dX0_member_33 : decode cX0_member 33 = .ok (.iinc 3 1, 3) := by decide +kernel
theorem dX0_member_36 : decode cX0_member 36 = .ok (.goto (-15), 3) := by decide +kernel
theorem dX0_member_39 : decode cX0_member 39 = .ok (.aload_n 0, 1) := by decide +kernel
theorem dX0_member_40 : decode cX0_member 40 = .ok (.getfield 18, 3) := by decide +kernel
theorem dX0_member_43 : decode cX0_member 43 = .ok (.iload_n 2, 1) := by decide +kernel
theorem dX0_member_44 : decode cX0_member 44 = .ok (.iaload, 1) := by decide +kernel
theorem dX0_member_45 : decode cX0_member 45 = .ok (.ireturn, 1) := by decide +kernel
theorem dX1_init_0 : decode cX1_init 0 = .ok (.aload_n 0, 1) := by decide +kernel
theorem dX1_init_1 : decode cX1_init 1 = .ok (.invokespecial 3, 3) := by decide +kernel
theorem dX1_init_4 : decode cX1_init 4 = .ok (.aload_n 0, 1) := by decide +kernel
theorem dX1_init_5 : decode cX1_init 5 = .ok (.bipush 6, 2) := by decide +kernel
theorem dX1_init_7 : decode cX1_init 7 = .ok (.anewarray 9, 3) := by decide +kernel
theorem dX1_init_10 : decode cX1_init 10 = .ok (.putfield 11, 3) := by decide +kernel
theorem dX1_init_13 : decode cX1_init 13 = .ok (.iconst 0, 1) := by decide +kernel
theorem dX1_init_14 : decode cX1_init 14 = .ok (.istore_n 1, 1) := by decide +kernel
theorem dX1_init_15 : decode cX1_init 15 = .ok (.iload_n 1, 1) := by decide +kernel
theorem dX1_init_16 : decode cX1_init 16 = .ok (.aload_n 0, 1) := by decide +kernel
theorem dX1_init_17 : decode cX1_init 17 = .ok (.getfield 11, 3) := by decide +kernel
theorem dX1_init_20 : decode cX1_init 20 = .ok (.arraylength, 1) := by decide +kernel
theorem dX1_init_21 : decode cX1_init 21 = .ok (.if_icmp .ge 22, 3) := by decide +kernel
theorem dX1_init_24 : decode cX1_init 24 = .ok (.aload_n 0, 1) := by decide +kernel
theorem dX1_init_25 : decode cX1_init 25 = .ok (.getfield 11, 3) := by decide +kernel
theorem dX1_init_28 : decode cX1_init 28 = .ok (.iload_n 1, 1) := by decide +kernel
theorem dX1_init_29 : decode cX1_init 29 = .ok (.new 9, 3) := by decide +kernel
theorem dX1_init_32 : decode cX1_init 32 = .ok (.dup, 1) := by decide +kernel
theorem dX1_init_33 : decode cX1_init 33 = .ok (.invokespecial 17, 3) := by decide +kernel
theorem dX1_init_36 : decode cX1_init 36 = .ok (.aastore, 1) := by decide +kernel
theorem dX1_init_37 : decode cX1_init 37 = .ok (.iinc 1 1, 3) := by decide +kernel
theorem dX1_init_40 : decode cX1_init 40 = .ok (.goto (-25), 3) := by decide +kernel
theorem dX1_init_43 : decode cX1_init 43 = .ok (.return_, 1) := by decide +kernel
theorem dX1_clear_0 : decode cX1_clear 0 = .ok (.aload_n 0, 1) := by decide +kernel
theorem dX1_clear_1 : decode cX1_clear 1 = .ok (.iconst 0, 1) := by decide +kernel
theorem dX1_clear_2 : decode cX1_clear 2 = .ok (.putfield 18, 3) := by decide +kernel
theorem dX1_clear_5 : decode cX1_clear 5 = .ok (.return_, 1) := by decide +kernel
theorem dX1_keep_0 : decode cX1_keep 0 = .ok (.aload_n 0, 1) := by decide +kernel
theorem dX1_keep_1 : decode cX1_keep 1 = .ok (.getfield 11, 3) := by decide +kernel
theorem dX1_keep_4 : decode cX1_keep 4 = .ok (.aload_n 0, 1) := by decide +kernel
theorem dX1_keep_5 : decode cX1_keep 5 = .ok (.getfield 22, 3) := by decide +kernel
theorem dX1_keep_8 : decode cX1_keep 8 = .ok (.aaload, 1) := by decide +kernel
theorem dX1_keep_9 : decode cX1_keep 9 = .ok (.aload_n 1, 1) := by decide +kernel
theorem dX1_keep_10 : decode cX1_keep 10 = .ok (.invokevirtual 25, 3) := by decide +kernel
theorem dX1_keep_13 : decode cX1_keep 13 = .ok (.aload_n 0, 1) := by decide +kernel
theorem dX1_keep_14 : decode cX1_keep 14 = .ok (.aload_n 0, 1) := by decide +kernel
theorem dX1_keep_15 : decode cX1_keep 15 = .ok (.getfield 22, 3) := by decide +kernel
theorem dX1_keep_18 : decode cX1_keep 18 = .ok (.iconst 1, 1) := by decide +kernel
theorem dX1_keep_19 : decode cX1_keep 19 = .ok (.iadd, 1) := by decide +kernel
theorem dX1_keep_20 : decode cX1_keep 20 = .ok (.bipush 6, 2) := by decide +kernel
theorem dX1_keep_22 : decode cX1_keep 22 = .ok (.irem, 1) := by decide +kernel
theorem dX1_keep_23 : decode cX1_keep 23 = .ok (.putfield 22, 3) := by decide +kernel
theorem dX1_keep_26 : decode cX1_keep 26 = .ok (.aload_n 0, 1) := by decide +kernel
theorem dX1_keep_27 : decode cX1_keep 27 = .ok (.aload_n 0, 1) := by decide +kernel
theorem dX1_keep_28 : decode cX1_keep 28 = .ok (.getfield 18, 3) := by decide +kernel
theorem dX1_keep_31 : decode cX1_keep 31 = .ok (.iconst 1, 1) := by decide +kernel
theorem dX1_keep_32 : decode cX1_keep 32 = .ok (.iadd, 1) := by decide +kernel
theorem dX1_keep_33 : decode cX1_keep 33 = .ok (.bipush 6, 2) := by decide +kernel
theorem dX1_keep_35 : decode cX1_keep 35 = .ok (.invokestatic 29, 3) := by decide +kernel
theorem dX1_keep_38 : decode cX1_keep 38 = .ok (.putfield 18, 3) := by decide +kernel
theorem dX1_keep_41 : decode cX1_keep 41 = .ok (.return_, 1) := by decide +kernel
theorem dX1_bringBack_0 : decode cX1_bringBack 0 = .ok (.aload_n 0, 1) := by decide +kernel
theorem dX1_bringBack_1 : decode cX1_bringBack 1 = .ok (.aload_n 0, 1) := by decide +kernel
theorem dX1_bringBack_2 : decode cX1_bringBack 2 = .ok (.getfield 22, 3) := by decide +kernel
theorem dX1_bringBack_5 : decode cX1_bringBack 5 = .ok (.bipush 6, 2) := by decide +kernel
theorem dX1_bringBack_7 : decode cX1_bringBack 7 = .ok (.iadd, 1) := by decide +kernel
theorem dX1_bringBack_8 : decode cX1_bringBack 8 = .ok (.iconst 1, 1) := by decide +kernel
theorem dX1_bringBack_9 : decode cX1_bringBack 9 = .ok (.isub, 1) := by decide +kernel
theorem dX1_bringBack_10 : decode cX1_bringBack 10 = .ok (.bipush 6, 2) := by decide +kernel
theorem dX1_bringBack_12 : decode cX1_bringBack 12 = .ok (.irem, 1) := by decide +kernel
theorem dX1_bringBack_13 : decode cX1_bringBack 13 = .ok (.putfield 22, 3) := by decide +kernel
theorem dX1_bringBack_16 : decode cX1_bringBack 16 = .ok (.aload_n 0, 1) := by decide +kernel
theorem dX1_bringBack_17 : decode cX1_bringBack 17 = .ok (.dup, 1) := by decide +kernel
theorem dX1_bringBack_18 : decode cX1_bringBack 18 = .ok (.getfield 18, 3) := by decide +kernel
theorem dX1_bringBack_21 : decode cX1_bringBack 21 = .ok (.iconst 1, 1) := by decide +kernel
theorem dX1_bringBack_22 : decode cX1_bringBack 22 = .ok (.isub, 1) := by decide +kernel
theorem dX1_bringBack_23 : decode cX1_bringBack 23 = .ok (.putfield 18, 3) := by decide +kernel
theorem dX1_bringBack_26 : decode cX1_bringBack 26 = .ok (.aload_n 1, 1) := by decide +kernel
theorem dX1_bringBack_27 : decode cX1_bringBack 27 = .ok (.aload_n 0, 1) := by decide +kernel
theorem dX1_bringBack_28 : decode cX1_bringBack 28 = .ok (.getfield 11, 3) := by decide +kernel
theorem dX1_bringBack_31 : decode cX1_bringBack 31 = .ok (.aload_n 0, 1) := by decide +kernel
theorem dX1_bringBack_32 : decode cX1_bringBack 32 = .ok (.getfield 22, 3) := by decide +kernel
theorem dX1_bringBack_35 : decode cX1_bringBack 35 = .ok (.aaload, 1) := by decide +kernel
theorem dX1_bringBack_36 : decode cX1_bringBack 36 = .ok (.invokevirtual 25, 3) := by decide +kernel
theorem dX1_bringBack_39 : decode cX1_bringBack 39 = .ok (.return_, 1) := by decide +kernel
theorem dX2_init_0 : decode cX2_init 0 = .ok (.aload_n 0, 1) := by decide +kernel
theorem dX2_init_1 : decode cX2_init 1 = .ok (.invokespecial 1, 3) := by decide +kernel
theorem dX2_init_4 : decode cX2_init 4 = .ok (.aload_n 0, 1) := by decide +kernel
theorem dX2_init_5 : decode cX2_init 5 = .ok (.aload_n 2, 1) := by decide +kernel
theorem dX2_init_6 : decode cX2_init 6 = .ok (.putfield 7, 3) := by decide +kernel
theorem dX2_init_9 : decode cX2_init 9 = .ok (.aload_n 0, 1) := by decide +kernel
theorem dX2_init_10 : decode cX2_init 10 = .ok (.aload_n 3, 1) := by decide +kernel
theorem dX2_init_11 : decode cX2_init 11 = .ok (.putfield 13, 3) := by decide +kernel
theorem dX2_init_14 : decode cX2_init 14 = .ok (.aload_n 0, 1) := by decide +kernel
theorem dX2_init_15 : decode cX2_init 15 = .ok (.iload_n 1, 1) := by decide +kernel
theorem dX2_init_16 : decode cX2_init 16 = .ok (.aload_n 2, 1) := by decide +kernel
theorem dX2_init_17 : decode cX2_init 17 = .ok (.arraylength, 1) := by decide +kernel
theorem dX2_init_18 : decode cX2_init 18 = .ok (.multianewarray 16 2, 4) := by decide +kernel
theorem dX2_init_22 : decode cX2_init 22 = .ok (.putfield 18, 3) := by decide +kernel
theorem dX2_init_25 : decode cX2_init 25 = .ok (.return_, 1) := by decide +kernel
theorem dX2_has_0 : decode cX2_has 0 = .ok (.iload_n 1, 1) := by decide +kernel
theorem dX2_has_1 : decode cX2_has 1 = .ok (.ifCond .lt 15, 3) := by decide +kernel
theorem dX2_has_4 : decode cX2_has 4 = .ok (.iload_n 1, 1) := by decide +kernel
theorem dX2_has_5 : decode cX2_has 5 = .ok (.aload_n 0, 1) := by decide +kernel
theorem dX2_has_6 : decode cX2_has 6 = .ok (.getfield 21, 3) := by decide +kernel
theorem dX2_has_9 : decode cX2_has 9 = .ok (.if_icmp .ge 7, 3) := by decide +kernel
theorem dX2_has_12 : decode cX2_has 12 = .ok (.iconst 1, 1) := by decide +kernel
theorem dX2_has_13 : decode cX2_has 13 = .ok (.goto 4, 3) := by decide +kernel
theorem dX2_has_16 : decode cX2_has 16 = .ok (.iconst 0, 1) := by decide +kernel
theorem dX2_has_17 : decode cX2_has 17 = .ok (.ireturn, 1) := by decide +kernel
theorem dX2_number_0 : decode cX2_number 0 = .ok (.aload_n 0, 1) := by decide +kernel
theorem dX2_number_1 : decode cX2_number 1 = .ok (.getfield 18, 3) := by decide +kernel
theorem dX2_number_4 : decode cX2_number 4 = .ok (.iload_n 1, 1) := by decide +kernel
theorem dX2_number_5 : decode cX2_number 5 = .ok (.aaload, 1) := by decide +kernel
theorem dX2_number_6 : decode cX2_number 6 = .ok (.iload_n 2, 1) := by decide +kernel
theorem dX2_number_7 : decode cX2_number 7 = .ok (.iaload, 1) := by decide +kernel
theorem dX2_number_8 : decode cX2_number 8 = .ok (.ireturn, 1) := by decide +kernel
theorem dX2_isFull_0 : decode cX2_isFull 0 = .ok (.aload_n 0, 1) := by decide +kernel
theorem dX2_isFull_1 : decode cX2_isFull 1 = .ok (.getfield 21, 3) := by decide +kernel
theorem dX2_isFull_4 : decode cX2_isFull 4 = .ok (.aload_n 0, 1) := by decide +kernel
theorem dX2_isFull_5 : decode cX2_isFull 5 = .ok (.getfield 18, 3) := by decide +kernel
theorem dX2_isFull_8 : decode cX2_isFull 8 = .ok (.arraylength, 1) := by decide +kernel
theorem dX2_isFull_9 : decode cX2_isFull 9 = .ok (.if_icmp .lt 7, 3) := by decide +kernel
theorem dX2_isFull_12 : decode cX2_isFull 12 = .ok (.iconst 1, 1) := by decide +kernel
theorem dX2_isFull_13 : decode cX2_isFull 13 = .ok (.goto 4, 3) := by decide +kernel
theorem dX2_isFull_16 : decode cX2_isFull 16 = .ok (.iconst 0, 1) := by decide +kernel
theorem dX2_isFull_17 : decode cX2_isFull 17 = .ok (.ireturn, 1) := by decide +kernel
theorem dX2_allows_0 : decode cX2_allows 0 = .ok (.iload_n 2, 1) := by decide +kernel
theorem dX2_allows_1 : decode cX2_allows 1 = .ok (.aload_n 0, 1) := by decide +kernel
theorem dX2_allows_2 : decode cX2_allows 2 = .ok (.getfield 7, 3) := by decide +kernel
theorem dX2_allows_5 : decode cX2_allows 5 = .ok (.iload_n 1, 1) := by decide +kernel
theorem dX2_allows_6 : decode cX2_allows 6 = .ok (.iaload, 1) := by decide +kernel
theorem dX2_allows_7 : decode cX2_allows 7 = .ok (.if_icmp .lt 17, 3) := by decide +kernel
theorem dX2_allows_10 : decode cX2_allows 10 = .ok (.iload_n 2, 1) := by decide +kernel
theorem dX2_allows_11 : decode cX2_allows 11 = .ok (.aload_n 0, 1) := by decide +kernel
theorem dX2_allows_12 : decode cX2_allows 12 = .ok (.getfield 13, 3) := by decide +kernel
theorem dX2_allows_15 : decode cX2_allows 15 = .ok (.iload_n 1, 1) := by decide +kernel
theorem dX2_allows_16 : decode cX2_allows 16 = .ok (.iaload, 1) := by decide +kernel
theorem dX2_allows_17 : decode cX2_allows 17 = .ok (.if_icmp .gt 7, 3) := by decide +kernel
theorem dX2_allows_20 : decode cX2_allows 20 = .ok (.iconst 1, 1) := by decide +kernel
theorem dX2_allows_21 : decode cX2_allows 21 = .ok (.goto 4, 3) := by decide +kernel
theorem dX2_allows_24 : decode cX2_allows 24 = .ok (.iconst 0, 1) := by decide +kernel
theorem dX2_allows_25 : decode cX2_allows 25 = .ok (.ireturn, 1) := by decide +kernel
theorem dX3_init_0 : decode cX3_init 0 = .ok (.aload_n 0, 1) := by decide +kernel
theorem dX3_init_1 : decode cX3_init 1 = .ok (.invokespecial 3, 3) := by decide +kernel
theorem dX3_init_4 : decode cX3_init 4 = .ok (.aload_n 0, 1) := by decide +kernel
theorem dX3_init_5 : decode cX3_init 5 = .ok (.sipush 200, 3) := by decide +kernel
theorem dX3_init_8 : decode cX3_init 8 = .ok (.newarray .char, 2) := by decide +kernel
theorem dX3_init_10 : decode cX3_init 10 = .ok (.putfield 9, 3) := by decide +kernel
theorem dX3_init_13 : decode cX3_init 13 = .ok (.return_, 1) := by decide +kernel
theorem dX3_append_0 : decode cX3_append 0 = .ok (.aload_n 0, 1) := by decide +kernel
theorem dX3_append_1 : decode cX3_append 1 = .ok (.getfield 15, 3) := by decide +kernel
theorem dX3_append_4 : decode cX3_append 4 = .ok (.aload_n 0, 1) := by decide +kernel
theorem dX3_append_5 : decode cX3_append 5 = .ok (.getfield 9, 3) := by decide +kernel
theorem dX3_append_8 : decode cX3_append 8 = .ok (.arraylength, 1) := by decide +kernel
theorem dX3_append_9 : decode cX3_append 9 = .ok (.if_icmp .ge 23, 3) := by decide +kernel
theorem dX3_append_12 : decode cX3_append 12 = .ok (.aload_n 0, 1) := by decide +kernel
theorem dX3_append_13 : decode cX3_append 13 = .ok (.getfield 9, 3) := by decide +kernel
theorem dX3_append_16 : decode cX3_append 16 = .ok (.aload_n 0, 1) := by decide +kernel
theorem dX3_append_17 : decode cX3_append 17 = .ok (.getfield 15, 3) := by decide +kernel
theorem dX3_append_20 : decode cX3_append 20 = .ok (.iload_n 1, 1) := by decide +kernel
theorem dX3_append_21 : decode cX3_append 21 = .ok (.castore, 1) := by decide +kernel
theorem dX3_append_22 : decode cX3_append 22 = .ok (.aload_n 0, 1) := by decide +kernel
theorem dX3_append_23 : decode cX3_append 23 = .ok (.dup, 1) := by decide +kernel
theorem dX3_append_24 : decode cX3_append 24 = .ok (.getfield 15, 3) := by decide +kernel
theorem dX3_append_27 : decode cX3_append 27 = .ok (.iconst 1, 1) := by decide +kernel
theorem dX3_append_28 : decode cX3_append 28 = .ok (.iadd, 1) := by decide +kernel
theorem dX3_append_29 : decode cX3_append 29 = .ok (.putfield 15, 3) := by decide +kernel
theorem dX3_append_32 : decode cX3_append 32 = .ok (.return_, 1) := by decide +kernel
theorem dX3_clear_0 : decode cX3_clear 0 = .ok (.aload_n 0, 1) := by decide +kernel
theorem dX3_clear_1 : decode cX3_clear 1 = .ok (.iconst 0, 1) := by decide +kernel
theorem dX3_clear_2 : decode cX3_clear 2 = .ok (.putfield 15, 3) := by decide +kernel
theorem dX3_clear_5 : decode cX3_clear 5 = .ok (.return_, 1) := by decide +kernel
theorem dX3_letterAt_0 : decode cX3_letterAt 0 = .ok (.iload_n 1, 1) := by decide +kernel
theorem dX3_letterAt_1 : decode cX3_letterAt 1 = .ok (.ifCond .lt 20, 3) := by decide +kernel
theorem dX3_letterAt_4 : decode cX3_letterAt 4 = .ok (.iload_n 1, 1) := by decide +kernel
theorem dX3_letterAt_5 : decode cX3_letterAt 5 = .ok (.aload_n 0, 1) := by decide +kernel
theorem dX3_letterAt_6 : decode cX3_letterAt 6 = .ok (.getfield 15, 3) := by decide +kernel
theorem dX3_letterAt_9 : decode cX3_letterAt 9 = .ok (.if_icmp .ge 12, 3) := by decide +kernel
theorem dX3_letterAt_12 : decode cX3_letterAt 12 = .ok (.aload_n 0, 1) := by decide +kernel
theorem dX3_letterAt_13 : decode cX3_letterAt 13 = .ok (.getfield 9, 3) := by decide +kernel
theorem dX3_letterAt_16 : decode cX3_letterAt 16 = .ok (.iload_n 1, 1) := by decide +kernel
theorem dX3_letterAt_17 : decode cX3_letterAt 17 = .ok (.caload, 1) := by decide +kernel
theorem dX3_letterAt_18 : decode cX3_letterAt 18 = .ok (.goto 4, 3) := by decide +kernel
theorem dX3_letterAt_21 : decode cX3_letterAt 21 = .ok (.iconst 0, 1) := by decide +kernel
theorem dX3_letterAt_22 : decode cX3_letterAt 22 = .ok (.ireturn, 1) := by decide +kernel
theorem dX3_figuresAt_0 : decode cX3_figuresAt 0 = .ok (.aload_n 0, 1) := by decide +kernel
theorem dX3_figuresAt_1 : decode cX3_figuresAt 1 = .ok (.iload_n 1, 1) := by decide +kernel
theorem dX3_figuresAt_2 : decode cX3_figuresAt 2 = .ok (.invokevirtual 19, 3) := by decide +kernel
theorem dX3_figuresAt_5 : decode cX3_figuresAt 5 = .ok (.invokestatic 23, 3) := by decide +kernel
theorem dX3_figuresAt_8 : decode cX3_figuresAt 8 = .ok (.ifCond .ne 5, 3) := by decide +kernel
theorem dX3_figuresAt_11 : decode cX3_figuresAt 11 = .ok (.iconst 0, 1) := by decide +kernel
theorem dX3_figuresAt_12 : decode cX3_figuresAt 12 = .ok (.ireturn, 1) := by decide +kernel
theorem dX3_figuresAt_13 : decode cX3_figuresAt 13 = .ok (.aload_n 0, 1) := by decide +kernel
theorem dX3_figuresAt_14 : decode cX3_figuresAt 14 = .ok (.iload_n 1, 1) := by decide +kernel
theorem dX3_figuresAt_15 : decode cX3_figuresAt 15 = .ok (.iconst 1, 1) := by decide +kernel
theorem dX3_figuresAt_16 : decode cX3_figuresAt 16 = .ok (.iadd, 1) := by decide +kernel
theorem dX3_figuresAt_17 : decode cX3_figuresAt 17 = .ok (.invokevirtual 19, 3) := by decide +kernel
theorem dX3_figuresAt_20 : decode cX3_figuresAt 20 = .ok (.invokestatic 23, 3) := by decide +kernel
theorem dX3_figuresAt_23 : decode cX3_figuresAt 23 = .ok (.ifCond .eq 7, 3) := by decide +kernel
theorem dX3_figuresAt_26 : decode cX3_figuresAt 26 = .ok (.iconst 2, 1) := by decide +kernel
theorem dX3_figuresAt_27 : decode cX3_figuresAt 27 = .ok (.goto 4, 3) := by decide +kernel
theorem dX3_figuresAt_30 : decode cX3_figuresAt 30 = .ok (.iconst 1, 1) := by decide +kernel
theorem dX3_figuresAt_31 : decode cX3_figuresAt 31 = .ok (.ireturn, 1) := by decide +kernel
theorem dX3_numberAt_0 : decode cX3_numberAt 0 = .ok (.iconst 0, 1) := by decide +kernel
theorem dX3_numberAt_1 : decode cX3_numberAt 1 = .ok (.istore_n 3, 1) := by decide +kernel
theorem dX3_numberAt_2 : decode cX3_numberAt 2 = .ok (.iload_n 1, 1) := by decide +kernel
theorem dX3_numberAt_3 : decode cX3_numberAt 3 = .ok (.istore 4, 2) := by decide +kernel
theorem dX3_numberAt_5 : decode cX3_numberAt 5 = .ok (.iload 4, 2) := by decide +kernel
theorem dX3_numberAt_7 : decode cX3_numberAt 7 = .ok (.iload_n 1, 1) := by decide +kernel
theorem dX3_numberAt_8 : decode cX3_numberAt 8 = .ok (.iload_n 2, 1) := by decide +kernel
theorem dX3_numberAt_9 : decode cX3_numberAt 9 = .ok (.iadd, 1) := by decide +kernel
theorem dX3_numberAt_10 : decode cX3_numberAt 10 = .ok (.if_icmp .ge 24, 3) := by decide +kernel
theorem dX3_numberAt_13 : decode cX3_numberAt 13 = .ok (.bipush 10, 2) := by decide +kernel
theorem dX3_numberAt_15 : decode cX3_numberAt 15 = .ok (.iload_n 3, 1) := by decide +kernel
theorem dX3_numberAt_16 : decode cX3_numberAt 16 = .ok (.imul, 1) := by decide +kernel
theorem dX3_numberAt_17 : decode cX3_numberAt 17 = .ok (.aload_n 0, 1) := by decide +kernel
theorem dX3_numberAt_18 : decode cX3_numberAt 18 = .ok (.iload 4, 2) := by decide +kernel
theorem dX3_numberAt_20 : decode cX3_numberAt 20 = .ok (.invokevirtual 19, 3) := by decide +kernel
theorem dX3_numberAt_23 : decode cX3_numberAt 23 = .ok (.iadd, 1) := by decide +kernel
theorem dX3_numberAt_24 : decode cX3_numberAt 24 = .ok (.bipush 48, 2) := by decide +kernel
theorem dX3_numberAt_26 : decode cX3_numberAt 26 = .ok (.isub, 1) := by decide +kernel
theorem dX3_numberAt_27 : decode cX3_numberAt 27 = .ok (.istore_n 3, 1) := by decide +kernel
theorem dX3_numberAt_28 : decode cX3_numberAt 28 = .ok (.iinc 4 1, 3) := by decide +kernel
theorem dX3_numberAt_31 : decode cX3_numberAt 31 = .ok (.goto (-26), 3) := by decide +kernel
theorem dX3_numberAt_34 : decode cX3_numberAt 34 = .ok (.iload_n 3, 1) := by decide +kernel
theorem dX3_numberAt_35 : decode cX3_numberAt 35 = .ok (.ireturn, 1) := by decide +kernel
theorem dX3_isFigure_0 : decode cX3_isFigure 0 = .ok (.iload_n 0, 1) := by decide +kernel
theorem dX3_isFigure_1 : decode cX3_isFigure 1 = .ok (.bipush 48, 2) := by decide +kernel
theorem dX3_isFigure_3 : decode cX3_isFigure 3 = .ok (.if_icmp .lt 13, 3) := by decide +kernel
theorem dX3_isFigure_6 : decode cX3_isFigure 6 = .ok (.iload_n 0, 1) := by decide +kernel
theorem dX3_isFigure_7 : decode cX3_isFigure 7 = .ok (.bipush 57, 2) := by decide +kernel
theorem dX3_isFigure_9 : decode cX3_isFigure 9 = .ok (.if_icmp .gt 7, 3) := by decide +kernel
theorem dX3_isFigure_12 : decode cX3_isFigure 12 = .ok (.iconst 1, 1) := by decide +kernel
theorem dX3_isFigure_13 : decode cX3_isFigure 13 = .ok (.goto 4, 3) := by decide +kernel
theorem dX3_isFigure_16 : decode cX3_isFigure 16 = .ok (.iconst 0, 1) := by decide +kernel
theorem dX3_isFigure_17 : decode cX3_isFigure 17 = .ok (.ireturn, 1) := by decide +kernel
theorem dX4_init_0 : decode cX4_init 0 = .ok (.aload_n 0, 1) := by decide +kernel
theorem dX4_init_1 : decode cX4_init 1 = .ok (.invokespecial 3, 3) := by decide +kernel
theorem dX4_init_4 : decode cX4_init 4 = .ok (.aload_n 0, 1) := by decide +kernel
theorem dX4_init_5 : decode cX4_init 5 = .ok (.new 9, 3) := by decide +kernel
theorem dX4_init_8 : decode cX4_init 8 = .ok (.dup, 1) := by decide +kernel
theorem dX4_init_9 : decode cX4_init 9 = .ok (.invokespecial 11, 3) := by decide +kernel
theorem dX4_init_12 : decode cX4_init 12 = .ok (.putfield 12, 3) := by decide +kernel
theorem dX4_init_15 : decode cX4_init 15 = .ok (.aload_n 0, 1) := by decide +kernel
theorem dX4_init_16 : decode cX4_init 16 = .ok (.new 18, 3) := by decide +kernel
theorem dX4_init_19 : decode cX4_init 19 = .ok (.dup, 1) := by decide +kernel
theorem dX4_init_20 : decode cX4_init 20 = .ok (.invokespecial 20, 3) := by decide +kernel
theorem dX4_init_23 : decode cX4_init 23 = .ok (.putfield 21, 3) := by decide +kernel
theorem dX4_init_26 : decode cX4_init 26 = .ok (.aload_n 0, 1) := by decide +kernel
theorem dX4_init_27 : decode cX4_init 27 = .ok (.new 25, 3) := by decide +kernel
theorem dX4_init_30 : decode cX4_init 30 = .ok (.dup, 1) := by decide +kernel
theorem dX4_init_31 : decode cX4_init 31 = .ok (.invokespecial 27, 3) := by decide +kernel
theorem dX4_init_34 : decode cX4_init 34 = .ok (.putfield 28, 3) := by decide +kernel
theorem dX4_init_37 : decode cX4_init 37 = .ok (.return_, 1) := by decide +kernel
theorem dX4_layOut_0 : decode cX4_layOut 0 = .ok (.aload_n 0, 1) := by decide +kernel
theorem dX4_layOut_1 : decode cX4_layOut 1 = .ok (.aload_n 1, 1) := by decide +kernel
theorem dX4_layOut_2 : decode cX4_layOut 2 = .ok (.putfield 12, 3) := by decide +kernel
theorem dX4_layOut_5 : decode cX4_layOut 5 = .ok (.aload_n 0, 1) := by decide +kernel
theorem dX4_layOut_6 : decode cX4_layOut 6 = .ok (.getfield 21, 3) := by decide +kernel
theorem dX4_layOut_9 : decode cX4_layOut 9 = .ok (.aload_n 1, 1) := by decide +kernel
theorem dX4_layOut_10 : decode cX4_layOut 10 = .ok (.invokevirtual 32, 3) := by decide +kernel
theorem dX4_layOut_13 : decode cX4_layOut 13 = .ok (.aload_n 0, 1) := by decide +kernel
theorem dX4_layOut_14 : decode cX4_layOut 14 = .ok (.getfield 28, 3) := by decide +kernel
theorem dX4_layOut_17 : decode cX4_layOut 17 = .ok (.invokevirtual 36, 3) := by decide +kernel
theorem dX4_layOut_20 : decode cX4_layOut 20 = .ok (.return_, 1) := by decide +kernel
theorem dX4_windowSize_0 : decode cX4_windowSize 0 = .ok (.bipush 6, 2) := by decide +kernel
theorem dX4_windowSize_2 : decode cX4_windowSize 2 = .ok (.aload_n 0, 1) := by decide +kernel
theorem dX4_windowSize_3 : decode cX4_windowSize 3 = .ok (.getfield 21, 3) := by decide +kernel
theorem dX4_windowSize_6 : decode cX4_windowSize 6 = .ok (.getfield 39, 3) := by decide +kernel
theorem dX4_windowSize_9 : decode cX4_windowSize 9 = .ok (.iload_n 1, 1) := by decide +kernel
theorem dX4_windowSize_10 : decode cX4_windowSize 10 = .ok (.isub, 1) := by decide +kernel
theorem dX4_windowSize_11 : decode cX4_windowSize 11 = .ok (.invokestatic 43, 3) := by decide +kernel
theorem dX4_windowSize_14 : decode cX4_windowSize 14 = .ok (.ireturn, 1) := by decide +kernel
theorem dX4_contactBits_0 : decode cX4_contactBits 0 = .ok (.iconst 0, 1) := by decide +kernel
theorem dX4_contactBits_1 : decode cX4_contactBits 1 = .ok (.istore_n 1, 1) := by decide +kernel
theorem dX4_contactBits_2 : decode cX4_contactBits 2 = .ok (.iconst 0, 1) := by decide +kernel
theorem dX4_contactBits_3 : decode cX4_contactBits 3 = .ok (.istore_n 2, 1) := by decide +kernel
theorem dX4_contactBits_4 : decode cX4_contactBits 4 = .ok (.iload_n 2, 1) := by decide +kernel
theorem dX4_contactBits_5 : decode cX4_contactBits 5 = .ok (.aload_n 0, 1) := by decide +kernel
theorem dX4_contactBits_6 : decode cX4_contactBits 6 = .ok (.getfield 21, 3) := by decide +kernel
theorem dX4_contactBits_9 : decode cX4_contactBits 9 = .ok (.getfield 39, 3) := by decide +kernel
theorem dX4_contactBits_12 : decode cX4_contactBits 12 = .ok (.if_icmp .ge 28, 3) := by decide +kernel
theorem dX4_contactBits_15 : decode cX4_contactBits 15 = .ok (.aload_n 0, 1) := by decide +kernel
theorem dX4_contactBits_16 : decode cX4_contactBits 16 = .ok (.getfield 28, 3) := by decide +kernel
theorem dX4_contactBits_19 : decode cX4_contactBits 19 = .ok (.getfield 49, 3) := by decide +kernel
theorem dX4_contactBits_22 : decode cX4_contactBits 22 = .ok (.iload_n 2, 1) := by decide +kernel
theorem dX4_contactBits_23 : decode cX4_contactBits 23 = .ok (.iaload, 1) := by decide +kernel
theorem dX4_contactBits_24 : decode cX4_contactBits 24 = .ok (.iconst (-1), 1) := by decide +kernel
theorem dX4_contactBits_25 : decode cX4_contactBits 25 = .ok (.if_icmp .eq 9, 3) := by decide +kernel
theorem dX4_contactBits_28 : decode cX4_contactBits 28 = .ok (.iload_n 1, 1) := by decide +kernel
theorem dX4_contactBits_29 : decode cX4_contactBits 29 = .ok (.iconst 1, 1) := by decide +kernel
theorem dX4_contactBits_30 : decode cX4_contactBits 30 = .ok (.iload_n 2, 1) := by decide +kernel
theorem dX4_contactBits_31 : decode cX4_contactBits 31 = .ok (.ishl, 1) := by decide +kernel
theorem dX4_contactBits_32 : decode cX4_contactBits 32 = .ok (.ior, 1) := by decide +kernel
theorem dX4_contactBits_33 : decode cX4_contactBits 33 = .ok (.istore_n 1, 1) := by decide +kernel
theorem dX4_contactBits_34 : decode cX4_contactBits 34 = .ok (.iinc 2 1, 3) := by decide +kernel
theorem dX4_contactBits_37 : decode cX4_contactBits 37 = .ok (.goto (-33), 3) := by decide +kernel
theorem dX4_contactBits_40 : decode cX4_contactBits 40 = .ok (.iload_n 1, 1) := by decide +kernel
theorem dX4_contactBits_41 : decode cX4_contactBits 41 = .ok (.ireturn, 1) := by decide +kernel
theorem dX4_volumeOf_0 : decode cX4_volumeOf 0 = .ok (.iconst 0, 1) := by decide +kernel
theorem dX4_volumeOf_1 : decode cX4_volumeOf 1 = .ok (.istore_n 2, 1) := by decide +kernel
theorem dX4_volumeOf_2 : decode cX4_volumeOf 2 = .ok (.iconst 0, 1) := by decide +kernel
theorem dX4_volumeOf_3 : decode cX4_volumeOf 3 = .ok (.istore_n 3, 1) := by decide +kernel
theorem dX4_volumeOf_4 : decode cX4_volumeOf 4 = .ok (.iload_n 3, 1) := by decide +kernel
theorem dX4_volumeOf_5 : decode cX4_volumeOf 5 = .ok (.aload_n 0, 1) := by decide +kernel
theorem dX4_volumeOf_6 : decode cX4_volumeOf 6 = .ok (.getfield 21, 3) := by decide +kernel
theorem dX4_volumeOf_9 : decode cX4_volumeOf 9 = .ok (.getfield 39, 3) := by decide +kernel
theorem dX4_volumeOf_12 : decode cX4_volumeOf 12 = .ok (.if_icmp .ge 29, 3) := by decide +kernel
theorem dX4_volumeOf_15 : decode cX4_volumeOf 15 = .ok (.iload_n 1, 1) := by decide +kernel
theorem dX4_volumeOf_16 : decode cX4_volumeOf 16 = .ok (.iload_n 3, 1) := by decide +kernel
theorem dX4_volumeOf_17 : decode cX4_volumeOf 17 = .ok (.ishr, 1) := by decide +kernel
theorem dX4_volumeOf_18 : decode cX4_volumeOf 18 = .ok (.iconst 1, 1) := by decide +kernel
theorem dX4_volumeOf_19 : decode cX4_volumeOf 19 = .ok (.iand, 1) := by decide +kernel
theorem dX4_volumeOf_20 : decode cX4_volumeOf 20 = .ok (.ifCond .eq 15, 3) := by decide +kernel
theorem dX4_volumeOf_23 : decode cX4_volumeOf 23 = .ok (.iload_n 2, 1) := by decide +kernel
theorem dX4_volumeOf_24 : decode cX4_volumeOf 24 = .ok (.aload_n 0, 1) := by decide +kernel
theorem dX4_volumeOf_25 : decode cX4_volumeOf 25 = .ok (.getfield 21, 3) := by decide +kernel
theorem dX4_volumeOf_28 : decode cX4_volumeOf 28 = .ok (.getfield 53, 3) := by decide +kernel
theorem dX4_volumeOf_31 : decode cX4_volumeOf 31 = .ok (.iload_n 3, 1) := by decide +kernel
theorem dX4_volumeOf_32 : decode cX4_volumeOf 32 = .ok (.iaload, 1) := by decide +kernel
theorem dX4_volumeOf_33 : decode cX4_volumeOf 33 = .ok (.iadd, 1) := by decide +kernel
theorem dX4_volumeOf_34 : decode cX4_volumeOf 34 = .ok (.istore_n 2, 1) := by decide +kernel
theorem dX4_volumeOf_35 : decode cX4_volumeOf 35 = .ok (.iinc 3 1, 3) := by decide +kernel
theorem dX4_volumeOf_38 : decode cX4_volumeOf 38 = .ok (.goto (-34), 3) := by decide +kernel
theorem dX4_volumeOf_41 : decode cX4_volumeOf 41 = .ok (.iload_n 2, 1) := by decide +kernel
theorem dX4_volumeOf_42 : decode cX4_volumeOf 42 = .ok (.ireturn, 1) := by decide +kernel
theorem dX4_passesOfSat_0 : decode cX4_passesOfSat 0 = .ok (.iconst 0, 1) := by decide +kernel
theorem dX4_passesOfSat_1 : decode cX4_passesOfSat 1 = .ok (.istore_n 2, 1) := by decide +kernel
theorem dX4_passesOfSat_2 : decode cX4_passesOfSat 2 = .ok (.iconst 0, 1) := by decide +kernel
theorem dX4_passesOfSat_3 : decode cX4_passesOfSat 3 = .ok (.istore_n 3, 1) := by decide +kernel
theorem dX4_passesOfSat_4 : decode cX4_passesOfSat 4 = .ok (.iload_n 3, 1) := by decide +kernel
theorem dX4_passesOfSat_5 : decode cX4_passesOfSat 5 = .ok (.aload_n 0, 1) := by decide +kernel
theorem dX4_passesOfSat_6 : decode cX4_passesOfSat 6 = .ok (.getfield 21, 3) := by decide +kernel
theorem dX4_passesOfSat_9 : decode cX4_passesOfSat 9 = .ok (.getfield 39, 3) := by decide +kernel
theorem dX4_passesOfSat_12 : decode cX4_passesOfSat 12 = .ok (.if_icmp .ge 30, 3) := by decide +kernel
theorem dX4_passesOfSat_15 : decode cX4_passesOfSat 15 = .ok (.iload_n 2, 1) := by decide +kernel
theorem dX4_passesOfSat_16 : decode cX4_passesOfSat 16 = .ok (.aload_n 0, 1) := by decide +kernel
theorem dX4_passesOfSat_17 : decode cX4_passesOfSat 17 = .ok (.getfield 21, 3) := by decide +kernel
theorem dX4_passesOfSat_20 : decode cX4_passesOfSat 20 = .ok (.getfield 56, 3) := by decide +kernel
theorem dX4_passesOfSat_23 : decode cX4_passesOfSat 23 = .ok (.iload_n 3, 1) := by decide +kernel
theorem dX4_passesOfSat_24 : decode cX4_passesOfSat 24 = .ok (.iaload, 1) := by decide +kernel
theorem dX4_passesOfSat_25 : decode cX4_passesOfSat 25 = .ok (.iload_n 1, 1) := by decide +kernel
theorem dX4_passesOfSat_26 : decode cX4_passesOfSat 26 = .ok (.if_icmp .ne 7, 3) := by decide +kernel
theorem dX4_passesOfSat_29 : decode cX4_passesOfSat 29 = .ok (.iconst 1, 1) := by decide +kernel
theorem dX4_passesOfSat_30 : decode cX4_passesOfSat 30 = .ok (.goto 4, 3) := by decide +kernel
theorem dX4_passesOfSat_33 : decode cX4_passesOfSat 33 = .ok (.iconst 0, 1) := by decide +kernel
theorem dX4_passesOfSat_34 : decode cX4_passesOfSat 34 = .ok (.iadd, 1) := by decide +kernel
theorem dX4_passesOfSat_35 : decode cX4_passesOfSat 35 = .ok (.istore_n 2, 1) := by decide +kernel
theorem dX4_passesOfSat_36 : decode cX4_passesOfSat 36 = .ok (.iinc 3 1, 3) := by decide +kernel
theorem dX4_passesOfSat_39 : decode cX4_passesOfSat 39 = .ok (.goto (-35), 3) := by decide +kernel
theorem dX4_passesOfSat_42 : decode cX4_passesOfSat 42 = .ok (.iload_n 2, 1) := by decide +kernel
theorem dX4_passesOfSat_43 : decode cX4_passesOfSat 43 = .ok (.ireturn, 1) := by decide +kernel
theorem dX4_contactsOfSat_0 : decode cX4_contactsOfSat 0 = .ok (.iconst 0, 1) := by decide +kernel
theorem dX4_contactsOfSat_1 : decode cX4_contactsOfSat 1 = .ok (.istore_n 2, 1) := by decide +kernel
theorem dX4_contactsOfSat_2 : decode cX4_contactsOfSat 2 = .ok (.iconst 0, 1) := by decide +kernel
theorem dX4_contactsOfSat_3 : decode cX4_contactsOfSat 3 = .ok (.istore_n 3, 1) := by decide +kernel
theorem dX4_contactsOfSat_4 : decode cX4_contactsOfSat 4 = .ok (.iload_n 3, 1) := by decide +kernel
theorem dX4_contactsOfSat_5 : decode cX4_contactsOfSat 5 = .ok (.aload_n 0, 1) := by decide +kernel
theorem dX4_contactsOfSat_6 : decode cX4_contactsOfSat 6 = .ok (.getfield 21, 3) := by decide +kernel
theorem dX4_contactsOfSat_9 : decode cX4_contactsOfSat 9 = .ok (.getfield 39, 3) := by decide +kernel
theorem dX4_contactsOfSat_12 : decode cX4_contactsOfSat 12 = .ok (.if_icmp .ge 43, 3) := by decide +kernel
theorem dX4_contactsOfSat_15 : decode cX4_contactsOfSat 15 = .ok (.iload_n 2, 1) := by decide +kernel
theorem dX4_contactsOfSat_16 : decode cX4_contactsOfSat 16 = .ok (.aload_n 0, 1) := by decide +kernel
theorem dX4_contactsOfSat_17 : decode cX4_contactsOfSat 17 = .ok (.getfield 21, 3) := by decide +kernel
theorem dX4_contactsOfSat_20 : decode cX4_contactsOfSat 20 = .ok (.getfield 56, 3) := by decide +kernel
theorem dX4_contactsOfSat_23 : decode cX4_contactsOfSat 23 = .ok (.iload_n 3, 1) := by decide +kernel
theorem dX4_contactsOfSat_24 : decode cX4_contactsOfSat 24 = .ok (.iaload, 1) := by decide +kernel
theorem dX4_contactsOfSat_25 : decode cX4_contactsOfSat 25 = .ok (.iload_n 1, 1) := by decide +kernel
theorem dX4_contactsOfSat_26 : decode cX4_contactsOfSat 26 = .ok (.if_icmp .ne 20, 3) := by decide +kernel
theorem dX4_contactsOfSat_29 : decode cX4_contactsOfSat 29 = .ok (.aload_n 0, 1) := by decide +kernel
theorem dX4_contactsOfSat_30 : decode cX4_contactsOfSat 30 = .ok (.getfield 28, 3) := by decide +kernel
theorem dX4_contactsOfSat_33 : decode cX4_contactsOfSat 33 = .ok (.getfield 49, 3) := by decide +kernel
theorem dX4_contactsOfSat_36 : decode cX4_contactsOfSat 36 = .ok (.iload_n 3, 1) := by decide +kernel
theorem dX4_contactsOfSat_37 : decode cX4_contactsOfSat 37 = .ok (.iaload, 1) := by decide +kernel
theorem dX4_contactsOfSat_38 : decode cX4_contactsOfSat 38 = .ok (.iconst (-1), 1) := by decide +kernel
theorem dX4_contactsOfSat_39 : decode cX4_contactsOfSat 39 = .ok (.if_icmp .eq 7, 3) := by decide +kernel
theorem dX4_contactsOfSat_42 : decode cX4_contactsOfSat 42 = .ok (.iconst 1, 1) := by decide +kernel
theorem dX4_contactsOfSat_43 : decode cX4_contactsOfSat 43 = .ok (.goto 4, 3) := by decide +kernel
theorem dX4_contactsOfSat_46 : decode cX4_contactsOfSat 46 = .ok (.iconst 0, 1) := by decide +kernel
theorem dX4_contactsOfSat_47 : decode cX4_contactsOfSat 47 = .ok (.iadd, 1) := by decide +kernel
theorem dX4_contactsOfSat_48 : decode cX4_contactsOfSat 48 = .ok (.istore_n 2, 1) := by decide +kernel
theorem dX4_contactsOfSat_49 : decode cX4_contactsOfSat 49 = .ok (.iinc 3 1, 3) := by decide +kernel
theorem dX4_contactsOfSat_52 : decode cX4_contactsOfSat 52 = .ok (.goto (-48), 3) := by decide +kernel
theorem dX4_contactsOfSat_55 : decode cX4_contactsOfSat 55 = .ok (.iload_n 2, 1) := by decide +kernel
theorem dX4_contactsOfSat_56 : decode cX4_contactsOfSat 56 = .ok (.ireturn, 1) := by decide +kernel
theorem dX4_contactsOfAntenna_0 : decode cX4_contactsOfAntenna 0 = .ok (.iconst 0, 1) := by decide +kernel
theorem dX4_contactsOfAntenna_1 : decode cX4_contactsOfAntenna 1 = .ok (.istore_n 2, 1) := by decide +kernel
theorem dX4_contactsOfAntenna_2 : decode cX4_contactsOfAntenna 2 = .ok (.iconst 0, 1) := by decide +kernel
theorem dX4_contactsOfAntenna_3 : decode cX4_contactsOfAntenna 3 = .ok (.istore_n 3, 1) := by decide +kernel
theorem dX4_contactsOfAntenna_4 : decode cX4_contactsOfAntenna 4 = .ok (.iload_n 3, 1) := by decide +kernel
theorem dX4_contactsOfAntenna_5 : decode cX4_contactsOfAntenna 5 = .ok (.aload_n 0, 1) := by decide +kernel
theorem dX4_contactsOfAntenna_6 : decode cX4_contactsOfAntenna 6 = .ok (.getfield 21, 3) := by decide +kernel
theorem dX4_contactsOfAntenna_9 : decode cX4_contactsOfAntenna 9 = .ok (.getfield 39, 3) := by decide +kernel
theorem dX4_contactsOfAntenna_12 : decode cX4_contactsOfAntenna 12 = .ok (.if_icmp .ge 30, 3) := by decide +kernel
theorem dX4_contactsOfAntenna_15 : decode cX4_contactsOfAntenna 15 = .ok (.iload_n 2, 1) := by decide +kernel
theorem dX4_contactsOfAntenna_16 : decode cX4_contactsOfAntenna 16 = .ok (.aload_n 0, 1) := by decide +kernel
theorem dX4_contactsOfAntenna_17 : decode cX4_contactsOfAntenna 17 = .ok (.getfield 28, 3) := by decide +kernel
theorem dX4_contactsOfAntenna_20 : decode cX4_contactsOfAntenna 20 = .ok (.getfield 49, 3) := by decide +kernel
theorem dX4_contactsOfAntenna_23 : decode cX4_contactsOfAntenna 23 = .ok (.iload_n 3, 1) := by decide +kernel
theorem dX4_contactsOfAntenna_24 : decode cX4_contactsOfAntenna 24 = .ok (.iaload, 1) := by decide +kernel
theorem dX4_contactsOfAntenna_25 : decode cX4_contactsOfAntenna 25 = .ok (.iload_n 1, 1) := by decide +kernel
theorem dX4_contactsOfAntenna_26 : decode cX4_contactsOfAntenna 26 = .ok (.if_icmp .ne 7, 3) := by decide +kernel
theorem dX4_contactsOfAntenna_29 : decode cX4_contactsOfAntenna 29 = .ok (.iconst 1, 1) := by decide +kernel
theorem dX4_contactsOfAntenna_30 : decode cX4_contactsOfAntenna 30 = .ok (.goto 4, 3) := by decide +kernel
theorem dX4_contactsOfAntenna_33 : decode cX4_contactsOfAntenna 33 = .ok (.iconst 0, 1) := by decide +kernel
theorem dX4_contactsOfAntenna_34 : decode cX4_contactsOfAntenna 34 = .ok (.iadd, 1) := by decide +kernel
theorem dX4_contactsOfAntenna_35 : decode cX4_contactsOfAntenna 35 = .ok (.istore_n 2, 1) := by decide +kernel
theorem dX4_contactsOfAntenna_36 : decode cX4_contactsOfAntenna 36 = .ok (.iinc 3 1, 3) := by decide +kernel
theorem dX4_contactsOfAntenna_39 : decode cX4_contactsOfAntenna 39 = .ok (.goto (-35), 3) := by decide +kernel
theorem dX4_contactsOfAntenna_42 : decode cX4_contactsOfAntenna 42 = .ok (.iload_n 2, 1) := by decide +kernel
theorem dX4_contactsOfAntenna_43 : decode cX4_contactsOfAntenna 43 = .ok (.ireturn, 1) := by decide +kernel
theorem dX4_busySlotsOfAntenna_0 : decode cX4_busySlotsOfAntenna 0 = .ok (.iconst 0, 1) := by decide +kernel
theorem dX4_busySlotsOfAntenna_1 : decode cX4_busySlotsOfAntenna 1 = .ok (.istore_n 2, 1) := by decide +kernel
theorem dX4_busySlotsOfAntenna_2 : decode cX4_busySlotsOfAntenna 2 = .ok (.iconst 0, 1) := by decide +kernel
theorem dX4_busySlotsOfAntenna_3 : decode cX4_busySlotsOfAntenna 3 = .ok (.istore_n 3, 1) := by decide +kernel
theorem dX4_busySlotsOfAntenna_4 : decode cX4_busySlotsOfAntenna 4 = .ok (.iload_n 3, 1) := by decide +kernel
theorem dX4_busySlotsOfAntenna_5 : decode cX4_busySlotsOfAntenna 5 = .ok (.aload_n 0, 1) := by decide +kernel
theorem dX4_busySlotsOfAntenna_6 : decode cX4_busySlotsOfAntenna 6 = .ok (.getfield 21, 3) := by decide +kernel
theorem dX4_busySlotsOfAntenna_9 : decode cX4_busySlotsOfAntenna 9 = .ok (.getfield 39, 3) := by decide +kernel
theorem dX4_busySlotsOfAntenna_12 : decode cX4_busySlotsOfAntenna 12 = .ok (.if_icmp .ge 50, 3) := by decide +kernel
theorem dX4_busySlotsOfAntenna_15 : decode cX4_busySlotsOfAntenna 15 = .ok (.iload_n 2, 1) := by decide +kernel
theorem dX4_busySlotsOfAntenna_16 : decode cX4_busySlotsOfAntenna 16 = .ok (.aload_n 0, 1) := by decide +kernel
theorem dX4_busySlotsOfAntenna_17 : decode cX4_busySlotsOfAntenna 17 = .ok (.getfield 28, 3) := by decide +kernel
theorem dX4_busySlotsOfAntenna_20 : decode cX4_busySlotsOfAntenna 20 = .ok (.getfield 49, 3) := by decide +kernel
theorem dX4_busySlotsOfAntenna_23 : decode cX4_busySlotsOfAntenna 23 = .ok (.iload_n 3, 1) := by decide +kernel
theorem dX4_busySlotsOfAntenna_24 : decode cX4_busySlotsOfAntenna 24 = .ok (.iaload, 1) := by decide +kernel
theorem dX4_busySlotsOfAntenna_25 : decode cX4_busySlotsOfAntenna 25 = .ok (.iload_n 1, 1) := by decide +kernel
theorem dX4_busySlotsOfAntenna_26 : decode cX4_busySlotsOfAntenna 26 = .ok (.if_icmp .ne 27, 3) := by decide +kernel
theorem dX4_busySlotsOfAntenna_29 : decode cX4_busySlotsOfAntenna 29 = .ok (.aload_n 0, 1) := by decide +kernel
theorem dX4_busySlotsOfAntenna_30 : decode cX4_busySlotsOfAntenna 30 = .ok (.getfield 21, 3) := by decide +kernel
theorem dX4_busySlotsOfAntenna_33 : decode cX4_busySlotsOfAntenna 33 = .ok (.getfield 59, 3) := by decide +kernel
theorem dX4_busySlotsOfAntenna_36 : decode cX4_busySlotsOfAntenna 36 = .ok (.iload_n 3, 1) := by decide +kernel
theorem dX4_busySlotsOfAntenna_37 : decode cX4_busySlotsOfAntenna 37 = .ok (.iaload, 1) := by decide +kernel
theorem dX4_busySlotsOfAntenna_38 : decode cX4_busySlotsOfAntenna 38 = .ok (.aload_n 0, 1) := by decide +kernel
theorem dX4_busySlotsOfAntenna_39 : decode cX4_busySlotsOfAntenna 39 = .ok (.getfield 21, 3) := by decide +kernel
theorem dX4_busySlotsOfAntenna_42 : decode cX4_busySlotsOfAntenna 42 = .ok (.getfield 62, 3) := by decide +kernel
theorem dX4_busySlotsOfAntenna_45 : decode cX4_busySlotsOfAntenna 45 = .ok (.iload_n 3, 1) := by decide +kernel
theorem dX4_busySlotsOfAntenna_46 : decode cX4_busySlotsOfAntenna 46 = .ok (.iaload, 1) := by decide +kernel
theorem dX4_busySlotsOfAntenna_47 : decode cX4_busySlotsOfAntenna 47 = .ok (.isub, 1) := by decide +kernel
theorem dX4_busySlotsOfAntenna_48 : decode cX4_busySlotsOfAntenna 48 = .ok (.iconst 1, 1) := by decide +kernel
theorem dX4_busySlotsOfAntenna_49 : decode cX4_busySlotsOfAntenna 49 = .ok (.iadd, 1) := by decide +kernel
theorem dX4_busySlotsOfAntenna_50 : decode cX4_busySlotsOfAntenna 50 = .ok (.goto 4, 3) := by decide +kernel
theorem dX4_busySlotsOfAntenna_53 : decode cX4_busySlotsOfAntenna 53 = .ok (.iconst 0, 1) := by decide +kernel
theorem dX4_busySlotsOfAntenna_54 : decode cX4_busySlotsOfAntenna 54 = .ok (.iadd, 1) := by decide +kernel
theorem dX4_busySlotsOfAntenna_55 : decode cX4_busySlotsOfAntenna 55 = .ok (.istore_n 2, 1) := by decide +kernel
theorem dX4_busySlotsOfAntenna_56 : decode cX4_busySlotsOfAntenna 56 = .ok (.iinc 3 1, 3) := by decide +kernel
theorem dX4_busySlotsOfAntenna_59 : decode cX4_busySlotsOfAntenna 59 = .ok (.goto (-55), 3) := by decide +kernel
theorem dX4_busySlotsOfAntenna_62 : decode cX4_busySlotsOfAntenna 62 = .ok (.iload_n 2, 1) := by decide +kernel
theorem dX4_busySlotsOfAntenna_63 : decode cX4_busySlotsOfAntenna 63 = .ok (.ireturn, 1) := by decide +kernel
theorem dX4_fits_0 : decode cX4_fits 0 = .ok (.aload_n 0, 1) := by decide +kernel
theorem dX4_fits_1 : decode cX4_fits 1 = .ok (.getfield 12, 3) := by decide +kernel
theorem dX4_fits_4 : decode cX4_fits 4 = .ok (.getfield 65, 3) := by decide +kernel
theorem dX4_fits_7 : decode cX4_fits 7 = .ok (.iload_n 2, 1) := by decide +kernel
theorem dX4_fits_8 : decode cX4_fits 8 = .ok (.iconst 0, 1) := by decide +kernel
theorem dX4_fits_9 : decode cX4_fits 9 = .ok (.invokevirtual 69, 3) := by decide +kernel
theorem dX4_fits_12 : decode cX4_fits 12 = .ok (.aload_n 0, 1) := by decide +kernel
theorem dX4_fits_13 : decode cX4_fits 13 = .ok (.getfield 21, 3) := by decide +kernel
theorem dX4_fits_16 : decode cX4_fits 16 = .ok (.getfield 74, 3) := by decide +kernel
theorem dX4_fits_19 : decode cX4_fits 19 = .ok (.iload_n 1, 1) := by decide +kernel
theorem dX4_fits_20 : decode cX4_fits 20 = .ok (.iaload, 1) := by decide +kernel
theorem dX4_fits_21 : decode cX4_fits 21 = .ok (.if_icmp .ne 23, 3) := by decide +kernel
theorem dX4_fits_24 : decode cX4_fits 24 = .ok (.aload_n 0, 1) := by decide +kernel
theorem dX4_fits_25 : decode cX4_fits 25 = .ok (.getfield 12, 3) := by decide +kernel
theorem dX4_fits_28 : decode cX4_fits 28 = .ok (.iload_n 2, 1) := by decide +kernel
theorem dX4_fits_29 : decode cX4_fits 29 = .ok (.aload_n 0, 1) := by decide +kernel
theorem dX4_fits_30 : decode cX4_fits 30 = .ok (.getfield 21, 3) := by decide +kernel
theorem dX4_fits_33 : decode cX4_fits 33 = .ok (.getfield 56, 3) := by decide +kernel
theorem dX4_fits_36 : decode cX4_fits 36 = .ok (.iload_n 1, 1) := by decide +kernel
theorem dX4_fits_37 : decode cX4_fits 37 = .ok (.iaload, 1) := by decide +kernel
theorem dX4_fits_38 : decode cX4_fits 38 = .ok (.invokevirtual 77, 3) := by decide +kernel
theorem dX4_fits_41 : decode cX4_fits 41 = .ok (.ifCond .ne 5, 3) := by decide +kernel
theorem dX4_fits_44 : decode cX4_fits 44 = .ok (.iconst 0, 1) := by decide +kernel
theorem dX4_fits_45 : decode cX4_fits 45 = .ok (.ireturn, 1) := by decide +kernel
theorem dX4_fits_46 : decode cX4_fits 46 = .ok (.aload_n 0, 1) := by decide +kernel
theorem dX4_fits_47 : decode cX4_fits 47 = .ok (.getfield 28, 3) := by decide +kernel
theorem dX4_fits_50 : decode cX4_fits 50 = .ok (.iload_n 2, 1) := by decide +kernel
theorem dX4_fits_51 : decode cX4_fits 51 = .ok (.invokevirtual 81, 3) := by decide +kernel
theorem dX4_fits_54 : decode cX4_fits 54 = .ok (.ifCond .eq 45, 3) := by decide +kernel
theorem dX4_fits_57 : decode cX4_fits 57 = .ok (.aload_n 0, 1) := by decide +kernel
theorem dX4_fits_58 : decode cX4_fits 58 = .ok (.getfield 28, 3) := by decide +kernel
theorem dX4_fits_61 : decode cX4_fits 61 = .ok (.getfield 85, 3) := by decide +kernel
theorem dX4_fits_64 : decode cX4_fits 64 = .ok (.iload_n 2, 1) := by decide +kernel
theorem dX4_fits_65 : decode cX4_fits 65 = .ok (.iaload, 1) := by decide +kernel
theorem dX4_fits_66 : decode cX4_fits 66 = .ok (.aload_n 0, 1) := by decide +kernel
theorem dX4_fits_67 : decode cX4_fits 67 = .ok (.getfield 21, 3) := by decide +kernel
theorem dX4_fits_70 : decode cX4_fits 70 = .ok (.getfield 62, 3) := by decide +kernel
theorem dX4_fits_73 : decode cX4_fits 73 = .ok (.iload_n 1, 1) := by decide +kernel
theorem dX4_fits_74 : decode cX4_fits 74 = .ok (.iaload, 1) := by decide +kernel
theorem dX4_fits_75 : decode cX4_fits 75 = .ok (.if_icmp .lt 24, 3) := by decide +kernel
theorem dX4_fits_78 : decode cX4_fits 78 = .ok (.aload_n 0, 1) := by decide +kernel
theorem dX4_fits_79 : decode cX4_fits 79 = .ok (.getfield 28, 3) := by decide +kernel
theorem dX4_fits_82 : decode cX4_fits 82 = .ok (.getfield 88, 3) := by decide +kernel
theorem dX4_fits_85 : decode cX4_fits 85 = .ok (.iload_n 2, 1) := by decide +kernel
theorem dX4_fits_86 : decode cX4_fits 86 = .ok (.iaload, 1) := by decide +kernel
theorem dX4_fits_87 : decode cX4_fits 87 = .ok (.aload_n 0, 1) := by decide +kernel
theorem dX4_fits_88 : decode cX4_fits 88 = .ok (.getfield 21, 3) := by decide +kernel
theorem dX4_fits_91 : decode cX4_fits 91 = .ok (.getfield 59, 3) := by decide +kernel
theorem dX4_fits_94 : decode cX4_fits 94 = .ok (.iload_n 1, 1) := by decide +kernel
theorem dX4_fits_95 : decode cX4_fits 95 = .ok (.iaload, 1) := by decide +kernel
theorem dX4_fits_96 : decode cX4_fits 96 = .ok (.if_icmp .le 7, 3) := by decide +kernel
theorem dX4_fits_99 : decode cX4_fits 99 = .ok (.iconst 1, 1) := by decide +kernel
theorem dX4_fits_100 : decode cX4_fits 100 = .ok (.goto 4, 3) := by decide +kernel
theorem dX4_fits_103 : decode cX4_fits 103 = .ok (.iconst 0, 1) := by decide +kernel
theorem dX4_fits_104 : decode cX4_fits 104 = .ok (.ireturn, 1) := by decide +kernel
theorem dX4_fittingAntennas_0 : decode cX4_fittingAntennas 0 = .ok (.iconst 0, 1) := by decide +kernel
theorem dX4_fittingAntennas_1 : decode cX4_fittingAntennas 1 = .ok (.istore_n 2, 1) := by decide +kernel
theorem dX4_fittingAntennas_2 : decode cX4_fittingAntennas 2 = .ok (.iconst 0, 1) := by decide +kernel
theorem dX4_fittingAntennas_3 : decode cX4_fittingAntennas 3 = .ok (.istore_n 3, 1) := by decide +kernel
theorem dX4_fittingAntennas_4 : decode cX4_fittingAntennas 4 = .ok (.iload_n 3, 1) := by decide +kernel
theorem dX4_fittingAntennas_5 : decode cX4_fittingAntennas 5 = .ok (.aload_n 0, 1) := by decide +kernel
theorem dX4_fittingAntennas_6 : decode cX4_fittingAntennas 6 = .ok (.getfield 12, 3) := by decide +kernel
theorem dX4_fittingAntennas_9 : decode cX4_fittingAntennas 9 = .ok (.getfield 65, 3) := by decide +kernel
theorem dX4_fittingAntennas_12 : decode cX4_fittingAntennas 12 = .ok (.getfield 91, 3) := by decide +kernel
theorem dX4_fittingAntennas_15 : decode cX4_fittingAntennas 15 = .ok (.if_icmp .ge 24, 3) := by decide +kernel
theorem dX4_fittingAntennas_18 : decode cX4_fittingAntennas 18 = .ok (.aload_n 0, 1) := by decide +kernel
theorem dX4_fittingAntennas_19 : decode cX4_fittingAntennas 19 = .ok (.iload_n 1, 1) := by decide +kernel
theorem dX4_fittingAntennas_20 : decode cX4_fittingAntennas 20 = .ok (.iload_n 3, 1) := by decide +kernel
theorem dX4_fittingAntennas_21 : decode cX4_fittingAntennas 21 = .ok (.invokevirtual 94, 3) := by decide +kernel
theorem dX4_fittingAntennas_24 : decode cX4_fittingAntennas 24 = .ok (.ifCond .eq 9, 3) := by decide +kernel
theorem dX4_fittingAntennas_27 : decode cX4_fittingAntennas 27 = .ok (.iload_n 2, 1) := by decide +kernel
theorem dX4_fittingAntennas_28 : decode cX4_fittingAntennas 28 = .ok (.iconst 1, 1) := by decide +kernel
theorem dX4_fittingAntennas_29 : decode cX4_fittingAntennas 29 = .ok (.iload_n 3, 1) := by decide +kernel
theorem dX4_fittingAntennas_30 : decode cX4_fittingAntennas 30 = .ok (.ishl, 1) := by decide +kernel
theorem dX4_fittingAntennas_31 : decode cX4_fittingAntennas 31 = .ok (.ior, 1) := by decide +kernel
theorem dX4_fittingAntennas_32 : decode cX4_fittingAntennas 32 = .ok (.istore_n 2, 1) := by decide +kernel
theorem dX4_fittingAntennas_33 : decode cX4_fittingAntennas 33 = .ok (.iinc 3 1, 3) := by decide +kernel
theorem dX4_fittingAntennas_36 : decode cX4_fittingAntennas 36 = .ok (.goto (-32), 3) := by decide +kernel
theorem dX4_fittingAntennas_39 : decode cX4_fittingAntennas 39 = .ok (.iload_n 2, 1) := by decide +kernel
theorem dX4_fittingAntennas_40 : decode cX4_fittingAntennas 40 = .ok (.ireturn, 1) := by decide +kernel
theorem dX4_goTogether_0 : decode cX4_goTogether 0 = .ok (.iload_n 1, 1) := by decide +kernel
theorem dX4_goTogether_1 : decode cX4_goTogether 1 = .ok (.iload_n 2, 1) := by decide +kernel
theorem dX4_goTogether_2 : decode cX4_goTogether 2 = .ok (.invokestatic 43, 3) := by decide +kernel
theorem dX4_goTogether_5 : decode cX4_goTogether 5 = .ok (.istore 4, 2) := by decide +kernel
theorem dX4_goTogether_7 : decode cX4_goTogether 7 = .ok (.iload_n 1, 1) := by decide +kernel
theorem dX4_goTogether_8 : decode cX4_goTogether 8 = .ok (.iload_n 2, 1) := by decide +kernel
theorem dX4_goTogether_9 : decode cX4_goTogether 9 = .ok (.invokestatic 97, 3) := by decide +kernel
theorem dX4_goTogether_12 : decode cX4_goTogether 12 = .ok (.istore 5, 2) := by decide +kernel
theorem dX4_goTogether_14 : decode cX4_goTogether 14 = .ok (.aload_n 0, 1) := by decide +kernel
theorem dX4_goTogether_15 : decode cX4_goTogether 15 = .ok (.getfield 21, 3) := by decide +kernel
theorem dX4_goTogether_18 : decode cX4_goTogether 18 = .ok (.getfield 62, 3) := by decide +kernel
theorem dX4_goTogether_21 : decode cX4_goTogether 21 = .ok (.iload 5, 2) := by decide +kernel
theorem dX4_goTogether_23 : decode cX4_goTogether 23 = .ok (.iaload, 1) := by decide +kernel
theorem dX4_goTogether_24 : decode cX4_goTogether 24 = .ok (.aload_n 0, 1) := by decide +kernel
theorem dX4_goTogether_25 : decode cX4_goTogether 25 = .ok (.getfield 21, 3) := by decide +kernel
theorem dX4_goTogether_28 : decode cX4_goTogether 28 = .ok (.getfield 59, 3) := by decide +kernel
theorem dX4_goTogether_31 : decode cX4_goTogether 31 = .ok (.iload 4, 2) := by decide +kernel
theorem dX4_goTogether_33 : decode cX4_goTogether 33 = .ok (.iaload, 1) := by decide +kernel
theorem dX4_goTogether_34 : decode cX4_goTogether 34 = .ok (.isub, 1) := by decide +kernel
theorem dX4_goTogether_35 : decode cX4_goTogether 35 = .ok (.aload_n 0, 1) := by decide +kernel
theorem dX4_goTogether_36 : decode cX4_goTogether 36 = .ok (.getfield 12, 3) := by decide +kernel
theorem dX4_goTogether_39 : decode cX4_goTogether 39 = .ok (.getfield 65, 3) := by decide +kernel
theorem dX4_goTogether_42 : decode cX4_goTogether 42 = .ok (.iload_n 3, 1) := by decide +kernel
theorem dX4_goTogether_43 : decode cX4_goTogether 43 = .ok (.iconst 2, 1) := by decide +kernel
theorem dX4_goTogether_44 : decode cX4_goTogether 44 = .ok (.invokevirtual 69, 3) := by decide +kernel
theorem dX4_goTogether_47 : decode cX4_goTogether 47 = .ok (.if_icmp .le 7, 3) := by decide +kernel
theorem dX4_goTogether_50 : decode cX4_goTogether 50 = .ok (.iconst 1, 1) := by decide +kernel
theorem dX4_goTogether_51 : decode cX4_goTogether 51 = .ok (.goto 4, 3) := by decide +kernel
theorem dX4_goTogether_54 : decode cX4_goTogether 54 = .ok (.iconst 0, 1) := by decide +kernel
theorem dX4_goTogether_55 : decode cX4_goTogether 55 = .ok (.ireturn, 1) := by decide +kernel
theorem dX4_clash_0 : decode cX4_clash 0 = .ok (.iload_n 2, 1) := by decide +kernel
theorem dX4_clash_1 : decode cX4_clash 1 = .ok (.iload 4, 2) := by decide +kernel
theorem dX4_clash_3 : decode cX4_clash 3 = .ok (.if_icmp .ne 15, 3) := by decide +kernel
theorem dX4_clash_6 : decode cX4_clash 6 = .ok (.aload_n 0, 1) := by decide +kernel
theorem dX4_clash_7 : decode cX4_clash 7 = .ok (.iload_n 1, 1) := by decide +kernel
theorem dX4_clash_8 : decode cX4_clash 8 = .ok (.iload_n 3, 1) := by decide +kernel
theorem dX4_clash_9 : decode cX4_clash 9 = .ok (.iload_n 2, 1) := by decide +kernel
theorem dX4_clash_10 : decode cX4_clash 10 = .ok (.invokevirtual 100, 3) := by decide +kernel
theorem dX4_clash_13 : decode cX4_clash 13 = .ok (.ifCond .ne 5, 3) := by decide +kernel
theorem dX4_clash_16 : decode cX4_clash 16 = .ok (.iconst 3, 1) := by decide +kernel
theorem dX4_clash_17 : decode cX4_clash 17 = .ok (.ireturn, 1) := by decide +kernel
theorem dX4_clash_18 : decode cX4_clash 18 = .ok (.aload_n 0, 1) := by decide +kernel
theorem dX4_clash_19 : decode cX4_clash 19 = .ok (.iload_n 1, 1) := by decide +kernel
theorem dX4_clash_20 : decode cX4_clash 20 = .ok (.iload_n 3, 1) := by decide +kernel
theorem dX4_clash_21 : decode cX4_clash 21 = .ok (.invokevirtual 104, 3) := by decide +kernel
theorem dX4_clash_24 : decode cX4_clash 24 = .ok (.ifCond .eq 7, 3) := by decide +kernel
theorem dX4_clash_27 : decode cX4_clash 27 = .ok (.iconst 4, 1) := by decide +kernel
theorem dX4_clash_28 : decode cX4_clash 28 = .ok (.goto 4, 3) := by decide +kernel
theorem dX4_clash_31 : decode cX4_clash 31 = .ok (.iconst 0, 1) := by decide +kernel
theorem dX4_clash_32 : decode cX4_clash 32 = .ok (.ireturn, 1) := by decide +kernel
theorem dX4_shareSatAndSlot_0 : decode cX4_shareSatAndSlot 0 = .ok (.aload_n 0, 1) := by decide +kernel
theorem dX4_shareSatAndSlot_1 : decode cX4_shareSatAndSlot 1 = .ok (.getfield 21, 3) := by decide +kernel
theorem dX4_shareSatAndSlot_4 : decode cX4_shareSatAndSlot 4 = .ok (.getfield 56, 3) := by decide +kernel
theorem dX4_shareSatAndSlot_7 : decode cX4_shareSatAndSlot 7 = .ok (.iload_n 1, 1) := by decide +kernel
theorem dX4_shareSatAndSlot_8 : decode cX4_shareSatAndSlot 8 = .ok (.iaload, 1) := by decide +kernel
theorem dX4_shareSatAndSlot_9 : decode cX4_shareSatAndSlot 9 = .ok (.aload_n 0, 1) := by decide +kernel
theorem dX4_shareSatAndSlot_10 : decode cX4_shareSatAndSlot 10 = .ok (.getfield 21, 3) := by decide +kernel
theorem dX4_shareSatAndSlot_13 : decode cX4_shareSatAndSlot 13 = .ok (.getfield 56, 3) := by decide +kernel
theorem dX4_shareSatAndSlot_16 : decode cX4_shareSatAndSlot 16 = .ok (.iload_n 2, 1) := by decide +kernel
theorem dX4_shareSatAndSlot_17 : decode cX4_shareSatAndSlot 17 = .ok (.iaload, 1) := by decide +kernel
theorem dX4_shareSatAndSlot_18 : decode cX4_shareSatAndSlot 18 = .ok (.if_icmp .ne 49, 3) := by decide +kernel
theorem dX4_shareSatAndSlot_21 : decode cX4_shareSatAndSlot 21 = .ok (.aload_n 0, 1) := by decide +kernel
theorem dX4_shareSatAndSlot_22 : decode cX4_shareSatAndSlot 22 = .ok (.getfield 21, 3) := by decide +kernel
theorem dX4_shareSatAndSlot_25 : decode cX4_shareSatAndSlot 25 = .ok (.getfield 62, 3) := by decide +kernel
theorem dX4_shareSatAndSlot_28 : decode cX4_shareSatAndSlot 28 = .ok (.iload_n 1, 1) := by decide +kernel
theorem dX4_shareSatAndSlot_29 : decode cX4_shareSatAndSlot 29 = .ok (.iaload, 1) := by decide +kernel
theorem dX4_shareSatAndSlot_30 : decode cX4_shareSatAndSlot 30 = .ok (.aload_n 0, 1) := by decide +kernel
theorem dX4_shareSatAndSlot_31 : decode cX4_shareSatAndSlot 31 = .ok (.getfield 21, 3) := by decide +kernel
theorem dX4_shareSatAndSlot_34 : decode cX4_shareSatAndSlot 34 = .ok (.getfield 59, 3) := by decide +kernel
theorem dX4_shareSatAndSlot_37 : decode cX4_shareSatAndSlot 37 = .ok (.iload_n 2, 1) := by decide +kernel
theorem dX4_shareSatAndSlot_38 : decode cX4_shareSatAndSlot 38 = .ok (.iaload, 1) := by decide +kernel
theorem dX4_shareSatAndSlot_39 : decode cX4_shareSatAndSlot 39 = .ok (.if_icmp .gt 28, 3) := by decide +kernel
theorem dX4_shareSatAndSlot_42 : decode cX4_shareSatAndSlot 42 = .ok (.aload_n 0, 1) := by decide +kernel
theorem dX4_shareSatAndSlot_43 : decode cX4_shareSatAndSlot 43 = .ok (.getfield 21, 3) := by decide +kernel
theorem dX4_shareSatAndSlot_46 : decode cX4_shareSatAndSlot 46 = .ok (.getfield 62, 3) := by decide +kernel
theorem dX4_shareSatAndSlot_49 : decode cX4_shareSatAndSlot 49 = .ok (.iload_n 2, 1) := by decide +kernel
theorem dX4_shareSatAndSlot_50 : decode cX4_shareSatAndSlot 50 = .ok (.iaload, 1) := by decide +kernel
theorem dX4_shareSatAndSlot_51 : decode cX4_shareSatAndSlot 51 = .ok (.aload_n 0, 1) := by decide +kernel
theorem dX4_shareSatAndSlot_52 : decode cX4_shareSatAndSlot 52 = .ok (.getfield 21, 3) := by decide +kernel
theorem dX4_shareSatAndSlot_55 : decode cX4_shareSatAndSlot 55 = .ok (.getfield 59, 3) := by decide +kernel
theorem dX4_shareSatAndSlot_58 : decode cX4_shareSatAndSlot 58 = .ok (.iload_n 1, 1) := by decide +kernel
theorem dX4_shareSatAndSlot_59 : decode cX4_shareSatAndSlot 59 = .ok (.iaload, 1) := by decide +kernel
theorem dX4_shareSatAndSlot_60 : decode cX4_shareSatAndSlot 60 = .ok (.if_icmp .gt 7, 3) := by decide +kernel
theorem dX4_shareSatAndSlot_63 : decode cX4_shareSatAndSlot 63 = .ok (.iconst 1, 1) := by decide +kernel
theorem dX4_shareSatAndSlot_64 : decode cX4_shareSatAndSlot 64 = .ok (.goto 4, 3) := by decide +kernel
theorem dX4_shareSatAndSlot_67 : decode cX4_shareSatAndSlot 67 = .ok (.iconst 0, 1) := by decide +kernel
theorem dX4_shareSatAndSlot_68 : decode cX4_shareSatAndSlot 68 = .ok (.ireturn, 1) := by decide +kernel
theorem dX4_whyNot_0 : decode cX4_whyNot 0 = .ok (.aload_n 0, 1) := by decide +kernel
theorem dX4_whyNot_1 : decode cX4_whyNot 1 = .ok (.getfield 28, 3) := by decide +kernel
theorem dX4_whyNot_4 : decode cX4_whyNot 4 = .ok (.getfield 49, 3) := by decide +kernel
theorem dX4_whyNot_7 : decode cX4_whyNot 7 = .ok (.iload_n 1, 1) := by decide +kernel
theorem dX4_whyNot_8 : decode cX4_whyNot 8 = .ok (.iaload, 1) := by decide +kernel
theorem dX4_whyNot_9 : decode cX4_whyNot 9 = .ok (.iconst (-1), 1) := by decide +kernel
theorem dX4_whyNot_10 : decode cX4_whyNot 10 = .ok (.if_icmp .eq 5, 3) := by decide +kernel
theorem dX4_whyNot_13 : decode cX4_whyNot 13 = .ok (.iconst 1, 1) := by decide +kernel
theorem dX4_whyNot_14 : decode cX4_whyNot 14 = .ok (.ireturn, 1) := by decide +kernel
theorem dX4_whyNot_15 : decode cX4_whyNot 15 = .ok (.aload_n 0, 1) := by decide +kernel
theorem dX4_whyNot_16 : decode cX4_whyNot 16 = .ok (.iload_n 1, 1) := by decide +kernel
theorem dX4_whyNot_17 : decode cX4_whyNot 17 = .ok (.iload_n 2, 1) := by decide +kernel
theorem dX4_whyNot_18 : decode cX4_whyNot 18 = .ok (.invokevirtual 94, 3) := by decide +kernel
theorem dX4_whyNot_21 : decode cX4_whyNot 21 = .ok (.ifCond .eq 16, 3) := by decide +kernel
theorem dX4_whyNot_24 : decode cX4_whyNot 24 = .ok (.aload_n 0, 1) := by decide +kernel
theorem dX4_whyNot_25 : decode cX4_whyNot 25 = .ok (.aload_n 0, 1) := by decide +kernel
theorem dX4_whyNot_26 : decode cX4_whyNot 26 = .ok (.invokevirtual 107, 3) := by decide +kernel
theorem dX4_whyNot_29 : decode cX4_whyNot 29 = .ok (.iload_n 1, 1) := by decide +kernel
theorem dX4_whyNot_30 : decode cX4_whyNot 30 = .ok (.iload_n 2, 1) := by decide +kernel
theorem dX4_whyNot_31 : decode cX4_whyNot 31 = .ok (.invokevirtual 111, 3) := by decide +kernel
theorem dX4_whyNot_34 : decode cX4_whyNot 34 = .ok (.goto 4, 3) := by decide +kernel
theorem dX4_whyNot_37 : decode cX4_whyNot 37 = .ok (.iconst 2, 1) := by decide +kernel
theorem dX4_whyNot_38 : decode cX4_whyNot 38 = .ok (.ireturn, 1) := by decide +kernel
theorem dX4_clashWith_0 : decode cX4_clashWith 0 = .ok (.iconst 0, 1) := by decide +kernel
theorem dX4_clashWith_1 : decode cX4_clashWith 1 = .ok (.istore 4, 2) := by decide +kernel
theorem dX4_clashWith_3 : decode cX4_clashWith 3 = .ok (.iconst 0, 1) := by decide +kernel
theorem dX4_clashWith_4 : decode cX4_clashWith 4 = .ok (.istore 5, 2) := by decide +kernel
theorem dX4_clashWith_6 : decode cX4_clashWith 6 = .ok (.iload 5, 2) := by decide +kernel
theorem dX4_clashWith_8 : decode cX4_clashWith 8 = .ok (.aload_n 0, 1) := by decide +kernel
theorem dX4_clashWith_9 : decode cX4_clashWith 9 = .ok (.getfield 21, 3) := by decide +kernel
theorem dX4_clashWith_12 : decode cX4_clashWith 12 = .ok (.getfield 39, 3) := by decide +kernel
theorem dX4_clashWith_15 : decode cX4_clashWith 15 = .ok (.if_icmp .ge 63, 3) := by decide +kernel
theorem dX4_clashWith_18 : decode cX4_clashWith 18 = .ok (.iload_n 1, 1) := by decide +kernel
theorem dX4_clashWith_19 : decode cX4_clashWith 19 = .ok (.iload 5, 2) := by decide +kernel
theorem dX4_clashWith_21 : decode cX4_clashWith 21 = .ok (.ishr, 1) := by decide +kernel
theorem dX4_clashWith_22 : decode cX4_clashWith 22 = .ok (.iconst 1, 1) := by decide +kernel
theorem dX4_clashWith_23 : decode cX4_clashWith 23 = .ok (.iand, 1) := by decide +kernel
theorem dX4_clashWith_24 : decode cX4_clashWith 24 = .ok (.ifCond .eq 24, 3) := by decide +kernel
theorem dX4_clashWith_27 : decode cX4_clashWith 27 = .ok (.aload_n 0, 1) := by decide +kernel
theorem dX4_clashWith_28 : decode cX4_clashWith 28 = .ok (.iload_n 2, 1) := by decide +kernel
theorem dX4_clashWith_29 : decode cX4_clashWith 29 = .ok (.iload_n 3, 1) := by decide +kernel
theorem dX4_clashWith_30 : decode cX4_clashWith 30 = .ok (.iload 5, 2) := by decide +kernel
theorem dX4_clashWith_32 : decode cX4_clashWith 32 = .ok (.aload_n 0, 1) := by decide +kernel
theorem dX4_clashWith_33 : decode cX4_clashWith 33 = .ok (.getfield 28, 3) := by decide +kernel
theorem dX4_clashWith_36 : decode cX4_clashWith 36 = .ok (.getfield 49, 3) := by decide +kernel
theorem dX4_clashWith_39 : decode cX4_clashWith 39 = .ok (.iload 5, 2) := by decide +kernel
theorem dX4_clashWith_41 : decode cX4_clashWith 41 = .ok (.iaload, 1) := by decide +kernel
theorem dX4_clashWith_42 : decode cX4_clashWith 42 = .ok (.invokevirtual 115, 3) := by decide +kernel
theorem dX4_clashWith_45 : decode cX4_clashWith 45 = .ok (.goto 4, 3) := by decide +kernel
theorem dX4_clashWith_48 : decode cX4_clashWith 48 = .ok (.iconst 0, 1) := by decide +kernel
theorem dX4_clashWith_49 : decode cX4_clashWith 49 = .ok (.istore 6, 2) := by decide +kernel
theorem dX4_clashWith_51 : decode cX4_clashWith 51 = .ok (.iload 6, 2) := by decide +kernel
theorem dX4_clashWith_53 : decode cX4_clashWith 53 = .ok (.ifCond .eq 19, 3) := by decide +kernel
theorem dX4_clashWith_56 : decode cX4_clashWith 56 = .ok (.iload 4, 2) := by decide +kernel
theorem dX4_clashWith_58 : decode cX4_clashWith 58 = .ok (.ifCond .eq 10, 3) := by decide +kernel
theorem dX4_clashWith_61 : decode cX4_clashWith 61 = .ok (.iload 6, 2) := by decide +kernel
theorem dX4_clashWith_63 : decode cX4_clashWith 63 = .ok (.iload 4, 2) := by decide +kernel
theorem dX4_clashWith_65 : decode cX4_clashWith 65 = .ok (.if_icmp .ge 7, 3) := by decide +kernel
theorem dX4_clashWith_68 : decode cX4_clashWith 68 = .ok (.iload 6, 2) := by decide +kernel
theorem dX4_clashWith_70 : decode cX4_clashWith 70 = .ok (.istore 4, 2) := by decide +kernel
theorem dX4_clashWith_72 : decode cX4_clashWith 72 = .ok (.iinc 5 1, 3) := by decide +kernel
theorem dX4_clashWith_75 : decode cX4_clashWith 75 = .ok (.goto (-69), 3) := by decide +kernel
theorem dX4_clashWith_78 : decode cX4_clashWith 78 = .ok (.iload 4, 2) := by decide +kernel
theorem dX4_clashWith_80 : decode cX4_clashWith 80 = .ok (.ireturn, 1) := by decide +kernel
theorem dX4_dropContactsThatDoNotFit_0 : decode cX4_dropContactsThatDoNotFit 0 = .ok (.iconst 0, 1) := by decide +kernel
theorem dX4_dropContactsThatDoNotFit_1 : decode cX4_dropContactsThatDoNotFit 1 = .ok (.istore_n 2, 1) := by decide +kernel
theorem dX4_dropContactsThatDoNotFit_2 : decode cX4_dropContactsThatDoNotFit 2 = .ok (.iconst 0, 1) := by decide +kernel
theorem dX4_dropContactsThatDoNotFit_3 : decode cX4_dropContactsThatDoNotFit 3 = .ok (.istore_n 3, 1) := by decide +kernel
theorem dX4_dropContactsThatDoNotFit_4 : decode cX4_dropContactsThatDoNotFit 4 = .ok (.iload_n 3, 1) := by decide +kernel
theorem dX4_dropContactsThatDoNotFit_5 : decode cX4_dropContactsThatDoNotFit 5 = .ok (.aload_n 0, 1) := by decide +kernel
theorem dX4_dropContactsThatDoNotFit_6 : decode cX4_dropContactsThatDoNotFit 6 = .ok (.getfield 21, 3) := by decide +kernel
theorem dX4_dropContactsThatDoNotFit_9 : decode cX4_dropContactsThatDoNotFit 9 = .ok (.getfield 39, 3) := by decide +kernel
theorem dX4_dropContactsThatDoNotFit_12 : decode cX4_dropContactsThatDoNotFit 12 = .ok (.if_icmp .ge 44, 3) := by decide +kernel
theorem dX4_dropContactsThatDoNotFit_15 : decode cX4_dropContactsThatDoNotFit 15 = .ok (.aload_n 0, 1) := by decide +kernel
theorem dX4_dropContactsThatDoNotFit_16 : decode cX4_dropContactsThatDoNotFit 16 = .ok (.getfield 28, 3) := by decide +kernel
theorem dX4_dropContactsThatDoNotFit_19 : decode cX4_dropContactsThatDoNotFit 19 = .ok (.getfield 49, 3) := by decide +kernel
theorem dX4_dropContactsThatDoNotFit_22 : decode cX4_dropContactsThatDoNotFit 22 = .ok (.iload_n 3, 1) := by decide +kernel
theorem dX4_dropContactsThatDoNotFit_23 : decode cX4_dropContactsThatDoNotFit 23 = .ok (.iaload, 1) := by decide +kernel
theorem dX4_dropContactsThatDoNotFit_24 : decode cX4_dropContactsThatDoNotFit 24 = .ok (.iload_n 1, 1) := by decide +kernel
theorem dX4_dropContactsThatDoNotFit_25 : decode cX4_dropContactsThatDoNotFit 25 = .ok (.if_icmp .ne 25, 3) := by decide +kernel
theorem dX4_dropContactsThatDoNotFit_28 : decode cX4_dropContactsThatDoNotFit 28 = .ok (.aload_n 0, 1) := by decide +kernel
theorem dX4_dropContactsThatDoNotFit_29 : decode cX4_dropContactsThatDoNotFit 29 = .ok (.iload_n 3, 1) := by decide +kernel
theorem dX4_dropContactsThatDoNotFit_30 : decode cX4_dropContactsThatDoNotFit 30 = .ok (.iload_n 1, 1) := by decide +kernel
theorem dX4_dropContactsThatDoNotFit_31 : decode cX4_dropContactsThatDoNotFit 31 = .ok (.invokevirtual 94, 3) := by decide +kernel
theorem dX4_dropContactsThatDoNotFit_34 : decode cX4_dropContactsThatDoNotFit 34 = .ok (.ifCond .ne 16, 3) := by decide +kernel
theorem dX4_dropContactsThatDoNotFit_37 : decode cX4_dropContactsThatDoNotFit 37 = .ok (.aload_n 0, 1) := by decide +kernel
theorem dX4_dropContactsThatDoNotFit_38 : decode cX4_dropContactsThatDoNotFit 38 = .ok (.getfield 28, 3) := by decide +kernel
theorem dX4_dropContactsThatDoNotFit_41 : decode cX4_dropContactsThatDoNotFit 41 = .ok (.getfield 49, 3) := by decide +kernel
theorem dX4_dropContactsThatDoNotFit_44 : decode cX4_dropContactsThatDoNotFit 44 = .ok (.iload_n 3, 1) := by decide +kernel
theorem dX4_dropContactsThatDoNotFit_45 : decode cX4_dropContactsThatDoNotFit 45 = .ok (.iconst (-1), 1) := by decide +kernel
theorem dX4_dropContactsThatDoNotFit_46 : decode cX4_dropContactsThatDoNotFit 46 = .ok (.iastore, 1) := by decide +kernel
theorem dX4_dropContactsThatDoNotFit_47 : decode cX4_dropContactsThatDoNotFit 47 = .ok (.iinc 2 1, 3) := by decide +kernel
theorem dX4_dropContactsThatDoNotFit_50 : decode cX4_dropContactsThatDoNotFit 50 = .ok (.iinc 3 1, 3) := by decide +kernel
theorem dX4_dropContactsThatDoNotFit_53 : decode cX4_dropContactsThatDoNotFit 53 = .ok (.goto (-49), 3) := by decide +kernel
theorem dX4_dropContactsThatDoNotFit_56 : decode cX4_dropContactsThatDoNotFit 56 = .ok (.iload_n 2, 1) := by decide +kernel
theorem dX4_dropContactsThatDoNotFit_57 : decode cX4_dropContactsThatDoNotFit 57 = .ok (.ireturn, 1) := by decide +kernel
theorem dX5_init_0 : decode cX5_init 0 = .ok (.aload_n 0, 1) := by decide +kernel
theorem dX5_init_1 : decode cX5_init 1 = .ok (.invokespecial 3, 3) := by decide +kernel
theorem dX5_init_4 : decode cX5_init 4 = .ok (.aload_n 0, 1) := by decide +kernel
theorem dX5_init_5 : decode cX5_init 5 = .ok (.bipush 24, 2) := by decide +kernel
theorem dX5_init_7 : decode cX5_init 7 = .ok (.newarray .int, 2) := by decide +kernel
theorem dX5_init_9 : decode cX5_init 9 = .ok (.putfield 9, 3) := by decide +kernel
theorem dX5_init_12 : decode cX5_init 12 = .ok (.aload_n 0, 1) := by decide +kernel
theorem dX5_init_13 : decode cX5_init 13 = .ok (.bipush 24, 2) := by decide +kernel
theorem dX5_init_15 : decode cX5_init 15 = .ok (.newarray .int, 2) := by decide +kernel
theorem dX5_init_17 : decode cX5_init 17 = .ok (.putfield 15, 3) := by decide +kernel
theorem dX5_init_20 : decode cX5_init 20 = .ok (.aload_n 0, 1) := by decide +kernel
theorem dX5_init_21 : decode cX5_init 21 = .ok (.bipush 24, 2) := by decide +kernel
theorem dX5_init_23 : decode cX5_init 23 = .ok (.newarray .int, 2) := by decide +kernel
theorem dX5_init_25 : decode cX5_init 25 = .ok (.putfield 18, 3) := by decide +kernel
theorem dX5_init_28 : decode cX5_init 28 = .ok (.aload_n 0, 1) := by decide +kernel
theorem dX5_init_29 : decode cX5_init 29 = .ok (.bipush 24, 2) := by decide +kernel
theorem dX5_init_31 : decode cX5_init 31 = .ok (.newarray .int, 2) := by decide +kernel
theorem dX5_init_33 : decode cX5_init 33 = .ok (.putfield 21, 3) := by decide +kernel
theorem dX5_init_36 : decode cX5_init 36 = .ok (.aload_n 0, 1) := by decide +kernel
theorem dX5_init_37 : decode cX5_init 37 = .ok (.bipush 24, 2) := by decide +kernel
theorem dX5_init_39 : decode cX5_init 39 = .ok (.newarray .int, 2) := by decide +kernel
theorem dX5_init_41 : decode cX5_init 41 = .ok (.putfield 24, 3) := by decide +kernel
theorem dX5_init_44 : decode cX5_init 44 = .ok (.aload_n 0, 1) := by decide +kernel
theorem dX5_init_45 : decode cX5_init 45 = .ok (.bipush 24, 2) := by decide +kernel
theorem dX5_init_47 : decode cX5_init 47 = .ok (.newarray .int, 2) := by decide +kernel
theorem dX5_init_49 : decode cX5_init 49 = .ok (.putfield 27, 3) := by decide +kernel
theorem dX5_init_52 : decode cX5_init 52 = .ok (.return_, 1) := by decide +kernel
theorem dX5_find_0 : decode cX5_find 0 = .ok (.aload_n 0, 1) := by decide +kernel
theorem dX5_find_1 : decode cX5_find 1 = .ok (.iconst 0, 1) := by decide +kernel
theorem dX5_find_2 : decode cX5_find 2 = .ok (.putfield 30, 3) := by decide +kernel
theorem dX5_find_5 : decode cX5_find 5 = .ok (.iconst 0, 1) := by decide +kernel
theorem dX5_find_6 : decode cX5_find 6 = .ok (.istore_n 2, 1) := by decide +kernel
theorem dX5_find_7 : decode cX5_find 7 = .ok (.iload_n 2, 1) := by decide +kernel
theorem dX5_find_8 : decode cX5_find 8 = .ok (.bipush 60, 2) := by decide +kernel
theorem dX5_find_10 : decode cX5_find 10 = .ok (.if_icmp .ge 86, 3) := by decide +kernel
theorem dX5_find_13 : decode cX5_find 13 = .ok (.iconst 0, 1) := by decide +kernel
theorem dX5_find_14 : decode cX5_find 14 = .ok (.istore_n 3, 1) := by decide +kernel
theorem dX5_find_15 : decode cX5_find 15 = .ok (.iload_n 3, 1) := by decide +kernel
theorem dX5_find_16 : decode cX5_find 16 = .ok (.aload_n 1, 1) := by decide +kernel
theorem dX5_find_17 : decode cX5_find 17 = .ok (.getfield 34, 3) := by decide +kernel
theorem dX5_find_20 : decode cX5_find 20 = .ok (.getfield 40, 3) := by decide +kernel
theorem dX5_find_23 : decode cX5_find 23 = .ok (.if_icmp .ge 67, 3) := by decide +kernel
theorem dX5_find_26 : decode cX5_find 26 = .ok (.iconst 0, 1) := by decide +kernel
theorem dX5_find_27 : decode cX5_find 27 = .ok (.istore 4, 2) := by decide +kernel
theorem dX5_find_29 : decode cX5_find 29 = .ok (.iload 4, 2) := by decide +kernel
theorem dX5_find_31 : decode cX5_find 31 = .ok (.aload_n 1, 1) := by decide +kernel
theorem dX5_find_32 : decode cX5_find 32 = .ok (.getfield 45, 3) := by decide +kernel
theorem dX5_find_35 : decode cX5_find 35 = .ok (.getfield 40, 3) := by decide +kernel
theorem dX5_find_38 : decode cX5_find 38 = .ok (.if_icmp .ge 46, 3) := by decide +kernel
theorem dX5_find_41 : decode cX5_find 41 = .ok (.aload_n 1, 1) := by decide +kernel
theorem dX5_find_42 : decode cX5_find 42 = .ok (.iload_n 3, 1) := by decide +kernel
theorem dX5_find_43 : decode cX5_find 43 = .ok (.iload 4, 2) := by decide +kernel
theorem dX5_find_45 : decode cX5_find 45 = .ok (.iload_n 2, 1) := by decide +kernel
theorem dX5_find_46 : decode cX5_find 46 = .ok (.invokevirtual 48, 3) := by decide +kernel
theorem dX5_find_49 : decode cX5_find 49 = .ok (.ifCond .eq 29, 3) := by decide +kernel
theorem dX5_find_52 : decode cX5_find 52 = .ok (.iload_n 2, 1) := by decide +kernel
theorem dX5_find_53 : decode cX5_find 53 = .ok (.ifCond .eq 16, 3) := by decide +kernel
theorem dX5_find_56 : decode cX5_find 56 = .ok (.aload_n 1, 1) := by decide +kernel
theorem dX5_find_57 : decode cX5_find 57 = .ok (.iload_n 3, 1) := by decide +kernel
theorem dX5_find_58 : decode cX5_find 58 = .ok (.iload 4, 2) := by decide +kernel
theorem dX5_find_60 : decode cX5_find 60 = .ok (.iload_n 2, 1) := by decide +kernel
theorem dX5_find_61 : decode cX5_find 61 = .ok (.iconst 1, 1) := by decide +kernel
theorem dX5_find_62 : decode cX5_find 62 = .ok (.isub, 1) := by decide +kernel
theorem dX5_find_63 : decode cX5_find 63 = .ok (.invokevirtual 48, 3) := by decide +kernel
theorem dX5_find_66 : decode cX5_find 66 = .ok (.ifCond .ne 12, 3) := by decide +kernel
theorem dX5_find_69 : decode cX5_find 69 = .ok (.aload_n 0, 1) := by decide +kernel
theorem dX5_find_70 : decode cX5_find 70 = .ok (.aload_n 1, 1) := by decide +kernel
theorem dX5_find_71 : decode cX5_find 71 = .ok (.iload_n 3, 1) := by decide +kernel
theorem dX5_find_72 : decode cX5_find 72 = .ok (.iload 4, 2) := by decide +kernel
theorem dX5_find_74 : decode cX5_find 74 = .ok (.iload_n 2, 1) := by decide +kernel
theorem dX5_find_75 : decode cX5_find 75 = .ok (.invokevirtual 52, 3) := by decide +kernel
theorem dX5_find_78 : decode cX5_find 78 = .ok (.iinc 4 1, 3) := by decide +kernel
theorem dX5_find_81 : decode cX5_find 81 = .ok (.goto (-52), 3) := by decide +kernel
theorem dX5_find_84 : decode cX5_find 84 = .ok (.iinc 3 1, 3) := by decide +kernel
theorem dX5_find_87 : decode cX5_find 87 = .ok (.goto (-72), 3) := by decide +kernel
theorem dX5_find_90 : decode cX5_find 90 = .ok (.iinc 2 1, 3) := by decide +kernel
theorem dX5_find_93 : decode cX5_find 93 = .ok (.goto (-86), 3) := by decide +kernel
theorem dX5_find_96 : decode cX5_find 96 = .ok (.return_, 1) := by decide +kernel
theorem dX5_append_0 : decode cX5_append 0 = .ok (.aload_n 0, 1) := by decide +kernel
theorem dX5_append_1 : decode cX5_append 1 = .ok (.getfield 30, 3) := by decide +kernel
theorem dX5_append_4 : decode cX5_append 4 = .ok (.bipush 24, 2) := by decide +kernel
theorem dX5_append_6 : decode cX5_append 6 = .ok (.if_icmp .lt 4, 3) := by decide +kernel
theorem dX5_append_9 : decode cX5_append 9 = .ok (.return_, 1) := by decide +kernel
theorem dX5_append_10 : decode cX5_append 10 = .ok (.aload_n 0, 1) := by decide +kernel
theorem dX5_append_11 : decode cX5_append 11 = .ok (.getfield 30, 3) := by decide +kernel
theorem dX5_append_14 : decode cX5_append 14 = .ok (.istore 5, 2) := by decide +kernel
theorem dX5_append_16 : decode cX5_append 16 = .ok (.aload_n 0, 1) := by decide +kernel
theorem dX5_append_17 : decode cX5_append 17 = .ok (.getfield 9, 3) := by decide +kernel
theorem dX5_append_20 : decode cX5_append 20 = .ok (.iload 5, 2) := by decide +kernel
theorem dX5_append_22 : decode cX5_append 22 = .ok (.iload 4, 2) := by decide +kernel
theorem dX5_append_24 : decode cX5_append 24 = .ok (.iastore, 1) := by decide +kernel
theorem dX5_append_25 : decode cX5_append 25 = .ok (.aload_n 0, 1) := by decide +kernel
end
section
theorem dX5_append_26 : decode cX5_append 26 = .ok (.getfield 15, 3) := by decide +kernel
theorem dX5_append_29 : decode cX5_append 29 = .ok (.iload 5, 2) := by decide +kernel
theorem dX5_append_31 : decode cX5_append 31 = .ok (.iload 4, 2) := by decide +kernel
theorem dX5_append_33 : decode cX5_append 33 = .ok (.iastore, 1) := by decide +kernel
theorem dX5_append_34 : decode cX5_append 34 = .ok (.aload_n 0, 1) := by decide +kernel
theorem dX5_append_35 : decode cX5_append 35 = .ok (.getfield 15, 3) := by decide +kernel
theorem dX5_append_38 : decode cX5_append 38 = .ok (.iload 5, 2) := by decide +kernel
theorem dX5_append_40 : decode cX5_append 40 = .ok (.iaload, 1) := by decide +kernel
theorem dX5_append_41 : decode cX5_append 41 = .ok (.iconst 1, 1) := by decide +kernel
theorem dX5_append_42 : decode cX5_append 42 = .ok (.iadd, 1) := by decide +kernel
theorem dX5_append_43 : decode cX5_append 43 = .ok (.bipush 60, 2) := by decide +kernel
theorem dX5_append_45 : decode cX5_append 45 = .ok (.if_icmp .ge 35, 3) := by decide +kernel
theorem dX5_append_48 : decode cX5_append 48 = .ok (.aload_n 1, 1) := by decide +kernel
theorem dX5_append_49 : decode cX5_append 49 = .ok (.iload_n 2, 1) := by decide +kernel
theorem dX5_append_50 : decode cX5_append 50 = .ok (.iload_n 3, 1) := by decide +kernel
theorem dX5_append_51 : decode cX5_append 51 = .ok (.aload_n 0, 1) := by decide +kernel
theorem dX5_append_52 : decode cX5_append 52 = .ok (.getfield 15, 3) := by decide +kernel
theorem dX5_append_55 : decode cX5_append 55 = .ok (.iload 5, 2) := by decide +kernel
theorem dX5_append_57 : decode cX5_append 57 = .ok (.iaload, 1) := by decide +kernel
theorem dX5_append_58 : decode cX5_append 58 = .ok (.iconst 1, 1) := by decide +kernel
theorem dX5_append_59 : decode cX5_append 59 = .ok (.iadd, 1) := by decide +kernel
theorem dX5_append_60 : decode cX5_append 60 = .ok (.invokevirtual 48, 3) := by decide +kernel
theorem dX5_append_63 : decode cX5_append 63 = .ok (.ifCond .eq 17, 3) := by decide +kernel
theorem dX5_append_66 : decode cX5_append 66 = .ok (.aload_n 0, 1) := by decide +kernel
theorem dX5_append_67 : decode cX5_append 67 = .ok (.getfield 15, 3) := by decide +kernel
theorem dX5_append_70 : decode cX5_append 70 = .ok (.iload 5, 2) := by decide +kernel
theorem dX5_append_72 : decode cX5_append 72 = .ok (.dup2, 1) := by decide +kernel
theorem dX5_append_73 : decode cX5_append 73 = .ok (.iaload, 1) := by decide +kernel
theorem dX5_append_74 : decode cX5_append 74 = .ok (.iconst 1, 1) := by decide +kernel
theorem dX5_append_75 : decode cX5_append 75 = .ok (.iadd, 1) := by decide +kernel
theorem dX5_append_76 : decode cX5_append 76 = .ok (.iastore, 1) := by decide +kernel
theorem dX5_append_77 : decode cX5_append 77 = .ok (.goto (-43), 3) := by decide +kernel
theorem dX5_append_80 : decode cX5_append 80 = .ok (.aload_n 0, 1) := by decide +kernel
theorem dX5_append_81 : decode cX5_append 81 = .ok (.getfield 18, 3) := by decide +kernel
theorem dX5_append_84 : decode cX5_append 84 = .ok (.iload 5, 2) := by decide +kernel
theorem dX5_append_86 : decode cX5_append 86 = .ok (.iload_n 2, 1) := by decide +kernel
theorem dX5_append_87 : decode cX5_append 87 = .ok (.iastore, 1) := by decide +kernel
theorem dX5_append_88 : decode cX5_append 88 = .ok (.aload_n 0, 1) := by decide +kernel
theorem dX5_append_89 : decode cX5_append 89 = .ok (.getfield 21, 3) := by decide +kernel
theorem dX5_append_92 : decode cX5_append 92 = .ok (.iload 5, 2) := by decide +kernel
theorem dX5_append_94 : decode cX5_append 94 = .ok (.iload_n 3, 1) := by decide +kernel
theorem dX5_append_95 : decode cX5_append 95 = .ok (.iastore, 1) := by decide +kernel
theorem dX5_append_96 : decode cX5_append 96 = .ok (.aload_n 0, 1) := by decide +kernel
theorem dX5_append_97 : decode cX5_append 97 = .ok (.getfield 27, 3) := by decide +kernel
theorem dX5_append_100 : decode cX5_append 100 = .ok (.iload 5, 2) := by decide +kernel
theorem dX5_append_102 : decode cX5_append 102 = .ok (.aload_n 1, 1) := by decide +kernel
theorem dX5_append_103 : decode cX5_append 103 = .ok (.getfield 34, 3) := by decide +kernel
theorem dX5_append_106 : decode cX5_append 106 = .ok (.iload_n 2, 1) := by decide +kernel
theorem dX5_append_107 : decode cX5_append 107 = .ok (.iconst 2, 1) := by decide +kernel
theorem dX5_append_108 : decode cX5_append 108 = .ok (.invokevirtual 56, 3) := by decide +kernel
theorem dX5_append_111 : decode cX5_append 111 = .ok (.ifCond .ne 7, 3) := by decide +kernel
theorem dX5_append_114 : decode cX5_append 114 = .ok (.iconst 2, 1) := by decide +kernel
theorem dX5_append_115 : decode cX5_append 115 = .ok (.goto 4, 3) := by decide +kernel
theorem dX5_append_118 : decode cX5_append 118 = .ok (.iconst 3, 1) := by decide +kernel
theorem dX5_append_119 : decode cX5_append 119 = .ok (.iastore, 1) := by decide +kernel
theorem dX5_append_120 : decode cX5_append 120 = .ok (.aload_n 0, 1) := by decide +kernel
theorem dX5_append_121 : decode cX5_append 121 = .ok (.getfield 24, 3) := by decide +kernel
theorem dX5_append_124 : decode cX5_append 124 = .ok (.iload 5, 2) := by decide +kernel
theorem dX5_append_126 : decode cX5_append 126 = .ok (.iconst 0, 1) := by decide +kernel
theorem dX5_append_127 : decode cX5_append 127 = .ok (.iastore, 1) := by decide +kernel
theorem dX5_append_128 : decode cX5_append 128 = .ok (.aload_n 0, 1) := by decide +kernel
theorem dX5_append_129 : decode cX5_append 129 = .ok (.getfield 9, 3) := by decide +kernel
theorem dX5_append_132 : decode cX5_append 132 = .ok (.iload 5, 2) := by decide +kernel
theorem dX5_append_134 : decode cX5_append 134 = .ok (.iaload, 1) := by decide +kernel
theorem dX5_append_135 : decode cX5_append 135 = .ok (.istore 6, 2) := by decide +kernel
theorem dX5_append_137 : decode cX5_append 137 = .ok (.iload 6, 2) := by decide +kernel
theorem dX5_append_139 : decode cX5_append 139 = .ok (.aload_n 0, 1) := by decide +kernel
theorem dX5_append_140 : decode cX5_append 140 = .ok (.getfield 15, 3) := by decide +kernel
theorem dX5_append_143 : decode cX5_append 143 = .ok (.iload 5, 2) := by decide +kernel
theorem dX5_append_145 : decode cX5_append 145 = .ok (.iaload, 1) := by decide +kernel
theorem dX5_append_146 : decode cX5_append 146 = .ok (.if_icmp .gt 27, 3) := by decide +kernel
theorem dX5_append_149 : decode cX5_append 149 = .ok (.aload_n 0, 1) := by decide +kernel
theorem dX5_append_150 : decode cX5_append 150 = .ok (.getfield 24, 3) := by decide +kernel
theorem dX5_append_153 : decode cX5_append 153 = .ok (.iload 5, 2) := by decide +kernel
theorem dX5_append_155 : decode cX5_append 155 = .ok (.dup2, 1) := by decide +kernel
theorem dX5_append_156 : decode cX5_append 156 = .ok (.iaload, 1) := by decide +kernel
theorem dX5_append_157 : decode cX5_append 157 = .ok (.aload_n 0, 1) := by decide +kernel
theorem dX5_append_158 : decode cX5_append 158 = .ok (.iload 5, 2) := by decide +kernel
theorem dX5_append_160 : decode cX5_append 160 = .ok (.iload 6, 2) := by decide +kernel
theorem dX5_append_162 : decode cX5_append 162 = .ok (.invokevirtual 60, 3) := by decide +kernel
theorem dX5_append_165 : decode cX5_append 165 = .ok (.iadd, 1) := by decide +kernel
theorem dX5_append_166 : decode cX5_append 166 = .ok (.iastore, 1) := by decide +kernel
theorem dX5_append_167 : decode cX5_append 167 = .ok (.iinc 6 1, 3) := by decide +kernel
theorem dX5_append_170 : decode cX5_append 170 = .ok (.goto (-33), 3) := by decide +kernel
theorem dX5_append_173 : decode cX5_append 173 = .ok (.aload_n 0, 1) := by decide +kernel
theorem dX5_append_174 : decode cX5_append 174 = .ok (.dup, 1) := by decide +kernel
theorem dX5_append_175 : decode cX5_append 175 = .ok (.getfield 30, 3) := by decide +kernel
theorem dX5_append_178 : decode cX5_append 178 = .ok (.iconst 1, 1) := by decide +kernel
theorem dX5_append_179 : decode cX5_append 179 = .ok (.iadd, 1) := by decide +kernel
theorem dX5_append_180 : decode cX5_append 180 = .ok (.putfield 30, 3) := by decide +kernel
theorem dX5_append_183 : decode cX5_append 183 = .ok (.return_, 1) := by decide +kernel
theorem dX5_has_0 : decode cX5_has 0 = .ok (.iload_n 1, 1) := by decide +kernel
theorem dX5_has_1 : decode cX5_has 1 = .ok (.ifCond .lt 15, 3) := by decide +kernel
theorem dX5_has_4 : decode cX5_has 4 = .ok (.iload_n 1, 1) := by decide +kernel
theorem dX5_has_5 : decode cX5_has 5 = .ok (.aload_n 0, 1) := by decide +kernel
theorem dX5_has_6 : decode cX5_has 6 = .ok (.getfield 30, 3) := by decide +kernel
theorem dX5_has_9 : decode cX5_has 9 = .ok (.if_icmp .ge 7, 3) := by decide +kernel
theorem dX5_has_12 : decode cX5_has 12 = .ok (.iconst 1, 1) := by decide +kernel
theorem dX5_has_13 : decode cX5_has 13 = .ok (.goto 4, 3) := by decide +kernel
theorem dX5_has_16 : decode cX5_has 16 = .ok (.iconst 0, 1) := by decide +kernel
theorem dX5_has_17 : decode cX5_has 17 = .ok (.ireturn, 1) := by decide +kernel
theorem dX5_covers_0 : decode cX5_covers 0 = .ok (.iload_n 2, 1) := by decide +kernel
theorem dX5_covers_1 : decode cX5_covers 1 = .ok (.aload_n 0, 1) := by decide +kernel
theorem dX5_covers_2 : decode cX5_covers 2 = .ok (.getfield 9, 3) := by decide +kernel
theorem dX5_covers_5 : decode cX5_covers 5 = .ok (.iload_n 1, 1) := by decide +kernel
theorem dX5_covers_6 : decode cX5_covers 6 = .ok (.iaload, 1) := by decide +kernel
theorem dX5_covers_7 : decode cX5_covers 7 = .ok (.if_icmp .lt 17, 3) := by decide +kernel
theorem dX5_covers_10 : decode cX5_covers 10 = .ok (.iload_n 2, 1) := by decide +kernel
theorem dX5_covers_11 : decode cX5_covers 11 = .ok (.aload_n 0, 1) := by decide +kernel
theorem dX5_covers_12 : decode cX5_covers 12 = .ok (.getfield 15, 3) := by decide +kernel
theorem dX5_covers_15 : decode cX5_covers 15 = .ok (.iload_n 1, 1) := by decide +kernel
theorem dX5_covers_16 : decode cX5_covers 16 = .ok (.iaload, 1) := by decide +kernel
theorem dX5_covers_17 : decode cX5_covers 17 = .ok (.if_icmp .gt 7, 3) := by decide +kernel
theorem dX5_covers_20 : decode cX5_covers 20 = .ok (.iconst 1, 1) := by decide +kernel
theorem dX5_covers_21 : decode cX5_covers 21 = .ok (.goto 4, 3) := by decide +kernel
theorem dX5_covers_24 : decode cX5_covers 24 = .ok (.iconst 0, 1) := by decide +kernel
theorem dX5_covers_25 : decode cX5_covers 25 = .ok (.ireturn, 1) := by decide +kernel
theorem dX5_rateIn_0 : decode cX5_rateIn 0 = .ok (.aload_n 0, 1) := by decide +kernel
theorem dX5_rateIn_1 : decode cX5_rateIn 1 = .ok (.getfield 27, 3) := by decide +kernel
theorem dX5_rateIn_4 : decode cX5_rateIn 4 = .ok (.iload_n 1, 1) := by decide +kernel
theorem dX5_rateIn_5 : decode cX5_rateIn 5 = .ok (.iaload, 1) := by decide +kernel
theorem dX5_rateIn_6 : decode cX5_rateIn 6 = .ok (.iconst 1, 1) := by decide +kernel
theorem dX5_rateIn_7 : decode cX5_rateIn 7 = .ok (.iload_n 2, 1) := by decide +kernel
theorem dX5_rateIn_8 : decode cX5_rateIn 8 = .ok (.aload_n 0, 1) := by decide +kernel
theorem dX5_rateIn_9 : decode cX5_rateIn 9 = .ok (.getfield 9, 3) := by decide +kernel
theorem dX5_rateIn_12 : decode cX5_rateIn 12 = .ok (.iload_n 1, 1) := by decide +kernel
theorem dX5_rateIn_13 : decode cX5_rateIn 13 = .ok (.iaload, 1) := by decide +kernel
theorem dX5_rateIn_14 : decode cX5_rateIn 14 = .ok (.isub, 1) := by decide +kernel
theorem dX5_rateIn_15 : decode cX5_rateIn 15 = .ok (.aload_n 0, 1) := by decide +kernel
theorem dX5_rateIn_16 : decode cX5_rateIn 16 = .ok (.getfield 15, 3) := by decide +kernel
theorem dX5_rateIn_19 : decode cX5_rateIn 19 = .ok (.iload_n 1, 1) := by decide +kernel
theorem dX5_rateIn_20 : decode cX5_rateIn 20 = .ok (.iaload, 1) := by decide +kernel
theorem dX5_rateIn_21 : decode cX5_rateIn 21 = .ok (.iload_n 2, 1) := by decide +kernel
theorem dX5_rateIn_22 : decode cX5_rateIn 22 = .ok (.isub, 1) := by decide +kernel
theorem dX5_rateIn_23 : decode cX5_rateIn 23 = .ok (.invokestatic 63, 3) := by decide +kernel
theorem dX5_rateIn_26 : decode cX5_rateIn 26 = .ok (.iadd, 1) := by decide +kernel
theorem dX5_rateIn_27 : decode cX5_rateIn 27 = .ok (.imul, 1) := by decide +kernel
theorem dX5_rateIn_28 : decode cX5_rateIn 28 = .ok (.ireturn, 1) := by decide +kernel
theorem dX6_init_0 : decode cX6_init 0 = .ok (.aload_n 0, 1) := by decide +kernel
theorem dX6_init_1 : decode cX6_init 1 = .ok (.invokespecial 3, 3) := by decide +kernel
theorem dX6_init_4 : decode cX6_init 4 = .ok (.aload_n 0, 1) := by decide +kernel
theorem dX6_init_5 : decode cX6_init 5 = .ok (.bipush 6, 2) := by decide +kernel
theorem dX6_init_7 : decode cX6_init 7 = .ok (.newarray .int, 2) := by decide +kernel
theorem dX6_init_9 : decode cX6_init 9 = .ok (.putfield 9, 3) := by decide +kernel
theorem dX6_init_12 : decode cX6_init 12 = .ok (.aload_n 0, 1) := by decide +kernel
theorem dX6_init_13 : decode cX6_init 13 = .ok (.bipush 36, 2) := by decide +kernel
theorem dX6_init_15 : decode cX6_init 15 = .ok (.newarray .int, 2) := by decide +kernel
theorem dX6_init_17 : decode cX6_init 17 = .ok (.putfield 15, 3) := by decide +kernel
theorem dX6_init_20 : decode cX6_init 20 = .ok (.aload_n 0, 1) := by decide +kernel
theorem dX6_init_21 : decode cX6_init 21 = .ok (.bipush 6, 2) := by decide +kernel
theorem dX6_init_23 : decode cX6_init 23 = .ok (.newarray .int, 2) := by decide +kernel
theorem dX6_init_25 : decode cX6_init 25 = .ok (.putfield 18, 3) := by decide +kernel
theorem dX6_init_28 : decode cX6_init 28 = .ok (.aload_n 0, 1) := by decide +kernel
theorem dX6_init_29 : decode cX6_init 29 = .ok (.sipush 128, 3) := by decide +kernel
theorem dX6_init_32 : decode cX6_init 32 = .ok (.newarray .int, 2) := by decide +kernel
theorem dX6_init_34 : decode cX6_init 34 = .ok (.putfield 21, 3) := by decide +kernel
theorem dX6_init_37 : decode cX6_init 37 = .ok (.aload_n 0, 1) := by decide +kernel
theorem dX6_init_38 : decode cX6_init 38 = .ok (.bipush 64, 2) := by decide +kernel
theorem dX6_init_40 : decode cX6_init 40 = .ok (.newarray .int, 2) := by decide +kernel
theorem dX6_init_42 : decode cX6_init 42 = .ok (.putfield 24, 3) := by decide +kernel
theorem dX6_init_45 : decode cX6_init 45 = .ok (.aload_n 0, 1) := by decide +kernel
theorem dX6_init_46 : decode cX6_init 46 = .ok (.bipush 6, 2) := by decide +kernel
theorem dX6_init_48 : decode cX6_init 48 = .ok (.newarray .int, 2) := by decide +kernel
theorem dX6_init_50 : decode cX6_init 50 = .ok (.putfield 27, 3) := by decide +kernel
theorem dX6_init_53 : decode cX6_init 53 = .ok (.aload_n 0, 1) := by decide +kernel
theorem dX6_init_54 : decode cX6_init 54 = .ok (.bipush 6, 2) := by decide +kernel
theorem dX6_init_56 : decode cX6_init 56 = .ok (.newarray .int, 2) := by decide +kernel
theorem dX6_init_58 : decode cX6_init 58 = .ok (.putfield 30, 3) := by decide +kernel
theorem dX6_init_61 : decode cX6_init 61 = .ok (.return_, 1) := by decide +kernel
theorem dX6_forget_0 : decode cX6_forget 0 = .ok (.aload_n 0, 1) := by decide +kernel
theorem dX6_forget_1 : decode cX6_forget 1 = .ok (.iconst 0, 1) := by decide +kernel
theorem dX6_forget_2 : decode cX6_forget 2 = .ok (.putfield 33, 3) := by decide +kernel
theorem dX6_forget_5 : decode cX6_forget 5 = .ok (.return_, 1) := by decide +kernel
theorem dX6_find_0 : decode cX6_find 0 = .ok (.aload_n 0, 1) := by decide +kernel
theorem dX6_find_1 : decode cX6_find 1 = .ok (.getfield 33, 3) := by decide +kernel
theorem dX6_find_4 : decode cX6_find 4 = .ok (.ifCond .eq 30, 3) := by decide +kernel
theorem dX6_find_7 : decode cX6_find 7 = .ok (.aload_n 0, 1) := by decide +kernel
theorem dX6_find_8 : decode cX6_find 8 = .ok (.getfield 37, 3) := by decide +kernel
theorem dX6_find_11 : decode cX6_find 11 = .ok (.iload_n 3, 1) := by decide +kernel
theorem dX6_find_12 : decode cX6_find 12 = .ok (.if_icmp .ne 22, 3) := by decide +kernel
theorem dX6_find_15 : decode cX6_find 15 = .ok (.aload_n 0, 1) := by decide +kernel
theorem dX6_find_16 : decode cX6_find 16 = .ok (.getfield 41, 3) := by decide +kernel
theorem dX6_find_19 : decode cX6_find 19 = .ok (.iload 4, 2) := by decide +kernel
theorem dX6_find_21 : decode cX6_find 21 = .ok (.if_icmp .ne 13, 3) := by decide +kernel
theorem dX6_find_24 : decode cX6_find 24 = .ok (.aload_n 0, 1) := by decide +kernel
theorem dX6_find_25 : decode cX6_find 25 = .ok (.getfield 44, 3) := by decide +kernel
theorem dX6_find_28 : decode cX6_find 28 = .ok (.iload 5, 2) := by decide +kernel
theorem dX6_find_30 : decode cX6_find 30 = .ok (.if_icmp .ne 4, 3) := by decide +kernel
theorem dX6_find_33 : decode cX6_find 33 = .ok (.return_, 1) := by decide +kernel
theorem dX6_find_34 : decode cX6_find 34 = .ok (.aload_n 0, 1) := by decide +kernel
theorem dX6_find_35 : decode cX6_find 35 = .ok (.iload_n 3, 1) := by decide +kernel
theorem dX6_find_36 : decode cX6_find 36 = .ok (.putfield 37, 3) := by decide +kernel
theorem dX6_find_39 : decode cX6_find 39 = .ok (.aload_n 0, 1) := by decide +kernel
theorem dX6_find_40 : decode cX6_find 40 = .ok (.iload 4, 2) := by decide +kernel
theorem dX6_find_42 : decode cX6_find 42 = .ok (.putfield 41, 3) := by decide +kernel
theorem dX6_find_45 : decode cX6_find 45 = .ok (.aload_n 0, 1) := by decide +kernel
theorem dX6_find_46 : decode cX6_find 46 = .ok (.iload 5, 2) := by decide +kernel
theorem dX6_find_48 : decode cX6_find 48 = .ok (.putfield 44, 3) := by decide +kernel
theorem dX6_find_51 : decode cX6_find 51 = .ok (.aload_n 0, 1) := by decide +kernel
theorem dX6_find_52 : decode cX6_find 52 = .ok (.aload_n 1, 1) := by decide +kernel
theorem dX6_find_53 : decode cX6_find 53 = .ok (.iload 4, 2) := by decide +kernel
theorem dX6_find_55 : decode cX6_find 55 = .ok (.invokevirtual 47, 3) := by decide +kernel
theorem dX6_find_58 : decode cX6_find 58 = .ok (.putfield 53, 3) := by decide +kernel
theorem dX6_find_61 : decode cX6_find 61 = .ok (.iconst 1, 1) := by decide +kernel
theorem dX6_find_62 : decode cX6_find 62 = .ok (.aload_n 0, 1) := by decide +kernel
theorem dX6_find_63 : decode cX6_find 63 = .ok (.getfield 53, 3) := by decide +kernel
theorem dX6_find_66 : decode cX6_find 66 = .ok (.ishl, 1) := by decide +kernel
theorem dX6_find_67 : decode cX6_find 67 = .ok (.iconst 1, 1) := by decide +kernel
theorem dX6_find_68 : decode cX6_find 68 = .ok (.isub, 1) := by decide +kernel
theorem dX6_find_69 : decode cX6_find 69 = .ok (.istore 6, 2) := by decide +kernel
theorem dX6_find_71 : decode cX6_find 71 = .ok (.aload_n 0, 1) := by decide +kernel
theorem dX6_find_72 : decode cX6_find 72 = .ok (.aload_n 1, 1) := by decide +kernel
theorem dX6_find_73 : decode cX6_find 73 = .ok (.invokevirtual 56, 3) := by decide +kernel
theorem dX6_find_76 : decode cX6_find 76 = .ok (.iload 6, 2) := by decide +kernel
theorem dX6_find_78 : decode cX6_find 78 = .ok (.iload 4, 2) := by decide +kernel
theorem dX6_find_80 : decode cX6_find 80 = .ok (.ishl, 1) := by decide +kernel
theorem dX6_find_81 : decode cX6_find 81 = .ok (.iconst (-1), 1) := by decide +kernel
theorem dX6_find_82 : decode cX6_find 82 = .ok (.ixor, 1) := by decide +kernel
theorem dX6_find_83 : decode cX6_find 83 = .ok (.iand, 1) := by decide +kernel
theorem dX6_find_84 : decode cX6_find 84 = .ok (.putfield 60, 3) := by decide +kernel
theorem dX6_find_87 : decode cX6_find 87 = .ok (.aload_n 0, 1) := by decide +kernel
theorem dX6_find_88 : decode cX6_find 88 = .ok (.aload_n 1, 1) := by decide +kernel
theorem dX6_find_89 : decode cX6_find 89 = .ok (.invokevirtual 56, 3) := by decide +kernel
theorem dX6_find_92 : decode cX6_find 92 = .ok (.iload 4, 2) := by decide +kernel
theorem dX6_find_94 : decode cX6_find 94 = .ok (.ishr, 1) := by decide +kernel
theorem dX6_find_95 : decode cX6_find 95 = .ok (.iload 6, 2) := by decide +kernel
theorem dX6_find_97 : decode cX6_find 97 = .ok (.iand, 1) := by decide +kernel
theorem dX6_find_98 : decode cX6_find 98 = .ok (.putfield 63, 3) := by decide +kernel
theorem dX6_find_101 : decode cX6_find 101 = .ok (.aload_n 0, 1) := by decide +kernel
theorem dX6_find_102 : decode cX6_find 102 = .ok (.aload_n 1, 1) := by decide +kernel
theorem dX6_find_103 : decode cX6_find 103 = .ok (.invokevirtual 66, 3) := by decide +kernel
theorem dX6_find_106 : decode cX6_find 106 = .ok (.aload_n 0, 1) := by decide +kernel
theorem dX6_find_107 : decode cX6_find 107 = .ok (.aload_n 1, 1) := by decide +kernel
theorem dX6_find_108 : decode cX6_find 108 = .ok (.invokevirtual 70, 3) := by decide +kernel
theorem dX6_find_111 : decode cX6_find 111 = .ok (.aload_n 0, 1) := by decide +kernel
theorem dX6_find_112 : decode cX6_find 112 = .ok (.getfield 37, 3) := by decide +kernel
theorem dX6_find_115 : decode cX6_find 115 = .ok (.ifCond .ne 11, 3) := by decide +kernel
theorem dX6_find_118 : decode cX6_find 118 = .ok (.aload_n 0, 1) := by decide +kernel
theorem dX6_find_119 : decode cX6_find 119 = .ok (.aload_n 1, 1) := by decide +kernel
theorem dX6_find_120 : decode cX6_find 120 = .ok (.invokevirtual 73, 3) := by decide +kernel
theorem dX6_find_123 : decode cX6_find 123 = .ok (.goto 9, 3) := by decide +kernel
theorem dX6_find_126 : decode cX6_find 126 = .ok (.aload_n 0, 1) := by decide +kernel
theorem dX6_find_127 : decode cX6_find 127 = .ok (.aload_n 1, 1) := by decide +kernel
theorem dX6_find_128 : decode cX6_find 128 = .ok (.aload_n 2, 1) := by decide +kernel
theorem dX6_find_129 : decode cX6_find 129 = .ok (.invokevirtual 76, 3) := by decide +kernel
theorem dX6_find_132 : decode cX6_find 132 = .ok (.aload_n 0, 1) := by decide +kernel
theorem dX6_find_133 : decode cX6_find 133 = .ok (.invokevirtual 80, 3) := by decide +kernel
theorem dX6_find_136 : decode cX6_find 136 = .ok (.aload_n 0, 1) := by decide +kernel
theorem dX6_find_137 : decode cX6_find 137 = .ok (.invokevirtual 83, 3) := by decide +kernel
theorem dX6_find_140 : decode cX6_find 140 = .ok (.aload_n 0, 1) := by decide +kernel
theorem dX6_find_141 : decode cX6_find 141 = .ok (.aload_n 1, 1) := by decide +kernel
theorem dX6_find_142 : decode cX6_find 142 = .ok (.invokevirtual 86, 3) := by decide +kernel
theorem dX6_find_145 : decode cX6_find 145 = .ok (.aload_n 0, 1) := by decide +kernel
theorem dX6_find_146 : decode cX6_find 146 = .ok (.aload_n 1, 1) := by decide +kernel
theorem dX6_find_147 : decode cX6_find 147 = .ok (.iconst 0, 1) := by decide +kernel
theorem dX6_find_148 : decode cX6_find 148 = .ok (.iconst 0, 1) := by decide +kernel
theorem dX6_find_149 : decode cX6_find 149 = .ok (.iconst 0, 1) := by decide +kernel
theorem dX6_find_150 : decode cX6_find 150 = .ok (.invokestatic 89, 3) := by decide +kernel
theorem dX6_find_153 : decode cX6_find 153 = .ok (.aload_n 0, 1) := by decide +kernel
theorem dX6_find_154 : decode cX6_find 154 = .ok (.iconst 1, 1) := by decide +kernel
theorem dX6_find_155 : decode cX6_find 155 = .ok (.putfield 33, 3) := by decide +kernel
theorem dX6_find_158 : decode cX6_find 158 = .ok (.return_, 1) := by decide +kernel
theorem dX6_contactBits_0 : decode cX6_contactBits 0 = .ok (.aload_n 0, 1) := by decide +kernel
theorem dX6_contactBits_1 : decode cX6_contactBits 1 = .ok (.getfield 60, 3) := by decide +kernel
theorem dX6_contactBits_4 : decode cX6_contactBits 4 = .ok (.iload_n 1, 1) := by decide +kernel
theorem dX6_contactBits_5 : decode cX6_contactBits 5 = .ok (.aload_n 0, 1) := by decide +kernel
theorem dX6_contactBits_6 : decode cX6_contactBits 6 = .ok (.getfield 41, 3) := by decide +kernel
theorem dX6_contactBits_9 : decode cX6_contactBits 9 = .ok (.ishl, 1) := by decide +kernel
theorem dX6_contactBits_10 : decode cX6_contactBits 10 = .ok (.ior, 1) := by decide +kernel
theorem dX6_contactBits_11 : decode cX6_contactBits 11 = .ok (.ireturn, 1) := by decide +kernel
theorem dX6_findOpen_0 : decode cX6_findOpen 0 = .ok (.iconst 0, 1) := by decide +kernel
theorem dX6_findOpen_1 : decode cX6_findOpen 1 = .ok (.istore_n 2, 1) := by decide +kernel
theorem dX6_findOpen_2 : decode cX6_findOpen 2 = .ok (.iload_n 2, 1) := by decide +kernel
theorem dX6_findOpen_3 : decode cX6_findOpen 3 = .ok (.aload_n 0, 1) := by decide +kernel
theorem dX6_findOpen_4 : decode cX6_findOpen 4 = .ok (.getfield 53, 3) := by decide +kernel
theorem dX6_findOpen_7 : decode cX6_findOpen 7 = .ok (.if_icmp .ge 82, 3) := by decide +kernel
theorem dX6_findOpen_10 : decode cX6_findOpen 10 = .ok (.aload_n 0, 1) := by decide +kernel
theorem dX6_findOpen_11 : decode cX6_findOpen 11 = .ok (.getfield 9, 3) := by decide +kernel
theorem dX6_findOpen_14 : decode cX6_findOpen 14 = .ok (.iload_n 2, 1) := by decide +kernel
theorem dX6_findOpen_15 : decode cX6_findOpen 15 = .ok (.iconst 0, 1) := by decide +kernel
theorem dX6_findOpen_16 : decode cX6_findOpen 16 = .ok (.iastore, 1) := by decide +kernel
theorem dX6_findOpen_17 : decode cX6_findOpen 17 = .ok (.iconst 0, 1) := by decide +kernel
theorem dX6_findOpen_18 : decode cX6_findOpen 18 = .ok (.istore_n 3, 1) := by decide +kernel
theorem dX6_findOpen_19 : decode cX6_findOpen 19 = .ok (.iload_n 3, 1) := by decide +kernel
theorem dX6_findOpen_20 : decode cX6_findOpen 20 = .ok (.aload_n 1, 1) := by decide +kernel
theorem dX6_findOpen_21 : decode cX6_findOpen 21 = .ok (.getfield 93, 3) := by decide +kernel
theorem dX6_findOpen_24 : decode cX6_findOpen 24 = .ok (.getfield 97, 3) := by decide +kernel
theorem dX6_findOpen_27 : decode cX6_findOpen 27 = .ok (.getfield 103, 3) := by decide +kernel
theorem dX6_findOpen_30 : decode cX6_findOpen 30 = .ok (.if_icmp .ge 53, 3) := by decide +kernel
theorem dX6_findOpen_33 : decode cX6_findOpen 33 = .ok (.aload_n 1, 1) := by decide +kernel
theorem dX6_findOpen_34 : decode cX6_findOpen 34 = .ok (.aload_n 0, 1) := by decide +kernel
theorem dX6_findOpen_35 : decode cX6_findOpen 35 = .ok (.getfield 41, 3) := by decide +kernel
theorem dX6_findOpen_38 : decode cX6_findOpen 38 = .ok (.iload_n 2, 1) := by decide +kernel
theorem dX6_findOpen_39 : decode cX6_findOpen 39 = .ok (.iadd, 1) := by decide +kernel
theorem dX6_findOpen_40 : decode cX6_findOpen 40 = .ok (.iload_n 3, 1) := by decide +kernel
theorem dX6_findOpen_41 : decode cX6_findOpen 41 = .ok (.invokevirtual 108, 3) := by decide +kernel
theorem dX6_findOpen_44 : decode cX6_findOpen 44 = .ok (.ifCond .eq 33, 3) := by decide +kernel
theorem dX6_findOpen_47 : decode cX6_findOpen 47 = .ok (.aload_n 1, 1) := by decide +kernel
theorem dX6_findOpen_48 : decode cX6_findOpen 48 = .ok (.aload_n 0, 1) := by decide +kernel
theorem dX6_findOpen_49 : decode cX6_findOpen 49 = .ok (.getfield 60, 3) := by decide +kernel
theorem dX6_findOpen_52 : decode cX6_findOpen 52 = .ok (.aload_n 0, 1) := by decide +kernel
theorem dX6_findOpen_53 : decode cX6_findOpen 53 = .ok (.getfield 41, 3) := by decide +kernel
theorem dX6_findOpen_56 : decode cX6_findOpen 56 = .ok (.iload_n 2, 1) := by decide +kernel
theorem dX6_findOpen_57 : decode cX6_findOpen 57 = .ok (.iadd, 1) := by decide +kernel
theorem dX6_findOpen_58 : decode cX6_findOpen 58 = .ok (.iload_n 3, 1) := by decide +kernel
theorem dX6_findOpen_59 : decode cX6_findOpen 59 = .ok (.invokevirtual 112, 3) := by decide +kernel
theorem dX6_findOpen_62 : decode cX6_findOpen 62 = .ok (.ifCond .ne 15, 3) := by decide +kernel
theorem dX6_findOpen_65 : decode cX6_findOpen 65 = .ok (.aload_n 0, 1) := by decide +kernel
theorem dX6_findOpen_66 : decode cX6_findOpen 66 = .ok (.getfield 9, 3) := by decide +kernel
theorem dX6_findOpen_69 : decode cX6_findOpen 69 = .ok (.iload_n 2, 1) := by decide +kernel
theorem dX6_findOpen_70 : decode cX6_findOpen 70 = .ok (.dup2, 1) := by decide +kernel
theorem dX6_findOpen_71 : decode cX6_findOpen 71 = .ok (.iaload, 1) := by decide +kernel
theorem dX6_findOpen_72 : decode cX6_findOpen 72 = .ok (.iconst 1, 1) := by decide +kernel
theorem dX6_findOpen_73 : decode cX6_findOpen 73 = .ok (.iload_n 3, 1) := by decide +kernel
theorem dX6_findOpen_74 : decode cX6_findOpen 74 = .ok (.ishl, 1) := by decide +kernel
theorem dX6_findOpen_75 : decode cX6_findOpen 75 = .ok (.ior, 1) := by decide +kernel
theorem dX6_findOpen_76 : decode cX6_findOpen 76 = .ok (.iastore, 1) := by decide +kernel
theorem dX6_findOpen_77 : decode cX6_findOpen 77 = .ok (.iinc 3 1, 3) := by decide +kernel
theorem dX6_findOpen_80 : decode cX6_findOpen 80 = .ok (.goto (-61), 3) := by decide +kernel
theorem dX6_findOpen_83 : decode cX6_findOpen 83 = .ok (.iinc 2 1, 3) := by decide +kernel
theorem dX6_findOpen_86 : decode cX6_findOpen 86 = .ok (.goto (-84), 3) := by decide +kernel
theorem dX6_findOpen_89 : decode cX6_findOpen 89 = .ok (.return_, 1) := by decide +kernel
theorem dX6_findApart_0 : decode cX6_findApart 0 = .ok (.iconst 0, 1) := by decide +kernel
theorem dX6_findApart_1 : decode cX6_findApart 1 = .ok (.istore_n 2, 1) := by decide +kernel
theorem dX6_findApart_2 : decode cX6_findApart 2 = .ok (.iload_n 2, 1) := by decide +kernel
theorem dX6_findApart_3 : decode cX6_findApart 3 = .ok (.aload_n 0, 1) := by decide +kernel
theorem dX6_findApart_4 : decode cX6_findApart 4 = .ok (.getfield 53, 3) := by decide +kernel
theorem dX6_findApart_7 : decode cX6_findApart 7 = .ok (.if_icmp .ge 135, 3) := by decide +kernel
theorem dX6_findApart_10 : decode cX6_findApart 10 = .ok (.aload_n 0, 1) := by decide +kernel
theorem dX6_findApart_11 : decode cX6_findApart 11 = .ok (.getfield 18, 3) := by decide +kernel
theorem dX6_findApart_14 : decode cX6_findApart 14 = .ok (.iload_n 2, 1) := by decide +kernel
theorem dX6_findApart_15 : decode cX6_findApart 15 = .ok (.iconst 0, 1) := by decide +kernel
theorem dX6_findApart_16 : decode cX6_findApart 16 = .ok (.iastore, 1) := by decide +kernel
theorem dX6_findApart_17 : decode cX6_findApart 17 = .ok (.iconst 0, 1) := by decide +kernel
theorem dX6_findApart_18 : decode cX6_findApart 18 = .ok (.istore_n 3, 1) := by decide +kernel
theorem dX6_findApart_19 : decode cX6_findApart 19 = .ok (.iload_n 3, 1) := by decide +kernel
theorem dX6_findApart_20 : decode cX6_findApart 20 = .ok (.iload_n 2, 1) := by decide +kernel
theorem dX6_findApart_21 : decode cX6_findApart 21 = .ok (.if_icmp .ge 115, 3) := by decide +kernel
theorem dX6_findApart_24 : decode cX6_findApart 24 = .ok (.aload_n 1, 1) := by decide +kernel
theorem dX6_findApart_25 : decode cX6_findApart 25 = .ok (.aload_n 0, 1) := by decide +kernel
theorem dX6_findApart_26 : decode cX6_findApart 26 = .ok (.getfield 41, 3) := by decide +kernel
theorem dX6_findApart_29 : decode cX6_findApart 29 = .ok (.iload_n 3, 1) := by decide +kernel
theorem dX6_findApart_30 : decode cX6_findApart 30 = .ok (.iadd, 1) := by decide +kernel
theorem dX6_findApart_31 : decode cX6_findApart 31 = .ok (.aload_n 0, 1) := by decide +kernel
theorem dX6_findApart_32 : decode cX6_findApart 32 = .ok (.getfield 41, 3) := by decide +kernel
theorem dX6_findApart_35 : decode cX6_findApart 35 = .ok (.iload_n 2, 1) := by decide +kernel
theorem dX6_findApart_36 : decode cX6_findApart 36 = .ok (.iadd, 1) := by decide +kernel
theorem dX6_findApart_37 : decode cX6_findApart 37 = .ok (.invokevirtual 116, 3) := by decide +kernel
theorem dX6_findApart_40 : decode cX6_findApart 40 = .ok (.ifCond .eq 15, 3) := by decide +kernel
theorem dX6_findApart_43 : decode cX6_findApart 43 = .ok (.aload_n 0, 1) := by decide +kernel
theorem dX6_findApart_44 : decode cX6_findApart 44 = .ok (.getfield 18, 3) := by decide +kernel
theorem dX6_findApart_47 : decode cX6_findApart 47 = .ok (.iload_n 2, 1) := by decide +kernel
theorem dX6_findApart_48 : decode cX6_findApart 48 = .ok (.dup2, 1) := by decide +kernel
theorem dX6_findApart_49 : decode cX6_findApart 49 = .ok (.iaload, 1) := by decide +kernel
theorem dX6_findApart_50 : decode cX6_findApart 50 = .ok (.iconst 1, 1) := by decide +kernel
theorem dX6_findApart_51 : decode cX6_findApart 51 = .ok (.iload_n 3, 1) := by decide +kernel
theorem dX6_findApart_52 : decode cX6_findApart 52 = .ok (.ishl, 1) := by decide +kernel
theorem dX6_findApart_53 : decode cX6_findApart 53 = .ok (.ior, 1) := by decide +kernel
theorem dX6_findApart_54 : decode cX6_findApart 54 = .ok (.iastore, 1) := by decide +kernel
theorem dX6_findApart_55 : decode cX6_findApart 55 = .ok (.aload_n 0, 1) := by decide +kernel
theorem dX6_findApart_56 : decode cX6_findApart 56 = .ok (.getfield 15, 3) := by decide +kernel
theorem dX6_findApart_59 : decode cX6_findApart 59 = .ok (.iload_n 3, 1) := by decide +kernel
theorem dX6_findApart_60 : decode cX6_findApart 60 = .ok (.bipush 6, 2) := by decide +kernel
theorem dX6_findApart_62 : decode cX6_findApart 62 = .ok (.imul, 1) := by decide +kernel
theorem dX6_findApart_63 : decode cX6_findApart 63 = .ok (.iload_n 2, 1) := by decide +kernel
theorem dX6_findApart_64 : decode cX6_findApart 64 = .ok (.iadd, 1) := by decide +kernel
theorem dX6_findApart_65 : decode cX6_findApart 65 = .ok (.iconst 0, 1) := by decide +kernel
theorem dX6_findApart_66 : decode cX6_findApart 66 = .ok (.iastore, 1) := by decide +kernel
theorem dX6_findApart_67 : decode cX6_findApart 67 = .ok (.iconst 0, 1) := by decide +kernel
theorem dX6_findApart_68 : decode cX6_findApart 68 = .ok (.istore 4, 2) := by decide +kernel
theorem dX6_findApart_70 : decode cX6_findApart 70 = .ok (.iload 4, 2) := by decide +kernel
theorem dX6_findApart_72 : decode cX6_findApart 72 = .ok (.aload_n 1, 1) := by decide +kernel
theorem dX6_findApart_73 : decode cX6_findApart 73 = .ok (.getfield 93, 3) := by decide +kernel
theorem dX6_findApart_76 : decode cX6_findApart 76 = .ok (.getfield 97, 3) := by decide +kernel
theorem dX6_findApart_79 : decode cX6_findApart 79 = .ok (.getfield 103, 3) := by decide +kernel
theorem dX6_findApart_82 : decode cX6_findApart 82 = .ok (.if_icmp .ge 48, 3) := by decide +kernel
theorem dX6_findApart_85 : decode cX6_findApart 85 = .ok (.aload_n 1, 1) := by decide +kernel
theorem dX6_findApart_86 : decode cX6_findApart 86 = .ok (.aload_n 0, 1) := by decide +kernel
theorem dX6_findApart_87 : decode cX6_findApart 87 = .ok (.getfield 41, 3) := by decide +kernel
theorem dX6_findApart_90 : decode cX6_findApart 90 = .ok (.iload_n 3, 1) := by decide +kernel
theorem dX6_findApart_91 : decode cX6_findApart 91 = .ok (.iadd, 1) := by decide +kernel
theorem dX6_findApart_92 : decode cX6_findApart 92 = .ok (.aload_n 0, 1) := by decide +kernel
theorem dX6_findApart_93 : decode cX6_findApart 93 = .ok (.getfield 41, 3) := by decide +kernel
theorem dX6_findApart_96 : decode cX6_findApart 96 = .ok (.iload_n 2, 1) := by decide +kernel
theorem dX6_findApart_97 : decode cX6_findApart 97 = .ok (.iadd, 1) := by decide +kernel
theorem dX6_findApart_98 : decode cX6_findApart 98 = .ok (.iload 4, 2) := by decide +kernel
theorem dX6_findApart_100 : decode cX6_findApart 100 = .ok (.invokevirtual 119, 3) := by decide +kernel
theorem dX6_findApart_103 : decode cX6_findApart 103 = .ok (.ifCond .ne 21, 3) := by decide +kernel
theorem dX6_findApart_106 : decode cX6_findApart 106 = .ok (.aload_n 0, 1) := by decide +kernel
theorem dX6_findApart_107 : decode cX6_findApart 107 = .ok (.getfield 15, 3) := by decide +kernel
theorem dX6_findApart_110 : decode cX6_findApart 110 = .ok (.iload_n 3, 1) := by decide +kernel
theorem dX6_findApart_111 : decode cX6_findApart 111 = .ok (.bipush 6, 2) := by decide +kernel
theorem dX6_findApart_113 : decode cX6_findApart 113 = .ok (.imul, 1) := by decide +kernel
theorem dX6_findApart_114 : decode cX6_findApart 114 = .ok (.iload_n 2, 1) := by decide +kernel
theorem dX6_findApart_115 : decode cX6_findApart 115 = .ok (.iadd, 1) := by decide +kernel
theorem dX6_findApart_116 : decode cX6_findApart 116 = .ok (.dup2, 1) := by decide +kernel
theorem dX6_findApart_117 : decode cX6_findApart 117 = .ok (.iaload, 1) := by decide +kernel
theorem dX6_findApart_118 : decode cX6_findApart 118 = .ok (.iconst 1, 1) := by decide +kernel
theorem dX6_findApart_119 : decode cX6_findApart 119 = .ok (.iload 4, 2) := by decide +kernel
theorem dX6_findApart_121 : decode cX6_findApart 121 = .ok (.ishl, 1) := by decide +kernel
theorem dX6_findApart_122 : decode cX6_findApart 122 = .ok (.ior, 1) := by decide +kernel
theorem dX6_findApart_123 : decode cX6_findApart 123 = .ok (.iastore, 1) := by decide +kernel
theorem dX6_findApart_124 : decode cX6_findApart 124 = .ok (.iinc 4 1, 3) := by decide +kernel
theorem dX6_findApart_127 : decode cX6_findApart 127 = .ok (.goto (-57), 3) := by decide +kernel
theorem dX6_findApart_130 : decode cX6_findApart 130 = .ok (.iinc 3 1, 3) := by decide +kernel
theorem dX6_findApart_133 : decode cX6_findApart 133 = .ok (.goto (-114), 3) := by decide +kernel
theorem dX6_findApart_136 : decode cX6_findApart 136 = .ok (.iinc 2 1, 3) := by decide +kernel
theorem dX6_findApart_139 : decode cX6_findApart 139 = .ok (.goto (-137), 3) := by decide +kernel
theorem dX6_findApart_142 : decode cX6_findApart 142 = .ok (.return_, 1) := by decide +kernel
theorem dX6_weighVolumes_0 : decode cX6_weighVolumes 0 = .ok (.iconst 0, 1) := by decide +kernel
theorem dX6_weighVolumes_1 : decode cX6_weighVolumes 1 = .ok (.istore_n 2, 1) := by decide +kernel
theorem dX6_weighVolumes_2 : decode cX6_weighVolumes 2 = .ok (.iload_n 2, 1) := by decide +kernel
theorem dX6_weighVolumes_3 : decode cX6_weighVolumes 3 = .ok (.iconst 1, 1) := by decide +kernel
theorem dX6_weighVolumes_4 : decode cX6_weighVolumes 4 = .ok (.aload_n 0, 1) := by decide +kernel
theorem dX6_weighVolumes_5 : decode cX6_weighVolumes 5 = .ok (.getfield 53, 3) := by decide +kernel
theorem dX6_weighVolumes_8 : decode cX6_weighVolumes 8 = .ok (.ishl, 1) := by decide +kernel
theorem dX6_weighVolumes_9 : decode cX6_weighVolumes 9 = .ok (.if_icmp .ge 33, 3) := by decide +kernel
theorem dX6_weighVolumes_12 : decode cX6_weighVolumes 12 = .ok (.aload_n 0, 1) := by decide +kernel
theorem dX6_weighVolumes_13 : decode cX6_weighVolumes 13 = .ok (.getfield 21, 3) := by decide +kernel
theorem dX6_weighVolumes_16 : decode cX6_weighVolumes 16 = .ok (.iconst 1, 1) := by decide +kernel
theorem dX6_weighVolumes_17 : decode cX6_weighVolumes 17 = .ok (.aload_n 0, 1) := by decide +kernel
theorem dX6_weighVolumes_18 : decode cX6_weighVolumes 18 = .ok (.getfield 53, 3) := by decide +kernel
theorem dX6_weighVolumes_21 : decode cX6_weighVolumes 21 = .ok (.ishl, 1) := by decide +kernel
theorem dX6_weighVolumes_22 : decode cX6_weighVolumes 22 = .ok (.iload_n 2, 1) := by decide +kernel
theorem dX6_weighVolumes_23 : decode cX6_weighVolumes 23 = .ok (.iadd, 1) := by decide +kernel
theorem dX6_weighVolumes_24 : decode cX6_weighVolumes 24 = .ok (.aload_n 1, 1) := by decide +kernel
theorem dX6_weighVolumes_25 : decode cX6_weighVolumes 25 = .ok (.iload_n 2, 1) := by decide +kernel
theorem dX6_weighVolumes_26 : decode cX6_weighVolumes 26 = .ok (.aload_n 0, 1) := by decide +kernel
theorem dX6_weighVolumes_27 : decode cX6_weighVolumes 27 = .ok (.getfield 41, 3) := by decide +kernel
theorem dX6_weighVolumes_30 : decode cX6_weighVolumes 30 = .ok (.ishl, 1) := by decide +kernel
theorem dX6_weighVolumes_31 : decode cX6_weighVolumes 31 = .ok (.invokevirtual 123, 3) := by decide +kernel
theorem dX6_weighVolumes_34 : decode cX6_weighVolumes 34 = .ok (.ineg, 1) := by decide +kernel
theorem dX6_weighVolumes_35 : decode cX6_weighVolumes 35 = .ok (.iastore, 1) := by decide +kernel
theorem dX6_weighVolumes_36 : decode cX6_weighVolumes 36 = .ok (.iinc 2 1, 3) := by decide +kernel
theorem dX6_weighVolumes_39 : decode cX6_weighVolumes 39 = .ok (.goto (-37), 3) := by decide +kernel
theorem dX6_weighVolumes_42 : decode cX6_weighVolumes 42 = .ok (.return_, 1) := by decide +kernel
theorem dX6_weighLosses_0 : decode cX6_weighLosses 0 = .ok (.aload_n 0, 1) := by decide +kernel
theorem dX6_weighLosses_1 : decode cX6_weighLosses 1 = .ok (.getfield 21, 3) := by decide +kernel
theorem dX6_weighLosses_4 : decode cX6_weighLosses 4 = .ok (.iconst 0, 1) := by decide +kernel
theorem dX6_weighLosses_5 : decode cX6_weighLosses 5 = .ok (.invokestatic 126, 3) := by decide +kernel
theorem dX6_weighLosses_8 : decode cX6_weighLosses 8 = .ok (.iconst 0, 1) := by decide +kernel
theorem dX6_weighLosses_9 : decode cX6_weighLosses 9 = .ok (.istore_n 3, 1) := by decide +kernel
theorem dX6_weighLosses_10 : decode cX6_weighLosses 10 = .ok (.iload_n 3, 1) := by decide +kernel
theorem dX6_weighLosses_11 : decode cX6_weighLosses 11 = .ok (.aload_n 1, 1) := by decide +kernel
theorem dX6_weighLosses_12 : decode cX6_weighLosses 12 = .ok (.getfield 93, 3) := by decide +kernel
theorem dX6_weighLosses_15 : decode cX6_weighLosses 15 = .ok (.getfield 132, 3) := by decide +kernel
theorem dX6_weighLosses_18 : decode cX6_weighLosses 18 = .ok (.getfield 103, 3) := by decide +kernel
theorem dX6_weighLosses_21 : decode cX6_weighLosses 21 = .ok (.if_icmp .ge 99, 3) := by decide +kernel
theorem dX6_weighLosses_24 : decode cX6_weighLosses 24 = .ok (.aload_n 0, 1) := by decide +kernel
theorem dX6_weighLosses_25 : decode cX6_weighLosses 25 = .ok (.aload_n 1, 1) := by decide +kernel
theorem dX6_weighLosses_26 : decode cX6_weighLosses 26 = .ok (.iload_n 3, 1) := by decide +kernel
theorem dX6_weighLosses_27 : decode cX6_weighLosses 27 = .ok (.invokevirtual 135, 3) := by decide +kernel
theorem dX6_weighLosses_30 : decode cX6_weighLosses 30 = .ok (.istore 4, 2) := by decide +kernel
theorem dX6_weighLosses_32 : decode cX6_weighLosses 32 = .ok (.iconst 0, 1) := by decide +kernel
theorem dX6_weighLosses_33 : decode cX6_weighLosses 33 = .ok (.istore 5, 2) := by decide +kernel
theorem dX6_weighLosses_35 : decode cX6_weighLosses 35 = .ok (.iload 5, 2) := by decide +kernel
theorem dX6_weighLosses_37 : decode cX6_weighLosses 37 = .ok (.iconst 1, 1) := by decide +kernel
theorem dX6_weighLosses_38 : decode cX6_weighLosses 38 = .ok (.aload_n 0, 1) := by decide +kernel
theorem dX6_weighLosses_39 : decode cX6_weighLosses 39 = .ok (.getfield 53, 3) := by decide +kernel
theorem dX6_weighLosses_42 : decode cX6_weighLosses 42 = .ok (.ishl, 1) := by decide +kernel
theorem dX6_weighLosses_43 : decode cX6_weighLosses 43 = .ok (.if_icmp .ge 71, 3) := by decide +kernel
theorem dX6_weighLosses_46 : decode cX6_weighLosses 46 = .ok (.iload 5, 2) := by decide +kernel
theorem dX6_weighLosses_48 : decode cX6_weighLosses 48 = .ok (.iload 4, 2) := by decide +kernel
theorem dX6_weighLosses_50 : decode cX6_weighLosses 50 = .ok (.iconst (-1), 1) := by decide +kernel
theorem dX6_weighLosses_51 : decode cX6_weighLosses 51 = .ok (.ixor, 1) := by decide +kernel
theorem dX6_weighLosses_52 : decode cX6_weighLosses 52 = .ok (.iand, 1) := by decide +kernel
theorem dX6_weighLosses_53 : decode cX6_weighLosses 53 = .ok (.ifCond .ne 28, 3) := by decide +kernel
theorem dX6_weighLosses_56 : decode cX6_weighLosses 56 = .ok (.aload_n 2, 1) := by decide +kernel
theorem dX6_weighLosses_57 : decode cX6_weighLosses 57 = .ok (.aload_n 1, 1) := by decide +kernel
theorem dX6_weighLosses_58 : decode cX6_weighLosses 58 = .ok (.iload_n 3, 1) := by decide +kernel
theorem dX6_weighLosses_59 : decode cX6_weighLosses 59 = .ok (.aload_n 0, 1) := by decide +kernel
theorem dX6_weighLosses_60 : decode cX6_weighLosses 60 = .ok (.iload 5, 2) := by decide +kernel
theorem dX6_weighLosses_62 : decode cX6_weighLosses 62 = .ok (.invokevirtual 139, 3) := by decide +kernel
theorem dX6_weighLosses_65 : decode cX6_weighLosses 65 = .ok (.bipush 59, 2) := by decide +kernel
theorem dX6_weighLosses_67 : decode cX6_weighLosses 67 = .ok (.invokevirtual 141, 3) := by decide +kernel
theorem dX6_weighLosses_70 : decode cX6_weighLosses 70 = .ok (.aload_n 0, 1) := by decide +kernel
theorem dX6_weighLosses_71 : decode cX6_weighLosses 71 = .ok (.getfield 24, 3) := by decide +kernel
theorem dX6_weighLosses_74 : decode cX6_weighLosses 74 = .ok (.iload 5, 2) := by decide +kernel
theorem dX6_weighLosses_76 : decode cX6_weighLosses 76 = .ok (.aload_n 2, 1) := by decide +kernel
theorem dX6_weighLosses_77 : decode cX6_weighLosses 77 = .ok (.getfield 147, 3) := by decide +kernel
theorem dX6_weighLosses_80 : decode cX6_weighLosses 80 = .ok (.iastore, 1) := by decide +kernel
theorem dX6_weighLosses_81 : decode cX6_weighLosses 81 = .ok (.aload_n 0, 1) := by decide +kernel
theorem dX6_weighLosses_82 : decode cX6_weighLosses 82 = .ok (.getfield 21, 3) := by decide +kernel
theorem dX6_weighLosses_85 : decode cX6_weighLosses 85 = .ok (.iconst 1, 1) := by decide +kernel
theorem dX6_weighLosses_86 : decode cX6_weighLosses 86 = .ok (.aload_n 0, 1) := by decide +kernel
theorem dX6_weighLosses_87 : decode cX6_weighLosses 87 = .ok (.getfield 53, 3) := by decide +kernel
theorem dX6_weighLosses_90 : decode cX6_weighLosses 90 = .ok (.ishl, 1) := by decide +kernel
theorem dX6_weighLosses_91 : decode cX6_weighLosses 91 = .ok (.iload 5, 2) := by decide +kernel
theorem dX6_weighLosses_93 : decode cX6_weighLosses 93 = .ok (.iadd, 1) := by decide +kernel
theorem dX6_weighLosses_94 : decode cX6_weighLosses 94 = .ok (.dup2, 1) := by decide +kernel
theorem dX6_weighLosses_95 : decode cX6_weighLosses 95 = .ok (.iaload, 1) := by decide +kernel
theorem dX6_weighLosses_96 : decode cX6_weighLosses 96 = .ok (.aload_n 0, 1) := by decide +kernel
theorem dX6_weighLosses_97 : decode cX6_weighLosses 97 = .ok (.getfield 24, 3) := by decide +kernel
theorem dX6_weighLosses_100 : decode cX6_weighLosses 100 = .ok (.iload 5, 2) := by decide +kernel
theorem dX6_weighLosses_102 : decode cX6_weighLosses 102 = .ok (.iload 4, 2) := by decide +kernel
theorem dX6_weighLosses_104 : decode cX6_weighLosses 104 = .ok (.iand, 1) := by decide +kernel
theorem dX6_weighLosses_105 : decode cX6_weighLosses 105 = .ok (.iaload, 1) := by decide +kernel
theorem dX6_weighLosses_106 : decode cX6_weighLosses 106 = .ok (.iadd, 1) := by decide +kernel
theorem dX6_weighLosses_107 : decode cX6_weighLosses 107 = .ok (.iastore, 1) := by decide +kernel
theorem dX6_weighLosses_108 : decode cX6_weighLosses 108 = .ok (.iinc 5 1, 3) := by decide +kernel
theorem dX6_weighLosses_111 : decode cX6_weighLosses 111 = .ok (.goto (-76), 3) := by decide +kernel
theorem dX6_weighLosses_114 : decode cX6_weighLosses 114 = .ok (.iinc 3 1, 3) := by decide +kernel
theorem dX6_weighLosses_117 : decode cX6_weighLosses 117 = .ok (.goto (-107), 3) := by decide +kernel
theorem dX6_weighLosses_120 : decode cX6_weighLosses 120 = .ok (.return_, 1) := by decide +kernel
theorem dX6_passesOf_0 : decode cX6_passesOf 0 = .ok (.iconst 0, 1) := by decide +kernel
theorem dX6_passesOf_1 : decode cX6_passesOf 1 = .ok (.istore_n 3, 1) := by decide +kernel
theorem dX6_passesOf_2 : decode cX6_passesOf 2 = .ok (.iconst 0, 1) := by decide +kernel
theorem dX6_passesOf_3 : decode cX6_passesOf 3 = .ok (.istore 4, 2) := by decide +kernel
theorem dX6_passesOf_5 : decode cX6_passesOf 5 = .ok (.iload 4, 2) := by decide +kernel
theorem dX6_passesOf_7 : decode cX6_passesOf 7 = .ok (.aload_n 0, 1) := by decide +kernel
theorem dX6_passesOf_8 : decode cX6_passesOf 8 = .ok (.getfield 53, 3) := by decide +kernel
theorem dX6_passesOf_11 : decode cX6_passesOf 11 = .ok (.if_icmp .ge 35, 3) := by decide +kernel
theorem dX6_passesOf_14 : decode cX6_passesOf 14 = .ok (.aload_n 1, 1) := by decide +kernel
theorem dX6_passesOf_15 : decode cX6_passesOf 15 = .ok (.getfield 150, 3) := by decide +kernel
theorem dX6_passesOf_18 : decode cX6_passesOf 18 = .ok (.getfield 154, 3) := by decide +kernel
theorem dX6_passesOf_21 : decode cX6_passesOf 21 = .ok (.aload_n 0, 1) := by decide +kernel
theorem dX6_passesOf_22 : decode cX6_passesOf 22 = .ok (.getfield 41, 3) := by decide +kernel
theorem dX6_passesOf_25 : decode cX6_passesOf 25 = .ok (.iload 4, 2) := by decide +kernel
theorem dX6_passesOf_27 : decode cX6_passesOf 27 = .ok (.iadd, 1) := by decide +kernel
theorem dX6_passesOf_28 : decode cX6_passesOf 28 = .ok (.iaload, 1) := by decide +kernel
theorem dX6_passesOf_29 : decode cX6_passesOf 29 = .ok (.iload_n 2, 1) := by decide +kernel
theorem dX6_passesOf_30 : decode cX6_passesOf 30 = .ok (.if_icmp .ne 10, 3) := by decide +kernel
theorem dX6_passesOf_33 : decode cX6_passesOf 33 = .ok (.iload_n 3, 1) := by decide +kernel
theorem dX6_passesOf_34 : decode cX6_passesOf 34 = .ok (.iconst 1, 1) := by decide +kernel
theorem dX6_passesOf_35 : decode cX6_passesOf 35 = .ok (.iload 4, 2) := by decide +kernel
theorem dX6_passesOf_37 : decode cX6_passesOf 37 = .ok (.ishl, 1) := by decide +kernel
theorem dX6_passesOf_38 : decode cX6_passesOf 38 = .ok (.ior, 1) := by decide +kernel
theorem dX6_passesOf_39 : decode cX6_passesOf 39 = .ok (.istore_n 3, 1) := by decide +kernel
theorem dX6_passesOf_40 : decode cX6_passesOf 40 = .ok (.iinc 4 1, 3) := by decide +kernel
theorem dX6_passesOf_43 : decode cX6_passesOf 43 = .ok (.goto (-38), 3) := by decide +kernel
theorem dX6_passesOf_46 : decode cX6_passesOf 46 = .ok (.iload_n 3, 1) := by decide +kernel
theorem dX6_passesOf_47 : decode cX6_passesOf 47 = .ok (.ireturn, 1) := by decide +kernel
theorem dX6_rankMasks_0 : decode cX6_rankMasks 0 = .ok (.iconst 0, 1) := by decide +kernel
theorem dX6_rankMasks_1 : decode cX6_rankMasks 1 = .ok (.istore_n 1, 1) := by decide +kernel
theorem dX6_rankMasks_2 : decode cX6_rankMasks 2 = .ok (.iload_n 1, 1) := by decide +kernel
theorem dX6_rankMasks_3 : decode cX6_rankMasks 3 = .ok (.iconst 1, 1) := by decide +kernel
theorem dX6_rankMasks_4 : decode cX6_rankMasks 4 = .ok (.aload_n 0, 1) := by decide +kernel
theorem dX6_rankMasks_5 : decode cX6_rankMasks 5 = .ok (.getfield 53, 3) := by decide +kernel
theorem dX6_rankMasks_8 : decode cX6_rankMasks 8 = .ok (.ishl, 1) := by decide +kernel
theorem dX6_rankMasks_9 : decode cX6_rankMasks 9 = .ok (.if_icmp .ge 77, 3) := by decide +kernel
theorem dX6_rankMasks_12 : decode cX6_rankMasks 12 = .ok (.aload_n 0, 1) := by decide +kernel
theorem dX6_rankMasks_13 : decode cX6_rankMasks 13 = .ok (.getfield 21, 3) := by decide +kernel
theorem dX6_rankMasks_16 : decode cX6_rankMasks 16 = .ok (.iconst 1, 1) := by decide +kernel
theorem dX6_rankMasks_17 : decode cX6_rankMasks 17 = .ok (.aload_n 0, 1) := by decide +kernel
theorem dX6_rankMasks_18 : decode cX6_rankMasks 18 = .ok (.getfield 53, 3) := by decide +kernel
theorem dX6_rankMasks_21 : decode cX6_rankMasks 21 = .ok (.ishl, 1) := by decide +kernel
theorem dX6_rankMasks_22 : decode cX6_rankMasks 22 = .ok (.iload_n 1, 1) := by decide +kernel
theorem dX6_rankMasks_23 : decode cX6_rankMasks 23 = .ok (.iadd, 1) := by decide +kernel
theorem dX6_rankMasks_24 : decode cX6_rankMasks 24 = .ok (.iaload, 1) := by decide +kernel
theorem dX6_rankMasks_25 : decode cX6_rankMasks 25 = .ok (.istore_n 2, 1) := by decide +kernel
theorem dX6_rankMasks_26 : decode cX6_rankMasks 26 = .ok (.iload_n 1, 1) := by decide +kernel
theorem dX6_rankMasks_27 : decode cX6_rankMasks 27 = .ok (.aload_n 0, 1) := by decide +kernel
theorem dX6_rankMasks_28 : decode cX6_rankMasks 28 = .ok (.getfield 63, 3) := by decide +kernel
theorem dX6_rankMasks_31 : decode cX6_rankMasks 31 = .ok (.ixor, 1) := by decide +kernel
theorem dX6_rankMasks_32 : decode cX6_rankMasks 32 = .ok (.invokestatic 159, 3) := by decide +kernel
theorem dX6_rankMasks_35 : decode cX6_rankMasks 35 = .ok (.istore_n 3, 1) := by decide +kernel
theorem dX6_rankMasks_36 : decode cX6_rankMasks 36 = .ok (.iload_n 2, 1) := by decide +kernel
theorem dX6_rankMasks_37 : decode cX6_rankMasks 37 = .ok (.bipush 8, 2) := by decide +kernel
theorem dX6_rankMasks_39 : decode cX6_rankMasks 39 = .ok (.imul, 1) := by decide +kernel
theorem dX6_rankMasks_40 : decode cX6_rankMasks 40 = .ok (.iload_n 1, 1) := by decide +kernel
theorem dX6_rankMasks_41 : decode cX6_rankMasks 41 = .ok (.invokestatic 159, 3) := by decide +kernel
theorem dX6_rankMasks_44 : decode cX6_rankMasks 44 = .ok (.iadd, 1) := by decide +kernel
theorem dX6_rankMasks_45 : decode cX6_rankMasks 45 = .ok (.bipush 8, 2) := by decide +kernel
theorem dX6_rankMasks_47 : decode cX6_rankMasks 47 = .ok (.imul, 1) := by decide +kernel
theorem dX6_rankMasks_48 : decode cX6_rankMasks 48 = .ok (.iload_n 3, 1) := by decide +kernel
theorem dX6_rankMasks_49 : decode cX6_rankMasks 49 = .ok (.iadd, 1) := by decide +kernel
theorem dX6_rankMasks_50 : decode cX6_rankMasks 50 = .ok (.istore 4, 2) := by decide +kernel
theorem dX6_rankMasks_52 : decode cX6_rankMasks 52 = .ok (.aload_n 0, 1) := by decide +kernel
theorem dX6_rankMasks_53 : decode cX6_rankMasks 53 = .ok (.getfield 21, 3) := by decide +kernel
theorem dX6_rankMasks_56 : decode cX6_rankMasks 56 = .ok (.iconst 1, 1) := by decide +kernel
theorem dX6_rankMasks_57 : decode cX6_rankMasks 57 = .ok (.aload_n 0, 1) := by decide +kernel
theorem dX6_rankMasks_58 : decode cX6_rankMasks 58 = .ok (.getfield 53, 3) := by decide +kernel
theorem dX6_rankMasks_61 : decode cX6_rankMasks 61 = .ok (.ishl, 1) := by decide +kernel
theorem dX6_rankMasks_62 : decode cX6_rankMasks 62 = .ok (.iload_n 1, 1) := by decide +kernel
theorem dX6_rankMasks_63 : decode cX6_rankMasks 63 = .ok (.iadd, 1) := by decide +kernel
theorem dX6_rankMasks_64 : decode cX6_rankMasks 64 = .ok (.iload_n 3, 1) := by decide +kernel
theorem dX6_rankMasks_65 : decode cX6_rankMasks 65 = .ok (.aload_n 0, 1) := by decide +kernel
theorem dX6_rankMasks_66 : decode cX6_rankMasks 66 = .ok (.getfield 44, 3) := by decide +kernel
theorem dX6_rankMasks_69 : decode cX6_rankMasks 69 = .ok (.if_icmp .gt 8, 3) := by decide +kernel
theorem dX6_rankMasks_72 : decode cX6_rankMasks 72 = .ok (.iload 4, 2) := by decide +kernel
theorem dX6_rankMasks_74 : decode cX6_rankMasks 74 = .ok (.goto 5, 3) := by decide +kernel
theorem dX6_rankMasks_77 : decode cX6_rankMasks 77 = .ok (.ldc 164, 2) := by decide +kernel
theorem dX6_rankMasks_79 : decode cX6_rankMasks 79 = .ok (.iastore, 1) := by decide +kernel
theorem dX6_rankMasks_80 : decode cX6_rankMasks 80 = .ok (.iinc 1 1, 3) := by decide +kernel
theorem dX6_rankMasks_83 : decode cX6_rankMasks 83 = .ok (.goto (-81), 3) := by decide +kernel
theorem dX6_rankMasks_86 : decode cX6_rankMasks 86 = .ok (.return_, 1) := by decide +kernel
theorem dX6_lookOut_0 : decode cX6_lookOut 0 = .ok (.aload_n 0, 1) := by decide +kernel
theorem dX6_lookOut_1 : decode cX6_lookOut 1 = .ok (.getfield 53, 3) := by decide +kernel
theorem dX6_lookOut_4 : decode cX6_lookOut 4 = .ok (.iconst 1, 1) := by decide +kernel
theorem dX6_lookOut_5 : decode cX6_lookOut 5 = .ok (.isub, 1) := by decide +kernel
theorem dX6_lookOut_6 : decode cX6_lookOut 6 = .ok (.istore_n 1, 1) := by decide +kernel
theorem dX6_lookOut_7 : decode cX6_lookOut 7 = .ok (.iload_n 1, 1) := by decide +kernel
theorem dX6_lookOut_8 : decode cX6_lookOut 8 = .ok (.ifCond .lt 80, 3) := by decide +kernel
theorem dX6_lookOut_11 : decode cX6_lookOut 11 = .ok (.iconst 0, 1) := by decide +kernel
theorem dX6_lookOut_12 : decode cX6_lookOut 12 = .ok (.istore_n 2, 1) := by decide +kernel
theorem dX6_lookOut_13 : decode cX6_lookOut 13 = .ok (.iload_n 2, 1) := by decide +kernel
theorem dX6_lookOut_14 : decode cX6_lookOut 14 = .ok (.iconst 1, 1) := by decide +kernel
theorem dX6_lookOut_15 : decode cX6_lookOut 15 = .ok (.iload_n 1, 1) := by decide +kernel
theorem dX6_lookOut_16 : decode cX6_lookOut 16 = .ok (.ishl, 1) := by decide +kernel
theorem dX6_lookOut_17 : decode cX6_lookOut 17 = .ok (.if_icmp .ge 65, 3) := by decide +kernel
theorem dX6_lookOut_20 : decode cX6_lookOut 20 = .ok (.aload_n 0, 1) := by decide +kernel
theorem dX6_lookOut_21 : decode cX6_lookOut 21 = .ok (.getfield 21, 3) := by decide +kernel
theorem dX6_lookOut_24 : decode cX6_lookOut 24 = .ok (.iconst 2, 1) := by decide +kernel
theorem dX6_lookOut_25 : decode cX6_lookOut 25 = .ok (.iload_n 1, 1) := by decide +kernel
theorem dX6_lookOut_26 : decode cX6_lookOut 26 = .ok (.ishl, 1) := by decide +kernel
theorem dX6_lookOut_27 : decode cX6_lookOut 27 = .ok (.iload_n 2, 1) := by decide +kernel
theorem dX6_lookOut_28 : decode cX6_lookOut 28 = .ok (.iadd, 1) := by decide +kernel
theorem dX6_lookOut_29 : decode cX6_lookOut 29 = .ok (.iaload, 1) := by decide +kernel
theorem dX6_lookOut_30 : decode cX6_lookOut 30 = .ok (.istore_n 3, 1) := by decide +kernel
theorem dX6_lookOut_31 : decode cX6_lookOut 31 = .ok (.aload_n 0, 1) := by decide +kernel
theorem dX6_lookOut_32 : decode cX6_lookOut 32 = .ok (.getfield 21, 3) := by decide +kernel
theorem dX6_lookOut_35 : decode cX6_lookOut 35 = .ok (.iconst 2, 1) := by decide +kernel
theorem dX6_lookOut_36 : decode cX6_lookOut 36 = .ok (.iload_n 1, 1) := by decide +kernel
theorem dX6_lookOut_37 : decode cX6_lookOut 37 = .ok (.ishl, 1) := by decide +kernel
theorem dX6_lookOut_38 : decode cX6_lookOut 38 = .ok (.iconst 1, 1) := by decide +kernel
theorem dX6_lookOut_39 : decode cX6_lookOut 39 = .ok (.iload_n 1, 1) := by decide +kernel
theorem dX6_lookOut_40 : decode cX6_lookOut 40 = .ok (.ishl, 1) := by decide +kernel
theorem dX6_lookOut_41 : decode cX6_lookOut 41 = .ok (.iadd, 1) := by decide +kernel
theorem dX6_lookOut_42 : decode cX6_lookOut 42 = .ok (.iload_n 2, 1) := by decide +kernel
theorem dX6_lookOut_43 : decode cX6_lookOut 43 = .ok (.iadd, 1) := by decide +kernel
theorem dX6_lookOut_44 : decode cX6_lookOut 44 = .ok (.iaload, 1) := by decide +kernel
theorem dX6_lookOut_45 : decode cX6_lookOut 45 = .ok (.istore 4, 2) := by decide +kernel
theorem dX6_lookOut_47 : decode cX6_lookOut 47 = .ok (.aload_n 0, 1) := by decide +kernel
theorem dX6_lookOut_48 : decode cX6_lookOut 48 = .ok (.getfield 21, 3) := by decide +kernel
theorem dX6_lookOut_51 : decode cX6_lookOut 51 = .ok (.iconst 1, 1) := by decide +kernel
theorem dX6_lookOut_52 : decode cX6_lookOut 52 = .ok (.iload_n 1, 1) := by decide +kernel
theorem dX6_lookOut_53 : decode cX6_lookOut 53 = .ok (.ishl, 1) := by decide +kernel
theorem dX6_lookOut_54 : decode cX6_lookOut 54 = .ok (.iload_n 2, 1) := by decide +kernel
theorem dX6_lookOut_55 : decode cX6_lookOut 55 = .ok (.iadd, 1) := by decide +kernel
theorem dX6_lookOut_56 : decode cX6_lookOut 56 = .ok (.aload_n 0, 1) := by decide +kernel
theorem dX6_lookOut_57 : decode cX6_lookOut 57 = .ok (.getfield 9, 3) := by decide +kernel
theorem dX6_lookOut_60 : decode cX6_lookOut 60 = .ok (.iload_n 1, 1) := by decide +kernel
theorem dX6_lookOut_61 : decode cX6_lookOut 61 = .ok (.iaload, 1) := by decide +kernel
theorem dX6_lookOut_62 : decode cX6_lookOut 62 = .ok (.ifCond .ne 7, 3) := by decide +kernel
theorem dX6_lookOut_65 : decode cX6_lookOut 65 = .ok (.iload_n 3, 1) := by decide +kernel
theorem dX6_lookOut_66 : decode cX6_lookOut 66 = .ok (.goto 9, 3) := by decide +kernel
theorem dX6_lookOut_69 : decode cX6_lookOut 69 = .ok (.iload_n 3, 1) := by decide +kernel
theorem dX6_lookOut_70 : decode cX6_lookOut 70 = .ok (.iload 4, 2) := by decide +kernel
theorem dX6_lookOut_72 : decode cX6_lookOut 72 = .ok (.invokestatic 165, 3) := by decide +kernel
theorem dX6_lookOut_75 : decode cX6_lookOut 75 = .ok (.iastore, 1) := by decide +kernel
theorem dX6_lookOut_76 : decode cX6_lookOut 76 = .ok (.iinc 2 1, 3) := by decide +kernel
theorem dX6_lookOut_79 : decode cX6_lookOut 79 = .ok (.goto (-66), 3) := by decide +kernel
theorem dX6_lookOut_82 : decode cX6_lookOut 82 = .ok (.iinc 1 (-1), 3) := by decide +kernel
theorem dX6_lookOut_85 : decode cX6_lookOut 85 = .ok (.goto (-78), 3) := by decide +kernel
theorem dX6_lookOut_88 : decode cX6_lookOut 88 = .ok (.return_, 1) := by decide +kernel
theorem dX6_startFromNow_0 : decode cX6_startFromNow 0 = .ok (.aload_n 1, 1) := by decide +kernel
theorem dX6_startFromNow_1 : decode cX6_startFromNow 1 = .ok (.getfield 171, 3) := by decide +kernel
theorem dX6_startFromNow_4 : decode cX6_startFromNow 4 = .ok (.getfield 175, 3) := by decide +kernel
theorem dX6_startFromNow_7 : decode cX6_startFromNow 7 = .ok (.aload_n 0, 1) := by decide +kernel
theorem dX6_startFromNow_8 : decode cX6_startFromNow 8 = .ok (.getfield 41, 3) := by decide +kernel
theorem dX6_startFromNow_11 : decode cX6_startFromNow 11 = .ok (.aload_n 0, 1) := by decide +kernel
theorem dX6_startFromNow_12 : decode cX6_startFromNow 12 = .ok (.getfield 30, 3) := by decide +kernel
theorem dX6_startFromNow_15 : decode cX6_startFromNow 15 = .ok (.iconst 0, 1) := by decide +kernel
theorem dX6_startFromNow_16 : decode cX6_startFromNow 16 = .ok (.aload_n 0, 1) := by decide +kernel
theorem dX6_startFromNow_17 : decode cX6_startFromNow 17 = .ok (.getfield 53, 3) := by decide +kernel
theorem dX6_startFromNow_20 : decode cX6_startFromNow 20 = .ok (.invokestatic 180, 3) := by decide +kernel
theorem dX6_startFromNow_23 : decode cX6_startFromNow 23 = .ok (.aload_n 0, 1) := by decide +kernel
theorem dX6_startFromNow_24 : decode cX6_startFromNow 24 = .ok (.aload_n 0, 1) := by decide +kernel
theorem dX6_startFromNow_25 : decode cX6_startFromNow 25 = .ok (.getfield 63, 3) := by decide +kernel
theorem dX6_startFromNow_28 : decode cX6_startFromNow 28 = .ok (.putfield 186, 3) := by decide +kernel
theorem dX6_startFromNow_31 : decode cX6_startFromNow 31 = .ok (.aload_n 0, 1) := by decide +kernel
theorem dX6_startFromNow_32 : decode cX6_startFromNow 32 = .ok (.aload_n 0, 1) := by decide +kernel
theorem dX6_startFromNow_33 : decode cX6_startFromNow 33 = .ok (.getfield 21, 3) := by decide +kernel
theorem dX6_startFromNow_36 : decode cX6_startFromNow 36 = .ok (.iconst 1, 1) := by decide +kernel
theorem dX6_startFromNow_37 : decode cX6_startFromNow 37 = .ok (.aload_n 0, 1) := by decide +kernel
theorem dX6_startFromNow_38 : decode cX6_startFromNow 38 = .ok (.getfield 53, 3) := by decide +kernel
theorem dX6_startFromNow_41 : decode cX6_startFromNow 41 = .ok (.ishl, 1) := by decide +kernel
theorem dX6_startFromNow_42 : decode cX6_startFromNow 42 = .ok (.aload_n 0, 1) := by decide +kernel
theorem dX6_startFromNow_43 : decode cX6_startFromNow 43 = .ok (.getfield 63, 3) := by decide +kernel
theorem dX6_startFromNow_46 : decode cX6_startFromNow 46 = .ok (.iadd, 1) := by decide +kernel
theorem dX6_startFromNow_47 : decode cX6_startFromNow 47 = .ok (.iaload, 1) := by decide +kernel
theorem dX6_startFromNow_48 : decode cX6_startFromNow 48 = .ok (.putfield 189, 3) := by decide +kernel
theorem dX6_startFromNow_51 : decode cX6_startFromNow 51 = .ok (.aload_n 0, 1) := by decide +kernel
theorem dX6_startFromNow_52 : decode cX6_startFromNow 52 = .ok (.iconst 0, 1) := by decide +kernel
theorem dX6_startFromNow_53 : decode cX6_startFromNow 53 = .ok (.putfield 192, 3) := by decide +kernel
theorem dX6_startFromNow_56 : decode cX6_startFromNow 56 = .ok (.return_, 1) := by decide +kernel
theorem dX6_tryPass_0 : decode cX6_tryPass 0 = .ok (.aload_n 0, 1) := by decide +kernel
theorem dX6_tryPass_1 : decode cX6_tryPass 1 = .ok (.getfield 21, 3) := by decide +kernel
theorem dX6_tryPass_4 : decode cX6_tryPass 4 = .ok (.iconst 1, 1) := by decide +kernel
theorem dX6_tryPass_5 : decode cX6_tryPass 5 = .ok (.iload_n 2, 1) := by decide +kernel
theorem dX6_tryPass_6 : decode cX6_tryPass 6 = .ok (.ishl, 1) := by decide +kernel
theorem dX6_tryPass_7 : decode cX6_tryPass 7 = .ok (.iload_n 3, 1) := by decide +kernel
theorem dX6_tryPass_8 : decode cX6_tryPass 8 = .ok (.iadd, 1) := by decide +kernel
theorem dX6_tryPass_9 : decode cX6_tryPass 9 = .ok (.iaload, 1) := by decide +kernel
theorem dX6_tryPass_10 : decode cX6_tryPass 10 = .ok (.iload 4, 2) := by decide +kernel
theorem dX6_tryPass_12 : decode cX6_tryPass 12 = .ok (.iadd, 1) := by decide +kernel
theorem dX6_tryPass_13 : decode cX6_tryPass 13 = .ok (.aload_n 0, 1) := by decide +kernel
theorem dX6_tryPass_14 : decode cX6_tryPass 14 = .ok (.getfield 189, 3) := by decide +kernel
theorem dX6_tryPass_17 : decode cX6_tryPass 17 = .ok (.if_icmp .ge 19, 3) := by decide +kernel
theorem dX6_tryPass_20 : decode cX6_tryPass 20 = .ok (.aload_n 0, 1) := by decide +kernel
theorem dX6_tryPass_21 : decode cX6_tryPass 21 = .ok (.iload_n 2, 1) := by decide +kernel
theorem dX6_tryPass_22 : decode cX6_tryPass 22 = .ok (.iload_n 3, 1) := by decide +kernel
theorem dX6_tryPass_23 : decode cX6_tryPass 23 = .ok (.invokevirtual 195, 3) := by decide +kernel
theorem dX6_tryPass_26 : decode cX6_tryPass 26 = .ok (.iload 4, 2) := by decide +kernel
theorem dX6_tryPass_28 : decode cX6_tryPass 28 = .ok (.iadd, 1) := by decide +kernel
theorem dX6_tryPass_29 : decode cX6_tryPass 29 = .ok (.aload_n 0, 1) := by decide +kernel
theorem dX6_tryPass_30 : decode cX6_tryPass 30 = .ok (.getfield 44, 3) := by decide +kernel
theorem dX6_tryPass_33 : decode cX6_tryPass 33 = .ok (.if_icmp .le 4, 3) := by decide +kernel
theorem dX6_tryPass_36 : decode cX6_tryPass 36 = .ok (.return_, 1) := by decide +kernel
theorem dX6_tryPass_37 : decode cX6_tryPass 37 = .ok (.iload_n 2, 1) := by decide +kernel
theorem dX6_tryPass_38 : decode cX6_tryPass 38 = .ok (.aload_n 0, 1) := by decide +kernel
theorem dX6_tryPass_39 : decode cX6_tryPass 39 = .ok (.getfield 53, 3) := by decide +kernel
theorem dX6_tryPass_42 : decode cX6_tryPass 42 = .ok (.if_icmp .lt 11, 3) := by decide +kernel
theorem dX6_tryPass_45 : decode cX6_tryPass 45 = .ok (.aload_n 0, 1) := by decide +kernel
theorem dX6_tryPass_46 : decode cX6_tryPass 46 = .ok (.iload_n 3, 1) := by decide +kernel
theorem dX6_tryPass_47 : decode cX6_tryPass 47 = .ok (.iload 4, 2) := by decide +kernel
theorem dX6_tryPass_49 : decode cX6_tryPass 49 = .ok (.invokevirtual 198, 3) := by decide +kernel
theorem dX6_tryPass_52 : decode cX6_tryPass 52 = .ok (.return_, 1) := by decide +kernel
theorem dX6_tryPass_53 : decode cX6_tryPass 53 = .ok (.aload_n 0, 1) := by decide +kernel
theorem dX6_tryPass_54 : decode cX6_tryPass 54 = .ok (.getfield 27, 3) := by decide +kernel
theorem dX6_tryPass_57 : decode cX6_tryPass 57 = .ok (.iload_n 2, 1) := by decide +kernel
theorem dX6_tryPass_58 : decode cX6_tryPass 58 = .ok (.iconst (-1), 1) := by decide +kernel
theorem dX6_tryPass_59 : decode cX6_tryPass 59 = .ok (.iastore, 1) := by decide +kernel
theorem dX6_tryPass_60 : decode cX6_tryPass 60 = .ok (.aload_n 0, 1) := by decide +kernel
theorem dX6_tryPass_61 : decode cX6_tryPass 61 = .ok (.aload_n 1, 1) := by decide +kernel
theorem dX6_tryPass_62 : decode cX6_tryPass 62 = .ok (.iload_n 2, 1) := by decide +kernel
theorem dX6_tryPass_63 : decode cX6_tryPass 63 = .ok (.iconst 1, 1) := by decide +kernel
theorem dX6_tryPass_64 : decode cX6_tryPass 64 = .ok (.iadd, 1) := by decide +kernel
theorem dX6_tryPass_65 : decode cX6_tryPass 65 = .ok (.iload_n 3, 1) := by decide +kernel
theorem dX6_tryPass_66 : decode cX6_tryPass 66 = .ok (.iload 4, 2) := by decide +kernel
theorem dX6_tryPass_68 : decode cX6_tryPass 68 = .ok (.invokestatic 89, 3) := by decide +kernel
theorem dX6_tryPass_71 : decode cX6_tryPass 71 = .ok (.aload_n 0, 1) := by decide +kernel
theorem dX6_tryPass_72 : decode cX6_tryPass 72 = .ok (.iload_n 2, 1) := by decide +kernel
theorem dX6_tryPass_73 : decode cX6_tryPass 73 = .ok (.iload_n 3, 1) := by decide +kernel
theorem dX6_tryPass_74 : decode cX6_tryPass 74 = .ok (.invokevirtual 202, 3) := by decide +kernel
theorem dX6_tryPass_77 : decode cX6_tryPass 77 = .ok (.istore 5, 2) := by decide +kernel
theorem dX6_tryPass_79 : decode cX6_tryPass 79 = .ok (.aload_n 1, 1) := by decide +kernel
theorem dX6_tryPass_80 : decode cX6_tryPass 80 = .ok (.getfield 171, 3) := by decide +kernel
theorem dX6_tryPass_83 : decode cX6_tryPass 83 = .ok (.getfield 175, 3) := by decide +kernel
theorem dX6_tryPass_86 : decode cX6_tryPass 86 = .ok (.aload_n 0, 1) := by decide +kernel
theorem dX6_tryPass_87 : decode cX6_tryPass 87 = .ok (.getfield 41, 3) := by decide +kernel
theorem dX6_tryPass_90 : decode cX6_tryPass 90 = .ok (.iload_n 2, 1) := by decide +kernel
theorem dX6_tryPass_91 : decode cX6_tryPass 91 = .ok (.iadd, 1) := by decide +kernel
theorem dX6_tryPass_92 : decode cX6_tryPass 92 = .ok (.iaload, 1) := by decide +kernel
theorem dX6_tryPass_93 : decode cX6_tryPass 93 = .ok (.istore 6, 2) := by decide +kernel
theorem dX6_tryPass_95 : decode cX6_tryPass 95 = .ok (.iconst 0, 1) := by decide +kernel
theorem dX6_tryPass_96 : decode cX6_tryPass 96 = .ok (.istore 7, 2) := by decide +kernel
theorem dX6_tryPass_98 : decode cX6_tryPass 98 = .ok (.iload 7, 2) := by decide +kernel
theorem dX6_tryPass_100 : decode cX6_tryPass 100 = .ok (.aload_n 1, 1) := by decide +kernel
theorem dX6_tryPass_101 : decode cX6_tryPass 101 = .ok (.getfield 93, 3) := by decide +kernel
theorem dX6_tryPass_104 : decode cX6_tryPass 104 = .ok (.getfield 97, 3) := by decide +kernel
theorem dX6_tryPass_107 : decode cX6_tryPass 107 = .ok (.getfield 103, 3) := by decide +kernel
theorem dX6_tryPass_110 : decode cX6_tryPass 110 = .ok (.if_icmp .ge 62, 3) := by decide +kernel
theorem dX6_tryPass_113 : decode cX6_tryPass 113 = .ok (.iload 5, 2) := by decide +kernel
theorem dX6_tryPass_115 : decode cX6_tryPass 115 = .ok (.iload 7, 2) := by decide +kernel
theorem dX6_tryPass_117 : decode cX6_tryPass 117 = .ok (.ishr, 1) := by decide +kernel
theorem dX6_tryPass_118 : decode cX6_tryPass 118 = .ok (.iconst 1, 1) := by decide +kernel
theorem dX6_tryPass_119 : decode cX6_tryPass 119 = .ok (.iand, 1) := by decide +kernel
theorem dX6_tryPass_120 : decode cX6_tryPass 120 = .ok (.ifCond .eq 46, 3) := by decide +kernel
theorem dX6_tryPass_123 : decode cX6_tryPass 123 = .ok (.aload_n 0, 1) := by decide +kernel
theorem dX6_tryPass_124 : decode cX6_tryPass 124 = .ok (.getfield 27, 3) := by decide +kernel
theorem dX6_tryPass_127 : decode cX6_tryPass 127 = .ok (.iload_n 2, 1) := by decide +kernel
theorem dX6_tryPass_128 : decode cX6_tryPass 128 = .ok (.iload 7, 2) := by decide +kernel
theorem dX6_tryPass_130 : decode cX6_tryPass 130 = .ok (.iastore, 1) := by decide +kernel
theorem dX6_tryPass_131 : decode cX6_tryPass 131 = .ok (.aload_n 0, 1) := by decide +kernel
theorem dX6_tryPass_132 : decode cX6_tryPass 132 = .ok (.aload_n 1, 1) := by decide +kernel
theorem dX6_tryPass_133 : decode cX6_tryPass 133 = .ok (.iload_n 2, 1) := by decide +kernel
theorem dX6_tryPass_134 : decode cX6_tryPass 134 = .ok (.iconst 1, 1) := by decide +kernel
theorem dX6_tryPass_135 : decode cX6_tryPass 135 = .ok (.iadd, 1) := by decide +kernel
theorem dX6_tryPass_136 : decode cX6_tryPass 136 = .ok (.iload_n 3, 1) := by decide +kernel
theorem dX6_tryPass_137 : decode cX6_tryPass 137 = .ok (.iconst 1, 1) := by decide +kernel
theorem dX6_tryPass_138 : decode cX6_tryPass 138 = .ok (.iload_n 2, 1) := by decide +kernel
theorem dX6_tryPass_139 : decode cX6_tryPass 139 = .ok (.ishl, 1) := by decide +kernel
theorem dX6_tryPass_140 : decode cX6_tryPass 140 = .ok (.ior, 1) := by decide +kernel
theorem dX6_tryPass_141 : decode cX6_tryPass 141 = .ok (.iload 6, 2) := by decide +kernel
theorem dX6_tryPass_143 : decode cX6_tryPass 143 = .ok (.iconst (-1), 1) := by decide +kernel
theorem dX6_tryPass_144 : decode cX6_tryPass 144 = .ok (.if_icmp .eq 10, 3) := by decide +kernel
theorem dX6_tryPass_147 : decode cX6_tryPass 147 = .ok (.iload 6, 2) := by decide +kernel
theorem dX6_tryPass_149 : decode cX6_tryPass 149 = .ok (.iload 7, 2) := by decide +kernel
theorem dX6_tryPass_151 : decode cX6_tryPass 151 = .ok (.if_icmp .ne 8, 3) := by decide +kernel
theorem dX6_tryPass_154 : decode cX6_tryPass 154 = .ok (.iload 4, 2) := by decide +kernel
theorem dX6_tryPass_156 : decode cX6_tryPass 156 = .ok (.goto 7, 3) := by decide +kernel
theorem dX6_tryPass_159 : decode cX6_tryPass 159 = .ok (.iload 4, 2) := by decide +kernel
theorem dX6_tryPass_161 : decode cX6_tryPass 161 = .ok (.iconst 1, 1) := by decide +kernel
theorem dX6_tryPass_162 : decode cX6_tryPass 162 = .ok (.iadd, 1) := by decide +kernel
theorem dX6_tryPass_163 : decode cX6_tryPass 163 = .ok (.invokestatic 89, 3) := by decide +kernel
theorem dX6_tryPass_166 : decode cX6_tryPass 166 = .ok (.iinc 7 1, 3) := by decide +kernel
theorem dX6_tryPass_169 : decode cX6_tryPass 169 = .ok (.goto (-71), 3) := by decide +kernel
theorem dX6_tryPass_172 : decode cX6_tryPass 172 = .ok (.return_, 1) := by decide +kernel
theorem dX6_changesAhead_0 : decode cX6_changesAhead 0 = .ok (.iload_n 2, 1) := by decide +kernel
theorem dX6_changesAhead_1 : decode cX6_changesAhead 1 = .ok (.aload_n 0, 1) := by decide +kernel
theorem dX6_changesAhead_2 : decode cX6_changesAhead 2 = .ok (.getfield 63, 3) := by decide +kernel
theorem dX6_changesAhead_5 : decode cX6_changesAhead 5 = .ok (.ixor, 1) := by decide +kernel
theorem dX6_changesAhead_6 : decode cX6_changesAhead 6 = .ok (.iconst 1, 1) := by decide +kernel
theorem dX6_changesAhead_7 : decode cX6_changesAhead 7 = .ok (.iload_n 1, 1) := by decide +kernel
theorem dX6_changesAhead_8 : decode cX6_changesAhead 8 = .ok (.ishl, 1) := by decide +kernel
theorem dX6_changesAhead_9 : decode cX6_changesAhead 9 = .ok (.iconst 1, 1) := by decide +kernel
theorem dX6_changesAhead_10 : decode cX6_changesAhead 10 = .ok (.isub, 1) := by decide +kernel
theorem dX6_changesAhead_11 : decode cX6_changesAhead 11 = .ok (.iand, 1) := by decide +kernel
theorem dX6_changesAhead_12 : decode cX6_changesAhead 12 = .ok (.invokestatic 159, 3) := by decide +kernel
theorem dX6_changesAhead_15 : decode cX6_changesAhead 15 = .ok (.ireturn, 1) := by decide +kernel
theorem dX6_keepWay_0 : decode cX6_keepWay 0 = .ok (.aload_n 0, 1) := by decide +kernel
theorem dX6_keepWay_1 : decode cX6_keepWay 1 = .ok (.getfield 27, 3) := by decide +kernel
theorem dX6_keepWay_4 : decode cX6_keepWay 4 = .ok (.iconst 0, 1) := by decide +kernel
theorem dX6_keepWay_5 : decode cX6_keepWay 5 = .ok (.aload_n 0, 1) := by decide +kernel
theorem dX6_keepWay_6 : decode cX6_keepWay 6 = .ok (.getfield 30, 3) := by decide +kernel
theorem dX6_keepWay_9 : decode cX6_keepWay 9 = .ok (.iconst 0, 1) := by decide +kernel
theorem dX6_keepWay_10 : decode cX6_keepWay 10 = .ok (.aload_n 0, 1) := by decide +kernel
theorem dX6_keepWay_11 : decode cX6_keepWay 11 = .ok (.getfield 53, 3) := by decide +kernel
theorem dX6_keepWay_14 : decode cX6_keepWay 14 = .ok (.invokestatic 180, 3) := by decide +kernel
theorem dX6_keepWay_17 : decode cX6_keepWay 17 = .ok (.aload_n 0, 1) := by decide +kernel
theorem dX6_keepWay_18 : decode cX6_keepWay 18 = .ok (.iload_n 1, 1) := by decide +kernel
theorem dX6_keepWay_19 : decode cX6_keepWay 19 = .ok (.putfield 186, 3) := by decide +kernel
theorem dX6_keepWay_22 : decode cX6_keepWay 22 = .ok (.aload_n 0, 1) := by decide +kernel
theorem dX6_keepWay_23 : decode cX6_keepWay 23 = .ok (.aload_n 0, 1) := by decide +kernel
theorem dX6_keepWay_24 : decode cX6_keepWay 24 = .ok (.getfield 21, 3) := by decide +kernel
theorem dX6_keepWay_27 : decode cX6_keepWay 27 = .ok (.iconst 1, 1) := by decide +kernel
theorem dX6_keepWay_28 : decode cX6_keepWay 28 = .ok (.aload_n 0, 1) := by decide +kernel
theorem dX6_keepWay_29 : decode cX6_keepWay 29 = .ok (.getfield 53, 3) := by decide +kernel
theorem dX6_keepWay_32 : decode cX6_keepWay 32 = .ok (.ishl, 1) := by decide +kernel
theorem dX6_keepWay_33 : decode cX6_keepWay 33 = .ok (.iload_n 1, 1) := by decide +kernel
theorem dX6_keepWay_34 : decode cX6_keepWay 34 = .ok (.iadd, 1) := by decide +kernel
theorem dX6_keepWay_35 : decode cX6_keepWay 35 = .ok (.iaload, 1) := by decide +kernel
theorem dX6_keepWay_36 : decode cX6_keepWay 36 = .ok (.iload_n 2, 1) := by decide +kernel
theorem dX6_keepWay_37 : decode cX6_keepWay 37 = .ok (.iadd, 1) := by decide +kernel
theorem dX6_keepWay_38 : decode cX6_keepWay 38 = .ok (.putfield 189, 3) := by decide +kernel
theorem dX6_keepWay_41 : decode cX6_keepWay 41 = .ok (.aload_n 0, 1) := by decide +kernel
theorem dX6_keepWay_42 : decode cX6_keepWay 42 = .ok (.aload_n 0, 1) := by decide +kernel
theorem dX6_keepWay_43 : decode cX6_keepWay 43 = .ok (.aload_n 0, 1) := by decide +kernel
theorem dX6_keepWay_44 : decode cX6_keepWay 44 = .ok (.getfield 53, 3) := by decide +kernel
theorem dX6_keepWay_47 : decode cX6_keepWay 47 = .ok (.iload_n 1, 1) := by decide +kernel
theorem dX6_keepWay_48 : decode cX6_keepWay 48 = .ok (.invokevirtual 195, 3) := by decide +kernel
theorem dX6_keepWay_51 : decode cX6_keepWay 51 = .ok (.iload_n 2, 1) := by decide +kernel
theorem dX6_keepWay_52 : decode cX6_keepWay 52 = .ok (.iadd, 1) := by decide +kernel
theorem dX6_keepWay_53 : decode cX6_keepWay 53 = .ok (.putfield 192, 3) := by decide +kernel
theorem dX6_keepWay_56 : decode cX6_keepWay 56 = .ok (.return_, 1) := by decide +kernel
theorem dX6_freeAntennas_0 : decode cX6_freeAntennas 0 = .ok (.aload_n 0, 1) := by decide +kernel
theorem dX6_freeAntennas_1 : decode cX6_freeAntennas 1 = .ok (.getfield 18, 3) := by decide +kernel
theorem dX6_freeAntennas_4 : decode cX6_freeAntennas 4 = .ok (.iload_n 1, 1) := by decide +kernel
theorem dX6_freeAntennas_5 : decode cX6_freeAntennas 5 = .ok (.iaload, 1) := by decide +kernel
theorem dX6_freeAntennas_6 : decode cX6_freeAntennas 6 = .ok (.iload_n 2, 1) := by decide +kernel
theorem dX6_freeAntennas_7 : decode cX6_freeAntennas 7 = .ok (.iand, 1) := by decide +kernel
theorem dX6_freeAntennas_8 : decode cX6_freeAntennas 8 = .ok (.ifCond .eq 5, 3) := by decide +kernel
theorem dX6_freeAntennas_11 : decode cX6_freeAntennas 11 = .ok (.iconst 0, 1) := by decide +kernel
theorem dX6_freeAntennas_12 : decode cX6_freeAntennas 12 = .ok (.ireturn, 1) := by decide +kernel
theorem dX6_freeAntennas_13 : decode cX6_freeAntennas 13 = .ok (.aload_n 0, 1) := by decide +kernel
theorem dX6_freeAntennas_14 : decode cX6_freeAntennas 14 = .ok (.getfield 9, 3) := by decide +kernel
theorem dX6_freeAntennas_17 : decode cX6_freeAntennas 17 = .ok (.iload_n 1, 1) := by decide +kernel
theorem dX6_freeAntennas_18 : decode cX6_freeAntennas 18 = .ok (.iaload, 1) := by decide +kernel
theorem dX6_freeAntennas_19 : decode cX6_freeAntennas 19 = .ok (.istore_n 3, 1) := by decide +kernel
theorem dX6_freeAntennas_20 : decode cX6_freeAntennas 20 = .ok (.iconst 0, 1) := by decide +kernel
theorem dX6_freeAntennas_21 : decode cX6_freeAntennas 21 = .ok (.istore 4, 2) := by decide +kernel
theorem dX6_freeAntennas_23 : decode cX6_freeAntennas 23 = .ok (.iload 4, 2) := by decide +kernel
theorem dX6_freeAntennas_25 : decode cX6_freeAntennas 25 = .ok (.iload_n 1, 1) := by decide +kernel
theorem dX6_freeAntennas_26 : decode cX6_freeAntennas 26 = .ok (.if_icmp .ge 45, 3) := by decide +kernel
theorem dX6_freeAntennas_29 : decode cX6_freeAntennas 29 = .ok (.iload_n 2, 1) := by decide +kernel
theorem dX6_freeAntennas_30 : decode cX6_freeAntennas 30 = .ok (.iload 4, 2) := by decide +kernel
theorem dX6_freeAntennas_32 : decode cX6_freeAntennas 32 = .ok (.ishr, 1) := by decide +kernel
theorem dX6_freeAntennas_33 : decode cX6_freeAntennas 33 = .ok (.iconst 1, 1) := by decide +kernel
theorem dX6_freeAntennas_34 : decode cX6_freeAntennas 34 = .ok (.iand, 1) := by decide +kernel
theorem dX6_freeAntennas_35 : decode cX6_freeAntennas 35 = .ok (.ifCond .eq 30, 3) := by decide +kernel
theorem dX6_freeAntennas_38 : decode cX6_freeAntennas 38 = .ok (.iload_n 3, 1) := by decide +kernel
theorem dX6_freeAntennas_39 : decode cX6_freeAntennas 39 = .ok (.aload_n 0, 1) := by decide +kernel
theorem dX6_freeAntennas_40 : decode cX6_freeAntennas 40 = .ok (.getfield 15, 3) := by decide +kernel
theorem dX6_freeAntennas_43 : decode cX6_freeAntennas 43 = .ok (.iload 4, 2) := by decide +kernel
theorem dX6_freeAntennas_45 : decode cX6_freeAntennas 45 = .ok (.bipush 6, 2) := by decide +kernel
theorem dX6_freeAntennas_47 : decode cX6_freeAntennas 47 = .ok (.imul, 1) := by decide +kernel
theorem dX6_freeAntennas_48 : decode cX6_freeAntennas 48 = .ok (.iload_n 1, 1) := by decide +kernel
theorem dX6_freeAntennas_49 : decode cX6_freeAntennas 49 = .ok (.iadd, 1) := by decide +kernel
theorem dX6_freeAntennas_50 : decode cX6_freeAntennas 50 = .ok (.iaload, 1) := by decide +kernel
theorem dX6_freeAntennas_51 : decode cX6_freeAntennas 51 = .ok (.iconst 1, 1) := by decide +kernel
theorem dX6_freeAntennas_52 : decode cX6_freeAntennas 52 = .ok (.aload_n 0, 1) := by decide +kernel
theorem dX6_freeAntennas_53 : decode cX6_freeAntennas 53 = .ok (.getfield 27, 3) := by decide +kernel
theorem dX6_freeAntennas_56 : decode cX6_freeAntennas 56 = .ok (.iload 4, 2) := by decide +kernel
theorem dX6_freeAntennas_58 : decode cX6_freeAntennas 58 = .ok (.iaload, 1) := by decide +kernel
theorem dX6_freeAntennas_59 : decode cX6_freeAntennas 59 = .ok (.ishl, 1) := by decide +kernel
theorem dX6_freeAntennas_60 : decode cX6_freeAntennas 60 = .ok (.iand, 1) := by decide +kernel
theorem dX6_freeAntennas_61 : decode cX6_freeAntennas 61 = .ok (.iconst (-1), 1) := by decide +kernel
theorem dX6_freeAntennas_62 : decode cX6_freeAntennas 62 = .ok (.ixor, 1) := by decide +kernel
theorem dX6_freeAntennas_63 : decode cX6_freeAntennas 63 = .ok (.iand, 1) := by decide +kernel
theorem dX6_freeAntennas_64 : decode cX6_freeAntennas 64 = .ok (.istore_n 3, 1) := by decide +kernel
theorem dX6_freeAntennas_65 : decode cX6_freeAntennas 65 = .ok (.iinc 4 1, 3) := by decide +kernel
theorem dX6_freeAntennas_68 : decode cX6_freeAntennas 68 = .ok (.goto (-45), 3) := by decide +kernel
theorem dX6_freeAntennas_71 : decode cX6_freeAntennas 71 = .ok (.iload_n 3, 1) := by decide +kernel
theorem dX6_freeAntennas_72 : decode cX6_freeAntennas 72 = .ok (.ireturn, 1) := by decide +kernel
theorem dX7_init_0 : decode cX7_init 0 = .ok (.aload_n 0, 1) := by decide +kernel
theorem dX7_init_1 : decode cX7_init 1 = .ok (.invokespecial 3, 3) := by decide +kernel
theorem dX7_init_4 : decode cX7_init 4 = .ok (.aload_n 0, 1) := by decide +kernel
theorem dX7_init_5 : decode cX7_init 5 = .ok (.new 9, 3) := by decide +kernel
theorem dX7_init_8 : decode cX7_init 8 = .ok (.dup, 1) := by decide +kernel
theorem dX7_init_9 : decode cX7_init 9 = .ok (.iconst 4, 1) := by decide +kernel
theorem dX7_init_10 : decode cX7_init 10 = .ok (.getstatic 11, 3) := by decide +kernel
theorem dX7_init_13 : decode cX7_init 13 = .ok (.getstatic 15, 3) := by decide +kernel
theorem dX7_init_16 : decode cX7_init 16 = .ok (.invokespecial 18, 3) := by decide +kernel
theorem dX7_init_19 : decode cX7_init 19 = .ok (.putfield 21, 3) := by decide +kernel
theorem dX7_init_22 : decode cX7_init 22 = .ok (.aload_n 0, 1) := by decide +kernel
theorem dX7_init_23 : decode cX7_init 23 = .ok (.new 9, 3) := by decide +kernel
theorem dX7_init_26 : decode cX7_init 26 = .ok (.dup, 1) := by decide +kernel
theorem dX7_init_27 : decode cX7_init 27 = .ok (.iconst 3, 1) := by decide +kernel
theorem dX7_init_28 : decode cX7_init 28 = .ok (.getstatic 27, 3) := by decide +kernel
theorem dX7_init_31 : decode cX7_init 31 = .ok (.getstatic 30, 3) := by decide +kernel
theorem dX7_init_34 : decode cX7_init 34 = .ok (.invokespecial 18, 3) := by decide +kernel
theorem dX7_init_37 : decode cX7_init 37 = .ok (.putfield 33, 3) := by decide +kernel
theorem dX7_init_40 : decode cX7_init 40 = .ok (.aload_n 0, 1) := by decide +kernel
theorem dX7_init_41 : decode cX7_init 41 = .ok (.new 9, 3) := by decide +kernel
theorem dX7_init_44 : decode cX7_init 44 = .ok (.dup, 1) := by decide +kernel
theorem dX7_init_45 : decode cX7_init 45 = .ok (.iconst 4, 1) := by decide +kernel
theorem dX7_init_46 : decode cX7_init 46 = .ok (.getstatic 36, 3) := by decide +kernel
theorem dX7_init_49 : decode cX7_init 49 = .ok (.getstatic 39, 3) := by decide +kernel
theorem dX7_init_52 : decode cX7_init 52 = .ok (.invokespecial 18, 3) := by decide +kernel
theorem dX7_init_55 : decode cX7_init 55 = .ok (.putfield 42, 3) := by decide +kernel
theorem dX7_init_58 : decode cX7_init 58 = .ok (.return_, 1) := by decide +kernel
theorem dX7_readAll_0 : decode cX7_readAll 0 = .ok (.aload_n 0, 1) := by decide +kernel
theorem dX7_readAll_1 : decode cX7_readAll 1 = .ok (.getfield 21, 3) := by decide +kernel
theorem dX7_readAll_4 : decode cX7_readAll 4 = .ok (.iconst 0, 1) := by decide +kernel
theorem dX7_readAll_5 : decode cX7_readAll 5 = .ok (.putfield 45, 3) := by decide +kernel
theorem dX7_readAll_8 : decode cX7_readAll 8 = .ok (.aload_n 0, 1) := by decide +kernel
theorem dX7_readAll_9 : decode cX7_readAll 9 = .ok (.getfield 33, 3) := by decide +kernel
theorem dX7_readAll_12 : decode cX7_readAll 12 = .ok (.iconst 0, 1) := by decide +kernel
theorem dX7_readAll_13 : decode cX7_readAll 13 = .ok (.putfield 45, 3) := by decide +kernel
theorem dX7_readAll_16 : decode cX7_readAll 16 = .ok (.aload_n 0, 1) := by decide +kernel
theorem dX7_readAll_17 : decode cX7_readAll 17 = .ok (.getfield 42, 3) := by decide +kernel
theorem dX7_readAll_20 : decode cX7_readAll 20 = .ok (.iconst 0, 1) := by decide +kernel
theorem dX7_readAll_21 : decode cX7_readAll 21 = .ok (.putfield 45, 3) := by decide +kernel
theorem dX7_readAll_24 : decode cX7_readAll 24 = .ok (.iconst 0, 1) := by decide +kernel
theorem dX7_readAll_25 : decode cX7_readAll 25 = .ok (.istore_n 2, 1) := by decide +kernel
theorem dX7_readAll_26 : decode cX7_readAll 26 = .ok (.iload_n 2, 1) := by decide +kernel
theorem dX7_readAll_27 : decode cX7_readAll 27 = .ok (.aload_n 1, 1) := by decide +kernel
theorem dX7_readAll_28 : decode cX7_readAll 28 = .ok (.getfield 49, 3) := by decide +kernel
theorem dX7_readAll_31 : decode cX7_readAll 31 = .ok (.if_icmp .ge 22, 3) := by decide +kernel
theorem dX7_readAll_34 : decode cX7_readAll 34 = .ok (.aload_n 0, 1) := by decide +kernel
theorem dX7_readAll_35 : decode cX7_readAll 35 = .ok (.aload_n 1, 1) := by decide +kernel
theorem dX7_readAll_36 : decode cX7_readAll 36 = .ok (.iload_n 2, 1) := by decide +kernel
theorem dX7_readAll_37 : decode cX7_readAll 37 = .ok (.invokevirtual 54, 3) := by decide +kernel
theorem dX7_readAll_40 : decode cX7_readAll 40 = .ok (.istore_n 3, 1) := by decide +kernel
theorem dX7_readAll_41 : decode cX7_readAll 41 = .ok (.iload_n 3, 1) := by decide +kernel
theorem dX7_readAll_42 : decode cX7_readAll 42 = .ok (.iload_n 2, 1) := by decide +kernel
theorem dX7_readAll_43 : decode cX7_readAll 43 = .ok (.if_icmp .gt 5, 3) := by decide +kernel
theorem dX7_readAll_46 : decode cX7_readAll 46 = .ok (.iload_n 2, 1) := by decide +kernel
theorem dX7_readAll_47 : decode cX7_readAll 47 = .ok (.ireturn, 1) := by decide +kernel
theorem dX7_readAll_48 : decode cX7_readAll 48 = .ok (.iload_n 3, 1) := by decide +kernel
theorem dX7_readAll_49 : decode cX7_readAll 49 = .ok (.istore_n 2, 1) := by decide +kernel
theorem dX7_readAll_50 : decode cX7_readAll 50 = .ok (.goto (-24), 3) := by decide +kernel
theorem dX7_readAll_53 : decode cX7_readAll 53 = .ok (.bipush (-4), 2) := by decide +kernel
theorem dX7_readAll_55 : decode cX7_readAll 55 = .ok (.ireturn, 1) := by decide +kernel
theorem dX7_readItem_0 : decode cX7_readItem 0 = .ok (.aload_n 1, 1) := by decide +kernel
theorem dX7_readItem_1 : decode cX7_readItem 1 = .ok (.iload_n 2, 1) := by decide +kernel
theorem dX7_readItem_2 : decode cX7_readItem 2 = .ok (.invokevirtual 58, 3) := by decide +kernel
theorem dX7_readItem_5 : decode cX7_readItem 5 = .ok (.istore_n 3, 1) := by decide +kernel
theorem dX7_readItem_6 : decode cX7_readItem 6 = .ok (.aload_n 0, 1) := by decide +kernel
theorem dX7_readItem_7 : decode cX7_readItem 7 = .ok (.iload_n 3, 1) := by decide +kernel
theorem dX7_readItem_8 : decode cX7_readItem 8 = .ok (.invokevirtual 62, 3) := by decide +kernel
theorem dX7_readItem_11 : decode cX7_readItem 11 = .ok (.astore 4, 2) := by decide +kernel
theorem dX7_readItem_13 : decode cX7_readItem 13 = .ok (.aload 4, 2) := by decide +kernel
theorem dX7_readItem_15 : decode cX7_readItem 15 = .ok (.ifnull 11, 3) := by decide +kernel
theorem dX7_readItem_18 : decode cX7_readItem 18 = .ok (.aload 4, 2) := by decide +kernel
theorem dX7_readItem_20 : decode cX7_readItem 20 = .ok (.invokevirtual 66, 3) := by decide +kernel
theorem dX7_readItem_23 : decode cX7_readItem 23 = .ok (.ifCond .eq 6, 3) := by decide +kernel
theorem dX7_readItem_26 : decode cX7_readItem 26 = .ok (.bipush (-4), 2) := by decide +kernel
theorem dX7_readItem_28 : decode cX7_readItem 28 = .ok (.ireturn, 1) := by decide +kernel
theorem dX7_readItem_29 : decode cX7_readItem 29 = .ok (.aload 4, 2) := by decide +kernel
theorem dX7_readItem_31 : decode cX7_readItem 31 = .ok (.getfield 70, 3) := by decide +kernel
theorem dX7_readItem_34 : decode cX7_readItem 34 = .ok (.aload 4, 2) := by decide +kernel
theorem dX7_readItem_36 : decode cX7_readItem 36 = .ok (.getfield 45, 3) := by decide +kernel
theorem dX7_readItem_39 : decode cX7_readItem 39 = .ok (.aaload, 1) := by decide +kernel
theorem dX7_readItem_40 : decode cX7_readItem 40 = .ok (.astore 5, 2) := by decide +kernel
theorem dX7_readItem_42 : decode cX7_readItem 42 = .ok (.aload_n 1, 1) := by decide +kernel
theorem dX7_readItem_43 : decode cX7_readItem 43 = .ok (.iload_n 2, 1) := by decide +kernel
theorem dX7_readItem_44 : decode cX7_readItem 44 = .ok (.iconst 1, 1) := by decide +kernel
theorem dX7_readItem_45 : decode cX7_readItem 45 = .ok (.iadd, 1) := by decide +kernel
theorem dX7_readItem_46 : decode cX7_readItem 46 = .ok (.aload 4, 2) := by decide +kernel
theorem dX7_readItem_48 : decode cX7_readItem 48 = .ok (.aload 5, 2) := by decide +kernel
theorem dX7_readItem_50 : decode cX7_readItem 50 = .ok (.invokestatic 74, 3) := by decide +kernel
theorem dX7_readItem_53 : decode cX7_readItem 53 = .ok (.istore 6, 2) := by decide +kernel
theorem dX7_readItem_55 : decode cX7_readItem 55 = .ok (.iload 6, 2) := by decide +kernel
theorem dX7_readItem_57 : decode cX7_readItem 57 = .ok (.bipush (-4), 2) := by decide +kernel
theorem dX7_readItem_59 : decode cX7_readItem 59 = .ok (.if_icmp .eq 23, 3) := by decide +kernel
theorem dX7_readItem_62 : decode cX7_readItem 62 = .ok (.iload_n 3, 1) := by decide +kernel
theorem dX7_readItem_63 : decode cX7_readItem 63 = .ok (.bipush 97, 2) := by decide +kernel
theorem dX7_readItem_65 : decode cX7_readItem 65 = .ok (.if_icmp .ne 20, 3) := by decide +kernel
theorem dX7_readItem_68 : decode cX7_readItem 68 = .ok (.aload_n 0, 1) := by decide +kernel
theorem dX7_readItem_69 : decode cX7_readItem 69 = .ok (.getfield 33, 3) := by decide +kernel
theorem dX7_readItem_72 : decode cX7_readItem 72 = .ok (.aload 5, 2) := by decide +kernel
theorem dX7_readItem_74 : decode cX7_readItem 74 = .ok (.iconst 0, 1) := by decide +kernel
theorem dX7_readItem_75 : decode cX7_readItem 75 = .ok (.iaload, 1) := by decide +kernel
theorem dX7_readItem_76 : decode cX7_readItem 76 = .ok (.invokevirtual 78, 3) := by decide +kernel
theorem dX7_readItem_79 : decode cX7_readItem 79 = .ok (.ifCond .ne 6, 3) := by decide +kernel
theorem dX7_readItem_82 : decode cX7_readItem 82 = .ok (.bipush (-4), 2) := by decide +kernel
theorem dX7_readItem_84 : decode cX7_readItem 84 = .ok (.ireturn, 1) := by decide +kernel
theorem dX7_readItem_85 : decode cX7_readItem 85 = .ok (.aload 4, 2) := by decide +kernel
theorem dX7_readItem_87 : decode cX7_readItem 87 = .ok (.dup, 1) := by decide +kernel
theorem dX7_readItem_88 : decode cX7_readItem 88 = .ok (.getfield 45, 3) := by decide +kernel
theorem dX7_readItem_91 : decode cX7_readItem 91 = .ok (.iconst 1, 1) := by decide +kernel
theorem dX7_readItem_92 : decode cX7_readItem 92 = .ok (.iadd, 1) := by decide +kernel
theorem dX7_readItem_93 : decode cX7_readItem 93 = .ok (.putfield 45, 3) := by decide +kernel
theorem dX7_readItem_96 : decode cX7_readItem 96 = .ok (.iload 6, 2) := by decide +kernel
theorem dX7_readItem_98 : decode cX7_readItem 98 = .ok (.ireturn, 1) := by decide +kernel
theorem dX7_itemsOf_0 : decode cX7_itemsOf 0 = .ok (.iload_n 1, 1) := by decide +kernel
theorem dX7_itemsOf_1 : decode cX7_itemsOf 1 = .ok (.bipush 115, 2) := by decide +kernel
theorem dX7_itemsOf_3 : decode cX7_itemsOf 3 = .ok (.if_icmp .ne 8, 3) := by decide +kernel
theorem dX7_itemsOf_6 : decode cX7_itemsOf 6 = .ok (.aload_n 0, 1) := by decide +kernel
theorem dX7_itemsOf_7 : decode cX7_itemsOf 7 = .ok (.getfield 21, 3) := by decide +kernel
theorem dX7_itemsOf_10 : decode cX7_itemsOf 10 = .ok (.areturn, 1) := by decide +kernel
theorem dX7_itemsOf_11 : decode cX7_itemsOf 11 = .ok (.iload_n 1, 1) := by decide +kernel
theorem dX7_itemsOf_12 : decode cX7_itemsOf 12 = .ok (.bipush 103, 2) := by decide +kernel
theorem dX7_itemsOf_14 : decode cX7_itemsOf 14 = .ok (.if_icmp .ne 8, 3) := by decide +kernel
theorem dX7_itemsOf_17 : decode cX7_itemsOf 17 = .ok (.aload_n 0, 1) := by decide +kernel
theorem dX7_itemsOf_18 : decode cX7_itemsOf 18 = .ok (.getfield 33, 3) := by decide +kernel
theorem dX7_itemsOf_21 : decode cX7_itemsOf 21 = .ok (.areturn, 1) := by decide +kernel
theorem dX7_itemsOf_22 : decode cX7_itemsOf 22 = .ok (.iload_n 1, 1) := by decide +kernel
end
section
theorem dX7_itemsOf_23 : decode cX7_itemsOf 23 = .ok (.bipush 97, 2) := by decide +kernel
theorem dX7_itemsOf_25 : decode cX7_itemsOf 25 = .ok (.if_icmp .ne 10, 3) := by decide +kernel
theorem dX7_itemsOf_28 : decode cX7_itemsOf 28 = .ok (.aload_n 0, 1) := by decide +kernel
theorem dX7_itemsOf_29 : decode cX7_itemsOf 29 = .ok (.getfield 42, 3) := by decide +kernel
theorem dX7_itemsOf_32 : decode cX7_itemsOf 32 = .ok (.goto 4, 3) := by decide +kernel
theorem dX7_itemsOf_35 : decode cX7_itemsOf 35 = .ok (.aconst_null, 1) := by decide +kernel
theorem dX7_itemsOf_36 : decode cX7_itemsOf 36 = .ok (.areturn, 1) := by decide +kernel
theorem dX7_readNumbers_0 : decode cX7_readNumbers 0 = .ok (.iload_n 1, 1) := by decide +kernel
theorem dX7_readNumbers_1 : decode cX7_readNumbers 1 = .ok (.istore 4, 2) := by decide +kernel
theorem dX7_readNumbers_3 : decode cX7_readNumbers 3 = .ok (.iconst 0, 1) := by decide +kernel
theorem dX7_readNumbers_4 : decode cX7_readNumbers 4 = .ok (.istore 5, 2) := by decide +kernel
theorem dX7_readNumbers_6 : decode cX7_readNumbers 6 = .ok (.iload 5, 2) := by decide +kernel
theorem dX7_readNumbers_8 : decode cX7_readNumbers 8 = .ok (.aload_n 3, 1) := by decide +kernel
theorem dX7_readNumbers_9 : decode cX7_readNumbers 9 = .ok (.arraylength, 1) := by decide +kernel
theorem dX7_readNumbers_10 : decode cX7_readNumbers 10 = .ok (.if_icmp .ge 89, 3) := by decide +kernel
theorem dX7_readNumbers_13 : decode cX7_readNumbers 13 = .ok (.aload_n 0, 1) := by decide +kernel
theorem dX7_readNumbers_14 : decode cX7_readNumbers 14 = .ok (.iload 4, 2) := by decide +kernel
theorem dX7_readNumbers_16 : decode cX7_readNumbers 16 = .ok (.invokevirtual 82, 3) := by decide +kernel
theorem dX7_readNumbers_19 : decode cX7_readNumbers 19 = .ok (.istore 6, 2) := by decide +kernel
theorem dX7_readNumbers_21 : decode cX7_readNumbers 21 = .ok (.aload_n 3, 1) := by decide +kernel
theorem dX7_readNumbers_22 : decode cX7_readNumbers 22 = .ok (.iload 5, 2) := by decide +kernel
theorem dX7_readNumbers_24 : decode cX7_readNumbers 24 = .ok (.aload_n 0, 1) := by decide +kernel
theorem dX7_readNumbers_25 : decode cX7_readNumbers 25 = .ok (.iload 4, 2) := by decide +kernel
theorem dX7_readNumbers_27 : decode cX7_readNumbers 27 = .ok (.iload 6, 2) := by decide +kernel
theorem dX7_readNumbers_29 : decode cX7_readNumbers 29 = .ok (.invokevirtual 86, 3) := by decide +kernel
theorem dX7_readNumbers_32 : decode cX7_readNumbers 32 = .ok (.iastore, 1) := by decide +kernel
theorem dX7_readNumbers_33 : decode cX7_readNumbers 33 = .ok (.iload 4, 2) := by decide +kernel
theorem dX7_readNumbers_35 : decode cX7_readNumbers 35 = .ok (.iload 6, 2) := by decide +kernel
theorem dX7_readNumbers_37 : decode cX7_readNumbers 37 = .ok (.iadd, 1) := by decide +kernel
theorem dX7_readNumbers_38 : decode cX7_readNumbers 38 = .ok (.istore 4, 2) := by decide +kernel
theorem dX7_readNumbers_40 : decode cX7_readNumbers 40 = .ok (.iload 5, 2) := by decide +kernel
theorem dX7_readNumbers_42 : decode cX7_readNumbers 42 = .ok (.aload_n 3, 1) := by decide +kernel
theorem dX7_readNumbers_43 : decode cX7_readNumbers 43 = .ok (.arraylength, 1) := by decide +kernel
theorem dX7_readNumbers_44 : decode cX7_readNumbers 44 = .ok (.iconst 1, 1) := by decide +kernel
theorem dX7_readNumbers_45 : decode cX7_readNumbers 45 = .ok (.isub, 1) := by decide +kernel
theorem dX7_readNumbers_46 : decode cX7_readNumbers 46 = .ok (.if_icmp .ge 8, 3) := by decide +kernel
theorem dX7_readNumbers_49 : decode cX7_readNumbers 49 = .ok (.bipush 44, 2) := by decide +kernel
theorem dX7_readNumbers_51 : decode cX7_readNumbers 51 = .ok (.goto 5, 3) := by decide +kernel
theorem dX7_readNumbers_54 : decode cX7_readNumbers 54 = .ok (.bipush 59, 2) := by decide +kernel
theorem dX7_readNumbers_56 : decode cX7_readNumbers 56 = .ok (.istore 7, 2) := by decide +kernel
theorem dX7_readNumbers_58 : decode cX7_readNumbers 58 = .ok (.iload 6, 2) := by decide +kernel
theorem dX7_readNumbers_60 : decode cX7_readNumbers 60 = .ok (.ifCond .eq 27, 3) := by decide +kernel
theorem dX7_readNumbers_63 : decode cX7_readNumbers 63 = .ok (.aload_n 2, 1) := by decide +kernel
theorem dX7_readNumbers_64 : decode cX7_readNumbers 64 = .ok (.iload 5, 2) := by decide +kernel
theorem dX7_readNumbers_66 : decode cX7_readNumbers 66 = .ok (.aload_n 3, 1) := by decide +kernel
theorem dX7_readNumbers_67 : decode cX7_readNumbers 67 = .ok (.iload 5, 2) := by decide +kernel
theorem dX7_readNumbers_69 : decode cX7_readNumbers 69 = .ok (.iaload, 1) := by decide +kernel
theorem dX7_readNumbers_70 : decode cX7_readNumbers 70 = .ok (.invokevirtual 90, 3) := by decide +kernel
theorem dX7_readNumbers_73 : decode cX7_readNumbers 73 = .ok (.ifCond .eq 14, 3) := by decide +kernel
theorem dX7_readNumbers_76 : decode cX7_readNumbers 76 = .ok (.aload_n 0, 1) := by decide +kernel
theorem dX7_readNumbers_77 : decode cX7_readNumbers 77 = .ok (.iload 4, 2) := by decide +kernel
theorem dX7_readNumbers_79 : decode cX7_readNumbers 79 = .ok (.invokevirtual 58, 3) := by decide +kernel
theorem dX7_readNumbers_82 : decode cX7_readNumbers 82 = .ok (.iload 7, 2) := by decide +kernel
theorem dX7_readNumbers_84 : decode cX7_readNumbers 84 = .ok (.if_icmp .eq 6, 3) := by decide +kernel
theorem dX7_readNumbers_87 : decode cX7_readNumbers 87 = .ok (.bipush (-4), 2) := by decide +kernel
theorem dX7_readNumbers_89 : decode cX7_readNumbers 89 = .ok (.ireturn, 1) := by decide +kernel
theorem dX7_readNumbers_90 : decode cX7_readNumbers 90 = .ok (.iinc 4 1, 3) := by decide +kernel
theorem dX7_readNumbers_93 : decode cX7_readNumbers 93 = .ok (.iinc 5 1, 3) := by decide +kernel
theorem dX7_readNumbers_96 : decode cX7_readNumbers 96 = .ok (.goto (-90), 3) := by decide +kernel
theorem dX7_readNumbers_99 : decode cX7_readNumbers 99 = .ok (.iload 4, 2) := by decide +kernel
theorem dX7_readNumbers_101 : decode cX7_readNumbers 101 = .ok (.ireturn, 1) := by decide +kernel
theorem dX7_sees_0 : decode cX7_sees 0 = .ok (.aload_n 0, 1) := by decide +kernel
theorem dX7_sees_1 : decode cX7_sees 1 = .ok (.getfield 21, 3) := by decide +kernel
theorem dX7_sees_4 : decode cX7_sees 4 = .ok (.iload_n 1, 1) := by decide +kernel
theorem dX7_sees_5 : decode cX7_sees 5 = .ok (.iconst 1, 1) := by decide +kernel
theorem dX7_sees_6 : decode cX7_sees 6 = .ok (.invokevirtual 94, 3) := by decide +kernel
theorem dX7_sees_9 : decode cX7_sees 9 = .ok (.istore 4, 2) := by decide +kernel
theorem dX7_sees_11 : decode cX7_sees 11 = .ok (.iload_n 3, 1) := by decide +kernel
theorem dX7_sees_12 : decode cX7_sees 12 = .ok (.aload_n 0, 1) := by decide +kernel
theorem dX7_sees_13 : decode cX7_sees 13 = .ok (.getfield 21, 3) := by decide +kernel
theorem dX7_sees_16 : decode cX7_sees 16 = .ok (.iload_n 1, 1) := by decide +kernel
theorem dX7_sees_17 : decode cX7_sees 17 = .ok (.iconst 0, 1) := by decide +kernel
theorem dX7_sees_18 : decode cX7_sees 18 = .ok (.invokevirtual 94, 3) := by decide +kernel
theorem dX7_sees_21 : decode cX7_sees 21 = .ok (.isub, 1) := by decide +kernel
theorem dX7_sees_22 : decode cX7_sees 22 = .ok (.aload_n 0, 1) := by decide +kernel
theorem dX7_sees_23 : decode cX7_sees 23 = .ok (.getfield 33, 3) := by decide +kernel
theorem dX7_sees_26 : decode cX7_sees 26 = .ok (.iload_n 2, 1) := by decide +kernel
theorem dX7_sees_27 : decode cX7_sees 27 = .ok (.iconst 0, 1) := by decide +kernel
theorem dX7_sees_28 : decode cX7_sees 28 = .ok (.invokevirtual 94, 3) := by decide +kernel
theorem dX7_sees_31 : decode cX7_sees 31 = .ok (.isub, 1) := by decide +kernel
theorem dX7_sees_32 : decode cX7_sees 32 = .ok (.istore 5, 2) := by decide +kernel
theorem dX7_sees_34 : decode cX7_sees 34 = .ok (.iload 4, 2) := by decide +kernel
theorem dX7_sees_36 : decode cX7_sees 36 = .ok (.ifCond .le 26, 3) := by decide +kernel
theorem dX7_sees_39 : decode cX7_sees 39 = .ok (.iload 5, 2) := by decide +kernel
theorem dX7_sees_41 : decode cX7_sees 41 = .ok (.iload 4, 2) := by decide +kernel
theorem dX7_sees_43 : decode cX7_sees 43 = .ok (.invokestatic 97, 3) := by decide +kernel
theorem dX7_sees_46 : decode cX7_sees 46 = .ok (.aload_n 0, 1) := by decide +kernel
theorem dX7_sees_47 : decode cX7_sees 47 = .ok (.getfield 33, 3) := by decide +kernel
theorem dX7_sees_50 : decode cX7_sees 50 = .ok (.iload_n 2, 1) := by decide +kernel
theorem dX7_sees_51 : decode cX7_sees 51 = .ok (.iconst 1, 1) := by decide +kernel
theorem dX7_sees_52 : decode cX7_sees 52 = .ok (.invokevirtual 94, 3) := by decide +kernel
theorem dX7_sees_55 : decode cX7_sees 55 = .ok (.if_icmp .ge 7, 3) := by decide +kernel
theorem dX7_sees_58 : decode cX7_sees 58 = .ok (.iconst 1, 1) := by decide +kernel
theorem dX7_sees_59 : decode cX7_sees 59 = .ok (.goto 4, 3) := by decide +kernel
theorem dX7_sees_62 : decode cX7_sees 62 = .ok (.iconst 0, 1) := by decide +kernel
theorem dX7_sees_63 : decode cX7_sees 63 = .ok (.ireturn, 1) := by decide +kernel
theorem dX7_takes_0 : decode cX7_takes 0 = .ok (.aload_n 0, 1) := by decide +kernel
theorem dX7_takes_1 : decode cX7_takes 1 = .ok (.getfield 42, 3) := by decide +kernel
theorem dX7_takes_4 : decode cX7_takes 4 = .ok (.iload_n 1, 1) := by decide +kernel
theorem dX7_takes_5 : decode cX7_takes 5 = .ok (.iconst 1, 1) := by decide +kernel
theorem dX7_takes_6 : decode cX7_takes 6 = .ok (.invokevirtual 94, 3) := by decide +kernel
theorem dX7_takes_9 : decode cX7_takes 9 = .ok (.istore_n 3, 1) := by decide +kernel
theorem dX7_takes_10 : decode cX7_takes 10 = .ok (.iload_n 3, 1) := by decide +kernel
theorem dX7_takes_11 : decode cX7_takes 11 = .ok (.iconst 2, 1) := by decide +kernel
theorem dX7_takes_12 : decode cX7_takes 12 = .ok (.if_icmp .eq 16, 3) := by decide +kernel
theorem dX7_takes_15 : decode cX7_takes 15 = .ok (.iload_n 3, 1) := by decide +kernel
theorem dX7_takes_16 : decode cX7_takes 16 = .ok (.aload_n 0, 1) := by decide +kernel
theorem dX7_takes_17 : decode cX7_takes 17 = .ok (.getfield 21, 3) := by decide +kernel
theorem dX7_takes_20 : decode cX7_takes 20 = .ok (.iload_n 2, 1) := by decide +kernel
theorem dX7_takes_21 : decode cX7_takes 21 = .ok (.iconst 2, 1) := by decide +kernel
theorem dX7_takes_22 : decode cX7_takes 22 = .ok (.invokevirtual 94, 3) := by decide +kernel
theorem dX7_takes_25 : decode cX7_takes 25 = .ok (.if_icmp .ne 7, 3) := by decide +kernel
theorem dX7_takes_28 : decode cX7_takes 28 = .ok (.iconst 1, 1) := by decide +kernel
theorem dX7_takes_29 : decode cX7_takes 29 = .ok (.goto 4, 3) := by decide +kernel
theorem dX7_takes_32 : decode cX7_takes 32 = .ok (.iconst 0, 1) := by decide +kernel
theorem dX7_takes_33 : decode cX7_takes 33 = .ok (.ireturn, 1) := by decide +kernel
theorem dX8_init_0 : decode cX8_init 0 = .ok (.aload_n 0, 1) := by decide +kernel
theorem dX8_init_1 : decode cX8_init 1 = .ok (.invokespecial 3, 3) := by decide +kernel
theorem dX8_init_4 : decode cX8_init 4 = .ok (.aload_n 0, 1) := by decide +kernel
theorem dX8_init_5 : decode cX8_init 5 = .ok (.bipush 24, 2) := by decide +kernel
theorem dX8_init_7 : decode cX8_init 7 = .ok (.newarray .int, 2) := by decide +kernel
theorem dX8_init_9 : decode cX8_init 9 = .ok (.putfield 9, 3) := by decide +kernel
theorem dX8_init_12 : decode cX8_init 12 = .ok (.aload_n 0, 1) := by decide +kernel
theorem dX8_init_13 : decode cX8_init 13 = .ok (.iconst 4, 1) := by decide +kernel
theorem dX8_init_14 : decode cX8_init 14 = .ok (.newarray .int, 2) := by decide +kernel
theorem dX8_init_16 : decode cX8_init 16 = .ok (.putfield 15, 3) := by decide +kernel
theorem dX8_init_19 : decode cX8_init 19 = .ok (.aload_n 0, 1) := by decide +kernel
theorem dX8_init_20 : decode cX8_init 20 = .ok (.iconst 4, 1) := by decide +kernel
theorem dX8_init_21 : decode cX8_init 21 = .ok (.newarray .int, 2) := by decide +kernel
theorem dX8_init_23 : decode cX8_init 23 = .ok (.putfield 18, 3) := by decide +kernel
theorem dX8_init_26 : decode cX8_init 26 = .ok (.return_, 1) := by decide +kernel
theorem dX8_clear_0 : decode cX8_clear 0 = .ok (.aload_n 0, 1) := by decide +kernel
theorem dX8_clear_1 : decode cX8_clear 1 = .ok (.getfield 9, 3) := by decide +kernel
theorem dX8_clear_4 : decode cX8_clear 4 = .ok (.iconst (-1), 1) := by decide +kernel
theorem dX8_clear_5 : decode cX8_clear 5 = .ok (.invokestatic 21, 3) := by decide +kernel
theorem dX8_clear_8 : decode cX8_clear 8 = .ok (.aload_n 0, 1) := by decide +kernel
theorem dX8_clear_9 : decode cX8_clear 9 = .ok (.getfield 15, 3) := by decide +kernel
theorem dX8_clear_12 : decode cX8_clear 12 = .ok (.iconst 1, 1) := by decide +kernel
theorem dX8_clear_13 : decode cX8_clear 13 = .ok (.invokestatic 21, 3) := by decide +kernel
theorem dX8_clear_16 : decode cX8_clear 16 = .ok (.aload_n 0, 1) := by decide +kernel
theorem dX8_clear_17 : decode cX8_clear 17 = .ok (.getfield 18, 3) := by decide +kernel
theorem dX8_clear_20 : decode cX8_clear 20 = .ok (.iconst 0, 1) := by decide +kernel
theorem dX8_clear_21 : decode cX8_clear 21 = .ok (.invokestatic 21, 3) := by decide +kernel
theorem dX8_clear_24 : decode cX8_clear 24 = .ok (.return_, 1) := by decide +kernel
theorem dX8_copyFrom_0 : decode cX8_copyFrom 0 = .ok (.aload_n 1, 1) := by decide +kernel
theorem dX8_copyFrom_1 : decode cX8_copyFrom 1 = .ok (.getfield 9, 3) := by decide +kernel
theorem dX8_copyFrom_4 : decode cX8_copyFrom 4 = .ok (.iconst 0, 1) := by decide +kernel
theorem dX8_copyFrom_5 : decode cX8_copyFrom 5 = .ok (.aload_n 0, 1) := by decide +kernel
theorem dX8_copyFrom_6 : decode cX8_copyFrom 6 = .ok (.getfield 9, 3) := by decide +kernel
theorem dX8_copyFrom_9 : decode cX8_copyFrom 9 = .ok (.iconst 0, 1) := by decide +kernel
theorem dX8_copyFrom_10 : decode cX8_copyFrom 10 = .ok (.aload_n 0, 1) := by decide +kernel
theorem dX8_copyFrom_11 : decode cX8_copyFrom 11 = .ok (.getfield 9, 3) := by decide +kernel
theorem dX8_copyFrom_14 : decode cX8_copyFrom 14 = .ok (.arraylength, 1) := by decide +kernel
theorem dX8_copyFrom_15 : decode cX8_copyFrom 15 = .ok (.invokestatic 27, 3) := by decide +kernel
theorem dX8_copyFrom_18 : decode cX8_copyFrom 18 = .ok (.aload_n 1, 1) := by decide +kernel
theorem dX8_copyFrom_19 : decode cX8_copyFrom 19 = .ok (.getfield 15, 3) := by decide +kernel
theorem dX8_copyFrom_22 : decode cX8_copyFrom 22 = .ok (.iconst 0, 1) := by decide +kernel
theorem dX8_copyFrom_23 : decode cX8_copyFrom 23 = .ok (.aload_n 0, 1) := by decide +kernel
theorem dX8_copyFrom_24 : decode cX8_copyFrom 24 = .ok (.getfield 15, 3) := by decide +kernel
theorem dX8_copyFrom_27 : decode cX8_copyFrom 27 = .ok (.iconst 0, 1) := by decide +kernel
theorem dX8_copyFrom_28 : decode cX8_copyFrom 28 = .ok (.aload_n 0, 1) := by decide +kernel
theorem dX8_copyFrom_29 : decode cX8_copyFrom 29 = .ok (.getfield 15, 3) := by decide +kernel
theorem dX8_copyFrom_32 : decode cX8_copyFrom 32 = .ok (.arraylength, 1) := by decide +kernel
theorem dX8_copyFrom_33 : decode cX8_copyFrom 33 = .ok (.invokestatic 27, 3) := by decide +kernel
theorem dX8_copyFrom_36 : decode cX8_copyFrom 36 = .ok (.aload_n 1, 1) := by decide +kernel
theorem dX8_copyFrom_37 : decode cX8_copyFrom 37 = .ok (.getfield 18, 3) := by decide +kernel
theorem dX8_copyFrom_40 : decode cX8_copyFrom 40 = .ok (.iconst 0, 1) := by decide +kernel
theorem dX8_copyFrom_41 : decode cX8_copyFrom 41 = .ok (.aload_n 0, 1) := by decide +kernel
theorem dX8_copyFrom_42 : decode cX8_copyFrom 42 = .ok (.getfield 18, 3) := by decide +kernel
theorem dX8_copyFrom_45 : decode cX8_copyFrom 45 = .ok (.iconst 0, 1) := by decide +kernel
theorem dX8_copyFrom_46 : decode cX8_copyFrom 46 = .ok (.aload_n 0, 1) := by decide +kernel
theorem dX8_copyFrom_47 : decode cX8_copyFrom 47 = .ok (.getfield 18, 3) := by decide +kernel
theorem dX8_copyFrom_50 : decode cX8_copyFrom 50 = .ok (.arraylength, 1) := by decide +kernel
theorem dX8_copyFrom_51 : decode cX8_copyFrom 51 = .ok (.invokestatic 27, 3) := by decide +kernel
theorem dX8_copyFrom_54 : decode cX8_copyFrom 54 = .ok (.return_, 1) := by decide +kernel
theorem dX8_isOut_0 : decode cX8_isOut 0 = .ok (.aload_n 0, 1) := by decide +kernel
theorem dX8_isOut_1 : decode cX8_isOut 1 = .ok (.getfield 15, 3) := by decide +kernel
theorem dX8_isOut_4 : decode cX8_isOut 4 = .ok (.iload_n 1, 1) := by decide +kernel
theorem dX8_isOut_5 : decode cX8_isOut 5 = .ok (.iaload, 1) := by decide +kernel
theorem dX8_isOut_6 : decode cX8_isOut 6 = .ok (.aload_n 0, 1) := by decide +kernel
theorem dX8_isOut_7 : decode cX8_isOut 7 = .ok (.getfield 18, 3) := by decide +kernel
theorem dX8_isOut_10 : decode cX8_isOut 10 = .ok (.iload_n 1, 1) := by decide +kernel
theorem dX8_isOut_11 : decode cX8_isOut 11 = .ok (.iaload, 1) := by decide +kernel
theorem dX8_isOut_12 : decode cX8_isOut 12 = .ok (.if_icmp .gt 7, 3) := by decide +kernel
theorem dX8_isOut_15 : decode cX8_isOut 15 = .ok (.iconst 1, 1) := by decide +kernel
theorem dX8_isOut_16 : decode cX8_isOut 16 = .ok (.goto 4, 3) := by decide +kernel
theorem dX8_isOut_19 : decode cX8_isOut 19 = .ok (.iconst 0, 1) := by decide +kernel
theorem dX8_isOut_20 : decode cX8_isOut 20 = .ok (.ireturn, 1) := by decide +kernel
theorem dX9_init_0 : decode cX9_init 0 = .ok (.aload_n 0, 1) := by decide +kernel
theorem dX9_init_1 : decode cX9_init 1 = .ok (.invokespecial 3, 3) := by decide +kernel
theorem dX9_init_4 : decode cX9_init 4 = .ok (.aload_n 0, 1) := by decide +kernel
theorem dX9_init_5 : decode cX9_init 5 = .ok (.bipush 60, 2) := by decide +kernel
theorem dX9_init_7 : decode cX9_init 7 = .ok (.newarray .int, 2) := by decide +kernel
theorem dX9_init_9 : decode cX9_init 9 = .ok (.putfield 9, 3) := by decide +kernel
theorem dX9_init_12 : decode cX9_init 12 = .ok (.return_, 1) := by decide +kernel
theorem dX9_follow_0 : decode cX9_follow 0 = .ok (.aload_n 0, 1) := by decide +kernel
theorem dX9_follow_1 : decode cX9_follow 1 = .ok (.aload_n 1, 1) := by decide +kernel
theorem dX9_follow_2 : decode cX9_follow 2 = .ok (.getfield 15, 3) := by decide +kernel
theorem dX9_follow_5 : decode cX9_follow 5 = .ok (.iload_n 2, 1) := by decide +kernel
theorem dX9_follow_6 : decode cX9_follow 6 = .ok (.iload_n 3, 1) := by decide +kernel
theorem dX9_follow_7 : decode cX9_follow 7 = .ok (.invokevirtual 21, 3) := by decide +kernel
theorem dX9_follow_10 : decode cX9_follow 10 = .ok (.iconst 2, 1) := by decide +kernel
theorem dX9_follow_11 : decode cX9_follow 11 = .ok (.aload_n 1, 1) := by decide +kernel
theorem dX9_follow_12 : decode cX9_follow 12 = .ok (.getfield 25, 3) := by decide +kernel
theorem dX9_follow_15 : decode cX9_follow 15 = .ok (.getfield 29, 3) := by decide +kernel
theorem dX9_follow_18 : decode cX9_follow 18 = .ok (.iload_n 2, 1) := by decide +kernel
theorem dX9_follow_19 : decode cX9_follow 19 = .ok (.iconst 3, 1) := by decide +kernel
theorem dX9_follow_20 : decode cX9_follow 20 = .ok (.invokevirtual 35, 3) := by decide +kernel
theorem dX9_follow_23 : decode cX9_follow 23 = .ok (.imul, 1) := by decide +kernel
theorem dX9_follow_24 : decode cX9_follow 24 = .ok (.istore 5, 2) := by decide +kernel
theorem dX9_follow_26 : decode cX9_follow 26 = .ok (.iconst 2, 1) := by decide +kernel
theorem dX9_follow_27 : decode cX9_follow 27 = .ok (.aload_n 1, 1) := by decide +kernel
theorem dX9_follow_28 : decode cX9_follow 28 = .ok (.getfield 25, 3) := by decide +kernel
theorem dX9_follow_31 : decode cX9_follow 31 = .ok (.getfield 29, 3) := by decide +kernel
theorem dX9_follow_34 : decode cX9_follow 34 = .ok (.iload_n 2, 1) := by decide +kernel
theorem dX9_follow_35 : decode cX9_follow 35 = .ok (.iconst 4, 1) := by decide +kernel
theorem dX9_follow_36 : decode cX9_follow 36 = .ok (.invokevirtual 35, 3) := by decide +kernel
theorem dX9_follow_39 : decode cX9_follow 39 = .ok (.imul, 1) := by decide +kernel
theorem dX9_follow_40 : decode cX9_follow 40 = .ok (.istore 6, 2) := by decide +kernel
theorem dX9_follow_42 : decode cX9_follow 42 = .ok (.aload_n 0, 1) := by decide +kernel
theorem dX9_follow_43 : decode cX9_follow 43 = .ok (.iconst 0, 1) := by decide +kernel
theorem dX9_follow_44 : decode cX9_follow 44 = .ok (.putfield 41, 3) := by decide +kernel
theorem dX9_follow_47 : decode cX9_follow 47 = .ok (.aload_n 0, 1) := by decide +kernel
theorem dX9_follow_48 : decode cX9_follow 48 = .ok (.iconst 0, 1) := by decide +kernel
theorem dX9_follow_49 : decode cX9_follow 49 = .ok (.putfield 45, 3) := by decide +kernel
theorem dX9_follow_52 : decode cX9_follow 52 = .ok (.aload_n 0, 1) := by decide +kernel
theorem dX9_follow_53 : decode cX9_follow 53 = .ok (.iconst 0, 1) := by decide +kernel
theorem dX9_follow_54 : decode cX9_follow 54 = .ok (.putfield 48, 3) := by decide +kernel
theorem dX9_follow_57 : decode cX9_follow 57 = .ok (.aload_n 0, 1) := by decide +kernel
theorem dX9_follow_58 : decode cX9_follow 58 = .ok (.bipush (-4), 2) := by decide +kernel
theorem dX9_follow_60 : decode cX9_follow 60 = .ok (.putfield 51, 3) := by decide +kernel
theorem dX9_follow_63 : decode cX9_follow 63 = .ok (.iconst 0, 1) := by decide +kernel
theorem dX9_follow_64 : decode cX9_follow 64 = .ok (.istore 7, 2) := by decide +kernel
theorem dX9_follow_66 : decode cX9_follow 66 = .ok (.iload 7, 2) := by decide +kernel
theorem dX9_follow_68 : decode cX9_follow 68 = .ok (.iload 4, 2) := by decide +kernel
theorem dX9_follow_70 : decode cX9_follow 70 = .ok (.if_icmp .gt 111, 3) := by decide +kernel
theorem dX9_follow_73 : decode cX9_follow 73 = .ok (.aload_n 0, 1) := by decide +kernel
theorem dX9_follow_74 : decode cX9_follow 74 = .ok (.dup, 1) := by decide +kernel
theorem dX9_follow_75 : decode cX9_follow 75 = .ok (.getfield 41, 3) := by decide +kernel
theorem dX9_follow_78 : decode cX9_follow 78 = .ok (.iload 6, 2) := by decide +kernel
theorem dX9_follow_80 : decode cX9_follow 80 = .ok (.iadd, 1) := by decide +kernel
theorem dX9_follow_81 : decode cX9_follow 81 = .ok (.putfield 41, 3) := by decide +kernel
theorem dX9_follow_84 : decode cX9_follow 84 = .ok (.aload_n 0, 1) := by decide +kernel
theorem dX9_follow_85 : decode cX9_follow 85 = .ok (.getfield 9, 3) := by decide +kernel
theorem dX9_follow_88 : decode cX9_follow 88 = .ok (.iload 7, 2) := by decide +kernel
theorem dX9_follow_90 : decode cX9_follow 90 = .ok (.iaload, 1) := by decide +kernel
theorem dX9_follow_91 : decode cX9_follow 91 = .ok (.aload_n 0, 1) := by decide +kernel
theorem dX9_follow_92 : decode cX9_follow 92 = .ok (.getfield 41, 3) := by decide +kernel
theorem dX9_follow_95 : decode cX9_follow 95 = .ok (.invokestatic 54, 3) := by decide +kernel
theorem dX9_follow_98 : decode cX9_follow 98 = .ok (.istore 8, 2) := by decide +kernel
theorem dX9_follow_100 : decode cX9_follow 100 = .ok (.aload_n 0, 1) := by decide +kernel
theorem dX9_follow_101 : decode cX9_follow 101 = .ok (.dup, 1) := by decide +kernel
theorem dX9_follow_102 : decode cX9_follow 102 = .ok (.getfield 41, 3) := by decide +kernel
theorem dX9_follow_105 : decode cX9_follow 105 = .ok (.iload 8, 2) := by decide +kernel
theorem dX9_follow_107 : decode cX9_follow 107 = .ok (.isub, 1) := by decide +kernel
theorem dX9_follow_108 : decode cX9_follow 108 = .ok (.putfield 41, 3) := by decide +kernel
theorem dX9_follow_111 : decode cX9_follow 111 = .ok (.aload_n 0, 1) := by decide +kernel
theorem dX9_follow_112 : decode cX9_follow 112 = .ok (.dup, 1) := by decide +kernel
theorem dX9_follow_113 : decode cX9_follow 113 = .ok (.getfield 48, 3) := by decide +kernel
theorem dX9_follow_116 : decode cX9_follow 116 = .ok (.iload 8, 2) := by decide +kernel
theorem dX9_follow_118 : decode cX9_follow 118 = .ok (.iadd, 1) := by decide +kernel
theorem dX9_follow_119 : decode cX9_follow 119 = .ok (.putfield 48, 3) := by decide +kernel
theorem dX9_follow_122 : decode cX9_follow 122 = .ok (.aload_n 0, 1) := by decide +kernel
theorem dX9_follow_123 : decode cX9_follow 123 = .ok (.getfield 41, 3) := by decide +kernel
theorem dX9_follow_126 : decode cX9_follow 126 = .ok (.iload 5, 2) := by decide +kernel
theorem dX9_follow_128 : decode cX9_follow 128 = .ok (.if_icmp .le 47, 3) := by decide +kernel
theorem dX9_follow_131 : decode cX9_follow 131 = .ok (.aload_n 0, 1) := by decide +kernel
theorem dX9_follow_132 : decode cX9_follow 132 = .ok (.dup, 1) := by decide +kernel
theorem dX9_follow_133 : decode cX9_follow 133 = .ok (.getfield 45, 3) := by decide +kernel
theorem dX9_follow_136 : decode cX9_follow 136 = .ok (.aload_n 0, 1) := by decide +kernel
theorem dX9_follow_137 : decode cX9_follow 137 = .ok (.getfield 41, 3) := by decide +kernel
theorem dX9_follow_140 : decode cX9_follow 140 = .ok (.iload 5, 2) := by decide +kernel
theorem dX9_follow_142 : decode cX9_follow 142 = .ok (.isub, 1) := by decide +kernel
theorem dX9_follow_143 : decode cX9_follow 143 = .ok (.iadd, 1) := by decide +kernel
theorem dX9_follow_144 : decode cX9_follow 144 = .ok (.putfield 45, 3) := by decide +kernel
theorem dX9_follow_147 : decode cX9_follow 147 = .ok (.aload_n 0, 1) := by decide +kernel
theorem dX9_follow_148 : decode cX9_follow 148 = .ok (.iload 5, 2) := by decide +kernel
theorem dX9_follow_150 : decode cX9_follow 150 = .ok (.putfield 41, 3) := by decide +kernel
theorem dX9_follow_153 : decode cX9_follow 153 = .ok (.aload_n 0, 1) := by decide +kernel
theorem dX9_follow_154 : decode cX9_follow 154 = .ok (.aload_n 0, 1) := by decide +kernel
theorem dX9_follow_155 : decode cX9_follow 155 = .ok (.getfield 51, 3) := by decide +kernel
theorem dX9_follow_158 : decode cX9_follow 158 = .ok (.bipush (-4), 2) := by decide +kernel
theorem dX9_follow_160 : decode cX9_follow 160 = .ok (.if_icmp .ne 8, 3) := by decide +kernel
theorem dX9_follow_163 : decode cX9_follow 163 = .ok (.iload 7, 2) := by decide +kernel
theorem dX9_follow_165 : decode cX9_follow 165 = .ok (.goto 7, 3) := by decide +kernel
theorem dX9_follow_168 : decode cX9_follow 168 = .ok (.aload_n 0, 1) := by decide +kernel
theorem dX9_follow_169 : decode cX9_follow 169 = .ok (.getfield 51, 3) := by decide +kernel
theorem dX9_follow_172 : decode cX9_follow 172 = .ok (.putfield 51, 3) := by decide +kernel
theorem dX9_follow_175 : decode cX9_follow 175 = .ok (.iinc 7 1, 3) := by decide +kernel
theorem dX9_follow_178 : decode cX9_follow 178 = .ok (.goto (-112), 3) := by decide +kernel
theorem dX9_follow_181 : decode cX9_follow 181 = .ok (.return_, 1) := by decide +kernel
theorem dX9_gatherFlow_0 : decode cX9_gatherFlow 0 = .ok (.aload_n 0, 1) := by decide +kernel
theorem dX9_gatherFlow_1 : decode cX9_gatherFlow 1 = .ok (.getfield 9, 3) := by decide +kernel
theorem dX9_gatherFlow_4 : decode cX9_gatherFlow 4 = .ok (.iconst 0, 1) := by decide +kernel
theorem dX9_gatherFlow_5 : decode cX9_gatherFlow 5 = .ok (.invokestatic 59, 3) := by decide +kernel
theorem dX9_gatherFlow_8 : decode cX9_gatherFlow 8 = .ok (.iconst 0, 1) := by decide +kernel
theorem dX9_gatherFlow_9 : decode cX9_gatherFlow 9 = .ok (.istore 4, 2) := by decide +kernel
theorem dX9_gatherFlow_11 : decode cX9_gatherFlow 11 = .ok (.iload 4, 2) := by decide +kernel
theorem dX9_gatherFlow_13 : decode cX9_gatherFlow 13 = .ok (.aload_n 1, 1) := by decide +kernel
theorem dX9_gatherFlow_14 : decode cX9_gatherFlow 14 = .ok (.getfield 65, 3) := by decide +kernel
theorem dX9_gatherFlow_17 : decode cX9_gatherFlow 17 = .ok (.if_icmp .ge 74, 3) := by decide +kernel
theorem dX9_gatherFlow_20 : decode cX9_gatherFlow 20 = .ok (.aload_n 1, 1) := by decide +kernel
theorem dX9_gatherFlow_21 : decode cX9_gatherFlow 21 = .ok (.getfield 70, 3) := by decide +kernel
theorem dX9_gatherFlow_24 : decode cX9_gatherFlow 24 = .ok (.iload 4, 2) := by decide +kernel
theorem dX9_gatherFlow_26 : decode cX9_gatherFlow 26 = .ok (.iaload, 1) := by decide +kernel
theorem dX9_gatherFlow_27 : decode cX9_gatherFlow 27 = .ok (.iload_n 2, 1) := by decide +kernel
theorem dX9_gatherFlow_28 : decode cX9_gatherFlow 28 = .ok (.if_icmp .ne 57, 3) := by decide +kernel
theorem dX9_gatherFlow_31 : decode cX9_gatherFlow 31 = .ok (.iload_n 3, 1) := by decide +kernel
theorem dX9_gatherFlow_32 : decode cX9_gatherFlow 32 = .ok (.iload 4, 2) := by decide +kernel
theorem dX9_gatherFlow_34 : decode cX9_gatherFlow 34 = .ok (.ishr, 1) := by decide +kernel
theorem dX9_gatherFlow_35 : decode cX9_gatherFlow 35 = .ok (.iconst 1, 1) := by decide +kernel
theorem dX9_gatherFlow_36 : decode cX9_gatherFlow 36 = .ok (.iand, 1) := by decide +kernel
theorem dX9_gatherFlow_37 : decode cX9_gatherFlow 37 = .ok (.ifCond .eq 48, 3) := by decide +kernel
theorem dX9_gatherFlow_40 : decode cX9_gatherFlow 40 = .ok (.aload_n 1, 1) := by decide +kernel
theorem dX9_gatherFlow_41 : decode cX9_gatherFlow 41 = .ok (.getfield 73, 3) := by decide +kernel
theorem dX9_gatherFlow_44 : decode cX9_gatherFlow 44 = .ok (.iload 4, 2) := by decide +kernel
theorem dX9_gatherFlow_46 : decode cX9_gatherFlow 46 = .ok (.iaload, 1) := by decide +kernel
theorem dX9_gatherFlow_47 : decode cX9_gatherFlow 47 = .ok (.istore 5, 2) := by decide +kernel
theorem dX9_gatherFlow_49 : decode cX9_gatherFlow 49 = .ok (.iload 5, 2) := by decide +kernel
theorem dX9_gatherFlow_51 : decode cX9_gatherFlow 51 = .ok (.aload_n 1, 1) := by decide +kernel
theorem dX9_gatherFlow_52 : decode cX9_gatherFlow 52 = .ok (.getfield 76, 3) := by decide +kernel
theorem dX9_gatherFlow_55 : decode cX9_gatherFlow 55 = .ok (.iload 4, 2) := by decide +kernel
theorem dX9_gatherFlow_57 : decode cX9_gatherFlow 57 = .ok (.iaload, 1) := by decide +kernel
theorem dX9_gatherFlow_58 : decode cX9_gatherFlow 58 = .ok (.if_icmp .gt 27, 3) := by decide +kernel
theorem dX9_gatherFlow_61 : decode cX9_gatherFlow 61 = .ok (.aload_n 0, 1) := by decide +kernel
theorem dX9_gatherFlow_62 : decode cX9_gatherFlow 62 = .ok (.getfield 9, 3) := by decide +kernel
theorem dX9_gatherFlow_65 : decode cX9_gatherFlow 65 = .ok (.iload 5, 2) := by decide +kernel
theorem dX9_gatherFlow_67 : decode cX9_gatherFlow 67 = .ok (.dup2, 1) := by decide +kernel
theorem dX9_gatherFlow_68 : decode cX9_gatherFlow 68 = .ok (.iaload, 1) := by decide +kernel
theorem dX9_gatherFlow_69 : decode cX9_gatherFlow 69 = .ok (.aload_n 1, 1) := by decide +kernel
theorem dX9_gatherFlow_70 : decode cX9_gatherFlow 70 = .ok (.iload 4, 2) := by decide +kernel
theorem dX9_gatherFlow_72 : decode cX9_gatherFlow 72 = .ok (.iload 5, 2) := by decide +kernel
theorem dX9_gatherFlow_74 : decode cX9_gatherFlow 74 = .ok (.invokevirtual 79, 3) := by decide +kernel
theorem dX9_gatherFlow_77 : decode cX9_gatherFlow 77 = .ok (.iadd, 1) := by decide +kernel
theorem dX9_gatherFlow_78 : decode cX9_gatherFlow 78 = .ok (.iastore, 1) := by decide +kernel
theorem dX9_gatherFlow_79 : decode cX9_gatherFlow 79 = .ok (.iinc 5 1, 3) := by decide +kernel
theorem dX9_gatherFlow_82 : decode cX9_gatherFlow 82 = .ok (.goto (-33), 3) := by decide +kernel
theorem dX9_gatherFlow_85 : decode cX9_gatherFlow 85 = .ok (.iinc 4 1, 3) := by decide +kernel
theorem dX9_gatherFlow_88 : decode cX9_gatherFlow 88 = .ok (.goto (-77), 3) := by decide +kernel
theorem dX9_gatherFlow_91 : decode cX9_gatherFlow 91 = .ok (.return_, 1) := by decide +kernel
theorem dX9_lostByAll_0 : decode cX9_lostByAll 0 = .ok (.iconst 0, 1) := by decide +kernel
theorem dX9_lostByAll_1 : decode cX9_lostByAll 1 = .ok (.istore_n 3, 1) := by decide +kernel
theorem dX9_lostByAll_2 : decode cX9_lostByAll 2 = .ok (.iconst 0, 1) := by decide +kernel
theorem dX9_lostByAll_3 : decode cX9_lostByAll 3 = .ok (.istore 4, 2) := by decide +kernel
theorem dX9_lostByAll_5 : decode cX9_lostByAll 5 = .ok (.iload 4, 2) := by decide +kernel
theorem dX9_lostByAll_7 : decode cX9_lostByAll 7 = .ok (.aload_n 1, 1) := by decide +kernel
theorem dX9_lostByAll_8 : decode cX9_lostByAll 8 = .ok (.getfield 25, 3) := by decide +kernel
theorem dX9_lostByAll_11 : decode cX9_lostByAll 11 = .ok (.getfield 29, 3) := by decide +kernel
theorem dX9_lostByAll_14 : decode cX9_lostByAll 14 = .ok (.getfield 82, 3) := by decide +kernel
theorem dX9_lostByAll_17 : decode cX9_lostByAll 17 = .ok (.if_icmp .ge 26, 3) := by decide +kernel
theorem dX9_lostByAll_20 : decode cX9_lostByAll 20 = .ok (.aload_n 0, 1) := by decide +kernel
theorem dX9_lostByAll_21 : decode cX9_lostByAll 21 = .ok (.aload_n 1, 1) := by decide +kernel
theorem dX9_lostByAll_22 : decode cX9_lostByAll 22 = .ok (.iload 4, 2) := by decide +kernel
theorem dX9_lostByAll_24 : decode cX9_lostByAll 24 = .ok (.iload_n 2, 1) := by decide +kernel
theorem dX9_lostByAll_25 : decode cX9_lostByAll 25 = .ok (.bipush 59, 2) := by decide +kernel
theorem dX9_lostByAll_27 : decode cX9_lostByAll 27 = .ok (.invokevirtual 85, 3) := by decide +kernel
theorem dX9_lostByAll_30 : decode cX9_lostByAll 30 = .ok (.iload_n 3, 1) := by decide +kernel
theorem dX9_lostByAll_31 : decode cX9_lostByAll 31 = .ok (.aload_n 0, 1) := by decide +kernel
theorem dX9_lostByAll_32 : decode cX9_lostByAll 32 = .ok (.getfield 45, 3) := by decide +kernel
theorem dX9_lostByAll_35 : decode cX9_lostByAll 35 = .ok (.iadd, 1) := by decide +kernel
theorem dX9_lostByAll_36 : decode cX9_lostByAll 36 = .ok (.istore_n 3, 1) := by decide +kernel
theorem dX9_lostByAll_37 : decode cX9_lostByAll 37 = .ok (.iinc 4 1, 3) := by decide +kernel
theorem dX9_lostByAll_40 : decode cX9_lostByAll 40 = .ok (.goto (-35), 3) := by decide +kernel
theorem dX9_lostByAll_43 : decode cX9_lostByAll 43 = .ok (.iload_n 3, 1) := by decide +kernel
theorem dX9_lostByAll_44 : decode cX9_lostByAll 44 = .ok (.ireturn, 1) := by decide +kernel
theorem dX9_gotByAll_0 : decode cX9_gotByAll 0 = .ok (.iconst 0, 1) := by decide +kernel
theorem dX9_gotByAll_1 : decode cX9_gotByAll 1 = .ok (.istore_n 3, 1) := by decide +kernel
theorem dX9_gotByAll_2 : decode cX9_gotByAll 2 = .ok (.iconst 0, 1) := by decide +kernel
theorem dX9_gotByAll_3 : decode cX9_gotByAll 3 = .ok (.istore 4, 2) := by decide +kernel
theorem dX9_gotByAll_5 : decode cX9_gotByAll 5 = .ok (.iload 4, 2) := by decide +kernel
theorem dX9_gotByAll_7 : decode cX9_gotByAll 7 = .ok (.aload_n 1, 1) := by decide +kernel
theorem dX9_gotByAll_8 : decode cX9_gotByAll 8 = .ok (.getfield 25, 3) := by decide +kernel
theorem dX9_gotByAll_11 : decode cX9_gotByAll 11 = .ok (.getfield 29, 3) := by decide +kernel
theorem dX9_gotByAll_14 : decode cX9_gotByAll 14 = .ok (.getfield 82, 3) := by decide +kernel
theorem dX9_gotByAll_17 : decode cX9_gotByAll 17 = .ok (.if_icmp .ge 26, 3) := by decide +kernel
theorem dX9_gotByAll_20 : decode cX9_gotByAll 20 = .ok (.aload_n 0, 1) := by decide +kernel
theorem dX9_gotByAll_21 : decode cX9_gotByAll 21 = .ok (.aload_n 1, 1) := by decide +kernel
theorem dX9_gotByAll_22 : decode cX9_gotByAll 22 = .ok (.iload 4, 2) := by decide +kernel
theorem dX9_gotByAll_24 : decode cX9_gotByAll 24 = .ok (.iload_n 2, 1) := by decide +kernel
theorem dX9_gotByAll_25 : decode cX9_gotByAll 25 = .ok (.bipush 59, 2) := by decide +kernel
theorem dX9_gotByAll_27 : decode cX9_gotByAll 27 = .ok (.invokevirtual 85, 3) := by decide +kernel
theorem dX9_gotByAll_30 : decode cX9_gotByAll 30 = .ok (.iload_n 3, 1) := by decide +kernel
theorem dX9_gotByAll_31 : decode cX9_gotByAll 31 = .ok (.aload_n 0, 1) := by decide +kernel
theorem dX9_gotByAll_32 : decode cX9_gotByAll 32 = .ok (.getfield 48, 3) := by decide +kernel
theorem dX9_gotByAll_35 : decode cX9_gotByAll 35 = .ok (.iadd, 1) := by decide +kernel
theorem dX9_gotByAll_36 : decode cX9_gotByAll 36 = .ok (.istore_n 3, 1) := by decide +kernel
theorem dX9_gotByAll_37 : decode cX9_gotByAll 37 = .ok (.iinc 4 1, 3) := by decide +kernel
theorem dX9_gotByAll_40 : decode cX9_gotByAll 40 = .ok (.goto (-35), 3) := by decide +kernel
theorem dX9_gotByAll_43 : decode cX9_gotByAll 43 = .ok (.iload_n 3, 1) := by decide +kernel
theorem dX9_gotByAll_44 : decode cX9_gotByAll 44 = .ok (.ireturn, 1) := by decide +kernel
theorem dX10_init_0 : decode cX10_init 0 = .ok (.aload_n 0, 1) := by decide +kernel
theorem dX10_init_1 : decode cX10_init 1 = .ok (.invokespecial 1, 3) := by decide +kernel
theorem dX10_init_4 : decode cX10_init 4 = .ok (.aload_n 0, 1) := by decide +kernel
theorem dX10_init_5 : decode cX10_init 5 = .ok (.new 7, 3) := by decide +kernel
theorem dX10_init_8 : decode cX10_init 8 = .ok (.dup, 1) := by decide +kernel
theorem dX10_init_9 : decode cX10_init 9 = .ok (.invokespecial 9, 3) := by decide +kernel
theorem dX10_init_12 : decode cX10_init 12 = .ok (.putfield 10, 3) := by decide +kernel
theorem dX10_init_15 : decode cX10_init 15 = .ok (.aload_n 0, 1) := by decide +kernel
theorem dX10_init_16 : decode cX10_init 16 = .ok (.new 16, 3) := by decide +kernel
theorem dX10_init_19 : decode cX10_init 19 = .ok (.dup, 1) := by decide +kernel
theorem dX10_init_20 : decode cX10_init 20 = .ok (.invokespecial 18, 3) := by decide +kernel
theorem dX10_init_23 : decode cX10_init 23 = .ok (.putfield 19, 3) := by decide +kernel
theorem dX10_init_26 : decode cX10_init 26 = .ok (.aload_n 0, 1) := by decide +kernel
theorem dX10_init_27 : decode cX10_init 27 = .ok (.new 23, 3) := by decide +kernel
theorem dX10_init_30 : decode cX10_init 30 = .ok (.dup, 1) := by decide +kernel
theorem dX10_init_31 : decode cX10_init 31 = .ok (.invokespecial 25, 3) := by decide +kernel
theorem dX10_init_34 : decode cX10_init 34 = .ok (.putfield 26, 3) := by decide +kernel
theorem dX10_init_37 : decode cX10_init 37 = .ok (.aload_n 0, 1) := by decide +kernel
theorem dX10_init_38 : decode cX10_init 38 = .ok (.new 30, 3) := by decide +kernel
theorem dX10_init_41 : decode cX10_init 41 = .ok (.dup, 1) := by decide +kernel
theorem dX10_init_42 : decode cX10_init 42 = .ok (.invokespecial 32, 3) := by decide +kernel
theorem dX10_init_45 : decode cX10_init 45 = .ok (.putfield 33, 3) := by decide +kernel
theorem dX10_init_48 : decode cX10_init 48 = .ok (.aload_n 0, 1) := by decide +kernel
theorem dX10_init_49 : decode cX10_init 49 = .ok (.new 37, 3) := by decide +kernel
theorem dX10_init_52 : decode cX10_init 52 = .ok (.dup, 1) := by decide +kernel
theorem dX10_init_53 : decode cX10_init 53 = .ok (.invokespecial 39, 3) := by decide +kernel
theorem dX10_init_56 : decode cX10_init 56 = .ok (.putfield 40, 3) := by decide +kernel
theorem dX10_init_59 : decode cX10_init 59 = .ok (.aload_n 0, 1) := by decide +kernel
theorem dX10_init_60 : decode cX10_init 60 = .ok (.new 44, 3) := by decide +kernel
theorem dX10_init_63 : decode cX10_init 63 = .ok (.dup, 1) := by decide +kernel
theorem dX10_init_64 : decode cX10_init 64 = .ok (.invokespecial 46, 3) := by decide +kernel
theorem dX10_init_67 : decode cX10_init 67 = .ok (.putfield 47, 3) := by decide +kernel
theorem dX10_init_70 : decode cX10_init 70 = .ok (.aload_n 0, 1) := by decide +kernel
theorem dX10_init_71 : decode cX10_init 71 = .ok (.new 51, 3) := by decide +kernel
theorem dX10_init_74 : decode cX10_init 74 = .ok (.dup, 1) := by decide +kernel
theorem dX10_init_75 : decode cX10_init 75 = .ok (.invokespecial 53, 3) := by decide +kernel
theorem dX10_init_78 : decode cX10_init 78 = .ok (.putfield 54, 3) := by decide +kernel
theorem dX10_init_81 : decode cX10_init 81 = .ok (.iconst 0, 1) := by decide +kernel
theorem dX10_init_82 : decode cX10_init 82 = .ok (.istore_n 1, 1) := by decide +kernel
theorem dX10_init_83 : decode cX10_init 83 = .ok (.iload_n 1, 1) := by decide +kernel
theorem dX10_init_84 : decode cX10_init 84 = .ok (.ldc 58, 2) := by decide +kernel
theorem dX10_init_86 : decode cX10_init 86 = .ok (.invokevirtual 60, 3) := by decide +kernel
theorem dX10_init_89 : decode cX10_init 89 = .ok (.if_icmp .ge 22, 3) := by decide +kernel
theorem dX10_init_92 : decode cX10_init 92 = .ok (.aload_n 0, 1) := by decide +kernel
theorem dX10_init_93 : decode cX10_init 93 = .ok (.getfield 10, 3) := by decide +kernel
theorem dX10_init_96 : decode cX10_init 96 = .ok (.ldc 58, 2) := by decide +kernel
theorem dX10_init_98 : decode cX10_init 98 = .ok (.iload_n 1, 1) := by decide +kernel
theorem dX10_init_99 : decode cX10_init 99 = .ok (.invokevirtual 66, 3) := by decide +kernel
theorem dX10_init_102 : decode cX10_init 102 = .ok (.invokevirtual 70, 3) := by decide +kernel
theorem dX10_init_105 : decode cX10_init 105 = .ok (.iinc 1 1, 3) := by decide +kernel
theorem dX10_init_108 : decode cX10_init 108 = .ok (.goto (-25), 3) := by decide +kernel
theorem dX10_init_111 : decode cX10_init 111 = .ok (.aload_n 0, 1) := by decide +kernel
theorem dX10_init_112 : decode cX10_init 112 = .ok (.invokevirtual 74, 3) := by decide +kernel
theorem dX10_init_115 : decode cX10_init 115 = .ok (.pop, 1) := by decide +kernel
theorem dX10_init_116 : decode cX10_init 116 = .ok (.aload_n 0, 1) := by decide +kernel
theorem dX10_init_117 : decode cX10_init 117 = .ok (.getfield 10, 3) := by decide +kernel
theorem dX10_init_120 : decode cX10_init 120 = .ok (.invokevirtual 77, 3) := by decide +kernel
theorem dX10_init_123 : decode cX10_init 123 = .ok (.return_, 1) := by decide +kernel
theorem dX10_write_0 : decode cX10_write 0 = .ok (.iload_n 1, 1) := by decide +kernel
theorem dX10_write_1 : decode cX10_write 1 = .ok (.bipush 32, 2) := by decide +kernel
theorem dX10_write_3 : decode cX10_write 3 = .ok (.if_icmp .lt 9, 3) := by decide +kernel
theorem dX10_write_6 : decode cX10_write 6 = .ok (.iload_n 1, 1) := by decide +kernel
theorem dX10_write_7 : decode cX10_write 7 = .ok (.bipush 126, 2) := by decide +kernel
theorem dX10_write_9 : decode cX10_write 9 = .ok (.if_icmp .le 5, 3) := by decide +kernel
theorem dX10_write_12 : decode cX10_write 12 = .ok (.iconst (-1), 1) := by decide +kernel
theorem dX10_write_13 : decode cX10_write 13 = .ok (.ireturn, 1) := by decide +kernel
theorem dX10_write_14 : decode cX10_write 14 = .ok (.aload_n 0, 1) := by decide +kernel
theorem dX10_write_15 : decode cX10_write 15 = .ok (.getfield 10, 3) := by decide +kernel
theorem dX10_write_18 : decode cX10_write 18 = .ok (.getfield 80, 3) := by decide +kernel
theorem dX10_write_21 : decode cX10_write 21 = .ok (.sipush 200, 3) := by decide +kernel
theorem dX10_write_24 : decode cX10_write 24 = .ok (.if_icmp .lt 6, 3) := by decide +kernel
theorem dX10_write_27 : decode cX10_write 27 = .ok (.bipush (-3), 2) := by decide +kernel
theorem dX10_write_29 : decode cX10_write 29 = .ok (.ireturn, 1) := by decide +kernel
theorem dX10_write_30 : decode cX10_write 30 = .ok (.aload_n 0, 1) := by decide +kernel
theorem dX10_write_31 : decode cX10_write 31 = .ok (.getfield 10, 3) := by decide +kernel
theorem dX10_write_34 : decode cX10_write 34 = .ok (.iload_n 1, 1) := by decide +kernel
theorem dX10_write_35 : decode cX10_write 35 = .ok (.i2c, 1) := by decide +kernel
theorem dX10_write_36 : decode cX10_write 36 = .ok (.invokevirtual 70, 3) := by decide +kernel
theorem dX10_write_39 : decode cX10_write 39 = .ok (.aload_n 0, 1) := by decide +kernel
theorem dX10_write_40 : decode cX10_write 40 = .ok (.getfield 10, 3) := by decide +kernel
theorem dX10_write_43 : decode cX10_write 43 = .ok (.getfield 80, 3) := by decide +kernel
theorem dX10_write_46 : decode cX10_write 46 = .ok (.ireturn, 1) := by decide +kernel
theorem dX10_wipe_0 : decode cX10_wipe 0 = .ok (.aload_n 0, 1) := by decide +kernel
theorem dX10_wipe_1 : decode cX10_wipe 1 = .ok (.getfield 10, 3) := by decide +kernel
theorem dX10_wipe_4 : decode cX10_wipe 4 = .ok (.getfield 80, 3) := by decide +kernel
theorem dX10_wipe_7 : decode cX10_wipe 7 = .ok (.istore_n 1, 1) := by decide +kernel
theorem dX10_wipe_8 : decode cX10_wipe 8 = .ok (.aload_n 0, 1) := by decide +kernel
theorem dX10_wipe_9 : decode cX10_wipe 9 = .ok (.getfield 10, 3) := by decide +kernel
theorem dX10_wipe_12 : decode cX10_wipe 12 = .ok (.invokevirtual 77, 3) := by decide +kernel
theorem dX10_wipe_15 : decode cX10_wipe 15 = .ok (.iload_n 1, 1) := by decide +kernel
theorem dX10_wipe_16 : decode cX10_wipe 16 = .ok (.ireturn, 1) := by decide +kernel
theorem dX10_fault_0 : decode cX10_fault 0 = .ok (.aload_n 0, 1) := by decide +kernel
theorem dX10_fault_1 : decode cX10_fault 1 = .ok (.getfield 54, 3) := by decide +kernel
theorem dX10_fault_4 : decode cX10_fault 4 = .ok (.aload_n 0, 1) := by decide +kernel
theorem dX10_fault_5 : decode cX10_fault 5 = .ok (.getfield 10, 3) := by decide +kernel
theorem dX10_fault_8 : decode cX10_fault 8 = .ok (.invokevirtual 83, 3) := by decide +kernel
theorem dX10_fault_11 : decode cX10_fault 11 = .ok (.ireturn, 1) := by decide +kernel
theorem dX10_lay_0 : decode cX10_lay 0 = .ok (.aload_n 0, 1) := by decide +kernel
theorem dX10_lay_1 : decode cX10_lay 1 = .ok (.invokevirtual 74, 3) := by decide +kernel
theorem dX10_lay_4 : decode cX10_lay 4 = .ok (.ireturn, 1) := by decide +kernel
theorem dX10_sat_0 : decode cX10_sat 0 = .ok (.aload_n 0, 1) := by decide +kernel
theorem dX10_sat_1 : decode cX10_sat 1 = .ok (.getfield 19, 3) := by decide +kernel
theorem dX10_sat_4 : decode cX10_sat 4 = .ok (.getfield 87, 3) := by decide +kernel
theorem dX10_sat_7 : decode cX10_sat 7 = .ok (.getfield 90, 3) := by decide +kernel
theorem dX10_sat_10 : decode cX10_sat 10 = .ok (.iload_n 1, 1) := by decide +kernel
theorem dX10_sat_11 : decode cX10_sat 11 = .ok (.invokevirtual 94, 3) := by decide +kernel
theorem dX10_sat_14 : decode cX10_sat 14 = .ok (.ifCond .eq 13, 3) := by decide +kernel
theorem dX10_sat_17 : decode cX10_sat 17 = .ok (.iload_n 2, 1) := by decide +kernel
theorem dX10_sat_18 : decode cX10_sat 18 = .ok (.ifCond .lt 9, 3) := by decide +kernel
theorem dX10_sat_21 : decode cX10_sat 21 = .ok (.iload_n 2, 1) := by decide +kernel
theorem dX10_sat_22 : decode cX10_sat 22 = .ok (.bipush 6, 2) := by decide +kernel
theorem dX10_sat_24 : decode cX10_sat 24 = .ok (.if_icmp .le 5, 3) := by decide +kernel
theorem dX10_sat_27 : decode cX10_sat 27 = .ok (.iconst (-1), 1) := by decide +kernel
theorem dX10_sat_28 : decode cX10_sat 28 = .ok (.ireturn, 1) := by decide +kernel
theorem dX10_sat_29 : decode cX10_sat 29 = .ok (.iload_n 2, 1) := by decide +kernel
theorem dX10_sat_30 : decode cX10_sat 30 = .ok (.lookupswitch 44 #[(5, 26), (6, 35)], 26) := by decide +kernel
theorem dX10_sat_56 : decode cX10_sat 56 = .ok (.aload_n 0, 1) := by decide +kernel
theorem dX10_sat_57 : decode cX10_sat 57 = .ok (.getfield 19, 3) := by decide +kernel
theorem dX10_sat_60 : decode cX10_sat 60 = .ok (.iload_n 1, 1) := by decide +kernel
theorem dX10_sat_61 : decode cX10_sat 61 = .ok (.invokevirtual 100, 3) := by decide +kernel
theorem dX10_sat_64 : decode cX10_sat 64 = .ok (.ireturn, 1) := by decide +kernel
theorem dX10_sat_65 : decode cX10_sat 65 = .ok (.aload_n 0, 1) := by decide +kernel
theorem dX10_sat_66 : decode cX10_sat 66 = .ok (.getfield 19, 3) := by decide +kernel
theorem dX10_sat_69 : decode cX10_sat 69 = .ok (.iload_n 1, 1) := by decide +kernel
theorem dX10_sat_70 : decode cX10_sat 70 = .ok (.invokevirtual 104, 3) := by decide +kernel
theorem dX10_sat_73 : decode cX10_sat 73 = .ok (.ireturn, 1) := by decide +kernel
theorem dX10_sat_74 : decode cX10_sat 74 = .ok (.aload_n 0, 1) := by decide +kernel
theorem dX10_sat_75 : decode cX10_sat 75 = .ok (.getfield 19, 3) := by decide +kernel
theorem dX10_sat_78 : decode cX10_sat 78 = .ok (.getfield 87, 3) := by decide +kernel
theorem dX10_sat_81 : decode cX10_sat 81 = .ok (.getfield 90, 3) := by decide +kernel
theorem dX10_sat_84 : decode cX10_sat 84 = .ok (.iload_n 1, 1) := by decide +kernel
theorem dX10_sat_85 : decode cX10_sat 85 = .ok (.iload_n 2, 1) := by decide +kernel
theorem dX10_sat_86 : decode cX10_sat 86 = .ok (.invokevirtual 107, 3) := by decide +kernel
theorem dX10_sat_89 : decode cX10_sat 89 = .ok (.ireturn, 1) := by decide +kernel
theorem dX10_antenna_0 : decode cX10_antenna 0 = .ok (.aload_n 0, 1) := by decide +kernel
theorem dX10_antenna_1 : decode cX10_antenna 1 = .ok (.getfield 19, 3) := by decide +kernel
theorem dX10_antenna_4 : decode cX10_antenna 4 = .ok (.getfield 87, 3) := by decide +kernel
theorem dX10_antenna_7 : decode cX10_antenna 7 = .ok (.getfield 111, 3) := by decide +kernel
theorem dX10_antenna_10 : decode cX10_antenna 10 = .ok (.iload_n 1, 1) := by decide +kernel
theorem dX10_antenna_11 : decode cX10_antenna 11 = .ok (.invokevirtual 94, 3) := by decide +kernel
theorem dX10_antenna_14 : decode cX10_antenna 14 = .ok (.ifCond .eq 13, 3) := by decide +kernel
theorem dX10_antenna_17 : decode cX10_antenna 17 = .ok (.iload_n 2, 1) := by decide +kernel
theorem dX10_antenna_18 : decode cX10_antenna 18 = .ok (.ifCond .lt 9, 3) := by decide +kernel
theorem dX10_antenna_21 : decode cX10_antenna 21 = .ok (.iload_n 2, 1) := by decide +kernel
theorem dX10_antenna_22 : decode cX10_antenna 22 = .ok (.bipush 6, 2) := by decide +kernel
theorem dX10_antenna_24 : decode cX10_antenna 24 = .ok (.if_icmp .le 5, 3) := by decide +kernel
theorem dX10_antenna_27 : decode cX10_antenna 27 = .ok (.iconst (-1), 1) := by decide +kernel
theorem dX10_antenna_28 : decode cX10_antenna 28 = .ok (.ireturn, 1) := by decide +kernel
theorem dX10_antenna_29 : decode cX10_antenna 29 = .ok (.iload_n 2, 1) := by decide +kernel
theorem dX10_antenna_30 : decode cX10_antenna 30 = .ok (.tableswitch 112 3 6 #[30, 62, 94, 103], 30) := by decide +kernel
theorem dX10_antenna_60 : decode cX10_antenna 60 = .ok (.aload_n 0, 1) := by decide +kernel
theorem dX10_antenna_61 : decode cX10_antenna 61 = .ok (.getfield 19, 3) := by decide +kernel
theorem dX10_antenna_64 : decode cX10_antenna 64 = .ok (.getfield 114, 3) := by decide +kernel
theorem dX10_antenna_67 : decode cX10_antenna 67 = .ok (.iload_n 1, 1) := by decide +kernel
theorem dX10_antenna_68 : decode cX10_antenna 68 = .ok (.invokevirtual 118, 3) := by decide +kernel
theorem dX10_antenna_71 : decode cX10_antenna 71 = .ok (.ifCond .eq 18, 3) := by decide +kernel
theorem dX10_antenna_74 : decode cX10_antenna 74 = .ok (.aload_n 0, 1) := by decide +kernel
theorem dX10_antenna_75 : decode cX10_antenna 75 = .ok (.getfield 19, 3) := by decide +kernel
theorem dX10_antenna_78 : decode cX10_antenna 78 = .ok (.getfield 114, 3) := by decide +kernel
theorem dX10_antenna_81 : decode cX10_antenna 81 = .ok (.getfield 123, 3) := by decide +kernel
theorem dX10_antenna_84 : decode cX10_antenna 84 = .ok (.iload_n 1, 1) := by decide +kernel
theorem dX10_antenna_85 : decode cX10_antenna 85 = .ok (.iaload, 1) := by decide +kernel
theorem dX10_antenna_86 : decode cX10_antenna 86 = .ok (.goto 5, 3) := by decide +kernel
theorem dX10_antenna_89 : decode cX10_antenna 89 = .ok (.bipush (-4), 2) := by decide +kernel
theorem dX10_antenna_91 : decode cX10_antenna 91 = .ok (.ireturn, 1) := by decide +kernel
theorem dX10_antenna_92 : decode cX10_antenna 92 = .ok (.aload_n 0, 1) := by decide +kernel
theorem dX10_antenna_93 : decode cX10_antenna 93 = .ok (.getfield 19, 3) := by decide +kernel
theorem dX10_antenna_96 : decode cX10_antenna 96 = .ok (.getfield 114, 3) := by decide +kernel
theorem dX10_antenna_99 : decode cX10_antenna 99 = .ok (.iload_n 1, 1) := by decide +kernel
theorem dX10_antenna_100 : decode cX10_antenna 100 = .ok (.invokevirtual 118, 3) := by decide +kernel
theorem dX10_antenna_103 : decode cX10_antenna 103 = .ok (.ifCond .eq 18, 3) := by decide +kernel
theorem dX10_antenna_106 : decode cX10_antenna 106 = .ok (.aload_n 0, 1) := by decide +kernel
theorem dX10_antenna_107 : decode cX10_antenna 107 = .ok (.getfield 19, 3) := by decide +kernel
theorem dX10_antenna_110 : decode cX10_antenna 110 = .ok (.getfield 114, 3) := by decide +kernel
theorem dX10_antenna_113 : decode cX10_antenna 113 = .ok (.getfield 127, 3) := by decide +kernel
theorem dX10_antenna_116 : decode cX10_antenna 116 = .ok (.iload_n 1, 1) := by decide +kernel
theorem dX10_antenna_117 : decode cX10_antenna 117 = .ok (.iaload, 1) := by decide +kernel
theorem dX10_antenna_118 : decode cX10_antenna 118 = .ok (.goto 5, 3) := by decide +kernel
theorem dX10_antenna_121 : decode cX10_antenna 121 = .ok (.bipush (-4), 2) := by decide +kernel
theorem dX10_antenna_123 : decode cX10_antenna 123 = .ok (.ireturn, 1) := by decide +kernel
theorem dX10_antenna_124 : decode cX10_antenna 124 = .ok (.aload_n 0, 1) := by decide +kernel
theorem dX10_antenna_125 : decode cX10_antenna 125 = .ok (.getfield 19, 3) := by decide +kernel
theorem dX10_antenna_128 : decode cX10_antenna 128 = .ok (.iload_n 1, 1) := by decide +kernel
theorem dX10_antenna_129 : decode cX10_antenna 129 = .ok (.invokevirtual 130, 3) := by decide +kernel
theorem dX10_antenna_132 : decode cX10_antenna 132 = .ok (.ireturn, 1) := by decide +kernel
theorem dX10_antenna_133 : decode cX10_antenna 133 = .ok (.aload_n 0, 1) := by decide +kernel
theorem dX10_antenna_134 : decode cX10_antenna 134 = .ok (.getfield 19, 3) := by decide +kernel
theorem dX10_antenna_137 : decode cX10_antenna 137 = .ok (.iload_n 1, 1) := by decide +kernel
theorem dX10_antenna_138 : decode cX10_antenna 138 = .ok (.invokevirtual 133, 3) := by decide +kernel
theorem dX10_antenna_141 : decode cX10_antenna 141 = .ok (.ireturn, 1) := by decide +kernel
theorem dX10_antenna_142 : decode cX10_antenna 142 = .ok (.aload_n 0, 1) := by decide +kernel
theorem dX10_antenna_143 : decode cX10_antenna 143 = .ok (.getfield 19, 3) := by decide +kernel
theorem dX10_antenna_146 : decode cX10_antenna 146 = .ok (.getfield 87, 3) := by decide +kernel
theorem dX10_antenna_149 : decode cX10_antenna 149 = .ok (.getfield 111, 3) := by decide +kernel
theorem dX10_antenna_152 : decode cX10_antenna 152 = .ok (.iload_n 1, 1) := by decide +kernel
theorem dX10_antenna_153 : decode cX10_antenna 153 = .ok (.iload_n 2, 1) := by decide +kernel
theorem dX10_antenna_154 : decode cX10_antenna 154 = .ok (.invokevirtual 107, 3) := by decide +kernel
theorem dX10_antenna_157 : decode cX10_antenna 157 = .ok (.ireturn, 1) := by decide +kernel
theorem dX10_seen_0 : decode cX10_seen 0 = .ok (.aload_n 0, 1) := by decide +kernel
theorem dX10_seen_1 : decode cX10_seen 1 = .ok (.getfield 19, 3) := by decide +kernel
theorem dX10_seen_4 : decode cX10_seen 4 = .ok (.getfield 87, 3) := by decide +kernel
theorem dX10_seen_7 : decode cX10_seen 7 = .ok (.getfield 90, 3) := by decide +kernel
theorem dX10_seen_10 : decode cX10_seen 10 = .ok (.iload_n 1, 1) := by decide +kernel
theorem dX10_seen_11 : decode cX10_seen 11 = .ok (.invokevirtual 94, 3) := by decide +kernel
theorem dX10_seen_14 : decode cX10_seen 14 = .ok (.ifCond .eq 27, 3) := by decide +kernel
theorem dX10_seen_17 : decode cX10_seen 17 = .ok (.aload_n 0, 1) := by decide +kernel
theorem dX10_seen_18 : decode cX10_seen 18 = .ok (.getfield 19, 3) := by decide +kernel
theorem dX10_seen_21 : decode cX10_seen 21 = .ok (.getfield 87, 3) := by decide +kernel
theorem dX10_seen_24 : decode cX10_seen 24 = .ok (.getfield 136, 3) := by decide +kernel
theorem dX10_seen_27 : decode cX10_seen 27 = .ok (.iload_n 2, 1) := by decide +kernel
theorem dX10_seen_28 : decode cX10_seen 28 = .ok (.invokevirtual 94, 3) := by decide +kernel
theorem dX10_seen_31 : decode cX10_seen 31 = .ok (.ifCond .eq 10, 3) := by decide +kernel
theorem dX10_seen_34 : decode cX10_seen 34 = .ok (.iload_n 3, 1) := by decide +kernel
theorem dX10_seen_35 : decode cX10_seen 35 = .ok (.invokestatic 139, 3) := by decide +kernel
theorem dX10_seen_38 : decode cX10_seen 38 = .ok (.ifCond .ne 5, 3) := by decide +kernel
theorem dX10_seen_41 : decode cX10_seen 41 = .ok (.iconst (-1), 1) := by decide +kernel
theorem dX10_seen_42 : decode cX10_seen 42 = .ok (.ireturn, 1) := by decide +kernel
theorem dX10_seen_43 : decode cX10_seen 43 = .ok (.aload_n 0, 1) := by decide +kernel
theorem dX10_seen_44 : decode cX10_seen 44 = .ok (.getfield 19, 3) := by decide +kernel
theorem dX10_seen_47 : decode cX10_seen 47 = .ok (.getfield 87, 3) := by decide +kernel
theorem dX10_seen_50 : decode cX10_seen 50 = .ok (.iload_n 1, 1) := by decide +kernel
theorem dX10_seen_51 : decode cX10_seen 51 = .ok (.iload_n 2, 1) := by decide +kernel
theorem dX10_seen_52 : decode cX10_seen 52 = .ok (.iload_n 3, 1) := by decide +kernel
theorem dX10_seen_53 : decode cX10_seen 53 = .ok (.invokevirtual 142, 3) := by decide +kernel
theorem dX10_seen_56 : decode cX10_seen 56 = .ok (.ifCond .eq 7, 3) := by decide +kernel
theorem dX10_seen_59 : decode cX10_seen 59 = .ok (.iconst 1, 1) := by decide +kernel
theorem dX10_seen_60 : decode cX10_seen 60 = .ok (.goto 4, 3) := by decide +kernel
theorem dX10_seen_63 : decode cX10_seen 63 = .ok (.iconst 0, 1) := by decide +kernel
theorem dX10_seen_64 : decode cX10_seen 64 = .ok (.ireturn, 1) := by decide +kernel
theorem dX10_pass_0 : decode cX10_pass 0 = .ok (.aload_n 0, 1) := by decide +kernel
theorem dX10_pass_1 : decode cX10_pass 1 = .ok (.getfield 19, 3) := by decide +kernel
theorem dX10_pass_4 : decode cX10_pass 4 = .ok (.getfield 146, 3) := by decide +kernel
theorem dX10_pass_7 : decode cX10_pass 7 = .ok (.iload_n 1, 1) := by decide +kernel
theorem dX10_pass_8 : decode cX10_pass 8 = .ok (.invokevirtual 150, 3) := by decide +kernel
theorem dX10_pass_11 : decode cX10_pass 11 = .ok (.ifCond .ne 5, 3) := by decide +kernel
theorem dX10_pass_14 : decode cX10_pass 14 = .ok (.iconst (-1), 1) := by decide +kernel
theorem dX10_pass_15 : decode cX10_pass 15 = .ok (.ireturn, 1) := by decide +kernel
theorem dX10_pass_16 : decode cX10_pass 16 = .ok (.iload_n 2, 1) := by decide +kernel
theorem dX10_pass_17 : decode cX10_pass 17 = .ok (.tableswitch 133 0 6 #[43, 56, 69, 82, 95, 108, 124], 43) := by decide +kernel
theorem dX10_pass_60 : decode cX10_pass 60 = .ok (.aload_n 0, 1) := by decide +kernel
theorem dX10_pass_61 : decode cX10_pass 61 = .ok (.getfield 19, 3) := by decide +kernel
theorem dX10_pass_64 : decode cX10_pass 64 = .ok (.getfield 146, 3) := by decide +kernel
theorem dX10_pass_67 : decode cX10_pass 67 = .ok (.getfield 153, 3) := by decide +kernel
theorem dX10_pass_70 : decode cX10_pass 70 = .ok (.iload_n 1, 1) := by decide +kernel
theorem dX10_pass_71 : decode cX10_pass 71 = .ok (.iaload, 1) := by decide +kernel
theorem dX10_pass_72 : decode cX10_pass 72 = .ok (.ireturn, 1) := by decide +kernel
theorem dX10_pass_73 : decode cX10_pass 73 = .ok (.aload_n 0, 1) := by decide +kernel
theorem dX10_pass_74 : decode cX10_pass 74 = .ok (.getfield 19, 3) := by decide +kernel
theorem dX10_pass_77 : decode cX10_pass 77 = .ok (.getfield 146, 3) := by decide +kernel
theorem dX10_pass_80 : decode cX10_pass 80 = .ok (.getfield 156, 3) := by decide +kernel
theorem dX10_pass_83 : decode cX10_pass 83 = .ok (.iload_n 1, 1) := by decide +kernel
theorem dX10_pass_84 : decode cX10_pass 84 = .ok (.iaload, 1) := by decide +kernel
theorem dX10_pass_85 : decode cX10_pass 85 = .ok (.ireturn, 1) := by decide +kernel
theorem dX10_pass_86 : decode cX10_pass 86 = .ok (.aload_n 0, 1) := by decide +kernel
theorem dX10_pass_87 : decode cX10_pass 87 = .ok (.getfield 19, 3) := by decide +kernel
theorem dX10_pass_90 : decode cX10_pass 90 = .ok (.getfield 146, 3) := by decide +kernel
theorem dX10_pass_93 : decode cX10_pass 93 = .ok (.getfield 159, 3) := by decide +kernel
theorem dX10_pass_96 : decode cX10_pass 96 = .ok (.iload_n 1, 1) := by decide +kernel
theorem dX10_pass_97 : decode cX10_pass 97 = .ok (.iaload, 1) := by decide +kernel
theorem dX10_pass_98 : decode cX10_pass 98 = .ok (.ireturn, 1) := by decide +kernel
theorem dX10_pass_99 : decode cX10_pass 99 = .ok (.aload_n 0, 1) := by decide +kernel
theorem dX10_pass_100 : decode cX10_pass 100 = .ok (.getfield 19, 3) := by decide +kernel
theorem dX10_pass_103 : decode cX10_pass 103 = .ok (.getfield 146, 3) := by decide +kernel
theorem dX10_pass_106 : decode cX10_pass 106 = .ok (.getfield 162, 3) := by decide +kernel
theorem dX10_pass_109 : decode cX10_pass 109 = .ok (.iload_n 1, 1) := by decide +kernel
theorem dX10_pass_110 : decode cX10_pass 110 = .ok (.iaload, 1) := by decide +kernel
theorem dX10_pass_111 : decode cX10_pass 111 = .ok (.ireturn, 1) := by decide +kernel
theorem dX10_pass_112 : decode cX10_pass 112 = .ok (.aload_n 0, 1) := by decide +kernel
theorem dX10_pass_113 : decode cX10_pass 113 = .ok (.getfield 19, 3) := by decide +kernel
theorem dX10_pass_116 : decode cX10_pass 116 = .ok (.getfield 146, 3) := by decide +kernel
theorem dX10_pass_119 : decode cX10_pass 119 = .ok (.getfield 165, 3) := by decide +kernel
theorem dX10_pass_122 : decode cX10_pass 122 = .ok (.iload_n 1, 1) := by decide +kernel
theorem dX10_pass_123 : decode cX10_pass 123 = .ok (.iaload, 1) := by decide +kernel
theorem dX10_pass_124 : decode cX10_pass 124 = .ok (.ireturn, 1) := by decide +kernel
theorem dX10_pass_125 : decode cX10_pass 125 = .ok (.aload_n 0, 1) := by decide +kernel
theorem dX10_pass_126 : decode cX10_pass 126 = .ok (.getfield 19, 3) := by decide +kernel
theorem dX10_pass_129 : decode cX10_pass 129 = .ok (.getfield 114, 3) := by decide +kernel
theorem dX10_pass_132 : decode cX10_pass 132 = .ok (.getfield 168, 3) := by decide +kernel
theorem dX10_pass_135 : decode cX10_pass 135 = .ok (.iload_n 1, 1) := by decide +kernel
theorem dX10_pass_136 : decode cX10_pass 136 = .ok (.iaload, 1) := by decide +kernel
theorem dX10_pass_137 : decode cX10_pass 137 = .ok (.invokestatic 171, 3) := by decide +kernel
theorem dX10_pass_140 : decode cX10_pass 140 = .ok (.ireturn, 1) := by decide +kernel
theorem dX10_pass_141 : decode cX10_pass 141 = .ok (.aload_n 0, 1) := by decide +kernel
theorem dX10_pass_142 : decode cX10_pass 142 = .ok (.getfield 19, 3) := by decide +kernel
theorem dX10_pass_145 : decode cX10_pass 145 = .ok (.iload_n 1, 1) := by decide +kernel
theorem dX10_pass_146 : decode cX10_pass 146 = .ok (.invokevirtual 174, 3) := by decide +kernel
theorem dX10_pass_149 : decode cX10_pass 149 = .ok (.ireturn, 1) := by decide +kernel
theorem dX10_pass_150 : decode cX10_pass 150 = .ok (.iconst (-1), 1) := by decide +kernel
theorem dX10_pass_151 : decode cX10_pass 151 = .ok (.ireturn, 1) := by decide +kernel
theorem dX10_rate_0 : decode cX10_rate 0 = .ok (.aload_n 0, 1) := by decide +kernel
theorem dX10_rate_1 : decode cX10_rate 1 = .ok (.getfield 19, 3) := by decide +kernel
theorem dX10_rate_4 : decode cX10_rate 4 = .ok (.getfield 146, 3) := by decide +kernel
theorem dX10_rate_7 : decode cX10_rate 7 = .ok (.iload_n 1, 1) := by decide +kernel
theorem dX10_rate_8 : decode cX10_rate 8 = .ok (.invokevirtual 150, 3) := by decide +kernel
theorem dX10_rate_11 : decode cX10_rate 11 = .ok (.ifCond .eq 10, 3) := by decide +kernel
theorem dX10_rate_14 : decode cX10_rate 14 = .ok (.iload_n 2, 1) := by decide +kernel
theorem dX10_rate_15 : decode cX10_rate 15 = .ok (.invokestatic 139, 3) := by decide +kernel
theorem dX10_rate_18 : decode cX10_rate 18 = .ok (.ifCond .ne 5, 3) := by decide +kernel
theorem dX10_rate_21 : decode cX10_rate 21 = .ok (.iconst (-1), 1) := by decide +kernel
theorem dX10_rate_22 : decode cX10_rate 22 = .ok (.ireturn, 1) := by decide +kernel
theorem dX10_rate_23 : decode cX10_rate 23 = .ok (.aload_n 0, 1) := by decide +kernel
theorem dX10_rate_24 : decode cX10_rate 24 = .ok (.getfield 19, 3) := by decide +kernel
theorem dX10_rate_27 : decode cX10_rate 27 = .ok (.getfield 146, 3) := by decide +kernel
theorem dX10_rate_30 : decode cX10_rate 30 = .ok (.iload_n 1, 1) := by decide +kernel
theorem dX10_rate_31 : decode cX10_rate 31 = .ok (.iload_n 2, 1) := by decide +kernel
theorem dX10_rate_32 : decode cX10_rate 32 = .ok (.invokevirtual 177, 3) := by decide +kernel
theorem dX10_rate_35 : decode cX10_rate 35 = .ok (.ifCond .eq 18, 3) := by decide +kernel
theorem dX10_rate_38 : decode cX10_rate 38 = .ok (.aload_n 0, 1) := by decide +kernel
theorem dX10_rate_39 : decode cX10_rate 39 = .ok (.getfield 19, 3) := by decide +kernel
theorem dX10_rate_42 : decode cX10_rate 42 = .ok (.getfield 146, 3) := by decide +kernel
theorem dX10_rate_45 : decode cX10_rate 45 = .ok (.iload_n 1, 1) := by decide +kernel
theorem dX10_rate_46 : decode cX10_rate 46 = .ok (.iload_n 2, 1) := by decide +kernel
theorem dX10_rate_47 : decode cX10_rate 47 = .ok (.invokevirtual 181, 3) := by decide +kernel
theorem dX10_rate_50 : decode cX10_rate 50 = .ok (.goto 5, 3) := by decide +kernel
theorem dX10_rate_53 : decode cX10_rate 53 = .ok (.bipush (-4), 2) := by decide +kernel
theorem dX10_rate_55 : decode cX10_rate 55 = .ok (.ireturn, 1) := by decide +kernel
theorem dX10_give_0 : decode cX10_give 0 = .ok (.aload_n 0, 1) := by decide +kernel
theorem dX10_give_1 : decode cX10_give 1 = .ok (.getfield 19, 3) := by decide +kernel
theorem dX10_give_4 : decode cX10_give 4 = .ok (.getfield 146, 3) := by decide +kernel
theorem dX10_give_7 : decode cX10_give 7 = .ok (.iload_n 1, 1) := by decide +kernel
theorem dX10_give_8 : decode cX10_give 8 = .ok (.invokevirtual 150, 3) := by decide +kernel
theorem dX10_give_11 : decode cX10_give 11 = .ok (.ifCond .eq 20, 3) := by decide +kernel
theorem dX10_give_14 : decode cX10_give 14 = .ok (.aload_n 0, 1) := by decide +kernel
theorem dX10_give_15 : decode cX10_give 15 = .ok (.getfield 19, 3) := by decide +kernel
theorem dX10_give_18 : decode cX10_give 18 = .ok (.getfield 87, 3) := by decide +kernel
theorem dX10_give_21 : decode cX10_give 21 = .ok (.getfield 111, 3) := by decide +kernel
theorem dX10_give_24 : decode cX10_give 24 = .ok (.iload_n 2, 1) := by decide +kernel
theorem dX10_give_25 : decode cX10_give 25 = .ok (.invokevirtual 94, 3) := by decide +kernel
theorem dX10_give_28 : decode cX10_give 28 = .ok (.ifCond .ne 5, 3) := by decide +kernel
theorem dX10_give_31 : decode cX10_give 31 = .ok (.iconst (-1), 1) := by decide +kernel
theorem dX10_give_32 : decode cX10_give 32 = .ok (.ireturn, 1) := by decide +kernel
theorem dX10_give_33 : decode cX10_give 33 = .ok (.aload_n 0, 1) := by decide +kernel
theorem dX10_give_34 : decode cX10_give 34 = .ok (.getfield 19, 3) := by decide +kernel
theorem dX10_give_37 : decode cX10_give 37 = .ok (.iload_n 1, 1) := by decide +kernel
theorem dX10_give_38 : decode cX10_give 38 = .ok (.iload_n 2, 1) := by decide +kernel
theorem dX10_give_39 : decode cX10_give 39 = .ok (.invokevirtual 184, 3) := by decide +kernel
theorem dX10_give_42 : decode cX10_give 42 = .ok (.ifCond .eq 6, 3) := by decide +kernel
theorem dX10_give_45 : decode cX10_give 45 = .ok (.bipush (-2), 2) := by decide +kernel
theorem dX10_give_47 : decode cX10_give 47 = .ok (.ireturn, 1) := by decide +kernel
theorem dX10_give_48 : decode cX10_give 48 = .ok (.aload_n 0, 1) := by decide +kernel
theorem dX10_give_49 : decode cX10_give 49 = .ok (.invokevirtual 187, 3) := by decide +kernel
theorem dX10_give_52 : decode cX10_give 52 = .ok (.aload_n 0, 1) := by decide +kernel
theorem dX10_give_53 : decode cX10_give 53 = .ok (.getfield 19, 3) := by decide +kernel
theorem dX10_give_56 : decode cX10_give 56 = .ok (.getfield 114, 3) := by decide +kernel
theorem dX10_give_59 : decode cX10_give 59 = .ok (.getfield 168, 3) := by decide +kernel
theorem dX10_give_62 : decode cX10_give 62 = .ok (.iload_n 1, 1) := by decide +kernel
theorem dX10_give_63 : decode cX10_give 63 = .ok (.iload_n 2, 1) := by decide +kernel
theorem dX10_give_64 : decode cX10_give 64 = .ok (.iastore, 1) := by decide +kernel
theorem dX10_give_65 : decode cX10_give 65 = .ok (.aload_n 0, 1) := by decide +kernel
theorem dX10_give_66 : decode cX10_give 66 = .ok (.getfield 19, 3) := by decide +kernel
theorem dX10_give_69 : decode cX10_give 69 = .ok (.invokevirtual 190, 3) := by decide +kernel
theorem dX10_give_72 : decode cX10_give 72 = .ok (.invokestatic 193, 3) := by decide +kernel
theorem dX10_give_75 : decode cX10_give 75 = .ok (.ireturn, 1) := by decide +kernel
theorem dX10_why_0 : decode cX10_why 0 = .ok (.aload_n 0, 1) := by decide +kernel
theorem dX10_why_1 : decode cX10_why 1 = .ok (.getfield 19, 3) := by decide +kernel
theorem dX10_why_4 : decode cX10_why 4 = .ok (.getfield 146, 3) := by decide +kernel
theorem dX10_why_7 : decode cX10_why 7 = .ok (.iload_n 1, 1) := by decide +kernel
theorem dX10_why_8 : decode cX10_why 8 = .ok (.invokevirtual 150, 3) := by decide +kernel
theorem dX10_why_11 : decode cX10_why 11 = .ok (.ifCond .eq 20, 3) := by decide +kernel
theorem dX10_why_14 : decode cX10_why 14 = .ok (.aload_n 0, 1) := by decide +kernel
theorem dX10_why_15 : decode cX10_why 15 = .ok (.getfield 19, 3) := by decide +kernel
theorem dX10_why_18 : decode cX10_why 18 = .ok (.getfield 87, 3) := by decide +kernel
theorem dX10_why_21 : decode cX10_why 21 = .ok (.getfield 111, 3) := by decide +kernel
theorem dX10_why_24 : decode cX10_why 24 = .ok (.iload_n 2, 1) := by decide +kernel
theorem dX10_why_25 : decode cX10_why 25 = .ok (.invokevirtual 94, 3) := by decide +kernel
theorem dX10_why_28 : decode cX10_why 28 = .ok (.ifCond .ne 5, 3) := by decide +kernel
theorem dX10_why_31 : decode cX10_why 31 = .ok (.iconst (-1), 1) := by decide +kernel
theorem dX10_why_32 : decode cX10_why 32 = .ok (.ireturn, 1) := by decide +kernel
theorem dX10_why_33 : decode cX10_why 33 = .ok (.aload_n 0, 1) := by decide +kernel
theorem dX10_why_34 : decode cX10_why 34 = .ok (.getfield 19, 3) := by decide +kernel
theorem dX10_why_37 : decode cX10_why 37 = .ok (.iload_n 1, 1) := by decide +kernel
theorem dX10_why_38 : decode cX10_why 38 = .ok (.iload_n 2, 1) := by decide +kernel
theorem dX10_why_39 : decode cX10_why 39 = .ok (.invokevirtual 184, 3) := by decide +kernel
theorem dX10_why_42 : decode cX10_why 42 = .ok (.ireturn, 1) := by decide +kernel
theorem dX10_take_0 : decode cX10_take 0 = .ok (.aload_n 0, 1) := by decide +kernel
theorem dX10_take_1 : decode cX10_take 1 = .ok (.getfield 19, 3) := by decide +kernel
theorem dX10_take_4 : decode cX10_take 4 = .ok (.getfield 146, 3) := by decide +kernel
theorem dX10_take_7 : decode cX10_take 7 = .ok (.iload_n 1, 1) := by decide +kernel
theorem dX10_take_8 : decode cX10_take 8 = .ok (.invokevirtual 150, 3) := by decide +kernel
theorem dX10_take_11 : decode cX10_take 11 = .ok (.ifCond .ne 5, 3) := by decide +kernel
theorem dX10_take_14 : decode cX10_take 14 = .ok (.iconst (-1), 1) := by decide +kernel
theorem dX10_take_15 : decode cX10_take 15 = .ok (.ireturn, 1) := by decide +kernel
theorem dX10_take_16 : decode cX10_take 16 = .ok (.aload_n 0, 1) := by decide +kernel
theorem dX10_take_17 : decode cX10_take 17 = .ok (.getfield 19, 3) := by decide +kernel
theorem dX10_take_20 : decode cX10_take 20 = .ok (.getfield 114, 3) := by decide +kernel
theorem dX10_take_23 : decode cX10_take 23 = .ok (.getfield 168, 3) := by decide +kernel
theorem dX10_take_26 : decode cX10_take 26 = .ok (.iload_n 1, 1) := by decide +kernel
theorem dX10_take_27 : decode cX10_take 27 = .ok (.iaload, 1) := by decide +kernel
theorem dX10_take_28 : decode cX10_take 28 = .ok (.istore_n 2, 1) := by decide +kernel
theorem dX10_take_29 : decode cX10_take 29 = .ok (.iload_n 2, 1) := by decide +kernel
theorem dX10_take_30 : decode cX10_take 30 = .ok (.iconst (-1), 1) := by decide +kernel
theorem dX10_take_31 : decode cX10_take 31 = .ok (.if_icmp .ne 6, 3) := by decide +kernel
theorem dX10_take_34 : decode cX10_take 34 = .ok (.bipush (-2), 2) := by decide +kernel
theorem dX10_take_36 : decode cX10_take 36 = .ok (.ireturn, 1) := by decide +kernel
theorem dX10_take_37 : decode cX10_take 37 = .ok (.aload_n 0, 1) := by decide +kernel
theorem dX10_take_38 : decode cX10_take 38 = .ok (.invokevirtual 187, 3) := by decide +kernel
theorem dX10_take_41 : decode cX10_take 41 = .ok (.aload_n 0, 1) := by decide +kernel
theorem dX10_take_42 : decode cX10_take 42 = .ok (.getfield 19, 3) := by decide +kernel
theorem dX10_take_45 : decode cX10_take 45 = .ok (.getfield 114, 3) := by decide +kernel
theorem dX10_take_48 : decode cX10_take 48 = .ok (.getfield 168, 3) := by decide +kernel
theorem dX10_take_51 : decode cX10_take 51 = .ok (.iload_n 1, 1) := by decide +kernel
theorem dX10_take_52 : decode cX10_take 52 = .ok (.iconst (-1), 1) := by decide +kernel
theorem dX10_take_53 : decode cX10_take 53 = .ok (.iastore, 1) := by decide +kernel
theorem dX10_take_54 : decode cX10_take 54 = .ok (.iload_n 2, 1) := by decide +kernel
theorem dX10_take_55 : decode cX10_take 55 = .ok (.ireturn, 1) := by decide +kernel
theorem dX10_out_0 : decode cX10_out 0 = .ok (.aload_n 0, 1) := by decide +kernel
theorem dX10_out_1 : decode cX10_out 1 = .ok (.getfield 19, 3) := by decide +kernel
theorem dX10_out_4 : decode cX10_out 4 = .ok (.getfield 87, 3) := by decide +kernel
theorem dX10_out_7 : decode cX10_out 7 = .ok (.getfield 111, 3) := by decide +kernel
theorem dX10_out_10 : decode cX10_out 10 = .ok (.iload_n 1, 1) := by decide +kernel
theorem dX10_out_11 : decode cX10_out 11 = .ok (.invokevirtual 94, 3) := by decide +kernel
theorem dX10_out_14 : decode cX10_out 14 = .ok (.ifCond .eq 17, 3) := by decide +kernel
theorem dX10_out_17 : decode cX10_out 17 = .ok (.iload_n 2, 1) := by decide +kernel
theorem dX10_out_18 : decode cX10_out 18 = .ok (.invokestatic 139, 3) := by decide +kernel
theorem dX10_out_21 : decode cX10_out 21 = .ok (.ifCond .eq 10, 3) := by decide +kernel
theorem dX10_out_24 : decode cX10_out 24 = .ok (.iload_n 3, 1) := by decide +kernel
theorem dX10_out_25 : decode cX10_out 25 = .ok (.invokestatic 139, 3) := by decide +kernel
theorem dX10_out_28 : decode cX10_out 28 = .ok (.ifCond .ne 5, 3) := by decide +kernel
theorem dX10_out_31 : decode cX10_out 31 = .ok (.iconst (-1), 1) := by decide +kernel
theorem dX10_out_32 : decode cX10_out 32 = .ok (.ireturn, 1) := by decide +kernel
theorem dX10_out_33 : decode cX10_out 33 = .ok (.aload_n 0, 1) := by decide +kernel
theorem dX10_out_34 : decode cX10_out 34 = .ok (.invokevirtual 187, 3) := by decide +kernel
theorem dX10_out_37 : decode cX10_out 37 = .ok (.aload_n 0, 1) := by decide +kernel
theorem dX10_out_38 : decode cX10_out 38 = .ok (.getfield 19, 3) := by decide +kernel
theorem dX10_out_41 : decode cX10_out 41 = .ok (.getfield 114, 3) := by decide +kernel
theorem dX10_out_44 : decode cX10_out 44 = .ok (.getfield 123, 3) := by decide +kernel
theorem dX10_out_47 : decode cX10_out 47 = .ok (.iload_n 1, 1) := by decide +kernel
theorem dX10_out_48 : decode cX10_out 48 = .ok (.iload_n 2, 1) := by decide +kernel
theorem dX10_out_49 : decode cX10_out 49 = .ok (.iastore, 1) := by decide +kernel
theorem dX10_out_50 : decode cX10_out 50 = .ok (.aload_n 0, 1) := by decide +kernel
theorem dX10_out_51 : decode cX10_out 51 = .ok (.getfield 19, 3) := by decide +kernel
theorem dX10_out_54 : decode cX10_out 54 = .ok (.getfield 114, 3) := by decide +kernel
theorem dX10_out_57 : decode cX10_out 57 = .ok (.getfield 127, 3) := by decide +kernel
theorem dX10_out_60 : decode cX10_out 60 = .ok (.iload_n 1, 1) := by decide +kernel
theorem dX10_out_61 : decode cX10_out 61 = .ok (.iload_n 3, 1) := by decide +kernel
theorem dX10_out_62 : decode cX10_out 62 = .ok (.iastore, 1) := by decide +kernel
theorem dX10_out_63 : decode cX10_out 63 = .ok (.aload_n 0, 1) := by decide +kernel
theorem dX10_out_64 : decode cX10_out 64 = .ok (.getfield 19, 3) := by decide +kernel
theorem dX10_out_67 : decode cX10_out 67 = .ok (.iload_n 1, 1) := by decide +kernel
theorem dX10_out_68 : decode cX10_out 68 = .ok (.invokevirtual 198, 3) := by decide +kernel
theorem dX10_out_71 : decode cX10_out 71 = .ok (.ireturn, 1) := by decide +kernel
theorem dX10_undo_0 : decode cX10_undo 0 = .ok (.aload_n 0, 1) := by decide +kernel
theorem dX10_undo_1 : decode cX10_undo 1 = .ok (.getfield 26, 3) := by decide +kernel
theorem dX10_undo_4 : decode cX10_undo 4 = .ok (.getfield 201, 3) := by decide +kernel
theorem dX10_undo_7 : decode cX10_undo 7 = .ok (.ifCond .ne 6, 3) := by decide +kernel
theorem dX10_undo_10 : decode cX10_undo 10 = .ok (.bipush (-2), 2) := by decide +kernel
theorem dX10_undo_12 : decode cX10_undo 12 = .ok (.ireturn, 1) := by decide +kernel
theorem dX10_undo_13 : decode cX10_undo 13 = .ok (.aload_n 0, 1) := by decide +kernel
theorem dX10_undo_14 : decode cX10_undo 14 = .ok (.getfield 47, 3) := by decide +kernel
theorem dX10_undo_17 : decode cX10_undo 17 = .ok (.invokevirtual 204, 3) := by decide +kernel
theorem dX10_undo_20 : decode cX10_undo 20 = .ok (.aload_n 0, 1) := by decide +kernel
theorem dX10_undo_21 : decode cX10_undo 21 = .ok (.getfield 26, 3) := by decide +kernel
theorem dX10_undo_24 : decode cX10_undo 24 = .ok (.aload_n 0, 1) := by decide +kernel
theorem dX10_undo_25 : decode cX10_undo 25 = .ok (.getfield 19, 3) := by decide +kernel
theorem dX10_undo_28 : decode cX10_undo 28 = .ok (.getfield 114, 3) := by decide +kernel
theorem dX10_undo_31 : decode cX10_undo 31 = .ok (.invokevirtual 207, 3) := by decide +kernel
theorem dX10_undo_34 : decode cX10_undo 34 = .ok (.aload_n 0, 1) := by decide +kernel
theorem dX10_undo_35 : decode cX10_undo 35 = .ok (.getfield 26, 3) := by decide +kernel
theorem dX10_undo_38 : decode cX10_undo 38 = .ok (.getfield 201, 3) := by decide +kernel
theorem dX10_undo_41 : decode cX10_undo 41 = .ok (.ireturn, 1) := by decide +kernel
theorem dX10_best_0 : decode cX10_best 0 = .ok (.aload_n 0, 1) := by decide +kernel
theorem dX10_best_1 : decode cX10_best 1 = .ok (.getfield 19, 3) := by decide +kernel
theorem dX10_best_4 : decode cX10_best 4 = .ok (.getfield 87, 3) := by decide +kernel
theorem dX10_best_7 : decode cX10_best 7 = .ok (.getfield 111, 3) := by decide +kernel
theorem dX10_best_10 : decode cX10_best 10 = .ok (.iload_n 1, 1) := by decide +kernel
theorem dX10_best_11 : decode cX10_best 11 = .ok (.invokevirtual 94, 3) := by decide +kernel
theorem dX10_best_14 : decode cX10_best 14 = .ok (.ifCond .eq 9, 3) := by decide +kernel
theorem dX10_best_17 : decode cX10_best 17 = .ok (.iload_n 2, 1) := by decide +kernel
theorem dX10_best_18 : decode cX10_best 18 = .ok (.bipush (-2), 2) := by decide +kernel
theorem dX10_best_20 : decode cX10_best 20 = .ok (.if_icmp .ge 5, 3) := by decide +kernel
theorem dX10_best_23 : decode cX10_best 23 = .ok (.iconst (-1), 1) := by decide +kernel
theorem dX10_best_24 : decode cX10_best 24 = .ok (.ireturn, 1) := by decide +kernel
theorem dX10_best_25 : decode cX10_best 25 = .ok (.aload_n 0, 1) := by decide +kernel
theorem dX10_best_26 : decode cX10_best 26 = .ok (.getfield 40, 3) := by decide +kernel
theorem dX10_best_29 : decode cX10_best 29 = .ok (.aload_n 0, 1) := by decide +kernel
theorem dX10_best_30 : decode cX10_best 30 = .ok (.getfield 19, 3) := by decide +kernel
theorem dX10_best_33 : decode cX10_best 33 = .ok (.iload_n 1, 1) := by decide +kernel
theorem dX10_best_34 : decode cX10_best 34 = .ok (.invokevirtual 211, 3) := by decide +kernel
theorem dX10_best_37 : decode cX10_best 37 = .ok (.iload_n 2, 1) := by decide +kernel
theorem dX10_best_38 : decode cX10_best 38 = .ok (.lookupswitch 46 #[(-2, 36), (-1, 26)], 26) := by decide +kernel
theorem dX10_best_64 : decode cX10_best 64 = .ok (.aload_n 0, 1) := by decide +kernel
theorem dX10_best_65 : decode cX10_best 65 = .ok (.getfield 40, 3) := by decide +kernel
theorem dX10_best_68 : decode cX10_best 68 = .ok (.getfield 215, 3) := by decide +kernel
theorem dX10_best_71 : decode cX10_best 71 = .ok (.iconst 0, 1) := by decide +kernel
theorem dX10_best_72 : decode cX10_best 72 = .ok (.iaload, 1) := by decide +kernel
theorem dX10_best_73 : decode cX10_best 73 = .ok (.ireturn, 1) := by decide +kernel
theorem dX10_best_74 : decode cX10_best 74 = .ok (.aload_n 0, 1) := by decide +kernel
theorem dX10_best_75 : decode cX10_best 75 = .ok (.getfield 40, 3) := by decide +kernel
theorem dX10_best_78 : decode cX10_best 78 = .ok (.getfield 216, 3) := by decide +kernel
theorem dX10_best_81 : decode cX10_best 81 = .ok (.iconst 0, 1) := by decide +kernel
theorem dX10_best_82 : decode cX10_best 82 = .ok (.iaload, 1) := by decide +kernel
theorem dX10_best_83 : decode cX10_best 83 = .ok (.ireturn, 1) := by decide +kernel
theorem dX10_best_84 : decode cX10_best 84 = .ok (.aload_n 0, 1) := by decide +kernel
theorem dX10_best_85 : decode cX10_best 85 = .ok (.getfield 40, 3) := by decide +kernel
theorem dX10_best_88 : decode cX10_best 88 = .ok (.iload_n 2, 1) := by decide +kernel
theorem dX10_best_89 : decode cX10_best 89 = .ok (.invokevirtual 218, 3) := by decide +kernel
theorem dX10_best_92 : decode cX10_best 92 = .ok (.ireturn, 1) := by decide +kernel
theorem dX10_plan_0 : decode cX10_plan 0 = .ok (.aload_n 0, 1) := by decide +kernel
theorem dX10_plan_1 : decode cX10_plan 1 = .ok (.iload_n 1, 1) := by decide +kernel
theorem dX10_plan_2 : decode cX10_plan 2 = .ok (.iload_n 2, 1) := by decide +kernel
theorem dX10_plan_3 : decode cX10_plan 3 = .ok (.iload_n 3, 1) := by decide +kernel
theorem dX10_plan_4 : decode cX10_plan 4 = .ok (.invokevirtual 221, 3) := by decide +kernel
theorem dX10_plan_7 : decode cX10_plan 7 = .ok (.ifCond .ne 23, 3) := by decide +kernel
theorem dX10_plan_10 : decode cX10_plan 10 = .ok (.iload 4, 2) := by decide +kernel
theorem dX10_plan_12 : decode cX10_plan 12 = .ok (.bipush (-4), 2) := by decide +kernel
theorem dX10_plan_14 : decode cX10_plan 14 = .ok (.if_icmp .lt 16, 3) := by decide +kernel
theorem dX10_plan_17 : decode cX10_plan 17 = .ok (.iload 4, 2) := by decide +kernel
theorem dX10_plan_19 : decode cX10_plan 19 = .ok (.aload_n 0, 1) := by decide +kernel
theorem dX10_plan_20 : decode cX10_plan 20 = .ok (.getfield 19, 3) := by decide +kernel
theorem dX10_plan_23 : decode cX10_plan 23 = .ok (.iload_n 2, 1) := by decide +kernel
theorem dX10_plan_24 : decode cX10_plan 24 = .ok (.invokevirtual 224, 3) := by decide +kernel
theorem dX10_plan_27 : decode cX10_plan 27 = .ok (.if_icmp .lt 5, 3) := by decide +kernel
theorem dX10_plan_30 : decode cX10_plan 30 = .ok (.iconst (-1), 1) := by decide +kernel
theorem dX10_plan_31 : decode cX10_plan 31 = .ok (.ireturn, 1) := by decide +kernel
theorem dX10_plan_32 : decode cX10_plan 32 = .ok (.aload_n 0, 1) := by decide +kernel
theorem dX10_plan_33 : decode cX10_plan 33 = .ok (.getfield 47, 3) := by decide +kernel
theorem dX10_plan_36 : decode cX10_plan 36 = .ok (.aload_n 0, 1) := by decide +kernel
theorem dX10_plan_37 : decode cX10_plan 37 = .ok (.getfield 19, 3) := by decide +kernel
theorem dX10_plan_40 : decode cX10_plan 40 = .ok (.aload_n 0, 1) := by decide +kernel
theorem dX10_plan_41 : decode cX10_plan 41 = .ok (.getfield 33, 3) := by decide +kernel
theorem dX10_plan_44 : decode cX10_plan 44 = .ok (.iload_n 1, 1) := by decide +kernel
theorem dX10_plan_45 : decode cX10_plan 45 = .ok (.iload_n 2, 1) := by decide +kernel
theorem dX10_plan_46 : decode cX10_plan 46 = .ok (.iload_n 3, 1) := by decide +kernel
theorem dX10_plan_47 : decode cX10_plan 47 = .ok (.invokevirtual 227, 3) := by decide +kernel
theorem dX10_plan_50 : decode cX10_plan 50 = .ok (.iload 4, 2) := by decide +kernel
theorem dX10_plan_52 : decode cX10_plan 52 = .ok (.tableswitch 94 (-4) (-1) #[86, 75, 49, 32], 32) := by decide +kernel
theorem dX10_plan_84 : decode cX10_plan 84 = .ok (.aload_n 0, 1) := by decide +kernel
theorem dX10_plan_85 : decode cX10_plan 85 = .ok (.getfield 19, 3) := by decide +kernel
theorem dX10_plan_88 : decode cX10_plan 88 = .ok (.aload_n 0, 1) := by decide +kernel
theorem dX10_plan_89 : decode cX10_plan 89 = .ok (.getfield 47, 3) := by decide +kernel
theorem dX10_plan_92 : decode cX10_plan 92 = .ok (.getfield 230, 3) := by decide +kernel
theorem dX10_plan_95 : decode cX10_plan 95 = .ok (.iload_n 2, 1) := by decide +kernel
theorem dX10_plan_96 : decode cX10_plan 96 = .ok (.ishl, 1) := by decide +kernel
theorem dX10_plan_97 : decode cX10_plan 97 = .ok (.invokevirtual 233, 3) := by decide +kernel
theorem dX10_plan_100 : decode cX10_plan 100 = .ok (.ireturn, 1) := by decide +kernel
theorem dX10_plan_101 : decode cX10_plan 101 = .ok (.aload_n 0, 1) := by decide +kernel
theorem dX10_plan_102 : decode cX10_plan 102 = .ok (.getfield 33, 3) := by decide +kernel
theorem dX10_plan_105 : decode cX10_plan 105 = .ok (.aload_n 0, 1) := by decide +kernel
theorem dX10_plan_106 : decode cX10_plan 106 = .ok (.getfield 19, 3) := by decide +kernel
theorem dX10_plan_109 : decode cX10_plan 109 = .ok (.aload_n 0, 1) := by decide +kernel
theorem dX10_plan_110 : decode cX10_plan 110 = .ok (.getfield 47, 3) := by decide +kernel
theorem dX10_plan_113 : decode cX10_plan 113 = .ok (.aload_n 0, 1) := by decide +kernel
theorem dX10_plan_114 : decode cX10_plan 114 = .ok (.getfield 47, 3) := by decide +kernel
theorem dX10_plan_117 : decode cX10_plan 117 = .ok (.getfield 230, 3) := by decide +kernel
theorem dX10_plan_120 : decode cX10_plan 120 = .ok (.invokevirtual 236, 3) := by decide +kernel
theorem dX10_plan_123 : decode cX10_plan 123 = .ok (.invokevirtual 238, 3) := by decide +kernel
theorem dX10_plan_126 : decode cX10_plan 126 = .ok (.ireturn, 1) := by decide +kernel
theorem dX10_plan_127 : decode cX10_plan 127 = .ok (.aload_n 0, 1) := by decide +kernel
theorem dX10_plan_128 : decode cX10_plan 128 = .ok (.getfield 47, 3) := by decide +kernel
theorem dX10_plan_131 : decode cX10_plan 131 = .ok (.getfield 230, 3) := by decide +kernel
theorem dX10_plan_134 : decode cX10_plan 134 = .ok (.invokestatic 193, 3) := by decide +kernel
theorem dX10_plan_137 : decode cX10_plan 137 = .ok (.ireturn, 1) := by decide +kernel
theorem dX10_plan_138 : decode cX10_plan 138 = .ok (.aload_n 0, 1) := by decide +kernel
theorem dX10_plan_139 : decode cX10_plan 139 = .ok (.getfield 47, 3) := by decide +kernel
theorem dX10_plan_142 : decode cX10_plan 142 = .ok (.getfield 242, 3) := by decide +kernel
theorem dX10_plan_145 : decode cX10_plan 145 = .ok (.ireturn, 1) := by decide +kernel
theorem dX10_plan_146 : decode cX10_plan 146 = .ok (.aload_n 0, 1) := by decide +kernel
theorem dX10_plan_147 : decode cX10_plan 147 = .ok (.getfield 47, 3) := by decide +kernel
theorem dX10_plan_150 : decode cX10_plan 150 = .ok (.getfield 245, 3) := by decide +kernel
theorem dX10_plan_153 : decode cX10_plan 153 = .ok (.iload 4, 2) := by decide +kernel
theorem dX10_plan_155 : decode cX10_plan 155 = .ok (.iaload, 1) := by decide +kernel
theorem dX10_plan_156 : decode cX10_plan 156 = .ok (.invokestatic 171, 3) := by decide +kernel
theorem dX10_plan_159 : decode cX10_plan 159 = .ok (.ireturn, 1) := by decide +kernel
theorem dX10_adopt_0 : decode cX10_adopt 0 = .ok (.aload_n 0, 1) := by decide +kernel
theorem dX10_adopt_1 : decode cX10_adopt 1 = .ok (.iload_n 1, 1) := by decide +kernel
theorem dX10_adopt_2 : decode cX10_adopt 2 = .ok (.iload_n 2, 1) := by decide +kernel
theorem dX10_adopt_3 : decode cX10_adopt 3 = .ok (.iload_n 3, 1) := by decide +kernel
theorem dX10_adopt_4 : decode cX10_adopt 4 = .ok (.invokevirtual 221, 3) := by decide +kernel
theorem dX10_adopt_7 : decode cX10_adopt 7 = .ok (.ifCond .eq 5, 3) := by decide +kernel
theorem dX10_adopt_10 : decode cX10_adopt 10 = .ok (.iconst (-1), 1) := by decide +kernel
theorem dX10_adopt_11 : decode cX10_adopt 11 = .ok (.ireturn, 1) := by decide +kernel
theorem dX10_adopt_12 : decode cX10_adopt 12 = .ok (.aload_n 0, 1) := by decide +kernel
theorem dX10_adopt_13 : decode cX10_adopt 13 = .ok (.getfield 47, 3) := by decide +kernel
theorem dX10_adopt_16 : decode cX10_adopt 16 = .ok (.aload_n 0, 1) := by decide +kernel
theorem dX10_adopt_17 : decode cX10_adopt 17 = .ok (.getfield 19, 3) := by decide +kernel
theorem dX10_adopt_20 : decode cX10_adopt 20 = .ok (.aload_n 0, 1) := by decide +kernel
theorem dX10_adopt_21 : decode cX10_adopt 21 = .ok (.getfield 33, 3) := by decide +kernel
theorem dX10_adopt_24 : decode cX10_adopt 24 = .ok (.iload_n 1, 1) := by decide +kernel
theorem dX10_adopt_25 : decode cX10_adopt 25 = .ok (.iload_n 2, 1) := by decide +kernel
theorem dX10_adopt_26 : decode cX10_adopt 26 = .ok (.iload_n 3, 1) := by decide +kernel
theorem dX10_adopt_27 : decode cX10_adopt 27 = .ok (.invokevirtual 227, 3) := by decide +kernel
theorem dX10_adopt_30 : decode cX10_adopt 30 = .ok (.aload_n 0, 1) := by decide +kernel
theorem dX10_adopt_31 : decode cX10_adopt 31 = .ok (.invokevirtual 187, 3) := by decide +kernel
theorem dX10_adopt_34 : decode cX10_adopt 34 = .ok (.aload_n 0, 1) := by decide +kernel
theorem dX10_adopt_35 : decode cX10_adopt 35 = .ok (.getfield 47, 3) := by decide +kernel
theorem dX10_adopt_38 : decode cX10_adopt 38 = .ok (.getfield 245, 3) := by decide +kernel
theorem dX10_adopt_41 : decode cX10_adopt 41 = .ok (.iconst 0, 1) := by decide +kernel
theorem dX10_adopt_42 : decode cX10_adopt 42 = .ok (.aload_n 0, 1) := by decide +kernel
theorem dX10_adopt_43 : decode cX10_adopt 43 = .ok (.getfield 19, 3) := by decide +kernel
theorem dX10_adopt_46 : decode cX10_adopt 46 = .ok (.getfield 114, 3) := by decide +kernel
theorem dX10_adopt_49 : decode cX10_adopt 49 = .ok (.getfield 168, 3) := by decide +kernel
theorem dX10_adopt_52 : decode cX10_adopt 52 = .ok (.iload_n 2, 1) := by decide +kernel
theorem dX10_adopt_53 : decode cX10_adopt 53 = .ok (.aload_n 0, 1) := by decide +kernel
theorem dX10_adopt_54 : decode cX10_adopt 54 = .ok (.getfield 19, 3) := by decide +kernel
theorem dX10_adopt_57 : decode cX10_adopt 57 = .ok (.iload_n 2, 1) := by decide +kernel
theorem dX10_adopt_58 : decode cX10_adopt 58 = .ok (.invokevirtual 224, 3) := by decide +kernel
theorem dX10_adopt_61 : decode cX10_adopt 61 = .ok (.invokestatic 248, 3) := by decide +kernel
theorem dX10_adopt_64 : decode cX10_adopt 64 = .ok (.aload_n 0, 1) := by decide +kernel
theorem dX10_adopt_65 : decode cX10_adopt 65 = .ok (.getfield 47, 3) := by decide +kernel
theorem dX10_adopt_68 : decode cX10_adopt 68 = .ok (.getfield 242, 3) := by decide +kernel
theorem dX10_adopt_71 : decode cX10_adopt 71 = .ok (.ireturn, 1) := by decide +kernel
theorem dX10_bound_0 : decode cX10_bound 0 = .ok (.aload_n 0, 1) := by decide +kernel
theorem dX10_bound_1 : decode cX10_bound 1 = .ok (.getfield 19, 3) := by decide +kernel
theorem dX10_bound_4 : decode cX10_bound 4 = .ok (.getfield 146, 3) := by decide +kernel
theorem dX10_bound_7 : decode cX10_bound 7 = .ok (.iload_n 1, 1) := by decide +kernel
theorem dX10_bound_8 : decode cX10_bound 8 = .ok (.invokevirtual 150, 3) := by decide +kernel
theorem dX10_bound_11 : decode cX10_bound 11 = .ok (.ifCond .ne 5, 3) := by decide +kernel
theorem dX10_bound_14 : decode cX10_bound 14 = .ok (.iconst (-1), 1) := by decide +kernel
theorem dX10_bound_15 : decode cX10_bound 15 = .ok (.ireturn, 1) := by decide +kernel
theorem dX10_bound_16 : decode cX10_bound 16 = .ok (.iconst 0, 1) := by decide +kernel
end
section
theorem dX10_bound_17 : decode cX10_bound 17 = .ok (.istore_n 2, 1) := by decide +kernel
theorem dX10_bound_18 : decode cX10_bound 18 = .ok (.iload_n 1, 1) := by decide +kernel
theorem dX10_bound_19 : decode cX10_bound 19 = .ok (.istore_n 3, 1) := by decide +kernel
theorem dX10_bound_20 : decode cX10_bound 20 = .ok (.iload_n 3, 1) := by decide +kernel
theorem dX10_bound_21 : decode cX10_bound 21 = .ok (.iload_n 1, 1) := by decide +kernel
theorem dX10_bound_22 : decode cX10_bound 22 = .ok (.aload_n 0, 1) := by decide +kernel
theorem dX10_bound_23 : decode cX10_bound 23 = .ok (.getfield 19, 3) := by decide +kernel
theorem dX10_bound_26 : decode cX10_bound 26 = .ok (.iload_n 1, 1) := by decide +kernel
theorem dX10_bound_27 : decode cX10_bound 27 = .ok (.invokevirtual 224, 3) := by decide +kernel
theorem dX10_bound_30 : decode cX10_bound 30 = .ok (.iadd, 1) := by decide +kernel
theorem dX10_bound_31 : decode cX10_bound 31 = .ok (.if_icmp .ge 35, 3) := by decide +kernel
theorem dX10_bound_34 : decode cX10_bound 34 = .ok (.aload_n 0, 1) := by decide +kernel
theorem dX10_bound_35 : decode cX10_bound 35 = .ok (.getfield 19, 3) := by decide +kernel
theorem dX10_bound_38 : decode cX10_bound 38 = .ok (.iload_n 3, 1) := by decide +kernel
theorem dX10_bound_39 : decode cX10_bound 39 = .ok (.invokevirtual 174, 3) := by decide +kernel
theorem dX10_bound_42 : decode cX10_bound 42 = .ok (.ifCond .eq 18, 3) := by decide +kernel
theorem dX10_bound_45 : decode cX10_bound 45 = .ok (.iload_n 2, 1) := by decide +kernel
theorem dX10_bound_46 : decode cX10_bound 46 = .ok (.aload_n 0, 1) := by decide +kernel
theorem dX10_bound_47 : decode cX10_bound 47 = .ok (.getfield 19, 3) := by decide +kernel
theorem dX10_bound_50 : decode cX10_bound 50 = .ok (.getfield 146, 3) := by decide +kernel
theorem dX10_bound_53 : decode cX10_bound 53 = .ok (.getfield 165, 3) := by decide +kernel
theorem dX10_bound_56 : decode cX10_bound 56 = .ok (.iload_n 3, 1) := by decide +kernel
theorem dX10_bound_57 : decode cX10_bound 57 = .ok (.iaload, 1) := by decide +kernel
theorem dX10_bound_58 : decode cX10_bound 58 = .ok (.iadd, 1) := by decide +kernel
theorem dX10_bound_59 : decode cX10_bound 59 = .ok (.istore_n 2, 1) := by decide +kernel
theorem dX10_bound_60 : decode cX10_bound 60 = .ok (.iinc 3 1, 3) := by decide +kernel
theorem dX10_bound_63 : decode cX10_bound 63 = .ok (.goto (-43), 3) := by decide +kernel
theorem dX10_bound_66 : decode cX10_bound 66 = .ok (.iload_n 2, 1) := by decide +kernel
theorem dX10_bound_67 : decode cX10_bound 67 = .ok (.ireturn, 1) := by decide +kernel
theorem dX10_store_0 : decode cX10_store 0 = .ok (.aload_n 0, 1) := by decide +kernel
theorem dX10_store_1 : decode cX10_store 1 = .ok (.getfield 19, 3) := by decide +kernel
theorem dX10_store_4 : decode cX10_store 4 = .ok (.getfield 87, 3) := by decide +kernel
theorem dX10_store_7 : decode cX10_store 7 = .ok (.getfield 90, 3) := by decide +kernel
theorem dX10_store_10 : decode cX10_store 10 = .ok (.iload_n 1, 1) := by decide +kernel
theorem dX10_store_11 : decode cX10_store 11 = .ok (.invokevirtual 94, 3) := by decide +kernel
theorem dX10_store_14 : decode cX10_store 14 = .ok (.ifCond .eq 10, 3) := by decide +kernel
theorem dX10_store_17 : decode cX10_store 17 = .ok (.iload_n 2, 1) := by decide +kernel
theorem dX10_store_18 : decode cX10_store 18 = .ok (.invokestatic 139, 3) := by decide +kernel
theorem dX10_store_21 : decode cX10_store 21 = .ok (.ifCond .ne 5, 3) := by decide +kernel
theorem dX10_store_24 : decode cX10_store 24 = .ok (.iconst (-1), 1) := by decide +kernel
theorem dX10_store_25 : decode cX10_store 25 = .ok (.ireturn, 1) := by decide +kernel
theorem dX10_store_26 : decode cX10_store 26 = .ok (.aload_n 0, 1) := by decide +kernel
theorem dX10_store_27 : decode cX10_store 27 = .ok (.getfield 33, 3) := by decide +kernel
theorem dX10_store_30 : decode cX10_store 30 = .ok (.aload_n 0, 1) := by decide +kernel
theorem dX10_store_31 : decode cX10_store 31 = .ok (.getfield 19, 3) := by decide +kernel
theorem dX10_store_34 : decode cX10_store 34 = .ok (.iload_n 1, 1) := by decide +kernel
theorem dX10_store_35 : decode cX10_store 35 = .ok (.aload_n 0, 1) := by decide +kernel
theorem dX10_store_36 : decode cX10_store 36 = .ok (.getfield 19, 3) := by decide +kernel
theorem dX10_store_39 : decode cX10_store 39 = .ok (.invokevirtual 190, 3) := by decide +kernel
theorem dX10_store_42 : decode cX10_store 42 = .ok (.iload_n 2, 1) := by decide +kernel
theorem dX10_store_43 : decode cX10_store 43 = .ok (.invokevirtual 254, 3) := by decide +kernel
theorem dX10_store_46 : decode cX10_store 46 = .ok (.iload_n 3, 1) := by decide +kernel
theorem dX10_store_47 : decode cX10_store 47 = .ok (.tableswitch 49 0 2 #[25, 33, 41], 25) := by decide +kernel
theorem dX10_store_72 : decode cX10_store 72 = .ok (.aload_n 0, 1) := by decide +kernel
theorem dX10_store_73 : decode cX10_store 73 = .ok (.getfield 33, 3) := by decide +kernel
theorem dX10_store_76 : decode cX10_store 76 = .ok (.getfield 258, 3) := by decide +kernel
theorem dX10_store_79 : decode cX10_store 79 = .ok (.ireturn, 1) := by decide +kernel
theorem dX10_store_80 : decode cX10_store 80 = .ok (.aload_n 0, 1) := by decide +kernel
theorem dX10_store_81 : decode cX10_store 81 = .ok (.getfield 33, 3) := by decide +kernel
theorem dX10_store_84 : decode cX10_store 84 = .ok (.getfield 261, 3) := by decide +kernel
theorem dX10_store_87 : decode cX10_store 87 = .ok (.ireturn, 1) := by decide +kernel
theorem dX10_store_88 : decode cX10_store 88 = .ok (.aload_n 0, 1) := by decide +kernel
theorem dX10_store_89 : decode cX10_store 89 = .ok (.getfield 33, 3) := by decide +kernel
theorem dX10_store_92 : decode cX10_store 92 = .ok (.getfield 264, 3) := by decide +kernel
theorem dX10_store_95 : decode cX10_store 95 = .ok (.ireturn, 1) := by decide +kernel
theorem dX10_store_96 : decode cX10_store 96 = .ok (.iconst (-1), 1) := by decide +kernel
theorem dX10_store_97 : decode cX10_store 97 = .ok (.ireturn, 1) := by decide +kernel
theorem dX10_over_0 : decode cX10_over 0 = .ok (.aload_n 0, 1) := by decide +kernel
theorem dX10_over_1 : decode cX10_over 1 = .ok (.getfield 19, 3) := by decide +kernel
theorem dX10_over_4 : decode cX10_over 4 = .ok (.getfield 87, 3) := by decide +kernel
theorem dX10_over_7 : decode cX10_over 7 = .ok (.getfield 90, 3) := by decide +kernel
theorem dX10_over_10 : decode cX10_over 10 = .ok (.iload_n 1, 1) := by decide +kernel
theorem dX10_over_11 : decode cX10_over 11 = .ok (.invokevirtual 94, 3) := by decide +kernel
theorem dX10_over_14 : decode cX10_over 14 = .ok (.ifCond .ne 5, 3) := by decide +kernel
theorem dX10_over_17 : decode cX10_over 17 = .ok (.iconst (-1), 1) := by decide +kernel
theorem dX10_over_18 : decode cX10_over 18 = .ok (.ireturn, 1) := by decide +kernel
theorem dX10_over_19 : decode cX10_over 19 = .ok (.aload_n 0, 1) := by decide +kernel
theorem dX10_over_20 : decode cX10_over 20 = .ok (.getfield 33, 3) := by decide +kernel
theorem dX10_over_23 : decode cX10_over 23 = .ok (.aload_n 0, 1) := by decide +kernel
theorem dX10_over_24 : decode cX10_over 24 = .ok (.getfield 19, 3) := by decide +kernel
theorem dX10_over_27 : decode cX10_over 27 = .ok (.iload_n 1, 1) := by decide +kernel
theorem dX10_over_28 : decode cX10_over 28 = .ok (.aload_n 0, 1) := by decide +kernel
theorem dX10_over_29 : decode cX10_over 29 = .ok (.getfield 19, 3) := by decide +kernel
theorem dX10_over_32 : decode cX10_over 32 = .ok (.invokevirtual 190, 3) := by decide +kernel
theorem dX10_over_35 : decode cX10_over 35 = .ok (.bipush 59, 2) := by decide +kernel
theorem dX10_over_37 : decode cX10_over 37 = .ok (.invokevirtual 254, 3) := by decide +kernel
theorem dX10_over_40 : decode cX10_over 40 = .ok (.aload_n 0, 1) := by decide +kernel
theorem dX10_over_41 : decode cX10_over 41 = .ok (.getfield 33, 3) := by decide +kernel
theorem dX10_over_44 : decode cX10_over 44 = .ok (.getfield 267, 3) := by decide +kernel
theorem dX10_over_47 : decode cX10_over 47 = .ok (.ireturn, 1) := by decide +kernel
theorem dX10_count_0 : decode cX10_count 0 = .ok (.iload_n 1, 1) := by decide +kernel
theorem dX10_count_1 : decode cX10_count 1 = .ok (.tableswitch 188 0 9 #[55, 69, 83, 97, 108, 119, 127, 135, 154, 173], 55) := by decide +kernel
theorem dX10_count_56 : decode cX10_count 56 = .ok (.aload_n 0, 1) := by decide +kernel
theorem dX10_count_57 : decode cX10_count 57 = .ok (.getfield 19, 3) := by decide +kernel
theorem dX10_count_60 : decode cX10_count 60 = .ok (.getfield 87, 3) := by decide +kernel
theorem dX10_count_63 : decode cX10_count 63 = .ok (.getfield 90, 3) := by decide +kernel
theorem dX10_count_66 : decode cX10_count 66 = .ok (.getfield 270, 3) := by decide +kernel
theorem dX10_count_69 : decode cX10_count 69 = .ok (.ireturn, 1) := by decide +kernel
theorem dX10_count_70 : decode cX10_count 70 = .ok (.aload_n 0, 1) := by decide +kernel
theorem dX10_count_71 : decode cX10_count 71 = .ok (.getfield 19, 3) := by decide +kernel
theorem dX10_count_74 : decode cX10_count 74 = .ok (.getfield 87, 3) := by decide +kernel
theorem dX10_count_77 : decode cX10_count 77 = .ok (.getfield 136, 3) := by decide +kernel
theorem dX10_count_80 : decode cX10_count 80 = .ok (.getfield 270, 3) := by decide +kernel
theorem dX10_count_83 : decode cX10_count 83 = .ok (.ireturn, 1) := by decide +kernel
theorem dX10_count_84 : decode cX10_count 84 = .ok (.aload_n 0, 1) := by decide +kernel
theorem dX10_count_85 : decode cX10_count 85 = .ok (.getfield 19, 3) := by decide +kernel
theorem dX10_count_88 : decode cX10_count 88 = .ok (.getfield 87, 3) := by decide +kernel
theorem dX10_count_91 : decode cX10_count 91 = .ok (.getfield 111, 3) := by decide +kernel
theorem dX10_count_94 : decode cX10_count 94 = .ok (.getfield 270, 3) := by decide +kernel
theorem dX10_count_97 : decode cX10_count 97 = .ok (.ireturn, 1) := by decide +kernel
theorem dX10_count_98 : decode cX10_count 98 = .ok (.aload_n 0, 1) := by decide +kernel
theorem dX10_count_99 : decode cX10_count 99 = .ok (.getfield 19, 3) := by decide +kernel
theorem dX10_count_102 : decode cX10_count 102 = .ok (.getfield 146, 3) := by decide +kernel
theorem dX10_count_105 : decode cX10_count 105 = .ok (.getfield 273, 3) := by decide +kernel
theorem dX10_count_108 : decode cX10_count 108 = .ok (.ireturn, 1) := by decide +kernel
theorem dX10_count_109 : decode cX10_count 109 = .ok (.aload_n 0, 1) := by decide +kernel
theorem dX10_count_110 : decode cX10_count 110 = .ok (.getfield 19, 3) := by decide +kernel
theorem dX10_count_113 : decode cX10_count 113 = .ok (.invokevirtual 190, 3) := by decide +kernel
theorem dX10_count_116 : decode cX10_count 116 = .ok (.invokestatic 193, 3) := by decide +kernel
theorem dX10_count_119 : decode cX10_count 119 = .ok (.ireturn, 1) := by decide +kernel
theorem dX10_count_120 : decode cX10_count 120 = .ok (.aload_n 0, 1) := by decide +kernel
theorem dX10_count_121 : decode cX10_count 121 = .ok (.getfield 26, 3) := by decide +kernel
theorem dX10_count_124 : decode cX10_count 124 = .ok (.getfield 201, 3) := by decide +kernel
theorem dX10_count_127 : decode cX10_count 127 = .ok (.ireturn, 1) := by decide +kernel
theorem dX10_count_128 : decode cX10_count 128 = .ok (.aload_n 0, 1) := by decide +kernel
theorem dX10_count_129 : decode cX10_count 129 = .ok (.getfield 10, 3) := by decide +kernel
theorem dX10_count_132 : decode cX10_count 132 = .ok (.getfield 80, 3) := by decide +kernel
theorem dX10_count_135 : decode cX10_count 135 = .ok (.ireturn, 1) := by decide +kernel
theorem dX10_count_136 : decode cX10_count 136 = .ok (.aload_n 0, 1) := by decide +kernel
theorem dX10_count_137 : decode cX10_count 137 = .ok (.getfield 33, 3) := by decide +kernel
theorem dX10_count_140 : decode cX10_count 140 = .ok (.aload_n 0, 1) := by decide +kernel
theorem dX10_count_141 : decode cX10_count 141 = .ok (.getfield 19, 3) := by decide +kernel
theorem dX10_count_144 : decode cX10_count 144 = .ok (.aload_n 0, 1) := by decide +kernel
theorem dX10_count_145 : decode cX10_count 145 = .ok (.getfield 19, 3) := by decide +kernel
theorem dX10_count_148 : decode cX10_count 148 = .ok (.invokevirtual 190, 3) := by decide +kernel
theorem dX10_count_151 : decode cX10_count 151 = .ok (.invokevirtual 276, 3) := by decide +kernel
theorem dX10_count_154 : decode cX10_count 154 = .ok (.ireturn, 1) := by decide +kernel
theorem dX10_count_155 : decode cX10_count 155 = .ok (.aload_n 0, 1) := by decide +kernel
theorem dX10_count_156 : decode cX10_count 156 = .ok (.getfield 33, 3) := by decide +kernel
theorem dX10_count_159 : decode cX10_count 159 = .ok (.aload_n 0, 1) := by decide +kernel
theorem dX10_count_160 : decode cX10_count 160 = .ok (.getfield 19, 3) := by decide +kernel
theorem dX10_count_163 : decode cX10_count 163 = .ok (.aload_n 0, 1) := by decide +kernel
theorem dX10_count_164 : decode cX10_count 164 = .ok (.getfield 19, 3) := by decide +kernel
theorem dX10_count_167 : decode cX10_count 167 = .ok (.invokevirtual 190, 3) := by decide +kernel
theorem dX10_count_170 : decode cX10_count 170 = .ok (.invokevirtual 238, 3) := by decide +kernel
theorem dX10_count_173 : decode cX10_count 173 = .ok (.ireturn, 1) := by decide +kernel
theorem dX10_count_174 : decode cX10_count 174 = .ok (.aload_n 0, 1) := by decide +kernel
theorem dX10_count_175 : decode cX10_count 175 = .ok (.getfield 19, 3) := by decide +kernel
theorem dX10_count_178 : decode cX10_count 178 = .ok (.aload_n 0, 1) := by decide +kernel
theorem dX10_count_179 : decode cX10_count 179 = .ok (.getfield 19, 3) := by decide +kernel
theorem dX10_count_182 : decode cX10_count 182 = .ok (.invokevirtual 190, 3) := by decide +kernel
theorem dX10_count_185 : decode cX10_count 185 = .ok (.invokevirtual 233, 3) := by decide +kernel
theorem dX10_count_188 : decode cX10_count 188 = .ok (.ireturn, 1) := by decide +kernel
theorem dX10_count_189 : decode cX10_count 189 = .ok (.iconst (-1), 1) := by decide +kernel
theorem dX10_count_190 : decode cX10_count 190 = .ok (.ireturn, 1) := by decide +kernel
theorem dX10_layText_0 : decode cX10_layText 0 = .ok (.aload_n 0, 1) := by decide +kernel
theorem dX10_layText_1 : decode cX10_layText 1 = .ok (.getfield 54, 3) := by decide +kernel
theorem dX10_layText_4 : decode cX10_layText 4 = .ok (.aload_n 0, 1) := by decide +kernel
theorem dX10_layText_5 : decode cX10_layText 5 = .ok (.getfield 10, 3) := by decide +kernel
theorem dX10_layText_8 : decode cX10_layText 8 = .ok (.invokevirtual 83, 3) := by decide +kernel
theorem dX10_layText_11 : decode cX10_layText 11 = .ok (.bipush (-4), 2) := by decide +kernel
theorem dX10_layText_13 : decode cX10_layText 13 = .ok (.if_icmp .eq 6, 3) := by decide +kernel
theorem dX10_layText_16 : decode cX10_layText 16 = .ok (.bipush (-2), 2) := by decide +kernel
theorem dX10_layText_18 : decode cX10_layText 18 = .ok (.ireturn, 1) := by decide +kernel
theorem dX10_layText_19 : decode cX10_layText 19 = .ok (.aload_n 0, 1) := by decide +kernel
theorem dX10_layText_20 : decode cX10_layText 20 = .ok (.getfield 19, 3) := by decide +kernel
theorem dX10_layText_23 : decode cX10_layText 23 = .ok (.getfield 87, 3) := by decide +kernel
theorem dX10_layText_26 : decode cX10_layText 26 = .ok (.astore_n 1, 1) := by decide +kernel
theorem dX10_layText_27 : decode cX10_layText 27 = .ok (.aload_n 0, 1) := by decide +kernel
theorem dX10_layText_28 : decode cX10_layText 28 = .ok (.getfield 19, 3) := by decide +kernel
theorem dX10_layText_31 : decode cX10_layText 31 = .ok (.aload_n 0, 1) := by decide +kernel
theorem dX10_layText_32 : decode cX10_layText 32 = .ok (.getfield 54, 3) := by decide +kernel
theorem dX10_layText_35 : decode cX10_layText 35 = .ok (.invokevirtual 279, 3) := by decide +kernel
theorem dX10_layText_38 : decode cX10_layText 38 = .ok (.aload_n 0, 1) := by decide +kernel
theorem dX10_layText_39 : decode cX10_layText 39 = .ok (.aload_n 1, 1) := by decide +kernel
theorem dX10_layText_40 : decode cX10_layText 40 = .ok (.putfield 54, 3) := by decide +kernel
theorem dX10_layText_43 : decode cX10_layText 43 = .ok (.aload_n 0, 1) := by decide +kernel
theorem dX10_layText_44 : decode cX10_layText 44 = .ok (.getfield 26, 3) := by decide +kernel
theorem dX10_layText_47 : decode cX10_layText 47 = .ok (.invokevirtual 283, 3) := by decide +kernel
theorem dX10_layText_50 : decode cX10_layText 50 = .ok (.aload_n 0, 1) := by decide +kernel
theorem dX10_layText_51 : decode cX10_layText 51 = .ok (.getfield 47, 3) := by decide +kernel
theorem dX10_layText_54 : decode cX10_layText 54 = .ok (.invokevirtual 204, 3) := by decide +kernel
theorem dX10_layText_57 : decode cX10_layText 57 = .ok (.aload_n 0, 1) := by decide +kernel
theorem dX10_layText_58 : decode cX10_layText 58 = .ok (.getfield 19, 3) := by decide +kernel
theorem dX10_layText_61 : decode cX10_layText 61 = .ok (.getfield 146, 3) := by decide +kernel
theorem dX10_layText_64 : decode cX10_layText 64 = .ok (.getfield 273, 3) := by decide +kernel
theorem dX10_layText_67 : decode cX10_layText 67 = .ok (.ireturn, 1) := by decide +kernel
theorem dX10_prepareChange_0 : decode cX10_prepareChange 0 = .ok (.aload_n 0, 1) := by decide +kernel
theorem dX10_prepareChange_1 : decode cX10_prepareChange 1 = .ok (.getfield 26, 3) := by decide +kernel
theorem dX10_prepareChange_4 : decode cX10_prepareChange 4 = .ok (.aload_n 0, 1) := by decide +kernel
theorem dX10_prepareChange_5 : decode cX10_prepareChange 5 = .ok (.getfield 19, 3) := by decide +kernel
theorem dX10_prepareChange_8 : decode cX10_prepareChange 8 = .ok (.getfield 114, 3) := by decide +kernel
theorem dX10_prepareChange_11 : decode cX10_prepareChange 11 = .ok (.invokevirtual 284, 3) := by decide +kernel
theorem dX10_prepareChange_14 : decode cX10_prepareChange 14 = .ok (.aload_n 0, 1) := by decide +kernel
theorem dX10_prepareChange_15 : decode cX10_prepareChange 15 = .ok (.getfield 47, 3) := by decide +kernel
theorem dX10_prepareChange_18 : decode cX10_prepareChange 18 = .ok (.invokevirtual 204, 3) := by decide +kernel
theorem dX10_prepareChange_21 : decode cX10_prepareChange 21 = .ok (.return_, 1) := by decide +kernel
theorem dX10_isBadPlan_0 : decode cX10_isBadPlan 0 = .ok (.iload_n 1, 1) := by decide +kernel
theorem dX10_isBadPlan_1 : decode cX10_isBadPlan 1 = .ok (.ifCond .lt 32, 3) := by decide +kernel
theorem dX10_isBadPlan_4 : decode cX10_isBadPlan 4 = .ok (.iload_n 1, 1) := by decide +kernel
theorem dX10_isBadPlan_5 : decode cX10_isBadPlan 5 = .ok (.iconst 1, 1) := by decide +kernel
theorem dX10_isBadPlan_6 : decode cX10_isBadPlan 6 = .ok (.if_icmp .gt 27, 3) := by decide +kernel
theorem dX10_isBadPlan_9 : decode cX10_isBadPlan 9 = .ok (.aload_n 0, 1) := by decide +kernel
theorem dX10_isBadPlan_10 : decode cX10_isBadPlan 10 = .ok (.getfield 19, 3) := by decide +kernel
theorem dX10_isBadPlan_13 : decode cX10_isBadPlan 13 = .ok (.getfield 146, 3) := by decide +kernel
theorem dX10_isBadPlan_16 : decode cX10_isBadPlan 16 = .ok (.iload_n 2, 1) := by decide +kernel
theorem dX10_isBadPlan_17 : decode cX10_isBadPlan 17 = .ok (.invokevirtual 150, 3) := by decide +kernel
theorem dX10_isBadPlan_20 : decode cX10_isBadPlan 20 = .ok (.ifCond .eq 13, 3) := by decide +kernel
theorem dX10_isBadPlan_23 : decode cX10_isBadPlan 23 = .ok (.iload_n 3, 1) := by decide +kernel
theorem dX10_isBadPlan_24 : decode cX10_isBadPlan 24 = .ok (.ifCond .lt 9, 3) := by decide +kernel
theorem dX10_isBadPlan_27 : decode cX10_isBadPlan 27 = .ok (.iload_n 3, 1) := by decide +kernel
theorem dX10_isBadPlan_28 : decode cX10_isBadPlan 28 = .ok (.bipush 6, 2) := by decide +kernel
theorem dX10_isBadPlan_30 : decode cX10_isBadPlan 30 = .ok (.if_icmp .le 7, 3) := by decide +kernel
theorem dX10_isBadPlan_33 : decode cX10_isBadPlan 33 = .ok (.iconst 1, 1) := by decide +kernel
theorem dX10_isBadPlan_34 : decode cX10_isBadPlan 34 = .ok (.goto 4, 3) := by decide +kernel
theorem dX10_isBadPlan_37 : decode cX10_isBadPlan 37 = .ok (.iconst 0, 1) := by decide +kernel
theorem dX10_isBadPlan_38 : decode cX10_isBadPlan 38 = .ok (.ireturn, 1) := by decide +kernel
theorem dX10_isSlot_0 : decode cX10_isSlot 0 = .ok (.iload_n 0, 1) := by decide +kernel
theorem dX10_isSlot_1 : decode cX10_isSlot 1 = .ok (.ifCond .lt 13, 3) := by decide +kernel
theorem dX10_isSlot_4 : decode cX10_isSlot 4 = .ok (.iload_n 0, 1) := by decide +kernel
theorem dX10_isSlot_5 : decode cX10_isSlot 5 = .ok (.bipush 60, 2) := by decide +kernel
theorem dX10_isSlot_7 : decode cX10_isSlot 7 = .ok (.if_icmp .ge 7, 3) := by decide +kernel
theorem dX10_isSlot_10 : decode cX10_isSlot 10 = .ok (.iconst 1, 1) := by decide +kernel
theorem dX10_isSlot_11 : decode cX10_isSlot 11 = .ok (.goto 4, 3) := by decide +kernel
theorem dX10_isSlot_14 : decode cX10_isSlot 14 = .ok (.iconst 0, 1) := by decide +kernel
theorem dX10_isSlot_15 : decode cX10_isSlot 15 = .ok (.ireturn, 1) := by decide +kernel
theorem dX10_antennaOrNone_0 : decode cX10_antennaOrNone 0 = .ok (.iload_n 0, 1) := by decide +kernel
theorem dX10_antennaOrNone_1 : decode cX10_antennaOrNone 1 = .ok (.iconst (-1), 1) := by decide +kernel
theorem dX10_antennaOrNone_2 : decode cX10_antennaOrNone 2 = .ok (.if_icmp .ne 8, 3) := by decide +kernel
theorem dX10_antennaOrNone_5 : decode cX10_antennaOrNone 5 = .ok (.bipush (-4), 2) := by decide +kernel
theorem dX10_antennaOrNone_7 : decode cX10_antennaOrNone 7 = .ok (.goto 4, 3) := by decide +kernel
theorem dX10_antennaOrNone_10 : decode cX10_antennaOrNone 10 = .ok (.iload_n 0, 1) := by decide +kernel
theorem dX10_antennaOrNone_11 : decode cX10_antennaOrNone 11 = .ok (.ireturn, 1) := by decide +kernel
theorem dX11_init_0 : decode cX11_init 0 = .ok (.aload_n 0, 1) := by decide +kernel
theorem dX11_init_1 : decode cX11_init 1 = .ok (.invokespecial 1, 3) := by decide +kernel
theorem dX11_init_4 : decode cX11_init 4 = .ok (.aload_n 0, 1) := by decide +kernel
theorem dX11_init_5 : decode cX11_init 5 = .ok (.sipush 200, 3) := by decide +kernel
theorem dX11_init_8 : decode cX11_init 8 = .ok (.newarray .int, 2) := by decide +kernel
theorem dX11_init_10 : decode cX11_init 10 = .ok (.putfield 7, 3) := by decide +kernel
theorem dX11_init_13 : decode cX11_init 13 = .ok (.aload_n 0, 1) := by decide +kernel
theorem dX11_init_14 : decode cX11_init 14 = .ok (.bipush 20, 2) := by decide +kernel
theorem dX11_init_16 : decode cX11_init 16 = .ok (.newarray .int, 2) := by decide +kernel
theorem dX11_init_18 : decode cX11_init 18 = .ok (.putfield 13, 3) := by decide +kernel
theorem dX11_init_21 : decode cX11_init 21 = .ok (.aload_n 0, 1) := by decide +kernel
theorem dX11_init_22 : decode cX11_init 22 = .ok (.bipush 6, 2) := by decide +kernel
theorem dX11_init_24 : decode cX11_init 24 = .ok (.newarray .int, 2) := by decide +kernel
theorem dX11_init_26 : decode cX11_init 26 = .ok (.putfield 16, 3) := by decide +kernel
theorem dX11_init_29 : decode cX11_init 29 = .ok (.aload_n 0, 1) := by decide +kernel
theorem dX11_init_30 : decode cX11_init 30 = .ok (.bipush 12, 2) := by decide +kernel
theorem dX11_init_32 : decode cX11_init 32 = .ok (.newarray .int, 2) := by decide +kernel
theorem dX11_init_34 : decode cX11_init 34 = .ok (.putfield 19, 3) := by decide +kernel
theorem dX11_init_37 : decode cX11_init 37 = .ok (.aload_n 0, 1) := by decide +kernel
theorem dX11_init_38 : decode cX11_init 38 = .ok (.iconst 3, 1) := by decide +kernel
theorem dX11_init_39 : decode cX11_init 39 = .ok (.newarray .int, 2) := by decide +kernel
theorem dX11_init_41 : decode cX11_init 41 = .ok (.putfield 22, 3) := by decide +kernel
theorem dX11_init_44 : decode cX11_init 44 = .ok (.aload_n 0, 1) := by decide +kernel
theorem dX11_init_45 : decode cX11_init 45 = .ok (.bipush 20, 2) := by decide +kernel
theorem dX11_init_47 : decode cX11_init 47 = .ok (.newarray .int, 2) := by decide +kernel
theorem dX11_init_49 : decode cX11_init 49 = .ok (.putfield 25, 3) := by decide +kernel
theorem dX11_init_52 : decode cX11_init 52 = .ok (.aload_n 0, 1) := by decide +kernel
theorem dX11_init_53 : decode cX11_init 53 = .ok (.bipush 6, 2) := by decide +kernel
theorem dX11_init_55 : decode cX11_init 55 = .ok (.newarray .int, 2) := by decide +kernel
theorem dX11_init_57 : decode cX11_init 57 = .ok (.putfield 28, 3) := by decide +kernel
theorem dX11_init_60 : decode cX11_init 60 = .ok (.aload_n 0, 1) := by decide +kernel
theorem dX11_init_61 : decode cX11_init 61 = .ok (.bipush 12, 2) := by decide +kernel
theorem dX11_init_63 : decode cX11_init 63 = .ok (.newarray .int, 2) := by decide +kernel
theorem dX11_init_65 : decode cX11_init 65 = .ok (.putfield 31, 3) := by decide +kernel
theorem dX11_init_68 : decode cX11_init 68 = .ok (.aload_n 0, 1) := by decide +kernel
theorem dX11_init_69 : decode cX11_init 69 = .ok (.iconst 3, 1) := by decide +kernel
theorem dX11_init_70 : decode cX11_init 70 = .ok (.newarray .int, 2) := by decide +kernel
theorem dX11_init_72 : decode cX11_init 72 = .ok (.putfield 34, 3) := by decide +kernel
theorem dX11_init_75 : decode cX11_init 75 = .ok (.aload_n 0, 1) := by decide +kernel
theorem dX11_init_76 : decode cX11_init 76 = .ok (.bipush 24, 2) := by decide +kernel
theorem dX11_init_78 : decode cX11_init 78 = .ok (.newarray .int, 2) := by decide +kernel
theorem dX11_init_80 : decode cX11_init 80 = .ok (.putfield 37, 3) := by decide +kernel
theorem dX11_init_83 : decode cX11_init 83 = .ok (.aload_n 0, 1) := by decide +kernel
theorem dX11_init_84 : decode cX11_init 84 = .ok (.bipush 24, 2) := by decide +kernel
theorem dX11_init_86 : decode cX11_init 86 = .ok (.newarray .int, 2) := by decide +kernel
theorem dX11_init_88 : decode cX11_init 88 = .ok (.putfield 40, 3) := by decide +kernel
theorem dX11_init_91 : decode cX11_init 91 = .ok (.aload_n 0, 1) := by decide +kernel
theorem dX11_init_92 : decode cX11_init 92 = .ok (.bipush 24, 2) := by decide +kernel
theorem dX11_init_94 : decode cX11_init 94 = .ok (.newarray .int, 2) := by decide +kernel
theorem dX11_init_96 : decode cX11_init 96 = .ok (.putfield 43, 3) := by decide +kernel
theorem dX11_init_99 : decode cX11_init 99 = .ok (.aload_n 0, 1) := by decide +kernel
theorem dX11_init_100 : decode cX11_init 100 = .ok (.bipush 24, 2) := by decide +kernel
theorem dX11_init_102 : decode cX11_init 102 = .ok (.newarray .int, 2) := by decide +kernel
theorem dX11_init_104 : decode cX11_init 104 = .ok (.putfield 46, 3) := by decide +kernel
theorem dX11_init_107 : decode cX11_init 107 = .ok (.aload_n 0, 1) := by decide +kernel
theorem dX11_init_108 : decode cX11_init 108 = .ok (.bipush 24, 2) := by decide +kernel
theorem dX11_init_110 : decode cX11_init 110 = .ok (.newarray .int, 2) := by decide +kernel
theorem dX11_init_112 : decode cX11_init 112 = .ok (.putfield 49, 3) := by decide +kernel
theorem dX11_init_115 : decode cX11_init 115 = .ok (.aload_n 0, 1) := by decide +kernel
theorem dX11_init_116 : decode cX11_init 116 = .ok (.bipush 32, 2) := by decide +kernel
theorem dX11_init_118 : decode cX11_init 118 = .ok (.newarray .int, 2) := by decide +kernel
theorem dX11_init_120 : decode cX11_init 120 = .ok (.putfield 52, 3) := by decide +kernel
theorem dX11_init_123 : decode cX11_init 123 = .ok (.aload_n 0, 1) := by decide +kernel
theorem dX11_init_124 : decode cX11_init 124 = .ok (.sipush 192, 3) := by decide +kernel
theorem dX11_init_127 : decode cX11_init 127 = .ok (.newarray .int, 2) := by decide +kernel
theorem dX11_init_129 : decode cX11_init 129 = .ok (.putfield 55, 3) := by decide +kernel
theorem dX11_init_132 : decode cX11_init 132 = .ok (.aload_n 0, 1) := by decide +kernel
theorem dX11_init_133 : decode cX11_init 133 = .ok (.bipush 25, 2) := by decide +kernel
theorem dX11_init_135 : decode cX11_init 135 = .ok (.newarray .int, 2) := by decide +kernel
theorem dX11_init_137 : decode cX11_init 137 = .ok (.putfield 58, 3) := by decide +kernel
theorem dX11_init_140 : decode cX11_init 140 = .ok (.aload_n 0, 1) := by decide +kernel
theorem dX11_init_141 : decode cX11_init 141 = .ok (.bipush 25, 2) := by decide +kernel
theorem dX11_init_143 : decode cX11_init 143 = .ok (.newarray .int, 2) := by decide +kernel
theorem dX11_init_145 : decode cX11_init 145 = .ok (.putfield 61, 3) := by decide +kernel
theorem dX11_init_148 : decode cX11_init 148 = .ok (.aload_n 0, 1) := by decide +kernel
theorem dX11_init_149 : decode cX11_init 149 = .ok (.bipush 25, 2) := by decide +kernel
theorem dX11_init_151 : decode cX11_init 151 = .ok (.newarray .int, 2) := by decide +kernel
theorem dX11_init_153 : decode cX11_init 153 = .ok (.putfield 64, 3) := by decide +kernel
theorem dX11_init_156 : decode cX11_init 156 = .ok (.aload_n 0, 1) := by decide +kernel
theorem dX11_init_157 : decode cX11_init 157 = .ok (.bipush 24, 2) := by decide +kernel
theorem dX11_init_159 : decode cX11_init 159 = .ok (.newarray .int, 2) := by decide +kernel
theorem dX11_init_161 : decode cX11_init 161 = .ok (.putfield 67, 3) := by decide +kernel
theorem dX11_init_164 : decode cX11_init 164 = .ok (.aload_n 0, 1) := by decide +kernel
theorem dX11_init_165 : decode cX11_init 165 = .ok (.bipush 6, 2) := by decide +kernel
theorem dX11_init_167 : decode cX11_init 167 = .ok (.newarray .int, 2) := by decide +kernel
theorem dX11_init_169 : decode cX11_init 169 = .ok (.putfield 70, 3) := by decide +kernel
theorem dX11_init_172 : decode cX11_init 172 = .ok (.aload_n 0, 1) := by decide +kernel
theorem dX11_init_173 : decode cX11_init 173 = .ok (.iconst 4, 1) := by decide +kernel
theorem dX11_init_174 : decode cX11_init 174 = .ok (.newarray .int, 2) := by decide +kernel
theorem dX11_init_176 : decode cX11_init 176 = .ok (.putfield 73, 3) := by decide +kernel
theorem dX11_init_179 : decode cX11_init 179 = .ok (.aload_n 0, 1) := by decide +kernel
theorem dX11_init_180 : decode cX11_init 180 = .ok (.iconst 4, 1) := by decide +kernel
theorem dX11_init_181 : decode cX11_init 181 = .ok (.newarray .int, 2) := by decide +kernel
theorem dX11_init_183 : decode cX11_init 183 = .ok (.putfield 76, 3) := by decide +kernel
theorem dX11_init_186 : decode cX11_init 186 = .ok (.aload_n 0, 1) := by decide +kernel
theorem dX11_init_187 : decode cX11_init 187 = .ok (.sipush 240, 3) := by decide +kernel
theorem dX11_init_190 : decode cX11_init 190 = .ok (.newarray .int, 2) := by decide +kernel
theorem dX11_init_192 : decode cX11_init 192 = .ok (.putfield 79, 3) := by decide +kernel
theorem dX11_init_195 : decode cX11_init 195 = .ok (.aload_n 0, 1) := by decide +kernel
theorem dX11_init_196 : decode cX11_init 196 = .ok (.iconst 0, 1) := by decide +kernel
theorem dX11_init_197 : decode cX11_init 197 = .ok (.iconst 0, 1) := by decide +kernel
theorem dX11_init_198 : decode cX11_init 198 = .ok (.bipush 20, 2) := by decide +kernel
theorem dX11_init_200 : decode cX11_init 200 = .ok (.iconst 0, 1) := by decide +kernel
theorem dX11_init_201 : decode cX11_init 201 = .ok (.bipush 30, 2) := by decide +kernel
theorem dX11_init_203 : decode cX11_init 203 = .ok (.iconst 1, 1) := by decide +kernel
theorem dX11_init_204 : decode cX11_init 204 = .ok (.invokevirtual 82, 3) := by decide +kernel
theorem dX11_init_207 : decode cX11_init 207 = .ok (.aload_n 0, 1) := by decide +kernel
theorem dX11_init_208 : decode cX11_init 208 = .ok (.iconst 1, 1) := by decide +kernel
theorem dX11_init_209 : decode cX11_init 209 = .ok (.bipush 7, 2) := by decide +kernel
theorem dX11_init_211 : decode cX11_init 211 = .ok (.bipush 25, 2) := by decide +kernel
theorem dX11_init_213 : decode cX11_init 213 = .ok (.iconst 1, 1) := by decide +kernel
theorem dX11_init_214 : decode cX11_init 214 = .ok (.bipush 40, 2) := by decide +kernel
theorem dX11_init_216 : decode cX11_init 216 = .ok (.iconst 2, 1) := by decide +kernel
theorem dX11_init_217 : decode cX11_init 217 = .ok (.invokevirtual 82, 3) := by decide +kernel
theorem dX11_init_220 : decode cX11_init 220 = .ok (.aload_n 0, 1) := by decide +kernel
theorem dX11_init_221 : decode cX11_init 221 = .ok (.iconst 2, 1) := by decide +kernel
theorem dX11_init_222 : decode cX11_init 222 = .ok (.bipush 13, 2) := by decide +kernel
theorem dX11_init_224 : decode cX11_init 224 = .ok (.bipush 18, 2) := by decide +kernel
theorem dX11_init_226 : decode cX11_init 226 = .ok (.iconst 1, 1) := by decide +kernel
theorem dX11_init_227 : decode cX11_init 227 = .ok (.bipush 20, 2) := by decide +kernel
theorem dX11_init_229 : decode cX11_init 229 = .ok (.iconst 1, 1) := by decide +kernel
theorem dX11_init_230 : decode cX11_init 230 = .ok (.invokevirtual 82, 3) := by decide +kernel
theorem dX11_init_233 : decode cX11_init 233 = .ok (.aload_n 0, 1) := by decide +kernel
theorem dX11_init_234 : decode cX11_init 234 = .ok (.getfield 16, 3) := by decide +kernel
theorem dX11_init_237 : decode cX11_init 237 = .ok (.iconst 1, 1) := by decide +kernel
theorem dX11_init_238 : decode cX11_init 238 = .ok (.bipush 6, 2) := by decide +kernel
theorem dX11_init_240 : decode cX11_init 240 = .ok (.iastore, 1) := by decide +kernel
theorem dX11_init_241 : decode cX11_init 241 = .ok (.aload_n 0, 1) := by decide +kernel
theorem dX11_init_242 : decode cX11_init 242 = .ok (.getfield 16, 3) := by decide +kernel
theorem dX11_init_245 : decode cX11_init 245 = .ok (.iconst 2, 1) := by decide +kernel
theorem dX11_init_246 : decode cX11_init 246 = .ok (.bipush 9, 2) := by decide +kernel
theorem dX11_init_248 : decode cX11_init 248 = .ok (.iastore, 1) := by decide +kernel
theorem dX11_init_249 : decode cX11_init 249 = .ok (.aload_n 0, 1) := by decide +kernel
theorem dX11_init_250 : decode cX11_init 250 = .ok (.getfield 16, 3) := by decide +kernel
theorem dX11_init_253 : decode cX11_init 253 = .ok (.iconst 3, 1) := by decide +kernel
theorem dX11_init_254 : decode cX11_init 254 = .ok (.bipush 8, 2) := by decide +kernel
theorem dX11_init_256 : decode cX11_init 256 = .ok (.iastore, 1) := by decide +kernel
theorem dX11_init_257 : decode cX11_init 257 = .ok (.aload_n 0, 1) := by decide +kernel
theorem dX11_init_258 : decode cX11_init 258 = .ok (.getfield 19, 3) := by decide +kernel
theorem dX11_init_261 : decode cX11_init 261 = .ok (.iconst 1, 1) := by decide +kernel
theorem dX11_init_262 : decode cX11_init 262 = .ok (.iconst 2, 1) := by decide +kernel
theorem dX11_init_263 : decode cX11_init 263 = .ok (.iastore, 1) := by decide +kernel
theorem dX11_init_264 : decode cX11_init 264 = .ok (.aload_n 0, 1) := by decide +kernel
theorem dX11_init_265 : decode cX11_init 265 = .ok (.getfield 19, 3) := by decide +kernel
theorem dX11_init_268 : decode cX11_init 268 = .ok (.iconst 2, 1) := by decide +kernel
theorem dX11_init_269 : decode cX11_init 269 = .ok (.iconst 1, 1) := by decide +kernel
theorem dX11_init_270 : decode cX11_init 270 = .ok (.iastore, 1) := by decide +kernel
theorem dX11_init_271 : decode cX11_init 271 = .ok (.aload_n 0, 1) := by decide +kernel
theorem dX11_init_272 : decode cX11_init 272 = .ok (.getfield 19, 3) := by decide +kernel
theorem dX11_init_275 : decode cX11_init 275 = .ok (.bipush 6, 2) := by decide +kernel
theorem dX11_init_277 : decode cX11_init 277 = .ok (.iconst 1, 1) := by decide +kernel
theorem dX11_init_278 : decode cX11_init 278 = .ok (.iastore, 1) := by decide +kernel
theorem dX11_init_279 : decode cX11_init 279 = .ok (.aload_n 0, 1) := by decide +kernel
theorem dX11_init_280 : decode cX11_init 280 = .ok (.getfield 19, 3) := by decide +kernel
theorem dX11_init_283 : decode cX11_init 283 = .ok (.bipush 7, 2) := by decide +kernel
theorem dX11_init_285 : decode cX11_init 285 = .ok (.iconst 1, 1) := by decide +kernel
theorem dX11_init_286 : decode cX11_init 286 = .ok (.iastore, 1) := by decide +kernel
theorem dX11_init_287 : decode cX11_init 287 = .ok (.aload_n 0, 1) := by decide +kernel
theorem dX11_init_288 : decode cX11_init 288 = .ok (.getfield 19, 3) := by decide +kernel
theorem dX11_init_291 : decode cX11_init 291 = .ok (.bipush 8, 2) := by decide +kernel
theorem dX11_init_293 : decode cX11_init 293 = .ok (.iconst 2, 1) := by decide +kernel
theorem dX11_init_294 : decode cX11_init 294 = .ok (.iastore, 1) := by decide +kernel
theorem dX11_init_295 : decode cX11_init 295 = .ok (.aload_n 0, 1) := by decide +kernel
theorem dX11_init_296 : decode cX11_init 296 = .ok (.getfield 22, 3) := by decide +kernel
theorem dX11_init_299 : decode cX11_init 299 = .ok (.iconst 0, 1) := by decide +kernel
theorem dX11_init_300 : decode cX11_init 300 = .ok (.iconst 3, 1) := by decide +kernel
theorem dX11_init_301 : decode cX11_init 301 = .ok (.iastore, 1) := by decide +kernel
theorem dX11_init_302 : decode cX11_init 302 = .ok (.aload_n 0, 1) := by decide +kernel
theorem dX11_init_303 : decode cX11_init 303 = .ok (.getfield 22, 3) := by decide +kernel
theorem dX11_init_306 : decode cX11_init 306 = .ok (.iconst 1, 1) := by decide +kernel
theorem dX11_init_307 : decode cX11_init 307 = .ok (.iconst 2, 1) := by decide +kernel
theorem dX11_init_308 : decode cX11_init 308 = .ok (.iastore, 1) := by decide +kernel
theorem dX11_init_309 : decode cX11_init 309 = .ok (.aload_n 0, 1) := by decide +kernel
theorem dX11_init_310 : decode cX11_init 310 = .ok (.getfield 22, 3) := by decide +kernel
theorem dX11_init_313 : decode cX11_init 313 = .ok (.iconst 2, 1) := by decide +kernel
theorem dX11_init_314 : decode cX11_init 314 = .ok (.iconst 3, 1) := by decide +kernel
theorem dX11_init_315 : decode cX11_init 315 = .ok (.iastore, 1) := by decide +kernel
theorem dX11_init_316 : decode cX11_init 316 = .ok (.aload_n 0, 1) := by decide +kernel
theorem dX11_init_317 : decode cX11_init 317 = .ok (.invokevirtual 86, 3) := by decide +kernel
theorem dX11_init_320 : decode cX11_init 320 = .ok (.return_, 1) := by decide +kernel
theorem dX11_satNow_0 : decode cX11_satNow 0 = .ok (.aload_n 0, 1) := by decide +kernel
theorem dX11_satNow_1 : decode cX11_satNow 1 = .ok (.getfield 13, 3) := by decide +kernel
theorem dX11_satNow_4 : decode cX11_satNow 4 = .ok (.iconst 5, 1) := by decide +kernel
theorem dX11_satNow_5 : decode cX11_satNow 5 = .ok (.iload_n 1, 1) := by decide +kernel
theorem dX11_satNow_6 : decode cX11_satNow 6 = .ok (.imul, 1) := by decide +kernel
theorem dX11_satNow_7 : decode cX11_satNow 7 = .ok (.iload_n 2, 1) := by decide +kernel
theorem dX11_satNow_8 : decode cX11_satNow 8 = .ok (.iastore, 1) := by decide +kernel
theorem dX11_satNow_9 : decode cX11_satNow 9 = .ok (.aload_n 0, 1) := by decide +kernel
theorem dX11_satNow_10 : decode cX11_satNow 10 = .ok (.getfield 13, 3) := by decide +kernel
theorem dX11_satNow_13 : decode cX11_satNow 13 = .ok (.iconst 5, 1) := by decide +kernel
theorem dX11_satNow_14 : decode cX11_satNow 14 = .ok (.iload_n 1, 1) := by decide +kernel
theorem dX11_satNow_15 : decode cX11_satNow 15 = .ok (.imul, 1) := by decide +kernel
theorem dX11_satNow_16 : decode cX11_satNow 16 = .ok (.iconst 1, 1) := by decide +kernel
theorem dX11_satNow_17 : decode cX11_satNow 17 = .ok (.iadd, 1) := by decide +kernel
theorem dX11_satNow_18 : decode cX11_satNow 18 = .ok (.iload_n 3, 1) := by decide +kernel
theorem dX11_satNow_19 : decode cX11_satNow 19 = .ok (.iastore, 1) := by decide +kernel
theorem dX11_satNow_20 : decode cX11_satNow 20 = .ok (.aload_n 0, 1) := by decide +kernel
theorem dX11_satNow_21 : decode cX11_satNow 21 = .ok (.getfield 13, 3) := by decide +kernel
theorem dX11_satNow_24 : decode cX11_satNow 24 = .ok (.iconst 5, 1) := by decide +kernel
theorem dX11_satNow_25 : decode cX11_satNow 25 = .ok (.iload_n 1, 1) := by decide +kernel
theorem dX11_satNow_26 : decode cX11_satNow 26 = .ok (.imul, 1) := by decide +kernel
theorem dX11_satNow_27 : decode cX11_satNow 27 = .ok (.iconst 2, 1) := by decide +kernel
theorem dX11_satNow_28 : decode cX11_satNow 28 = .ok (.iadd, 1) := by decide +kernel
theorem dX11_satNow_29 : decode cX11_satNow 29 = .ok (.iload 4, 2) := by decide +kernel
theorem dX11_satNow_31 : decode cX11_satNow 31 = .ok (.iastore, 1) := by decide +kernel
theorem dX11_satNow_32 : decode cX11_satNow 32 = .ok (.aload_n 0, 1) := by decide +kernel
theorem dX11_satNow_33 : decode cX11_satNow 33 = .ok (.getfield 13, 3) := by decide +kernel
theorem dX11_satNow_36 : decode cX11_satNow 36 = .ok (.iconst 5, 1) := by decide +kernel
theorem dX11_satNow_37 : decode cX11_satNow 37 = .ok (.iload_n 1, 1) := by decide +kernel
theorem dX11_satNow_38 : decode cX11_satNow 38 = .ok (.imul, 1) := by decide +kernel
theorem dX11_satNow_39 : decode cX11_satNow 39 = .ok (.iconst 3, 1) := by decide +kernel
theorem dX11_satNow_40 : decode cX11_satNow 40 = .ok (.iadd, 1) := by decide +kernel
theorem dX11_satNow_41 : decode cX11_satNow 41 = .ok (.iload 5, 2) := by decide +kernel
theorem dX11_satNow_43 : decode cX11_satNow 43 = .ok (.iastore, 1) := by decide +kernel
theorem dX11_satNow_44 : decode cX11_satNow 44 = .ok (.aload_n 0, 1) := by decide +kernel
theorem dX11_satNow_45 : decode cX11_satNow 45 = .ok (.getfield 13, 3) := by decide +kernel
theorem dX11_satNow_48 : decode cX11_satNow 48 = .ok (.iconst 5, 1) := by decide +kernel
theorem dX11_satNow_49 : decode cX11_satNow 49 = .ok (.iload_n 1, 1) := by decide +kernel
theorem dX11_satNow_50 : decode cX11_satNow 50 = .ok (.imul, 1) := by decide +kernel
theorem dX11_satNow_51 : decode cX11_satNow 51 = .ok (.iconst 4, 1) := by decide +kernel
theorem dX11_satNow_52 : decode cX11_satNow 52 = .ok (.iadd, 1) := by decide +kernel
theorem dX11_satNow_53 : decode cX11_satNow 53 = .ok (.iload 6, 2) := by decide +kernel
theorem dX11_satNow_55 : decode cX11_satNow 55 = .ok (.iastore, 1) := by decide +kernel
theorem dX11_satNow_56 : decode cX11_satNow 56 = .ok (.return_, 1) := by decide +kernel
theorem dX11_in_0 : decode cX11_in 0 = .ok (.lload_n 0, 1) := by decide +kernel
theorem dX11_in_1 : decode cX11_in 1 = .ok (.lload_n 2, 1) := by decide +kernel
theorem dX11_in_2 : decode cX11_in 2 = .ok (.lcmp, 1) := by decide +kernel
theorem dX11_in_3 : decode cX11_in 3 = .ok (.ifCond .lt 14, 3) := by decide +kernel
theorem dX11_in_6 : decode cX11_in 6 = .ok (.lload_n 0, 1) := by decide +kernel
theorem dX11_in_7 : decode cX11_in 7 = .ok (.lload 4, 2) := by decide +kernel
theorem dX11_in_9 : decode cX11_in 9 = .ok (.lcmp, 1) := by decide +kernel
theorem dX11_in_10 : decode cX11_in 10 = .ok (.ifCond .gt 7, 3) := by decide +kernel
theorem dX11_in_13 : decode cX11_in 13 = .ok (.iconst 1, 1) := by decide +kernel
theorem dX11_in_14 : decode cX11_in 14 = .ok (.goto 4, 3) := by decide +kernel
theorem dX11_in_17 : decode cX11_in 17 = .ok (.iconst 0, 1) := by decide +kernel
theorem dX11_in_18 : decode cX11_in 18 = .ok (.ireturn, 1) := by decide +kernel
theorem dX11_write_0 : decode cX11_write 0 = .ok (.iload_n 1, 1) := by decide +kernel
theorem dX11_write_1 : decode cX11_write 1 = .ok (.i2l, 1) := by decide +kernel
theorem dX11_write_2 : decode cX11_write 2 = .ok (.ldc2_w 89, 3) := by decide +kernel
theorem dX11_write_5 : decode cX11_write 5 = .ok (.ldc2_w 91, 3) := by decide +kernel
theorem dX11_write_8 : decode cX11_write 8 = .ok (.invokestatic 93, 3) := by decide +kernel
theorem dX11_write_11 : decode cX11_write 11 = .ok (.ifCond .ne 5, 3) := by decide +kernel
theorem dX11_write_14 : decode cX11_write 14 = .ok (.iconst (-1), 1) := by decide +kernel
theorem dX11_write_15 : decode cX11_write 15 = .ok (.ireturn, 1) := by decide +kernel
theorem dX11_write_16 : decode cX11_write 16 = .ok (.aload_n 0, 1) := by decide +kernel
theorem dX11_write_17 : decode cX11_write 17 = .ok (.getfield 97, 3) := by decide +kernel
theorem dX11_write_20 : decode cX11_write 20 = .ok (.sipush 200, 3) := by decide +kernel
theorem dX11_write_23 : decode cX11_write 23 = .ok (.if_icmp .ne 6, 3) := by decide +kernel
theorem dX11_write_26 : decode cX11_write 26 = .ok (.bipush (-3), 2) := by decide +kernel
theorem dX11_write_28 : decode cX11_write 28 = .ok (.ireturn, 1) := by decide +kernel
theorem dX11_write_29 : decode cX11_write 29 = .ok (.aload_n 0, 1) := by decide +kernel
theorem dX11_write_30 : decode cX11_write 30 = .ok (.getfield 7, 3) := by decide +kernel
theorem dX11_write_33 : decode cX11_write 33 = .ok (.aload_n 0, 1) := by decide +kernel
theorem dX11_write_34 : decode cX11_write 34 = .ok (.getfield 97, 3) := by decide +kernel
theorem dX11_write_37 : decode cX11_write 37 = .ok (.iload_n 1, 1) := by decide +kernel
theorem dX11_write_38 : decode cX11_write 38 = .ok (.iastore, 1) := by decide +kernel
theorem dX11_write_39 : decode cX11_write 39 = .ok (.aload_n 0, 1) := by decide +kernel
theorem dX11_write_40 : decode cX11_write 40 = .ok (.dup, 1) := by decide +kernel
theorem dX11_write_41 : decode cX11_write 41 = .ok (.getfield 97, 3) := by decide +kernel
theorem dX11_write_44 : decode cX11_write 44 = .ok (.iconst 1, 1) := by decide +kernel
theorem dX11_write_45 : decode cX11_write 45 = .ok (.iadd, 1) := by decide +kernel
theorem dX11_write_46 : decode cX11_write 46 = .ok (.putfield 97, 3) := by decide +kernel
theorem dX11_write_49 : decode cX11_write 49 = .ok (.aload_n 0, 1) := by decide +kernel
theorem dX11_write_50 : decode cX11_write 50 = .ok (.getfield 97, 3) := by decide +kernel
theorem dX11_write_53 : decode cX11_write 53 = .ok (.ireturn, 1) := by decide +kernel
theorem dX11_wipe_0 : decode cX11_wipe 0 = .ok (.aload_n 0, 1) := by decide +kernel
theorem dX11_wipe_1 : decode cX11_wipe 1 = .ok (.getfield 97, 3) := by decide +kernel
theorem dX11_wipe_4 : decode cX11_wipe 4 = .ok (.istore_n 1, 1) := by decide +kernel
theorem dX11_wipe_5 : decode cX11_wipe 5 = .ok (.aload_n 0, 1) := by decide +kernel
theorem dX11_wipe_6 : decode cX11_wipe 6 = .ok (.iconst 0, 1) := by decide +kernel
theorem dX11_wipe_7 : decode cX11_wipe 7 = .ok (.putfield 97, 3) := by decide +kernel
theorem dX11_wipe_10 : decode cX11_wipe 10 = .ok (.iload_n 1, 1) := by decide +kernel
theorem dX11_wipe_11 : decode cX11_wipe 11 = .ok (.ireturn, 1) := by decide +kernel
theorem dX11_byteAt_0 : decode cX11_byteAt 0 = .ok (.iload_n 1, 1) := by decide +kernel
theorem dX11_byteAt_1 : decode cX11_byteAt 1 = .ok (.aload_n 0, 1) := by decide +kernel
theorem dX11_byteAt_2 : decode cX11_byteAt 2 = .ok (.getfield 97, 3) := by decide +kernel
theorem dX11_byteAt_5 : decode cX11_byteAt 5 = .ok (.if_icmp .ge 12, 3) := by decide +kernel
theorem dX11_byteAt_8 : decode cX11_byteAt 8 = .ok (.aload_n 0, 1) := by decide +kernel
theorem dX11_byteAt_9 : decode cX11_byteAt 9 = .ok (.getfield 7, 3) := by decide +kernel
theorem dX11_byteAt_12 : decode cX11_byteAt 12 = .ok (.iload_n 1, 1) := by decide +kernel
theorem dX11_byteAt_13 : decode cX11_byteAt 13 = .ok (.iaload, 1) := by decide +kernel
theorem dX11_byteAt_14 : decode cX11_byteAt 14 = .ok (.goto 4, 3) := by decide +kernel
theorem dX11_byteAt_17 : decode cX11_byteAt 17 = .ok (.iconst 0, 1) := by decide +kernel
theorem dX11_byteAt_18 : decode cX11_byteAt 18 = .ok (.ireturn, 1) := by decide +kernel
theorem dX11_number_0 : decode cX11_number 0 = .ok (.iload_n 1, 1) := by decide +kernel
theorem dX11_number_1 : decode cX11_number 1 = .ok (.ifCond .le 27, 3) := by decide +kernel
theorem dX11_number_4 : decode cX11_number 4 = .ok (.aload_n 0, 1) := by decide +kernel
theorem dX11_number_5 : decode cX11_number 5 = .ok (.aload_n 0, 1) := by decide +kernel
theorem dX11_number_6 : decode cX11_number 6 = .ok (.getfield 101, 3) := by decide +kernel
theorem dX11_number_9 : decode cX11_number 9 = .ok (.invokevirtual 104, 3) := by decide +kernel
theorem dX11_number_12 : decode cX11_number 12 = .ok (.iload_n 1, 1) := by decide +kernel
theorem dX11_number_13 : decode cX11_number 13 = .ok (.if_icmp .eq 5, 3) := by decide +kernel
theorem dX11_number_16 : decode cX11_number 16 = .ok (.iconst 0, 1) := by decide +kernel
theorem dX11_number_17 : decode cX11_number 17 = .ok (.ireturn, 1) := by decide +kernel
theorem dX11_number_18 : decode cX11_number 18 = .ok (.aload_n 0, 1) := by decide +kernel
theorem dX11_number_19 : decode cX11_number 19 = .ok (.dup, 1) := by decide +kernel
theorem dX11_number_20 : decode cX11_number 20 = .ok (.getfield 101, 3) := by decide +kernel
theorem dX11_number_23 : decode cX11_number 23 = .ok (.iconst 1, 1) := by decide +kernel
theorem dX11_number_24 : decode cX11_number 24 = .ok (.iadd, 1) := by decide +kernel
theorem dX11_number_25 : decode cX11_number 25 = .ok (.putfield 101, 3) := by decide +kernel
theorem dX11_number_28 : decode cX11_number 28 = .ok (.iconst 0, 1) := by decide +kernel
theorem dX11_number_29 : decode cX11_number 29 = .ok (.istore 6, 2) := by decide +kernel
theorem dX11_number_31 : decode cX11_number 31 = .ok (.iconst 0, 1) := by decide +kernel
theorem dX11_number_32 : decode cX11_number 32 = .ok (.istore 7, 2) := by decide +kernel
theorem dX11_number_34 : decode cX11_number 34 = .ok (.iload 7, 2) := by decide +kernel
theorem dX11_number_36 : decode cX11_number 36 = .ok (.iconst 2, 1) := by decide +kernel
theorem dX11_number_37 : decode cX11_number 37 = .ok (.if_icmp .ge 59, 3) := by decide +kernel
theorem dX11_number_40 : decode cX11_number 40 = .ok (.aload_n 0, 1) := by decide +kernel
theorem dX11_number_41 : decode cX11_number 41 = .ok (.aload_n 0, 1) := by decide +kernel
theorem dX11_number_42 : decode cX11_number 42 = .ok (.getfield 101, 3) := by decide +kernel
theorem dX11_number_45 : decode cX11_number 45 = .ok (.invokevirtual 104, 3) := by decide +kernel
theorem dX11_number_48 : decode cX11_number 48 = .ok (.i2l, 1) := by decide +kernel
theorem dX11_number_49 : decode cX11_number 49 = .ok (.ldc2_w 108, 3) := by decide +kernel
theorem dX11_number_52 : decode cX11_number 52 = .ok (.ldc2_w 110, 3) := by decide +kernel
theorem dX11_number_55 : decode cX11_number 55 = .ok (.invokestatic 93, 3) := by decide +kernel
theorem dX11_number_58 : decode cX11_number 58 = .ok (.ifCond .eq 38, 3) := by decide +kernel
theorem dX11_number_61 : decode cX11_number 61 = .ok (.bipush 10, 2) := by decide +kernel
theorem dX11_number_63 : decode cX11_number 63 = .ok (.iload 6, 2) := by decide +kernel
theorem dX11_number_65 : decode cX11_number 65 = .ok (.imul, 1) := by decide +kernel
theorem dX11_number_66 : decode cX11_number 66 = .ok (.aload_n 0, 1) := by decide +kernel
theorem dX11_number_67 : decode cX11_number 67 = .ok (.aload_n 0, 1) := by decide +kernel
theorem dX11_number_68 : decode cX11_number 68 = .ok (.getfield 101, 3) := by decide +kernel
theorem dX11_number_71 : decode cX11_number 71 = .ok (.invokevirtual 104, 3) := by decide +kernel
theorem dX11_number_74 : decode cX11_number 74 = .ok (.iadd, 1) := by decide +kernel
theorem dX11_number_75 : decode cX11_number 75 = .ok (.bipush 48, 2) := by decide +kernel
theorem dX11_number_77 : decode cX11_number 77 = .ok (.isub, 1) := by decide +kernel
theorem dX11_number_78 : decode cX11_number 78 = .ok (.istore 6, 2) := by decide +kernel
theorem dX11_number_80 : decode cX11_number 80 = .ok (.aload_n 0, 1) := by decide +kernel
theorem dX11_number_81 : decode cX11_number 81 = .ok (.dup, 1) := by decide +kernel
theorem dX11_number_82 : decode cX11_number 82 = .ok (.getfield 101, 3) := by decide +kernel
theorem dX11_number_85 : decode cX11_number 85 = .ok (.iconst 1, 1) := by decide +kernel
theorem dX11_number_86 : decode cX11_number 86 = .ok (.iadd, 1) := by decide +kernel
theorem dX11_number_87 : decode cX11_number 87 = .ok (.putfield 101, 3) := by decide +kernel
theorem dX11_number_90 : decode cX11_number 90 = .ok (.iinc 7 1, 3) := by decide +kernel
theorem dX11_number_93 : decode cX11_number 93 = .ok (.goto (-59), 3) := by decide +kernel
theorem dX11_number_96 : decode cX11_number 96 = .ok (.aload 4, 2) := by decide +kernel
theorem dX11_number_98 : decode cX11_number 98 = .ok (.iload 5, 2) := by decide +kernel
theorem dX11_number_100 : decode cX11_number 100 = .ok (.iload 6, 2) := by decide +kernel
theorem dX11_number_102 : decode cX11_number 102 = .ok (.iastore, 1) := by decide +kernel
theorem dX11_number_103 : decode cX11_number 103 = .ok (.iload 7, 2) := by decide +kernel
theorem dX11_number_105 : decode cX11_number 105 = .ok (.ifCond .le 20, 3) := by decide +kernel
theorem dX11_number_108 : decode cX11_number 108 = .ok (.iload 6, 2) := by decide +kernel
theorem dX11_number_110 : decode cX11_number 110 = .ok (.i2l, 1) := by decide +kernel
theorem dX11_number_111 : decode cX11_number 111 = .ok (.iload_n 2, 1) := by decide +kernel
theorem dX11_number_112 : decode cX11_number 112 = .ok (.i2l, 1) := by decide +kernel
theorem dX11_number_113 : decode cX11_number 113 = .ok (.iload_n 3, 1) := by decide +kernel
theorem dX11_number_114 : decode cX11_number 114 = .ok (.i2l, 1) := by decide +kernel
theorem dX11_number_115 : decode cX11_number 115 = .ok (.invokestatic 93, 3) := by decide +kernel
theorem dX11_number_118 : decode cX11_number 118 = .ok (.ifCond .eq 7, 3) := by decide +kernel
theorem dX11_number_121 : decode cX11_number 121 = .ok (.iconst 1, 1) := by decide +kernel
theorem dX11_number_122 : decode cX11_number 122 = .ok (.goto 4, 3) := by decide +kernel
theorem dX11_number_125 : decode cX11_number 125 = .ok (.iconst 0, 1) := by decide +kernel
theorem dX11_number_126 : decode cX11_number 126 = .ok (.ireturn, 1) := by decide +kernel
theorem dX11_item_0 : decode cX11_item 0 = .ok (.iload_n 1, 1) := by decide +kernel
theorem dX11_item_1 : decode cX11_item 1 = .ok (.bipush 115, 2) := by decide +kernel
theorem dX11_item_3 : decode cX11_item 3 = .ok (.if_icmp .ne 7, 3) := by decide +kernel
theorem dX11_item_6 : decode cX11_item 6 = .ok (.iconst 0, 1) := by decide +kernel
theorem dX11_item_7 : decode cX11_item 7 = .ok (.goto 24, 3) := by decide +kernel
theorem dX11_item_10 : decode cX11_item 10 = .ok (.iload_n 1, 1) := by decide +kernel
theorem dX11_item_11 : decode cX11_item 11 = .ok (.bipush 103, 2) := by decide +kernel
theorem dX11_item_13 : decode cX11_item 13 = .ok (.if_icmp .ne 7, 3) := by decide +kernel
theorem dX11_item_16 : decode cX11_item 16 = .ok (.iconst 1, 1) := by decide +kernel
theorem dX11_item_17 : decode cX11_item 17 = .ok (.goto 14, 3) := by decide +kernel
theorem dX11_item_20 : decode cX11_item 20 = .ok (.iload_n 1, 1) := by decide +kernel
theorem dX11_item_21 : decode cX11_item 21 = .ok (.bipush 97, 2) := by decide +kernel
theorem dX11_item_23 : decode cX11_item 23 = .ok (.if_icmp .ne 7, 3) := by decide +kernel
theorem dX11_item_26 : decode cX11_item 26 = .ok (.iconst 2, 1) := by decide +kernel
theorem dX11_item_27 : decode cX11_item 27 = .ok (.goto 4, 3) := by decide +kernel
theorem dX11_item_30 : decode cX11_item 30 = .ok (.iconst 3, 1) := by decide +kernel
theorem dX11_item_31 : decode cX11_item 31 = .ok (.istore_n 2, 1) := by decide +kernel
theorem dX11_item_32 : decode cX11_item 32 = .ok (.iload_n 2, 1) := by decide +kernel
theorem dX11_item_33 : decode cX11_item 33 = .ok (.iconst 3, 1) := by decide +kernel
theorem dX11_item_34 : decode cX11_item 34 = .ok (.if_icmp .eq 22, 3) := by decide +kernel
theorem dX11_item_37 : decode cX11_item 37 = .ok (.aload_n 0, 1) := by decide +kernel
theorem dX11_item_38 : decode cX11_item 38 = .ok (.getfield 34, 3) := by decide +kernel
theorem dX11_item_41 : decode cX11_item 41 = .ok (.iload_n 2, 1) := by decide +kernel
theorem dX11_item_42 : decode cX11_item 42 = .ok (.iaload, 1) := by decide +kernel
theorem dX11_item_43 : decode cX11_item 43 = .ok (.iload_n 2, 1) := by decide +kernel
theorem dX11_item_44 : decode cX11_item 44 = .ok (.iconst 1, 1) := by decide +kernel
theorem dX11_item_45 : decode cX11_item 45 = .ok (.if_icmp .ne 7, 3) := by decide +kernel
theorem dX11_item_48 : decode cX11_item 48 = .ok (.iconst 3, 1) := by decide +kernel
theorem dX11_item_49 : decode cX11_item 49 = .ok (.goto 4, 3) := by decide +kernel
theorem dX11_item_52 : decode cX11_item 52 = .ok (.iconst 4, 1) := by decide +kernel
theorem dX11_item_53 : decode cX11_item 53 = .ok (.if_icmp .ne 5, 3) := by decide +kernel
theorem dX11_item_56 : decode cX11_item 56 = .ok (.iconst 0, 1) := by decide +kernel
theorem dX11_item_57 : decode cX11_item 57 = .ok (.ireturn, 1) := by decide +kernel
theorem dX11_item_58 : decode cX11_item 58 = .ok (.aload_n 0, 1) := by decide +kernel
theorem dX11_item_59 : decode cX11_item 59 = .ok (.getfield 34, 3) := by decide +kernel
theorem dX11_item_62 : decode cX11_item 62 = .ok (.iload_n 2, 1) := by decide +kernel
theorem dX11_item_63 : decode cX11_item 63 = .ok (.iaload, 1) := by decide +kernel
theorem dX11_item_64 : decode cX11_item 64 = .ok (.istore_n 3, 1) := by decide +kernel
theorem dX11_item_65 : decode cX11_item 65 = .ok (.aload_n 0, 1) := by decide +kernel
theorem dX11_item_66 : decode cX11_item 66 = .ok (.getfield 34, 3) := by decide +kernel
theorem dX11_item_69 : decode cX11_item 69 = .ok (.iload_n 2, 1) := by decide +kernel
theorem dX11_item_70 : decode cX11_item 70 = .ok (.dup2, 1) := by decide +kernel
theorem dX11_item_71 : decode cX11_item 71 = .ok (.iaload, 1) := by decide +kernel
theorem dX11_item_72 : decode cX11_item 72 = .ok (.iconst 1, 1) := by decide +kernel
theorem dX11_item_73 : decode cX11_item 73 = .ok (.iadd, 1) := by decide +kernel
theorem dX11_item_74 : decode cX11_item 74 = .ok (.iastore, 1) := by decide +kernel
theorem dX11_item_75 : decode cX11_item 75 = .ok (.iload_n 2, 1) := by decide +kernel
theorem dX11_item_76 : decode cX11_item 76 = .ok (.lookupswitch 181 #[(0, 28), (1, 136)], 28) := by decide +kernel
theorem dX11_item_104 : decode cX11_item 104 = .ok (.aload_n 0, 1) := by decide +kernel
theorem dX11_item_105 : decode cX11_item 105 = .ok (.iconst 0, 1) := by decide +kernel
theorem dX11_item_106 : decode cX11_item 106 = .ok (.iconst 0, 1) := by decide +kernel
theorem dX11_item_107 : decode cX11_item 107 = .ok (.bipush 59, 2) := by decide +kernel
theorem dX11_item_109 : decode cX11_item 109 = .ok (.aload_n 0, 1) := by decide +kernel
theorem dX11_item_110 : decode cX11_item 110 = .ok (.getfield 25, 3) := by decide +kernel
theorem dX11_item_113 : decode cX11_item 113 = .ok (.iconst 5, 1) := by decide +kernel
theorem dX11_item_114 : decode cX11_item 114 = .ok (.iload_n 3, 1) := by decide +kernel
theorem dX11_item_115 : decode cX11_item 115 = .ok (.imul, 1) := by decide +kernel
theorem dX11_item_116 : decode cX11_item 116 = .ok (.invokevirtual 112, 3) := by decide +kernel
theorem dX11_item_119 : decode cX11_item 119 = .ok (.ifCond .eq 91, 3) := by decide +kernel
theorem dX11_item_122 : decode cX11_item 122 = .ok (.aload_n 0, 1) := by decide +kernel
theorem dX11_item_123 : decode cX11_item 123 = .ok (.bipush 44, 2) := by decide +kernel
theorem dX11_item_125 : decode cX11_item 125 = .ok (.bipush 6, 2) := by decide +kernel
theorem dX11_item_127 : decode cX11_item 127 = .ok (.bipush 60, 2) := by decide +kernel
theorem dX11_item_129 : decode cX11_item 129 = .ok (.aload_n 0, 1) := by decide +kernel
theorem dX11_item_130 : decode cX11_item 130 = .ok (.getfield 25, 3) := by decide +kernel
theorem dX11_item_133 : decode cX11_item 133 = .ok (.iconst 5, 1) := by decide +kernel
theorem dX11_item_134 : decode cX11_item 134 = .ok (.iload_n 3, 1) := by decide +kernel
theorem dX11_item_135 : decode cX11_item 135 = .ok (.imul, 1) := by decide +kernel
theorem dX11_item_136 : decode cX11_item 136 = .ok (.iconst 1, 1) := by decide +kernel
theorem dX11_item_137 : decode cX11_item 137 = .ok (.iadd, 1) := by decide +kernel
theorem dX11_item_138 : decode cX11_item 138 = .ok (.invokevirtual 112, 3) := by decide +kernel
theorem dX11_item_141 : decode cX11_item 141 = .ok (.ifCond .eq 69, 3) := by decide +kernel
theorem dX11_item_144 : decode cX11_item 144 = .ok (.aload_n 0, 1) := by decide +kernel
theorem dX11_item_145 : decode cX11_item 145 = .ok (.bipush 44, 2) := by decide +kernel
theorem dX11_item_147 : decode cX11_item 147 = .ok (.iconst 0, 1) := by decide +kernel
theorem dX11_item_148 : decode cX11_item 148 = .ok (.iconst 1, 1) := by decide +kernel
theorem dX11_item_149 : decode cX11_item 149 = .ok (.aload_n 0, 1) := by decide +kernel
theorem dX11_item_150 : decode cX11_item 150 = .ok (.getfield 25, 3) := by decide +kernel
theorem dX11_item_153 : decode cX11_item 153 = .ok (.iconst 5, 1) := by decide +kernel
theorem dX11_item_154 : decode cX11_item 154 = .ok (.iload_n 3, 1) := by decide +kernel
theorem dX11_item_155 : decode cX11_item 155 = .ok (.imul, 1) := by decide +kernel
theorem dX11_item_156 : decode cX11_item 156 = .ok (.iconst 2, 1) := by decide +kernel
theorem dX11_item_157 : decode cX11_item 157 = .ok (.iadd, 1) := by decide +kernel
theorem dX11_item_158 : decode cX11_item 158 = .ok (.invokevirtual 112, 3) := by decide +kernel
theorem dX11_item_161 : decode cX11_item 161 = .ok (.ifCond .eq 49, 3) := by decide +kernel
theorem dX11_item_164 : decode cX11_item 164 = .ok (.aload_n 0, 1) := by decide +kernel
theorem dX11_item_165 : decode cX11_item 165 = .ok (.bipush 44, 2) := by decide +kernel
theorem dX11_item_167 : decode cX11_item 167 = .ok (.iconst 1, 1) := by decide +kernel
theorem dX11_item_168 : decode cX11_item 168 = .ok (.bipush 99, 2) := by decide +kernel
theorem dX11_item_170 : decode cX11_item 170 = .ok (.aload_n 0, 1) := by decide +kernel
theorem dX11_item_171 : decode cX11_item 171 = .ok (.getfield 25, 3) := by decide +kernel
theorem dX11_item_174 : decode cX11_item 174 = .ok (.iconst 5, 1) := by decide +kernel
theorem dX11_item_175 : decode cX11_item 175 = .ok (.iload_n 3, 1) := by decide +kernel
theorem dX11_item_176 : decode cX11_item 176 = .ok (.imul, 1) := by decide +kernel
theorem dX11_item_177 : decode cX11_item 177 = .ok (.iconst 3, 1) := by decide +kernel
theorem dX11_item_178 : decode cX11_item 178 = .ok (.iadd, 1) := by decide +kernel
theorem dX11_item_179 : decode cX11_item 179 = .ok (.invokevirtual 112, 3) := by decide +kernel
theorem dX11_item_182 : decode cX11_item 182 = .ok (.ifCond .eq 28, 3) := by decide +kernel
theorem dX11_item_185 : decode cX11_item 185 = .ok (.aload_n 0, 1) := by decide +kernel
theorem dX11_item_186 : decode cX11_item 186 = .ok (.bipush 44, 2) := by decide +kernel
theorem dX11_item_188 : decode cX11_item 188 = .ok (.iconst 0, 1) := by decide +kernel
theorem dX11_item_189 : decode cX11_item 189 = .ok (.bipush 9, 2) := by decide +kernel
theorem dX11_item_191 : decode cX11_item 191 = .ok (.aload_n 0, 1) := by decide +kernel
theorem dX11_item_192 : decode cX11_item 192 = .ok (.getfield 25, 3) := by decide +kernel
theorem dX11_item_195 : decode cX11_item 195 = .ok (.iconst 5, 1) := by decide +kernel
theorem dX11_item_196 : decode cX11_item 196 = .ok (.iload_n 3, 1) := by decide +kernel
theorem dX11_item_197 : decode cX11_item 197 = .ok (.imul, 1) := by decide +kernel
theorem dX11_item_198 : decode cX11_item 198 = .ok (.iconst 4, 1) := by decide +kernel
theorem dX11_item_199 : decode cX11_item 199 = .ok (.iadd, 1) := by decide +kernel
theorem dX11_item_200 : decode cX11_item 200 = .ok (.invokevirtual 112, 3) := by decide +kernel
theorem dX11_item_203 : decode cX11_item 203 = .ok (.ifCond .eq 7, 3) := by decide +kernel
theorem dX11_item_206 : decode cX11_item 206 = .ok (.iconst 1, 1) := by decide +kernel
theorem dX11_item_207 : decode cX11_item 207 = .ok (.goto 4, 3) := by decide +kernel
theorem dX11_item_210 : decode cX11_item 210 = .ok (.iconst 0, 1) := by decide +kernel
theorem dX11_item_211 : decode cX11_item 211 = .ok (.ireturn, 1) := by decide +kernel
theorem dX11_item_212 : decode cX11_item 212 = .ok (.aload_n 0, 1) := by decide +kernel
theorem dX11_item_213 : decode cX11_item 213 = .ok (.iconst 0, 1) := by decide +kernel
theorem dX11_item_214 : decode cX11_item 214 = .ok (.iconst 0, 1) := by decide +kernel
theorem dX11_item_215 : decode cX11_item 215 = .ok (.bipush 59, 2) := by decide +kernel
theorem dX11_item_217 : decode cX11_item 217 = .ok (.aload_n 0, 1) := by decide +kernel
theorem dX11_item_218 : decode cX11_item 218 = .ok (.getfield 28, 3) := by decide +kernel
theorem dX11_item_221 : decode cX11_item 221 = .ok (.iconst 2, 1) := by decide +kernel
theorem dX11_item_222 : decode cX11_item 222 = .ok (.iload_n 3, 1) := by decide +kernel
theorem dX11_item_223 : decode cX11_item 223 = .ok (.imul, 1) := by decide +kernel
theorem dX11_item_224 : decode cX11_item 224 = .ok (.invokevirtual 112, 3) := by decide +kernel
theorem dX11_item_227 : decode cX11_item 227 = .ok (.ifCond .eq 28, 3) := by decide +kernel
theorem dX11_item_230 : decode cX11_item 230 = .ok (.aload_n 0, 1) := by decide +kernel
theorem dX11_item_231 : decode cX11_item 231 = .ok (.bipush 44, 2) := by decide +kernel
theorem dX11_item_233 : decode cX11_item 233 = .ok (.iconst 1, 1) := by decide +kernel
theorem dX11_item_234 : decode cX11_item 234 = .ok (.bipush 9, 2) := by decide +kernel
theorem dX11_item_236 : decode cX11_item 236 = .ok (.aload_n 0, 1) := by decide +kernel
theorem dX11_item_237 : decode cX11_item 237 = .ok (.getfield 28, 3) := by decide +kernel
theorem dX11_item_240 : decode cX11_item 240 = .ok (.iconst 2, 1) := by decide +kernel
theorem dX11_item_241 : decode cX11_item 241 = .ok (.iload_n 3, 1) := by decide +kernel
theorem dX11_item_242 : decode cX11_item 242 = .ok (.imul, 1) := by decide +kernel
theorem dX11_item_243 : decode cX11_item 243 = .ok (.iconst 1, 1) := by decide +kernel
theorem dX11_item_244 : decode cX11_item 244 = .ok (.iadd, 1) := by decide +kernel
theorem dX11_item_245 : decode cX11_item 245 = .ok (.invokevirtual 112, 3) := by decide +kernel
theorem dX11_item_248 : decode cX11_item 248 = .ok (.ifCond .eq 7, 3) := by decide +kernel
theorem dX11_item_251 : decode cX11_item 251 = .ok (.iconst 1, 1) := by decide +kernel
theorem dX11_item_252 : decode cX11_item 252 = .ok (.goto 4, 3) := by decide +kernel
theorem dX11_item_255 : decode cX11_item 255 = .ok (.iconst 0, 1) := by decide +kernel
theorem dX11_item_256 : decode cX11_item 256 = .ok (.ireturn, 1) := by decide +kernel
theorem dX11_item_257 : decode cX11_item 257 = .ok (.aload_n 0, 1) := by decide +kernel
theorem dX11_item_258 : decode cX11_item 258 = .ok (.iconst 0, 1) := by decide +kernel
theorem dX11_item_259 : decode cX11_item 259 = .ok (.iconst 0, 1) := by decide +kernel
theorem dX11_item_260 : decode cX11_item 260 = .ok (.aload_n 0, 1) := by decide +kernel
theorem dX11_item_261 : decode cX11_item 261 = .ok (.getfield 34, 3) := by decide +kernel
theorem dX11_item_264 : decode cX11_item 264 = .ok (.iconst 1, 1) := by decide +kernel
theorem dX11_item_265 : decode cX11_item 265 = .ok (.iaload, 1) := by decide +kernel
theorem dX11_item_266 : decode cX11_item 266 = .ok (.iconst 1, 1) := by decide +kernel
theorem dX11_item_267 : decode cX11_item 267 = .ok (.isub, 1) := by decide +kernel
theorem dX11_item_268 : decode cX11_item 268 = .ok (.aload_n 0, 1) := by decide +kernel
theorem dX11_item_269 : decode cX11_item 269 = .ok (.getfield 31, 3) := by decide +kernel
theorem dX11_item_272 : decode cX11_item 272 = .ok (.iconst 3, 1) := by decide +kernel
theorem dX11_item_273 : decode cX11_item 273 = .ok (.iload_n 3, 1) := by decide +kernel
theorem dX11_item_274 : decode cX11_item 274 = .ok (.imul, 1) := by decide +kernel
theorem dX11_item_275 : decode cX11_item 275 = .ok (.invokevirtual 112, 3) := by decide +kernel
theorem dX11_item_278 : decode cX11_item 278 = .ok (.ifCond .eq 47, 3) := by decide +kernel
theorem dX11_item_281 : decode cX11_item 281 = .ok (.aload_n 0, 1) := by decide +kernel
theorem dX11_item_282 : decode cX11_item 282 = .ok (.bipush 44, 2) := by decide +kernel
theorem dX11_item_284 : decode cX11_item 284 = .ok (.iconst 0, 1) := by decide +kernel
theorem dX11_item_285 : decode cX11_item 285 = .ok (.iconst 2, 1) := by decide +kernel
theorem dX11_item_286 : decode cX11_item 286 = .ok (.aload_n 0, 1) := by decide +kernel
theorem dX11_item_287 : decode cX11_item 287 = .ok (.getfield 31, 3) := by decide +kernel
theorem dX11_item_290 : decode cX11_item 290 = .ok (.iconst 3, 1) := by decide +kernel
theorem dX11_item_291 : decode cX11_item 291 = .ok (.iload_n 3, 1) := by decide +kernel
theorem dX11_item_292 : decode cX11_item 292 = .ok (.imul, 1) := by decide +kernel
theorem dX11_item_293 : decode cX11_item 293 = .ok (.iconst 1, 1) := by decide +kernel
theorem dX11_item_294 : decode cX11_item 294 = .ok (.iadd, 1) := by decide +kernel
theorem dX11_item_295 : decode cX11_item 295 = .ok (.invokevirtual 112, 3) := by decide +kernel
theorem dX11_item_298 : decode cX11_item 298 = .ok (.ifCond .eq 27, 3) := by decide +kernel
theorem dX11_item_301 : decode cX11_item 301 = .ok (.aload_n 0, 1) := by decide +kernel
theorem dX11_item_302 : decode cX11_item 302 = .ok (.bipush 44, 2) := by decide +kernel
theorem dX11_item_304 : decode cX11_item 304 = .ok (.iconst 0, 1) := by decide +kernel
theorem dX11_item_305 : decode cX11_item 305 = .ok (.iconst 5, 1) := by decide +kernel
theorem dX11_item_306 : decode cX11_item 306 = .ok (.aload_n 0, 1) := by decide +kernel
theorem dX11_item_307 : decode cX11_item 307 = .ok (.getfield 31, 3) := by decide +kernel
theorem dX11_item_310 : decode cX11_item 310 = .ok (.iconst 3, 1) := by decide +kernel
theorem dX11_item_311 : decode cX11_item 311 = .ok (.iload_n 3, 1) := by decide +kernel
theorem dX11_item_312 : decode cX11_item 312 = .ok (.imul, 1) := by decide +kernel
theorem dX11_item_313 : decode cX11_item 313 = .ok (.iconst 2, 1) := by decide +kernel
theorem dX11_item_314 : decode cX11_item 314 = .ok (.iadd, 1) := by decide +kernel
theorem dX11_item_315 : decode cX11_item 315 = .ok (.invokevirtual 112, 3) := by decide +kernel
theorem dX11_item_318 : decode cX11_item 318 = .ok (.ifCond .eq 7, 3) := by decide +kernel
theorem dX11_item_321 : decode cX11_item 321 = .ok (.iconst 1, 1) := by decide +kernel
theorem dX11_item_322 : decode cX11_item 322 = .ok (.goto 4, 3) := by decide +kernel
theorem dX11_item_325 : decode cX11_item 325 = .ok (.iconst 0, 1) := by decide +kernel
theorem dX11_item_326 : decode cX11_item 326 = .ok (.ireturn, 1) := by decide +kernel
theorem dX11_fault_0 : decode cX11_fault 0 = .ok (.iconst 0, 1) := by decide +kernel
theorem dX11_fault_1 : decode cX11_fault 1 = .ok (.istore_n 1, 1) := by decide +kernel
theorem dX11_fault_2 : decode cX11_fault 2 = .ok (.iload_n 1, 1) := by decide +kernel
theorem dX11_fault_3 : decode cX11_fault 3 = .ok (.iconst 3, 1) := by decide +kernel
theorem dX11_fault_4 : decode cX11_fault 4 = .ok (.if_icmp .ge 16, 3) := by decide +kernel
theorem dX11_fault_7 : decode cX11_fault 7 = .ok (.aload_n 0, 1) := by decide +kernel
theorem dX11_fault_8 : decode cX11_fault 8 = .ok (.getfield 34, 3) := by decide +kernel
theorem dX11_fault_11 : decode cX11_fault 11 = .ok (.iload_n 1, 1) := by decide +kernel
theorem dX11_fault_12 : decode cX11_fault 12 = .ok (.iconst 0, 1) := by decide +kernel
theorem dX11_fault_13 : decode cX11_fault 13 = .ok (.iastore, 1) := by decide +kernel
theorem dX11_fault_14 : decode cX11_fault 14 = .ok (.iinc 1 1, 3) := by decide +kernel
theorem dX11_fault_17 : decode cX11_fault 17 = .ok (.goto (-15), 3) := by decide +kernel
theorem dX11_fault_20 : decode cX11_fault 20 = .ok (.aload_n 0, 1) := by decide +kernel
theorem dX11_fault_21 : decode cX11_fault 21 = .ok (.iconst 0, 1) := by decide +kernel
theorem dX11_fault_22 : decode cX11_fault 22 = .ok (.putfield 101, 3) := by decide +kernel
theorem dX11_fault_25 : decode cX11_fault 25 = .ok (.aload_n 0, 1) := by decide +kernel
theorem dX11_fault_26 : decode cX11_fault 26 = .ok (.getfield 101, 3) := by decide +kernel
theorem dX11_fault_29 : decode cX11_fault 29 = .ok (.aload_n 0, 1) := by decide +kernel
theorem dX11_fault_30 : decode cX11_fault 30 = .ok (.getfield 97, 3) := by decide +kernel
theorem dX11_fault_33 : decode cX11_fault 33 = .ok (.if_icmp .ge 59, 3) := by decide +kernel
theorem dX11_fault_36 : decode cX11_fault 36 = .ok (.aload_n 0, 1) := by decide +kernel
theorem dX11_fault_37 : decode cX11_fault 37 = .ok (.getfield 101, 3) := by decide +kernel
theorem dX11_fault_40 : decode cX11_fault 40 = .ok (.istore_n 1, 1) := by decide +kernel
theorem dX11_fault_41 : decode cX11_fault 41 = .ok (.aload_n 0, 1) := by decide +kernel
theorem dX11_fault_42 : decode cX11_fault 42 = .ok (.dup, 1) := by decide +kernel
theorem dX11_fault_43 : decode cX11_fault 43 = .ok (.getfield 101, 3) := by decide +kernel
theorem dX11_fault_46 : decode cX11_fault 46 = .ok (.iconst 1, 1) := by decide +kernel
theorem dX11_fault_47 : decode cX11_fault 47 = .ok (.iadd, 1) := by decide +kernel
theorem dX11_fault_48 : decode cX11_fault 48 = .ok (.putfield 101, 3) := by decide +kernel
theorem dX11_fault_51 : decode cX11_fault 51 = .ok (.aload_n 0, 1) := by decide +kernel
theorem dX11_fault_52 : decode cX11_fault 52 = .ok (.aload_n 0, 1) := by decide +kernel
theorem dX11_fault_53 : decode cX11_fault 53 = .ok (.getfield 7, 3) := by decide +kernel
theorem dX11_fault_56 : decode cX11_fault 56 = .ok (.iload_n 1, 1) := by decide +kernel
theorem dX11_fault_57 : decode cX11_fault 57 = .ok (.iaload, 1) := by decide +kernel
theorem dX11_fault_58 : decode cX11_fault 58 = .ok (.invokevirtual 116, 3) := by decide +kernel
theorem dX11_fault_61 : decode cX11_fault 61 = .ok (.ifCond .eq 16, 3) := by decide +kernel
theorem dX11_fault_64 : decode cX11_fault 64 = .ok (.aload_n 0, 1) := by decide +kernel
theorem dX11_fault_65 : decode cX11_fault 65 = .ok (.aload_n 0, 1) := by decide +kernel
theorem dX11_fault_66 : decode cX11_fault 66 = .ok (.getfield 101, 3) := by decide +kernel
theorem dX11_fault_69 : decode cX11_fault 69 = .ok (.invokevirtual 104, 3) := by decide +kernel
theorem dX11_fault_72 : decode cX11_fault 72 = .ok (.bipush 59, 2) := by decide +kernel
theorem dX11_fault_74 : decode cX11_fault 74 = .ok (.if_icmp .eq 5, 3) := by decide +kernel
theorem dX11_fault_77 : decode cX11_fault 77 = .ok (.iload_n 1, 1) := by decide +kernel
theorem dX11_fault_78 : decode cX11_fault 78 = .ok (.ireturn, 1) := by decide +kernel
theorem dX11_fault_79 : decode cX11_fault 79 = .ok (.aload_n 0, 1) := by decide +kernel
theorem dX11_fault_80 : decode cX11_fault 80 = .ok (.dup, 1) := by decide +kernel
theorem dX11_fault_81 : decode cX11_fault 81 = .ok (.getfield 101, 3) := by decide +kernel
theorem dX11_fault_84 : decode cX11_fault 84 = .ok (.iconst 1, 1) := by decide +kernel
theorem dX11_fault_85 : decode cX11_fault 85 = .ok (.iadd, 1) := by decide +kernel
theorem dX11_fault_86 : decode cX11_fault 86 = .ok (.putfield 101, 3) := by decide +kernel
theorem dX11_fault_89 : decode cX11_fault 89 = .ok (.goto (-64), 3) := by decide +kernel
theorem dX11_fault_92 : decode cX11_fault 92 = .ok (.bipush (-4), 2) := by decide +kernel
theorem dX11_fault_94 : decode cX11_fault 94 = .ok (.ireturn, 1) := by decide +kernel
theorem dX11_lay_0 : decode cX11_lay 0 = .ok (.aload_n 0, 1) := by decide +kernel
theorem dX11_lay_1 : decode cX11_lay 1 = .ok (.invokevirtual 120, 3) := by decide +kernel
theorem dX11_lay_4 : decode cX11_lay 4 = .ok (.bipush (-4), 2) := by decide +kernel
theorem dX11_lay_6 : decode cX11_lay 6 = .ok (.if_icmp .eq 6, 3) := by decide +kernel
theorem dX11_lay_9 : decode cX11_lay 9 = .ok (.bipush (-2), 2) := by decide +kernel
theorem dX11_lay_11 : decode cX11_lay 11 = .ok (.ireturn, 1) := by decide +kernel
theorem dX11_lay_12 : decode cX11_lay 12 = .ok (.iconst 0, 1) := by decide +kernel
theorem dX11_lay_13 : decode cX11_lay 13 = .ok (.istore_n 1, 1) := by decide +kernel
theorem dX11_lay_14 : decode cX11_lay 14 = .ok (.iload_n 1, 1) := by decide +kernel
theorem dX11_lay_15 : decode cX11_lay 15 = .ok (.bipush 20, 2) := by decide +kernel
theorem dX11_lay_17 : decode cX11_lay 17 = .ok (.if_icmp .ge 21, 3) := by decide +kernel
theorem dX11_lay_20 : decode cX11_lay 20 = .ok (.aload_n 0, 1) := by decide +kernel
theorem dX11_lay_21 : decode cX11_lay 21 = .ok (.getfield 13, 3) := by decide +kernel
theorem dX11_lay_24 : decode cX11_lay 24 = .ok (.iload_n 1, 1) := by decide +kernel
theorem dX11_lay_25 : decode cX11_lay 25 = .ok (.aload_n 0, 1) := by decide +kernel
theorem dX11_lay_26 : decode cX11_lay 26 = .ok (.getfield 25, 3) := by decide +kernel
theorem dX11_lay_29 : decode cX11_lay 29 = .ok (.iload_n 1, 1) := by decide +kernel
theorem dX11_lay_30 : decode cX11_lay 30 = .ok (.iaload, 1) := by decide +kernel
theorem dX11_lay_31 : decode cX11_lay 31 = .ok (.iastore, 1) := by decide +kernel
theorem dX11_lay_32 : decode cX11_lay 32 = .ok (.iinc 1 1, 3) := by decide +kernel
theorem dX11_lay_35 : decode cX11_lay 35 = .ok (.goto (-21), 3) := by decide +kernel
theorem dX11_lay_38 : decode cX11_lay 38 = .ok (.iconst 0, 1) := by decide +kernel
theorem dX11_lay_39 : decode cX11_lay 39 = .ok (.istore_n 1, 1) := by decide +kernel
theorem dX11_lay_40 : decode cX11_lay 40 = .ok (.iload_n 1, 1) := by decide +kernel
theorem dX11_lay_41 : decode cX11_lay 41 = .ok (.bipush 6, 2) := by decide +kernel
theorem dX11_lay_43 : decode cX11_lay 43 = .ok (.if_icmp .ge 21, 3) := by decide +kernel
theorem dX11_lay_46 : decode cX11_lay 46 = .ok (.aload_n 0, 1) := by decide +kernel
theorem dX11_lay_47 : decode cX11_lay 47 = .ok (.getfield 16, 3) := by decide +kernel
theorem dX11_lay_50 : decode cX11_lay 50 = .ok (.iload_n 1, 1) := by decide +kernel
theorem dX11_lay_51 : decode cX11_lay 51 = .ok (.aload_n 0, 1) := by decide +kernel
theorem dX11_lay_52 : decode cX11_lay 52 = .ok (.getfield 28, 3) := by decide +kernel
theorem dX11_lay_55 : decode cX11_lay 55 = .ok (.iload_n 1, 1) := by decide +kernel
theorem dX11_lay_56 : decode cX11_lay 56 = .ok (.iaload, 1) := by decide +kernel
theorem dX11_lay_57 : decode cX11_lay 57 = .ok (.iastore, 1) := by decide +kernel
theorem dX11_lay_58 : decode cX11_lay 58 = .ok (.iinc 1 1, 3) := by decide +kernel
theorem dX11_lay_61 : decode cX11_lay 61 = .ok (.goto (-21), 3) := by decide +kernel
theorem dX11_lay_64 : decode cX11_lay 64 = .ok (.iconst 0, 1) := by decide +kernel
theorem dX11_lay_65 : decode cX11_lay 65 = .ok (.istore_n 1, 1) := by decide +kernel
theorem dX11_lay_66 : decode cX11_lay 66 = .ok (.iload_n 1, 1) := by decide +kernel
theorem dX11_lay_67 : decode cX11_lay 67 = .ok (.bipush 12, 2) := by decide +kernel
theorem dX11_lay_69 : decode cX11_lay 69 = .ok (.if_icmp .ge 21, 3) := by decide +kernel
theorem dX11_lay_72 : decode cX11_lay 72 = .ok (.aload_n 0, 1) := by decide +kernel
theorem dX11_lay_73 : decode cX11_lay 73 = .ok (.getfield 19, 3) := by decide +kernel
theorem dX11_lay_76 : decode cX11_lay 76 = .ok (.iload_n 1, 1) := by decide +kernel
theorem dX11_lay_77 : decode cX11_lay 77 = .ok (.aload_n 0, 1) := by decide +kernel
theorem dX11_lay_78 : decode cX11_lay 78 = .ok (.getfield 31, 3) := by decide +kernel
theorem dX11_lay_81 : decode cX11_lay 81 = .ok (.iload_n 1, 1) := by decide +kernel
theorem dX11_lay_82 : decode cX11_lay 82 = .ok (.iaload, 1) := by decide +kernel
theorem dX11_lay_83 : decode cX11_lay 83 = .ok (.iastore, 1) := by decide +kernel
theorem dX11_lay_84 : decode cX11_lay 84 = .ok (.iinc 1 1, 3) := by decide +kernel
theorem dX11_lay_87 : decode cX11_lay 87 = .ok (.goto (-21), 3) := by decide +kernel
theorem dX11_lay_90 : decode cX11_lay 90 = .ok (.iconst 0, 1) := by decide +kernel
theorem dX11_lay_91 : decode cX11_lay 91 = .ok (.istore_n 1, 1) := by decide +kernel
theorem dX11_lay_92 : decode cX11_lay 92 = .ok (.iload_n 1, 1) := by decide +kernel
theorem dX11_lay_93 : decode cX11_lay 93 = .ok (.iconst 3, 1) := by decide +kernel
theorem dX11_lay_94 : decode cX11_lay 94 = .ok (.if_icmp .ge 21, 3) := by decide +kernel
theorem dX11_lay_97 : decode cX11_lay 97 = .ok (.aload_n 0, 1) := by decide +kernel
theorem dX11_lay_98 : decode cX11_lay 98 = .ok (.getfield 22, 3) := by decide +kernel
theorem dX11_lay_101 : decode cX11_lay 101 = .ok (.iload_n 1, 1) := by decide +kernel
theorem dX11_lay_102 : decode cX11_lay 102 = .ok (.aload_n 0, 1) := by decide +kernel
theorem dX11_lay_103 : decode cX11_lay 103 = .ok (.getfield 34, 3) := by decide +kernel
theorem dX11_lay_106 : decode cX11_lay 106 = .ok (.iload_n 1, 1) := by decide +kernel
theorem dX11_lay_107 : decode cX11_lay 107 = .ok (.iaload, 1) := by decide +kernel
theorem dX11_lay_108 : decode cX11_lay 108 = .ok (.iastore, 1) := by decide +kernel
theorem dX11_lay_109 : decode cX11_lay 109 = .ok (.iinc 1 1, 3) := by decide +kernel
theorem dX11_lay_112 : decode cX11_lay 112 = .ok (.goto (-20), 3) := by decide +kernel
theorem dX11_lay_115 : decode cX11_lay 115 = .ok (.aload_n 0, 1) := by decide +kernel
theorem dX11_lay_116 : decode cX11_lay 116 = .ok (.invokevirtual 86, 3) := by decide +kernel
theorem dX11_lay_119 : decode cX11_lay 119 = .ok (.aload_n 0, 1) := by decide +kernel
theorem dX11_lay_120 : decode cX11_lay 120 = .ok (.getfield 124, 3) := by decide +kernel
theorem dX11_lay_123 : decode cX11_lay 123 = .ok (.ireturn, 1) := by decide +kernel
theorem dX11_sees_0 : decode cX11_sees 0 = .ok (.aload_n 0, 1) := by decide +kernel
theorem dX11_sees_1 : decode cX11_sees 1 = .ok (.getfield 13, 3) := by decide +kernel
theorem dX11_sees_4 : decode cX11_sees 4 = .ok (.iconst 5, 1) := by decide +kernel
theorem dX11_sees_5 : decode cX11_sees 5 = .ok (.iload_n 1, 1) := by decide +kernel
theorem dX11_sees_6 : decode cX11_sees 6 = .ok (.imul, 1) := by decide +kernel
theorem dX11_sees_7 : decode cX11_sees 7 = .ok (.iconst 1, 1) := by decide +kernel
theorem dX11_sees_8 : decode cX11_sees 8 = .ok (.iadd, 1) := by decide +kernel
theorem dX11_sees_9 : decode cX11_sees 9 = .ok (.iaload, 1) := by decide +kernel
theorem dX11_sees_10 : decode cX11_sees 10 = .ok (.istore 4, 2) := by decide +kernel
theorem dX11_sees_12 : decode cX11_sees 12 = .ok (.iload_n 3, 1) := by decide +kernel
theorem dX11_sees_13 : decode cX11_sees 13 = .ok (.aload_n 0, 1) := by decide +kernel
theorem dX11_sees_14 : decode cX11_sees 14 = .ok (.getfield 13, 3) := by decide +kernel
theorem dX11_sees_17 : decode cX11_sees 17 = .ok (.iconst 5, 1) := by decide +kernel
theorem dX11_sees_18 : decode cX11_sees 18 = .ok (.iload_n 1, 1) := by decide +kernel
theorem dX11_sees_19 : decode cX11_sees 19 = .ok (.imul, 1) := by decide +kernel
theorem dX11_sees_20 : decode cX11_sees 20 = .ok (.iaload, 1) := by decide +kernel
theorem dX11_sees_21 : decode cX11_sees 21 = .ok (.isub, 1) := by decide +kernel
theorem dX11_sees_22 : decode cX11_sees 22 = .ok (.aload_n 0, 1) := by decide +kernel
theorem dX11_sees_23 : decode cX11_sees 23 = .ok (.getfield 16, 3) := by decide +kernel
theorem dX11_sees_26 : decode cX11_sees 26 = .ok (.iconst 2, 1) := by decide +kernel
theorem dX11_sees_27 : decode cX11_sees 27 = .ok (.iload_n 2, 1) := by decide +kernel
theorem dX11_sees_28 : decode cX11_sees 28 = .ok (.imul, 1) := by decide +kernel
theorem dX11_sees_29 : decode cX11_sees 29 = .ok (.iaload, 1) := by decide +kernel
theorem dX11_sees_30 : decode cX11_sees 30 = .ok (.isub, 1) := by decide +kernel
theorem dX11_sees_31 : decode cX11_sees 31 = .ok (.iload 4, 2) := by decide +kernel
theorem dX11_sees_33 : decode cX11_sees 33 = .ok (.irem, 1) := by decide +kernel
theorem dX11_sees_34 : decode cX11_sees 34 = .ok (.istore 5, 2) := by decide +kernel
theorem dX11_sees_36 : decode cX11_sees 36 = .ok (.iload 5, 2) := by decide +kernel
theorem dX11_sees_38 : decode cX11_sees 38 = .ok (.ifCond .ge 11, 3) := by decide +kernel
theorem dX11_sees_41 : decode cX11_sees 41 = .ok (.iload 5, 2) := by decide +kernel
theorem dX11_sees_43 : decode cX11_sees 43 = .ok (.iload 4, 2) := by decide +kernel
theorem dX11_sees_45 : decode cX11_sees 45 = .ok (.iadd, 1) := by decide +kernel
theorem dX11_sees_46 : decode cX11_sees 46 = .ok (.goto 5, 3) := by decide +kernel
theorem dX11_sees_49 : decode cX11_sees 49 = .ok (.iload 5, 2) := by decide +kernel
theorem dX11_sees_51 : decode cX11_sees 51 = .ok (.aload_n 0, 1) := by decide +kernel
theorem dX11_sees_52 : decode cX11_sees 52 = .ok (.getfield 16, 3) := by decide +kernel
theorem dX11_sees_55 : decode cX11_sees 55 = .ok (.iconst 2, 1) := by decide +kernel
theorem dX11_sees_56 : decode cX11_sees 56 = .ok (.iload_n 2, 1) := by decide +kernel
theorem dX11_sees_57 : decode cX11_sees 57 = .ok (.imul, 1) := by decide +kernel
theorem dX11_sees_58 : decode cX11_sees 58 = .ok (.iconst 1, 1) := by decide +kernel
theorem dX11_sees_59 : decode cX11_sees 59 = .ok (.iadd, 1) := by decide +kernel
theorem dX11_sees_60 : decode cX11_sees 60 = .ok (.iaload, 1) := by decide +kernel
theorem dX11_sees_61 : decode cX11_sees 61 = .ok (.if_icmp .ge 7, 3) := by decide +kernel
theorem dX11_sees_64 : decode cX11_sees 64 = .ok (.iconst 1, 1) := by decide +kernel
theorem dX11_sees_65 : decode cX11_sees 65 = .ok (.goto 4, 3) := by decide +kernel
theorem dX11_sees_68 : decode cX11_sees 68 = .ok (.iconst 0, 1) := by decide +kernel
theorem dX11_sees_69 : decode cX11_sees 69 = .ok (.ireturn, 1) := by decide +kernel
theorem dX11_rateOf_0 : decode cX11_rateOf 0 = .ok (.iload_n 3, 1) := by decide +kernel
theorem dX11_rateOf_1 : decode cX11_rateOf 1 = .ok (.iconst 1, 1) := by decide +kernel
theorem dX11_rateOf_2 : decode cX11_rateOf 2 = .ok (.isub, 1) := by decide +kernel
theorem dX11_rateOf_3 : decode cX11_rateOf 3 = .ok (.iload_n 2, 1) := by decide +kernel
theorem dX11_rateOf_4 : decode cX11_rateOf 4 = .ok (.isub, 1) := by decide +kernel
theorem dX11_rateOf_5 : decode cX11_rateOf 5 = .ok (.istore 4, 2) := by decide +kernel
theorem dX11_rateOf_7 : decode cX11_rateOf 7 = .ok (.iconst 2, 1) := by decide +kernel
theorem dX11_rateOf_8 : decode cX11_rateOf 8 = .ok (.aload_n 0, 1) := by decide +kernel
theorem dX11_rateOf_9 : decode cX11_rateOf 9 = .ok (.getfield 13, 3) := by decide +kernel
theorem dX11_rateOf_12 : decode cX11_rateOf 12 = .ok (.iconst 5, 1) := by decide +kernel
theorem dX11_rateOf_13 : decode cX11_rateOf 13 = .ok (.iload_n 1, 1) := by decide +kernel
theorem dX11_rateOf_14 : decode cX11_rateOf 14 = .ok (.imul, 1) := by decide +kernel
theorem dX11_rateOf_15 : decode cX11_rateOf 15 = .ok (.iconst 2, 1) := by decide +kernel
theorem dX11_rateOf_16 : decode cX11_rateOf 16 = .ok (.iadd, 1) := by decide +kernel
theorem dX11_rateOf_17 : decode cX11_rateOf 17 = .ok (.iaload, 1) := by decide +kernel
theorem dX11_rateOf_18 : decode cX11_rateOf 18 = .ok (.iadd, 1) := by decide +kernel
theorem dX11_rateOf_19 : decode cX11_rateOf 19 = .ok (.iconst 1, 1) := by decide +kernel
theorem dX11_rateOf_20 : decode cX11_rateOf 20 = .ok (.iload_n 2, 1) := by decide +kernel
theorem dX11_rateOf_21 : decode cX11_rateOf 21 = .ok (.iload 4, 2) := by decide +kernel
theorem dX11_rateOf_23 : decode cX11_rateOf 23 = .ok (.if_icmp .ge 7, 3) := by decide +kernel
theorem dX11_rateOf_26 : decode cX11_rateOf 26 = .ok (.iload_n 2, 1) := by decide +kernel
theorem dX11_rateOf_27 : decode cX11_rateOf 27 = .ok (.goto 5, 3) := by decide +kernel
theorem dX11_rateOf_30 : decode cX11_rateOf 30 = .ok (.iload 4, 2) := by decide +kernel
theorem dX11_rateOf_32 : decode cX11_rateOf 32 = .ok (.iadd, 1) := by decide +kernel
theorem dX11_rateOf_33 : decode cX11_rateOf 33 = .ok (.imul, 1) := by decide +kernel
theorem dX11_rateOf_34 : decode cX11_rateOf 34 = .ok (.ireturn, 1) := by decide +kernel
theorem dX11_lays_0 : decode cX11_lays 0 = .ok (.aload_n 0, 1) := by decide +kernel
theorem dX11_lays_1 : decode cX11_lays 1 = .ok (.iconst 0, 1) := by decide +kernel
theorem dX11_lays_2 : decode cX11_lays 2 = .ok (.putfield 124, 3) := by decide +kernel
theorem dX11_lays_5 : decode cX11_lays 5 = .ok (.iconst 0, 1) := by decide +kernel
theorem dX11_lays_6 : decode cX11_lays 6 = .ok (.istore_n 1, 1) := by decide +kernel
theorem dX11_lays_7 : decode cX11_lays 7 = .ok (.iload_n 1, 1) := by decide +kernel
theorem dX11_lays_8 : decode cX11_lays 8 = .ok (.bipush 60, 2) := by decide +kernel
theorem dX11_lays_10 : decode cX11_lays 10 = .ok (.if_icmp .ge 239, 3) := by decide +kernel
theorem dX11_lays_13 : decode cX11_lays 13 = .ok (.iconst 0, 1) := by decide +kernel
theorem dX11_lays_14 : decode cX11_lays 14 = .ok (.istore_n 2, 1) := by decide +kernel
theorem dX11_lays_15 : decode cX11_lays 15 = .ok (.iload_n 2, 1) := by decide +kernel
theorem dX11_lays_16 : decode cX11_lays 16 = .ok (.aload_n 0, 1) := by decide +kernel
theorem dX11_lays_17 : decode cX11_lays 17 = .ok (.getfield 22, 3) := by decide +kernel
theorem dX11_lays_20 : decode cX11_lays 20 = .ok (.iconst 0, 1) := by decide +kernel
theorem dX11_lays_21 : decode cX11_lays 21 = .ok (.iaload, 1) := by decide +kernel
theorem dX11_lays_22 : decode cX11_lays 22 = .ok (.aload_n 0, 1) := by decide +kernel
theorem dX11_lays_23 : decode cX11_lays 23 = .ok (.getfield 22, 3) := by decide +kernel
theorem dX11_lays_26 : decode cX11_lays 26 = .ok (.iconst 1, 1) := by decide +kernel
theorem dX11_lays_27 : decode cX11_lays 27 = .ok (.iaload, 1) := by decide +kernel
theorem dX11_lays_28 : decode cX11_lays 28 = .ok (.imul, 1) := by decide +kernel
theorem dX11_lays_29 : decode cX11_lays 29 = .ok (.if_icmp .ge 214, 3) := by decide +kernel
theorem dX11_lays_32 : decode cX11_lays 32 = .ok (.iload_n 2, 1) := by decide +kernel
theorem dX11_lays_33 : decode cX11_lays 33 = .ok (.aload_n 0, 1) := by decide +kernel
theorem dX11_lays_34 : decode cX11_lays 34 = .ok (.getfield 22, 3) := by decide +kernel
theorem dX11_lays_37 : decode cX11_lays 37 = .ok (.iconst 1, 1) := by decide +kernel
theorem dX11_lays_38 : decode cX11_lays 38 = .ok (.iaload, 1) := by decide +kernel
theorem dX11_lays_39 : decode cX11_lays 39 = .ok (.idiv, 1) := by decide +kernel
theorem dX11_lays_40 : decode cX11_lays 40 = .ok (.istore_n 3, 1) := by decide +kernel
end
section
theorem dX11_lays_41 : decode cX11_lays 41 = .ok (.iload_n 2, 1) := by decide +kernel
theorem dX11_lays_42 : decode cX11_lays 42 = .ok (.aload_n 0, 1) := by decide +kernel
theorem dX11_lays_43 : decode cX11_lays 43 = .ok (.getfield 22, 3) := by decide +kernel
theorem dX11_lays_46 : decode cX11_lays 46 = .ok (.iconst 1, 1) := by decide +kernel
theorem dX11_lays_47 : decode cX11_lays 47 = .ok (.iaload, 1) := by decide +kernel
theorem dX11_lays_48 : decode cX11_lays 48 = .ok (.irem, 1) := by decide +kernel
theorem dX11_lays_49 : decode cX11_lays 49 = .ok (.istore 4, 2) := by decide +kernel
theorem dX11_lays_51 : decode cX11_lays 51 = .ok (.aload_n 0, 1) := by decide +kernel
theorem dX11_lays_52 : decode cX11_lays 52 = .ok (.iload_n 3, 1) := by decide +kernel
theorem dX11_lays_53 : decode cX11_lays 53 = .ok (.iload 4, 2) := by decide +kernel
theorem dX11_lays_55 : decode cX11_lays 55 = .ok (.iload_n 1, 1) := by decide +kernel
theorem dX11_lays_56 : decode cX11_lays 56 = .ok (.invokevirtual 127, 3) := by decide +kernel
theorem dX11_lays_59 : decode cX11_lays 59 = .ok (.ifCond .eq 24, 3) := by decide +kernel
theorem dX11_lays_62 : decode cX11_lays 62 = .ok (.iload_n 1, 1) := by decide +kernel
theorem dX11_lays_63 : decode cX11_lays 63 = .ok (.ifCond .eq 16, 3) := by decide +kernel
theorem dX11_lays_66 : decode cX11_lays 66 = .ok (.aload_n 0, 1) := by decide +kernel
theorem dX11_lays_67 : decode cX11_lays 67 = .ok (.iload_n 3, 1) := by decide +kernel
theorem dX11_lays_68 : decode cX11_lays 68 = .ok (.iload 4, 2) := by decide +kernel
theorem dX11_lays_70 : decode cX11_lays 70 = .ok (.iload_n 1, 1) := by decide +kernel
theorem dX11_lays_71 : decode cX11_lays 71 = .ok (.iconst 1, 1) := by decide +kernel
theorem dX11_lays_72 : decode cX11_lays 72 = .ok (.isub, 1) := by decide +kernel
theorem dX11_lays_73 : decode cX11_lays 73 = .ok (.invokevirtual 127, 3) := by decide +kernel
theorem dX11_lays_76 : decode cX11_lays 76 = .ok (.ifCond .ne 7, 3) := by decide +kernel
theorem dX11_lays_79 : decode cX11_lays 79 = .ok (.iconst 1, 1) := by decide +kernel
theorem dX11_lays_80 : decode cX11_lays 80 = .ok (.goto 4, 3) := by decide +kernel
theorem dX11_lays_83 : decode cX11_lays 83 = .ok (.iconst 0, 1) := by decide +kernel
theorem dX11_lays_84 : decode cX11_lays 84 = .ok (.istore 5, 2) := by decide +kernel
theorem dX11_lays_86 : decode cX11_lays 86 = .ok (.iload 5, 2) := by decide +kernel
theorem dX11_lays_88 : decode cX11_lays 88 = .ok (.ifCond .eq 149, 3) := by decide +kernel
theorem dX11_lays_91 : decode cX11_lays 91 = .ok (.aload_n 0, 1) := by decide +kernel
theorem dX11_lays_92 : decode cX11_lays 92 = .ok (.getfield 124, 3) := by decide +kernel
theorem dX11_lays_95 : decode cX11_lays 95 = .ok (.bipush 24, 2) := by decide +kernel
theorem dX11_lays_97 : decode cX11_lays 97 = .ok (.if_icmp .ge 140, 3) := by decide +kernel
theorem dX11_lays_100 : decode cX11_lays 100 = .ok (.iload_n 1, 1) := by decide +kernel
theorem dX11_lays_101 : decode cX11_lays 101 = .ok (.istore 6, 2) := by decide +kernel
theorem dX11_lays_103 : decode cX11_lays 103 = .ok (.iload 6, 2) := by decide +kernel
theorem dX11_lays_105 : decode cX11_lays 105 = .ok (.iconst 1, 1) := by decide +kernel
theorem dX11_lays_106 : decode cX11_lays 106 = .ok (.iadd, 1) := by decide +kernel
theorem dX11_lays_107 : decode cX11_lays 107 = .ok (.bipush 60, 2) := by decide +kernel
theorem dX11_lays_109 : decode cX11_lays 109 = .ok (.if_icmp .ge 23, 3) := by decide +kernel
theorem dX11_lays_112 : decode cX11_lays 112 = .ok (.aload_n 0, 1) := by decide +kernel
theorem dX11_lays_113 : decode cX11_lays 113 = .ok (.iload_n 3, 1) := by decide +kernel
theorem dX11_lays_114 : decode cX11_lays 114 = .ok (.iload 4, 2) := by decide +kernel
theorem dX11_lays_116 : decode cX11_lays 116 = .ok (.iload 6, 2) := by decide +kernel
theorem dX11_lays_118 : decode cX11_lays 118 = .ok (.iconst 1, 1) := by decide +kernel
theorem dX11_lays_119 : decode cX11_lays 119 = .ok (.iadd, 1) := by decide +kernel
theorem dX11_lays_120 : decode cX11_lays 120 = .ok (.invokevirtual 127, 3) := by decide +kernel
theorem dX11_lays_123 : decode cX11_lays 123 = .ok (.ifCond .eq 9, 3) := by decide +kernel
theorem dX11_lays_126 : decode cX11_lays 126 = .ok (.iinc 6 1, 3) := by decide +kernel
theorem dX11_lays_129 : decode cX11_lays 129 = .ok (.goto (-26), 3) := by decide +kernel
theorem dX11_lays_132 : decode cX11_lays 132 = .ok (.aload_n 0, 1) := by decide +kernel
theorem dX11_lays_133 : decode cX11_lays 133 = .ok (.getfield 37, 3) := by decide +kernel
theorem dX11_lays_136 : decode cX11_lays 136 = .ok (.aload_n 0, 1) := by decide +kernel
theorem dX11_lays_137 : decode cX11_lays 137 = .ok (.getfield 124, 3) := by decide +kernel
theorem dX11_lays_140 : decode cX11_lays 140 = .ok (.iload_n 1, 1) := by decide +kernel
theorem dX11_lays_141 : decode cX11_lays 141 = .ok (.iastore, 1) := by decide +kernel
theorem dX11_lays_142 : decode cX11_lays 142 = .ok (.aload_n 0, 1) := by decide +kernel
theorem dX11_lays_143 : decode cX11_lays 143 = .ok (.getfield 40, 3) := by decide +kernel
theorem dX11_lays_146 : decode cX11_lays 146 = .ok (.aload_n 0, 1) := by decide +kernel
theorem dX11_lays_147 : decode cX11_lays 147 = .ok (.getfield 124, 3) := by decide +kernel
theorem dX11_lays_150 : decode cX11_lays 150 = .ok (.iload 6, 2) := by decide +kernel
theorem dX11_lays_152 : decode cX11_lays 152 = .ok (.iastore, 1) := by decide +kernel
theorem dX11_lays_153 : decode cX11_lays 153 = .ok (.aload_n 0, 1) := by decide +kernel
theorem dX11_lays_154 : decode cX11_lays 154 = .ok (.getfield 43, 3) := by decide +kernel
theorem dX11_lays_157 : decode cX11_lays 157 = .ok (.aload_n 0, 1) := by decide +kernel
theorem dX11_lays_158 : decode cX11_lays 158 = .ok (.getfield 124, 3) := by decide +kernel
theorem dX11_lays_161 : decode cX11_lays 161 = .ok (.iload_n 3, 1) := by decide +kernel
theorem dX11_lays_162 : decode cX11_lays 162 = .ok (.iastore, 1) := by decide +kernel
theorem dX11_lays_163 : decode cX11_lays 163 = .ok (.aload_n 0, 1) := by decide +kernel
theorem dX11_lays_164 : decode cX11_lays 164 = .ok (.getfield 46, 3) := by decide +kernel
theorem dX11_lays_167 : decode cX11_lays 167 = .ok (.aload_n 0, 1) := by decide +kernel
theorem dX11_lays_168 : decode cX11_lays 168 = .ok (.getfield 124, 3) := by decide +kernel
theorem dX11_lays_171 : decode cX11_lays 171 = .ok (.iload 4, 2) := by decide +kernel
theorem dX11_lays_173 : decode cX11_lays 173 = .ok (.iastore, 1) := by decide +kernel
theorem dX11_lays_174 : decode cX11_lays 174 = .ok (.aload_n 0, 1) := by decide +kernel
theorem dX11_lays_175 : decode cX11_lays 175 = .ok (.getfield 49, 3) := by decide +kernel
theorem dX11_lays_178 : decode cX11_lays 178 = .ok (.aload_n 0, 1) := by decide +kernel
theorem dX11_lays_179 : decode cX11_lays 179 = .ok (.getfield 124, 3) := by decide +kernel
theorem dX11_lays_182 : decode cX11_lays 182 = .ok (.iconst 0, 1) := by decide +kernel
theorem dX11_lays_183 : decode cX11_lays 183 = .ok (.iastore, 1) := by decide +kernel
theorem dX11_lays_184 : decode cX11_lays 184 = .ok (.iconst 0, 1) := by decide +kernel
theorem dX11_lays_185 : decode cX11_lays 185 = .ok (.istore 7, 2) := by decide +kernel
theorem dX11_lays_187 : decode cX11_lays 187 = .ok (.iload 7, 2) := by decide +kernel
theorem dX11_lays_189 : decode cX11_lays 189 = .ok (.iload 6, 2) := by decide +kernel
theorem dX11_lays_191 : decode cX11_lays 191 = .ok (.iload_n 1, 1) := by decide +kernel
theorem dX11_lays_192 : decode cX11_lays 192 = .ok (.isub, 1) := by decide +kernel
theorem dX11_lays_193 : decode cX11_lays 193 = .ok (.if_icmp .gt 34, 3) := by decide +kernel
theorem dX11_lays_196 : decode cX11_lays 196 = .ok (.aload_n 0, 1) := by decide +kernel
theorem dX11_lays_197 : decode cX11_lays 197 = .ok (.getfield 49, 3) := by decide +kernel
theorem dX11_lays_200 : decode cX11_lays 200 = .ok (.aload_n 0, 1) := by decide +kernel
theorem dX11_lays_201 : decode cX11_lays 201 = .ok (.getfield 124, 3) := by decide +kernel
theorem dX11_lays_204 : decode cX11_lays 204 = .ok (.dup2, 1) := by decide +kernel
theorem dX11_lays_205 : decode cX11_lays 205 = .ok (.iaload, 1) := by decide +kernel
theorem dX11_lays_206 : decode cX11_lays 206 = .ok (.aload_n 0, 1) := by decide +kernel
theorem dX11_lays_207 : decode cX11_lays 207 = .ok (.iload_n 3, 1) := by decide +kernel
theorem dX11_lays_208 : decode cX11_lays 208 = .ok (.iload 7, 2) := by decide +kernel
theorem dX11_lays_210 : decode cX11_lays 210 = .ok (.iload 6, 2) := by decide +kernel
theorem dX11_lays_212 : decode cX11_lays 212 = .ok (.iload_n 1, 1) := by decide +kernel
theorem dX11_lays_213 : decode cX11_lays 213 = .ok (.isub, 1) := by decide +kernel
theorem dX11_lays_214 : decode cX11_lays 214 = .ok (.iconst 1, 1) := by decide +kernel
theorem dX11_lays_215 : decode cX11_lays 215 = .ok (.iadd, 1) := by decide +kernel
theorem dX11_lays_216 : decode cX11_lays 216 = .ok (.invokevirtual 131, 3) := by decide +kernel
theorem dX11_lays_219 : decode cX11_lays 219 = .ok (.iadd, 1) := by decide +kernel
theorem dX11_lays_220 : decode cX11_lays 220 = .ok (.iastore, 1) := by decide +kernel
theorem dX11_lays_221 : decode cX11_lays 221 = .ok (.iinc 7 1, 3) := by decide +kernel
theorem dX11_lays_224 : decode cX11_lays 224 = .ok (.goto (-37), 3) := by decide +kernel
theorem dX11_lays_227 : decode cX11_lays 227 = .ok (.aload_n 0, 1) := by decide +kernel
theorem dX11_lays_228 : decode cX11_lays 228 = .ok (.dup, 1) := by decide +kernel
theorem dX11_lays_229 : decode cX11_lays 229 = .ok (.getfield 124, 3) := by decide +kernel
theorem dX11_lays_232 : decode cX11_lays 232 = .ok (.iconst 1, 1) := by decide +kernel
theorem dX11_lays_233 : decode cX11_lays 233 = .ok (.iadd, 1) := by decide +kernel
theorem dX11_lays_234 : decode cX11_lays 234 = .ok (.putfield 124, 3) := by decide +kernel
theorem dX11_lays_237 : decode cX11_lays 237 = .ok (.iinc 2 1, 3) := by decide +kernel
theorem dX11_lays_240 : decode cX11_lays 240 = .ok (.goto (-225), 3) := by decide +kernel
theorem dX11_lays_243 : decode cX11_lays 243 = .ok (.iinc 1 1, 3) := by decide +kernel
theorem dX11_lays_246 : decode cX11_lays 246 = .ok (.goto (-239), 3) := by decide +kernel
theorem dX11_lays_249 : decode cX11_lays 249 = .ok (.iconst 0, 1) := by decide +kernel
theorem dX11_lays_250 : decode cX11_lays 250 = .ok (.istore_n 1, 1) := by decide +kernel
theorem dX11_lays_251 : decode cX11_lays 251 = .ok (.iload_n 1, 1) := by decide +kernel
theorem dX11_lays_252 : decode cX11_lays 252 = .ok (.bipush 24, 2) := by decide +kernel
theorem dX11_lays_254 : decode cX11_lays 254 = .ok (.if_icmp .ge 17, 3) := by decide +kernel
theorem dX11_lays_257 : decode cX11_lays 257 = .ok (.aload_n 0, 1) := by decide +kernel
theorem dX11_lays_258 : decode cX11_lays 258 = .ok (.getfield 52, 3) := by decide +kernel
theorem dX11_lays_261 : decode cX11_lays 261 = .ok (.iload_n 1, 1) := by decide +kernel
theorem dX11_lays_262 : decode cX11_lays 262 = .ok (.bipush (-4), 2) := by decide +kernel
theorem dX11_lays_264 : decode cX11_lays 264 = .ok (.iastore, 1) := by decide +kernel
theorem dX11_lays_265 : decode cX11_lays 265 = .ok (.iinc 1 1, 3) := by decide +kernel
theorem dX11_lays_268 : decode cX11_lays 268 = .ok (.goto (-17), 3) := by decide +kernel
theorem dX11_lays_271 : decode cX11_lays 271 = .ok (.iconst 0, 1) := by decide +kernel
theorem dX11_lays_272 : decode cX11_lays 272 = .ok (.istore_n 1, 1) := by decide +kernel
theorem dX11_lays_273 : decode cX11_lays 273 = .ok (.iload_n 1, 1) := by decide +kernel
theorem dX11_lays_274 : decode cX11_lays 274 = .ok (.iconst 4, 1) := by decide +kernel
theorem dX11_lays_275 : decode cX11_lays 275 = .ok (.if_icmp .ge 35, 3) := by decide +kernel
theorem dX11_lays_278 : decode cX11_lays 278 = .ok (.aload_n 0, 1) := by decide +kernel
theorem dX11_lays_279 : decode cX11_lays 279 = .ok (.getfield 52, 3) := by decide +kernel
theorem dX11_lays_282 : decode cX11_lays 282 = .ok (.bipush 24, 2) := by decide +kernel
theorem dX11_lays_284 : decode cX11_lays 284 = .ok (.iconst 2, 1) := by decide +kernel
theorem dX11_lays_285 : decode cX11_lays 285 = .ok (.iload_n 1, 1) := by decide +kernel
theorem dX11_lays_286 : decode cX11_lays 286 = .ok (.imul, 1) := by decide +kernel
theorem dX11_lays_287 : decode cX11_lays 287 = .ok (.iadd, 1) := by decide +kernel
theorem dX11_lays_288 : decode cX11_lays 288 = .ok (.iconst 1, 1) := by decide +kernel
theorem dX11_lays_289 : decode cX11_lays 289 = .ok (.iastore, 1) := by decide +kernel
theorem dX11_lays_290 : decode cX11_lays 290 = .ok (.aload_n 0, 1) := by decide +kernel
theorem dX11_lays_291 : decode cX11_lays 291 = .ok (.getfield 52, 3) := by decide +kernel
theorem dX11_lays_294 : decode cX11_lays 294 = .ok (.bipush 24, 2) := by decide +kernel
theorem dX11_lays_296 : decode cX11_lays 296 = .ok (.iconst 2, 1) := by decide +kernel
theorem dX11_lays_297 : decode cX11_lays 297 = .ok (.iload_n 1, 1) := by decide +kernel
theorem dX11_lays_298 : decode cX11_lays 298 = .ok (.imul, 1) := by decide +kernel
theorem dX11_lays_299 : decode cX11_lays 299 = .ok (.iadd, 1) := by decide +kernel
theorem dX11_lays_300 : decode cX11_lays 300 = .ok (.iconst 1, 1) := by decide +kernel
theorem dX11_lays_301 : decode cX11_lays 301 = .ok (.iadd, 1) := by decide +kernel
theorem dX11_lays_302 : decode cX11_lays 302 = .ok (.iconst 0, 1) := by decide +kernel
theorem dX11_lays_303 : decode cX11_lays 303 = .ok (.iastore, 1) := by decide +kernel
theorem dX11_lays_304 : decode cX11_lays 304 = .ok (.iinc 1 1, 3) := by decide +kernel
theorem dX11_lays_307 : decode cX11_lays 307 = .ok (.goto (-34), 3) := by decide +kernel
theorem dX11_lays_310 : decode cX11_lays 310 = .ok (.aload_n 0, 1) := by decide +kernel
theorem dX11_lays_311 : decode cX11_lays 311 = .ok (.iconst 0, 1) := by decide +kernel
theorem dX11_lays_312 : decode cX11_lays 312 = .ok (.putfield 135, 3) := by decide +kernel
theorem dX11_lays_315 : decode cX11_lays 315 = .ok (.return_, 1) := by decide +kernel
theorem dX11_isPass_0 : decode cX11_isPass 0 = .ok (.iload_n 1, 1) := by decide +kernel
theorem dX11_isPass_1 : decode cX11_isPass 1 = .ok (.i2l, 1) := by decide +kernel
theorem dX11_isPass_2 : decode cX11_isPass 2 = .ok (.lconst 0, 1) := by decide +kernel
theorem dX11_isPass_3 : decode cX11_isPass 3 = .ok (.aload_n 0, 1) := by decide +kernel
theorem dX11_isPass_4 : decode cX11_isPass 4 = .ok (.getfield 124, 3) := by decide +kernel
theorem dX11_isPass_7 : decode cX11_isPass 7 = .ok (.iconst 1, 1) := by decide +kernel
theorem dX11_isPass_8 : decode cX11_isPass 8 = .ok (.isub, 1) := by decide +kernel
theorem dX11_isPass_9 : decode cX11_isPass 9 = .ok (.i2l, 1) := by decide +kernel
theorem dX11_isPass_10 : decode cX11_isPass 10 = .ok (.invokestatic 93, 3) := by decide +kernel
theorem dX11_isPass_13 : decode cX11_isPass 13 = .ok (.ireturn, 1) := by decide +kernel
theorem dX11_isAntenna_0 : decode cX11_isAntenna 0 = .ok (.iload_n 1, 1) := by decide +kernel
theorem dX11_isAntenna_1 : decode cX11_isAntenna 1 = .ok (.i2l, 1) := by decide +kernel
theorem dX11_isAntenna_2 : decode cX11_isAntenna 2 = .ok (.lconst 0, 1) := by decide +kernel
theorem dX11_isAntenna_3 : decode cX11_isAntenna 3 = .ok (.aload_n 0, 1) := by decide +kernel
theorem dX11_isAntenna_4 : decode cX11_isAntenna 4 = .ok (.getfield 22, 3) := by decide +kernel
theorem dX11_isAntenna_7 : decode cX11_isAntenna 7 = .ok (.iconst 2, 1) := by decide +kernel
theorem dX11_isAntenna_8 : decode cX11_isAntenna 8 = .ok (.iaload, 1) := by decide +kernel
theorem dX11_isAntenna_9 : decode cX11_isAntenna 9 = .ok (.iconst 1, 1) := by decide +kernel
theorem dX11_isAntenna_10 : decode cX11_isAntenna 10 = .ok (.isub, 1) := by decide +kernel
theorem dX11_isAntenna_11 : decode cX11_isAntenna 11 = .ok (.i2l, 1) := by decide +kernel
theorem dX11_isAntenna_12 : decode cX11_isAntenna 12 = .ok (.invokestatic 93, 3) := by decide +kernel
theorem dX11_isAntenna_15 : decode cX11_isAntenna 15 = .ok (.ireturn, 1) := by decide +kernel
theorem dX11_fits_0 : decode cX11_fits 0 = .ok (.aload_n 0, 1) := by decide +kernel
theorem dX11_fits_1 : decode cX11_fits 1 = .ok (.getfield 19, 3) := by decide +kernel
theorem dX11_fits_4 : decode cX11_fits 4 = .ok (.iconst 3, 1) := by decide +kernel
theorem dX11_fits_5 : decode cX11_fits 5 = .ok (.iload_n 2, 1) := by decide +kernel
theorem dX11_fits_6 : decode cX11_fits 6 = .ok (.imul, 1) := by decide +kernel
theorem dX11_fits_7 : decode cX11_fits 7 = .ok (.iconst 1, 1) := by decide +kernel
theorem dX11_fits_8 : decode cX11_fits 8 = .ok (.iadd, 1) := by decide +kernel
theorem dX11_fits_9 : decode cX11_fits 9 = .ok (.iaload, 1) := by decide +kernel
theorem dX11_fits_10 : decode cX11_fits 10 = .ok (.istore_n 3, 1) := by decide +kernel
theorem dX11_fits_11 : decode cX11_fits 11 = .ok (.aload_n 0, 1) := by decide +kernel
theorem dX11_fits_12 : decode cX11_fits 12 = .ok (.getfield 52, 3) := by decide +kernel
theorem dX11_fits_15 : decode cX11_fits 15 = .ok (.bipush 24, 2) := by decide +kernel
theorem dX11_fits_17 : decode cX11_fits 17 = .ok (.iconst 2, 1) := by decide +kernel
theorem dX11_fits_18 : decode cX11_fits 18 = .ok (.iload_n 2, 1) := by decide +kernel
theorem dX11_fits_19 : decode cX11_fits 19 = .ok (.imul, 1) := by decide +kernel
theorem dX11_fits_20 : decode cX11_fits 20 = .ok (.iadd, 1) := by decide +kernel
theorem dX11_fits_21 : decode cX11_fits 21 = .ok (.iaload, 1) := by decide +kernel
theorem dX11_fits_22 : decode cX11_fits 22 = .ok (.aload_n 0, 1) := by decide +kernel
theorem dX11_fits_23 : decode cX11_fits 23 = .ok (.getfield 52, 3) := by decide +kernel
theorem dX11_fits_26 : decode cX11_fits 26 = .ok (.bipush 24, 2) := by decide +kernel
theorem dX11_fits_28 : decode cX11_fits 28 = .ok (.iconst 2, 1) := by decide +kernel
theorem dX11_fits_29 : decode cX11_fits 29 = .ok (.iload_n 2, 1) := by decide +kernel
theorem dX11_fits_30 : decode cX11_fits 30 = .ok (.imul, 1) := by decide +kernel
theorem dX11_fits_31 : decode cX11_fits 31 = .ok (.iadd, 1) := by decide +kernel
theorem dX11_fits_32 : decode cX11_fits 32 = .ok (.iconst 1, 1) := by decide +kernel
theorem dX11_fits_33 : decode cX11_fits 33 = .ok (.iadd, 1) := by decide +kernel
theorem dX11_fits_34 : decode cX11_fits 34 = .ok (.iaload, 1) := by decide +kernel
theorem dX11_fits_35 : decode cX11_fits 35 = .ok (.if_icmp .gt 49, 3) := by decide +kernel
theorem dX11_fits_38 : decode cX11_fits 38 = .ok (.aload_n 0, 1) := by decide +kernel
theorem dX11_fits_39 : decode cX11_fits 39 = .ok (.getfield 37, 3) := by decide +kernel
theorem dX11_fits_42 : decode cX11_fits 42 = .ok (.iload_n 1, 1) := by decide +kernel
theorem dX11_fits_43 : decode cX11_fits 43 = .ok (.iaload, 1) := by decide +kernel
theorem dX11_fits_44 : decode cX11_fits 44 = .ok (.aload_n 0, 1) := by decide +kernel
theorem dX11_fits_45 : decode cX11_fits 45 = .ok (.getfield 52, 3) := by decide +kernel
theorem dX11_fits_48 : decode cX11_fits 48 = .ok (.bipush 24, 2) := by decide +kernel
theorem dX11_fits_50 : decode cX11_fits 50 = .ok (.iconst 2, 1) := by decide +kernel
theorem dX11_fits_51 : decode cX11_fits 51 = .ok (.iload_n 2, 1) := by decide +kernel
theorem dX11_fits_52 : decode cX11_fits 52 = .ok (.imul, 1) := by decide +kernel
theorem dX11_fits_53 : decode cX11_fits 53 = .ok (.iadd, 1) := by decide +kernel
theorem dX11_fits_54 : decode cX11_fits 54 = .ok (.iconst 1, 1) := by decide +kernel
theorem dX11_fits_55 : decode cX11_fits 55 = .ok (.iadd, 1) := by decide +kernel
theorem dX11_fits_56 : decode cX11_fits 56 = .ok (.iaload, 1) := by decide +kernel
theorem dX11_fits_57 : decode cX11_fits 57 = .ok (.if_icmp .gt 27, 3) := by decide +kernel
theorem dX11_fits_60 : decode cX11_fits 60 = .ok (.aload_n 0, 1) := by decide +kernel
theorem dX11_fits_61 : decode cX11_fits 61 = .ok (.getfield 40, 3) := by decide +kernel
theorem dX11_fits_64 : decode cX11_fits 64 = .ok (.iload_n 1, 1) := by decide +kernel
theorem dX11_fits_65 : decode cX11_fits 65 = .ok (.iaload, 1) := by decide +kernel
theorem dX11_fits_66 : decode cX11_fits 66 = .ok (.aload_n 0, 1) := by decide +kernel
theorem dX11_fits_67 : decode cX11_fits 67 = .ok (.getfield 52, 3) := by decide +kernel
theorem dX11_fits_70 : decode cX11_fits 70 = .ok (.bipush 24, 2) := by decide +kernel
theorem dX11_fits_72 : decode cX11_fits 72 = .ok (.iconst 2, 1) := by decide +kernel
theorem dX11_fits_73 : decode cX11_fits 73 = .ok (.iload_n 2, 1) := by decide +kernel
theorem dX11_fits_74 : decode cX11_fits 74 = .ok (.imul, 1) := by decide +kernel
theorem dX11_fits_75 : decode cX11_fits 75 = .ok (.iadd, 1) := by decide +kernel
theorem dX11_fits_76 : decode cX11_fits 76 = .ok (.iaload, 1) := by decide +kernel
theorem dX11_fits_77 : decode cX11_fits 77 = .ok (.if_icmp .lt 7, 3) := by decide +kernel
theorem dX11_fits_80 : decode cX11_fits 80 = .ok (.iconst 1, 1) := by decide +kernel
theorem dX11_fits_81 : decode cX11_fits 81 = .ok (.goto 4, 3) := by decide +kernel
theorem dX11_fits_84 : decode cX11_fits 84 = .ok (.iconst 0, 1) := by decide +kernel
theorem dX11_fits_85 : decode cX11_fits 85 = .ok (.istore 4, 2) := by decide +kernel
theorem dX11_fits_87 : decode cX11_fits 87 = .ok (.aload_n 0, 1) := by decide +kernel
theorem dX11_fits_88 : decode cX11_fits 88 = .ok (.getfield 19, 3) := by decide +kernel
theorem dX11_fits_91 : decode cX11_fits 91 = .ok (.iconst 3, 1) := by decide +kernel
theorem dX11_fits_92 : decode cX11_fits 92 = .ok (.iload_n 2, 1) := by decide +kernel
theorem dX11_fits_93 : decode cX11_fits 93 = .ok (.imul, 1) := by decide +kernel
theorem dX11_fits_94 : decode cX11_fits 94 = .ok (.iaload, 1) := by decide +kernel
theorem dX11_fits_95 : decode cX11_fits 95 = .ok (.aload_n 0, 1) := by decide +kernel
theorem dX11_fits_96 : decode cX11_fits 96 = .ok (.getfield 46, 3) := by decide +kernel
theorem dX11_fits_99 : decode cX11_fits 99 = .ok (.iload_n 1, 1) := by decide +kernel
theorem dX11_fits_100 : decode cX11_fits 100 = .ok (.iaload, 1) := by decide +kernel
theorem dX11_fits_101 : decode cX11_fits 101 = .ok (.if_icmp .ne 36, 3) := by decide +kernel
theorem dX11_fits_104 : decode cX11_fits 104 = .ok (.iload_n 3, 1) := by decide +kernel
theorem dX11_fits_105 : decode cX11_fits 105 = .ok (.iconst 2, 1) := by decide +kernel
theorem dX11_fits_106 : decode cX11_fits 106 = .ok (.if_icmp .eq 22, 3) := by decide +kernel
theorem dX11_fits_109 : decode cX11_fits 109 = .ok (.iload_n 3, 1) := by decide +kernel
theorem dX11_fits_110 : decode cX11_fits 110 = .ok (.aload_n 0, 1) := by decide +kernel
theorem dX11_fits_111 : decode cX11_fits 111 = .ok (.getfield 13, 3) := by decide +kernel
theorem dX11_fits_114 : decode cX11_fits 114 = .ok (.iconst 5, 1) := by decide +kernel
theorem dX11_fits_115 : decode cX11_fits 115 = .ok (.aload_n 0, 1) := by decide +kernel
theorem dX11_fits_116 : decode cX11_fits 116 = .ok (.getfield 43, 3) := by decide +kernel
theorem dX11_fits_119 : decode cX11_fits 119 = .ok (.iload_n 1, 1) := by decide +kernel
theorem dX11_fits_120 : decode cX11_fits 120 = .ok (.iaload, 1) := by decide +kernel
theorem dX11_fits_121 : decode cX11_fits 121 = .ok (.imul, 1) := by decide +kernel
theorem dX11_fits_122 : decode cX11_fits 122 = .ok (.iconst 2, 1) := by decide +kernel
theorem dX11_fits_123 : decode cX11_fits 123 = .ok (.iadd, 1) := by decide +kernel
theorem dX11_fits_124 : decode cX11_fits 124 = .ok (.iaload, 1) := by decide +kernel
theorem dX11_fits_125 : decode cX11_fits 125 = .ok (.if_icmp .ne 12, 3) := by decide +kernel
theorem dX11_fits_128 : decode cX11_fits 128 = .ok (.iload 4, 2) := by decide +kernel
theorem dX11_fits_130 : decode cX11_fits 130 = .ok (.ifCond .ne 7, 3) := by decide +kernel
theorem dX11_fits_133 : decode cX11_fits 133 = .ok (.iconst 1, 1) := by decide +kernel
theorem dX11_fits_134 : decode cX11_fits 134 = .ok (.goto 4, 3) := by decide +kernel
theorem dX11_fits_137 : decode cX11_fits 137 = .ok (.iconst 0, 1) := by decide +kernel
theorem dX11_fits_138 : decode cX11_fits 138 = .ok (.ireturn, 1) := by decide +kernel
theorem dX11_together_0 : decode cX11_together 0 = .ok (.aload_n 0, 1) := by decide +kernel
theorem dX11_together_1 : decode cX11_together 1 = .ok (.getfield 19, 3) := by decide +kernel
theorem dX11_together_4 : decode cX11_together 4 = .ok (.iconst 3, 1) := by decide +kernel
theorem dX11_together_5 : decode cX11_together 5 = .ok (.iload_n 3, 1) := by decide +kernel
theorem dX11_together_6 : decode cX11_together 6 = .ok (.imul, 1) := by decide +kernel
theorem dX11_together_7 : decode cX11_together 7 = .ok (.iconst 2, 1) := by decide +kernel
theorem dX11_together_8 : decode cX11_together 8 = .ok (.iadd, 1) := by decide +kernel
theorem dX11_together_9 : decode cX11_together 9 = .ok (.iaload, 1) := by decide +kernel
theorem dX11_together_10 : decode cX11_together 10 = .ok (.istore 4, 2) := by decide +kernel
theorem dX11_together_12 : decode cX11_together 12 = .ok (.aload_n 0, 1) := by decide +kernel
theorem dX11_together_13 : decode cX11_together 13 = .ok (.getfield 37, 3) := by decide +kernel
theorem dX11_together_16 : decode cX11_together 16 = .ok (.iload_n 2, 1) := by decide +kernel
theorem dX11_together_17 : decode cX11_together 17 = .ok (.iaload, 1) := by decide +kernel
theorem dX11_together_18 : decode cX11_together 18 = .ok (.aload_n 0, 1) := by decide +kernel
theorem dX11_together_19 : decode cX11_together 19 = .ok (.getfield 40, 3) := by decide +kernel
theorem dX11_together_22 : decode cX11_together 22 = .ok (.iload_n 1, 1) := by decide +kernel
theorem dX11_together_23 : decode cX11_together 23 = .ok (.iaload, 1) := by decide +kernel
theorem dX11_together_24 : decode cX11_together 24 = .ok (.isub, 1) := by decide +kernel
theorem dX11_together_25 : decode cX11_together 25 = .ok (.iload 4, 2) := by decide +kernel
theorem dX11_together_27 : decode cX11_together 27 = .ok (.if_icmp .gt 21, 3) := by decide +kernel
theorem dX11_together_30 : decode cX11_together 30 = .ok (.aload_n 0, 1) := by decide +kernel
theorem dX11_together_31 : decode cX11_together 31 = .ok (.getfield 37, 3) := by decide +kernel
theorem dX11_together_34 : decode cX11_together 34 = .ok (.iload_n 1, 1) := by decide +kernel
theorem dX11_together_35 : decode cX11_together 35 = .ok (.iaload, 1) := by decide +kernel
theorem dX11_together_36 : decode cX11_together 36 = .ok (.aload_n 0, 1) := by decide +kernel
theorem dX11_together_37 : decode cX11_together 37 = .ok (.getfield 40, 3) := by decide +kernel
theorem dX11_together_40 : decode cX11_together 40 = .ok (.iload_n 2, 1) := by decide +kernel
theorem dX11_together_41 : decode cX11_together 41 = .ok (.iaload, 1) := by decide +kernel
theorem dX11_together_42 : decode cX11_together 42 = .ok (.isub, 1) := by decide +kernel
theorem dX11_together_43 : decode cX11_together 43 = .ok (.iload 4, 2) := by decide +kernel
theorem dX11_together_45 : decode cX11_together 45 = .ok (.if_icmp .le 7, 3) := by decide +kernel
theorem dX11_together_48 : decode cX11_together 48 = .ok (.iconst 1, 1) := by decide +kernel
theorem dX11_together_49 : decode cX11_together 49 = .ok (.goto 4, 3) := by decide +kernel
theorem dX11_together_52 : decode cX11_together 52 = .ok (.iconst 0, 1) := by decide +kernel
theorem dX11_together_53 : decode cX11_together 53 = .ok (.ireturn, 1) := by decide +kernel
theorem dX11_overlap_0 : decode cX11_overlap 0 = .ok (.aload_n 0, 1) := by decide +kernel
theorem dX11_overlap_1 : decode cX11_overlap 1 = .ok (.getfield 37, 3) := by decide +kernel
theorem dX11_overlap_4 : decode cX11_overlap 4 = .ok (.iload_n 1, 1) := by decide +kernel
theorem dX11_overlap_5 : decode cX11_overlap 5 = .ok (.iaload, 1) := by decide +kernel
theorem dX11_overlap_6 : decode cX11_overlap 6 = .ok (.aload_n 0, 1) := by decide +kernel
theorem dX11_overlap_7 : decode cX11_overlap 7 = .ok (.getfield 40, 3) := by decide +kernel
theorem dX11_overlap_10 : decode cX11_overlap 10 = .ok (.iload_n 2, 1) := by decide +kernel
theorem dX11_overlap_11 : decode cX11_overlap 11 = .ok (.iaload, 1) := by decide +kernel
theorem dX11_overlap_12 : decode cX11_overlap 12 = .ok (.if_icmp .gt 22, 3) := by decide +kernel
theorem dX11_overlap_15 : decode cX11_overlap 15 = .ok (.aload_n 0, 1) := by decide +kernel
theorem dX11_overlap_16 : decode cX11_overlap 16 = .ok (.getfield 37, 3) := by decide +kernel
theorem dX11_overlap_19 : decode cX11_overlap 19 = .ok (.iload_n 2, 1) := by decide +kernel
theorem dX11_overlap_20 : decode cX11_overlap 20 = .ok (.iaload, 1) := by decide +kernel
theorem dX11_overlap_21 : decode cX11_overlap 21 = .ok (.aload_n 0, 1) := by decide +kernel
theorem dX11_overlap_22 : decode cX11_overlap 22 = .ok (.getfield 40, 3) := by decide +kernel
theorem dX11_overlap_25 : decode cX11_overlap 25 = .ok (.iload_n 1, 1) := by decide +kernel
theorem dX11_overlap_26 : decode cX11_overlap 26 = .ok (.iaload, 1) := by decide +kernel
theorem dX11_overlap_27 : decode cX11_overlap 27 = .ok (.if_icmp .gt 7, 3) := by decide +kernel
theorem dX11_overlap_30 : decode cX11_overlap 30 = .ok (.iconst 1, 1) := by decide +kernel
theorem dX11_overlap_31 : decode cX11_overlap 31 = .ok (.goto 4, 3) := by decide +kernel
theorem dX11_overlap_34 : decode cX11_overlap 34 = .ok (.iconst 0, 1) := by decide +kernel
theorem dX11_overlap_35 : decode cX11_overlap 35 = .ok (.ireturn, 1) := by decide +kernel
theorem dX11_sumOf_0 : decode cX11_sumOf 0 = .ok (.iconst 0, 1) := by decide +kernel
theorem dX11_sumOf_1 : decode cX11_sumOf 1 = .ok (.istore_n 3, 1) := by decide +kernel
theorem dX11_sumOf_2 : decode cX11_sumOf 2 = .ok (.iconst 0, 1) := by decide +kernel
theorem dX11_sumOf_3 : decode cX11_sumOf 3 = .ok (.istore 4, 2) := by decide +kernel
theorem dX11_sumOf_5 : decode cX11_sumOf 5 = .ok (.iload 4, 2) := by decide +kernel
theorem dX11_sumOf_7 : decode cX11_sumOf 7 = .ok (.aload_n 0, 1) := by decide +kernel
theorem dX11_sumOf_8 : decode cX11_sumOf 8 = .ok (.getfield 124, 3) := by decide +kernel
theorem dX11_sumOf_11 : decode cX11_sumOf 11 = .ok (.if_icmp .ge 124, 3) := by decide +kernel
theorem dX11_sumOf_14 : decode cX11_sumOf 14 = .ok (.iload_n 1, 1) := by decide +kernel
theorem dX11_sumOf_15 : decode cX11_sumOf 15 = .ok (.ifCond .ne 22, 3) := by decide +kernel
theorem dX11_sumOf_18 : decode cX11_sumOf 18 = .ok (.aload_n 0, 1) := by decide +kernel
theorem dX11_sumOf_19 : decode cX11_sumOf 19 = .ok (.getfield 43, 3) := by decide +kernel
theorem dX11_sumOf_22 : decode cX11_sumOf 22 = .ok (.iload 4, 2) := by decide +kernel
theorem dX11_sumOf_24 : decode cX11_sumOf 24 = .ok (.iaload, 1) := by decide +kernel
theorem dX11_sumOf_25 : decode cX11_sumOf 25 = .ok (.iload_n 2, 1) := by decide +kernel
theorem dX11_sumOf_26 : decode cX11_sumOf 26 = .ok (.if_icmp .ne 7, 3) := by decide +kernel
theorem dX11_sumOf_29 : decode cX11_sumOf 29 = .ok (.iconst 1, 1) := by decide +kernel
theorem dX11_sumOf_30 : decode cX11_sumOf 30 = .ok (.goto 59, 3) := by decide +kernel
theorem dX11_sumOf_33 : decode cX11_sumOf 33 = .ok (.iconst 0, 1) := by decide +kernel
theorem dX11_sumOf_34 : decode cX11_sumOf 34 = .ok (.goto 55, 3) := by decide +kernel
theorem dX11_sumOf_37 : decode cX11_sumOf 37 = .ok (.iload_n 1, 1) := by decide +kernel
theorem dX11_sumOf_38 : decode cX11_sumOf 38 = .ok (.iconst 1, 1) := by decide +kernel
theorem dX11_sumOf_39 : decode cX11_sumOf 39 = .ok (.if_icmp .ne 34, 3) := by decide +kernel
theorem dX11_sumOf_42 : decode cX11_sumOf 42 = .ok (.aload_n 0, 1) := by decide +kernel
theorem dX11_sumOf_43 : decode cX11_sumOf 43 = .ok (.getfield 43, 3) := by decide +kernel
theorem dX11_sumOf_46 : decode cX11_sumOf 46 = .ok (.iload 4, 2) := by decide +kernel
theorem dX11_sumOf_48 : decode cX11_sumOf 48 = .ok (.iaload, 1) := by decide +kernel
theorem dX11_sumOf_49 : decode cX11_sumOf 49 = .ok (.iload_n 2, 1) := by decide +kernel
theorem dX11_sumOf_50 : decode cX11_sumOf 50 = .ok (.if_icmp .ne 19, 3) := by decide +kernel
theorem dX11_sumOf_53 : decode cX11_sumOf 53 = .ok (.aload_n 0, 1) := by decide +kernel
theorem dX11_sumOf_54 : decode cX11_sumOf 54 = .ok (.getfield 52, 3) := by decide +kernel
theorem dX11_sumOf_57 : decode cX11_sumOf 57 = .ok (.iload 4, 2) := by decide +kernel
theorem dX11_sumOf_59 : decode cX11_sumOf 59 = .ok (.iaload, 1) := by decide +kernel
theorem dX11_sumOf_60 : decode cX11_sumOf 60 = .ok (.bipush (-4), 2) := by decide +kernel
theorem dX11_sumOf_62 : decode cX11_sumOf 62 = .ok (.if_icmp .eq 7, 3) := by decide +kernel
theorem dX11_sumOf_65 : decode cX11_sumOf 65 = .ok (.iconst 1, 1) := by decide +kernel
theorem dX11_sumOf_66 : decode cX11_sumOf 66 = .ok (.goto 23, 3) := by decide +kernel
theorem dX11_sumOf_69 : decode cX11_sumOf 69 = .ok (.iconst 0, 1) := by decide +kernel
theorem dX11_sumOf_70 : decode cX11_sumOf 70 = .ok (.goto 19, 3) := by decide +kernel
theorem dX11_sumOf_73 : decode cX11_sumOf 73 = .ok (.aload_n 0, 1) := by decide +kernel
theorem dX11_sumOf_74 : decode cX11_sumOf 74 = .ok (.getfield 52, 3) := by decide +kernel
theorem dX11_sumOf_77 : decode cX11_sumOf 77 = .ok (.iload 4, 2) := by decide +kernel
theorem dX11_sumOf_79 : decode cX11_sumOf 79 = .ok (.iaload, 1) := by decide +kernel
theorem dX11_sumOf_80 : decode cX11_sumOf 80 = .ok (.iload_n 2, 1) := by decide +kernel
theorem dX11_sumOf_81 : decode cX11_sumOf 81 = .ok (.if_icmp .ne 7, 3) := by decide +kernel
theorem dX11_sumOf_84 : decode cX11_sumOf 84 = .ok (.iconst 1, 1) := by decide +kernel
theorem dX11_sumOf_85 : decode cX11_sumOf 85 = .ok (.goto 4, 3) := by decide +kernel
theorem dX11_sumOf_88 : decode cX11_sumOf 88 = .ok (.iconst 0, 1) := by decide +kernel
theorem dX11_sumOf_89 : decode cX11_sumOf 89 = .ok (.istore 5, 2) := by decide +kernel
theorem dX11_sumOf_91 : decode cX11_sumOf 91 = .ok (.iload_n 3, 1) := by decide +kernel
theorem dX11_sumOf_92 : decode cX11_sumOf 92 = .ok (.iload 5, 2) := by decide +kernel
theorem dX11_sumOf_94 : decode cX11_sumOf 94 = .ok (.ifCond .ne 7, 3) := by decide +kernel
theorem dX11_sumOf_97 : decode cX11_sumOf 97 = .ok (.iconst 0, 1) := by decide +kernel
theorem dX11_sumOf_98 : decode cX11_sumOf 98 = .ok (.goto 29, 3) := by decide +kernel
theorem dX11_sumOf_101 : decode cX11_sumOf 101 = .ok (.iload_n 1, 1) := by decide +kernel
theorem dX11_sumOf_102 : decode cX11_sumOf 102 = .ok (.iconst 3, 1) := by decide +kernel
theorem dX11_sumOf_103 : decode cX11_sumOf 103 = .ok (.if_icmp .ne 23, 3) := by decide +kernel
theorem dX11_sumOf_106 : decode cX11_sumOf 106 = .ok (.aload_n 0, 1) := by decide +kernel
theorem dX11_sumOf_107 : decode cX11_sumOf 107 = .ok (.getfield 40, 3) := by decide +kernel
theorem dX11_sumOf_110 : decode cX11_sumOf 110 = .ok (.iload 4, 2) := by decide +kernel
theorem dX11_sumOf_112 : decode cX11_sumOf 112 = .ok (.iaload, 1) := by decide +kernel
theorem dX11_sumOf_113 : decode cX11_sumOf 113 = .ok (.aload_n 0, 1) := by decide +kernel
theorem dX11_sumOf_114 : decode cX11_sumOf 114 = .ok (.getfield 37, 3) := by decide +kernel
theorem dX11_sumOf_117 : decode cX11_sumOf 117 = .ok (.iload 4, 2) := by decide +kernel
theorem dX11_sumOf_119 : decode cX11_sumOf 119 = .ok (.iaload, 1) := by decide +kernel
theorem dX11_sumOf_120 : decode cX11_sumOf 120 = .ok (.isub, 1) := by decide +kernel
theorem dX11_sumOf_121 : decode cX11_sumOf 121 = .ok (.iconst 1, 1) := by decide +kernel
theorem dX11_sumOf_122 : decode cX11_sumOf 122 = .ok (.iadd, 1) := by decide +kernel
theorem dX11_sumOf_123 : decode cX11_sumOf 123 = .ok (.goto 4, 3) := by decide +kernel
theorem dX11_sumOf_126 : decode cX11_sumOf 126 = .ok (.iconst 1, 1) := by decide +kernel
theorem dX11_sumOf_127 : decode cX11_sumOf 127 = .ok (.iadd, 1) := by decide +kernel
theorem dX11_sumOf_128 : decode cX11_sumOf 128 = .ok (.istore_n 3, 1) := by decide +kernel
theorem dX11_sumOf_129 : decode cX11_sumOf 129 = .ok (.iinc 4 1, 3) := by decide +kernel
theorem dX11_sumOf_132 : decode cX11_sumOf 132 = .ok (.goto (-127), 3) := by decide +kernel
theorem dX11_sumOf_135 : decode cX11_sumOf 135 = .ok (.iload_n 3, 1) := by decide +kernel
theorem dX11_sumOf_136 : decode cX11_sumOf 136 = .ok (.ireturn, 1) := by decide +kernel
theorem dX11_sat_0 : decode cX11_sat 0 = .ok (.iload_n 1, 1) := by decide +kernel
theorem dX11_sat_1 : decode cX11_sat 1 = .ok (.i2l, 1) := by decide +kernel
theorem dX11_sat_2 : decode cX11_sat 2 = .ok (.lconst 0, 1) := by decide +kernel
theorem dX11_sat_3 : decode cX11_sat 3 = .ok (.aload_n 0, 1) := by decide +kernel
theorem dX11_sat_4 : decode cX11_sat 4 = .ok (.getfield 22, 3) := by decide +kernel
theorem dX11_sat_7 : decode cX11_sat 7 = .ok (.iconst 0, 1) := by decide +kernel
theorem dX11_sat_8 : decode cX11_sat 8 = .ok (.iaload, 1) := by decide +kernel
theorem dX11_sat_9 : decode cX11_sat 9 = .ok (.iconst 1, 1) := by decide +kernel
theorem dX11_sat_10 : decode cX11_sat 10 = .ok (.isub, 1) := by decide +kernel
theorem dX11_sat_11 : decode cX11_sat 11 = .ok (.i2l, 1) := by decide +kernel
theorem dX11_sat_12 : decode cX11_sat 12 = .ok (.invokestatic 93, 3) := by decide +kernel
theorem dX11_sat_15 : decode cX11_sat 15 = .ok (.ifCond .eq 15, 3) := by decide +kernel
theorem dX11_sat_18 : decode cX11_sat 18 = .ok (.iload_n 2, 1) := by decide +kernel
theorem dX11_sat_19 : decode cX11_sat 19 = .ok (.i2l, 1) := by decide +kernel
theorem dX11_sat_20 : decode cX11_sat 20 = .ok (.lconst 0, 1) := by decide +kernel
theorem dX11_sat_21 : decode cX11_sat 21 = .ok (.ldc2_w 138, 3) := by decide +kernel
theorem dX11_sat_24 : decode cX11_sat 24 = .ok (.invokestatic 93, 3) := by decide +kernel
theorem dX11_sat_27 : decode cX11_sat 27 = .ok (.ifCond .ne 5, 3) := by decide +kernel
theorem dX11_sat_30 : decode cX11_sat 30 = .ok (.iconst (-1), 1) := by decide +kernel
theorem dX11_sat_31 : decode cX11_sat 31 = .ok (.ireturn, 1) := by decide +kernel
theorem dX11_sat_32 : decode cX11_sat 32 = .ok (.iload_n 2, 1) := by decide +kernel
theorem dX11_sat_33 : decode cX11_sat 33 = .ok (.iconst 5, 1) := by decide +kernel
theorem dX11_sat_34 : decode cX11_sat 34 = .ok (.if_icmp .ge 16, 3) := by decide +kernel
theorem dX11_sat_37 : decode cX11_sat 37 = .ok (.aload_n 0, 1) := by decide +kernel
theorem dX11_sat_38 : decode cX11_sat 38 = .ok (.getfield 13, 3) := by decide +kernel
theorem dX11_sat_41 : decode cX11_sat 41 = .ok (.iconst 5, 1) := by decide +kernel
theorem dX11_sat_42 : decode cX11_sat 42 = .ok (.iload_n 1, 1) := by decide +kernel
theorem dX11_sat_43 : decode cX11_sat 43 = .ok (.imul, 1) := by decide +kernel
theorem dX11_sat_44 : decode cX11_sat 44 = .ok (.iload_n 2, 1) := by decide +kernel
theorem dX11_sat_45 : decode cX11_sat 45 = .ok (.iadd, 1) := by decide +kernel
theorem dX11_sat_46 : decode cX11_sat 46 = .ok (.iaload, 1) := by decide +kernel
theorem dX11_sat_47 : decode cX11_sat 47 = .ok (.goto 11, 3) := by decide +kernel
theorem dX11_sat_50 : decode cX11_sat 50 = .ok (.aload_n 0, 1) := by decide +kernel
theorem dX11_sat_51 : decode cX11_sat 51 = .ok (.iload_n 2, 1) := by decide +kernel
theorem dX11_sat_52 : decode cX11_sat 52 = .ok (.iconst 5, 1) := by decide +kernel
theorem dX11_sat_53 : decode cX11_sat 53 = .ok (.isub, 1) := by decide +kernel
theorem dX11_sat_54 : decode cX11_sat 54 = .ok (.iload_n 1, 1) := by decide +kernel
theorem dX11_sat_55 : decode cX11_sat 55 = .ok (.invokevirtual 140, 3) := by decide +kernel
theorem dX11_sat_58 : decode cX11_sat 58 = .ok (.ireturn, 1) := by decide +kernel
theorem dX11_antenna_0 : decode cX11_antenna 0 = .ok (.aload_n 0, 1) := by decide +kernel
theorem dX11_antenna_1 : decode cX11_antenna 1 = .ok (.iload_n 1, 1) := by decide +kernel
theorem dX11_antenna_2 : decode cX11_antenna 2 = .ok (.invokevirtual 144, 3) := by decide +kernel
theorem dX11_antenna_5 : decode cX11_antenna 5 = .ok (.ifCond .eq 15, 3) := by decide +kernel
theorem dX11_antenna_8 : decode cX11_antenna 8 = .ok (.iload_n 2, 1) := by decide +kernel
theorem dX11_antenna_9 : decode cX11_antenna 9 = .ok (.i2l, 1) := by decide +kernel
theorem dX11_antenna_10 : decode cX11_antenna 10 = .ok (.lconst 0, 1) := by decide +kernel
theorem dX11_antenna_11 : decode cX11_antenna 11 = .ok (.ldc2_w 138, 3) := by decide +kernel
theorem dX11_antenna_14 : decode cX11_antenna 14 = .ok (.invokestatic 93, 3) := by decide +kernel
theorem dX11_antenna_17 : decode cX11_antenna 17 = .ok (.ifCond .ne 5, 3) := by decide +kernel
theorem dX11_antenna_20 : decode cX11_antenna 20 = .ok (.iconst (-1), 1) := by decide +kernel
theorem dX11_antenna_21 : decode cX11_antenna 21 = .ok (.ireturn, 1) := by decide +kernel
theorem dX11_antenna_22 : decode cX11_antenna 22 = .ok (.aload_n 0, 1) := by decide +kernel
theorem dX11_antenna_23 : decode cX11_antenna 23 = .ok (.getfield 52, 3) := by decide +kernel
theorem dX11_antenna_26 : decode cX11_antenna 26 = .ok (.bipush 24, 2) := by decide +kernel
theorem dX11_antenna_28 : decode cX11_antenna 28 = .ok (.iconst 2, 1) := by decide +kernel
theorem dX11_antenna_29 : decode cX11_antenna 29 = .ok (.iload_n 1, 1) := by decide +kernel
theorem dX11_antenna_30 : decode cX11_antenna 30 = .ok (.imul, 1) := by decide +kernel
theorem dX11_antenna_31 : decode cX11_antenna 31 = .ok (.iadd, 1) := by decide +kernel
theorem dX11_antenna_32 : decode cX11_antenna 32 = .ok (.iaload, 1) := by decide +kernel
theorem dX11_antenna_33 : decode cX11_antenna 33 = .ok (.aload_n 0, 1) := by decide +kernel
theorem dX11_antenna_34 : decode cX11_antenna 34 = .ok (.getfield 52, 3) := by decide +kernel
theorem dX11_antenna_37 : decode cX11_antenna 37 = .ok (.bipush 24, 2) := by decide +kernel
theorem dX11_antenna_39 : decode cX11_antenna 39 = .ok (.iconst 2, 1) := by decide +kernel
theorem dX11_antenna_40 : decode cX11_antenna 40 = .ok (.iload_n 1, 1) := by decide +kernel
theorem dX11_antenna_41 : decode cX11_antenna 41 = .ok (.imul, 1) := by decide +kernel
theorem dX11_antenna_42 : decode cX11_antenna 42 = .ok (.iadd, 1) := by decide +kernel
theorem dX11_antenna_43 : decode cX11_antenna 43 = .ok (.iconst 1, 1) := by decide +kernel
theorem dX11_antenna_44 : decode cX11_antenna 44 = .ok (.iadd, 1) := by decide +kernel
theorem dX11_antenna_45 : decode cX11_antenna 45 = .ok (.iaload, 1) := by decide +kernel
theorem dX11_antenna_46 : decode cX11_antenna 46 = .ok (.if_icmp .gt 7, 3) := by decide +kernel
theorem dX11_antenna_49 : decode cX11_antenna 49 = .ok (.iconst 1, 1) := by decide +kernel
theorem dX11_antenna_50 : decode cX11_antenna 50 = .ok (.goto 4, 3) := by decide +kernel
theorem dX11_antenna_53 : decode cX11_antenna 53 = .ok (.iconst 0, 1) := by decide +kernel
theorem dX11_antenna_54 : decode cX11_antenna 54 = .ok (.istore_n 3, 1) := by decide +kernel
theorem dX11_antenna_55 : decode cX11_antenna 55 = .ok (.iload_n 2, 1) := by decide +kernel
theorem dX11_antenna_56 : decode cX11_antenna 56 = .ok (.iconst 3, 1) := by decide +kernel
theorem dX11_antenna_57 : decode cX11_antenna 57 = .ok (.if_icmp .ge 16, 3) := by decide +kernel
theorem dX11_antenna_60 : decode cX11_antenna 60 = .ok (.aload_n 0, 1) := by decide +kernel
theorem dX11_antenna_61 : decode cX11_antenna 61 = .ok (.getfield 19, 3) := by decide +kernel
theorem dX11_antenna_64 : decode cX11_antenna 64 = .ok (.iconst 3, 1) := by decide +kernel
theorem dX11_antenna_65 : decode cX11_antenna 65 = .ok (.iload_n 1, 1) := by decide +kernel
theorem dX11_antenna_66 : decode cX11_antenna 66 = .ok (.imul, 1) := by decide +kernel
theorem dX11_antenna_67 : decode cX11_antenna 67 = .ok (.iload_n 2, 1) := by decide +kernel
theorem dX11_antenna_68 : decode cX11_antenna 68 = .ok (.iadd, 1) := by decide +kernel
theorem dX11_antenna_69 : decode cX11_antenna 69 = .ok (.iaload, 1) := by decide +kernel
theorem dX11_antenna_70 : decode cX11_antenna 70 = .ok (.goto 43, 3) := by decide +kernel
theorem dX11_antenna_73 : decode cX11_antenna 73 = .ok (.iload_n 2, 1) := by decide +kernel
theorem dX11_antenna_74 : decode cX11_antenna 74 = .ok (.iconst 5, 1) := by decide +kernel
theorem dX11_antenna_75 : decode cX11_antenna 75 = .ok (.if_icmp .ge 30, 3) := by decide +kernel
theorem dX11_antenna_78 : decode cX11_antenna 78 = .ok (.iload_n 3, 1) := by decide +kernel
theorem dX11_antenna_79 : decode cX11_antenna 79 = .ok (.ifCond .eq 21, 3) := by decide +kernel
theorem dX11_antenna_82 : decode cX11_antenna 82 = .ok (.aload_n 0, 1) := by decide +kernel
theorem dX11_antenna_83 : decode cX11_antenna 83 = .ok (.getfield 52, 3) := by decide +kernel
theorem dX11_antenna_86 : decode cX11_antenna 86 = .ok (.bipush 24, 2) := by decide +kernel
theorem dX11_antenna_88 : decode cX11_antenna 88 = .ok (.iconst 2, 1) := by decide +kernel
theorem dX11_antenna_89 : decode cX11_antenna 89 = .ok (.iload_n 1, 1) := by decide +kernel
theorem dX11_antenna_90 : decode cX11_antenna 90 = .ok (.imul, 1) := by decide +kernel
theorem dX11_antenna_91 : decode cX11_antenna 91 = .ok (.iadd, 1) := by decide +kernel
theorem dX11_antenna_92 : decode cX11_antenna 92 = .ok (.iload_n 2, 1) := by decide +kernel
theorem dX11_antenna_93 : decode cX11_antenna 93 = .ok (.iadd, 1) := by decide +kernel
theorem dX11_antenna_94 : decode cX11_antenna 94 = .ok (.iconst 3, 1) := by decide +kernel
theorem dX11_antenna_95 : decode cX11_antenna 95 = .ok (.isub, 1) := by decide +kernel
theorem dX11_antenna_96 : decode cX11_antenna 96 = .ok (.iaload, 1) := by decide +kernel
theorem dX11_antenna_97 : decode cX11_antenna 97 = .ok (.goto 16, 3) := by decide +kernel
theorem dX11_antenna_100 : decode cX11_antenna 100 = .ok (.bipush (-4), 2) := by decide +kernel
theorem dX11_antenna_102 : decode cX11_antenna 102 = .ok (.goto 11, 3) := by decide +kernel
theorem dX11_antenna_105 : decode cX11_antenna 105 = .ok (.aload_n 0, 1) := by decide +kernel
theorem dX11_antenna_106 : decode cX11_antenna 106 = .ok (.iload_n 2, 1) := by decide +kernel
theorem dX11_antenna_107 : decode cX11_antenna 107 = .ok (.iconst 3, 1) := by decide +kernel
theorem dX11_antenna_108 : decode cX11_antenna 108 = .ok (.isub, 1) := by decide +kernel
theorem dX11_antenna_109 : decode cX11_antenna 109 = .ok (.iload_n 1, 1) := by decide +kernel
theorem dX11_antenna_110 : decode cX11_antenna 110 = .ok (.invokevirtual 140, 3) := by decide +kernel
theorem dX11_antenna_113 : decode cX11_antenna 113 = .ok (.ireturn, 1) := by decide +kernel
theorem dX11_seen_0 : decode cX11_seen 0 = .ok (.iload_n 1, 1) := by decide +kernel
theorem dX11_seen_1 : decode cX11_seen 1 = .ok (.i2l, 1) := by decide +kernel
theorem dX11_seen_2 : decode cX11_seen 2 = .ok (.lconst 0, 1) := by decide +kernel
theorem dX11_seen_3 : decode cX11_seen 3 = .ok (.aload_n 0, 1) := by decide +kernel
theorem dX11_seen_4 : decode cX11_seen 4 = .ok (.getfield 22, 3) := by decide +kernel
theorem dX11_seen_7 : decode cX11_seen 7 = .ok (.iconst 0, 1) := by decide +kernel
theorem dX11_seen_8 : decode cX11_seen 8 = .ok (.iaload, 1) := by decide +kernel
theorem dX11_seen_9 : decode cX11_seen 9 = .ok (.iconst 1, 1) := by decide +kernel
theorem dX11_seen_10 : decode cX11_seen 10 = .ok (.isub, 1) := by decide +kernel
theorem dX11_seen_11 : decode cX11_seen 11 = .ok (.i2l, 1) := by decide +kernel
theorem dX11_seen_12 : decode cX11_seen 12 = .ok (.invokestatic 93, 3) := by decide +kernel
theorem dX11_seen_15 : decode cX11_seen 15 = .ok (.ifCond .eq 33, 3) := by decide +kernel
theorem dX11_seen_18 : decode cX11_seen 18 = .ok (.iload_n 2, 1) := by decide +kernel
theorem dX11_seen_19 : decode cX11_seen 19 = .ok (.i2l, 1) := by decide +kernel
theorem dX11_seen_20 : decode cX11_seen 20 = .ok (.lconst 0, 1) := by decide +kernel
theorem dX11_seen_21 : decode cX11_seen 21 = .ok (.aload_n 0, 1) := by decide +kernel
theorem dX11_seen_22 : decode cX11_seen 22 = .ok (.getfield 22, 3) := by decide +kernel
theorem dX11_seen_25 : decode cX11_seen 25 = .ok (.iconst 1, 1) := by decide +kernel
theorem dX11_seen_26 : decode cX11_seen 26 = .ok (.iaload, 1) := by decide +kernel
theorem dX11_seen_27 : decode cX11_seen 27 = .ok (.iconst 1, 1) := by decide +kernel
theorem dX11_seen_28 : decode cX11_seen 28 = .ok (.isub, 1) := by decide +kernel
theorem dX11_seen_29 : decode cX11_seen 29 = .ok (.i2l, 1) := by decide +kernel
theorem dX11_seen_30 : decode cX11_seen 30 = .ok (.invokestatic 93, 3) := by decide +kernel
theorem dX11_seen_33 : decode cX11_seen 33 = .ok (.ifCond .eq 15, 3) := by decide +kernel
theorem dX11_seen_36 : decode cX11_seen 36 = .ok (.iload_n 3, 1) := by decide +kernel
theorem dX11_seen_37 : decode cX11_seen 37 = .ok (.i2l, 1) := by decide +kernel
theorem dX11_seen_38 : decode cX11_seen 38 = .ok (.lconst 0, 1) := by decide +kernel
theorem dX11_seen_39 : decode cX11_seen 39 = .ok (.ldc2_w 147, 3) := by decide +kernel
theorem dX11_seen_42 : decode cX11_seen 42 = .ok (.invokestatic 93, 3) := by decide +kernel
theorem dX11_seen_45 : decode cX11_seen 45 = .ok (.ifCond .ne 5, 3) := by decide +kernel
theorem dX11_seen_48 : decode cX11_seen 48 = .ok (.iconst (-1), 1) := by decide +kernel
theorem dX11_seen_49 : decode cX11_seen 49 = .ok (.ireturn, 1) := by decide +kernel
theorem dX11_seen_50 : decode cX11_seen 50 = .ok (.aload_n 0, 1) := by decide +kernel
theorem dX11_seen_51 : decode cX11_seen 51 = .ok (.iload_n 1, 1) := by decide +kernel
theorem dX11_seen_52 : decode cX11_seen 52 = .ok (.iload_n 2, 1) := by decide +kernel
theorem dX11_seen_53 : decode cX11_seen 53 = .ok (.iload_n 3, 1) := by decide +kernel
theorem dX11_seen_54 : decode cX11_seen 54 = .ok (.invokevirtual 127, 3) := by decide +kernel
theorem dX11_seen_57 : decode cX11_seen 57 = .ok (.ifCond .eq 7, 3) := by decide +kernel
theorem dX11_seen_60 : decode cX11_seen 60 = .ok (.iconst 1, 1) := by decide +kernel
theorem dX11_seen_61 : decode cX11_seen 61 = .ok (.goto 4, 3) := by decide +kernel
theorem dX11_seen_64 : decode cX11_seen 64 = .ok (.iconst 0, 1) := by decide +kernel
theorem dX11_seen_65 : decode cX11_seen 65 = .ok (.ireturn, 1) := by decide +kernel
theorem dX11_pass_0 : decode cX11_pass 0 = .ok (.aload_n 0, 1) := by decide +kernel
theorem dX11_pass_1 : decode cX11_pass 1 = .ok (.iload_n 1, 1) := by decide +kernel
theorem dX11_pass_2 : decode cX11_pass 2 = .ok (.invokevirtual 149, 3) := by decide +kernel
theorem dX11_pass_5 : decode cX11_pass 5 = .ok (.ifCond .eq 15, 3) := by decide +kernel
theorem dX11_pass_8 : decode cX11_pass 8 = .ok (.iload_n 2, 1) := by decide +kernel
theorem dX11_pass_9 : decode cX11_pass 9 = .ok (.i2l, 1) := by decide +kernel
theorem dX11_pass_10 : decode cX11_pass 10 = .ok (.lconst 0, 1) := by decide +kernel
theorem dX11_pass_11 : decode cX11_pass 11 = .ok (.ldc2_w 138, 3) := by decide +kernel
theorem dX11_pass_14 : decode cX11_pass 14 = .ok (.invokestatic 93, 3) := by decide +kernel
theorem dX11_pass_17 : decode cX11_pass 17 = .ok (.ifCond .ne 5, 3) := by decide +kernel
theorem dX11_pass_20 : decode cX11_pass 20 = .ok (.iconst (-1), 1) := by decide +kernel
theorem dX11_pass_21 : decode cX11_pass 21 = .ok (.ireturn, 1) := by decide +kernel
theorem dX11_pass_22 : decode cX11_pass 22 = .ok (.iconst 0, 1) := by decide +kernel
theorem dX11_pass_23 : decode cX11_pass 23 = .ok (.istore_n 3, 1) := by decide +kernel
theorem dX11_pass_24 : decode cX11_pass 24 = .ok (.iconst 0, 1) := by decide +kernel
theorem dX11_pass_25 : decode cX11_pass 25 = .ok (.istore 4, 2) := by decide +kernel
theorem dX11_pass_27 : decode cX11_pass 27 = .ok (.iload 4, 2) := by decide +kernel
theorem dX11_pass_29 : decode cX11_pass 29 = .ok (.aload_n 0, 1) := by decide +kernel
theorem dX11_pass_30 : decode cX11_pass 30 = .ok (.getfield 22, 3) := by decide +kernel
theorem dX11_pass_33 : decode cX11_pass 33 = .ok (.iconst 2, 1) := by decide +kernel
theorem dX11_pass_34 : decode cX11_pass 34 = .ok (.iaload, 1) := by decide +kernel
theorem dX11_pass_35 : decode cX11_pass 35 = .ok (.if_icmp .ge 30, 3) := by decide +kernel
theorem dX11_pass_38 : decode cX11_pass 38 = .ok (.iload_n 3, 1) := by decide +kernel
theorem dX11_pass_39 : decode cX11_pass 39 = .ok (.aload_n 0, 1) := by decide +kernel
theorem dX11_pass_40 : decode cX11_pass 40 = .ok (.iload_n 1, 1) := by decide +kernel
theorem dX11_pass_41 : decode cX11_pass 41 = .ok (.iload 4, 2) := by decide +kernel
theorem dX11_pass_43 : decode cX11_pass 43 = .ok (.invokevirtual 152, 3) := by decide +kernel
theorem dX11_pass_46 : decode cX11_pass 46 = .ok (.ifCond .eq 10, 3) := by decide +kernel
theorem dX11_pass_49 : decode cX11_pass 49 = .ok (.iconst 1, 1) := by decide +kernel
theorem dX11_pass_50 : decode cX11_pass 50 = .ok (.iload 4, 2) := by decide +kernel
theorem dX11_pass_52 : decode cX11_pass 52 = .ok (.ishl, 1) := by decide +kernel
theorem dX11_pass_53 : decode cX11_pass 53 = .ok (.goto 4, 3) := by decide +kernel
theorem dX11_pass_56 : decode cX11_pass 56 = .ok (.iconst 0, 1) := by decide +kernel
theorem dX11_pass_57 : decode cX11_pass 57 = .ok (.ior, 1) := by decide +kernel
theorem dX11_pass_58 : decode cX11_pass 58 = .ok (.istore_n 3, 1) := by decide +kernel
theorem dX11_pass_59 : decode cX11_pass 59 = .ok (.iinc 4 1, 3) := by decide +kernel
theorem dX11_pass_62 : decode cX11_pass 62 = .ok (.goto (-35), 3) := by decide +kernel
theorem dX11_pass_65 : decode cX11_pass 65 = .ok (.iload_n 2, 1) := by decide +kernel
theorem dX11_pass_66 : decode cX11_pass 66 = .ok (.tableswitch 80 0 5 #[38, 45, 52, 59, 66, 73], 38) := by decide +kernel
theorem dX11_pass_104 : decode cX11_pass 104 = .ok (.aload_n 0, 1) := by decide +kernel
theorem dX11_pass_105 : decode cX11_pass 105 = .ok (.getfield 37, 3) := by decide +kernel
theorem dX11_pass_108 : decode cX11_pass 108 = .ok (.iload_n 1, 1) := by decide +kernel
theorem dX11_pass_109 : decode cX11_pass 109 = .ok (.iaload, 1) := by decide +kernel
theorem dX11_pass_110 : decode cX11_pass 110 = .ok (.ireturn, 1) := by decide +kernel
theorem dX11_pass_111 : decode cX11_pass 111 = .ok (.aload_n 0, 1) := by decide +kernel
theorem dX11_pass_112 : decode cX11_pass 112 = .ok (.getfield 40, 3) := by decide +kernel
theorem dX11_pass_115 : decode cX11_pass 115 = .ok (.iload_n 1, 1) := by decide +kernel
theorem dX11_pass_116 : decode cX11_pass 116 = .ok (.iaload, 1) := by decide +kernel
theorem dX11_pass_117 : decode cX11_pass 117 = .ok (.ireturn, 1) := by decide +kernel
theorem dX11_pass_118 : decode cX11_pass 118 = .ok (.aload_n 0, 1) := by decide +kernel
theorem dX11_pass_119 : decode cX11_pass 119 = .ok (.getfield 43, 3) := by decide +kernel
theorem dX11_pass_122 : decode cX11_pass 122 = .ok (.iload_n 1, 1) := by decide +kernel
theorem dX11_pass_123 : decode cX11_pass 123 = .ok (.iaload, 1) := by decide +kernel
theorem dX11_pass_124 : decode cX11_pass 124 = .ok (.ireturn, 1) := by decide +kernel
theorem dX11_pass_125 : decode cX11_pass 125 = .ok (.aload_n 0, 1) := by decide +kernel
theorem dX11_pass_126 : decode cX11_pass 126 = .ok (.getfield 46, 3) := by decide +kernel
theorem dX11_pass_129 : decode cX11_pass 129 = .ok (.iload_n 1, 1) := by decide +kernel
theorem dX11_pass_130 : decode cX11_pass 130 = .ok (.iaload, 1) := by decide +kernel
theorem dX11_pass_131 : decode cX11_pass 131 = .ok (.ireturn, 1) := by decide +kernel
theorem dX11_pass_132 : decode cX11_pass 132 = .ok (.aload_n 0, 1) := by decide +kernel
theorem dX11_pass_133 : decode cX11_pass 133 = .ok (.getfield 49, 3) := by decide +kernel
theorem dX11_pass_136 : decode cX11_pass 136 = .ok (.iload_n 1, 1) := by decide +kernel
theorem dX11_pass_137 : decode cX11_pass 137 = .ok (.iaload, 1) := by decide +kernel
theorem dX11_pass_138 : decode cX11_pass 138 = .ok (.ireturn, 1) := by decide +kernel
theorem dX11_pass_139 : decode cX11_pass 139 = .ok (.aload_n 0, 1) := by decide +kernel
theorem dX11_pass_140 : decode cX11_pass 140 = .ok (.getfield 52, 3) := by decide +kernel
theorem dX11_pass_143 : decode cX11_pass 143 = .ok (.iload_n 1, 1) := by decide +kernel
theorem dX11_pass_144 : decode cX11_pass 144 = .ok (.iaload, 1) := by decide +kernel
theorem dX11_pass_145 : decode cX11_pass 145 = .ok (.ireturn, 1) := by decide +kernel
theorem dX11_pass_146 : decode cX11_pass 146 = .ok (.iload_n 3, 1) := by decide +kernel
theorem dX11_pass_147 : decode cX11_pass 147 = .ok (.ireturn, 1) := by decide +kernel
theorem dX11_rateAt_0 : decode cX11_rateAt 0 = .ok (.aload_n 0, 1) := by decide +kernel
theorem dX11_rateAt_1 : decode cX11_rateAt 1 = .ok (.aload_n 0, 1) := by decide +kernel
theorem dX11_rateAt_2 : decode cX11_rateAt 2 = .ok (.getfield 43, 3) := by decide +kernel
theorem dX11_rateAt_5 : decode cX11_rateAt 5 = .ok (.iload_n 1, 1) := by decide +kernel
theorem dX11_rateAt_6 : decode cX11_rateAt 6 = .ok (.iaload, 1) := by decide +kernel
theorem dX11_rateAt_7 : decode cX11_rateAt 7 = .ok (.iload_n 2, 1) := by decide +kernel
theorem dX11_rateAt_8 : decode cX11_rateAt 8 = .ok (.aload_n 0, 1) := by decide +kernel
theorem dX11_rateAt_9 : decode cX11_rateAt 9 = .ok (.getfield 37, 3) := by decide +kernel
theorem dX11_rateAt_12 : decode cX11_rateAt 12 = .ok (.iload_n 1, 1) := by decide +kernel
theorem dX11_rateAt_13 : decode cX11_rateAt 13 = .ok (.iaload, 1) := by decide +kernel
theorem dX11_rateAt_14 : decode cX11_rateAt 14 = .ok (.isub, 1) := by decide +kernel
theorem dX11_rateAt_15 : decode cX11_rateAt 15 = .ok (.aload_n 0, 1) := by decide +kernel
theorem dX11_rateAt_16 : decode cX11_rateAt 16 = .ok (.getfield 40, 3) := by decide +kernel
theorem dX11_rateAt_19 : decode cX11_rateAt 19 = .ok (.iload_n 1, 1) := by decide +kernel
theorem dX11_rateAt_20 : decode cX11_rateAt 20 = .ok (.iaload, 1) := by decide +kernel
theorem dX11_rateAt_21 : decode cX11_rateAt 21 = .ok (.aload_n 0, 1) := by decide +kernel
theorem dX11_rateAt_22 : decode cX11_rateAt 22 = .ok (.getfield 37, 3) := by decide +kernel
theorem dX11_rateAt_25 : decode cX11_rateAt 25 = .ok (.iload_n 1, 1) := by decide +kernel
theorem dX11_rateAt_26 : decode cX11_rateAt 26 = .ok (.iaload, 1) := by decide +kernel
theorem dX11_rateAt_27 : decode cX11_rateAt 27 = .ok (.isub, 1) := by decide +kernel
theorem dX11_rateAt_28 : decode cX11_rateAt 28 = .ok (.iconst 1, 1) := by decide +kernel
theorem dX11_rateAt_29 : decode cX11_rateAt 29 = .ok (.iadd, 1) := by decide +kernel
theorem dX11_rateAt_30 : decode cX11_rateAt 30 = .ok (.invokevirtual 131, 3) := by decide +kernel
theorem dX11_rateAt_33 : decode cX11_rateAt 33 = .ok (.ireturn, 1) := by decide +kernel
theorem dX11_rate_0 : decode cX11_rate 0 = .ok (.aload_n 0, 1) := by decide +kernel
theorem dX11_rate_1 : decode cX11_rate 1 = .ok (.iload_n 1, 1) := by decide +kernel
theorem dX11_rate_2 : decode cX11_rate 2 = .ok (.invokevirtual 149, 3) := by decide +kernel
theorem dX11_rate_5 : decode cX11_rate 5 = .ok (.ifCond .eq 15, 3) := by decide +kernel
theorem dX11_rate_8 : decode cX11_rate 8 = .ok (.iload_n 2, 1) := by decide +kernel
theorem dX11_rate_9 : decode cX11_rate 9 = .ok (.i2l, 1) := by decide +kernel
theorem dX11_rate_10 : decode cX11_rate 10 = .ok (.lconst 0, 1) := by decide +kernel
theorem dX11_rate_11 : decode cX11_rate 11 = .ok (.ldc2_w 147, 3) := by decide +kernel
theorem dX11_rate_14 : decode cX11_rate 14 = .ok (.invokestatic 93, 3) := by decide +kernel
theorem dX11_rate_17 : decode cX11_rate 17 = .ok (.ifCond .ne 5, 3) := by decide +kernel
theorem dX11_rate_20 : decode cX11_rate 20 = .ok (.iconst (-1), 1) := by decide +kernel
theorem dX11_rate_21 : decode cX11_rate 21 = .ok (.ireturn, 1) := by decide +kernel
theorem dX11_rate_22 : decode cX11_rate 22 = .ok (.iload_n 2, 1) := by decide +kernel
theorem dX11_rate_23 : decode cX11_rate 23 = .ok (.i2l, 1) := by decide +kernel
theorem dX11_rate_24 : decode cX11_rate 24 = .ok (.aload_n 0, 1) := by decide +kernel
theorem dX11_rate_25 : decode cX11_rate 25 = .ok (.getfield 37, 3) := by decide +kernel
theorem dX11_rate_28 : decode cX11_rate 28 = .ok (.iload_n 1, 1) := by decide +kernel
theorem dX11_rate_29 : decode cX11_rate 29 = .ok (.iaload, 1) := by decide +kernel
theorem dX11_rate_30 : decode cX11_rate 30 = .ok (.i2l, 1) := by decide +kernel
theorem dX11_rate_31 : decode cX11_rate 31 = .ok (.aload_n 0, 1) := by decide +kernel
theorem dX11_rate_32 : decode cX11_rate 32 = .ok (.getfield 40, 3) := by decide +kernel
theorem dX11_rate_35 : decode cX11_rate 35 = .ok (.iload_n 1, 1) := by decide +kernel
theorem dX11_rate_36 : decode cX11_rate 36 = .ok (.iaload, 1) := by decide +kernel
theorem dX11_rate_37 : decode cX11_rate 37 = .ok (.i2l, 1) := by decide +kernel
theorem dX11_rate_38 : decode cX11_rate 38 = .ok (.invokestatic 93, 3) := by decide +kernel
theorem dX11_rate_41 : decode cX11_rate 41 = .ok (.ifCond .eq 12, 3) := by decide +kernel
theorem dX11_rate_44 : decode cX11_rate 44 = .ok (.aload_n 0, 1) := by decide +kernel
theorem dX11_rate_45 : decode cX11_rate 45 = .ok (.iload_n 1, 1) := by decide +kernel
theorem dX11_rate_46 : decode cX11_rate 46 = .ok (.iload_n 2, 1) := by decide +kernel
theorem dX11_rate_47 : decode cX11_rate 47 = .ok (.invokevirtual 156, 3) := by decide +kernel
theorem dX11_rate_50 : decode cX11_rate 50 = .ok (.goto 5, 3) := by decide +kernel
theorem dX11_rate_53 : decode cX11_rate 53 = .ok (.bipush (-4), 2) := by decide +kernel
theorem dX11_rate_55 : decode cX11_rate 55 = .ok (.ireturn, 1) := by decide +kernel
theorem dX11_whyNot_0 : decode cX11_whyNot 0 = .ok (.aload_n 0, 1) := by decide +kernel
theorem dX11_whyNot_1 : decode cX11_whyNot 1 = .ok (.getfield 52, 3) := by decide +kernel
theorem dX11_whyNot_4 : decode cX11_whyNot 4 = .ok (.iload_n 1, 1) := by decide +kernel
theorem dX11_whyNot_5 : decode cX11_whyNot 5 = .ok (.iaload, 1) := by decide +kernel
theorem dX11_whyNot_6 : decode cX11_whyNot 6 = .ok (.bipush (-4), 2) := by decide +kernel
theorem dX11_whyNot_8 : decode cX11_whyNot 8 = .ok (.if_icmp .ne 12, 3) := by decide +kernel
theorem dX11_whyNot_11 : decode cX11_whyNot 11 = .ok (.aload_n 0, 1) := by decide +kernel
theorem dX11_whyNot_12 : decode cX11_whyNot 12 = .ok (.iload_n 1, 1) := by decide +kernel
theorem dX11_whyNot_13 : decode cX11_whyNot 13 = .ok (.iload_n 2, 1) := by decide +kernel
theorem dX11_whyNot_14 : decode cX11_whyNot 14 = .ok (.invokevirtual 152, 3) := by decide +kernel
theorem dX11_whyNot_17 : decode cX11_whyNot 17 = .ok (.ifCond .ne 20, 3) := by decide +kernel
theorem dX11_whyNot_20 : decode cX11_whyNot 20 = .ok (.aload_n 0, 1) := by decide +kernel
theorem dX11_whyNot_21 : decode cX11_whyNot 21 = .ok (.getfield 52, 3) := by decide +kernel
theorem dX11_whyNot_24 : decode cX11_whyNot 24 = .ok (.iload_n 1, 1) := by decide +kernel
theorem dX11_whyNot_25 : decode cX11_whyNot 25 = .ok (.iaload, 1) := by decide +kernel
theorem dX11_whyNot_26 : decode cX11_whyNot 26 = .ok (.bipush (-4), 2) := by decide +kernel
theorem dX11_whyNot_28 : decode cX11_whyNot 28 = .ok (.if_icmp .eq 7, 3) := by decide +kernel
theorem dX11_whyNot_31 : decode cX11_whyNot 31 = .ok (.iconst 1, 1) := by decide +kernel
theorem dX11_whyNot_32 : decode cX11_whyNot 32 = .ok (.goto 4, 3) := by decide +kernel
theorem dX11_whyNot_35 : decode cX11_whyNot 35 = .ok (.iconst 2, 1) := by decide +kernel
theorem dX11_whyNot_36 : decode cX11_whyNot 36 = .ok (.ireturn, 1) := by decide +kernel
theorem dX11_whyNot_37 : decode cX11_whyNot 37 = .ok (.iconst 0, 1) := by decide +kernel
theorem dX11_whyNot_38 : decode cX11_whyNot 38 = .ok (.istore_n 3, 1) := by decide +kernel
theorem dX11_whyNot_39 : decode cX11_whyNot 39 = .ok (.iconst 0, 1) := by decide +kernel
theorem dX11_whyNot_40 : decode cX11_whyNot 40 = .ok (.istore 4, 2) := by decide +kernel
theorem dX11_whyNot_42 : decode cX11_whyNot 42 = .ok (.iconst 0, 1) := by decide +kernel
theorem dX11_whyNot_43 : decode cX11_whyNot 43 = .ok (.istore 5, 2) := by decide +kernel
theorem dX11_whyNot_45 : decode cX11_whyNot 45 = .ok (.iload 5, 2) := by decide +kernel
theorem dX11_whyNot_47 : decode cX11_whyNot 47 = .ok (.aload_n 0, 1) := by decide +kernel
theorem dX11_whyNot_48 : decode cX11_whyNot 48 = .ok (.getfield 124, 3) := by decide +kernel
theorem dX11_whyNot_51 : decode cX11_whyNot 51 = .ok (.if_icmp .ge 103, 3) := by decide +kernel
theorem dX11_whyNot_54 : decode cX11_whyNot 54 = .ok (.iload_n 3, 1) := by decide +kernel
theorem dX11_whyNot_55 : decode cX11_whyNot 55 = .ok (.ifCond .ne 31, 3) := by decide +kernel
theorem dX11_whyNot_58 : decode cX11_whyNot 58 = .ok (.iload 5, 2) := by decide +kernel
theorem dX11_whyNot_60 : decode cX11_whyNot 60 = .ok (.iload_n 1, 1) := by decide +kernel
theorem dX11_whyNot_61 : decode cX11_whyNot 61 = .ok (.if_icmp .eq 29, 3) := by decide +kernel
theorem dX11_whyNot_64 : decode cX11_whyNot 64 = .ok (.aload_n 0, 1) := by decide +kernel
theorem dX11_whyNot_65 : decode cX11_whyNot 65 = .ok (.getfield 52, 3) := by decide +kernel
theorem dX11_whyNot_68 : decode cX11_whyNot 68 = .ok (.iload 5, 2) := by decide +kernel
theorem dX11_whyNot_70 : decode cX11_whyNot 70 = .ok (.iaload, 1) := by decide +kernel
theorem dX11_whyNot_71 : decode cX11_whyNot 71 = .ok (.iload_n 2, 1) := by decide +kernel
theorem dX11_whyNot_72 : decode cX11_whyNot 72 = .ok (.if_icmp .ne 18, 3) := by decide +kernel
theorem dX11_whyNot_75 : decode cX11_whyNot 75 = .ok (.aload_n 0, 1) := by decide +kernel
theorem dX11_whyNot_76 : decode cX11_whyNot 76 = .ok (.iload_n 1, 1) := by decide +kernel
theorem dX11_whyNot_77 : decode cX11_whyNot 77 = .ok (.iload 5, 2) := by decide +kernel
theorem dX11_whyNot_79 : decode cX11_whyNot 79 = .ok (.iload_n 2, 1) := by decide +kernel
theorem dX11_whyNot_80 : decode cX11_whyNot 80 = .ok (.invokevirtual 159, 3) := by decide +kernel
theorem dX11_whyNot_83 : decode cX11_whyNot 83 = .ok (.ifCond .ne 7, 3) := by decide +kernel
theorem dX11_whyNot_86 : decode cX11_whyNot 86 = .ok (.iconst 1, 1) := by decide +kernel
theorem dX11_whyNot_87 : decode cX11_whyNot 87 = .ok (.goto 4, 3) := by decide +kernel
theorem dX11_whyNot_90 : decode cX11_whyNot 90 = .ok (.iconst 0, 1) := by decide +kernel
theorem dX11_whyNot_91 : decode cX11_whyNot 91 = .ok (.istore_n 3, 1) := by decide +kernel
theorem dX11_whyNot_92 : decode cX11_whyNot 92 = .ok (.iload 4, 2) := by decide +kernel
theorem dX11_whyNot_94 : decode cX11_whyNot 94 = .ok (.ifCond .ne 47, 3) := by decide +kernel
theorem dX11_whyNot_97 : decode cX11_whyNot 97 = .ok (.iload 5, 2) := by decide +kernel
theorem dX11_whyNot_99 : decode cX11_whyNot 99 = .ok (.iload_n 1, 1) := by decide +kernel
theorem dX11_whyNot_100 : decode cX11_whyNot 100 = .ok (.if_icmp .eq 45, 3) := by decide +kernel
theorem dX11_whyNot_103 : decode cX11_whyNot 103 = .ok (.aload_n 0, 1) := by decide +kernel
theorem dX11_whyNot_104 : decode cX11_whyNot 104 = .ok (.getfield 52, 3) := by decide +kernel
theorem dX11_whyNot_107 : decode cX11_whyNot 107 = .ok (.iload 5, 2) := by decide +kernel
theorem dX11_whyNot_109 : decode cX11_whyNot 109 = .ok (.iaload, 1) := by decide +kernel
theorem dX11_whyNot_110 : decode cX11_whyNot 110 = .ok (.bipush (-4), 2) := by decide +kernel
theorem dX11_whyNot_112 : decode cX11_whyNot 112 = .ok (.if_icmp .eq 33, 3) := by decide +kernel
theorem dX11_whyNot_115 : decode cX11_whyNot 115 = .ok (.aload_n 0, 1) := by decide +kernel
theorem dX11_whyNot_116 : decode cX11_whyNot 116 = .ok (.getfield 43, 3) := by decide +kernel
theorem dX11_whyNot_119 : decode cX11_whyNot 119 = .ok (.iload 5, 2) := by decide +kernel
theorem dX11_whyNot_121 : decode cX11_whyNot 121 = .ok (.iaload, 1) := by decide +kernel
theorem dX11_whyNot_122 : decode cX11_whyNot 122 = .ok (.aload_n 0, 1) := by decide +kernel
theorem dX11_whyNot_123 : decode cX11_whyNot 123 = .ok (.getfield 43, 3) := by decide +kernel
theorem dX11_whyNot_126 : decode cX11_whyNot 126 = .ok (.iload_n 1, 1) := by decide +kernel
theorem dX11_whyNot_127 : decode cX11_whyNot 127 = .ok (.iaload, 1) := by decide +kernel
theorem dX11_whyNot_128 : decode cX11_whyNot 128 = .ok (.if_icmp .ne 17, 3) := by decide +kernel
theorem dX11_whyNot_131 : decode cX11_whyNot 131 = .ok (.aload_n 0, 1) := by decide +kernel
theorem dX11_whyNot_132 : decode cX11_whyNot 132 = .ok (.iload_n 1, 1) := by decide +kernel
theorem dX11_whyNot_133 : decode cX11_whyNot 133 = .ok (.iload 5, 2) := by decide +kernel
theorem dX11_whyNot_135 : decode cX11_whyNot 135 = .ok (.invokevirtual 162, 3) := by decide +kernel
theorem dX11_whyNot_138 : decode cX11_whyNot 138 = .ok (.ifCond .eq 7, 3) := by decide +kernel
theorem dX11_whyNot_141 : decode cX11_whyNot 141 = .ok (.iconst 1, 1) := by decide +kernel
theorem dX11_whyNot_142 : decode cX11_whyNot 142 = .ok (.goto 4, 3) := by decide +kernel
theorem dX11_whyNot_145 : decode cX11_whyNot 145 = .ok (.iconst 0, 1) := by decide +kernel
theorem dX11_whyNot_146 : decode cX11_whyNot 146 = .ok (.istore 4, 2) := by decide +kernel
theorem dX11_whyNot_148 : decode cX11_whyNot 148 = .ok (.iinc 5 1, 3) := by decide +kernel
theorem dX11_whyNot_151 : decode cX11_whyNot 151 = .ok (.goto (-106), 3) := by decide +kernel
theorem dX11_whyNot_154 : decode cX11_whyNot 154 = .ok (.iload_n 3, 1) := by decide +kernel
theorem dX11_whyNot_155 : decode cX11_whyNot 155 = .ok (.ifCond .eq 7, 3) := by decide +kernel
theorem dX11_whyNot_158 : decode cX11_whyNot 158 = .ok (.iconst 3, 1) := by decide +kernel
theorem dX11_whyNot_159 : decode cX11_whyNot 159 = .ok (.goto 13, 3) := by decide +kernel
theorem dX11_whyNot_162 : decode cX11_whyNot 162 = .ok (.iload 4, 2) := by decide +kernel
theorem dX11_whyNot_164 : decode cX11_whyNot 164 = .ok (.ifCond .eq 7, 3) := by decide +kernel
theorem dX11_whyNot_167 : decode cX11_whyNot 167 = .ok (.iconst 4, 1) := by decide +kernel
theorem dX11_whyNot_168 : decode cX11_whyNot 168 = .ok (.goto 4, 3) := by decide +kernel
theorem dX11_whyNot_171 : decode cX11_whyNot 171 = .ok (.iconst 0, 1) := by decide +kernel
theorem dX11_whyNot_172 : decode cX11_whyNot 172 = .ok (.ireturn, 1) := by decide +kernel
theorem dX11_why_0 : decode cX11_why 0 = .ok (.aload_n 0, 1) := by decide +kernel
theorem dX11_why_1 : decode cX11_why 1 = .ok (.iload_n 1, 1) := by decide +kernel
theorem dX11_why_2 : decode cX11_why 2 = .ok (.invokevirtual 149, 3) := by decide +kernel
theorem dX11_why_5 : decode cX11_why 5 = .ok (.ifCond .eq 20, 3) := by decide +kernel
theorem dX11_why_8 : decode cX11_why 8 = .ok (.aload_n 0, 1) := by decide +kernel
theorem dX11_why_9 : decode cX11_why 9 = .ok (.iload_n 2, 1) := by decide +kernel
theorem dX11_why_10 : decode cX11_why 10 = .ok (.invokevirtual 144, 3) := by decide +kernel
theorem dX11_why_13 : decode cX11_why 13 = .ok (.ifCond .eq 12, 3) := by decide +kernel
theorem dX11_why_16 : decode cX11_why 16 = .ok (.aload_n 0, 1) := by decide +kernel
theorem dX11_why_17 : decode cX11_why 17 = .ok (.iload_n 1, 1) := by decide +kernel
theorem dX11_why_18 : decode cX11_why 18 = .ok (.iload_n 2, 1) := by decide +kernel
theorem dX11_why_19 : decode cX11_why 19 = .ok (.invokevirtual 165, 3) := by decide +kernel
theorem dX11_why_22 : decode cX11_why 22 = .ok (.goto 4, 3) := by decide +kernel
theorem dX11_why_25 : decode cX11_why 25 = .ok (.iconst (-1), 1) := by decide +kernel
theorem dX11_why_26 : decode cX11_why 26 = .ok (.ireturn, 1) := by decide +kernel
theorem dX11_note_0 : decode cX11_note 0 = .ok (.aload_n 0, 1) := by decide +kernel
theorem dX11_note_1 : decode cX11_note 1 = .ok (.getfield 135, 3) := by decide +kernel
theorem dX11_note_4 : decode cX11_note 4 = .ok (.bipush 6, 2) := by decide +kernel
theorem dX11_note_6 : decode cX11_note 6 = .ok (.if_icmp .ne 43, 3) := by decide +kernel
theorem dX11_note_9 : decode cX11_note 9 = .ok (.iconst 0, 1) := by decide +kernel
theorem dX11_note_10 : decode cX11_note 10 = .ok (.istore_n 1, 1) := by decide +kernel
theorem dX11_note_11 : decode cX11_note 11 = .ok (.iload_n 1, 1) := by decide +kernel
theorem dX11_note_12 : decode cX11_note 12 = .ok (.sipush 160, 3) := by decide +kernel
theorem dX11_note_15 : decode cX11_note 15 = .ok (.if_icmp .ge 24, 3) := by decide +kernel
theorem dX11_note_18 : decode cX11_note 18 = .ok (.aload_n 0, 1) := by decide +kernel
theorem dX11_note_19 : decode cX11_note 19 = .ok (.getfield 55, 3) := by decide +kernel
theorem dX11_note_22 : decode cX11_note 22 = .ok (.iload_n 1, 1) := by decide +kernel
theorem dX11_note_23 : decode cX11_note 23 = .ok (.aload_n 0, 1) := by decide +kernel
theorem dX11_note_24 : decode cX11_note 24 = .ok (.getfield 55, 3) := by decide +kernel
theorem dX11_note_27 : decode cX11_note 27 = .ok (.bipush 32, 2) := by decide +kernel
theorem dX11_note_29 : decode cX11_note 29 = .ok (.iload_n 1, 1) := by decide +kernel
theorem dX11_note_30 : decode cX11_note 30 = .ok (.iadd, 1) := by decide +kernel
theorem dX11_note_31 : decode cX11_note 31 = .ok (.iaload, 1) := by decide +kernel
theorem dX11_note_32 : decode cX11_note 32 = .ok (.iastore, 1) := by decide +kernel
theorem dX11_note_33 : decode cX11_note 33 = .ok (.iinc 1 1, 3) := by decide +kernel
theorem dX11_note_36 : decode cX11_note 36 = .ok (.goto (-25), 3) := by decide +kernel
theorem dX11_note_39 : decode cX11_note 39 = .ok (.aload_n 0, 1) := by decide +kernel
theorem dX11_note_40 : decode cX11_note 40 = .ok (.dup, 1) := by decide +kernel
theorem dX11_note_41 : decode cX11_note 41 = .ok (.getfield 135, 3) := by decide +kernel
theorem dX11_note_44 : decode cX11_note 44 = .ok (.iconst 1, 1) := by decide +kernel
theorem dX11_note_45 : decode cX11_note 45 = .ok (.isub, 1) := by decide +kernel
theorem dX11_note_46 : decode cX11_note 46 = .ok (.putfield 135, 3) := by decide +kernel
theorem dX11_note_49 : decode cX11_note 49 = .ok (.iconst 0, 1) := by decide +kernel
theorem dX11_note_50 : decode cX11_note 50 = .ok (.istore_n 1, 1) := by decide +kernel
theorem dX11_note_51 : decode cX11_note 51 = .ok (.iload_n 1, 1) := by decide +kernel
theorem dX11_note_52 : decode cX11_note 52 = .ok (.bipush 32, 2) := by decide +kernel
theorem dX11_note_54 : decode cX11_note 54 = .ok (.if_icmp .ge 29, 3) := by decide +kernel
theorem dX11_note_57 : decode cX11_note 57 = .ok (.aload_n 0, 1) := by decide +kernel
theorem dX11_note_58 : decode cX11_note 58 = .ok (.getfield 55, 3) := by decide +kernel
theorem dX11_note_61 : decode cX11_note 61 = .ok (.bipush 32, 2) := by decide +kernel
theorem dX11_note_63 : decode cX11_note 63 = .ok (.aload_n 0, 1) := by decide +kernel
theorem dX11_note_64 : decode cX11_note 64 = .ok (.getfield 135, 3) := by decide +kernel
theorem dX11_note_67 : decode cX11_note 67 = .ok (.imul, 1) := by decide +kernel
theorem dX11_note_68 : decode cX11_note 68 = .ok (.iload_n 1, 1) := by decide +kernel
theorem dX11_note_69 : decode cX11_note 69 = .ok (.iadd, 1) := by decide +kernel
theorem dX11_note_70 : decode cX11_note 70 = .ok (.aload_n 0, 1) := by decide +kernel
theorem dX11_note_71 : decode cX11_note 71 = .ok (.getfield 52, 3) := by decide +kernel
theorem dX11_note_74 : decode cX11_note 74 = .ok (.iload_n 1, 1) := by decide +kernel
theorem dX11_note_75 : decode cX11_note 75 = .ok (.iaload, 1) := by decide +kernel
theorem dX11_note_76 : decode cX11_note 76 = .ok (.iastore, 1) := by decide +kernel
theorem dX11_note_77 : decode cX11_note 77 = .ok (.iinc 1 1, 3) := by decide +kernel
theorem dX11_note_80 : decode cX11_note 80 = .ok (.goto (-29), 3) := by decide +kernel
theorem dX11_note_83 : decode cX11_note 83 = .ok (.aload_n 0, 1) := by decide +kernel
theorem dX11_note_84 : decode cX11_note 84 = .ok (.dup, 1) := by decide +kernel
theorem dX11_note_85 : decode cX11_note 85 = .ok (.getfield 135, 3) := by decide +kernel
theorem dX11_note_88 : decode cX11_note 88 = .ok (.iconst 1, 1) := by decide +kernel
theorem dX11_note_89 : decode cX11_note 89 = .ok (.iadd, 1) := by decide +kernel
theorem dX11_note_90 : decode cX11_note 90 = .ok (.putfield 135, 3) := by decide +kernel
theorem dX11_note_93 : decode cX11_note 93 = .ok (.return_, 1) := by decide +kernel
theorem dX11_undo_0 : decode cX11_undo 0 = .ok (.aload_n 0, 1) := by decide +kernel
theorem dX11_undo_1 : decode cX11_undo 1 = .ok (.getfield 135, 3) := by decide +kernel
theorem dX11_undo_4 : decode cX11_undo 4 = .ok (.ifCond .ne 6, 3) := by decide +kernel
theorem dX11_undo_7 : decode cX11_undo 7 = .ok (.bipush (-2), 2) := by decide +kernel
theorem dX11_undo_9 : decode cX11_undo 9 = .ok (.ireturn, 1) := by decide +kernel
theorem dX11_undo_10 : decode cX11_undo 10 = .ok (.aload_n 0, 1) := by decide +kernel
theorem dX11_undo_11 : decode cX11_undo 11 = .ok (.dup, 1) := by decide +kernel
theorem dX11_undo_12 : decode cX11_undo 12 = .ok (.getfield 135, 3) := by decide +kernel
theorem dX11_undo_15 : decode cX11_undo 15 = .ok (.iconst 1, 1) := by decide +kernel
theorem dX11_undo_16 : decode cX11_undo 16 = .ok (.isub, 1) := by decide +kernel
theorem dX11_undo_17 : decode cX11_undo 17 = .ok (.putfield 135, 3) := by decide +kernel
theorem dX11_undo_20 : decode cX11_undo 20 = .ok (.iconst 0, 1) := by decide +kernel
theorem dX11_undo_21 : decode cX11_undo 21 = .ok (.istore_n 1, 1) := by decide +kernel
theorem dX11_undo_22 : decode cX11_undo 22 = .ok (.iload_n 1, 1) := by decide +kernel
theorem dX11_undo_23 : decode cX11_undo 23 = .ok (.bipush 32, 2) := by decide +kernel
theorem dX11_undo_25 : decode cX11_undo 25 = .ok (.if_icmp .ge 29, 3) := by decide +kernel
theorem dX11_undo_28 : decode cX11_undo 28 = .ok (.aload_n 0, 1) := by decide +kernel
theorem dX11_undo_29 : decode cX11_undo 29 = .ok (.getfield 52, 3) := by decide +kernel
theorem dX11_undo_32 : decode cX11_undo 32 = .ok (.iload_n 1, 1) := by decide +kernel
theorem dX11_undo_33 : decode cX11_undo 33 = .ok (.aload_n 0, 1) := by decide +kernel
theorem dX11_undo_34 : decode cX11_undo 34 = .ok (.getfield 55, 3) := by decide +kernel
theorem dX11_undo_37 : decode cX11_undo 37 = .ok (.bipush 32, 2) := by decide +kernel
theorem dX11_undo_39 : decode cX11_undo 39 = .ok (.aload_n 0, 1) := by decide +kernel
theorem dX11_undo_40 : decode cX11_undo 40 = .ok (.getfield 135, 3) := by decide +kernel
theorem dX11_undo_43 : decode cX11_undo 43 = .ok (.imul, 1) := by decide +kernel
theorem dX11_undo_44 : decode cX11_undo 44 = .ok (.iload_n 1, 1) := by decide +kernel
theorem dX11_undo_45 : decode cX11_undo 45 = .ok (.iadd, 1) := by decide +kernel
theorem dX11_undo_46 : decode cX11_undo 46 = .ok (.iaload, 1) := by decide +kernel
theorem dX11_undo_47 : decode cX11_undo 47 = .ok (.iastore, 1) := by decide +kernel
theorem dX11_undo_48 : decode cX11_undo 48 = .ok (.iinc 1 1, 3) := by decide +kernel
theorem dX11_undo_51 : decode cX11_undo 51 = .ok (.goto (-29), 3) := by decide +kernel
theorem dX11_undo_54 : decode cX11_undo 54 = .ok (.aload_n 0, 1) := by decide +kernel
theorem dX11_undo_55 : decode cX11_undo 55 = .ok (.getfield 135, 3) := by decide +kernel
theorem dX11_undo_58 : decode cX11_undo 58 = .ok (.ireturn, 1) := by decide +kernel
theorem dX11_contacts_0 : decode cX11_contacts 0 = .ok (.iconst 0, 1) := by decide +kernel
theorem dX11_contacts_1 : decode cX11_contacts 1 = .ok (.istore_n 1, 1) := by decide +kernel
theorem dX11_contacts_2 : decode cX11_contacts 2 = .ok (.iconst 0, 1) := by decide +kernel
theorem dX11_contacts_3 : decode cX11_contacts 3 = .ok (.istore_n 2, 1) := by decide +kernel
theorem dX11_contacts_4 : decode cX11_contacts 4 = .ok (.iload_n 2, 1) := by decide +kernel
theorem dX11_contacts_5 : decode cX11_contacts 5 = .ok (.aload_n 0, 1) := by decide +kernel
theorem dX11_contacts_6 : decode cX11_contacts 6 = .ok (.getfield 124, 3) := by decide +kernel
theorem dX11_contacts_9 : decode cX11_contacts 9 = .ok (.if_icmp .ge 28, 3) := by decide +kernel
theorem dX11_contacts_12 : decode cX11_contacts 12 = .ok (.iload_n 1, 1) := by decide +kernel
theorem dX11_contacts_13 : decode cX11_contacts 13 = .ok (.aload_n 0, 1) := by decide +kernel
theorem dX11_contacts_14 : decode cX11_contacts 14 = .ok (.getfield 52, 3) := by decide +kernel
theorem dX11_contacts_17 : decode cX11_contacts 17 = .ok (.iload_n 2, 1) := by decide +kernel
theorem dX11_contacts_18 : decode cX11_contacts 18 = .ok (.iaload, 1) := by decide +kernel
theorem dX11_contacts_19 : decode cX11_contacts 19 = .ok (.bipush (-4), 2) := by decide +kernel
theorem dX11_contacts_21 : decode cX11_contacts 21 = .ok (.if_icmp .eq 7, 3) := by decide +kernel
theorem dX11_contacts_24 : decode cX11_contacts 24 = .ok (.iconst 1, 1) := by decide +kernel
theorem dX11_contacts_25 : decode cX11_contacts 25 = .ok (.goto 4, 3) := by decide +kernel
theorem dX11_contacts_28 : decode cX11_contacts 28 = .ok (.iconst 0, 1) := by decide +kernel
theorem dX11_contacts_29 : decode cX11_contacts 29 = .ok (.iadd, 1) := by decide +kernel
theorem dX11_contacts_30 : decode cX11_contacts 30 = .ok (.istore_n 1, 1) := by decide +kernel
theorem dX11_contacts_31 : decode cX11_contacts 31 = .ok (.iinc 2 1, 3) := by decide +kernel
theorem dX11_contacts_34 : decode cX11_contacts 34 = .ok (.goto (-30), 3) := by decide +kernel
theorem dX11_contacts_37 : decode cX11_contacts 37 = .ok (.iload_n 1, 1) := by decide +kernel
theorem dX11_contacts_38 : decode cX11_contacts 38 = .ok (.ireturn, 1) := by decide +kernel
theorem dX11_give_0 : decode cX11_give 0 = .ok (.aload_n 0, 1) := by decide +kernel
theorem dX11_give_1 : decode cX11_give 1 = .ok (.iload_n 1, 1) := by decide +kernel
theorem dX11_give_2 : decode cX11_give 2 = .ok (.invokevirtual 149, 3) := by decide +kernel
theorem dX11_give_5 : decode cX11_give 5 = .ok (.ifCond .eq 11, 3) := by decide +kernel
theorem dX11_give_8 : decode cX11_give 8 = .ok (.aload_n 0, 1) := by decide +kernel
theorem dX11_give_9 : decode cX11_give 9 = .ok (.iload_n 2, 1) := by decide +kernel
theorem dX11_give_10 : decode cX11_give 10 = .ok (.invokevirtual 144, 3) := by decide +kernel
theorem dX11_give_13 : decode cX11_give 13 = .ok (.ifCond .ne 5, 3) := by decide +kernel
theorem dX11_give_16 : decode cX11_give 16 = .ok (.iconst (-1), 1) := by decide +kernel
theorem dX11_give_17 : decode cX11_give 17 = .ok (.ireturn, 1) := by decide +kernel
theorem dX11_give_18 : decode cX11_give 18 = .ok (.aload_n 0, 1) := by decide +kernel
theorem dX11_give_19 : decode cX11_give 19 = .ok (.iload_n 1, 1) := by decide +kernel
theorem dX11_give_20 : decode cX11_give 20 = .ok (.iload_n 2, 1) := by decide +kernel
theorem dX11_give_21 : decode cX11_give 21 = .ok (.invokevirtual 165, 3) := by decide +kernel
theorem dX11_give_24 : decode cX11_give 24 = .ok (.ifCond .le 6, 3) := by decide +kernel
theorem dX11_give_27 : decode cX11_give 27 = .ok (.bipush (-2), 2) := by decide +kernel
theorem dX11_give_29 : decode cX11_give 29 = .ok (.ireturn, 1) := by decide +kernel
theorem dX11_give_30 : decode cX11_give 30 = .ok (.aload_n 0, 1) := by decide +kernel
theorem dX11_give_31 : decode cX11_give 31 = .ok (.invokevirtual 168, 3) := by decide +kernel
theorem dX11_give_34 : decode cX11_give 34 = .ok (.aload_n 0, 1) := by decide +kernel
theorem dX11_give_35 : decode cX11_give 35 = .ok (.getfield 52, 3) := by decide +kernel
theorem dX11_give_38 : decode cX11_give 38 = .ok (.iload_n 1, 1) := by decide +kernel
theorem dX11_give_39 : decode cX11_give 39 = .ok (.iload_n 2, 1) := by decide +kernel
theorem dX11_give_40 : decode cX11_give 40 = .ok (.iastore, 1) := by decide +kernel
theorem dX11_give_41 : decode cX11_give 41 = .ok (.aload_n 0, 1) := by decide +kernel
theorem dX11_give_42 : decode cX11_give 42 = .ok (.invokevirtual 171, 3) := by decide +kernel
theorem dX11_give_45 : decode cX11_give 45 = .ok (.ireturn, 1) := by decide +kernel
theorem dX11_take_0 : decode cX11_take 0 = .ok (.aload_n 0, 1) := by decide +kernel
theorem dX11_take_1 : decode cX11_take 1 = .ok (.iload_n 1, 1) := by decide +kernel
theorem dX11_take_2 : decode cX11_take 2 = .ok (.invokevirtual 149, 3) := by decide +kernel
theorem dX11_take_5 : decode cX11_take 5 = .ok (.ifCond .ne 5, 3) := by decide +kernel
theorem dX11_take_8 : decode cX11_take 8 = .ok (.iconst (-1), 1) := by decide +kernel
theorem dX11_take_9 : decode cX11_take 9 = .ok (.ireturn, 1) := by decide +kernel
theorem dX11_take_10 : decode cX11_take 10 = .ok (.aload_n 0, 1) := by decide +kernel
theorem dX11_take_11 : decode cX11_take 11 = .ok (.getfield 52, 3) := by decide +kernel
theorem dX11_take_14 : decode cX11_take 14 = .ok (.iload_n 1, 1) := by decide +kernel
theorem dX11_take_15 : decode cX11_take 15 = .ok (.iaload, 1) := by decide +kernel
theorem dX11_take_16 : decode cX11_take 16 = .ok (.istore_n 2, 1) := by decide +kernel
theorem dX11_take_17 : decode cX11_take 17 = .ok (.iload_n 2, 1) := by decide +kernel
theorem dX11_take_18 : decode cX11_take 18 = .ok (.bipush (-4), 2) := by decide +kernel
theorem dX11_take_20 : decode cX11_take 20 = .ok (.if_icmp .ne 6, 3) := by decide +kernel
theorem dX11_take_23 : decode cX11_take 23 = .ok (.bipush (-2), 2) := by decide +kernel
theorem dX11_take_25 : decode cX11_take 25 = .ok (.ireturn, 1) := by decide +kernel
theorem dX11_take_26 : decode cX11_take 26 = .ok (.aload_n 0, 1) := by decide +kernel
theorem dX11_take_27 : decode cX11_take 27 = .ok (.invokevirtual 168, 3) := by decide +kernel
theorem dX11_take_30 : decode cX11_take 30 = .ok (.aload_n 0, 1) := by decide +kernel
theorem dX11_take_31 : decode cX11_take 31 = .ok (.getfield 52, 3) := by decide +kernel
theorem dX11_take_34 : decode cX11_take 34 = .ok (.iload_n 1, 1) := by decide +kernel
theorem dX11_take_35 : decode cX11_take 35 = .ok (.bipush (-4), 2) := by decide +kernel
theorem dX11_take_37 : decode cX11_take 37 = .ok (.iastore, 1) := by decide +kernel
theorem dX11_take_38 : decode cX11_take 38 = .ok (.iload_n 2, 1) := by decide +kernel
theorem dX11_take_39 : decode cX11_take 39 = .ok (.ireturn, 1) := by decide +kernel
theorem dX11_out_0 : decode cX11_out 0 = .ok (.aload_n 0, 1) := by decide +kernel
theorem dX11_out_1 : decode cX11_out 1 = .ok (.iload_n 1, 1) := by decide +kernel
theorem dX11_out_2 : decode cX11_out 2 = .ok (.invokevirtual 144, 3) := by decide +kernel
theorem dX11_out_5 : decode cX11_out 5 = .ok (.ifCond .eq 27, 3) := by decide +kernel
theorem dX11_out_8 : decode cX11_out 8 = .ok (.iload_n 2, 1) := by decide +kernel
theorem dX11_out_9 : decode cX11_out 9 = .ok (.i2l, 1) := by decide +kernel
theorem dX11_out_10 : decode cX11_out 10 = .ok (.lconst 0, 1) := by decide +kernel
theorem dX11_out_11 : decode cX11_out 11 = .ok (.ldc2_w 147, 3) := by decide +kernel
theorem dX11_out_14 : decode cX11_out 14 = .ok (.invokestatic 93, 3) := by decide +kernel
theorem dX11_out_17 : decode cX11_out 17 = .ok (.ifCond .eq 15, 3) := by decide +kernel
theorem dX11_out_20 : decode cX11_out 20 = .ok (.iload_n 3, 1) := by decide +kernel
theorem dX11_out_21 : decode cX11_out 21 = .ok (.i2l, 1) := by decide +kernel
theorem dX11_out_22 : decode cX11_out 22 = .ok (.lconst 0, 1) := by decide +kernel
theorem dX11_out_23 : decode cX11_out 23 = .ok (.ldc2_w 147, 3) := by decide +kernel
theorem dX11_out_26 : decode cX11_out 26 = .ok (.invokestatic 93, 3) := by decide +kernel
theorem dX11_out_29 : decode cX11_out 29 = .ok (.ifCond .ne 5, 3) := by decide +kernel
theorem dX11_out_32 : decode cX11_out 32 = .ok (.iconst (-1), 1) := by decide +kernel
theorem dX11_out_33 : decode cX11_out 33 = .ok (.ireturn, 1) := by decide +kernel
theorem dX11_out_34 : decode cX11_out 34 = .ok (.aload_n 0, 1) := by decide +kernel
theorem dX11_out_35 : decode cX11_out 35 = .ok (.invokevirtual 168, 3) := by decide +kernel
theorem dX11_out_38 : decode cX11_out 38 = .ok (.aload_n 0, 1) := by decide +kernel
theorem dX11_out_39 : decode cX11_out 39 = .ok (.getfield 52, 3) := by decide +kernel
theorem dX11_out_42 : decode cX11_out 42 = .ok (.bipush 24, 2) := by decide +kernel
theorem dX11_out_44 : decode cX11_out 44 = .ok (.iconst 2, 1) := by decide +kernel
theorem dX11_out_45 : decode cX11_out 45 = .ok (.iload_n 1, 1) := by decide +kernel
theorem dX11_out_46 : decode cX11_out 46 = .ok (.imul, 1) := by decide +kernel
theorem dX11_out_47 : decode cX11_out 47 = .ok (.iadd, 1) := by decide +kernel
theorem dX11_out_48 : decode cX11_out 48 = .ok (.iload_n 2, 1) := by decide +kernel
theorem dX11_out_49 : decode cX11_out 49 = .ok (.iload_n 3, 1) := by decide +kernel
theorem dX11_out_50 : decode cX11_out 50 = .ok (.if_icmp .le 7, 3) := by decide +kernel
theorem dX11_out_53 : decode cX11_out 53 = .ok (.iconst 1, 1) := by decide +kernel
theorem dX11_out_54 : decode cX11_out 54 = .ok (.goto 4, 3) := by decide +kernel
theorem dX11_out_57 : decode cX11_out 57 = .ok (.iload_n 2, 1) := by decide +kernel
theorem dX11_out_58 : decode cX11_out 58 = .ok (.iastore, 1) := by decide +kernel
theorem dX11_out_59 : decode cX11_out 59 = .ok (.aload_n 0, 1) := by decide +kernel
theorem dX11_out_60 : decode cX11_out 60 = .ok (.getfield 52, 3) := by decide +kernel
theorem dX11_out_63 : decode cX11_out 63 = .ok (.bipush 24, 2) := by decide +kernel
theorem dX11_out_65 : decode cX11_out 65 = .ok (.iconst 2, 1) := by decide +kernel
end
section
theorem dX11_out_66 : decode cX11_out 66 = .ok (.iload_n 1, 1) := by decide +kernel
theorem dX11_out_67 : decode cX11_out 67 = .ok (.imul, 1) := by decide +kernel
theorem dX11_out_68 : decode cX11_out 68 = .ok (.iadd, 1) := by decide +kernel
theorem dX11_out_69 : decode cX11_out 69 = .ok (.iconst 1, 1) := by decide +kernel
theorem dX11_out_70 : decode cX11_out 70 = .ok (.iadd, 1) := by decide +kernel
theorem dX11_out_71 : decode cX11_out 71 = .ok (.iload_n 2, 1) := by decide +kernel
theorem dX11_out_72 : decode cX11_out 72 = .ok (.iload_n 3, 1) := by decide +kernel
theorem dX11_out_73 : decode cX11_out 73 = .ok (.if_icmp .le 7, 3) := by decide +kernel
theorem dX11_out_76 : decode cX11_out 76 = .ok (.iconst 0, 1) := by decide +kernel
theorem dX11_out_77 : decode cX11_out 77 = .ok (.goto 4, 3) := by decide +kernel
theorem dX11_out_80 : decode cX11_out 80 = .ok (.iload_n 3, 1) := by decide +kernel
theorem dX11_out_81 : decode cX11_out 81 = .ok (.iastore, 1) := by decide +kernel
theorem dX11_out_82 : decode cX11_out 82 = .ok (.iconst 0, 1) := by decide +kernel
theorem dX11_out_83 : decode cX11_out 83 = .ok (.istore 4, 2) := by decide +kernel
theorem dX11_out_85 : decode cX11_out 85 = .ok (.iconst 0, 1) := by decide +kernel
theorem dX11_out_86 : decode cX11_out 86 = .ok (.istore 5, 2) := by decide +kernel
theorem dX11_out_88 : decode cX11_out 88 = .ok (.iload 5, 2) := by decide +kernel
theorem dX11_out_90 : decode cX11_out 90 = .ok (.aload_n 0, 1) := by decide +kernel
theorem dX11_out_91 : decode cX11_out 91 = .ok (.getfield 124, 3) := by decide +kernel
theorem dX11_out_94 : decode cX11_out 94 = .ok (.if_icmp .ge 42, 3) := by decide +kernel
theorem dX11_out_97 : decode cX11_out 97 = .ok (.aload_n 0, 1) := by decide +kernel
theorem dX11_out_98 : decode cX11_out 98 = .ok (.getfield 52, 3) := by decide +kernel
theorem dX11_out_101 : decode cX11_out 101 = .ok (.iload 5, 2) := by decide +kernel
theorem dX11_out_103 : decode cX11_out 103 = .ok (.iaload, 1) := by decide +kernel
theorem dX11_out_104 : decode cX11_out 104 = .ok (.iload_n 1, 1) := by decide +kernel
theorem dX11_out_105 : decode cX11_out 105 = .ok (.if_icmp .ne 25, 3) := by decide +kernel
theorem dX11_out_108 : decode cX11_out 108 = .ok (.aload_n 0, 1) := by decide +kernel
theorem dX11_out_109 : decode cX11_out 109 = .ok (.iload 5, 2) := by decide +kernel
theorem dX11_out_111 : decode cX11_out 111 = .ok (.iload_n 1, 1) := by decide +kernel
theorem dX11_out_112 : decode cX11_out 112 = .ok (.invokevirtual 152, 3) := by decide +kernel
theorem dX11_out_115 : decode cX11_out 115 = .ok (.ifCond .ne 15, 3) := by decide +kernel
theorem dX11_out_118 : decode cX11_out 118 = .ok (.aload_n 0, 1) := by decide +kernel
theorem dX11_out_119 : decode cX11_out 119 = .ok (.getfield 52, 3) := by decide +kernel
theorem dX11_out_122 : decode cX11_out 122 = .ok (.iload 5, 2) := by decide +kernel
theorem dX11_out_124 : decode cX11_out 124 = .ok (.bipush (-4), 2) := by decide +kernel
theorem dX11_out_126 : decode cX11_out 126 = .ok (.iastore, 1) := by decide +kernel
theorem dX11_out_127 : decode cX11_out 127 = .ok (.iinc 4 1, 3) := by decide +kernel
theorem dX11_out_130 : decode cX11_out 130 = .ok (.iinc 5 1, 3) := by decide +kernel
theorem dX11_out_133 : decode cX11_out 133 = .ok (.goto (-45), 3) := by decide +kernel
theorem dX11_out_136 : decode cX11_out 136 = .ok (.iload 4, 2) := by decide +kernel
theorem dX11_out_138 : decode cX11_out 138 = .ok (.ireturn, 1) := by decide +kernel
theorem dX11_bestBehind_0 : decode cX11_bestBehind 0 = .ok (.bipush 24, 2) := by decide +kernel
theorem dX11_bestBehind_2 : decode cX11_bestBehind 2 = .ok (.istore_n 3, 1) := by decide +kernel
theorem dX11_bestBehind_3 : decode cX11_bestBehind 3 = .ok (.iload_n 2, 1) := by decide +kernel
theorem dX11_bestBehind_4 : decode cX11_bestBehind 4 = .ok (.iconst 1, 1) := by decide +kernel
theorem dX11_bestBehind_5 : decode cX11_bestBehind 5 = .ok (.iadd, 1) := by decide +kernel
theorem dX11_bestBehind_6 : decode cX11_bestBehind 6 = .ok (.istore 4, 2) := by decide +kernel
theorem dX11_bestBehind_8 : decode cX11_bestBehind 8 = .ok (.iload 4, 2) := by decide +kernel
theorem dX11_bestBehind_10 : decode cX11_bestBehind 10 = .ok (.aload_n 0, 1) := by decide +kernel
theorem dX11_bestBehind_11 : decode cX11_bestBehind 11 = .ok (.getfield 124, 3) := by decide +kernel
theorem dX11_bestBehind_14 : decode cX11_bestBehind 14 = .ok (.if_icmp .ge 129, 3) := by decide +kernel
theorem dX11_bestBehind_17 : decode cX11_bestBehind 17 = .ok (.aload_n 0, 1) := by decide +kernel
theorem dX11_bestBehind_18 : decode cX11_bestBehind 18 = .ok (.iload 4, 2) := by decide +kernel
theorem dX11_bestBehind_20 : decode cX11_bestBehind 20 = .ok (.iload_n 1, 1) := by decide +kernel
theorem dX11_bestBehind_21 : decode cX11_bestBehind 21 = .ok (.invokevirtual 152, 3) := by decide +kernel
theorem dX11_bestBehind_24 : decode cX11_bestBehind 24 = .ok (.ifCond .eq 38, 3) := by decide +kernel
theorem dX11_bestBehind_27 : decode cX11_bestBehind 27 = .ok (.iload_n 2, 1) := by decide +kernel
theorem dX11_bestBehind_28 : decode cX11_bestBehind 28 = .ok (.ifCond .lt 30, 3) := by decide +kernel
theorem dX11_bestBehind_31 : decode cX11_bestBehind 31 = .ok (.aload_n 0, 1) := by decide +kernel
theorem dX11_bestBehind_32 : decode cX11_bestBehind 32 = .ok (.getfield 37, 3) := by decide +kernel
theorem dX11_bestBehind_35 : decode cX11_bestBehind 35 = .ok (.iload 4, 2) := by decide +kernel
theorem dX11_bestBehind_37 : decode cX11_bestBehind 37 = .ok (.iaload, 1) := by decide +kernel
theorem dX11_bestBehind_38 : decode cX11_bestBehind 38 = .ok (.aload_n 0, 1) := by decide +kernel
theorem dX11_bestBehind_39 : decode cX11_bestBehind 39 = .ok (.getfield 40, 3) := by decide +kernel
theorem dX11_bestBehind_42 : decode cX11_bestBehind 42 = .ok (.iload_n 2, 1) := by decide +kernel
theorem dX11_bestBehind_43 : decode cX11_bestBehind 43 = .ok (.iaload, 1) := by decide +kernel
theorem dX11_bestBehind_44 : decode cX11_bestBehind 44 = .ok (.isub, 1) := by decide +kernel
theorem dX11_bestBehind_45 : decode cX11_bestBehind 45 = .ok (.aload_n 0, 1) := by decide +kernel
theorem dX11_bestBehind_46 : decode cX11_bestBehind 46 = .ok (.getfield 19, 3) := by decide +kernel
theorem dX11_bestBehind_49 : decode cX11_bestBehind 49 = .ok (.iconst 3, 1) := by decide +kernel
theorem dX11_bestBehind_50 : decode cX11_bestBehind 50 = .ok (.iload_n 1, 1) := by decide +kernel
theorem dX11_bestBehind_51 : decode cX11_bestBehind 51 = .ok (.imul, 1) := by decide +kernel
theorem dX11_bestBehind_52 : decode cX11_bestBehind 52 = .ok (.iconst 2, 1) := by decide +kernel
theorem dX11_bestBehind_53 : decode cX11_bestBehind 53 = .ok (.iadd, 1) := by decide +kernel
theorem dX11_bestBehind_54 : decode cX11_bestBehind 54 = .ok (.iaload, 1) := by decide +kernel
theorem dX11_bestBehind_55 : decode cX11_bestBehind 55 = .ok (.if_icmp .le 7, 3) := by decide +kernel
theorem dX11_bestBehind_58 : decode cX11_bestBehind 58 = .ok (.iconst 1, 1) := by decide +kernel
theorem dX11_bestBehind_59 : decode cX11_bestBehind 59 = .ok (.goto 4, 3) := by decide +kernel
theorem dX11_bestBehind_62 : decode cX11_bestBehind 62 = .ok (.iconst 0, 1) := by decide +kernel
theorem dX11_bestBehind_63 : decode cX11_bestBehind 63 = .ok (.istore 5, 2) := by decide +kernel
theorem dX11_bestBehind_65 : decode cX11_bestBehind 65 = .ok (.aload_n 0, 1) := by decide +kernel
theorem dX11_bestBehind_66 : decode cX11_bestBehind 66 = .ok (.getfield 58, 3) := by decide +kernel
theorem dX11_bestBehind_69 : decode cX11_bestBehind 69 = .ok (.iload 4, 2) := by decide +kernel
theorem dX11_bestBehind_71 : decode cX11_bestBehind 71 = .ok (.iaload, 1) := by decide +kernel
theorem dX11_bestBehind_72 : decode cX11_bestBehind 72 = .ok (.aload_n 0, 1) := by decide +kernel
theorem dX11_bestBehind_73 : decode cX11_bestBehind 73 = .ok (.getfield 58, 3) := by decide +kernel
theorem dX11_bestBehind_76 : decode cX11_bestBehind 76 = .ok (.iload_n 3, 1) := by decide +kernel
theorem dX11_bestBehind_77 : decode cX11_bestBehind 77 = .ok (.iaload, 1) := by decide +kernel
theorem dX11_bestBehind_78 : decode cX11_bestBehind 78 = .ok (.if_icmp .gt 35, 3) := by decide +kernel
theorem dX11_bestBehind_81 : decode cX11_bestBehind 81 = .ok (.aload_n 0, 1) := by decide +kernel
theorem dX11_bestBehind_82 : decode cX11_bestBehind 82 = .ok (.getfield 58, 3) := by decide +kernel
theorem dX11_bestBehind_85 : decode cX11_bestBehind 85 = .ok (.iload 4, 2) := by decide +kernel
theorem dX11_bestBehind_87 : decode cX11_bestBehind 87 = .ok (.iaload, 1) := by decide +kernel
theorem dX11_bestBehind_88 : decode cX11_bestBehind 88 = .ok (.aload_n 0, 1) := by decide +kernel
theorem dX11_bestBehind_89 : decode cX11_bestBehind 89 = .ok (.getfield 58, 3) := by decide +kernel
theorem dX11_bestBehind_92 : decode cX11_bestBehind 92 = .ok (.iload_n 3, 1) := by decide +kernel
theorem dX11_bestBehind_93 : decode cX11_bestBehind 93 = .ok (.iaload, 1) := by decide +kernel
theorem dX11_bestBehind_94 : decode cX11_bestBehind 94 = .ok (.if_icmp .ne 23, 3) := by decide +kernel
theorem dX11_bestBehind_97 : decode cX11_bestBehind 97 = .ok (.aload_n 0, 1) := by decide +kernel
theorem dX11_bestBehind_98 : decode cX11_bestBehind 98 = .ok (.getfield 61, 3) := by decide +kernel
theorem dX11_bestBehind_101 : decode cX11_bestBehind 101 = .ok (.iload 4, 2) := by decide +kernel
theorem dX11_bestBehind_103 : decode cX11_bestBehind 103 = .ok (.iaload, 1) := by decide +kernel
theorem dX11_bestBehind_104 : decode cX11_bestBehind 104 = .ok (.aload_n 0, 1) := by decide +kernel
theorem dX11_bestBehind_105 : decode cX11_bestBehind 105 = .ok (.getfield 61, 3) := by decide +kernel
theorem dX11_bestBehind_108 : decode cX11_bestBehind 108 = .ok (.iload_n 3, 1) := by decide +kernel
theorem dX11_bestBehind_109 : decode cX11_bestBehind 109 = .ok (.iaload, 1) := by decide +kernel
theorem dX11_bestBehind_110 : decode cX11_bestBehind 110 = .ok (.if_icmp .ge 7, 3) := by decide +kernel
theorem dX11_bestBehind_113 : decode cX11_bestBehind 113 = .ok (.iconst 1, 1) := by decide +kernel
theorem dX11_bestBehind_114 : decode cX11_bestBehind 114 = .ok (.goto 4, 3) := by decide +kernel
theorem dX11_bestBehind_117 : decode cX11_bestBehind 117 = .ok (.iconst 0, 1) := by decide +kernel
theorem dX11_bestBehind_118 : decode cX11_bestBehind 118 = .ok (.istore 6, 2) := by decide +kernel
theorem dX11_bestBehind_120 : decode cX11_bestBehind 120 = .ok (.iload 5, 2) := by decide +kernel
theorem dX11_bestBehind_122 : decode cX11_bestBehind 122 = .ok (.ifCond .eq 13, 3) := by decide +kernel
theorem dX11_bestBehind_125 : decode cX11_bestBehind 125 = .ok (.iload 6, 2) := by decide +kernel
theorem dX11_bestBehind_127 : decode cX11_bestBehind 127 = .ok (.ifCond .eq 8, 3) := by decide +kernel
theorem dX11_bestBehind_130 : decode cX11_bestBehind 130 = .ok (.iload 4, 2) := by decide +kernel
theorem dX11_bestBehind_132 : decode cX11_bestBehind 132 = .ok (.goto 4, 3) := by decide +kernel
theorem dX11_bestBehind_135 : decode cX11_bestBehind 135 = .ok (.iload_n 3, 1) := by decide +kernel
theorem dX11_bestBehind_136 : decode cX11_bestBehind 136 = .ok (.istore_n 3, 1) := by decide +kernel
theorem dX11_bestBehind_137 : decode cX11_bestBehind 137 = .ok (.iinc 4 1, 3) := by decide +kernel
theorem dX11_bestBehind_140 : decode cX11_bestBehind 140 = .ok (.goto (-132), 3) := by decide +kernel
theorem dX11_bestBehind_143 : decode cX11_bestBehind 143 = .ok (.iload_n 3, 1) := by decide +kernel
theorem dX11_bestBehind_144 : decode cX11_bestBehind 144 = .ok (.ireturn, 1) := by decide +kernel
theorem dX11_bests_0 : decode cX11_bests 0 = .ok (.aload_n 0, 1) := by decide +kernel
theorem dX11_bests_1 : decode cX11_bests 1 = .ok (.getfield 58, 3) := by decide +kernel
theorem dX11_bests_4 : decode cX11_bests 4 = .ok (.bipush 24, 2) := by decide +kernel
theorem dX11_bests_6 : decode cX11_bests 6 = .ok (.iconst 0, 1) := by decide +kernel
theorem dX11_bests_7 : decode cX11_bests 7 = .ok (.iastore, 1) := by decide +kernel
theorem dX11_bests_8 : decode cX11_bests 8 = .ok (.aload_n 0, 1) := by decide +kernel
theorem dX11_bests_9 : decode cX11_bests 9 = .ok (.getfield 61, 3) := by decide +kernel
theorem dX11_bests_12 : decode cX11_bests 12 = .ok (.bipush 24, 2) := by decide +kernel
theorem dX11_bests_14 : decode cX11_bests 14 = .ok (.iconst 0, 1) := by decide +kernel
theorem dX11_bests_15 : decode cX11_bests 15 = .ok (.iastore, 1) := by decide +kernel
theorem dX11_bests_16 : decode cX11_bests 16 = .ok (.aload_n 0, 1) := by decide +kernel
theorem dX11_bests_17 : decode cX11_bests 17 = .ok (.getfield 124, 3) := by decide +kernel
theorem dX11_bests_20 : decode cX11_bests 20 = .ok (.iconst 1, 1) := by decide +kernel
theorem dX11_bests_21 : decode cX11_bests 21 = .ok (.isub, 1) := by decide +kernel
theorem dX11_bests_22 : decode cX11_bests 22 = .ok (.istore_n 2, 1) := by decide +kernel
theorem dX11_bests_23 : decode cX11_bests 23 = .ok (.iload_n 2, 1) := by decide +kernel
theorem dX11_bests_24 : decode cX11_bests 24 = .ok (.ifCond .lt 64, 3) := by decide +kernel
theorem dX11_bests_27 : decode cX11_bests 27 = .ok (.aload_n 0, 1) := by decide +kernel
theorem dX11_bests_28 : decode cX11_bests 28 = .ok (.getfield 64, 3) := by decide +kernel
theorem dX11_bests_31 : decode cX11_bests 31 = .ok (.iload_n 2, 1) := by decide +kernel
theorem dX11_bests_32 : decode cX11_bests 32 = .ok (.aload_n 0, 1) := by decide +kernel
theorem dX11_bests_33 : decode cX11_bests 33 = .ok (.iload_n 1, 1) := by decide +kernel
theorem dX11_bests_34 : decode cX11_bests 34 = .ok (.iload_n 2, 1) := by decide +kernel
theorem dX11_bests_35 : decode cX11_bests 35 = .ok (.invokevirtual 174, 3) := by decide +kernel
theorem dX11_bests_38 : decode cX11_bests 38 = .ok (.iastore, 1) := by decide +kernel
theorem dX11_bests_39 : decode cX11_bests 39 = .ok (.aload_n 0, 1) := by decide +kernel
theorem dX11_bests_40 : decode cX11_bests 40 = .ok (.getfield 58, 3) := by decide +kernel
theorem dX11_bests_43 : decode cX11_bests 43 = .ok (.iload_n 2, 1) := by decide +kernel
theorem dX11_bests_44 : decode cX11_bests 44 = .ok (.aload_n 0, 1) := by decide +kernel
theorem dX11_bests_45 : decode cX11_bests 45 = .ok (.getfield 49, 3) := by decide +kernel
theorem dX11_bests_48 : decode cX11_bests 48 = .ok (.iload_n 2, 1) := by decide +kernel
theorem dX11_bests_49 : decode cX11_bests 49 = .ok (.iaload, 1) := by decide +kernel
theorem dX11_bests_50 : decode cX11_bests 50 = .ok (.aload_n 0, 1) := by decide +kernel
theorem dX11_bests_51 : decode cX11_bests 51 = .ok (.getfield 58, 3) := by decide +kernel
theorem dX11_bests_54 : decode cX11_bests 54 = .ok (.aload_n 0, 1) := by decide +kernel
theorem dX11_bests_55 : decode cX11_bests 55 = .ok (.getfield 64, 3) := by decide +kernel
theorem dX11_bests_58 : decode cX11_bests 58 = .ok (.iload_n 2, 1) := by decide +kernel
theorem dX11_bests_59 : decode cX11_bests 59 = .ok (.iaload, 1) := by decide +kernel
theorem dX11_bests_60 : decode cX11_bests 60 = .ok (.iaload, 1) := by decide +kernel
theorem dX11_bests_61 : decode cX11_bests 61 = .ok (.iadd, 1) := by decide +kernel
theorem dX11_bests_62 : decode cX11_bests 62 = .ok (.iastore, 1) := by decide +kernel
theorem dX11_bests_63 : decode cX11_bests 63 = .ok (.aload_n 0, 1) := by decide +kernel
theorem dX11_bests_64 : decode cX11_bests 64 = .ok (.getfield 61, 3) := by decide +kernel
theorem dX11_bests_67 : decode cX11_bests 67 = .ok (.iload_n 2, 1) := by decide +kernel
theorem dX11_bests_68 : decode cX11_bests 68 = .ok (.iconst 1, 1) := by decide +kernel
theorem dX11_bests_69 : decode cX11_bests 69 = .ok (.aload_n 0, 1) := by decide +kernel
theorem dX11_bests_70 : decode cX11_bests 70 = .ok (.getfield 61, 3) := by decide +kernel
theorem dX11_bests_73 : decode cX11_bests 73 = .ok (.aload_n 0, 1) := by decide +kernel
theorem dX11_bests_74 : decode cX11_bests 74 = .ok (.getfield 64, 3) := by decide +kernel
theorem dX11_bests_77 : decode cX11_bests 77 = .ok (.iload_n 2, 1) := by decide +kernel
theorem dX11_bests_78 : decode cX11_bests 78 = .ok (.iaload, 1) := by decide +kernel
theorem dX11_bests_79 : decode cX11_bests 79 = .ok (.iaload, 1) := by decide +kernel
theorem dX11_bests_80 : decode cX11_bests 80 = .ok (.iadd, 1) := by decide +kernel
theorem dX11_bests_81 : decode cX11_bests 81 = .ok (.iastore, 1) := by decide +kernel
theorem dX11_bests_82 : decode cX11_bests 82 = .ok (.iinc 2 (-1), 3) := by decide +kernel
theorem dX11_bests_85 : decode cX11_bests 85 = .ok (.goto (-62), 3) := by decide +kernel
theorem dX11_bests_88 : decode cX11_bests 88 = .ok (.return_, 1) := by decide +kernel
theorem dX11_best_0 : decode cX11_best 0 = .ok (.aload_n 0, 1) := by decide +kernel
theorem dX11_best_1 : decode cX11_best 1 = .ok (.iload_n 1, 1) := by decide +kernel
theorem dX11_best_2 : decode cX11_best 2 = .ok (.invokevirtual 144, 3) := by decide +kernel
theorem dX11_best_5 : decode cX11_best 5 = .ok (.ifCond .eq 9, 3) := by decide +kernel
theorem dX11_best_8 : decode cX11_best 8 = .ok (.iload_n 2, 1) := by decide +kernel
theorem dX11_best_9 : decode cX11_best 9 = .ok (.bipush (-2), 2) := by decide +kernel
theorem dX11_best_11 : decode cX11_best 11 = .ok (.if_icmp .ge 5, 3) := by decide +kernel
theorem dX11_best_14 : decode cX11_best 14 = .ok (.iconst (-1), 1) := by decide +kernel
theorem dX11_best_15 : decode cX11_best 15 = .ok (.ireturn, 1) := by decide +kernel
theorem dX11_best_16 : decode cX11_best 16 = .ok (.aload_n 0, 1) := by decide +kernel
theorem dX11_best_17 : decode cX11_best 17 = .ok (.iload_n 1, 1) := by decide +kernel
theorem dX11_best_18 : decode cX11_best 18 = .ok (.invokevirtual 177, 3) := by decide +kernel
theorem dX11_best_21 : decode cX11_best 21 = .ok (.aload_n 0, 1) := by decide +kernel
theorem dX11_best_22 : decode cX11_best 22 = .ok (.iload_n 1, 1) := by decide +kernel
theorem dX11_best_23 : decode cX11_best 23 = .ok (.iconst (-1), 1) := by decide +kernel
theorem dX11_best_24 : decode cX11_best 24 = .ok (.invokevirtual 174, 3) := by decide +kernel
theorem dX11_best_27 : decode cX11_best 27 = .ok (.istore_n 3, 1) := by decide +kernel
theorem dX11_best_28 : decode cX11_best 28 = .ok (.iload_n 2, 1) := by decide +kernel
theorem dX11_best_29 : decode cX11_best 29 = .ok (.ifCond .ge 24, 3) := by decide +kernel
theorem dX11_best_32 : decode cX11_best 32 = .ok (.iload_n 2, 1) := by decide +kernel
theorem dX11_best_33 : decode cX11_best 33 = .ok (.iconst (-1), 1) := by decide +kernel
theorem dX11_best_34 : decode cX11_best 34 = .ok (.if_icmp .ne 12, 3) := by decide +kernel
theorem dX11_best_37 : decode cX11_best 37 = .ok (.aload_n 0, 1) := by decide +kernel
theorem dX11_best_38 : decode cX11_best 38 = .ok (.getfield 58, 3) := by decide +kernel
theorem dX11_best_41 : decode cX11_best 41 = .ok (.iload_n 3, 1) := by decide +kernel
theorem dX11_best_42 : decode cX11_best 42 = .ok (.iaload, 1) := by decide +kernel
theorem dX11_best_43 : decode cX11_best 43 = .ok (.goto 9, 3) := by decide +kernel
theorem dX11_best_46 : decode cX11_best 46 = .ok (.aload_n 0, 1) := by decide +kernel
theorem dX11_best_47 : decode cX11_best 47 = .ok (.getfield 61, 3) := by decide +kernel
theorem dX11_best_50 : decode cX11_best 50 = .ok (.iload_n 3, 1) := by decide +kernel
theorem dX11_best_51 : decode cX11_best 51 = .ok (.iaload, 1) := by decide +kernel
theorem dX11_best_52 : decode cX11_best 52 = .ok (.ireturn, 1) := by decide +kernel
theorem dX11_best_53 : decode cX11_best 53 = .ok (.iconst 0, 1) := by decide +kernel
theorem dX11_best_54 : decode cX11_best 54 = .ok (.istore 4, 2) := by decide +kernel
theorem dX11_best_56 : decode cX11_best 56 = .ok (.iload 4, 2) := by decide +kernel
theorem dX11_best_58 : decode cX11_best 58 = .ok (.iload_n 2, 1) := by decide +kernel
theorem dX11_best_59 : decode cX11_best 59 = .ok (.if_icmp .ge 22, 3) := by decide +kernel
theorem dX11_best_62 : decode cX11_best 62 = .ok (.iload_n 3, 1) := by decide +kernel
theorem dX11_best_63 : decode cX11_best 63 = .ok (.bipush 24, 2) := by decide +kernel
theorem dX11_best_65 : decode cX11_best 65 = .ok (.if_icmp .ge 16, 3) := by decide +kernel
theorem dX11_best_68 : decode cX11_best 68 = .ok (.aload_n 0, 1) := by decide +kernel
theorem dX11_best_69 : decode cX11_best 69 = .ok (.getfield 64, 3) := by decide +kernel
theorem dX11_best_72 : decode cX11_best 72 = .ok (.iload_n 3, 1) := by decide +kernel
theorem dX11_best_73 : decode cX11_best 73 = .ok (.iaload, 1) := by decide +kernel
theorem dX11_best_74 : decode cX11_best 74 = .ok (.istore_n 3, 1) := by decide +kernel
theorem dX11_best_75 : decode cX11_best 75 = .ok (.iinc 4 1, 3) := by decide +kernel
theorem dX11_best_78 : decode cX11_best 78 = .ok (.goto (-22), 3) := by decide +kernel
theorem dX11_best_81 : decode cX11_best 81 = .ok (.iload_n 3, 1) := by decide +kernel
theorem dX11_best_82 : decode cX11_best 82 = .ok (.bipush 24, 2) := by decide +kernel
theorem dX11_best_84 : decode cX11_best 84 = .ok (.if_icmp .ge 7, 3) := by decide +kernel
theorem dX11_best_87 : decode cX11_best 87 = .ok (.iload_n 3, 1) := by decide +kernel
theorem dX11_best_88 : decode cX11_best 88 = .ok (.goto 5, 3) := by decide +kernel
theorem dX11_best_91 : decode cX11_best 91 = .ok (.bipush (-4), 2) := by decide +kernel
theorem dX11_best_93 : decode cX11_best 93 = .ok (.ireturn, 1) := by decide +kernel
theorem dX11_wide_0 : decode cX11_wide 0 = .ok (.aload_n 0, 1) := by decide +kernel
theorem dX11_wide_1 : decode cX11_wide 1 = .ok (.getfield 124, 3) := by decide +kernel
theorem dX11_wide_4 : decode cX11_wide 4 = .ok (.iload_n 1, 1) := by decide +kernel
theorem dX11_wide_5 : decode cX11_wide 5 = .ok (.isub, 1) := by decide +kernel
theorem dX11_wide_6 : decode cX11_wide 6 = .ok (.bipush 6, 2) := by decide +kernel
theorem dX11_wide_8 : decode cX11_wide 8 = .ok (.if_icmp .ge 12, 3) := by decide +kernel
theorem dX11_wide_11 : decode cX11_wide 11 = .ok (.aload_n 0, 1) := by decide +kernel
theorem dX11_wide_12 : decode cX11_wide 12 = .ok (.getfield 124, 3) := by decide +kernel
theorem dX11_wide_15 : decode cX11_wide 15 = .ok (.iload_n 1, 1) := by decide +kernel
theorem dX11_wide_16 : decode cX11_wide 16 = .ok (.isub, 1) := by decide +kernel
theorem dX11_wide_17 : decode cX11_wide 17 = .ok (.goto 5, 3) := by decide +kernel
theorem dX11_wide_20 : decode cX11_wide 20 = .ok (.bipush 6, 2) := by decide +kernel
theorem dX11_wide_22 : decode cX11_wide 22 = .ok (.ireturn, 1) := by decide +kernel
theorem dX11_isWay_0 : decode cX11_isWay 0 = .ok (.iload_n 1, 1) := by decide +kernel
theorem dX11_isWay_1 : decode cX11_isWay 1 = .ok (.istore_n 3, 1) := by decide +kernel
theorem dX11_isWay_2 : decode cX11_isWay 2 = .ok (.iload_n 3, 1) := by decide +kernel
theorem dX11_isWay_3 : decode cX11_isWay 3 = .ok (.iload_n 1, 1) := by decide +kernel
theorem dX11_isWay_4 : decode cX11_isWay 4 = .ok (.iload_n 2, 1) := by decide +kernel
theorem dX11_isWay_5 : decode cX11_isWay 5 = .ok (.iadd, 1) := by decide +kernel
theorem dX11_isWay_6 : decode cX11_isWay 6 = .ok (.if_icmp .ge 162, 3) := by decide +kernel
theorem dX11_isWay_9 : decode cX11_isWay 9 = .ok (.aload_n 0, 1) := by decide +kernel
theorem dX11_isWay_10 : decode cX11_isWay 10 = .ok (.getfield 67, 3) := by decide +kernel
theorem dX11_isWay_13 : decode cX11_isWay 13 = .ok (.iload_n 3, 1) := by decide +kernel
theorem dX11_isWay_14 : decode cX11_isWay 14 = .ok (.iaload, 1) := by decide +kernel
theorem dX11_isWay_15 : decode cX11_isWay 15 = .ok (.bipush (-4), 2) := by decide +kernel
theorem dX11_isWay_17 : decode cX11_isWay 17 = .ok (.if_icmp .eq 145, 3) := by decide +kernel
theorem dX11_isWay_20 : decode cX11_isWay 20 = .ok (.aload_n 0, 1) := by decide +kernel
theorem dX11_isWay_21 : decode cX11_isWay 21 = .ok (.iload_n 3, 1) := by decide +kernel
theorem dX11_isWay_22 : decode cX11_isWay 22 = .ok (.aload_n 0, 1) := by decide +kernel
theorem dX11_isWay_23 : decode cX11_isWay 23 = .ok (.getfield 67, 3) := by decide +kernel
theorem dX11_isWay_26 : decode cX11_isWay 26 = .ok (.iload_n 3, 1) := by decide +kernel
theorem dX11_isWay_27 : decode cX11_isWay 27 = .ok (.iaload, 1) := by decide +kernel
theorem dX11_isWay_28 : decode cX11_isWay 28 = .ok (.invokevirtual 152, 3) := by decide +kernel
theorem dX11_isWay_31 : decode cX11_isWay 31 = .ok (.ifCond .ne 5, 3) := by decide +kernel
theorem dX11_isWay_34 : decode cX11_isWay 34 = .ok (.iconst 0, 1) := by decide +kernel
theorem dX11_isWay_35 : decode cX11_isWay 35 = .ok (.ireturn, 1) := by decide +kernel
theorem dX11_isWay_36 : decode cX11_isWay 36 = .ok (.iconst 0, 1) := by decide +kernel
theorem dX11_isWay_37 : decode cX11_isWay 37 = .ok (.istore 4, 2) := by decide +kernel
theorem dX11_isWay_39 : decode cX11_isWay 39 = .ok (.iload 4, 2) := by decide +kernel
theorem dX11_isWay_41 : decode cX11_isWay 41 = .ok (.aload_n 0, 1) := by decide +kernel
theorem dX11_isWay_42 : decode cX11_isWay 42 = .ok (.getfield 124, 3) := by decide +kernel
theorem dX11_isWay_45 : decode cX11_isWay 45 = .ok (.if_icmp .ge 117, 3) := by decide +kernel
theorem dX11_isWay_48 : decode cX11_isWay 48 = .ok (.iload 4, 2) := by decide +kernel
theorem dX11_isWay_50 : decode cX11_isWay 50 = .ok (.iload_n 3, 1) := by decide +kernel
theorem dX11_isWay_51 : decode cX11_isWay 51 = .ok (.if_icmp .eq 39, 3) := by decide +kernel
theorem dX11_isWay_54 : decode cX11_isWay 54 = .ok (.aload_n 0, 1) := by decide +kernel
theorem dX11_isWay_55 : decode cX11_isWay 55 = .ok (.getfield 67, 3) := by decide +kernel
theorem dX11_isWay_58 : decode cX11_isWay 58 = .ok (.iload 4, 2) := by decide +kernel
theorem dX11_isWay_60 : decode cX11_isWay 60 = .ok (.iaload, 1) := by decide +kernel
theorem dX11_isWay_61 : decode cX11_isWay 61 = .ok (.aload_n 0, 1) := by decide +kernel
theorem dX11_isWay_62 : decode cX11_isWay 62 = .ok (.getfield 67, 3) := by decide +kernel
theorem dX11_isWay_65 : decode cX11_isWay 65 = .ok (.iload_n 3, 1) := by decide +kernel
theorem dX11_isWay_66 : decode cX11_isWay 66 = .ok (.iaload, 1) := by decide +kernel
theorem dX11_isWay_67 : decode cX11_isWay 67 = .ok (.if_icmp .ne 23, 3) := by decide +kernel
theorem dX11_isWay_70 : decode cX11_isWay 70 = .ok (.aload_n 0, 1) := by decide +kernel
theorem dX11_isWay_71 : decode cX11_isWay 71 = .ok (.iload 4, 2) := by decide +kernel
theorem dX11_isWay_73 : decode cX11_isWay 73 = .ok (.iload_n 3, 1) := by decide +kernel
theorem dX11_isWay_74 : decode cX11_isWay 74 = .ok (.aload_n 0, 1) := by decide +kernel
theorem dX11_isWay_75 : decode cX11_isWay 75 = .ok (.getfield 67, 3) := by decide +kernel
theorem dX11_isWay_78 : decode cX11_isWay 78 = .ok (.iload_n 3, 1) := by decide +kernel
theorem dX11_isWay_79 : decode cX11_isWay 79 = .ok (.iaload, 1) := by decide +kernel
theorem dX11_isWay_80 : decode cX11_isWay 80 = .ok (.invokevirtual 159, 3) := by decide +kernel
theorem dX11_isWay_83 : decode cX11_isWay 83 = .ok (.ifCond .ne 7, 3) := by decide +kernel
theorem dX11_isWay_86 : decode cX11_isWay 86 = .ok (.iconst 1, 1) := by decide +kernel
theorem dX11_isWay_87 : decode cX11_isWay 87 = .ok (.goto 4, 3) := by decide +kernel
theorem dX11_isWay_90 : decode cX11_isWay 90 = .ok (.iconst 0, 1) := by decide +kernel
theorem dX11_isWay_91 : decode cX11_isWay 91 = .ok (.istore 5, 2) := by decide +kernel
theorem dX11_isWay_93 : decode cX11_isWay 93 = .ok (.iload 4, 2) := by decide +kernel
theorem dX11_isWay_95 : decode cX11_isWay 95 = .ok (.iload_n 3, 1) := by decide +kernel
theorem dX11_isWay_96 : decode cX11_isWay 96 = .ok (.if_icmp .eq 45, 3) := by decide +kernel
theorem dX11_isWay_99 : decode cX11_isWay 99 = .ok (.aload_n 0, 1) := by decide +kernel
theorem dX11_isWay_100 : decode cX11_isWay 100 = .ok (.getfield 67, 3) := by decide +kernel
theorem dX11_isWay_103 : decode cX11_isWay 103 = .ok (.iload 4, 2) := by decide +kernel
theorem dX11_isWay_105 : decode cX11_isWay 105 = .ok (.iaload, 1) := by decide +kernel
theorem dX11_isWay_106 : decode cX11_isWay 106 = .ok (.bipush (-4), 2) := by decide +kernel
theorem dX11_isWay_108 : decode cX11_isWay 108 = .ok (.if_icmp .eq 33, 3) := by decide +kernel
theorem dX11_isWay_111 : decode cX11_isWay 111 = .ok (.aload_n 0, 1) := by decide +kernel
theorem dX11_isWay_112 : decode cX11_isWay 112 = .ok (.getfield 43, 3) := by decide +kernel
theorem dX11_isWay_115 : decode cX11_isWay 115 = .ok (.iload 4, 2) := by decide +kernel
theorem dX11_isWay_117 : decode cX11_isWay 117 = .ok (.iaload, 1) := by decide +kernel
theorem dX11_isWay_118 : decode cX11_isWay 118 = .ok (.aload_n 0, 1) := by decide +kernel
theorem dX11_isWay_119 : decode cX11_isWay 119 = .ok (.getfield 43, 3) := by decide +kernel
theorem dX11_isWay_122 : decode cX11_isWay 122 = .ok (.iload_n 3, 1) := by decide +kernel
theorem dX11_isWay_123 : decode cX11_isWay 123 = .ok (.iaload, 1) := by decide +kernel
theorem dX11_isWay_124 : decode cX11_isWay 124 = .ok (.if_icmp .ne 17, 3) := by decide +kernel
theorem dX11_isWay_127 : decode cX11_isWay 127 = .ok (.aload_n 0, 1) := by decide +kernel
theorem dX11_isWay_128 : decode cX11_isWay 128 = .ok (.iload 4, 2) := by decide +kernel
theorem dX11_isWay_130 : decode cX11_isWay 130 = .ok (.iload_n 3, 1) := by decide +kernel
theorem dX11_isWay_131 : decode cX11_isWay 131 = .ok (.invokevirtual 162, 3) := by decide +kernel
theorem dX11_isWay_134 : decode cX11_isWay 134 = .ok (.ifCond .eq 7, 3) := by decide +kernel
theorem dX11_isWay_137 : decode cX11_isWay 137 = .ok (.iconst 1, 1) := by decide +kernel
theorem dX11_isWay_138 : decode cX11_isWay 138 = .ok (.goto 4, 3) := by decide +kernel
theorem dX11_isWay_141 : decode cX11_isWay 141 = .ok (.iconst 0, 1) := by decide +kernel
theorem dX11_isWay_142 : decode cX11_isWay 142 = .ok (.istore 6, 2) := by decide +kernel
theorem dX11_isWay_144 : decode cX11_isWay 144 = .ok (.iload 5, 2) := by decide +kernel
theorem dX11_isWay_146 : decode cX11_isWay 146 = .ok (.ifCond .ne 8, 3) := by decide +kernel
theorem dX11_isWay_149 : decode cX11_isWay 149 = .ok (.iload 6, 2) := by decide +kernel
theorem dX11_isWay_151 : decode cX11_isWay 151 = .ok (.ifCond .eq 5, 3) := by decide +kernel
theorem dX11_isWay_154 : decode cX11_isWay 154 = .ok (.iconst 0, 1) := by decide +kernel
theorem dX11_isWay_155 : decode cX11_isWay 155 = .ok (.ireturn, 1) := by decide +kernel
theorem dX11_isWay_156 : decode cX11_isWay 156 = .ok (.iinc 4 1, 3) := by decide +kernel
theorem dX11_isWay_159 : decode cX11_isWay 159 = .ok (.goto (-120), 3) := by decide +kernel
theorem dX11_isWay_162 : decode cX11_isWay 162 = .ok (.iinc 3 1, 3) := by decide +kernel
theorem dX11_isWay_165 : decode cX11_isWay 165 = .ok (.goto (-163), 3) := by decide +kernel
theorem dX11_isWay_168 : decode cX11_isWay 168 = .ok (.iconst 1, 1) := by decide +kernel
theorem dX11_isWay_169 : decode cX11_isWay 169 = .ok (.ireturn, 1) := by decide +kernel
theorem dX11_fills_0 : decode cX11_fills 0 = .ok (.iconst 0, 1) := by decide +kernel
theorem dX11_fills_1 : decode cX11_fills 1 = .ok (.istore_n 2, 1) := by decide +kernel
theorem dX11_fills_2 : decode cX11_fills 2 = .ok (.iload_n 2, 1) := by decide +kernel
theorem dX11_fills_3 : decode cX11_fills 3 = .ok (.sipush 240, 3) := by decide +kernel
theorem dX11_fills_6 : decode cX11_fills 6 = .ok (.if_icmp .ge 16, 3) := by decide +kernel
theorem dX11_fills_9 : decode cX11_fills 9 = .ok (.aload_n 0, 1) := by decide +kernel
theorem dX11_fills_10 : decode cX11_fills 10 = .ok (.getfield 79, 3) := by decide +kernel
theorem dX11_fills_13 : decode cX11_fills 13 = .ok (.iload_n 2, 1) := by decide +kernel
theorem dX11_fills_14 : decode cX11_fills 14 = .ok (.iconst 0, 1) := by decide +kernel
theorem dX11_fills_15 : decode cX11_fills 15 = .ok (.iastore, 1) := by decide +kernel
theorem dX11_fills_16 : decode cX11_fills 16 = .ok (.iinc 2 1, 3) := by decide +kernel
theorem dX11_fills_19 : decode cX11_fills 19 = .ok (.goto (-17), 3) := by decide +kernel
theorem dX11_fills_22 : decode cX11_fills 22 = .ok (.iconst 0, 1) := by decide +kernel
theorem dX11_fills_23 : decode cX11_fills 23 = .ok (.istore_n 2, 1) := by decide +kernel
theorem dX11_fills_24 : decode cX11_fills 24 = .ok (.iload_n 2, 1) := by decide +kernel
theorem dX11_fills_25 : decode cX11_fills 25 = .ok (.aload_n 0, 1) := by decide +kernel
theorem dX11_fills_26 : decode cX11_fills 26 = .ok (.getfield 124, 3) := by decide +kernel
theorem dX11_fills_29 : decode cX11_fills 29 = .ok (.if_icmp .ge 62, 3) := by decide +kernel
theorem dX11_fills_32 : decode cX11_fills 32 = .ok (.aload_n 0, 1) := by decide +kernel
theorem dX11_fills_33 : decode cX11_fills 33 = .ok (.getfield 37, 3) := by decide +kernel
theorem dX11_fills_36 : decode cX11_fills 36 = .ok (.iload_n 2, 1) := by decide +kernel
theorem dX11_fills_37 : decode cX11_fills 37 = .ok (.iaload, 1) := by decide +kernel
theorem dX11_fills_38 : decode cX11_fills 38 = .ok (.istore_n 3, 1) := by decide +kernel
theorem dX11_fills_39 : decode cX11_fills 39 = .ok (.iload_n 3, 1) := by decide +kernel
theorem dX11_fills_40 : decode cX11_fills 40 = .ok (.aload_n 0, 1) := by decide +kernel
theorem dX11_fills_41 : decode cX11_fills 41 = .ok (.getfield 40, 3) := by decide +kernel
theorem dX11_fills_44 : decode cX11_fills 44 = .ok (.iload_n 2, 1) := by decide +kernel
theorem dX11_fills_45 : decode cX11_fills 45 = .ok (.iaload, 1) := by decide +kernel
theorem dX11_fills_46 : decode cX11_fills 46 = .ok (.if_icmp .gt 39, 3) := by decide +kernel
theorem dX11_fills_49 : decode cX11_fills 49 = .ok (.aload_n 1, 1) := by decide +kernel
theorem dX11_fills_50 : decode cX11_fills 50 = .ok (.iload_n 2, 1) := by decide +kernel
theorem dX11_fills_51 : decode cX11_fills 51 = .ok (.iaload, 1) := by decide +kernel
theorem dX11_fills_52 : decode cX11_fills 52 = .ok (.bipush (-4), 2) := by decide +kernel
theorem dX11_fills_54 : decode cX11_fills 54 = .ok (.if_icmp .eq 31, 3) := by decide +kernel
theorem dX11_fills_57 : decode cX11_fills 57 = .ok (.aload_n 0, 1) := by decide +kernel
theorem dX11_fills_58 : decode cX11_fills 58 = .ok (.getfield 79, 3) := by decide +kernel
theorem dX11_fills_61 : decode cX11_fills 61 = .ok (.bipush 60, 2) := by decide +kernel
theorem dX11_fills_63 : decode cX11_fills 63 = .ok (.aload_n 0, 1) := by decide +kernel
theorem dX11_fills_64 : decode cX11_fills 64 = .ok (.getfield 43, 3) := by decide +kernel
theorem dX11_fills_67 : decode cX11_fills 67 = .ok (.iload_n 2, 1) := by decide +kernel
theorem dX11_fills_68 : decode cX11_fills 68 = .ok (.iaload, 1) := by decide +kernel
theorem dX11_fills_69 : decode cX11_fills 69 = .ok (.imul, 1) := by decide +kernel
theorem dX11_fills_70 : decode cX11_fills 70 = .ok (.iload_n 3, 1) := by decide +kernel
theorem dX11_fills_71 : decode cX11_fills 71 = .ok (.iadd, 1) := by decide +kernel
theorem dX11_fills_72 : decode cX11_fills 72 = .ok (.aload_n 0, 1) := by decide +kernel
theorem dX11_fills_73 : decode cX11_fills 73 = .ok (.iload_n 2, 1) := by decide +kernel
theorem dX11_fills_74 : decode cX11_fills 74 = .ok (.iload_n 3, 1) := by decide +kernel
theorem dX11_fills_75 : decode cX11_fills 75 = .ok (.invokevirtual 156, 3) := by decide +kernel
theorem dX11_fills_78 : decode cX11_fills 78 = .ok (.iastore, 1) := by decide +kernel
theorem dX11_fills_79 : decode cX11_fills 79 = .ok (.iinc 3 1, 3) := by decide +kernel
theorem dX11_fills_82 : decode cX11_fills 82 = .ok (.goto (-43), 3) := by decide +kernel
theorem dX11_fills_85 : decode cX11_fills 85 = .ok (.iinc 2 1, 3) := by decide +kernel
theorem dX11_fills_88 : decode cX11_fills 88 = .ok (.goto (-64), 3) := by decide +kernel
theorem dX11_fills_91 : decode cX11_fills 91 = .ok (.return_, 1) := by decide +kernel
theorem dX11_flows_0 : decode cX11_flows 0 = .ok (.aload_n 0, 1) := by decide +kernel
theorem dX11_flows_1 : decode cX11_flows 1 = .ok (.getfield 76, 3) := by decide +kernel
theorem dX11_flows_4 : decode cX11_flows 4 = .ok (.iconst 0, 1) := by decide +kernel
theorem dX11_flows_5 : decode cX11_flows 5 = .ok (.iconst 0, 1) := by decide +kernel
theorem dX11_flows_6 : decode cX11_flows 6 = .ok (.iastore, 1) := by decide +kernel
theorem dX11_flows_7 : decode cX11_flows 7 = .ok (.aload_n 0, 1) := by decide +kernel
theorem dX11_flows_8 : decode cX11_flows 8 = .ok (.getfield 76, 3) := by decide +kernel
theorem dX11_flows_11 : decode cX11_flows 11 = .ok (.iconst 1, 1) := by decide +kernel
theorem dX11_flows_12 : decode cX11_flows 12 = .ok (.iconst 0, 1) := by decide +kernel
theorem dX11_flows_13 : decode cX11_flows 13 = .ok (.iastore, 1) := by decide +kernel
theorem dX11_flows_14 : decode cX11_flows 14 = .ok (.aload_n 0, 1) := by decide +kernel
theorem dX11_flows_15 : decode cX11_flows 15 = .ok (.getfield 76, 3) := by decide +kernel
theorem dX11_flows_18 : decode cX11_flows 18 = .ok (.iconst 2, 1) := by decide +kernel
theorem dX11_flows_19 : decode cX11_flows 19 = .ok (.iconst 0, 1) := by decide +kernel
theorem dX11_flows_20 : decode cX11_flows 20 = .ok (.iastore, 1) := by decide +kernel
theorem dX11_flows_21 : decode cX11_flows 21 = .ok (.aload_n 0, 1) := by decide +kernel
theorem dX11_flows_22 : decode cX11_flows 22 = .ok (.getfield 76, 3) := by decide +kernel
theorem dX11_flows_25 : decode cX11_flows 25 = .ok (.iconst 3, 1) := by decide +kernel
theorem dX11_flows_26 : decode cX11_flows 26 = .ok (.bipush (-4), 2) := by decide +kernel
theorem dX11_flows_28 : decode cX11_flows 28 = .ok (.iastore, 1) := by decide +kernel
theorem dX11_flows_29 : decode cX11_flows 29 = .ok (.iconst 0, 1) := by decide +kernel
theorem dX11_flows_30 : decode cX11_flows 30 = .ok (.istore_n 3, 1) := by decide +kernel
theorem dX11_flows_31 : decode cX11_flows 31 = .ok (.iload_n 3, 1) := by decide +kernel
theorem dX11_flows_32 : decode cX11_flows 32 = .ok (.iload_n 2, 1) := by decide +kernel
theorem dX11_flows_33 : decode cX11_flows 33 = .ok (.if_icmp .gt 169, 3) := by decide +kernel
theorem dX11_flows_36 : decode cX11_flows 36 = .ok (.aload_n 0, 1) := by decide +kernel
theorem dX11_flows_37 : decode cX11_flows 37 = .ok (.getfield 76, 3) := by decide +kernel
theorem dX11_flows_40 : decode cX11_flows 40 = .ok (.iconst 0, 1) := by decide +kernel
theorem dX11_flows_41 : decode cX11_flows 41 = .ok (.dup2, 1) := by decide +kernel
theorem dX11_flows_42 : decode cX11_flows 42 = .ok (.iaload, 1) := by decide +kernel
theorem dX11_flows_43 : decode cX11_flows 43 = .ok (.iconst 2, 1) := by decide +kernel
theorem dX11_flows_44 : decode cX11_flows 44 = .ok (.aload_n 0, 1) := by decide +kernel
theorem dX11_flows_45 : decode cX11_flows 45 = .ok (.getfield 13, 3) := by decide +kernel
theorem dX11_flows_48 : decode cX11_flows 48 = .ok (.iconst 5, 1) := by decide +kernel
theorem dX11_flows_49 : decode cX11_flows 49 = .ok (.iload_n 1, 1) := by decide +kernel
theorem dX11_flows_50 : decode cX11_flows 50 = .ok (.imul, 1) := by decide +kernel
theorem dX11_flows_51 : decode cX11_flows 51 = .ok (.iconst 4, 1) := by decide +kernel
theorem dX11_flows_52 : decode cX11_flows 52 = .ok (.iadd, 1) := by decide +kernel
theorem dX11_flows_53 : decode cX11_flows 53 = .ok (.iaload, 1) := by decide +kernel
theorem dX11_flows_54 : decode cX11_flows 54 = .ok (.imul, 1) := by decide +kernel
theorem dX11_flows_55 : decode cX11_flows 55 = .ok (.iadd, 1) := by decide +kernel
theorem dX11_flows_56 : decode cX11_flows 56 = .ok (.iastore, 1) := by decide +kernel
theorem dX11_flows_57 : decode cX11_flows 57 = .ok (.aload_n 0, 1) := by decide +kernel
theorem dX11_flows_58 : decode cX11_flows 58 = .ok (.getfield 79, 3) := by decide +kernel
theorem dX11_flows_61 : decode cX11_flows 61 = .ok (.bipush 60, 2) := by decide +kernel
theorem dX11_flows_63 : decode cX11_flows 63 = .ok (.iload_n 1, 1) := by decide +kernel
theorem dX11_flows_64 : decode cX11_flows 64 = .ok (.imul, 1) := by decide +kernel
theorem dX11_flows_65 : decode cX11_flows 65 = .ok (.iload_n 3, 1) := by decide +kernel
theorem dX11_flows_66 : decode cX11_flows 66 = .ok (.iadd, 1) := by decide +kernel
theorem dX11_flows_67 : decode cX11_flows 67 = .ok (.iaload, 1) := by decide +kernel
theorem dX11_flows_68 : decode cX11_flows 68 = .ok (.aload_n 0, 1) := by decide +kernel
theorem dX11_flows_69 : decode cX11_flows 69 = .ok (.getfield 76, 3) := by decide +kernel
theorem dX11_flows_72 : decode cX11_flows 72 = .ok (.iconst 0, 1) := by decide +kernel
theorem dX11_flows_73 : decode cX11_flows 73 = .ok (.iaload, 1) := by decide +kernel
theorem dX11_flows_74 : decode cX11_flows 74 = .ok (.if_icmp .ge 17, 3) := by decide +kernel
theorem dX11_flows_77 : decode cX11_flows 77 = .ok (.aload_n 0, 1) := by decide +kernel
theorem dX11_flows_78 : decode cX11_flows 78 = .ok (.getfield 79, 3) := by decide +kernel
theorem dX11_flows_81 : decode cX11_flows 81 = .ok (.bipush 60, 2) := by decide +kernel
theorem dX11_flows_83 : decode cX11_flows 83 = .ok (.iload_n 1, 1) := by decide +kernel
theorem dX11_flows_84 : decode cX11_flows 84 = .ok (.imul, 1) := by decide +kernel
theorem dX11_flows_85 : decode cX11_flows 85 = .ok (.iload_n 3, 1) := by decide +kernel
theorem dX11_flows_86 : decode cX11_flows 86 = .ok (.iadd, 1) := by decide +kernel
theorem dX11_flows_87 : decode cX11_flows 87 = .ok (.iaload, 1) := by decide +kernel
theorem dX11_flows_88 : decode cX11_flows 88 = .ok (.goto 9, 3) := by decide +kernel
theorem dX11_flows_91 : decode cX11_flows 91 = .ok (.aload_n 0, 1) := by decide +kernel
theorem dX11_flows_92 : decode cX11_flows 92 = .ok (.getfield 76, 3) := by decide +kernel
theorem dX11_flows_95 : decode cX11_flows 95 = .ok (.iconst 0, 1) := by decide +kernel
theorem dX11_flows_96 : decode cX11_flows 96 = .ok (.iaload, 1) := by decide +kernel
theorem dX11_flows_97 : decode cX11_flows 97 = .ok (.istore 4, 2) := by decide +kernel
theorem dX11_flows_99 : decode cX11_flows 99 = .ok (.aload_n 0, 1) := by decide +kernel
theorem dX11_flows_100 : decode cX11_flows 100 = .ok (.getfield 76, 3) := by decide +kernel
theorem dX11_flows_103 : decode cX11_flows 103 = .ok (.iconst 0, 1) := by decide +kernel
theorem dX11_flows_104 : decode cX11_flows 104 = .ok (.dup2, 1) := by decide +kernel
theorem dX11_flows_105 : decode cX11_flows 105 = .ok (.iaload, 1) := by decide +kernel
theorem dX11_flows_106 : decode cX11_flows 106 = .ok (.iload 4, 2) := by decide +kernel
theorem dX11_flows_108 : decode cX11_flows 108 = .ok (.isub, 1) := by decide +kernel
theorem dX11_flows_109 : decode cX11_flows 109 = .ok (.iastore, 1) := by decide +kernel
theorem dX11_flows_110 : decode cX11_flows 110 = .ok (.aload_n 0, 1) := by decide +kernel
theorem dX11_flows_111 : decode cX11_flows 111 = .ok (.getfield 76, 3) := by decide +kernel
theorem dX11_flows_114 : decode cX11_flows 114 = .ok (.iconst 2, 1) := by decide +kernel
theorem dX11_flows_115 : decode cX11_flows 115 = .ok (.dup2, 1) := by decide +kernel
theorem dX11_flows_116 : decode cX11_flows 116 = .ok (.iaload, 1) := by decide +kernel
theorem dX11_flows_117 : decode cX11_flows 117 = .ok (.iload 4, 2) := by decide +kernel
theorem dX11_flows_119 : decode cX11_flows 119 = .ok (.iadd, 1) := by decide +kernel
theorem dX11_flows_120 : decode cX11_flows 120 = .ok (.iastore, 1) := by decide +kernel
theorem dX11_flows_121 : decode cX11_flows 121 = .ok (.aload_n 0, 1) := by decide +kernel
theorem dX11_flows_122 : decode cX11_flows 122 = .ok (.getfield 76, 3) := by decide +kernel
theorem dX11_flows_125 : decode cX11_flows 125 = .ok (.iconst 0, 1) := by decide +kernel
theorem dX11_flows_126 : decode cX11_flows 126 = .ok (.iaload, 1) := by decide +kernel
theorem dX11_flows_127 : decode cX11_flows 127 = .ok (.iconst 2, 1) := by decide +kernel
theorem dX11_flows_128 : decode cX11_flows 128 = .ok (.aload_n 0, 1) := by decide +kernel
theorem dX11_flows_129 : decode cX11_flows 129 = .ok (.getfield 13, 3) := by decide +kernel
theorem dX11_flows_132 : decode cX11_flows 132 = .ok (.iconst 5, 1) := by decide +kernel
theorem dX11_flows_133 : decode cX11_flows 133 = .ok (.iload_n 1, 1) := by decide +kernel
theorem dX11_flows_134 : decode cX11_flows 134 = .ok (.imul, 1) := by decide +kernel
theorem dX11_flows_135 : decode cX11_flows 135 = .ok (.iconst 3, 1) := by decide +kernel
theorem dX11_flows_136 : decode cX11_flows 136 = .ok (.iadd, 1) := by decide +kernel
theorem dX11_flows_137 : decode cX11_flows 137 = .ok (.iaload, 1) := by decide +kernel
theorem dX11_flows_138 : decode cX11_flows 138 = .ok (.imul, 1) := by decide +kernel
theorem dX11_flows_139 : decode cX11_flows 139 = .ok (.isub, 1) := by decide +kernel
theorem dX11_flows_140 : decode cX11_flows 140 = .ok (.istore 5, 2) := by decide +kernel
theorem dX11_flows_142 : decode cX11_flows 142 = .ok (.iload 5, 2) := by decide +kernel
theorem dX11_flows_144 : decode cX11_flows 144 = .ok (.ifCond .le 52, 3) := by decide +kernel
theorem dX11_flows_147 : decode cX11_flows 147 = .ok (.aload_n 0, 1) := by decide +kernel
theorem dX11_flows_148 : decode cX11_flows 148 = .ok (.getfield 76, 3) := by decide +kernel
theorem dX11_flows_151 : decode cX11_flows 151 = .ok (.iconst 0, 1) := by decide +kernel
theorem dX11_flows_152 : decode cX11_flows 152 = .ok (.dup2, 1) := by decide +kernel
theorem dX11_flows_153 : decode cX11_flows 153 = .ok (.iaload, 1) := by decide +kernel
theorem dX11_flows_154 : decode cX11_flows 154 = .ok (.iload 5, 2) := by decide +kernel
theorem dX11_flows_156 : decode cX11_flows 156 = .ok (.isub, 1) := by decide +kernel
theorem dX11_flows_157 : decode cX11_flows 157 = .ok (.iastore, 1) := by decide +kernel
theorem dX11_flows_158 : decode cX11_flows 158 = .ok (.aload_n 0, 1) := by decide +kernel
theorem dX11_flows_159 : decode cX11_flows 159 = .ok (.getfield 76, 3) := by decide +kernel
theorem dX11_flows_162 : decode cX11_flows 162 = .ok (.iconst 1, 1) := by decide +kernel
theorem dX11_flows_163 : decode cX11_flows 163 = .ok (.dup2, 1) := by decide +kernel
theorem dX11_flows_164 : decode cX11_flows 164 = .ok (.iaload, 1) := by decide +kernel
theorem dX11_flows_165 : decode cX11_flows 165 = .ok (.iload 5, 2) := by decide +kernel
theorem dX11_flows_167 : decode cX11_flows 167 = .ok (.iadd, 1) := by decide +kernel
theorem dX11_flows_168 : decode cX11_flows 168 = .ok (.iastore, 1) := by decide +kernel
theorem dX11_flows_169 : decode cX11_flows 169 = .ok (.aload_n 0, 1) := by decide +kernel
theorem dX11_flows_170 : decode cX11_flows 170 = .ok (.getfield 76, 3) := by decide +kernel
theorem dX11_flows_173 : decode cX11_flows 173 = .ok (.iconst 3, 1) := by decide +kernel
theorem dX11_flows_174 : decode cX11_flows 174 = .ok (.aload_n 0, 1) := by decide +kernel
theorem dX11_flows_175 : decode cX11_flows 175 = .ok (.getfield 76, 3) := by decide +kernel
theorem dX11_flows_178 : decode cX11_flows 178 = .ok (.iconst 3, 1) := by decide +kernel
theorem dX11_flows_179 : decode cX11_flows 179 = .ok (.iaload, 1) := by decide +kernel
theorem dX11_flows_180 : decode cX11_flows 180 = .ok (.bipush (-4), 2) := by decide +kernel
theorem dX11_flows_182 : decode cX11_flows 182 = .ok (.if_icmp .ne 7, 3) := by decide +kernel
theorem dX11_flows_185 : decode cX11_flows 185 = .ok (.iload_n 3, 1) := by decide +kernel
theorem dX11_flows_186 : decode cX11_flows 186 = .ok (.goto 9, 3) := by decide +kernel
theorem dX11_flows_189 : decode cX11_flows 189 = .ok (.aload_n 0, 1) := by decide +kernel
theorem dX11_flows_190 : decode cX11_flows 190 = .ok (.getfield 76, 3) := by decide +kernel
theorem dX11_flows_193 : decode cX11_flows 193 = .ok (.iconst 3, 1) := by decide +kernel
theorem dX11_flows_194 : decode cX11_flows 194 = .ok (.iaload, 1) := by decide +kernel
theorem dX11_flows_195 : decode cX11_flows 195 = .ok (.iastore, 1) := by decide +kernel
theorem dX11_flows_196 : decode cX11_flows 196 = .ok (.iinc 3 1, 3) := by decide +kernel
theorem dX11_flows_199 : decode cX11_flows 199 = .ok (.goto (-168), 3) := by decide +kernel
theorem dX11_flows_202 : decode cX11_flows 202 = .ok (.return_, 1) := by decide +kernel
theorem dX11_lost_0 : decode cX11_lost 0 = .ok (.iconst 0, 1) := by decide +kernel
theorem dX11_lost_1 : decode cX11_lost 1 = .ok (.istore_n 2, 1) := by decide +kernel
theorem dX11_lost_2 : decode cX11_lost 2 = .ok (.aload_n 0, 1) := by decide +kernel
theorem dX11_lost_3 : decode cX11_lost 3 = .ok (.aload_n 1, 1) := by decide +kernel
theorem dX11_lost_4 : decode cX11_lost 4 = .ok (.invokevirtual 181, 3) := by decide +kernel
theorem dX11_lost_7 : decode cX11_lost 7 = .ok (.iconst 0, 1) := by decide +kernel
theorem dX11_lost_8 : decode cX11_lost 8 = .ok (.istore_n 3, 1) := by decide +kernel
theorem dX11_lost_9 : decode cX11_lost 9 = .ok (.iload_n 3, 1) := by decide +kernel
theorem dX11_lost_10 : decode cX11_lost 10 = .ok (.aload_n 0, 1) := by decide +kernel
theorem dX11_lost_11 : decode cX11_lost 11 = .ok (.getfield 22, 3) := by decide +kernel
theorem dX11_lost_14 : decode cX11_lost 14 = .ok (.iconst 0, 1) := by decide +kernel
theorem dX11_lost_15 : decode cX11_lost 15 = .ok (.iaload, 1) := by decide +kernel
theorem dX11_lost_16 : decode cX11_lost 16 = .ok (.if_icmp .ge 25, 3) := by decide +kernel
theorem dX11_lost_19 : decode cX11_lost 19 = .ok (.aload_n 0, 1) := by decide +kernel
theorem dX11_lost_20 : decode cX11_lost 20 = .ok (.iload_n 3, 1) := by decide +kernel
theorem dX11_lost_21 : decode cX11_lost 21 = .ok (.bipush 59, 2) := by decide +kernel
theorem dX11_lost_23 : decode cX11_lost 23 = .ok (.invokevirtual 185, 3) := by decide +kernel
theorem dX11_lost_26 : decode cX11_lost 26 = .ok (.iload_n 2, 1) := by decide +kernel
theorem dX11_lost_27 : decode cX11_lost 27 = .ok (.aload_n 0, 1) := by decide +kernel
theorem dX11_lost_28 : decode cX11_lost 28 = .ok (.getfield 76, 3) := by decide +kernel
theorem dX11_lost_31 : decode cX11_lost 31 = .ok (.iconst 1, 1) := by decide +kernel
theorem dX11_lost_32 : decode cX11_lost 32 = .ok (.iaload, 1) := by decide +kernel
theorem dX11_lost_33 : decode cX11_lost 33 = .ok (.iadd, 1) := by decide +kernel
theorem dX11_lost_34 : decode cX11_lost 34 = .ok (.istore_n 2, 1) := by decide +kernel
theorem dX11_lost_35 : decode cX11_lost 35 = .ok (.iinc 3 1, 3) := by decide +kernel
theorem dX11_lost_38 : decode cX11_lost 38 = .ok (.goto (-29), 3) := by decide +kernel
theorem dX11_lost_41 : decode cX11_lost 41 = .ok (.iload_n 2, 1) := by decide +kernel
theorem dX11_lost_42 : decode cX11_lost 42 = .ok (.ireturn, 1) := by decide +kernel
theorem dX11_volumeOf_0 : decode cX11_volumeOf 0 = .ok (.iconst 0, 1) := by decide +kernel
theorem dX11_volumeOf_1 : decode cX11_volumeOf 1 = .ok (.istore 4, 2) := by decide +kernel
theorem dX11_volumeOf_3 : decode cX11_volumeOf 3 = .ok (.iload_n 2, 1) := by decide +kernel
theorem dX11_volumeOf_4 : decode cX11_volumeOf 4 = .ok (.istore 5, 2) := by decide +kernel
theorem dX11_volumeOf_6 : decode cX11_volumeOf 6 = .ok (.iload 5, 2) := by decide +kernel
theorem dX11_volumeOf_8 : decode cX11_volumeOf 8 = .ok (.iload_n 3, 1) := by decide +kernel
theorem dX11_volumeOf_9 : decode cX11_volumeOf 9 = .ok (.if_icmp .ge 34, 3) := by decide +kernel
theorem dX11_volumeOf_12 : decode cX11_volumeOf 12 = .ok (.iload 4, 2) := by decide +kernel
theorem dX11_volumeOf_14 : decode cX11_volumeOf 14 = .ok (.aload_n 1, 1) := by decide +kernel
theorem dX11_volumeOf_15 : decode cX11_volumeOf 15 = .ok (.iload 5, 2) := by decide +kernel
theorem dX11_volumeOf_17 : decode cX11_volumeOf 17 = .ok (.iaload, 1) := by decide +kernel
theorem dX11_volumeOf_18 : decode cX11_volumeOf 18 = .ok (.bipush (-4), 2) := by decide +kernel
theorem dX11_volumeOf_20 : decode cX11_volumeOf 20 = .ok (.if_icmp .eq 13, 3) := by decide +kernel
theorem dX11_volumeOf_23 : decode cX11_volumeOf 23 = .ok (.aload_n 0, 1) := by decide +kernel
theorem dX11_volumeOf_24 : decode cX11_volumeOf 24 = .ok (.getfield 49, 3) := by decide +kernel
theorem dX11_volumeOf_27 : decode cX11_volumeOf 27 = .ok (.iload 5, 2) := by decide +kernel
theorem dX11_volumeOf_29 : decode cX11_volumeOf 29 = .ok (.iaload, 1) := by decide +kernel
theorem dX11_volumeOf_30 : decode cX11_volumeOf 30 = .ok (.goto 4, 3) := by decide +kernel
theorem dX11_volumeOf_33 : decode cX11_volumeOf 33 = .ok (.iconst 0, 1) := by decide +kernel
theorem dX11_volumeOf_34 : decode cX11_volumeOf 34 = .ok (.iadd, 1) := by decide +kernel
theorem dX11_volumeOf_35 : decode cX11_volumeOf 35 = .ok (.istore 4, 2) := by decide +kernel
theorem dX11_volumeOf_37 : decode cX11_volumeOf 37 = .ok (.iinc 5 1, 3) := by decide +kernel
theorem dX11_volumeOf_40 : decode cX11_volumeOf 40 = .ok (.goto (-34), 3) := by decide +kernel
theorem dX11_volumeOf_43 : decode cX11_volumeOf 43 = .ok (.iload 4, 2) := by decide +kernel
theorem dX11_volumeOf_45 : decode cX11_volumeOf 45 = .ok (.ireturn, 1) := by decide +kernel
theorem dX11_isLess_0 : decode cX11_isLess 0 = .ok (.iload_n 1, 1) := by decide +kernel
theorem dX11_isLess_1 : decode cX11_isLess 1 = .ok (.aload_n 0, 1) := by decide +kernel
theorem dX11_isLess_2 : decode cX11_isLess 2 = .ok (.getfield 73, 3) := by decide +kernel
theorem dX11_isLess_5 : decode cX11_isLess 5 = .ok (.iconst 0, 1) := by decide +kernel
theorem dX11_isLess_6 : decode cX11_isLess 6 = .ok (.iaload, 1) := by decide +kernel
theorem dX11_isLess_7 : decode cX11_isLess 7 = .ok (.if_icmp .eq 21, 3) := by decide +kernel
theorem dX11_isLess_10 : decode cX11_isLess 10 = .ok (.iload_n 1, 1) := by decide +kernel
theorem dX11_isLess_11 : decode cX11_isLess 11 = .ok (.aload_n 0, 1) := by decide +kernel
theorem dX11_isLess_12 : decode cX11_isLess 12 = .ok (.getfield 73, 3) := by decide +kernel
theorem dX11_isLess_15 : decode cX11_isLess 15 = .ok (.iconst 0, 1) := by decide +kernel
theorem dX11_isLess_16 : decode cX11_isLess 16 = .ok (.iaload, 1) := by decide +kernel
theorem dX11_isLess_17 : decode cX11_isLess 17 = .ok (.if_icmp .ge 7, 3) := by decide +kernel
theorem dX11_isLess_20 : decode cX11_isLess 20 = .ok (.iconst 1, 1) := by decide +kernel
theorem dX11_isLess_21 : decode cX11_isLess 21 = .ok (.goto 50, 3) := by decide +kernel
theorem dX11_isLess_24 : decode cX11_isLess 24 = .ok (.iconst 0, 1) := by decide +kernel
theorem dX11_isLess_25 : decode cX11_isLess 25 = .ok (.goto 46, 3) := by decide +kernel
theorem dX11_isLess_28 : decode cX11_isLess 28 = .ok (.iload_n 2, 1) := by decide +kernel
theorem dX11_isLess_29 : decode cX11_isLess 29 = .ok (.aload_n 0, 1) := by decide +kernel
theorem dX11_isLess_30 : decode cX11_isLess 30 = .ok (.getfield 73, 3) := by decide +kernel
theorem dX11_isLess_33 : decode cX11_isLess 33 = .ok (.iconst 1, 1) := by decide +kernel
theorem dX11_isLess_34 : decode cX11_isLess 34 = .ok (.iaload, 1) := by decide +kernel
theorem dX11_isLess_35 : decode cX11_isLess 35 = .ok (.if_icmp .eq 21, 3) := by decide +kernel
theorem dX11_isLess_38 : decode cX11_isLess 38 = .ok (.iload_n 2, 1) := by decide +kernel
theorem dX11_isLess_39 : decode cX11_isLess 39 = .ok (.aload_n 0, 1) := by decide +kernel
theorem dX11_isLess_40 : decode cX11_isLess 40 = .ok (.getfield 73, 3) := by decide +kernel
theorem dX11_isLess_43 : decode cX11_isLess 43 = .ok (.iconst 1, 1) := by decide +kernel
theorem dX11_isLess_44 : decode cX11_isLess 44 = .ok (.iaload, 1) := by decide +kernel
theorem dX11_isLess_45 : decode cX11_isLess 45 = .ok (.if_icmp .ge 7, 3) := by decide +kernel
theorem dX11_isLess_48 : decode cX11_isLess 48 = .ok (.iconst 1, 1) := by decide +kernel
theorem dX11_isLess_49 : decode cX11_isLess 49 = .ok (.goto 22, 3) := by decide +kernel
theorem dX11_isLess_52 : decode cX11_isLess 52 = .ok (.iconst 0, 1) := by decide +kernel
theorem dX11_isLess_53 : decode cX11_isLess 53 = .ok (.goto 18, 3) := by decide +kernel
theorem dX11_isLess_56 : decode cX11_isLess 56 = .ok (.iload_n 3, 1) := by decide +kernel
theorem dX11_isLess_57 : decode cX11_isLess 57 = .ok (.aload_n 0, 1) := by decide +kernel
theorem dX11_isLess_58 : decode cX11_isLess 58 = .ok (.getfield 73, 3) := by decide +kernel
theorem dX11_isLess_61 : decode cX11_isLess 61 = .ok (.iconst 2, 1) := by decide +kernel
theorem dX11_isLess_62 : decode cX11_isLess 62 = .ok (.iaload, 1) := by decide +kernel
theorem dX11_isLess_63 : decode cX11_isLess 63 = .ok (.if_icmp .ge 7, 3) := by decide +kernel
theorem dX11_isLess_66 : decode cX11_isLess 66 = .ok (.iconst 1, 1) := by decide +kernel
theorem dX11_isLess_67 : decode cX11_isLess 67 = .ok (.goto 4, 3) := by decide +kernel
theorem dX11_isLess_70 : decode cX11_isLess 70 = .ok (.iconst 0, 1) := by decide +kernel
theorem dX11_isLess_71 : decode cX11_isLess 71 = .ok (.ireturn, 1) := by decide +kernel
theorem dX11_plans_0 : decode cX11_plans 0 = .ok (.aload_n 0, 1) := by decide +kernel
theorem dX11_plans_1 : decode cX11_plans 1 = .ok (.iload_n 2, 1) := by decide +kernel
theorem dX11_plans_2 : decode cX11_plans 2 = .ok (.invokevirtual 189, 3) := by decide +kernel
theorem dX11_plans_5 : decode cX11_plans 5 = .ok (.istore 4, 2) := by decide +kernel
theorem dX11_plans_7 : decode cX11_plans 7 = .ok (.iconst 1, 1) := by decide +kernel
theorem dX11_plans_8 : decode cX11_plans 8 = .ok (.istore 5, 2) := by decide +kernel
theorem dX11_plans_10 : decode cX11_plans 10 = .ok (.iconst 0, 1) := by decide +kernel
theorem dX11_plans_11 : decode cX11_plans 11 = .ok (.istore 6, 2) := by decide +kernel
theorem dX11_plans_13 : decode cX11_plans 13 = .ok (.iload 6, 2) := by decide +kernel
theorem dX11_plans_15 : decode cX11_plans 15 = .ok (.iload 4, 2) := by decide +kernel
theorem dX11_plans_17 : decode cX11_plans 17 = .ok (.if_icmp .ge 22, 3) := by decide +kernel
theorem dX11_plans_20 : decode cX11_plans 20 = .ok (.iload 5, 2) := by decide +kernel
theorem dX11_plans_22 : decode cX11_plans 22 = .ok (.aload_n 0, 1) := by decide +kernel
theorem dX11_plans_23 : decode cX11_plans 23 = .ok (.getfield 22, 3) := by decide +kernel
theorem dX11_plans_26 : decode cX11_plans 26 = .ok (.iconst 2, 1) := by decide +kernel
theorem dX11_plans_27 : decode cX11_plans 27 = .ok (.iaload, 1) := by decide +kernel
theorem dX11_plans_28 : decode cX11_plans 28 = .ok (.iconst 1, 1) := by decide +kernel
theorem dX11_plans_29 : decode cX11_plans 29 = .ok (.iadd, 1) := by decide +kernel
theorem dX11_plans_30 : decode cX11_plans 30 = .ok (.imul, 1) := by decide +kernel
theorem dX11_plans_31 : decode cX11_plans 31 = .ok (.istore 5, 2) := by decide +kernel
theorem dX11_plans_33 : decode cX11_plans 33 = .ok (.iinc 6 1, 3) := by decide +kernel
theorem dX11_plans_36 : decode cX11_plans 36 = .ok (.goto (-23), 3) := by decide +kernel
theorem dX11_plans_39 : decode cX11_plans 39 = .ok (.aload_n 0, 1) := by decide +kernel
theorem dX11_plans_40 : decode cX11_plans 40 = .ok (.getfield 73, 3) := by decide +kernel
theorem dX11_plans_43 : decode cX11_plans 43 = .ok (.iconst 0, 1) := by decide +kernel
theorem dX11_plans_44 : decode cX11_plans 44 = .ok (.ldc 192, 2) := by decide +kernel
theorem dX11_plans_46 : decode cX11_plans 46 = .ok (.iastore, 1) := by decide +kernel
theorem dX11_plans_47 : decode cX11_plans 47 = .ok (.iconst 0, 1) := by decide +kernel
theorem dX11_plans_48 : decode cX11_plans 48 = .ok (.istore 6, 2) := by decide +kernel
theorem dX11_plans_50 : decode cX11_plans 50 = .ok (.iload 6, 2) := by decide +kernel
theorem dX11_plans_52 : decode cX11_plans 52 = .ok (.aload_n 0, 1) := by decide +kernel
theorem dX11_plans_53 : decode cX11_plans 53 = .ok (.getfield 124, 3) := by decide +kernel
theorem dX11_plans_56 : decode cX11_plans 56 = .ok (.if_icmp .ge 23, 3) := by decide +kernel
theorem dX11_plans_59 : decode cX11_plans 59 = .ok (.aload_n 0, 1) := by decide +kernel
theorem dX11_plans_60 : decode cX11_plans 60 = .ok (.getfield 67, 3) := by decide +kernel
theorem dX11_plans_63 : decode cX11_plans 63 = .ok (.iload 6, 2) := by decide +kernel
theorem dX11_plans_65 : decode cX11_plans 65 = .ok (.aload_n 0, 1) := by decide +kernel
theorem dX11_plans_66 : decode cX11_plans 66 = .ok (.getfield 52, 3) := by decide +kernel
theorem dX11_plans_69 : decode cX11_plans 69 = .ok (.iload 6, 2) := by decide +kernel
theorem dX11_plans_71 : decode cX11_plans 71 = .ok (.iaload, 1) := by decide +kernel
theorem dX11_plans_72 : decode cX11_plans 72 = .ok (.iastore, 1) := by decide +kernel
theorem dX11_plans_73 : decode cX11_plans 73 = .ok (.iinc 6 1, 3) := by decide +kernel
theorem dX11_plans_76 : decode cX11_plans 76 = .ok (.goto (-26), 3) := by decide +kernel
theorem dX11_plans_79 : decode cX11_plans 79 = .ok (.iconst 0, 1) := by decide +kernel
theorem dX11_plans_80 : decode cX11_plans 80 = .ok (.istore 6, 2) := by decide +kernel
theorem dX11_plans_82 : decode cX11_plans 82 = .ok (.iload 6, 2) := by decide +kernel
theorem dX11_plans_84 : decode cX11_plans 84 = .ok (.iload 5, 2) := by decide +kernel
theorem dX11_plans_86 : decode cX11_plans 86 = .ok (.if_icmp .ge 247, 3) := by decide +kernel
theorem dX11_plans_89 : decode cX11_plans 89 = .ok (.iload 6, 2) := by decide +kernel
theorem dX11_plans_91 : decode cX11_plans 91 = .ok (.istore 7, 2) := by decide +kernel
theorem dX11_plans_93 : decode cX11_plans 93 = .ok (.iconst 0, 1) := by decide +kernel
theorem dX11_plans_94 : decode cX11_plans 94 = .ok (.istore 8, 2) := by decide +kernel
theorem dX11_plans_96 : decode cX11_plans 96 = .ok (.iconst 0, 1) := by decide +kernel
theorem dX11_plans_97 : decode cX11_plans 97 = .ok (.istore 9, 2) := by decide +kernel
theorem dX11_plans_99 : decode cX11_plans 99 = .ok (.iload 4, 2) := by decide +kernel
theorem dX11_plans_101 : decode cX11_plans 101 = .ok (.iconst 1, 1) := by decide +kernel
theorem dX11_plans_102 : decode cX11_plans 102 = .ok (.isub, 1) := by decide +kernel
theorem dX11_plans_103 : decode cX11_plans 103 = .ok (.istore 10, 2) := by decide +kernel
theorem dX11_plans_105 : decode cX11_plans 105 = .ok (.iload 10, 2) := by decide +kernel
theorem dX11_plans_107 : decode cX11_plans 107 = .ok (.ifCond .lt 104, 3) := by decide +kernel
theorem dX11_plans_110 : decode cX11_plans 110 = .ok (.iload 7, 2) := by decide +kernel
theorem dX11_plans_112 : decode cX11_plans 112 = .ok (.aload_n 0, 1) := by decide +kernel
theorem dX11_plans_113 : decode cX11_plans 113 = .ok (.getfield 22, 3) := by decide +kernel
theorem dX11_plans_116 : decode cX11_plans 116 = .ok (.iconst 2, 1) := by decide +kernel
theorem dX11_plans_117 : decode cX11_plans 117 = .ok (.iaload, 1) := by decide +kernel
theorem dX11_plans_118 : decode cX11_plans 118 = .ok (.iconst 1, 1) := by decide +kernel
theorem dX11_plans_119 : decode cX11_plans 119 = .ok (.iadd, 1) := by decide +kernel
theorem dX11_plans_120 : decode cX11_plans 120 = .ok (.irem, 1) := by decide +kernel
theorem dX11_plans_121 : decode cX11_plans 121 = .ok (.iconst 1, 1) := by decide +kernel
theorem dX11_plans_122 : decode cX11_plans 122 = .ok (.isub, 1) := by decide +kernel
theorem dX11_plans_123 : decode cX11_plans 123 = .ok (.istore 11, 2) := by decide +kernel
theorem dX11_plans_125 : decode cX11_plans 125 = .ok (.iload 7, 2) := by decide +kernel
theorem dX11_plans_127 : decode cX11_plans 127 = .ok (.aload_n 0, 1) := by decide +kernel
theorem dX11_plans_128 : decode cX11_plans 128 = .ok (.getfield 22, 3) := by decide +kernel
theorem dX11_plans_131 : decode cX11_plans 131 = .ok (.iconst 2, 1) := by decide +kernel
theorem dX11_plans_132 : decode cX11_plans 132 = .ok (.iaload, 1) := by decide +kernel
theorem dX11_plans_133 : decode cX11_plans 133 = .ok (.iconst 1, 1) := by decide +kernel
theorem dX11_plans_134 : decode cX11_plans 134 = .ok (.iadd, 1) := by decide +kernel
theorem dX11_plans_135 : decode cX11_plans 135 = .ok (.idiv, 1) := by decide +kernel
theorem dX11_plans_136 : decode cX11_plans 136 = .ok (.istore 7, 2) := by decide +kernel
theorem dX11_plans_138 : decode cX11_plans 138 = .ok (.aload_n 0, 1) := by decide +kernel
theorem dX11_plans_139 : decode cX11_plans 139 = .ok (.getfield 67, 3) := by decide +kernel
theorem dX11_plans_142 : decode cX11_plans 142 = .ok (.iload_n 2, 1) := by decide +kernel
theorem dX11_plans_143 : decode cX11_plans 143 = .ok (.iload 10, 2) := by decide +kernel
theorem dX11_plans_145 : decode cX11_plans 145 = .ok (.iadd, 1) := by decide +kernel
theorem dX11_plans_146 : decode cX11_plans 146 = .ok (.iload 11, 2) := by decide +kernel
theorem dX11_plans_148 : decode cX11_plans 148 = .ok (.ifCond .ge 8, 3) := by decide +kernel
theorem dX11_plans_151 : decode cX11_plans 151 = .ok (.bipush (-4), 2) := by decide +kernel
theorem dX11_plans_153 : decode cX11_plans 153 = .ok (.goto 5, 3) := by decide +kernel
theorem dX11_plans_156 : decode cX11_plans 156 = .ok (.iload 11, 2) := by decide +kernel
theorem dX11_plans_158 : decode cX11_plans 158 = .ok (.iastore, 1) := by decide +kernel
theorem dX11_plans_159 : decode cX11_plans 159 = .ok (.iload 8, 2) := by decide +kernel
theorem dX11_plans_161 : decode cX11_plans 161 = .ok (.iload 11, 2) := by decide +kernel
theorem dX11_plans_163 : decode cX11_plans 163 = .ok (.ifCond .ge 7, 3) := by decide +kernel
theorem dX11_plans_166 : decode cX11_plans 166 = .ok (.iconst 0, 1) := by decide +kernel
theorem dX11_plans_167 : decode cX11_plans 167 = .ok (.goto 4, 3) := by decide +kernel
theorem dX11_plans_170 : decode cX11_plans 170 = .ok (.iconst 1, 1) := by decide +kernel
theorem dX11_plans_171 : decode cX11_plans 171 = .ok (.iadd, 1) := by decide +kernel
theorem dX11_plans_172 : decode cX11_plans 172 = .ok (.istore 8, 2) := by decide +kernel
theorem dX11_plans_174 : decode cX11_plans 174 = .ok (.iload 9, 2) := by decide +kernel
theorem dX11_plans_176 : decode cX11_plans 176 = .ok (.aload_n 0, 1) := by decide +kernel
theorem dX11_plans_177 : decode cX11_plans 177 = .ok (.getfield 67, 3) := by decide +kernel
theorem dX11_plans_180 : decode cX11_plans 180 = .ok (.iload_n 2, 1) := by decide +kernel
theorem dX11_plans_181 : decode cX11_plans 181 = .ok (.iload 10, 2) := by decide +kernel
theorem dX11_plans_183 : decode cX11_plans 183 = .ok (.iadd, 1) := by decide +kernel
theorem dX11_plans_184 : decode cX11_plans 184 = .ok (.iaload, 1) := by decide +kernel
theorem dX11_plans_185 : decode cX11_plans 185 = .ok (.aload_n 0, 1) := by decide +kernel
theorem dX11_plans_186 : decode cX11_plans 186 = .ok (.getfield 52, 3) := by decide +kernel
theorem dX11_plans_189 : decode cX11_plans 189 = .ok (.iload_n 2, 1) := by decide +kernel
theorem dX11_plans_190 : decode cX11_plans 190 = .ok (.iload 10, 2) := by decide +kernel
theorem dX11_plans_192 : decode cX11_plans 192 = .ok (.iadd, 1) := by decide +kernel
theorem dX11_plans_193 : decode cX11_plans 193 = .ok (.iaload, 1) := by decide +kernel
theorem dX11_plans_194 : decode cX11_plans 194 = .ok (.if_icmp .ne 7, 3) := by decide +kernel
theorem dX11_plans_197 : decode cX11_plans 197 = .ok (.iconst 0, 1) := by decide +kernel
theorem dX11_plans_198 : decode cX11_plans 198 = .ok (.goto 4, 3) := by decide +kernel
theorem dX11_plans_201 : decode cX11_plans 201 = .ok (.iconst 1, 1) := by decide +kernel
theorem dX11_plans_202 : decode cX11_plans 202 = .ok (.iadd, 1) := by decide +kernel
theorem dX11_plans_203 : decode cX11_plans 203 = .ok (.istore 9, 2) := by decide +kernel
theorem dX11_plans_205 : decode cX11_plans 205 = .ok (.iinc 10 (-1), 3) := by decide +kernel
theorem dX11_plans_208 : decode cX11_plans 208 = .ok (.goto (-103), 3) := by decide +kernel
theorem dX11_plans_211 : decode cX11_plans 211 = .ok (.iload 9, 2) := by decide +kernel
theorem dX11_plans_213 : decode cX11_plans 213 = .ok (.iload_n 3, 1) := by decide +kernel
theorem dX11_plans_214 : decode cX11_plans 214 = .ok (.if_icmp .gt 113, 3) := by decide +kernel
theorem dX11_plans_217 : decode cX11_plans 217 = .ok (.aload_n 0, 1) := by decide +kernel
theorem dX11_plans_218 : decode cX11_plans 218 = .ok (.iload_n 2, 1) := by decide +kernel
theorem dX11_plans_219 : decode cX11_plans 219 = .ok (.iload 4, 2) := by decide +kernel
theorem dX11_plans_221 : decode cX11_plans 221 = .ok (.invokevirtual 193, 3) := by decide +kernel
theorem dX11_plans_224 : decode cX11_plans 224 = .ok (.ifCond .eq 103, 3) := by decide +kernel
theorem dX11_plans_227 : decode cX11_plans 227 = .ok (.iload_n 1, 1) := by decide +kernel
theorem dX11_plans_228 : decode cX11_plans 228 = .ok (.ifCond .ne 20, 3) := by decide +kernel
theorem dX11_plans_231 : decode cX11_plans 231 = .ok (.aload_n 0, 1) := by decide +kernel
theorem dX11_plans_232 : decode cX11_plans 232 = .ok (.aload_n 0, 1) := by decide +kernel
theorem dX11_plans_233 : decode cX11_plans 233 = .ok (.getfield 67, 3) := by decide +kernel
theorem dX11_plans_236 : decode cX11_plans 236 = .ok (.iload_n 2, 1) := by decide +kernel
theorem dX11_plans_237 : decode cX11_plans 237 = .ok (.iload_n 2, 1) := by decide +kernel
theorem dX11_plans_238 : decode cX11_plans 238 = .ok (.iload 4, 2) := by decide +kernel
theorem dX11_plans_240 : decode cX11_plans 240 = .ok (.iadd, 1) := by decide +kernel
theorem dX11_plans_241 : decode cX11_plans 241 = .ok (.invokevirtual 196, 3) := by decide +kernel
theorem dX11_plans_244 : decode cX11_plans 244 = .ok (.ineg, 1) := by decide +kernel
theorem dX11_plans_245 : decode cX11_plans 245 = .ok (.goto 11, 3) := by decide +kernel
theorem dX11_plans_248 : decode cX11_plans 248 = .ok (.aload_n 0, 1) := by decide +kernel
theorem dX11_plans_249 : decode cX11_plans 249 = .ok (.aload_n 0, 1) := by decide +kernel
theorem dX11_plans_250 : decode cX11_plans 250 = .ok (.getfield 67, 3) := by decide +kernel
theorem dX11_plans_253 : decode cX11_plans 253 = .ok (.invokevirtual 200, 3) := by decide +kernel
theorem dX11_plans_256 : decode cX11_plans 256 = .ok (.istore 10, 2) := by decide +kernel
theorem dX11_plans_258 : decode cX11_plans 258 = .ok (.aload_n 0, 1) := by decide +kernel
theorem dX11_plans_259 : decode cX11_plans 259 = .ok (.iload 10, 2) := by decide +kernel
theorem dX11_plans_261 : decode cX11_plans 261 = .ok (.iload 8, 2) := by decide +kernel
theorem dX11_plans_263 : decode cX11_plans 263 = .ok (.iload 9, 2) := by decide +kernel
theorem dX11_plans_265 : decode cX11_plans 265 = .ok (.invokevirtual 204, 3) := by decide +kernel
theorem dX11_plans_268 : decode cX11_plans 268 = .ok (.ifCond .eq 59, 3) := by decide +kernel
theorem dX11_plans_271 : decode cX11_plans 271 = .ok (.aload_n 0, 1) := by decide +kernel
theorem dX11_plans_272 : decode cX11_plans 272 = .ok (.getfield 73, 3) := by decide +kernel
theorem dX11_plans_275 : decode cX11_plans 275 = .ok (.iconst 0, 1) := by decide +kernel
theorem dX11_plans_276 : decode cX11_plans 276 = .ok (.iload 10, 2) := by decide +kernel
theorem dX11_plans_278 : decode cX11_plans 278 = .ok (.iastore, 1) := by decide +kernel
theorem dX11_plans_279 : decode cX11_plans 279 = .ok (.aload_n 0, 1) := by decide +kernel
theorem dX11_plans_280 : decode cX11_plans 280 = .ok (.getfield 73, 3) := by decide +kernel
theorem dX11_plans_283 : decode cX11_plans 283 = .ok (.iconst 1, 1) := by decide +kernel
theorem dX11_plans_284 : decode cX11_plans 284 = .ok (.iload 8, 2) := by decide +kernel
theorem dX11_plans_286 : decode cX11_plans 286 = .ok (.iastore, 1) := by decide +kernel
theorem dX11_plans_287 : decode cX11_plans 287 = .ok (.aload_n 0, 1) := by decide +kernel
theorem dX11_plans_288 : decode cX11_plans 288 = .ok (.getfield 73, 3) := by decide +kernel
theorem dX11_plans_291 : decode cX11_plans 291 = .ok (.iconst 2, 1) := by decide +kernel
theorem dX11_plans_292 : decode cX11_plans 292 = .ok (.iload 9, 2) := by decide +kernel
theorem dX11_plans_294 : decode cX11_plans 294 = .ok (.iastore, 1) := by decide +kernel
theorem dX11_plans_295 : decode cX11_plans 295 = .ok (.iconst 0, 1) := by decide +kernel
theorem dX11_plans_296 : decode cX11_plans 296 = .ok (.istore 11, 2) := by decide +kernel
theorem dX11_plans_298 : decode cX11_plans 298 = .ok (.iload 11, 2) := by decide +kernel
theorem dX11_plans_300 : decode cX11_plans 300 = .ok (.iload 4, 2) := by decide +kernel
theorem dX11_plans_302 : decode cX11_plans 302 = .ok (.if_icmp .ge 25, 3) := by decide +kernel
theorem dX11_plans_305 : decode cX11_plans 305 = .ok (.aload_n 0, 1) := by decide +kernel
theorem dX11_plans_306 : decode cX11_plans 306 = .ok (.getfield 70, 3) := by decide +kernel
theorem dX11_plans_309 : decode cX11_plans 309 = .ok (.iload 11, 2) := by decide +kernel
theorem dX11_plans_311 : decode cX11_plans 311 = .ok (.aload_n 0, 1) := by decide +kernel
theorem dX11_plans_312 : decode cX11_plans 312 = .ok (.getfield 67, 3) := by decide +kernel
theorem dX11_plans_315 : decode cX11_plans 315 = .ok (.iload_n 2, 1) := by decide +kernel
theorem dX11_plans_316 : decode cX11_plans 316 = .ok (.iload 11, 2) := by decide +kernel
theorem dX11_plans_318 : decode cX11_plans 318 = .ok (.iadd, 1) := by decide +kernel
theorem dX11_plans_319 : decode cX11_plans 319 = .ok (.iaload, 1) := by decide +kernel
theorem dX11_plans_320 : decode cX11_plans 320 = .ok (.iastore, 1) := by decide +kernel
theorem dX11_plans_321 : decode cX11_plans 321 = .ok (.iinc 11 1, 3) := by decide +kernel
theorem dX11_plans_324 : decode cX11_plans 324 = .ok (.goto (-26), 3) := by decide +kernel
theorem dX11_plans_327 : decode cX11_plans 327 = .ok (.iinc 6 1, 3) := by decide +kernel
theorem dX11_plans_330 : decode cX11_plans 330 = .ok (.goto (-248), 3) := by decide +kernel
theorem dX11_plans_333 : decode cX11_plans 333 = .ok (.iconst 0, 1) := by decide +kernel
theorem dX11_plans_334 : decode cX11_plans 334 = .ok (.istore 6, 2) := by decide +kernel
theorem dX11_plans_336 : decode cX11_plans 336 = .ok (.iload 6, 2) := by decide +kernel
theorem dX11_plans_338 : decode cX11_plans 338 = .ok (.iload 4, 2) := by decide +kernel
theorem dX11_plans_340 : decode cX11_plans 340 = .ok (.if_icmp .ge 25, 3) := by decide +kernel
theorem dX11_plans_343 : decode cX11_plans 343 = .ok (.aload_n 0, 1) := by decide +kernel
theorem dX11_plans_344 : decode cX11_plans 344 = .ok (.getfield 67, 3) := by decide +kernel
theorem dX11_plans_347 : decode cX11_plans 347 = .ok (.iload_n 2, 1) := by decide +kernel
theorem dX11_plans_348 : decode cX11_plans 348 = .ok (.iload 6, 2) := by decide +kernel
theorem dX11_plans_350 : decode cX11_plans 350 = .ok (.iadd, 1) := by decide +kernel
theorem dX11_plans_351 : decode cX11_plans 351 = .ok (.aload_n 0, 1) := by decide +kernel
theorem dX11_plans_352 : decode cX11_plans 352 = .ok (.getfield 70, 3) := by decide +kernel
theorem dX11_plans_355 : decode cX11_plans 355 = .ok (.iload 6, 2) := by decide +kernel
theorem dX11_plans_357 : decode cX11_plans 357 = .ok (.iaload, 1) := by decide +kernel
theorem dX11_plans_358 : decode cX11_plans 358 = .ok (.iastore, 1) := by decide +kernel
theorem dX11_plans_359 : decode cX11_plans 359 = .ok (.iinc 6 1, 3) := by decide +kernel
theorem dX11_plans_362 : decode cX11_plans 362 = .ok (.goto (-26), 3) := by decide +kernel
theorem dX11_plans_365 : decode cX11_plans 365 = .ok (.return_, 1) := by decide +kernel
theorem dX11_plan_0 : decode cX11_plan 0 = .ok (.iload_n 1, 1) := by decide +kernel
theorem dX11_plan_1 : decode cX11_plan 1 = .ok (.i2l, 1) := by decide +kernel
theorem dX11_plan_2 : decode cX11_plan 2 = .ok (.lconst 0, 1) := by decide +kernel
theorem dX11_plan_3 : decode cX11_plan 3 = .ok (.lconst 1, 1) := by decide +kernel
theorem dX11_plan_4 : decode cX11_plan 4 = .ok (.invokestatic 93, 3) := by decide +kernel
theorem dX11_plan_7 : decode cX11_plan 7 = .ok (.ifCond .eq 43, 3) := by decide +kernel
theorem dX11_plan_10 : decode cX11_plan 10 = .ok (.aload_n 0, 1) := by decide +kernel
theorem dX11_plan_11 : decode cX11_plan 11 = .ok (.iload_n 2, 1) := by decide +kernel
theorem dX11_plan_12 : decode cX11_plan 12 = .ok (.invokevirtual 149, 3) := by decide +kernel
theorem dX11_plan_15 : decode cX11_plan 15 = .ok (.ifCond .eq 35, 3) := by decide +kernel
theorem dX11_plan_18 : decode cX11_plan 18 = .ok (.iload_n 3, 1) := by decide +kernel
theorem dX11_plan_19 : decode cX11_plan 19 = .ok (.i2l, 1) := by decide +kernel
theorem dX11_plan_20 : decode cX11_plan 20 = .ok (.lconst 0, 1) := by decide +kernel
theorem dX11_plan_21 : decode cX11_plan 21 = .ok (.ldc2_w 138, 3) := by decide +kernel
theorem dX11_plan_24 : decode cX11_plan 24 = .ok (.invokestatic 93, 3) := by decide +kernel
theorem dX11_plan_27 : decode cX11_plan 27 = .ok (.ifCond .eq 23, 3) := by decide +kernel
theorem dX11_plan_30 : decode cX11_plan 30 = .ok (.iload 4, 2) := by decide +kernel
theorem dX11_plan_32 : decode cX11_plan 32 = .ok (.i2l, 1) := by decide +kernel
theorem dX11_plan_33 : decode cX11_plan 33 = .ok (.ldc2_w 207, 3) := by decide +kernel
theorem dX11_plan_36 : decode cX11_plan 36 = .ok (.aload_n 0, 1) := by decide +kernel
theorem dX11_plan_37 : decode cX11_plan 37 = .ok (.iload_n 2, 1) := by decide +kernel
theorem dX11_plan_38 : decode cX11_plan 38 = .ok (.invokevirtual 189, 3) := by decide +kernel
theorem dX11_plan_41 : decode cX11_plan 41 = .ok (.iconst 1, 1) := by decide +kernel
theorem dX11_plan_42 : decode cX11_plan 42 = .ok (.isub, 1) := by decide +kernel
theorem dX11_plan_43 : decode cX11_plan 43 = .ok (.i2l, 1) := by decide +kernel
theorem dX11_plan_44 : decode cX11_plan 44 = .ok (.invokestatic 93, 3) := by decide +kernel
theorem dX11_plan_47 : decode cX11_plan 47 = .ok (.ifCond .ne 5, 3) := by decide +kernel
theorem dX11_plan_50 : decode cX11_plan 50 = .ok (.iconst (-1), 1) := by decide +kernel
theorem dX11_plan_51 : decode cX11_plan 51 = .ok (.ireturn, 1) := by decide +kernel
theorem dX11_plan_52 : decode cX11_plan 52 = .ok (.aload_n 0, 1) := by decide +kernel
theorem dX11_plan_53 : decode cX11_plan 53 = .ok (.iload_n 1, 1) := by decide +kernel
theorem dX11_plan_54 : decode cX11_plan 54 = .ok (.iload_n 2, 1) := by decide +kernel
theorem dX11_plan_55 : decode cX11_plan 55 = .ok (.iload_n 3, 1) := by decide +kernel
theorem dX11_plan_56 : decode cX11_plan 56 = .ok (.invokevirtual 209, 3) := by decide +kernel
theorem dX11_plan_59 : decode cX11_plan 59 = .ok (.iload 4, 2) := by decide +kernel
theorem dX11_plan_61 : decode cX11_plan 61 = .ok (.tableswitch 71 (-4) (-1) #[64, 57, 48, 31], 31) := by decide +kernel
theorem dX11_plan_92 : decode cX11_plan 92 = .ok (.aload_n 0, 1) := by decide +kernel
theorem dX11_plan_93 : decode cX11_plan 93 = .ok (.aload_n 0, 1) := by decide +kernel
theorem dX11_plan_94 : decode cX11_plan 94 = .ok (.getfield 67, 3) := by decide +kernel
theorem dX11_plan_97 : decode cX11_plan 97 = .ok (.iload_n 2, 1) := by decide +kernel
theorem dX11_plan_98 : decode cX11_plan 98 = .ok (.iload_n 2, 1) := by decide +kernel
theorem dX11_plan_99 : decode cX11_plan 99 = .ok (.aload_n 0, 1) := by decide +kernel
theorem dX11_plan_100 : decode cX11_plan 100 = .ok (.iload_n 2, 1) := by decide +kernel
theorem dX11_plan_101 : decode cX11_plan 101 = .ok (.invokevirtual 189, 3) := by decide +kernel
theorem dX11_plan_104 : decode cX11_plan 104 = .ok (.iadd, 1) := by decide +kernel
theorem dX11_plan_105 : decode cX11_plan 105 = .ok (.invokevirtual 196, 3) := by decide +kernel
theorem dX11_plan_108 : decode cX11_plan 108 = .ok (.ireturn, 1) := by decide +kernel
theorem dX11_plan_109 : decode cX11_plan 109 = .ok (.aload_n 0, 1) := by decide +kernel
theorem dX11_plan_110 : decode cX11_plan 110 = .ok (.aload_n 0, 1) := by decide +kernel
theorem dX11_plan_111 : decode cX11_plan 111 = .ok (.getfield 67, 3) := by decide +kernel
theorem dX11_plan_114 : decode cX11_plan 114 = .ok (.invokevirtual 200, 3) := by decide +kernel
theorem dX11_plan_117 : decode cX11_plan 117 = .ok (.ireturn, 1) := by decide +kernel
theorem dX11_plan_118 : decode cX11_plan 118 = .ok (.aload_n 0, 1) := by decide +kernel
theorem dX11_plan_119 : decode cX11_plan 119 = .ok (.getfield 73, 3) := by decide +kernel
theorem dX11_plan_122 : decode cX11_plan 122 = .ok (.iconst 1, 1) := by decide +kernel
theorem dX11_plan_123 : decode cX11_plan 123 = .ok (.iaload, 1) := by decide +kernel
theorem dX11_plan_124 : decode cX11_plan 124 = .ok (.ireturn, 1) := by decide +kernel
theorem dX11_plan_125 : decode cX11_plan 125 = .ok (.aload_n 0, 1) := by decide +kernel
theorem dX11_plan_126 : decode cX11_plan 126 = .ok (.getfield 73, 3) := by decide +kernel
theorem dX11_plan_129 : decode cX11_plan 129 = .ok (.iconst 2, 1) := by decide +kernel
theorem dX11_plan_130 : decode cX11_plan 130 = .ok (.iaload, 1) := by decide +kernel
theorem dX11_plan_131 : decode cX11_plan 131 = .ok (.ireturn, 1) := by decide +kernel
theorem dX11_plan_132 : decode cX11_plan 132 = .ok (.aload_n 0, 1) := by decide +kernel
theorem dX11_plan_133 : decode cX11_plan 133 = .ok (.getfield 70, 3) := by decide +kernel
theorem dX11_plan_136 : decode cX11_plan 136 = .ok (.iload 4, 2) := by decide +kernel
theorem dX11_plan_138 : decode cX11_plan 138 = .ok (.iaload, 1) := by decide +kernel
theorem dX11_plan_139 : decode cX11_plan 139 = .ok (.ireturn, 1) := by decide +kernel
theorem dX11_adopt_0 : decode cX11_adopt 0 = .ok (.iload_n 1, 1) := by decide +kernel
theorem dX11_adopt_1 : decode cX11_adopt 1 = .ok (.i2l, 1) := by decide +kernel
theorem dX11_adopt_2 : decode cX11_adopt 2 = .ok (.lconst 0, 1) := by decide +kernel
theorem dX11_adopt_3 : decode cX11_adopt 3 = .ok (.lconst 1, 1) := by decide +kernel
theorem dX11_adopt_4 : decode cX11_adopt 4 = .ok (.invokestatic 93, 3) := by decide +kernel
theorem dX11_adopt_7 : decode cX11_adopt 7 = .ok (.ifCond .eq 23, 3) := by decide +kernel
theorem dX11_adopt_10 : decode cX11_adopt 10 = .ok (.aload_n 0, 1) := by decide +kernel
theorem dX11_adopt_11 : decode cX11_adopt 11 = .ok (.iload_n 2, 1) := by decide +kernel
theorem dX11_adopt_12 : decode cX11_adopt 12 = .ok (.invokevirtual 149, 3) := by decide +kernel
theorem dX11_adopt_15 : decode cX11_adopt 15 = .ok (.ifCond .eq 15, 3) := by decide +kernel
theorem dX11_adopt_18 : decode cX11_adopt 18 = .ok (.iload_n 3, 1) := by decide +kernel
theorem dX11_adopt_19 : decode cX11_adopt 19 = .ok (.i2l, 1) := by decide +kernel
theorem dX11_adopt_20 : decode cX11_adopt 20 = .ok (.lconst 0, 1) := by decide +kernel
theorem dX11_adopt_21 : decode cX11_adopt 21 = .ok (.ldc2_w 138, 3) := by decide +kernel
theorem dX11_adopt_24 : decode cX11_adopt 24 = .ok (.invokestatic 93, 3) := by decide +kernel
theorem dX11_adopt_27 : decode cX11_adopt 27 = .ok (.ifCond .ne 5, 3) := by decide +kernel
theorem dX11_adopt_30 : decode cX11_adopt 30 = .ok (.iconst (-1), 1) := by decide +kernel
theorem dX11_adopt_31 : decode cX11_adopt 31 = .ok (.ireturn, 1) := by decide +kernel
theorem dX11_adopt_32 : decode cX11_adopt 32 = .ok (.aload_n 0, 1) := by decide +kernel
theorem dX11_adopt_33 : decode cX11_adopt 33 = .ok (.iload_n 1, 1) := by decide +kernel
theorem dX11_adopt_34 : decode cX11_adopt 34 = .ok (.iload_n 2, 1) := by decide +kernel
theorem dX11_adopt_35 : decode cX11_adopt 35 = .ok (.iload_n 3, 1) := by decide +kernel
theorem dX11_adopt_36 : decode cX11_adopt 36 = .ok (.invokevirtual 209, 3) := by decide +kernel
theorem dX11_adopt_39 : decode cX11_adopt 39 = .ok (.aload_n 0, 1) := by decide +kernel
theorem dX11_adopt_40 : decode cX11_adopt 40 = .ok (.invokevirtual 168, 3) := by decide +kernel
theorem dX11_adopt_43 : decode cX11_adopt 43 = .ok (.iconst 0, 1) := by decide +kernel
theorem dX11_adopt_44 : decode cX11_adopt 44 = .ok (.istore 4, 2) := by decide +kernel
theorem dX11_adopt_46 : decode cX11_adopt 46 = .ok (.iload 4, 2) := by decide +kernel
theorem dX11_adopt_48 : decode cX11_adopt 48 = .ok (.aload_n 0, 1) := by decide +kernel
theorem dX11_adopt_49 : decode cX11_adopt 49 = .ok (.iload_n 2, 1) := by decide +kernel
theorem dX11_adopt_50 : decode cX11_adopt 50 = .ok (.invokevirtual 189, 3) := by decide +kernel
theorem dX11_adopt_53 : decode cX11_adopt 53 = .ok (.if_icmp .ge 25, 3) := by decide +kernel
theorem dX11_adopt_56 : decode cX11_adopt 56 = .ok (.aload_n 0, 1) := by decide +kernel
theorem dX11_adopt_57 : decode cX11_adopt 57 = .ok (.getfield 52, 3) := by decide +kernel
theorem dX11_adopt_60 : decode cX11_adopt 60 = .ok (.iload_n 2, 1) := by decide +kernel
theorem dX11_adopt_61 : decode cX11_adopt 61 = .ok (.iload 4, 2) := by decide +kernel
theorem dX11_adopt_63 : decode cX11_adopt 63 = .ok (.iadd, 1) := by decide +kernel
theorem dX11_adopt_64 : decode cX11_adopt 64 = .ok (.aload_n 0, 1) := by decide +kernel
theorem dX11_adopt_65 : decode cX11_adopt 65 = .ok (.getfield 70, 3) := by decide +kernel
theorem dX11_adopt_68 : decode cX11_adopt 68 = .ok (.iload 4, 2) := by decide +kernel
theorem dX11_adopt_70 : decode cX11_adopt 70 = .ok (.iaload, 1) := by decide +kernel
theorem dX11_adopt_71 : decode cX11_adopt 71 = .ok (.iastore, 1) := by decide +kernel
theorem dX11_adopt_72 : decode cX11_adopt 72 = .ok (.iinc 4 1, 3) := by decide +kernel
theorem dX11_adopt_75 : decode cX11_adopt 75 = .ok (.goto (-29), 3) := by decide +kernel
theorem dX11_adopt_78 : decode cX11_adopt 78 = .ok (.aload_n 0, 1) := by decide +kernel
theorem dX11_adopt_79 : decode cX11_adopt 79 = .ok (.getfield 73, 3) := by decide +kernel
theorem dX11_adopt_82 : decode cX11_adopt 82 = .ok (.iconst 2, 1) := by decide +kernel
theorem dX11_adopt_83 : decode cX11_adopt 83 = .ok (.iaload, 1) := by decide +kernel
theorem dX11_adopt_84 : decode cX11_adopt 84 = .ok (.ireturn, 1) := by decide +kernel
theorem dX11_bound_0 : decode cX11_bound 0 = .ok (.aload_n 0, 1) := by decide +kernel
theorem dX11_bound_1 : decode cX11_bound 1 = .ok (.iload_n 1, 1) := by decide +kernel
theorem dX11_bound_2 : decode cX11_bound 2 = .ok (.invokevirtual 149, 3) := by decide +kernel
theorem dX11_bound_5 : decode cX11_bound 5 = .ok (.ifCond .ne 5, 3) := by decide +kernel
theorem dX11_bound_8 : decode cX11_bound 8 = .ok (.iconst (-1), 1) := by decide +kernel
theorem dX11_bound_9 : decode cX11_bound 9 = .ok (.ireturn, 1) := by decide +kernel
theorem dX11_bound_10 : decode cX11_bound 10 = .ok (.iconst 0, 1) := by decide +kernel
theorem dX11_bound_11 : decode cX11_bound 11 = .ok (.istore_n 2, 1) := by decide +kernel
theorem dX11_bound_12 : decode cX11_bound 12 = .ok (.iload_n 1, 1) := by decide +kernel
theorem dX11_bound_13 : decode cX11_bound 13 = .ok (.istore_n 3, 1) := by decide +kernel
theorem dX11_bound_14 : decode cX11_bound 14 = .ok (.iload_n 3, 1) := by decide +kernel
theorem dX11_bound_15 : decode cX11_bound 15 = .ok (.iload_n 1, 1) := by decide +kernel
theorem dX11_bound_16 : decode cX11_bound 16 = .ok (.aload_n 0, 1) := by decide +kernel
theorem dX11_bound_17 : decode cX11_bound 17 = .ok (.iload_n 1, 1) := by decide +kernel
theorem dX11_bound_18 : decode cX11_bound 18 = .ok (.invokevirtual 189, 3) := by decide +kernel
theorem dX11_bound_21 : decode cX11_bound 21 = .ok (.iadd, 1) := by decide +kernel
theorem dX11_bound_22 : decode cX11_bound 22 = .ok (.if_icmp .ge 72, 3) := by decide +kernel
theorem dX11_bound_25 : decode cX11_bound 25 = .ok (.iconst 0, 1) := by decide +kernel
theorem dX11_bound_26 : decode cX11_bound 26 = .ok (.istore 4, 2) := by decide +kernel
theorem dX11_bound_28 : decode cX11_bound 28 = .ok (.iconst 0, 1) := by decide +kernel
theorem dX11_bound_29 : decode cX11_bound 29 = .ok (.istore 5, 2) := by decide +kernel
theorem dX11_bound_31 : decode cX11_bound 31 = .ok (.iload 5, 2) := by decide +kernel
theorem dX11_bound_33 : decode cX11_bound 33 = .ok (.aload_n 0, 1) := by decide +kernel
theorem dX11_bound_34 : decode cX11_bound 34 = .ok (.getfield 22, 3) := by decide +kernel
theorem dX11_bound_37 : decode cX11_bound 37 = .ok (.iconst 2, 1) := by decide +kernel
theorem dX11_bound_38 : decode cX11_bound 38 = .ok (.iaload, 1) := by decide +kernel
theorem dX11_bound_39 : decode cX11_bound 39 = .ok (.if_icmp .ge 31, 3) := by decide +kernel
theorem dX11_bound_42 : decode cX11_bound 42 = .ok (.iload 4, 2) := by decide +kernel
theorem dX11_bound_44 : decode cX11_bound 44 = .ok (.ifCond .ne 13, 3) := by decide +kernel
theorem dX11_bound_47 : decode cX11_bound 47 = .ok (.aload_n 0, 1) := by decide +kernel
theorem dX11_bound_48 : decode cX11_bound 48 = .ok (.iload_n 3, 1) := by decide +kernel
theorem dX11_bound_49 : decode cX11_bound 49 = .ok (.iload 5, 2) := by decide +kernel
theorem dX11_bound_51 : decode cX11_bound 51 = .ok (.invokevirtual 152, 3) := by decide +kernel
theorem dX11_bound_54 : decode cX11_bound 54 = .ok (.ifCond .eq 7, 3) := by decide +kernel
theorem dX11_bound_57 : decode cX11_bound 57 = .ok (.iconst 1, 1) := by decide +kernel
theorem dX11_bound_58 : decode cX11_bound 58 = .ok (.goto 4, 3) := by decide +kernel
theorem dX11_bound_61 : decode cX11_bound 61 = .ok (.iconst 0, 1) := by decide +kernel
theorem dX11_bound_62 : decode cX11_bound 62 = .ok (.istore 4, 2) := by decide +kernel
theorem dX11_bound_64 : decode cX11_bound 64 = .ok (.iinc 5 1, 3) := by decide +kernel
theorem dX11_bound_67 : decode cX11_bound 67 = .ok (.goto (-36), 3) := by decide +kernel
theorem dX11_bound_70 : decode cX11_bound 70 = .ok (.iload_n 2, 1) := by decide +kernel
theorem dX11_bound_71 : decode cX11_bound 71 = .ok (.iload 4, 2) := by decide +kernel
theorem dX11_bound_73 : decode cX11_bound 73 = .ok (.ifCond .eq 12, 3) := by decide +kernel
theorem dX11_bound_76 : decode cX11_bound 76 = .ok (.aload_n 0, 1) := by decide +kernel
theorem dX11_bound_77 : decode cX11_bound 77 = .ok (.getfield 49, 3) := by decide +kernel
theorem dX11_bound_80 : decode cX11_bound 80 = .ok (.iload_n 3, 1) := by decide +kernel
theorem dX11_bound_81 : decode cX11_bound 81 = .ok (.iaload, 1) := by decide +kernel
theorem dX11_bound_82 : decode cX11_bound 82 = .ok (.goto 4, 3) := by decide +kernel
theorem dX11_bound_85 : decode cX11_bound 85 = .ok (.iconst 0, 1) := by decide +kernel
theorem dX11_bound_86 : decode cX11_bound 86 = .ok (.iadd, 1) := by decide +kernel
theorem dX11_bound_87 : decode cX11_bound 87 = .ok (.istore_n 2, 1) := by decide +kernel
theorem dX11_bound_88 : decode cX11_bound 88 = .ok (.iinc 3 1, 3) := by decide +kernel
theorem dX11_bound_91 : decode cX11_bound 91 = .ok (.goto (-77), 3) := by decide +kernel
theorem dX11_bound_94 : decode cX11_bound 94 = .ok (.iload_n 2, 1) := by decide +kernel
end
section
theorem dX11_bound_95 : decode cX11_bound 95 = .ok (.ireturn, 1) := by decide +kernel
theorem dX11_store_0 : decode cX11_store 0 = .ok (.iload_n 1, 1) := by decide +kernel
theorem dX11_store_1 : decode cX11_store 1 = .ok (.i2l, 1) := by decide +kernel
theorem dX11_store_2 : decode cX11_store 2 = .ok (.lconst 0, 1) := by decide +kernel
theorem dX11_store_3 : decode cX11_store 3 = .ok (.aload_n 0, 1) := by decide +kernel
theorem dX11_store_4 : decode cX11_store 4 = .ok (.getfield 22, 3) := by decide +kernel
theorem dX11_store_7 : decode cX11_store 7 = .ok (.iconst 0, 1) := by decide +kernel
theorem dX11_store_8 : decode cX11_store 8 = .ok (.iaload, 1) := by decide +kernel
theorem dX11_store_9 : decode cX11_store 9 = .ok (.iconst 1, 1) := by decide +kernel
theorem dX11_store_10 : decode cX11_store 10 = .ok (.isub, 1) := by decide +kernel
theorem dX11_store_11 : decode cX11_store 11 = .ok (.i2l, 1) := by decide +kernel
theorem dX11_store_12 : decode cX11_store 12 = .ok (.invokestatic 93, 3) := by decide +kernel
theorem dX11_store_15 : decode cX11_store 15 = .ok (.ifCond .eq 27, 3) := by decide +kernel
theorem dX11_store_18 : decode cX11_store 18 = .ok (.iload_n 2, 1) := by decide +kernel
theorem dX11_store_19 : decode cX11_store 19 = .ok (.i2l, 1) := by decide +kernel
theorem dX11_store_20 : decode cX11_store 20 = .ok (.lconst 0, 1) := by decide +kernel
theorem dX11_store_21 : decode cX11_store 21 = .ok (.ldc2_w 147, 3) := by decide +kernel
theorem dX11_store_24 : decode cX11_store 24 = .ok (.invokestatic 93, 3) := by decide +kernel
theorem dX11_store_27 : decode cX11_store 27 = .ok (.ifCond .eq 15, 3) := by decide +kernel
theorem dX11_store_30 : decode cX11_store 30 = .ok (.iload_n 3, 1) := by decide +kernel
theorem dX11_store_31 : decode cX11_store 31 = .ok (.i2l, 1) := by decide +kernel
theorem dX11_store_32 : decode cX11_store 32 = .ok (.lconst 0, 1) := by decide +kernel
theorem dX11_store_33 : decode cX11_store 33 = .ok (.ldc2_w 213, 3) := by decide +kernel
theorem dX11_store_36 : decode cX11_store 36 = .ok (.invokestatic 93, 3) := by decide +kernel
theorem dX11_store_39 : decode cX11_store 39 = .ok (.ifCond .ne 5, 3) := by decide +kernel
theorem dX11_store_42 : decode cX11_store 42 = .ok (.iconst (-1), 1) := by decide +kernel
theorem dX11_store_43 : decode cX11_store 43 = .ok (.ireturn, 1) := by decide +kernel
theorem dX11_store_44 : decode cX11_store 44 = .ok (.aload_n 0, 1) := by decide +kernel
theorem dX11_store_45 : decode cX11_store 45 = .ok (.aload_n 0, 1) := by decide +kernel
theorem dX11_store_46 : decode cX11_store 46 = .ok (.getfield 52, 3) := by decide +kernel
theorem dX11_store_49 : decode cX11_store 49 = .ok (.invokevirtual 181, 3) := by decide +kernel
theorem dX11_store_52 : decode cX11_store 52 = .ok (.aload_n 0, 1) := by decide +kernel
theorem dX11_store_53 : decode cX11_store 53 = .ok (.iload_n 1, 1) := by decide +kernel
theorem dX11_store_54 : decode cX11_store 54 = .ok (.iload_n 2, 1) := by decide +kernel
theorem dX11_store_55 : decode cX11_store 55 = .ok (.invokevirtual 185, 3) := by decide +kernel
theorem dX11_store_58 : decode cX11_store 58 = .ok (.aload_n 0, 1) := by decide +kernel
theorem dX11_store_59 : decode cX11_store 59 = .ok (.getfield 76, 3) := by decide +kernel
theorem dX11_store_62 : decode cX11_store 62 = .ok (.iload_n 3, 1) := by decide +kernel
theorem dX11_store_63 : decode cX11_store 63 = .ok (.iaload, 1) := by decide +kernel
theorem dX11_store_64 : decode cX11_store 64 = .ok (.ireturn, 1) := by decide +kernel
theorem dX11_over_0 : decode cX11_over 0 = .ok (.iload_n 1, 1) := by decide +kernel
theorem dX11_over_1 : decode cX11_over 1 = .ok (.i2l, 1) := by decide +kernel
theorem dX11_over_2 : decode cX11_over 2 = .ok (.lconst 0, 1) := by decide +kernel
theorem dX11_over_3 : decode cX11_over 3 = .ok (.aload_n 0, 1) := by decide +kernel
theorem dX11_over_4 : decode cX11_over 4 = .ok (.getfield 22, 3) := by decide +kernel
theorem dX11_over_7 : decode cX11_over 7 = .ok (.iconst 0, 1) := by decide +kernel
theorem dX11_over_8 : decode cX11_over 8 = .ok (.iaload, 1) := by decide +kernel
theorem dX11_over_9 : decode cX11_over 9 = .ok (.iconst 1, 1) := by decide +kernel
theorem dX11_over_10 : decode cX11_over 10 = .ok (.isub, 1) := by decide +kernel
theorem dX11_over_11 : decode cX11_over 11 = .ok (.i2l, 1) := by decide +kernel
theorem dX11_over_12 : decode cX11_over 12 = .ok (.invokestatic 93, 3) := by decide +kernel
theorem dX11_over_15 : decode cX11_over 15 = .ok (.ifCond .ne 5, 3) := by decide +kernel
theorem dX11_over_18 : decode cX11_over 18 = .ok (.iconst (-1), 1) := by decide +kernel
theorem dX11_over_19 : decode cX11_over 19 = .ok (.ireturn, 1) := by decide +kernel
theorem dX11_over_20 : decode cX11_over 20 = .ok (.aload_n 0, 1) := by decide +kernel
theorem dX11_over_21 : decode cX11_over 21 = .ok (.aload_n 0, 1) := by decide +kernel
theorem dX11_over_22 : decode cX11_over 22 = .ok (.getfield 52, 3) := by decide +kernel
theorem dX11_over_25 : decode cX11_over 25 = .ok (.invokevirtual 181, 3) := by decide +kernel
theorem dX11_over_28 : decode cX11_over 28 = .ok (.aload_n 0, 1) := by decide +kernel
theorem dX11_over_29 : decode cX11_over 29 = .ok (.iload_n 1, 1) := by decide +kernel
theorem dX11_over_30 : decode cX11_over 30 = .ok (.bipush 59, 2) := by decide +kernel
theorem dX11_over_32 : decode cX11_over 32 = .ok (.invokevirtual 185, 3) := by decide +kernel
theorem dX11_over_35 : decode cX11_over 35 = .ok (.aload_n 0, 1) := by decide +kernel
theorem dX11_over_36 : decode cX11_over 36 = .ok (.getfield 76, 3) := by decide +kernel
theorem dX11_over_39 : decode cX11_over 39 = .ok (.iconst 3, 1) := by decide +kernel
theorem dX11_over_40 : decode cX11_over 40 = .ok (.iaload, 1) := by decide +kernel
theorem dX11_over_41 : decode cX11_over 41 = .ok (.ireturn, 1) := by decide +kernel
theorem dX11_count_0 : decode cX11_count 0 = .ok (.iload_n 1, 1) := by decide +kernel
theorem dX11_count_1 : decode cX11_count 1 = .ok (.i2l, 1) := by decide +kernel
theorem dX11_count_2 : decode cX11_count 2 = .ok (.lconst 0, 1) := by decide +kernel
theorem dX11_count_3 : decode cX11_count 3 = .ok (.ldc2_w 215, 3) := by decide +kernel
theorem dX11_count_6 : decode cX11_count 6 = .ok (.invokestatic 93, 3) := by decide +kernel
theorem dX11_count_9 : decode cX11_count 9 = .ok (.ifCond .ne 5, 3) := by decide +kernel
theorem dX11_count_12 : decode cX11_count 12 = .ok (.iconst (-1), 1) := by decide +kernel
theorem dX11_count_13 : decode cX11_count 13 = .ok (.ireturn, 1) := by decide +kernel
theorem dX11_count_14 : decode cX11_count 14 = .ok (.iconst 0, 1) := by decide +kernel
theorem dX11_count_15 : decode cX11_count 15 = .ok (.istore_n 2, 1) := by decide +kernel
theorem dX11_count_16 : decode cX11_count 16 = .ok (.aload_n 0, 1) := by decide +kernel
theorem dX11_count_17 : decode cX11_count 17 = .ok (.aload_n 0, 1) := by decide +kernel
theorem dX11_count_18 : decode cX11_count 18 = .ok (.getfield 52, 3) := by decide +kernel
theorem dX11_count_21 : decode cX11_count 21 = .ok (.invokevirtual 181, 3) := by decide +kernel
theorem dX11_count_24 : decode cX11_count 24 = .ok (.iconst 0, 1) := by decide +kernel
theorem dX11_count_25 : decode cX11_count 25 = .ok (.istore_n 3, 1) := by decide +kernel
theorem dX11_count_26 : decode cX11_count 26 = .ok (.iload_n 3, 1) := by decide +kernel
theorem dX11_count_27 : decode cX11_count 27 = .ok (.aload_n 0, 1) := by decide +kernel
theorem dX11_count_28 : decode cX11_count 28 = .ok (.getfield 22, 3) := by decide +kernel
theorem dX11_count_31 : decode cX11_count 31 = .ok (.iconst 0, 1) := by decide +kernel
theorem dX11_count_32 : decode cX11_count 32 = .ok (.iaload, 1) := by decide +kernel
theorem dX11_count_33 : decode cX11_count 33 = .ok (.if_icmp .ge 31, 3) := by decide +kernel
theorem dX11_count_36 : decode cX11_count 36 = .ok (.iload_n 1, 1) := by decide +kernel
theorem dX11_count_37 : decode cX11_count 37 = .ok (.bipush 7, 2) := by decide +kernel
theorem dX11_count_39 : decode cX11_count 39 = .ok (.if_icmp .ne 25, 3) := by decide +kernel
theorem dX11_count_42 : decode cX11_count 42 = .ok (.aload_n 0, 1) := by decide +kernel
theorem dX11_count_43 : decode cX11_count 43 = .ok (.iload_n 3, 1) := by decide +kernel
theorem dX11_count_44 : decode cX11_count 44 = .ok (.bipush 59, 2) := by decide +kernel
theorem dX11_count_46 : decode cX11_count 46 = .ok (.invokevirtual 185, 3) := by decide +kernel
theorem dX11_count_49 : decode cX11_count 49 = .ok (.iload_n 2, 1) := by decide +kernel
theorem dX11_count_50 : decode cX11_count 50 = .ok (.aload_n 0, 1) := by decide +kernel
theorem dX11_count_51 : decode cX11_count 51 = .ok (.getfield 76, 3) := by decide +kernel
theorem dX11_count_54 : decode cX11_count 54 = .ok (.iconst 2, 1) := by decide +kernel
theorem dX11_count_55 : decode cX11_count 55 = .ok (.iaload, 1) := by decide +kernel
theorem dX11_count_56 : decode cX11_count 56 = .ok (.iadd, 1) := by decide +kernel
theorem dX11_count_57 : decode cX11_count 57 = .ok (.istore_n 2, 1) := by decide +kernel
theorem dX11_count_58 : decode cX11_count 58 = .ok (.iinc 3 1, 3) := by decide +kernel
theorem dX11_count_61 : decode cX11_count 61 = .ok (.goto (-35), 3) := by decide +kernel
theorem dX11_count_64 : decode cX11_count 64 = .ok (.iload_n 1, 1) := by decide +kernel
theorem dX11_count_65 : decode cX11_count 65 = .ok (.iconst 3, 1) := by decide +kernel
theorem dX11_count_66 : decode cX11_count 66 = .ok (.if_icmp .ge 12, 3) := by decide +kernel
theorem dX11_count_69 : decode cX11_count 69 = .ok (.aload_n 0, 1) := by decide +kernel
theorem dX11_count_70 : decode cX11_count 70 = .ok (.getfield 22, 3) := by decide +kernel
theorem dX11_count_73 : decode cX11_count 73 = .ok (.iload_n 1, 1) := by decide +kernel
theorem dX11_count_74 : decode cX11_count 74 = .ok (.iaload, 1) := by decide +kernel
theorem dX11_count_75 : decode cX11_count 75 = .ok (.goto 92, 3) := by decide +kernel
theorem dX11_count_78 : decode cX11_count 78 = .ok (.iload_n 1, 1) := by decide +kernel
theorem dX11_count_79 : decode cX11_count 79 = .ok (.iconst 3, 1) := by decide +kernel
theorem dX11_count_80 : decode cX11_count 80 = .ok (.if_icmp .ne 10, 3) := by decide +kernel
theorem dX11_count_83 : decode cX11_count 83 = .ok (.aload_n 0, 1) := by decide +kernel
theorem dX11_count_84 : decode cX11_count 84 = .ok (.getfield 124, 3) := by decide +kernel
theorem dX11_count_87 : decode cX11_count 87 = .ok (.goto 80, 3) := by decide +kernel
theorem dX11_count_90 : decode cX11_count 90 = .ok (.iload_n 1, 1) := by decide +kernel
theorem dX11_count_91 : decode cX11_count 91 = .ok (.iconst 4, 1) := by decide +kernel
theorem dX11_count_92 : decode cX11_count 92 = .ok (.if_icmp .ne 10, 3) := by decide +kernel
theorem dX11_count_95 : decode cX11_count 95 = .ok (.aload_n 0, 1) := by decide +kernel
theorem dX11_count_96 : decode cX11_count 96 = .ok (.invokevirtual 171, 3) := by decide +kernel
theorem dX11_count_99 : decode cX11_count 99 = .ok (.goto 68, 3) := by decide +kernel
theorem dX11_count_102 : decode cX11_count 102 = .ok (.iload_n 1, 1) := by decide +kernel
theorem dX11_count_103 : decode cX11_count 103 = .ok (.iconst 5, 1) := by decide +kernel
theorem dX11_count_104 : decode cX11_count 104 = .ok (.if_icmp .ne 10, 3) := by decide +kernel
theorem dX11_count_107 : decode cX11_count 107 = .ok (.aload_n 0, 1) := by decide +kernel
theorem dX11_count_108 : decode cX11_count 108 = .ok (.getfield 135, 3) := by decide +kernel
theorem dX11_count_111 : decode cX11_count 111 = .ok (.goto 56, 3) := by decide +kernel
theorem dX11_count_114 : decode cX11_count 114 = .ok (.iload_n 1, 1) := by decide +kernel
theorem dX11_count_115 : decode cX11_count 115 = .ok (.bipush 6, 2) := by decide +kernel
theorem dX11_count_117 : decode cX11_count 117 = .ok (.if_icmp .ne 10, 3) := by decide +kernel
theorem dX11_count_120 : decode cX11_count 120 = .ok (.aload_n 0, 1) := by decide +kernel
theorem dX11_count_121 : decode cX11_count 121 = .ok (.getfield 97, 3) := by decide +kernel
theorem dX11_count_124 : decode cX11_count 124 = .ok (.goto 43, 3) := by decide +kernel
theorem dX11_count_127 : decode cX11_count 127 = .ok (.iload_n 1, 1) := by decide +kernel
theorem dX11_count_128 : decode cX11_count 128 = .ok (.bipush 7, 2) := by decide +kernel
theorem dX11_count_130 : decode cX11_count 130 = .ok (.if_icmp .ne 7, 3) := by decide +kernel
theorem dX11_count_133 : decode cX11_count 133 = .ok (.iload_n 2, 1) := by decide +kernel
theorem dX11_count_134 : decode cX11_count 134 = .ok (.goto 33, 3) := by decide +kernel
theorem dX11_count_137 : decode cX11_count 137 = .ok (.iload_n 1, 1) := by decide +kernel
theorem dX11_count_138 : decode cX11_count 138 = .ok (.bipush 8, 2) := by decide +kernel
theorem dX11_count_140 : decode cX11_count 140 = .ok (.if_icmp .ne 14, 3) := by decide +kernel
theorem dX11_count_143 : decode cX11_count 143 = .ok (.aload_n 0, 1) := by decide +kernel
theorem dX11_count_144 : decode cX11_count 144 = .ok (.aload_n 0, 1) := by decide +kernel
theorem dX11_count_145 : decode cX11_count 145 = .ok (.getfield 52, 3) := by decide +kernel
theorem dX11_count_148 : decode cX11_count 148 = .ok (.invokevirtual 200, 3) := by decide +kernel
theorem dX11_count_151 : decode cX11_count 151 = .ok (.goto 16, 3) := by decide +kernel
theorem dX11_count_154 : decode cX11_count 154 = .ok (.aload_n 0, 1) := by decide +kernel
theorem dX11_count_155 : decode cX11_count 155 = .ok (.aload_n 0, 1) := by decide +kernel
theorem dX11_count_156 : decode cX11_count 156 = .ok (.getfield 52, 3) := by decide +kernel
theorem dX11_count_159 : decode cX11_count 159 = .ok (.iconst 0, 1) := by decide +kernel
theorem dX11_count_160 : decode cX11_count 160 = .ok (.aload_n 0, 1) := by decide +kernel
theorem dX11_count_161 : decode cX11_count 161 = .ok (.getfield 124, 3) := by decide +kernel
theorem dX11_count_164 : decode cX11_count 164 = .ok (.invokevirtual 196, 3) := by decide +kernel
theorem dX11_count_167 : decode cX11_count 167 = .ok (.ireturn, 1) := by decide +kernel
theorem dJ6_bitCount_0f7a4_0 : decode cJ6_bitCount_0f7a4 0 = .ok (.iload_n 0, 1) := by decide +kernel
theorem dJ6_bitCount_0f7a4_1 : decode cJ6_bitCount_0f7a4 1 = .ok (.iload_n 0, 1) := by decide +kernel
theorem dJ6_bitCount_0f7a4_2 : decode cJ6_bitCount_0f7a4 2 = .ok (.iconst 1, 1) := by decide +kernel
theorem dJ6_bitCount_0f7a4_3 : decode cJ6_bitCount_0f7a4 3 = .ok (.iushr, 1) := by decide +kernel
theorem dJ6_bitCount_0f7a4_4 : decode cJ6_bitCount_0f7a4 4 = .ok (.ldc_w 265, 3) := by decide +kernel
theorem dJ6_bitCount_0f7a4_7 : decode cJ6_bitCount_0f7a4 7 = .ok (.iand, 1) := by decide +kernel
theorem dJ6_bitCount_0f7a4_8 : decode cJ6_bitCount_0f7a4 8 = .ok (.isub, 1) := by decide +kernel
theorem dJ6_bitCount_0f7a4_9 : decode cJ6_bitCount_0f7a4 9 = .ok (.istore_n 0, 1) := by decide +kernel
theorem dJ6_bitCount_0f7a4_10 : decode cJ6_bitCount_0f7a4 10 = .ok (.iload_n 0, 1) := by decide +kernel
theorem dJ6_bitCount_0f7a4_11 : decode cJ6_bitCount_0f7a4 11 = .ok (.ldc_w 266, 3) := by decide +kernel
theorem dJ6_bitCount_0f7a4_14 : decode cJ6_bitCount_0f7a4 14 = .ok (.iand, 1) := by decide +kernel
theorem dJ6_bitCount_0f7a4_15 : decode cJ6_bitCount_0f7a4 15 = .ok (.iload_n 0, 1) := by decide +kernel
theorem dJ6_bitCount_0f7a4_16 : decode cJ6_bitCount_0f7a4 16 = .ok (.iconst 2, 1) := by decide +kernel
theorem dJ6_bitCount_0f7a4_17 : decode cJ6_bitCount_0f7a4 17 = .ok (.iushr, 1) := by decide +kernel
theorem dJ6_bitCount_0f7a4_18 : decode cJ6_bitCount_0f7a4 18 = .ok (.ldc_w 266, 3) := by decide +kernel
theorem dJ6_bitCount_0f7a4_21 : decode cJ6_bitCount_0f7a4 21 = .ok (.iand, 1) := by decide +kernel
theorem dJ6_bitCount_0f7a4_22 : decode cJ6_bitCount_0f7a4 22 = .ok (.iadd, 1) := by decide +kernel
theorem dJ6_bitCount_0f7a4_23 : decode cJ6_bitCount_0f7a4 23 = .ok (.istore_n 0, 1) := by decide +kernel
theorem dJ6_bitCount_0f7a4_24 : decode cJ6_bitCount_0f7a4 24 = .ok (.iload_n 0, 1) := by decide +kernel
theorem dJ6_bitCount_0f7a4_25 : decode cJ6_bitCount_0f7a4 25 = .ok (.iload_n 0, 1) := by decide +kernel
theorem dJ6_bitCount_0f7a4_26 : decode cJ6_bitCount_0f7a4 26 = .ok (.iconst 4, 1) := by decide +kernel
theorem dJ6_bitCount_0f7a4_27 : decode cJ6_bitCount_0f7a4 27 = .ok (.iushr, 1) := by decide +kernel
theorem dJ6_bitCount_0f7a4_28 : decode cJ6_bitCount_0f7a4 28 = .ok (.iadd, 1) := by decide +kernel
theorem dJ6_bitCount_0f7a4_29 : decode cJ6_bitCount_0f7a4 29 = .ok (.ldc_w 267, 3) := by decide +kernel
theorem dJ6_bitCount_0f7a4_32 : decode cJ6_bitCount_0f7a4 32 = .ok (.iand, 1) := by decide +kernel
theorem dJ6_bitCount_0f7a4_33 : decode cJ6_bitCount_0f7a4 33 = .ok (.istore_n 0, 1) := by decide +kernel
theorem dJ6_bitCount_0f7a4_34 : decode cJ6_bitCount_0f7a4 34 = .ok (.iload_n 0, 1) := by decide +kernel
theorem dJ6_bitCount_0f7a4_35 : decode cJ6_bitCount_0f7a4 35 = .ok (.iload_n 0, 1) := by decide +kernel
theorem dJ6_bitCount_0f7a4_36 : decode cJ6_bitCount_0f7a4 36 = .ok (.bipush 8, 2) := by decide +kernel
theorem dJ6_bitCount_0f7a4_38 : decode cJ6_bitCount_0f7a4 38 = .ok (.iushr, 1) := by decide +kernel
theorem dJ6_bitCount_0f7a4_39 : decode cJ6_bitCount_0f7a4 39 = .ok (.iadd, 1) := by decide +kernel
theorem dJ6_bitCount_0f7a4_40 : decode cJ6_bitCount_0f7a4 40 = .ok (.istore_n 0, 1) := by decide +kernel
theorem dJ6_bitCount_0f7a4_41 : decode cJ6_bitCount_0f7a4 41 = .ok (.iload_n 0, 1) := by decide +kernel
theorem dJ6_bitCount_0f7a4_42 : decode cJ6_bitCount_0f7a4 42 = .ok (.iload_n 0, 1) := by decide +kernel
theorem dJ6_bitCount_0f7a4_43 : decode cJ6_bitCount_0f7a4 43 = .ok (.bipush 16, 2) := by decide +kernel
theorem dJ6_bitCount_0f7a4_45 : decode cJ6_bitCount_0f7a4 45 = .ok (.iushr, 1) := by decide +kernel
theorem dJ6_bitCount_0f7a4_46 : decode cJ6_bitCount_0f7a4 46 = .ok (.iadd, 1) := by decide +kernel
theorem dJ6_bitCount_0f7a4_47 : decode cJ6_bitCount_0f7a4 47 = .ok (.istore_n 0, 1) := by decide +kernel
theorem dJ6_bitCount_0f7a4_48 : decode cJ6_bitCount_0f7a4 48 = .ok (.iload_n 0, 1) := by decide +kernel
theorem dJ6_bitCount_0f7a4_49 : decode cJ6_bitCount_0f7a4 49 = .ok (.bipush 63, 2) := by decide +kernel
theorem dJ6_bitCount_0f7a4_51 : decode cJ6_bitCount_0f7a4 51 = .ok (.iand, 1) := by decide +kernel
theorem dJ6_bitCount_0f7a4_52 : decode cJ6_bitCount_0f7a4 52 = .ok (.ireturn, 1) := by decide +kernel
theorem dJ9_floorMod_7cf53_0 : decode cJ9_floorMod_7cf53 0 = .ok (.iload_n 0, 1) := by decide +kernel
theorem dJ9_floorMod_7cf53_1 : decode cJ9_floorMod_7cf53 1 = .ok (.iload_n 1, 1) := by decide +kernel
theorem dJ9_floorMod_7cf53_2 : decode cJ9_floorMod_7cf53 2 = .ok (.irem, 1) := by decide +kernel
theorem dJ9_floorMod_7cf53_3 : decode cJ9_floorMod_7cf53 3 = .ok (.istore_n 2, 1) := by decide +kernel
theorem dJ9_floorMod_7cf53_4 : decode cJ9_floorMod_7cf53 4 = .ok (.iload_n 0, 1) := by decide +kernel
theorem dJ9_floorMod_7cf53_5 : decode cJ9_floorMod_7cf53 5 = .ok (.iload_n 1, 1) := by decide +kernel
theorem dJ9_floorMod_7cf53_6 : decode cJ9_floorMod_7cf53 6 = .ok (.ixor, 1) := by decide +kernel
theorem dJ9_floorMod_7cf53_7 : decode cJ9_floorMod_7cf53 7 = .ok (.ifCond .ge 11, 3) := by decide +kernel
theorem dJ9_floorMod_7cf53_10 : decode cJ9_floorMod_7cf53 10 = .ok (.iload_n 2, 1) := by decide +kernel
theorem dJ9_floorMod_7cf53_11 : decode cJ9_floorMod_7cf53 11 = .ok (.ifCond .eq 7, 3) := by decide +kernel
theorem dJ9_floorMod_7cf53_14 : decode cJ9_floorMod_7cf53 14 = .ok (.iload_n 2, 1) := by decide +kernel
theorem dJ9_floorMod_7cf53_15 : decode cJ9_floorMod_7cf53 15 = .ok (.iload_n 1, 1) := by decide +kernel
theorem dJ9_floorMod_7cf53_16 : decode cJ9_floorMod_7cf53 16 = .ok (.iadd, 1) := by decide +kernel
theorem dJ9_floorMod_7cf53_17 : decode cJ9_floorMod_7cf53 17 = .ok (.ireturn, 1) := by decide +kernel
theorem dJ9_floorMod_7cf53_18 : decode cJ9_floorMod_7cf53 18 = .ok (.iload_n 2, 1) := by decide +kernel
theorem dJ9_floorMod_7cf53_19 : decode cJ9_floorMod_7cf53 19 = .ok (.ireturn, 1) := by decide +kernel
theorem dJ9_max_7cf53_0 : decode cJ9_max_7cf53 0 = .ok (.iload_n 0, 1) := by decide +kernel
theorem dJ9_max_7cf53_1 : decode cJ9_max_7cf53 1 = .ok (.iload_n 1, 1) := by decide +kernel
theorem dJ9_max_7cf53_2 : decode cJ9_max_7cf53 2 = .ok (.if_icmp .lt 7, 3) := by decide +kernel
theorem dJ9_max_7cf53_5 : decode cJ9_max_7cf53 5 = .ok (.iload_n 0, 1) := by decide +kernel
theorem dJ9_max_7cf53_6 : decode cJ9_max_7cf53 6 = .ok (.goto 4, 3) := by decide +kernel
theorem dJ9_max_7cf53_9 : decode cJ9_max_7cf53 9 = .ok (.iload_n 1, 1) := by decide +kernel
theorem dJ9_max_7cf53_10 : decode cJ9_max_7cf53 10 = .ok (.ireturn, 1) := by decide +kernel
theorem dJ9_min_7cf53_0 : decode cJ9_min_7cf53 0 = .ok (.iload_n 0, 1) := by decide +kernel
theorem dJ9_min_7cf53_1 : decode cJ9_min_7cf53 1 = .ok (.iload_n 1, 1) := by decide +kernel
theorem dJ9_min_7cf53_2 : decode cJ9_min_7cf53 2 = .ok (.if_icmp .gt 7, 3) := by decide +kernel
theorem dJ9_min_7cf53_5 : decode cJ9_min_7cf53 5 = .ok (.iload_n 0, 1) := by decide +kernel
theorem dJ9_min_7cf53_6 : decode cJ9_min_7cf53 6 = .ok (.goto 4, 3) := by decide +kernel
theorem dJ9_min_7cf53_9 : decode cJ9_min_7cf53 9 = .ok (.iload_n 1, 1) := by decide +kernel
theorem dJ9_min_7cf53_10 : decode cJ9_min_7cf53 10 = .ok (.ireturn, 1) := by decide +kernel
theorem dJ0_length_8abf5_0 : decode cJ0_length_8abf5 0 = .ok (.aload_n 0, 1) := by decide +kernel
theorem dJ0_length_8abf5_1 : decode cJ0_length_8abf5 1 = .ok (.getfield 9, 3) := by decide +kernel
theorem dJ0_length_8abf5_4 : decode cJ0_length_8abf5 4 = .ok (.arraylength, 1) := by decide +kernel
theorem dJ0_length_8abf5_5 : decode cJ0_length_8abf5 5 = .ok (.aload_n 0, 1) := by decide +kernel
theorem dJ0_length_8abf5_6 : decode cJ0_length_8abf5 6 = .ok (.invokevirtual 335, 3) := by decide +kernel
theorem dJ0_length_8abf5_9 : decode cJ0_length_8abf5 9 = .ok (.ishr, 1) := by decide +kernel
theorem dJ0_length_8abf5_10 : decode cJ0_length_8abf5 10 = .ok (.ireturn, 1) := by decide +kernel
theorem dJ0_charAt_5068e_0 : decode cJ0_charAt_5068e 0 = .ok (.aload_n 0, 1) := by decide +kernel
theorem dJ0_charAt_5068e_1 : decode cJ0_charAt_5068e 1 = .ok (.invokevirtual 492, 3) := by decide +kernel
theorem dJ0_charAt_5068e_4 : decode cJ0_charAt_5068e 4 = .ok (.ifCond .eq 12, 3) := by decide +kernel
theorem dJ0_charAt_5068e_7 : decode cJ0_charAt_5068e 7 = .ok (.aload_n 0, 1) := by decide +kernel
theorem dJ0_charAt_5068e_8 : decode cJ0_charAt_5068e 8 = .ok (.getfield 9, 3) := by decide +kernel
theorem dJ0_charAt_5068e_11 : decode cJ0_charAt_5068e 11 = .ok (.iload_n 1, 1) := by decide +kernel
theorem dJ0_charAt_5068e_12 : decode cJ0_charAt_5068e 12 = .ok (.invokestatic 495, 3) := by decide +kernel
theorem dJ0_charAt_5068e_15 : decode cJ0_charAt_5068e 15 = .ok (.ireturn, 1) := by decide +kernel
theorem dJ0_charAt_5068e_16 : decode cJ0_charAt_5068e 16 = .ok (.aload_n 0, 1) := by decide +kernel
theorem dJ0_charAt_5068e_17 : decode cJ0_charAt_5068e 17 = .ok (.getfield 9, 3) := by decide +kernel
theorem dJ0_charAt_5068e_20 : decode cJ0_charAt_5068e 20 = .ok (.iload_n 1, 1) := by decide +kernel
theorem dJ0_charAt_5068e_21 : decode cJ0_charAt_5068e 21 = .ok (.invokestatic 498, 3) := by decide +kernel
theorem dJ0_charAt_5068e_24 : decode cJ0_charAt_5068e 24 = .ok (.ireturn, 1) := by decide +kernel
theorem dJ0_coder_7d493_0 : decode cJ0_coder_7d493 0 = .ok (.getstatic 38, 3) := by decide +kernel
theorem dJ0_coder_7d493_3 : decode cJ0_coder_7d493 3 = .ok (.ifCond .eq 10, 3) := by decide +kernel
theorem dJ0_coder_7d493_6 : decode cJ0_coder_7d493 6 = .ok (.aload_n 0, 1) := by decide +kernel
theorem dJ0_coder_7d493_7 : decode cJ0_coder_7d493 7 = .ok (.getfield 15, 3) := by decide +kernel
theorem dJ0_coder_7d493_10 : decode cJ0_coder_7d493 10 = .ok (.goto 4, 3) := by decide +kernel
theorem dJ0_coder_7d493_13 : decode cJ0_coder_7d493 13 = .ok (.iconst 1, 1) := by decide +kernel
theorem dJ0_coder_7d493_14 : decode cJ0_coder_7d493 14 = .ok (.ireturn, 1) := by decide +kernel
theorem dJ0_isLatin1_aae02_0 : decode cJ0_isLatin1_aae02 0 = .ok (.getstatic 38, 3) := by decide +kernel
theorem dJ0_isLatin1_aae02_3 : decode cJ0_isLatin1_aae02 3 = .ok (.ifCond .eq 14, 3) := by decide +kernel
theorem dJ0_isLatin1_aae02_6 : decode cJ0_isLatin1_aae02 6 = .ok (.aload_n 0, 1) := by decide +kernel
theorem dJ0_isLatin1_aae02_7 : decode cJ0_isLatin1_aae02 7 = .ok (.getfield 15, 3) := by decide +kernel
theorem dJ0_isLatin1_aae02_10 : decode cJ0_isLatin1_aae02 10 = .ok (.ifCond .ne 7, 3) := by decide +kernel
theorem dJ0_isLatin1_aae02_13 : decode cJ0_isLatin1_aae02 13 = .ok (.iconst 1, 1) := by decide +kernel
theorem dJ0_isLatin1_aae02_14 : decode cJ0_isLatin1_aae02 14 = .ok (.goto 4, 3) := by decide +kernel
theorem dJ0_isLatin1_aae02_17 : decode cJ0_isLatin1_aae02 17 = .ok (.iconst 0, 1) := by decide +kernel
theorem dJ0_isLatin1_aae02_18 : decode cJ0_isLatin1_aae02 18 = .ok (.ireturn, 1) := by decide +kernel
theorem dJ0_checkIndex_df160_0 : decode cJ0_checkIndex_df160 0 = .ok (.iload_n 0, 1) := by decide +kernel
theorem dJ0_checkIndex_df160_1 : decode cJ0_checkIndex_df160 1 = .ok (.iload_n 1, 1) := by decide +kernel
theorem dJ0_checkIndex_df160_2 : decode cJ0_checkIndex_df160 2 = .ok (.getstatic 1053, 3) := by decide +kernel
theorem dJ0_checkIndex_df160_5 : decode cJ0_checkIndex_df160 5 = .ok (.invokestatic 1059, 3) := by decide +kernel
theorem dJ0_checkIndex_df160_8 : decode cJ0_checkIndex_df160 8 = .ok (.pop, 1) := by decide +kernel
theorem dJ0_checkIndex_df160_9 : decode cJ0_checkIndex_df160 9 = .ok (.return_, 1) := by decide +kernel
theorem dJ1_charAt_3b067_0 : decode cJ1_charAt_3b067 0 = .ok (.iload_n 1, 1) := by decide +kernel
theorem dJ1_charAt_3b067_1 : decode cJ1_charAt_3b067 1 = .ok (.aload_n 0, 1) := by decide +kernel
theorem dJ1_charAt_3b067_2 : decode cJ1_charAt_3b067 2 = .ok (.arraylength, 1) := by decide +kernel
theorem dJ1_charAt_3b067_3 : decode cJ1_charAt_3b067 3 = .ok (.invokestatic 9, 3) := by decide +kernel
theorem dJ1_charAt_3b067_6 : decode cJ1_charAt_3b067 6 = .ok (.aload_n 0, 1) := by decide +kernel
theorem dJ1_charAt_3b067_7 : decode cJ1_charAt_3b067 7 = .ok (.iload_n 1, 1) := by decide +kernel
theorem dJ1_charAt_3b067_8 : decode cJ1_charAt_3b067 8 = .ok (.baload, 1) := by decide +kernel
theorem dJ1_charAt_3b067_9 : decode cJ1_charAt_3b067 9 = .ok (.sipush 255, 3) := by decide +kernel
theorem dJ1_charAt_3b067_12 : decode cJ1_charAt_3b067 12 = .ok (.iand, 1) := by decide +kernel
theorem dJ1_charAt_3b067_13 : decode cJ1_charAt_3b067 13 = .ok (.i2c, 1) := by decide +kernel
theorem dJ1_charAt_3b067_14 : decode cJ1_charAt_3b067 14 = .ok (.ireturn, 1) := by decide +kernel
theorem dJ2_getChar_3b067_0 : decode cJ2_getChar_3b067 0 = .ok (.getstatic 44, 3) := by decide +kernel
theorem dJ2_getChar_3b067_3 : decode cJ2_getChar_3b067 3 = .ok (.ifCond .ne 25, 3) := by decide +kernel
theorem dJ2_getChar_3b067_6 : decode cJ2_getChar_3b067 6 = .ok (.iload_n 1, 1) := by decide +kernel
theorem dJ2_getChar_3b067_7 : decode cJ2_getChar_3b067 7 = .ok (.ifCond .lt 11, 3) := by decide +kernel
theorem dJ2_getChar_3b067_10 : decode cJ2_getChar_3b067 10 = .ok (.iload_n 1, 1) := by decide +kernel
theorem dJ2_getChar_3b067_11 : decode cJ2_getChar_3b067 11 = .ok (.aload_n 0, 1) := by decide +kernel
theorem dJ2_getChar_3b067_12 : decode cJ2_getChar_3b067 12 = .ok (.invokestatic 48, 3) := by decide +kernel
theorem dJ2_getChar_3b067_15 : decode cJ2_getChar_3b067 15 = .ok (.if_icmp .lt 13, 3) := by decide +kernel
theorem dJ2_getChar_3b067_18 : decode cJ2_getChar_3b067 18 = .ok (.new 52, 3) := by decide +kernel
theorem dJ2_getChar_3b067_21 : decode cJ2_getChar_3b067 21 = .ok (.dup, 1) := by decide +kernel
theorem dJ2_getChar_3b067_22 : decode cJ2_getChar_3b067 22 = .ok (.ldc 54, 2) := by decide +kernel
theorem dJ2_getChar_3b067_24 : decode cJ2_getChar_3b067 24 = .ok (.invokespecial 56, 3) := by decide +kernel
theorem dJ2_getChar_3b067_27 : decode cJ2_getChar_3b067 27 = .ok (.athrow, 1) := by decide +kernel
theorem dJ2_getChar_3b067_28 : decode cJ2_getChar_3b067 28 = .ok (.iload_n 1, 1) := by decide +kernel
theorem dJ2_getChar_3b067_29 : decode cJ2_getChar_3b067 29 = .ok (.iconst 1, 1) := by decide +kernel
theorem dJ2_getChar_3b067_30 : decode cJ2_getChar_3b067 30 = .ok (.ishl, 1) := by decide +kernel
theorem dJ2_getChar_3b067_31 : decode cJ2_getChar_3b067 31 = .ok (.istore_n 1, 1) := by decide +kernel
theorem dJ2_getChar_3b067_32 : decode cJ2_getChar_3b067 32 = .ok (.aload_n 0, 1) := by decide +kernel
theorem dJ2_getChar_3b067_33 : decode cJ2_getChar_3b067 33 = .ok (.iload_n 1, 1) := by decide +kernel
theorem dJ2_getChar_3b067_34 : decode cJ2_getChar_3b067 34 = .ok (.iinc 1 1, 3) := by decide +kernel
theorem dJ2_getChar_3b067_37 : decode cJ2_getChar_3b067 37 = .ok (.baload, 1) := by decide +kernel
theorem dJ2_getChar_3b067_38 : decode cJ2_getChar_3b067 38 = .ok (.sipush 255, 3) := by decide +kernel
theorem dJ2_getChar_3b067_41 : decode cJ2_getChar_3b067 41 = .ok (.iand, 1) := by decide +kernel
theorem dJ2_getChar_3b067_42 : decode cJ2_getChar_3b067 42 = .ok (.getstatic 59, 3) := by decide +kernel
theorem dJ2_getChar_3b067_45 : decode cJ2_getChar_3b067 45 = .ok (.ishl, 1) := by decide +kernel
theorem dJ2_getChar_3b067_46 : decode cJ2_getChar_3b067 46 = .ok (.aload_n 0, 1) := by decide +kernel
theorem dJ2_getChar_3b067_47 : decode cJ2_getChar_3b067 47 = .ok (.iload_n 1, 1) := by decide +kernel
theorem dJ2_getChar_3b067_48 : decode cJ2_getChar_3b067 48 = .ok (.baload, 1) := by decide +kernel
theorem dJ2_getChar_3b067_49 : decode cJ2_getChar_3b067 49 = .ok (.sipush 255, 3) := by decide +kernel
theorem dJ2_getChar_3b067_52 : decode cJ2_getChar_3b067 52 = .ok (.iand, 1) := by decide +kernel
theorem dJ2_getChar_3b067_53 : decode cJ2_getChar_3b067 53 = .ok (.getstatic 63, 3) := by decide +kernel
theorem dJ2_getChar_3b067_56 : decode cJ2_getChar_3b067 56 = .ok (.ishl, 1) := by decide +kernel
theorem dJ2_getChar_3b067_57 : decode cJ2_getChar_3b067 57 = .ok (.ior, 1) := by decide +kernel
theorem dJ2_getChar_3b067_58 : decode cJ2_getChar_3b067 58 = .ok (.i2c, 1) := by decide +kernel
theorem dJ2_getChar_3b067_59 : decode cJ2_getChar_3b067 59 = .ok (.ireturn, 1) := by decide +kernel
theorem dJ2_length_9d52b_0 : decode cJ2_length_9d52b 0 = .ok (.aload_n 0, 1) := by decide +kernel
theorem dJ2_length_9d52b_1 : decode cJ2_length_9d52b 1 = .ok (.arraylength, 1) := by decide +kernel
theorem dJ2_length_9d52b_2 : decode cJ2_length_9d52b 2 = .ok (.iconst 1, 1) := by decide +kernel
theorem dJ2_length_9d52b_3 : decode cJ2_length_9d52b 3 = .ok (.ishr, 1) := by decide +kernel
theorem dJ2_length_9d52b_4 : decode cJ2_length_9d52b 4 = .ok (.ireturn, 1) := by decide +kernel
theorem dJ2_charAt_3b067_0 : decode cJ2_charAt_3b067 0 = .ok (.iload_n 1, 1) := by decide +kernel
theorem dJ2_charAt_3b067_1 : decode cJ2_charAt_3b067 1 = .ok (.aload_n 0, 1) := by decide +kernel
theorem dJ2_charAt_3b067_2 : decode cJ2_charAt_3b067 2 = .ok (.invokestatic 67, 3) := by decide +kernel
theorem dJ2_charAt_3b067_5 : decode cJ2_charAt_3b067 5 = .ok (.aload_n 0, 1) := by decide +kernel
theorem dJ2_charAt_3b067_6 : decode cJ2_charAt_3b067 6 = .ok (.iload_n 1, 1) := by decide +kernel
theorem dJ2_charAt_3b067_7 : decode cJ2_charAt_3b067 7 = .ok (.invokestatic 71, 3) := by decide +kernel
theorem dJ2_charAt_3b067_10 : decode cJ2_charAt_3b067 10 = .ok (.ireturn, 1) := by decide +kernel
theorem dJ2_checkIndex_2214a_0 : decode cJ2_checkIndex_2214a 0 = .ok (.iload_n 0, 1) := by decide +kernel
theorem dJ2_checkIndex_2214a_1 : decode cJ2_checkIndex_2214a 1 = .ok (.aload_n 1, 1) := by decide +kernel
theorem dJ2_checkIndex_2214a_2 : decode cJ2_checkIndex_2214a 2 = .ok (.invokestatic 48, 3) := by decide +kernel
theorem dJ2_checkIndex_2214a_5 : decode cJ2_checkIndex_2214a 5 = .ok (.invokestatic 414, 3) := by decide +kernel
theorem dJ2_checkIndex_2214a_8 : decode cJ2_checkIndex_2214a 8 = .ok (.return_, 1) := by decide +kernel
theorem dJ7_fill_53178_0 : decode cJ7_fill_53178 0 = .ok (.iconst 0, 1) := by decide +kernel
theorem dJ7_fill_53178_1 : decode cJ7_fill_53178 1 = .ok (.istore_n 2, 1) := by decide +kernel
theorem dJ7_fill_53178_2 : decode cJ7_fill_53178 2 = .ok (.aload_n 0, 1) := by decide +kernel
theorem dJ7_fill_53178_3 : decode cJ7_fill_53178 3 = .ok (.arraylength, 1) := by decide +kernel
theorem dJ7_fill_53178_4 : decode cJ7_fill_53178 4 = .ok (.istore_n 3, 1) := by decide +kernel
theorem dJ7_fill_53178_5 : decode cJ7_fill_53178 5 = .ok (.iload_n 2, 1) := by decide +kernel
theorem dJ7_fill_53178_6 : decode cJ7_fill_53178 6 = .ok (.iload_n 3, 1) := by decide +kernel
theorem dJ7_fill_53178_7 : decode cJ7_fill_53178 7 = .ok (.if_icmp .ge 13, 3) := by decide +kernel
theorem dJ7_fill_53178_10 : decode cJ7_fill_53178 10 = .ok (.aload_n 0, 1) := by decide +kernel
theorem dJ7_fill_53178_11 : decode cJ7_fill_53178 11 = .ok (.iload_n 2, 1) := by decide +kernel
theorem dJ7_fill_53178_12 : decode cJ7_fill_53178 12 = .ok (.iload_n 1, 1) := by decide +kernel
theorem dJ7_fill_53178_13 : decode cJ7_fill_53178 13 = .ok (.iastore, 1) := by decide +kernel
theorem dJ7_fill_53178_14 : decode cJ7_fill_53178 14 = .ok (.iinc 2 1, 3) := by decide +kernel
theorem dJ7_fill_53178_17 : decode cJ7_fill_53178 17 = .ok (.goto (-12), 3) := by decide +kernel
theorem dJ7_fill_53178_20 : decode cJ7_fill_53178 20 = .ok (.return_, 1) := by decide +kernel
theorem dJ3_checkIndex_8e157_0 : decode cJ3_checkIndex_8e157 0 = .ok (.iload_n 0, 1) := by decide +kernel
theorem dJ3_checkIndex_8e157_1 : decode cJ3_checkIndex_8e157 1 = .ok (.ifCond .lt 8, 3) := by decide +kernel
theorem dJ3_checkIndex_8e157_4 : decode cJ3_checkIndex_8e157 4 = .ok (.iload_n 0, 1) := by decide +kernel
theorem dJ3_checkIndex_8e157_5 : decode cJ3_checkIndex_8e157 5 = .ok (.iload_n 1, 1) := by decide +kernel
theorem dJ3_checkIndex_8e157_6 : decode cJ3_checkIndex_8e157 6 = .ok (.if_icmp .lt 10, 3) := by decide +kernel
theorem dJ3_checkIndex_8e157_9 : decode cJ3_checkIndex_8e157 9 = .ok (.aload_n 2, 1) := by decide +kernel
theorem dJ3_checkIndex_8e157_10 : decode cJ3_checkIndex_8e157 10 = .ok (.iload_n 0, 1) := by decide +kernel
theorem dJ3_checkIndex_8e157_11 : decode cJ3_checkIndex_8e157 11 = .ok (.iload_n 1, 1) := by decide +kernel
theorem dJ3_checkIndex_8e157_12 : decode cJ3_checkIndex_8e157 12 = .ok (.invokestatic 95, 3) := by decide +kernel
theorem dJ3_checkIndex_8e157_15 : decode cJ3_checkIndex_8e157 15 = .ok (.athrow, 1) := by decide +kernel
theorem dJ3_checkIndex_8e157_16 : decode cJ3_checkIndex_8e157 16 = .ok (.iload_n 0, 1) := by decide +kernel
theorem dJ3_checkIndex_8e157_17 : decode cJ3_checkIndex_8e157 17 = .ok (.ireturn, 1) := by decide +kernel
theorem dL_law_0 : decode cL_law 0 = .ok (.new 7, 3) := by decide +kernel
theorem dL_law_3 : decode cL_law 3 = .ok (.dup, 1) := by decide +kernel
theorem dL_law_4 : decode cL_law 4 = .ok (.invokespecial 9, 3) := by decide +kernel
theorem dL_law_7 : decode cL_law 7 = .ok (.astore_n 1, 1) := by decide +kernel
theorem dL_law_8 : decode cL_law 8 = .ok (.new 10, 3) := by decide +kernel
theorem dL_law_11 : decode cL_law 11 = .ok (.dup, 1) := by decide +kernel
theorem dL_law_12 : decode cL_law 12 = .ok (.invokespecial 12, 3) := by decide +kernel
theorem dL_law_15 : decode cL_law 15 = .ok (.astore_n 2, 1) := by decide +kernel
theorem dL_law_16 : decode cL_law 16 = .ok (.iconst 0, 1) := by decide +kernel
theorem dL_law_17 : decode cL_law 17 = .ok (.istore_n 3, 1) := by decide +kernel
theorem dL_law_18 : decode cL_law 18 = .ok (.iload_n 3, 1) := by decide +kernel
theorem dL_law_19 : decode cL_law 19 = .ok (.aload_n 0, 1) := by decide +kernel
theorem dL_law_20 : decode cL_law 20 = .ok (.arraylength, 1) := by decide +kernel
theorem dL_law_21 : decode cL_law 21 = .ok (.iconst 5, 1) := by decide +kernel
theorem dL_law_22 : decode cL_law 22 = .ok (.isub, 1) := by decide +kernel
theorem dL_law_23 : decode cL_law 23 = .ok (.if_icmp .gt 738, 3) := by decide +kernel
theorem dL_law_26 : decode cL_law 26 = .ok (.aload_n 0, 1) := by decide +kernel
theorem dL_law_27 : decode cL_law 27 = .ok (.iload_n 3, 1) := by decide +kernel
theorem dL_law_28 : decode cL_law 28 = .ok (.iaload, 1) := by decide +kernel
theorem dL_law_29 : decode cL_law 29 = .ok (.bipush 31, 2) := by decide +kernel
theorem dL_law_31 : decode cL_law 31 = .ok (.iand, 1) := by decide +kernel
theorem dL_law_32 : decode cL_law 32 = .ok (.tableswitch 723 0 20 #[100, 123, 136, 149, 162, 195, 228, 271, 304, 337, 370, 403, 426, 469, 482, 515, 568, 611, 634, 677, 700], 100) := by decide +kernel
theorem dL_law_132 : decode cL_law 132 = .ok (.aload_n 1, 1) := by decide +kernel
theorem dL_law_133 : decode cL_law 133 = .ok (.aload_n 0, 1) := by decide +kernel
theorem dL_law_134 : decode cL_law 134 = .ok (.iload_n 3, 1) := by decide +kernel
theorem dL_law_135 : decode cL_law 135 = .ok (.iconst 1, 1) := by decide +kernel
theorem dL_law_136 : decode cL_law 136 = .ok (.iadd, 1) := by decide +kernel
theorem dL_law_137 : decode cL_law 137 = .ok (.iaload, 1) := by decide +kernel
theorem dL_law_138 : decode cL_law 138 = .ok (.invokevirtual 13, 3) := by decide +kernel
theorem dL_law_141 : decode cL_law 141 = .ok (.aload_n 2, 1) := by decide +kernel
theorem dL_law_142 : decode cL_law 142 = .ok (.aload_n 0, 1) := by decide +kernel
theorem dL_law_143 : decode cL_law 143 = .ok (.iload_n 3, 1) := by decide +kernel
theorem dL_law_144 : decode cL_law 144 = .ok (.iconst 1, 1) := by decide +kernel
theorem dL_law_145 : decode cL_law 145 = .ok (.iadd, 1) := by decide +kernel
theorem dL_law_146 : decode cL_law 146 = .ok (.iaload, 1) := by decide +kernel
theorem dL_law_147 : decode cL_law 147 = .ok (.invokevirtual 17, 3) := by decide +kernel
theorem dL_law_150 : decode cL_law 150 = .ok (.if_icmp .eq 605, 3) := by decide +kernel
theorem dL_law_153 : decode cL_law 153 = .ok (.iconst 0, 1) := by decide +kernel
theorem dL_law_154 : decode cL_law 154 = .ok (.ireturn, 1) := by decide +kernel
theorem dL_law_155 : decode cL_law 155 = .ok (.aload_n 1, 1) := by decide +kernel
theorem dL_law_156 : decode cL_law 156 = .ok (.invokevirtual 18, 3) := by decide +kernel
theorem dL_law_159 : decode cL_law 159 = .ok (.aload_n 2, 1) := by decide +kernel
theorem dL_law_160 : decode cL_law 160 = .ok (.invokevirtual 22, 3) := by decide +kernel
theorem dL_law_163 : decode cL_law 163 = .ok (.if_icmp .eq 592, 3) := by decide +kernel
theorem dL_law_166 : decode cL_law 166 = .ok (.iconst 0, 1) := by decide +kernel
theorem dL_law_167 : decode cL_law 167 = .ok (.ireturn, 1) := by decide +kernel
theorem dL_law_168 : decode cL_law 168 = .ok (.aload_n 1, 1) := by decide +kernel
theorem dL_law_169 : decode cL_law 169 = .ok (.invokevirtual 23, 3) := by decide +kernel
theorem dL_law_172 : decode cL_law 172 = .ok (.aload_n 2, 1) := by decide +kernel
theorem dL_law_173 : decode cL_law 173 = .ok (.invokevirtual 26, 3) := by decide +kernel
theorem dL_law_176 : decode cL_law 176 = .ok (.if_icmp .eq 579, 3) := by decide +kernel
theorem dL_law_179 : decode cL_law 179 = .ok (.iconst 0, 1) := by decide +kernel
theorem dL_law_180 : decode cL_law 180 = .ok (.ireturn, 1) := by decide +kernel
theorem dL_law_181 : decode cL_law 181 = .ok (.aload_n 1, 1) := by decide +kernel
theorem dL_law_182 : decode cL_law 182 = .ok (.invokevirtual 27, 3) := by decide +kernel
theorem dL_law_185 : decode cL_law 185 = .ok (.aload_n 2, 1) := by decide +kernel
theorem dL_law_186 : decode cL_law 186 = .ok (.invokevirtual 30, 3) := by decide +kernel
theorem dL_law_189 : decode cL_law 189 = .ok (.if_icmp .eq 566, 3) := by decide +kernel
theorem dL_law_192 : decode cL_law 192 = .ok (.iconst 0, 1) := by decide +kernel
theorem dL_law_193 : decode cL_law 193 = .ok (.ireturn, 1) := by decide +kernel
theorem dL_law_194 : decode cL_law 194 = .ok (.aload_n 1, 1) := by decide +kernel
theorem dL_law_195 : decode cL_law 195 = .ok (.aload_n 0, 1) := by decide +kernel
theorem dL_law_196 : decode cL_law 196 = .ok (.iload_n 3, 1) := by decide +kernel
theorem dL_law_197 : decode cL_law 197 = .ok (.iconst 1, 1) := by decide +kernel
theorem dL_law_198 : decode cL_law 198 = .ok (.iadd, 1) := by decide +kernel
theorem dL_law_199 : decode cL_law 199 = .ok (.iaload, 1) := by decide +kernel
theorem dL_law_200 : decode cL_law 200 = .ok (.aload_n 0, 1) := by decide +kernel
theorem dL_law_201 : decode cL_law 201 = .ok (.iload_n 3, 1) := by decide +kernel
theorem dL_law_202 : decode cL_law 202 = .ok (.iconst 2, 1) := by decide +kernel
theorem dL_law_203 : decode cL_law 203 = .ok (.iadd, 1) := by decide +kernel
theorem dL_law_204 : decode cL_law 204 = .ok (.iaload, 1) := by decide +kernel
theorem dL_law_205 : decode cL_law 205 = .ok (.invokevirtual 31, 3) := by decide +kernel
theorem dL_law_208 : decode cL_law 208 = .ok (.aload_n 2, 1) := by decide +kernel
theorem dL_law_209 : decode cL_law 209 = .ok (.aload_n 0, 1) := by decide +kernel
theorem dL_law_210 : decode cL_law 210 = .ok (.iload_n 3, 1) := by decide +kernel
theorem dL_law_211 : decode cL_law 211 = .ok (.iconst 1, 1) := by decide +kernel
theorem dL_law_212 : decode cL_law 212 = .ok (.iadd, 1) := by decide +kernel
theorem dL_law_213 : decode cL_law 213 = .ok (.iaload, 1) := by decide +kernel
theorem dL_law_214 : decode cL_law 214 = .ok (.aload_n 0, 1) := by decide +kernel
theorem dL_law_215 : decode cL_law 215 = .ok (.iload_n 3, 1) := by decide +kernel
theorem dL_law_216 : decode cL_law 216 = .ok (.iconst 2, 1) := by decide +kernel
theorem dL_law_217 : decode cL_law 217 = .ok (.iadd, 1) := by decide +kernel
theorem dL_law_218 : decode cL_law 218 = .ok (.iaload, 1) := by decide +kernel
theorem dL_law_219 : decode cL_law 219 = .ok (.invokevirtual 35, 3) := by decide +kernel
theorem dL_law_222 : decode cL_law 222 = .ok (.if_icmp .eq 533, 3) := by decide +kernel
theorem dL_law_225 : decode cL_law 225 = .ok (.iconst 0, 1) := by decide +kernel
theorem dL_law_226 : decode cL_law 226 = .ok (.ireturn, 1) := by decide +kernel
theorem dL_law_227 : decode cL_law 227 = .ok (.aload_n 1, 1) := by decide +kernel
theorem dL_law_228 : decode cL_law 228 = .ok (.aload_n 0, 1) := by decide +kernel
theorem dL_law_229 : decode cL_law 229 = .ok (.iload_n 3, 1) := by decide +kernel
theorem dL_law_230 : decode cL_law 230 = .ok (.iconst 1, 1) := by decide +kernel
theorem dL_law_231 : decode cL_law 231 = .ok (.iadd, 1) := by decide +kernel
theorem dL_law_232 : decode cL_law 232 = .ok (.iaload, 1) := by decide +kernel
theorem dL_law_233 : decode cL_law 233 = .ok (.aload_n 0, 1) := by decide +kernel
theorem dL_law_234 : decode cL_law 234 = .ok (.iload_n 3, 1) := by decide +kernel
theorem dL_law_235 : decode cL_law 235 = .ok (.iconst 2, 1) := by decide +kernel
theorem dL_law_236 : decode cL_law 236 = .ok (.iadd, 1) := by decide +kernel
theorem dL_law_237 : decode cL_law 237 = .ok (.iaload, 1) := by decide +kernel
theorem dL_law_238 : decode cL_law 238 = .ok (.invokevirtual 36, 3) := by decide +kernel
theorem dL_law_241 : decode cL_law 241 = .ok (.aload_n 2, 1) := by decide +kernel
theorem dL_law_242 : decode cL_law 242 = .ok (.aload_n 0, 1) := by decide +kernel
theorem dL_law_243 : decode cL_law 243 = .ok (.iload_n 3, 1) := by decide +kernel
theorem dL_law_244 : decode cL_law 244 = .ok (.iconst 1, 1) := by decide +kernel
theorem dL_law_245 : decode cL_law 245 = .ok (.iadd, 1) := by decide +kernel
theorem dL_law_246 : decode cL_law 246 = .ok (.iaload, 1) := by decide +kernel
theorem dL_law_247 : decode cL_law 247 = .ok (.aload_n 0, 1) := by decide +kernel
theorem dL_law_248 : decode cL_law 248 = .ok (.iload_n 3, 1) := by decide +kernel
theorem dL_law_249 : decode cL_law 249 = .ok (.iconst 2, 1) := by decide +kernel
theorem dL_law_250 : decode cL_law 250 = .ok (.iadd, 1) := by decide +kernel
theorem dL_law_251 : decode cL_law 251 = .ok (.iaload, 1) := by decide +kernel
theorem dL_law_252 : decode cL_law 252 = .ok (.invokevirtual 39, 3) := by decide +kernel
theorem dL_law_255 : decode cL_law 255 = .ok (.if_icmp .eq 500, 3) := by decide +kernel
theorem dL_law_258 : decode cL_law 258 = .ok (.iconst 0, 1) := by decide +kernel
theorem dL_law_259 : decode cL_law 259 = .ok (.ireturn, 1) := by decide +kernel
theorem dL_law_260 : decode cL_law 260 = .ok (.aload_n 1, 1) := by decide +kernel
theorem dL_law_261 : decode cL_law 261 = .ok (.aload_n 0, 1) := by decide +kernel
theorem dL_law_262 : decode cL_law 262 = .ok (.iload_n 3, 1) := by decide +kernel
theorem dL_law_263 : decode cL_law 263 = .ok (.iconst 1, 1) := by decide +kernel
theorem dL_law_264 : decode cL_law 264 = .ok (.iadd, 1) := by decide +kernel
theorem dL_law_265 : decode cL_law 265 = .ok (.iaload, 1) := by decide +kernel
theorem dL_law_266 : decode cL_law 266 = .ok (.aload_n 0, 1) := by decide +kernel
theorem dL_law_267 : decode cL_law 267 = .ok (.iload_n 3, 1) := by decide +kernel
theorem dL_law_268 : decode cL_law 268 = .ok (.iconst 2, 1) := by decide +kernel
theorem dL_law_269 : decode cL_law 269 = .ok (.iadd, 1) := by decide +kernel
theorem dL_law_270 : decode cL_law 270 = .ok (.iaload, 1) := by decide +kernel
theorem dL_law_271 : decode cL_law 271 = .ok (.aload_n 0, 1) := by decide +kernel
theorem dL_law_272 : decode cL_law 272 = .ok (.iload_n 3, 1) := by decide +kernel
theorem dL_law_273 : decode cL_law 273 = .ok (.iconst 3, 1) := by decide +kernel
theorem dL_law_274 : decode cL_law 274 = .ok (.iadd, 1) := by decide +kernel
theorem dL_law_275 : decode cL_law 275 = .ok (.iaload, 1) := by decide +kernel
theorem dL_law_276 : decode cL_law 276 = .ok (.invokevirtual 40, 3) := by decide +kernel
theorem dL_law_279 : decode cL_law 279 = .ok (.aload_n 2, 1) := by decide +kernel
theorem dL_law_280 : decode cL_law 280 = .ok (.aload_n 0, 1) := by decide +kernel
theorem dL_law_281 : decode cL_law 281 = .ok (.iload_n 3, 1) := by decide +kernel
theorem dL_law_282 : decode cL_law 282 = .ok (.iconst 1, 1) := by decide +kernel
theorem dL_law_283 : decode cL_law 283 = .ok (.iadd, 1) := by decide +kernel
theorem dL_law_284 : decode cL_law 284 = .ok (.iaload, 1) := by decide +kernel
theorem dL_law_285 : decode cL_law 285 = .ok (.aload_n 0, 1) := by decide +kernel
theorem dL_law_286 : decode cL_law 286 = .ok (.iload_n 3, 1) := by decide +kernel
theorem dL_law_287 : decode cL_law 287 = .ok (.iconst 2, 1) := by decide +kernel
theorem dL_law_288 : decode cL_law 288 = .ok (.iadd, 1) := by decide +kernel
theorem dL_law_289 : decode cL_law 289 = .ok (.iaload, 1) := by decide +kernel
theorem dL_law_290 : decode cL_law 290 = .ok (.aload_n 0, 1) := by decide +kernel
theorem dL_law_291 : decode cL_law 291 = .ok (.iload_n 3, 1) := by decide +kernel
theorem dL_law_292 : decode cL_law 292 = .ok (.iconst 3, 1) := by decide +kernel
theorem dL_law_293 : decode cL_law 293 = .ok (.iadd, 1) := by decide +kernel
theorem dL_law_294 : decode cL_law 294 = .ok (.iaload, 1) := by decide +kernel
theorem dL_law_295 : decode cL_law 295 = .ok (.invokevirtual 44, 3) := by decide +kernel
theorem dL_law_298 : decode cL_law 298 = .ok (.if_icmp .eq 457, 3) := by decide +kernel
theorem dL_law_301 : decode cL_law 301 = .ok (.iconst 0, 1) := by decide +kernel
theorem dL_law_302 : decode cL_law 302 = .ok (.ireturn, 1) := by decide +kernel
theorem dL_law_303 : decode cL_law 303 = .ok (.aload_n 1, 1) := by decide +kernel
theorem dL_law_304 : decode cL_law 304 = .ok (.aload_n 0, 1) := by decide +kernel
theorem dL_law_305 : decode cL_law 305 = .ok (.iload_n 3, 1) := by decide +kernel
theorem dL_law_306 : decode cL_law 306 = .ok (.iconst 1, 1) := by decide +kernel
theorem dL_law_307 : decode cL_law 307 = .ok (.iadd, 1) := by decide +kernel
theorem dL_law_308 : decode cL_law 308 = .ok (.iaload, 1) := by decide +kernel
theorem dL_law_309 : decode cL_law 309 = .ok (.aload_n 0, 1) := by decide +kernel
theorem dL_law_310 : decode cL_law 310 = .ok (.iload_n 3, 1) := by decide +kernel
theorem dL_law_311 : decode cL_law 311 = .ok (.iconst 2, 1) := by decide +kernel
theorem dL_law_312 : decode cL_law 312 = .ok (.iadd, 1) := by decide +kernel
theorem dL_law_313 : decode cL_law 313 = .ok (.iaload, 1) := by decide +kernel
theorem dL_law_314 : decode cL_law 314 = .ok (.invokevirtual 45, 3) := by decide +kernel
theorem dL_law_317 : decode cL_law 317 = .ok (.aload_n 2, 1) := by decide +kernel
theorem dL_law_318 : decode cL_law 318 = .ok (.aload_n 0, 1) := by decide +kernel
theorem dL_law_319 : decode cL_law 319 = .ok (.iload_n 3, 1) := by decide +kernel
theorem dL_law_320 : decode cL_law 320 = .ok (.iconst 1, 1) := by decide +kernel
theorem dL_law_321 : decode cL_law 321 = .ok (.iadd, 1) := by decide +kernel
theorem dL_law_322 : decode cL_law 322 = .ok (.iaload, 1) := by decide +kernel
theorem dL_law_323 : decode cL_law 323 = .ok (.aload_n 0, 1) := by decide +kernel
theorem dL_law_324 : decode cL_law 324 = .ok (.iload_n 3, 1) := by decide +kernel
theorem dL_law_325 : decode cL_law 325 = .ok (.iconst 2, 1) := by decide +kernel
theorem dL_law_326 : decode cL_law 326 = .ok (.iadd, 1) := by decide +kernel
theorem dL_law_327 : decode cL_law 327 = .ok (.iaload, 1) := by decide +kernel
theorem dL_law_328 : decode cL_law 328 = .ok (.invokevirtual 48, 3) := by decide +kernel
theorem dL_law_331 : decode cL_law 331 = .ok (.if_icmp .eq 424, 3) := by decide +kernel
theorem dL_law_334 : decode cL_law 334 = .ok (.iconst 0, 1) := by decide +kernel
theorem dL_law_335 : decode cL_law 335 = .ok (.ireturn, 1) := by decide +kernel
theorem dL_law_336 : decode cL_law 336 = .ok (.aload_n 1, 1) := by decide +kernel
theorem dL_law_337 : decode cL_law 337 = .ok (.aload_n 0, 1) := by decide +kernel
theorem dL_law_338 : decode cL_law 338 = .ok (.iload_n 3, 1) := by decide +kernel
theorem dL_law_339 : decode cL_law 339 = .ok (.iconst 1, 1) := by decide +kernel
theorem dL_law_340 : decode cL_law 340 = .ok (.iadd, 1) := by decide +kernel
theorem dL_law_341 : decode cL_law 341 = .ok (.iaload, 1) := by decide +kernel
theorem dL_law_342 : decode cL_law 342 = .ok (.aload_n 0, 1) := by decide +kernel
theorem dL_law_343 : decode cL_law 343 = .ok (.iload_n 3, 1) := by decide +kernel
theorem dL_law_344 : decode cL_law 344 = .ok (.iconst 2, 1) := by decide +kernel
theorem dL_law_345 : decode cL_law 345 = .ok (.iadd, 1) := by decide +kernel
theorem dL_law_346 : decode cL_law 346 = .ok (.iaload, 1) := by decide +kernel
theorem dL_law_347 : decode cL_law 347 = .ok (.invokevirtual 49, 3) := by decide +kernel
theorem dL_law_350 : decode cL_law 350 = .ok (.aload_n 2, 1) := by decide +kernel
theorem dL_law_351 : decode cL_law 351 = .ok (.aload_n 0, 1) := by decide +kernel
theorem dL_law_352 : decode cL_law 352 = .ok (.iload_n 3, 1) := by decide +kernel
theorem dL_law_353 : decode cL_law 353 = .ok (.iconst 1, 1) := by decide +kernel
theorem dL_law_354 : decode cL_law 354 = .ok (.iadd, 1) := by decide +kernel
theorem dL_law_355 : decode cL_law 355 = .ok (.iaload, 1) := by decide +kernel
theorem dL_law_356 : decode cL_law 356 = .ok (.aload_n 0, 1) := by decide +kernel
theorem dL_law_357 : decode cL_law 357 = .ok (.iload_n 3, 1) := by decide +kernel
theorem dL_law_358 : decode cL_law 358 = .ok (.iconst 2, 1) := by decide +kernel
theorem dL_law_359 : decode cL_law 359 = .ok (.iadd, 1) := by decide +kernel
theorem dL_law_360 : decode cL_law 360 = .ok (.iaload, 1) := by decide +kernel
theorem dL_law_361 : decode cL_law 361 = .ok (.invokevirtual 52, 3) := by decide +kernel
theorem dL_law_364 : decode cL_law 364 = .ok (.if_icmp .eq 391, 3) := by decide +kernel
theorem dL_law_367 : decode cL_law 367 = .ok (.iconst 0, 1) := by decide +kernel
theorem dL_law_368 : decode cL_law 368 = .ok (.ireturn, 1) := by decide +kernel
theorem dL_law_369 : decode cL_law 369 = .ok (.aload_n 1, 1) := by decide +kernel
theorem dL_law_370 : decode cL_law 370 = .ok (.aload_n 0, 1) := by decide +kernel
theorem dL_law_371 : decode cL_law 371 = .ok (.iload_n 3, 1) := by decide +kernel
theorem dL_law_372 : decode cL_law 372 = .ok (.iconst 1, 1) := by decide +kernel
theorem dL_law_373 : decode cL_law 373 = .ok (.iadd, 1) := by decide +kernel
theorem dL_law_374 : decode cL_law 374 = .ok (.iaload, 1) := by decide +kernel
theorem dL_law_375 : decode cL_law 375 = .ok (.aload_n 0, 1) := by decide +kernel
theorem dL_law_376 : decode cL_law 376 = .ok (.iload_n 3, 1) := by decide +kernel
theorem dL_law_377 : decode cL_law 377 = .ok (.iconst 2, 1) := by decide +kernel
theorem dL_law_378 : decode cL_law 378 = .ok (.iadd, 1) := by decide +kernel
theorem dL_law_379 : decode cL_law 379 = .ok (.iaload, 1) := by decide +kernel
theorem dL_law_380 : decode cL_law 380 = .ok (.invokevirtual 53, 3) := by decide +kernel
theorem dL_law_383 : decode cL_law 383 = .ok (.aload_n 2, 1) := by decide +kernel
theorem dL_law_384 : decode cL_law 384 = .ok (.aload_n 0, 1) := by decide +kernel
theorem dL_law_385 : decode cL_law 385 = .ok (.iload_n 3, 1) := by decide +kernel
theorem dL_law_386 : decode cL_law 386 = .ok (.iconst 1, 1) := by decide +kernel
theorem dL_law_387 : decode cL_law 387 = .ok (.iadd, 1) := by decide +kernel
theorem dL_law_388 : decode cL_law 388 = .ok (.iaload, 1) := by decide +kernel
theorem dL_law_389 : decode cL_law 389 = .ok (.aload_n 0, 1) := by decide +kernel
theorem dL_law_390 : decode cL_law 390 = .ok (.iload_n 3, 1) := by decide +kernel
theorem dL_law_391 : decode cL_law 391 = .ok (.iconst 2, 1) := by decide +kernel
theorem dL_law_392 : decode cL_law 392 = .ok (.iadd, 1) := by decide +kernel
theorem dL_law_393 : decode cL_law 393 = .ok (.iaload, 1) := by decide +kernel
theorem dL_law_394 : decode cL_law 394 = .ok (.invokevirtual 56, 3) := by decide +kernel
theorem dL_law_397 : decode cL_law 397 = .ok (.if_icmp .eq 358, 3) := by decide +kernel
theorem dL_law_400 : decode cL_law 400 = .ok (.iconst 0, 1) := by decide +kernel
theorem dL_law_401 : decode cL_law 401 = .ok (.ireturn, 1) := by decide +kernel
theorem dL_law_402 : decode cL_law 402 = .ok (.aload_n 1, 1) := by decide +kernel
theorem dL_law_403 : decode cL_law 403 = .ok (.aload_n 0, 1) := by decide +kernel
theorem dL_law_404 : decode cL_law 404 = .ok (.iload_n 3, 1) := by decide +kernel
theorem dL_law_405 : decode cL_law 405 = .ok (.iconst 1, 1) := by decide +kernel
theorem dL_law_406 : decode cL_law 406 = .ok (.iadd, 1) := by decide +kernel
theorem dL_law_407 : decode cL_law 407 = .ok (.iaload, 1) := by decide +kernel
theorem dL_law_408 : decode cL_law 408 = .ok (.aload_n 0, 1) := by decide +kernel
theorem dL_law_409 : decode cL_law 409 = .ok (.iload_n 3, 1) := by decide +kernel
theorem dL_law_410 : decode cL_law 410 = .ok (.iconst 2, 1) := by decide +kernel
theorem dL_law_411 : decode cL_law 411 = .ok (.iadd, 1) := by decide +kernel
theorem dL_law_412 : decode cL_law 412 = .ok (.iaload, 1) := by decide +kernel
theorem dL_law_413 : decode cL_law 413 = .ok (.invokevirtual 57, 3) := by decide +kernel
theorem dL_law_416 : decode cL_law 416 = .ok (.aload_n 2, 1) := by decide +kernel
theorem dL_law_417 : decode cL_law 417 = .ok (.aload_n 0, 1) := by decide +kernel
theorem dL_law_418 : decode cL_law 418 = .ok (.iload_n 3, 1) := by decide +kernel
theorem dL_law_419 : decode cL_law 419 = .ok (.iconst 1, 1) := by decide +kernel
theorem dL_law_420 : decode cL_law 420 = .ok (.iadd, 1) := by decide +kernel
theorem dL_law_421 : decode cL_law 421 = .ok (.iaload, 1) := by decide +kernel
theorem dL_law_422 : decode cL_law 422 = .ok (.aload_n 0, 1) := by decide +kernel
theorem dL_law_423 : decode cL_law 423 = .ok (.iload_n 3, 1) := by decide +kernel
theorem dL_law_424 : decode cL_law 424 = .ok (.iconst 2, 1) := by decide +kernel
theorem dL_law_425 : decode cL_law 425 = .ok (.iadd, 1) := by decide +kernel
theorem dL_law_426 : decode cL_law 426 = .ok (.iaload, 1) := by decide +kernel
theorem dL_law_427 : decode cL_law 427 = .ok (.invokevirtual 60, 3) := by decide +kernel
theorem dL_law_430 : decode cL_law 430 = .ok (.if_icmp .eq 325, 3) := by decide +kernel
theorem dL_law_433 : decode cL_law 433 = .ok (.iconst 0, 1) := by decide +kernel
theorem dL_law_434 : decode cL_law 434 = .ok (.ireturn, 1) := by decide +kernel
theorem dL_law_435 : decode cL_law 435 = .ok (.aload_n 1, 1) := by decide +kernel
theorem dL_law_436 : decode cL_law 436 = .ok (.aload_n 0, 1) := by decide +kernel
theorem dL_law_437 : decode cL_law 437 = .ok (.iload_n 3, 1) := by decide +kernel
theorem dL_law_438 : decode cL_law 438 = .ok (.iconst 1, 1) := by decide +kernel
theorem dL_law_439 : decode cL_law 439 = .ok (.iadd, 1) := by decide +kernel
theorem dL_law_440 : decode cL_law 440 = .ok (.iaload, 1) := by decide +kernel
theorem dL_law_441 : decode cL_law 441 = .ok (.invokevirtual 61, 3) := by decide +kernel
theorem dL_law_444 : decode cL_law 444 = .ok (.aload_n 2, 1) := by decide +kernel
theorem dL_law_445 : decode cL_law 445 = .ok (.aload_n 0, 1) := by decide +kernel
theorem dL_law_446 : decode cL_law 446 = .ok (.iload_n 3, 1) := by decide +kernel
theorem dL_law_447 : decode cL_law 447 = .ok (.iconst 1, 1) := by decide +kernel
theorem dL_law_448 : decode cL_law 448 = .ok (.iadd, 1) := by decide +kernel
theorem dL_law_449 : decode cL_law 449 = .ok (.iaload, 1) := by decide +kernel
theorem dL_law_450 : decode cL_law 450 = .ok (.invokevirtual 64, 3) := by decide +kernel
theorem dL_law_453 : decode cL_law 453 = .ok (.if_icmp .eq 302, 3) := by decide +kernel
theorem dL_law_456 : decode cL_law 456 = .ok (.iconst 0, 1) := by decide +kernel
theorem dL_law_457 : decode cL_law 457 = .ok (.ireturn, 1) := by decide +kernel
theorem dL_law_458 : decode cL_law 458 = .ok (.aload_n 1, 1) := by decide +kernel
theorem dL_law_459 : decode cL_law 459 = .ok (.aload_n 0, 1) := by decide +kernel
theorem dL_law_460 : decode cL_law 460 = .ok (.iload_n 3, 1) := by decide +kernel
theorem dL_law_461 : decode cL_law 461 = .ok (.iconst 1, 1) := by decide +kernel
theorem dL_law_462 : decode cL_law 462 = .ok (.iadd, 1) := by decide +kernel
theorem dL_law_463 : decode cL_law 463 = .ok (.iaload, 1) := by decide +kernel
theorem dL_law_464 : decode cL_law 464 = .ok (.aload_n 0, 1) := by decide +kernel
theorem dL_law_465 : decode cL_law 465 = .ok (.iload_n 3, 1) := by decide +kernel
theorem dL_law_466 : decode cL_law 466 = .ok (.iconst 2, 1) := by decide +kernel
theorem dL_law_467 : decode cL_law 467 = .ok (.iadd, 1) := by decide +kernel
theorem dL_law_468 : decode cL_law 468 = .ok (.iaload, 1) := by decide +kernel
theorem dL_law_469 : decode cL_law 469 = .ok (.aload_n 0, 1) := by decide +kernel
theorem dL_law_470 : decode cL_law 470 = .ok (.iload_n 3, 1) := by decide +kernel
theorem dL_law_471 : decode cL_law 471 = .ok (.iconst 3, 1) := by decide +kernel
theorem dL_law_472 : decode cL_law 472 = .ok (.iadd, 1) := by decide +kernel
theorem dL_law_473 : decode cL_law 473 = .ok (.iaload, 1) := by decide +kernel
theorem dL_law_474 : decode cL_law 474 = .ok (.invokevirtual 65, 3) := by decide +kernel
theorem dL_law_477 : decode cL_law 477 = .ok (.aload_n 2, 1) := by decide +kernel
theorem dL_law_478 : decode cL_law 478 = .ok (.aload_n 0, 1) := by decide +kernel
theorem dL_law_479 : decode cL_law 479 = .ok (.iload_n 3, 1) := by decide +kernel
theorem dL_law_480 : decode cL_law 480 = .ok (.iconst 1, 1) := by decide +kernel
theorem dL_law_481 : decode cL_law 481 = .ok (.iadd, 1) := by decide +kernel
theorem dL_law_482 : decode cL_law 482 = .ok (.iaload, 1) := by decide +kernel
theorem dL_law_483 : decode cL_law 483 = .ok (.aload_n 0, 1) := by decide +kernel
theorem dL_law_484 : decode cL_law 484 = .ok (.iload_n 3, 1) := by decide +kernel
theorem dL_law_485 : decode cL_law 485 = .ok (.iconst 2, 1) := by decide +kernel
theorem dL_law_486 : decode cL_law 486 = .ok (.iadd, 1) := by decide +kernel
theorem dL_law_487 : decode cL_law 487 = .ok (.iaload, 1) := by decide +kernel
theorem dL_law_488 : decode cL_law 488 = .ok (.aload_n 0, 1) := by decide +kernel
theorem dL_law_489 : decode cL_law 489 = .ok (.iload_n 3, 1) := by decide +kernel
theorem dL_law_490 : decode cL_law 490 = .ok (.iconst 3, 1) := by decide +kernel
theorem dL_law_491 : decode cL_law 491 = .ok (.iadd, 1) := by decide +kernel
theorem dL_law_492 : decode cL_law 492 = .ok (.iaload, 1) := by decide +kernel
theorem dL_law_493 : decode cL_law 493 = .ok (.invokevirtual 68, 3) := by decide +kernel
theorem dL_law_496 : decode cL_law 496 = .ok (.if_icmp .eq 259, 3) := by decide +kernel
theorem dL_law_499 : decode cL_law 499 = .ok (.iconst 0, 1) := by decide +kernel
theorem dL_law_500 : decode cL_law 500 = .ok (.ireturn, 1) := by decide +kernel
theorem dL_law_501 : decode cL_law 501 = .ok (.aload_n 1, 1) := by decide +kernel
theorem dL_law_502 : decode cL_law 502 = .ok (.invokevirtual 69, 3) := by decide +kernel
theorem dL_law_505 : decode cL_law 505 = .ok (.aload_n 2, 1) := by decide +kernel
theorem dL_law_506 : decode cL_law 506 = .ok (.invokevirtual 72, 3) := by decide +kernel
theorem dL_law_509 : decode cL_law 509 = .ok (.if_icmp .eq 246, 3) := by decide +kernel
theorem dL_law_512 : decode cL_law 512 = .ok (.iconst 0, 1) := by decide +kernel
theorem dL_law_513 : decode cL_law 513 = .ok (.ireturn, 1) := by decide +kernel
theorem dL_law_514 : decode cL_law 514 = .ok (.aload_n 1, 1) := by decide +kernel
theorem dL_law_515 : decode cL_law 515 = .ok (.aload_n 0, 1) := by decide +kernel
theorem dL_law_516 : decode cL_law 516 = .ok (.iload_n 3, 1) := by decide +kernel
theorem dL_law_517 : decode cL_law 517 = .ok (.iconst 1, 1) := by decide +kernel
theorem dL_law_518 : decode cL_law 518 = .ok (.iadd, 1) := by decide +kernel
theorem dL_law_519 : decode cL_law 519 = .ok (.iaload, 1) := by decide +kernel
theorem dL_law_520 : decode cL_law 520 = .ok (.aload_n 0, 1) := by decide +kernel
theorem dL_law_521 : decode cL_law 521 = .ok (.iload_n 3, 1) := by decide +kernel
theorem dL_law_522 : decode cL_law 522 = .ok (.iconst 2, 1) := by decide +kernel
theorem dL_law_523 : decode cL_law 523 = .ok (.iadd, 1) := by decide +kernel
theorem dL_law_524 : decode cL_law 524 = .ok (.iaload, 1) := by decide +kernel
theorem dL_law_525 : decode cL_law 525 = .ok (.invokevirtual 73, 3) := by decide +kernel
theorem dL_law_528 : decode cL_law 528 = .ok (.aload_n 2, 1) := by decide +kernel
theorem dL_law_529 : decode cL_law 529 = .ok (.aload_n 0, 1) := by decide +kernel
theorem dL_law_530 : decode cL_law 530 = .ok (.iload_n 3, 1) := by decide +kernel
theorem dL_law_531 : decode cL_law 531 = .ok (.iconst 1, 1) := by decide +kernel
theorem dL_law_532 : decode cL_law 532 = .ok (.iadd, 1) := by decide +kernel
theorem dL_law_533 : decode cL_law 533 = .ok (.iaload, 1) := by decide +kernel
theorem dL_law_534 : decode cL_law 534 = .ok (.aload_n 0, 1) := by decide +kernel
theorem dL_law_535 : decode cL_law 535 = .ok (.iload_n 3, 1) := by decide +kernel
theorem dL_law_536 : decode cL_law 536 = .ok (.iconst 2, 1) := by decide +kernel
theorem dL_law_537 : decode cL_law 537 = .ok (.iadd, 1) := by decide +kernel
theorem dL_law_538 : decode cL_law 538 = .ok (.iaload, 1) := by decide +kernel
theorem dL_law_539 : decode cL_law 539 = .ok (.invokevirtual 76, 3) := by decide +kernel
theorem dL_law_542 : decode cL_law 542 = .ok (.if_icmp .eq 213, 3) := by decide +kernel
theorem dL_law_545 : decode cL_law 545 = .ok (.iconst 0, 1) := by decide +kernel
theorem dL_law_546 : decode cL_law 546 = .ok (.ireturn, 1) := by decide +kernel
theorem dL_law_547 : decode cL_law 547 = .ok (.aload_n 1, 1) := by decide +kernel
theorem dL_law_548 : decode cL_law 548 = .ok (.aload_n 0, 1) := by decide +kernel
theorem dL_law_549 : decode cL_law 549 = .ok (.iload_n 3, 1) := by decide +kernel
theorem dL_law_550 : decode cL_law 550 = .ok (.iconst 1, 1) := by decide +kernel
theorem dL_law_551 : decode cL_law 551 = .ok (.iadd, 1) := by decide +kernel
theorem dL_law_552 : decode cL_law 552 = .ok (.iaload, 1) := by decide +kernel
theorem dL_law_553 : decode cL_law 553 = .ok (.aload_n 0, 1) := by decide +kernel
theorem dL_law_554 : decode cL_law 554 = .ok (.iload_n 3, 1) := by decide +kernel
theorem dL_law_555 : decode cL_law 555 = .ok (.iconst 2, 1) := by decide +kernel
theorem dL_law_556 : decode cL_law 556 = .ok (.iadd, 1) := by decide +kernel
theorem dL_law_557 : decode cL_law 557 = .ok (.iaload, 1) := by decide +kernel
theorem dL_law_558 : decode cL_law 558 = .ok (.aload_n 0, 1) := by decide +kernel
theorem dL_law_559 : decode cL_law 559 = .ok (.iload_n 3, 1) := by decide +kernel
theorem dL_law_560 : decode cL_law 560 = .ok (.iconst 3, 1) := by decide +kernel
theorem dL_law_561 : decode cL_law 561 = .ok (.iadd, 1) := by decide +kernel
theorem dL_law_562 : decode cL_law 562 = .ok (.iaload, 1) := by decide +kernel
theorem dL_law_563 : decode cL_law 563 = .ok (.aload_n 0, 1) := by decide +kernel
theorem dL_law_564 : decode cL_law 564 = .ok (.iload_n 3, 1) := by decide +kernel
theorem dL_law_565 : decode cL_law 565 = .ok (.iconst 4, 1) := by decide +kernel
theorem dL_law_566 : decode cL_law 566 = .ok (.iadd, 1) := by decide +kernel
theorem dL_law_567 : decode cL_law 567 = .ok (.iaload, 1) := by decide +kernel
theorem dL_law_568 : decode cL_law 568 = .ok (.invokevirtual 77, 3) := by decide +kernel
theorem dL_law_571 : decode cL_law 571 = .ok (.aload_n 2, 1) := by decide +kernel
theorem dL_law_572 : decode cL_law 572 = .ok (.aload_n 0, 1) := by decide +kernel
theorem dL_law_573 : decode cL_law 573 = .ok (.iload_n 3, 1) := by decide +kernel
theorem dL_law_574 : decode cL_law 574 = .ok (.iconst 1, 1) := by decide +kernel
theorem dL_law_575 : decode cL_law 575 = .ok (.iadd, 1) := by decide +kernel
theorem dL_law_576 : decode cL_law 576 = .ok (.iaload, 1) := by decide +kernel
theorem dL_law_577 : decode cL_law 577 = .ok (.aload_n 0, 1) := by decide +kernel
theorem dL_law_578 : decode cL_law 578 = .ok (.iload_n 3, 1) := by decide +kernel
theorem dL_law_579 : decode cL_law 579 = .ok (.iconst 2, 1) := by decide +kernel
theorem dL_law_580 : decode cL_law 580 = .ok (.iadd, 1) := by decide +kernel
theorem dL_law_581 : decode cL_law 581 = .ok (.iaload, 1) := by decide +kernel
theorem dL_law_582 : decode cL_law 582 = .ok (.aload_n 0, 1) := by decide +kernel
theorem dL_law_583 : decode cL_law 583 = .ok (.iload_n 3, 1) := by decide +kernel
theorem dL_law_584 : decode cL_law 584 = .ok (.iconst 3, 1) := by decide +kernel
theorem dL_law_585 : decode cL_law 585 = .ok (.iadd, 1) := by decide +kernel
theorem dL_law_586 : decode cL_law 586 = .ok (.iaload, 1) := by decide +kernel
theorem dL_law_587 : decode cL_law 587 = .ok (.aload_n 0, 1) := by decide +kernel
theorem dL_law_588 : decode cL_law 588 = .ok (.iload_n 3, 1) := by decide +kernel
theorem dL_law_589 : decode cL_law 589 = .ok (.iconst 4, 1) := by decide +kernel
theorem dL_law_590 : decode cL_law 590 = .ok (.iadd, 1) := by decide +kernel
theorem dL_law_591 : decode cL_law 591 = .ok (.iaload, 1) := by decide +kernel
theorem dL_law_592 : decode cL_law 592 = .ok (.invokevirtual 81, 3) := by decide +kernel
theorem dL_law_595 : decode cL_law 595 = .ok (.if_icmp .eq 160, 3) := by decide +kernel
theorem dL_law_598 : decode cL_law 598 = .ok (.iconst 0, 1) := by decide +kernel
theorem dL_law_599 : decode cL_law 599 = .ok (.ireturn, 1) := by decide +kernel
theorem dL_law_600 : decode cL_law 600 = .ok (.aload_n 1, 1) := by decide +kernel
theorem dL_law_601 : decode cL_law 601 = .ok (.aload_n 0, 1) := by decide +kernel
theorem dL_law_602 : decode cL_law 602 = .ok (.iload_n 3, 1) := by decide +kernel
theorem dL_law_603 : decode cL_law 603 = .ok (.iconst 1, 1) := by decide +kernel
theorem dL_law_604 : decode cL_law 604 = .ok (.iadd, 1) := by decide +kernel
theorem dL_law_605 : decode cL_law 605 = .ok (.iaload, 1) := by decide +kernel
theorem dL_law_606 : decode cL_law 606 = .ok (.aload_n 0, 1) := by decide +kernel
theorem dL_law_607 : decode cL_law 607 = .ok (.iload_n 3, 1) := by decide +kernel
theorem dL_law_608 : decode cL_law 608 = .ok (.iconst 2, 1) := by decide +kernel
theorem dL_law_609 : decode cL_law 609 = .ok (.iadd, 1) := by decide +kernel
theorem dL_law_610 : decode cL_law 610 = .ok (.iaload, 1) := by decide +kernel
theorem dL_law_611 : decode cL_law 611 = .ok (.aload_n 0, 1) := by decide +kernel
theorem dL_law_612 : decode cL_law 612 = .ok (.iload_n 3, 1) := by decide +kernel
theorem dL_law_613 : decode cL_law 613 = .ok (.iconst 3, 1) := by decide +kernel
theorem dL_law_614 : decode cL_law 614 = .ok (.iadd, 1) := by decide +kernel
theorem dL_law_615 : decode cL_law 615 = .ok (.iaload, 1) := by decide +kernel
theorem dL_law_616 : decode cL_law 616 = .ok (.invokevirtual 82, 3) := by decide +kernel
theorem dL_law_619 : decode cL_law 619 = .ok (.aload_n 2, 1) := by decide +kernel
theorem dL_law_620 : decode cL_law 620 = .ok (.aload_n 0, 1) := by decide +kernel
theorem dL_law_621 : decode cL_law 621 = .ok (.iload_n 3, 1) := by decide +kernel
theorem dL_law_622 : decode cL_law 622 = .ok (.iconst 1, 1) := by decide +kernel
theorem dL_law_623 : decode cL_law 623 = .ok (.iadd, 1) := by decide +kernel
theorem dL_law_624 : decode cL_law 624 = .ok (.iaload, 1) := by decide +kernel
theorem dL_law_625 : decode cL_law 625 = .ok (.aload_n 0, 1) := by decide +kernel
theorem dL_law_626 : decode cL_law 626 = .ok (.iload_n 3, 1) := by decide +kernel
theorem dL_law_627 : decode cL_law 627 = .ok (.iconst 2, 1) := by decide +kernel
theorem dL_law_628 : decode cL_law 628 = .ok (.iadd, 1) := by decide +kernel
theorem dL_law_629 : decode cL_law 629 = .ok (.iaload, 1) := by decide +kernel
theorem dL_law_630 : decode cL_law 630 = .ok (.aload_n 0, 1) := by decide +kernel
theorem dL_law_631 : decode cL_law 631 = .ok (.iload_n 3, 1) := by decide +kernel
theorem dL_law_632 : decode cL_law 632 = .ok (.iconst 3, 1) := by decide +kernel
theorem dL_law_633 : decode cL_law 633 = .ok (.iadd, 1) := by decide +kernel
theorem dL_law_634 : decode cL_law 634 = .ok (.iaload, 1) := by decide +kernel
theorem dL_law_635 : decode cL_law 635 = .ok (.invokevirtual 85, 3) := by decide +kernel
theorem dL_law_638 : decode cL_law 638 = .ok (.if_icmp .eq 117, 3) := by decide +kernel
theorem dL_law_641 : decode cL_law 641 = .ok (.iconst 0, 1) := by decide +kernel
theorem dL_law_642 : decode cL_law 642 = .ok (.ireturn, 1) := by decide +kernel
theorem dL_law_643 : decode cL_law 643 = .ok (.aload_n 1, 1) := by decide +kernel
theorem dL_law_644 : decode cL_law 644 = .ok (.aload_n 0, 1) := by decide +kernel
theorem dL_law_645 : decode cL_law 645 = .ok (.iload_n 3, 1) := by decide +kernel
theorem dL_law_646 : decode cL_law 646 = .ok (.iconst 1, 1) := by decide +kernel
theorem dL_law_647 : decode cL_law 647 = .ok (.iadd, 1) := by decide +kernel
theorem dL_law_648 : decode cL_law 648 = .ok (.iaload, 1) := by decide +kernel
theorem dL_law_649 : decode cL_law 649 = .ok (.invokevirtual 86, 3) := by decide +kernel
theorem dL_law_652 : decode cL_law 652 = .ok (.aload_n 2, 1) := by decide +kernel
theorem dL_law_653 : decode cL_law 653 = .ok (.aload_n 0, 1) := by decide +kernel
theorem dL_law_654 : decode cL_law 654 = .ok (.iload_n 3, 1) := by decide +kernel
theorem dL_law_655 : decode cL_law 655 = .ok (.iconst 1, 1) := by decide +kernel
theorem dL_law_656 : decode cL_law 656 = .ok (.iadd, 1) := by decide +kernel
theorem dL_law_657 : decode cL_law 657 = .ok (.iaload, 1) := by decide +kernel
theorem dL_law_658 : decode cL_law 658 = .ok (.invokevirtual 89, 3) := by decide +kernel
theorem dL_law_661 : decode cL_law 661 = .ok (.if_icmp .eq 94, 3) := by decide +kernel
theorem dL_law_664 : decode cL_law 664 = .ok (.iconst 0, 1) := by decide +kernel
theorem dL_law_665 : decode cL_law 665 = .ok (.ireturn, 1) := by decide +kernel
theorem dL_law_666 : decode cL_law 666 = .ok (.aload_n 1, 1) := by decide +kernel
theorem dL_law_667 : decode cL_law 667 = .ok (.aload_n 0, 1) := by decide +kernel
theorem dL_law_668 : decode cL_law 668 = .ok (.iload_n 3, 1) := by decide +kernel
theorem dL_law_669 : decode cL_law 669 = .ok (.iconst 1, 1) := by decide +kernel
theorem dL_law_670 : decode cL_law 670 = .ok (.iadd, 1) := by decide +kernel
theorem dL_law_671 : decode cL_law 671 = .ok (.iaload, 1) := by decide +kernel
theorem dL_law_672 : decode cL_law 672 = .ok (.aload_n 0, 1) := by decide +kernel
theorem dL_law_673 : decode cL_law 673 = .ok (.iload_n 3, 1) := by decide +kernel
theorem dL_law_674 : decode cL_law 674 = .ok (.iconst 2, 1) := by decide +kernel
theorem dL_law_675 : decode cL_law 675 = .ok (.iadd, 1) := by decide +kernel
theorem dL_law_676 : decode cL_law 676 = .ok (.iaload, 1) := by decide +kernel
theorem dL_law_677 : decode cL_law 677 = .ok (.aload_n 0, 1) := by decide +kernel
theorem dL_law_678 : decode cL_law 678 = .ok (.iload_n 3, 1) := by decide +kernel
theorem dL_law_679 : decode cL_law 679 = .ok (.iconst 3, 1) := by decide +kernel
theorem dL_law_680 : decode cL_law 680 = .ok (.iadd, 1) := by decide +kernel
theorem dL_law_681 : decode cL_law 681 = .ok (.iaload, 1) := by decide +kernel
theorem dL_law_682 : decode cL_law 682 = .ok (.invokevirtual 90, 3) := by decide +kernel
theorem dL_law_685 : decode cL_law 685 = .ok (.aload_n 2, 1) := by decide +kernel
theorem dL_law_686 : decode cL_law 686 = .ok (.aload_n 0, 1) := by decide +kernel
theorem dL_law_687 : decode cL_law 687 = .ok (.iload_n 3, 1) := by decide +kernel
theorem dL_law_688 : decode cL_law 688 = .ok (.iconst 1, 1) := by decide +kernel
theorem dL_law_689 : decode cL_law 689 = .ok (.iadd, 1) := by decide +kernel
theorem dL_law_690 : decode cL_law 690 = .ok (.iaload, 1) := by decide +kernel
theorem dL_law_691 : decode cL_law 691 = .ok (.aload_n 0, 1) := by decide +kernel
theorem dL_law_692 : decode cL_law 692 = .ok (.iload_n 3, 1) := by decide +kernel
theorem dL_law_693 : decode cL_law 693 = .ok (.iconst 2, 1) := by decide +kernel
theorem dL_law_694 : decode cL_law 694 = .ok (.iadd, 1) := by decide +kernel
theorem dL_law_695 : decode cL_law 695 = .ok (.iaload, 1) := by decide +kernel
theorem dL_law_696 : decode cL_law 696 = .ok (.aload_n 0, 1) := by decide +kernel
theorem dL_law_697 : decode cL_law 697 = .ok (.iload_n 3, 1) := by decide +kernel
theorem dL_law_698 : decode cL_law 698 = .ok (.iconst 3, 1) := by decide +kernel
theorem dL_law_699 : decode cL_law 699 = .ok (.iadd, 1) := by decide +kernel
theorem dL_law_700 : decode cL_law 700 = .ok (.iaload, 1) := by decide +kernel
theorem dL_law_701 : decode cL_law 701 = .ok (.invokevirtual 93, 3) := by decide +kernel
theorem dL_law_704 : decode cL_law 704 = .ok (.if_icmp .eq 51, 3) := by decide +kernel
theorem dL_law_707 : decode cL_law 707 = .ok (.iconst 0, 1) := by decide +kernel
theorem dL_law_708 : decode cL_law 708 = .ok (.ireturn, 1) := by decide +kernel
theorem dL_law_709 : decode cL_law 709 = .ok (.aload_n 1, 1) := by decide +kernel
theorem dL_law_710 : decode cL_law 710 = .ok (.aload_n 0, 1) := by decide +kernel
theorem dL_law_711 : decode cL_law 711 = .ok (.iload_n 3, 1) := by decide +kernel
theorem dL_law_712 : decode cL_law 712 = .ok (.iconst 1, 1) := by decide +kernel
theorem dL_law_713 : decode cL_law 713 = .ok (.iadd, 1) := by decide +kernel
theorem dL_law_714 : decode cL_law 714 = .ok (.iaload, 1) := by decide +kernel
theorem dL_law_715 : decode cL_law 715 = .ok (.invokevirtual 94, 3) := by decide +kernel
theorem dL_law_718 : decode cL_law 718 = .ok (.aload_n 2, 1) := by decide +kernel
theorem dL_law_719 : decode cL_law 719 = .ok (.aload_n 0, 1) := by decide +kernel
theorem dL_law_720 : decode cL_law 720 = .ok (.iload_n 3, 1) := by decide +kernel
theorem dL_law_721 : decode cL_law 721 = .ok (.iconst 1, 1) := by decide +kernel
theorem dL_law_722 : decode cL_law 722 = .ok (.iadd, 1) := by decide +kernel
theorem dL_law_723 : decode cL_law 723 = .ok (.iaload, 1) := by decide +kernel
theorem dL_law_724 : decode cL_law 724 = .ok (.invokevirtual 97, 3) := by decide +kernel
theorem dL_law_727 : decode cL_law 727 = .ok (.if_icmp .eq 28, 3) := by decide +kernel
theorem dL_law_730 : decode cL_law 730 = .ok (.iconst 0, 1) := by decide +kernel
theorem dL_law_731 : decode cL_law 731 = .ok (.ireturn, 1) := by decide +kernel
theorem dL_law_732 : decode cL_law 732 = .ok (.aload_n 1, 1) := by decide +kernel
theorem dL_law_733 : decode cL_law 733 = .ok (.aload_n 0, 1) := by decide +kernel
theorem dL_law_734 : decode cL_law 734 = .ok (.iload_n 3, 1) := by decide +kernel
theorem dL_law_735 : decode cL_law 735 = .ok (.iconst 1, 1) := by decide +kernel
theorem dL_law_736 : decode cL_law 736 = .ok (.iadd, 1) := by decide +kernel
theorem dL_law_737 : decode cL_law 737 = .ok (.iaload, 1) := by decide +kernel
theorem dL_law_738 : decode cL_law 738 = .ok (.invokevirtual 98, 3) := by decide +kernel
theorem dL_law_741 : decode cL_law 741 = .ok (.aload_n 2, 1) := by decide +kernel
theorem dL_law_742 : decode cL_law 742 = .ok (.aload_n 0, 1) := by decide +kernel
theorem dL_law_743 : decode cL_law 743 = .ok (.iload_n 3, 1) := by decide +kernel
theorem dL_law_744 : decode cL_law 744 = .ok (.iconst 1, 1) := by decide +kernel
theorem dL_law_745 : decode cL_law 745 = .ok (.iadd, 1) := by decide +kernel
theorem dL_law_746 : decode cL_law 746 = .ok (.iaload, 1) := by decide +kernel
theorem dL_law_747 : decode cL_law 747 = .ok (.invokevirtual 101, 3) := by decide +kernel
theorem dL_law_750 : decode cL_law 750 = .ok (.if_icmp .eq 5, 3) := by decide +kernel
theorem dL_law_753 : decode cL_law 753 = .ok (.iconst 0, 1) := by decide +kernel
theorem dL_law_754 : decode cL_law 754 = .ok (.ireturn, 1) := by decide +kernel
theorem dL_law_755 : decode cL_law 755 = .ok (.iinc 3 5, 3) := by decide +kernel
theorem dL_law_758 : decode cL_law 758 = .ok (.goto (-740), 3) := by decide +kernel
theorem dL_law_761 : decode cL_law 761 = .ok (.iconst 1, 1) := by decide +kernel
theorem dL_law_762 : decode cL_law 762 = .ok (.ireturn, 1) := by decide +kernel
end
section
/-! THE FLAT WORLD: the cells of a system whose shape stands still: cell k lies at ad k; an object's int fields and an array's places are h k j; references are fixed by the layout L. -/
abbrev Mm : Type := Nat → Nat → Int32
def wr (h : Mm) (k i : Nat) (x : Int32) : Mm := va_up h k (upd (h k) i x)
/-- a cell's shape: an array of ints or chars (kind, length); an object (its class's number, its fields: a cell or an int); an array of references -/
abbrev CD : Type := (Nat × Nat) ⊕ ((Nat × List (Option Nat)) ⊕ (Nat × List Nat))
def cF (ad : Nat → Nat) (r : Nat → Int32) (j : Nat) (o : Option Nat) : Value := match o with
  | some k => .ref (ad k)
  | none => .int (r j)
def cE (ad : Nat → Nat) (ac : Nat → ClassId) (r : Nat → Int32) (d : CD) : va_E := match d with
  | .inl q => .inl (ac q.1, q.2, .inl r)
  | .inr (.inl q) => .inr (q.1, q.2.mapIdx (cF ad r))
  | .inr (.inr q) => .inl (ac q.1, q.2.length, .inr (.inr (.inr (.inr (fun j => (q.2[j]?).map ad)))))
def wd (ad : Nat → Nat) (ac : Nat → ClassId) (L : List CD) (h : Mm) : va_W := L.mapIdx (fun k d => (ad k, cE ad ac (h k) d))
def Aa (ad : Nat → Nat) (n sz : Nat) : Nat → Prop := fun q => (∃ k, k < n ∧ ad k = q) ∨ sz ≤ q
def Inj (ad : Nat → Nat) (n : Nat) : Prop := ∀ i j, i < n → j < n → ad i = ad j → i = j
section WD
variable {ad : Nat → Nat} {ac : Nat → ClassId} {L : List CD} {h h' : Mm} {k j : Nat} {d : CD}
theorem wd_at (hk : L[k]? = some d) : (wd ad ac L h)[k]? = some (ad k, cE ad ac (h k) d) := by
  simp only [wd, List.getElem?_mapIdx, hk, Option.map_some]
theorem wd_inv {p : Nat × va_E} (hp : (wd ad ac L h)[k]? = some p) : ∃ d, L[k]? = some d ∧ p = (ad k, cE ad ac (h k) d) := by
  simp only [wd, List.getElem?_mapIdx] at hp
  cases hd : L[k]? with
  | none => rw [hd] at hp; cases hp
  | some d => rw [hd] at hp; exact ⟨d, rfl, (Option.some.inj hp).symm⟩
theorem wd_set (hk : L[k]? = some d) (g : Nat → Int32) : (wd ad ac L h).set k (ad k, cE ad ac g d) = wd ad ac L (va_up h k g) := by
  apply List.ext_getElem?
  intro i
  by_cases hi : i = k
  · subst hi
    rw [List.getElem?_set_self (by rw [wd, List.length_mapIdx]; exact (List.getElem?_eq_some_iff.mp hk).1), wd_at hk, va_up_self]
  · rw [List.getElem?_set_ne (Ne.symm hi)]
    simp only [wd, List.getElem?_mapIdx, va_up_ne _ _ hi]
theorem wd_D {sz : Nat} (hI : Inj ad L.length) : va_D (Aa ad L.length sz) (wd ad ac L h) := by
  refine ⟨fun i j p q hi hj e => ?_, fun k q hk => ?_⟩
  · obtain ⟨d1, h1, rfl⟩ := wd_inv hi
    obtain ⟨d2, h2, rfl⟩ := wd_inv hj
    exact hI i j (List.getElem?_eq_some_iff.mp h1).1 (List.getElem?_eq_some_iff.mp h2).1 e
  · obtain ⟨d1, h1, rfl⟩ := wd_inv hk
    exact Or.inl ⟨k, (List.getElem?_eq_some_iff.mp h1).1, rfl⟩
theorem cF_set {fs : List (Option Nat)} {r : Nat → Int32} {x : Int32} (hj : fs[j]? = some none) : (fs.mapIdx (cF ad r)).set j (.int x) = fs.mapIdx (cF ad (upd r j x)) := by
  apply List.ext_getElem?
  intro i
  by_cases hi : i = j
  · subst hi
    rw [List.getElem?_set_self (by rw [List.length_mapIdx]; exact (List.getElem?_eq_some_iff.mp hj).1), List.getElem?_mapIdx, hj]
    simp [cF, upd]
  · rw [List.getElem?_set_ne (Ne.symm hi), List.getElem?_mapIdx, List.getElem?_mapIdx]
    cases fs[i]? with
    | none => rfl
    | some o => cases o <;> simp [cF, upd, hi]
end WD
/-- the words that stay words: those of the tables that a call carries -/
def wg : List Cond := lw_tbl.filter goodWord
theorem wg_mem {w : Cond} (i : Nat) (h : tables_1[i]? = some w) (hg : goodWord w = true) : w ∈ wg := List.mem_filter.mpr ⟨List.mem_append_right _ (List.mem_of_getElem? h), hg⟩
theorem wg_sel {w : Cond} (i : Nat) (h : (k2_sels lw_privs)[i]? = some w) (hg : goodWord w = true) : w ∈ wg := List.mem_filter.mpr ⟨List.mem_append_left _ (List.mem_of_getElem? h), hg⟩
theorem wg_pay {args : Array Value} {s : State} (hts : ∀ w ∈ wg, w.before args s = true) : ∀ w ∈ wg, ∀ (a' : Array Value) (U : State), s.WarmedH U.vm → w.before a' U = true := fun w hw a' U hW => word_at hW (good_of_word (List.mem_filter.mp hw).2) (hts w hw)
abbrev tysL (ac : Nat → ClassId) : List (ClassId × FieldType) := [(ac 0, .int), (ac 1, .char), (ac 2, .object "StationPasses$State"), (ac 3, .array .int)]
def nestW : Cond := .fieldLinkNest "StationPasses$Setting" 70 "StationPasses$Items" "numbers" "[[I" "StationPasses"
def Cx (D : va_G) (ac : Nat → ClassId) (U : State) : Prop := va_K D vwCl (tysL ac) U ∧ va_Nw nestW U
theorem Cx.warm {D : va_G} {ac : Nat → ClassId} {s U : State} (hW : s.WarmedH U.vm) (h : Cx D ac s) : Cx D ac U := ⟨va_K.moved hW.alike h.1, va_Nw.warmF hW h.2⟩
theorem Cx.call {D : va_G} {ac : Nat → ClassId} {U : State} {g : JFrame} {mk : MethodId} {a : Array Value} (h : Cx D ac U) : Cx D ac (U.calling g mk a) := ⟨va_K.moved (u := U) (U := U.calling g mk a) (Vm.Alike.refl U.vm) h.1, va_Nw.same rfl (u := U) (U := U.calling g mk a) rfl h.2⟩
/-- the static arrays, which nobody writes: number, length, contents -/
abbrev RomL : Type := List (Nat × Nat × (Nat → Int32))
def RoP (ad : Nat → Nat) (rl : RomL) (A : Nat → Prop) (U : State) (H : Heap) : Prop := ∀ q ∈ rl, va_T .int (ad q.1) q.2.1 (fun j => .int (q.2.2 j)) A U H
def rmD (d : Nat) : Room := { frames := d, cells := 0, slots := 0, locals := 40 * d }
/-- what stands in a method's whole walk -/
def Fx (p : Program) (s : State) (m : MethodId) (args : Array Value) (meth : Method) (c : Code) (cc : ByteArray) (nL : Nat) (own : String) (ret : Option FieldType) (D : va_G) (ad : Nat → Nat) (ac : Nat → ClassId) (L : List CD) (rl : RomL) : Prop :=
  p.tables.exec = Jvm.exec ∧ c.code = cc ∧ c.maxLocals = nL ∧ s.vm.findClass own = some m.cls ∧ (∀ w ∈ wg, w.before args s = true) ∧ meth.sig.returnType = ret ∧ meth.locks = false ∧ Cx D ac s ∧ Inj ad L.length ∧ RoP ad rl (Aa ad L.length s.heap.size) s s.heap
/-- the heap at a place of the walk: it holds h; nothing else has changed -/
def Hp (D : va_G) (ad : Nat → Nat) (ac : Nat → ClassId) (L : List CD) (h : Mm) (s : State) (H : Heap) (locs : List Loc) : Prop := va_P D vwCl (wd ad ac L h) H ∧ va_S (Aa ad L.length s.heap.size) s.heap H locs
def PU (D : va_G) (ad : Nat → Nat) (ac : Nat → ClassId) (L : List CD) (rl : RomL) (sz : Nat) (h : Mm) (U : State) : Prop := U.heap.size = sz ∧ va_P D vwCl (wd ad ac L h) U.heap ∧ Cx D ac U ∧ Inj ad L.length ∧ RoP ad rl (Aa ad L.length sz) U U.heap
def QU (D : va_G) (ad : Nat → Nat) (ac : Nat → ClassId) (L : List CD) (r : Option Value) (h' : Mm) (sz : Nat) : Array Value → State → Outcome → State → Prop := fun _ st oc t => oc = .returned r ∧ va_P D vwCl (wd ad ac L h') t.heap ∧ va_F (Aa ad L.length sz) st t
def wsy (y : MethodName) (cc : ByteArray) (nL : Nat) (ret : Option FieldType) : List Cond := Cond.code y cc nL ret :: wg
/-- a method's contract over the flat world: from h it comes to h' and answers r -/
def Mt (l : Launch) (D : va_G) (ad : Nat → Nat) (ac : Nat → ClassId) (L : List CD) (rl : RomL) (y : MethodName) (cc : ByteArray) (nL : Nat) (ret : Option FieldType) (d : Nat) (As : List Value) (h : Mm) (r : Option Value) (h' : Mm) : Prop :=
  ∀ sz : Nat, Met l y (wsy y cc nL ret) (rmD d) (va_Pc As (PU D ad ac L rl sz h)) (QU D ad ac L r h' sz) 0 0 (Aa ad L.length sz)
theorem Mt.of {l : Launch} {D : va_G} {ad : Nat → Nat} {ac : Nat → ClassId} {L : List CD} {rl : RomL} {y : MethodName} {cc : ByteArray} {nL : Nat} {ret : Option FieldType} {d : Nat} {As : List Value} {h : Mm} {r : Option Value} {h' : Mm} {own : String}
    (hy : plainName y.cls = true) (hcl : y.cls = own) (hlen : (lg_sl As).length ≤ nL)
    (body : ∀ (p : Program) (e : Env) (s : State) (m : MethodId) (below : List Frame) (meth : Method) (c : Code) (ls : Array Slot), Fx p s m As.toArray meth c cc nL own ret D ad ac L rl → Hp D ad ac L h s s.heap [] → lv_has ls nL (lv_args 0 As) →
      W p l e (rmD d) s m As.toArray below meth c s.heap [] 0 0 (MQ below (QU D ad ac L r h' s.heap.size) As.toArray s 0 0 (Aa ad L.length s.heap.size)) (F0 m 0 ls [])) : Mt l D ad ac L rl y cc nL ret d As h r h' := by
  intro sz
  refine Met.ofW (cc := cc) (maxL := nL) (ret := ret) hy rfl ?_
  intro p e s m args below meth c s₁ B hml hv
  obtain ⟨rfl, rfl, hP, hC, hI, hR⟩ := hv
  have hts := atoms_spec (ws := wsy y cc nL ret) B.pre
  have hown : s.vm.findClass own = some m.cls := hcl ▸ findClass_of_methodNamed B.named
  have hl := lv_entry As (n := nL) hlen
  rw [lg_entry_eq]
  exact body p e s m below meth c _ ⟨B.exec, B.bytes, hml, hown, fun w hw => hts w (List.mem_cons_of_mem _ hw), B.returns, B.notSynchronized, hC, hI, hR⟩ ⟨hP, va_S.rf⟩ hl
/-- what the tables say of a class -/
def clOk (q : vw_C) : Prop := (∀ w ∈ u_ws q.1 q.2.1 q.2.2, w ∈ wg) ∧ (∃ ty : Nat → FieldType, ∀ k, k < q.2.2 → parseFieldDescriptor (q.2.1 k).2.2.1 = some (ty k)) ∧ (∀ a, a < q.2.2 → ∀ b, b < q.2.2 → a ≠ b → (q.2.1 a).2.1 ≠ (q.2.1 b).2.1)
/-- a field's link: class ci's field j, by the pool's entry 'index' of the class 'own' -/
def FL (own : String) (index ci j : Nat) : Prop := ∃ q : vw_C, vwCl[ci]? = some q ∧ clOk q ∧ j < q.2.2 ∧ Cond.fieldLink own index q.1 (q.2.1 j).2.1 (q.2.1 j).2.2.1 ∈ wg ∧ (q.2.1 j).1 = q.1
/-- a field that may be written: of type ty -/
def FW (ci j : Nat) (ty : FieldType) : Prop := ∃ q : vw_C, vwCl[ci]? = some q ∧ parseFieldDescriptor (q.2.1 j).2.2.1 = some ty ∧ (q.2.1 j).2.2.2 = false
section ROWS
variable {p : Program} {l : Launch} {e : Env} {R : Room} {s : State} {m : MethodId} {args : Array Value} {below : List Frame} {meth : Method} {c : Code} {H : Heap} {locs : List Loc} {cells slots : Nat} {Q : State → Prop}
variable {cc : ByteArray} {nL : Nat} {own : String} {ret : Option FieldType} {D : va_G} {ad : Nat → Nat} {ac : Nat → ClassId} {L : List CD} {rl : RomL} {h h' : Mm} {pc : Nat} {ls : Array Slot} {rest : List Value} {k j ci index n : Nat} {fs : List (Option Nat)}
theorem hpD (X : Fx p s m args meth c cc nL own ret D ad ac L rl) : va_D (Aa ad L.length s.heap.size) (wd ad ac L h) := wd_D X.2.2.2.2.2.2.2.2.1
theorem hpPut (X : Fx p s m args meth c cc nL own ret D ad ac L rl) {d : CD} (hk : L[k]? = some d) {H1 : Heap} {locs1 : List Loc} {w : va_W} {g : Nat → Int32} (hw : w = (wd ad ac L h).set k (ad k, cE ad ac g d)) (hP : va_P D vwCl w H1) (hS : va_S (Aa ad L.length s.heap.size) s.heap H1 locs1) : Hp D ad ac L (va_up h k g) s H1 locs1 := by
  rw [hw, wd_set hk] at hP
  exact ⟨hP, hS⟩
/-- getfield -/
theorem gF (X : Fx p s m args meth c cc nL own ret D ad ac L rl) (hH : Hp D ad ac L h s H locs) (hF : FL own index ci j) (hk : L[k]? = some (.inr (.inl (ci, fs)))) {o : Option Nat} (hj : fs[j]? = some o) (hdg : decode cc pc = .ok (.getfield index, 3))
    (kk : W p l e R s m args below meth c H locs cells slots Q (F0 m (pc + 3) ls (cF ad (h k) j o :: rest))) : W p l e R s m args below meth c H locs cells slots Q (F0 m pc ls (.ref (ad k) :: rest)) := by
  obtain ⟨hx, hb, hml, hown, hts, hr, hlk, hC, hI, hR⟩ := X
  obtain ⟨q, hq, hcl, hjN, hlink, hdecl⟩ := hF
  exact va_get (D := D) (ci := ci) (v := cF ad (h k) j o) (C := q.1) (T := q.2.1) (N := q.2.2) hx hb hts hcl.1 hown hC.1 hH.1 k (wd_at hk) hq j hjN (hts _ hlink) (fun x hxx => by rw [hdecl] at hxx; exact hxx) (by rw [List.getElem?_mapIdx, hj]; rfl) hdg kk
theorem gI (X : Fx p s m args meth c cc nL own ret D ad ac L rl) (hH : Hp D ad ac L h s H locs) (hF : FL own index ci j) (hk : L[k]? = some (.inr (.inl (ci, fs)))) (hj : fs[j]? = some none) (hdg : decode cc pc = .ok (.getfield index, 3))
    (kk : W p l e R s m args below meth c H locs cells slots Q (F0 m (pc + 3) ls (.int (h k j) :: rest))) : W p l e R s m args below meth c H locs cells slots Q (F0 m pc ls (.ref (ad k) :: rest)) := gF X hH hF hk hj hdg kk
theorem gR (X : Fx p s m args meth c cc nL own ret D ad ac L rl) (hH : Hp D ad ac L h s H locs) (hF : FL own index ci j) (hk : L[k]? = some (.inr (.inl (ci, fs)))) {k1 : Nat} (hj : fs[j]? = some (some k1)) (hdg : decode cc pc = .ok (.getfield index, 3))
    (kk : W p l e R s m args below meth c H locs cells slots Q (F0 m (pc + 3) ls (.ref (ad k1) :: rest))) : W p l e R s m args below meth c H locs cells slots Q (F0 m pc ls (.ref (ad k) :: rest)) := gF X hH hF hk hj hdg kk
/-- getfield of a nest mate's private field: there is one, Items.numbers out of Setting -/
theorem gN (X : Fx p s m args meth c cc nL "StationPasses$Setting" ret D ad ac L rl) (hH : Hp D ad ac L h s H locs) (hF : ∃ q : vw_C, vwCl[ci]? = some q ∧ clOk q ∧ j < q.2.2 ∧ q.1 = "StationPasses$Items" ∧ (q.2.1 j).2.1 = "numbers" ∧ (q.2.1 j).2.2.1 = "[[I" ∧ (q.2.1 j).1 = q.1) (hk : L[k]? = some (.inr (.inl (ci, fs)))) {k1 : Nat} (hj : fs[j]? = some (some k1)) (hdg : decode cc pc = .ok (.getfield 70, 3))
    (kk : W p l e R s m args below meth c H locs cells slots Q (F0 m (pc + 3) ls (.ref (ad k1) :: rest))) : W p l e R s m args below meth c H locs cells slots Q (F0 m pc ls (.ref (ad k) :: rest)) := by
  obtain ⟨hx, hb, hml, hown, hts, hr, hlk, hC, hI, hR⟩ := X
  obtain ⟨q, hq, hcl, hjN, h1, h2, h3, hdecl⟩ := hF
  have hn : (Cond.fieldLinkNest "StationPasses$Setting" 70 q.1 (q.2.1 j).2.1 (q.2.1 j).2.2.1 "StationPasses").before args s = true := by
    rw [h1, h2, h3]
    exact va_Nw.use rfl hC.2
  exact va_getN (D := D) (ci := ci) (v := .ref (ad k1)) (C := q.1) (T := q.2.1) (N := q.2.2) hx hb hts hcl.1 hown hC.1 hH.1 k (wd_at hk) hq j hjN hn (fun x hxx => by rw [hdecl] at hxx; exact hxx) (by rw [List.getElem?_mapIdx, hj]; rfl) hdg kk
/-- putfield of an int (or of a boolean, 0 or 1) -/
theorem pF (X : Fx p s m args meth c cc nL own ret D ad ac L rl) (hH : Hp D ad ac L h s H locs) (hF : FL own index ci j) {ty : FieldType} (hW : FW ci j ty) (hk : L[k]? = some (.inr (.inl (ci, fs)))) (hj : fs[j]? = some none) {x : Int32} (hn : narrow ty (.int x) = .int x) (hfit : fits ty (.int x) = true) (hdg : decode cc pc = .ok (.putfield index, 3))
    (kk : ∀ (H1 : Heap) (locs1 : List Loc), Hp D ad ac L (wr h k j x) s H1 locs1 → W p l e R s m args below meth c H1 locs1 cells slots Q (F0 m (pc + 3) ls rest)) : W p l e R s m args below meth c H locs cells slots Q (F0 m pc ls (.int x :: .ref (ad k) :: rest)) := by
  have X' := X
  obtain ⟨hx, hb, hml, hown, hts, hr, hlk, hC, hI, hR⟩ := X
  obtain ⟨q, hq, hcl, hjN, hlink, hdecl⟩ := hF
  obtain ⟨q', hq', hpt, hfin⟩ := hW
  cases hq.symm.trans hq'
  obtain ⟨h1, ⟨ty0, h2⟩, h3⟩ := hcl
  have hlen : j < (fs.mapIdx (cF ad (h k))).length := by rw [List.length_mapIdx]; exact (List.getElem?_eq_some_iff.mp hj).1
  refine va_put (D := D) (ci := ci) (v := .int x) (ty := ty) (C := q.1) (T := q.2.1) (N := q.2.2) hx hb hts h1 ty0 h2 h3 hown hC.1 hH.1 (hpD X') hH.2 k (wd_at hk) hq j hjN (hts _ hlink) (fun x hxx => by rw [hdecl] at hxx; exact hxx) hfin hpt hn hfit hlen hdg (fun H1 locs1 hP hD hS => ?_)
  refine kk H1 locs1 (hpPut X' hk (g := upd (h k) j x) ?_ hP hS)
  rw [cF_set hj]
  rfl
theorem pI (X : Fx p s m args meth c cc nL own ret D ad ac L rl) (hH : Hp D ad ac L h s H locs) (hF : FL own index ci j) (hW : FW ci j .int) (hk : L[k]? = some (.inr (.inl (ci, fs)))) (hj : fs[j]? = some none) {x : Int32} (hdg : decode cc pc = .ok (.putfield index, 3))
    (kk : ∀ (H1 : Heap) (locs1 : List Loc), Hp D ad ac L (wr h k j x) s H1 locs1 → W p l e R s m args below meth c H1 locs1 cells slots Q (F0 m (pc + 3) ls rest)) : W p l e R s m args below meth c H locs cells slots Q (F0 m pc ls (.int x :: .ref (ad k) :: rest)) := pF X hH hF hW hk hj rfl rfl hdg kk
/-- iaload, caload, arraylength, aaload -/
theorem ild (X : Fx p s m args meth c cc nL own ret D ad ac L rl) (hH : Hp D ad ac L h s H locs) (hk : L[k]? = some (.inl (0, n))) {i : Int32} (hin : vp_in i n) (hdg : decode cc pc = .ok (.iaload, 1))
    (kk : W p l e R s m args below meth c H locs cells slots Q (F0 m (pc + 1) ls (.int (h k i.toNatClampNeg) :: rest))) : W p l e R s m args below meth c H locs cells slots Q (F0 m pc ls (.int i :: .ref (ad k) :: rest)) :=
  va_iald (D := D) X.1 X.2.1 X.2.2.2.2.2.2.2.1.1 hH.1 k 0 (wd_at hk) rfl hin hdg kk
theorem cld (X : Fx p s m args meth c cc nL own ret D ad ac L rl) (hH : Hp D ad ac L h s H locs) (hk : L[k]? = some (.inl (1, n))) {i : Int32} (hin : vp_in i n) (hdg : decode cc pc = .ok (.caload, 1))
    (kk : W p l e R s m args below meth c H locs cells slots Q (F0 m (pc + 1) ls (.int (h k i.toNatClampNeg) :: rest))) : W p l e R s m args below meth c H locs cells slots Q (F0 m pc ls (.int i :: .ref (ad k) :: rest)) :=
  va_cald (D := D) X.1 X.2.1 X.2.2.2.2.2.2.2.1.1 hH.1 k 1 (wd_at hk) rfl hin hdg kk
theorem aln (X : Fx p s m args meth c cc nL own ret D ad ac L rl) (hH : Hp D ad ac L h s H locs) {t : Nat} (hk : L[k]? = some (.inl (t, n))) (ht : t < 2) (hdg : decode cc pc = .ok (.arraylength, 1))
    (kk : W p l e R s m args below meth c H locs cells slots Q (F0 m (pc + 1) ls (.int (nI n) :: rest))) : W p l e R s m args below meth c H locs cells slots Q (F0 m pc ls (.ref (ad k) :: rest)) := by
  rcases (show t = 0 ∨ t = 1 by omega) with rfl | rfl
  · exact va_alen (D := D) X.1 X.2.1 X.2.2.2.2.2.2.2.1.1 hH.1 k 0 (wd_at hk) rfl rfl hdg kk
  · exact va_alen (D := D) X.1 X.2.1 X.2.2.2.2.2.2.2.1.1 hH.1 k 1 (wd_at hk) rfl rfl hdg kk
theorem alnR (X : Fx p s m args meth c cc nL own ret D ad ac L rl) (hH : Hp D ad ac L h s H locs) {t : Nat} {ks : List Nat} (hk : L[k]? = some (.inr (.inr (t, ks)))) (ht : t = 2 ∨ t = 3) (hn : ks.length = n) (hdg : decode cc pc = .ok (.arraylength, 1))
    (kk : W p l e R s m args below meth c H locs cells slots Q (F0 m (pc + 1) ls (.int (nI n) :: rest))) : W p l e R s m args below meth c H locs cells slots Q (F0 m pc ls (.ref (ad k) :: rest)) := by
  subst hn
  rcases ht with rfl | rfl
  · exact va_alen (D := D) X.1 X.2.1 X.2.2.2.2.2.2.2.1.1 hH.1 k 2 (wd_at hk) rfl rfl hdg kk
  · exact va_alen (D := D) X.1 X.2.1 X.2.2.2.2.2.2.2.1.1 hH.1 k 3 (wd_at hk) rfl rfl hdg kk
theorem ald (X : Fx p s m args meth c cc nL own ret D ad ac L rl) (hH : Hp D ad ac L h s H locs) {t : Nat} {ks : List Nat} (hk : L[k]? = some (.inr (.inr (t, ks)))) (ht : t = 2 ∨ t = 3) {i : Int32} {k1 : Nat} (hi : ¬ i < 0) (hk1 : ks[i.toNatClampNeg]? = some k1) (hdg : decode cc pc = .ok (.aaload, 1))
    (kk : W p l e R s m args below meth c H locs cells slots Q (F0 m (pc + 1) ls (.ref (ad k1) :: rest))) : W p l e R s m args below meth c H locs cells slots Q (F0 m pc ls (.int i :: .ref (ad k) :: rest)) := by
  have hlt : i.toNatClampNeg < ks.length := (List.getElem?_eq_some_iff.mp hk1).1
  have hin : vp_in i ks.length := fun q => by
    rcases q with q | q
    · exact hi q
    · omega
  have hc := hH.1 k _ (wd_at hk)
  have hv : (arrV (ac t) ks.length (fun j => va_rf ((ks[j]?).map ad))).slots[i.toNatClampNeg]? = some (.ref (ad k1)) := by
    rw [arrV_read _ _ hlt, hk1]
    rfl
  have hsz : ¬ (i < 0 ∨ (arrV (ac t) ks.length (fun j => va_rf ((ks[j]?).map ad))).slots.size ≤ i.toNatClampNeg) := by
    rw [arrV_size]
    exact hin
  rcases ht with rfl | rfl
  · exact W.aald (v := .ref (ad k1)) (ty := .object "StationPasses$State") X.1 X.2.1 hc ((X.2.2.2.2.2.2.2.1.1.2 2 _ rfl).1 ks.length (fun j => va_rf ((ks[j]?).map ad))) rfl (fun q => by cases q) hsz hv rfl rfl hdg kk
  · exact W.aald (v := .ref (ad k1)) (ty := .array .int) X.1 X.2.1 hc ((X.2.2.2.2.2.2.2.1.1.2 3 _ rfl).1 ks.length (fun j => va_rf ((ks[j]?).map ad))) rfl (fun q => by cases q) hsz hv rfl rfl hdg kk
/-- iaload out of a static array -/
theorem rld (X : Fx p s m args meth c cc nL own ret D ad ac L rl) (hH : Hp D ad ac L h s H locs) {f : Nat → Int32} (q0 : Nat) (hk : rl[q0]? = some (k, n, f)) {i : Int32} (hin : vp_in i n) (hdg : decode cc pc = .ok (.iaload, 1))
    (kk : W p l e R s m args below meth c H locs cells slots Q (F0 m (pc + 1) ls (.int (f i.toNatClampNeg) :: rest))) : W p l e R s m args below meth c H locs cells slots Q (F0 m pc ls (.int i :: .ref (ad k) :: rest)) := by
  obtain ⟨cell, h1, h2, h3, h4, h5, h6, h7⟩ := (X.2.2.2.2.2.2.2.2.2 _ (List.mem_of_getElem? hk)).kept hH.2.2.1
  have hlt : i.toNatClampNeg < n := Nat.not_le.mp fun q => hin (Or.inr q)
  exact W.iald (v := .int (f i.toNatClampNeg)) X.1 X.2.1 h1 h2 h3 (fun q => by
    rcases q with q | q
    · exact hin (Or.inl q)
    · exact absurd (Nat.lt_of_lt_of_le hlt h4) (Nat.not_lt.mpr q)) (h6 _ hlt) rfl rfl hdg kk
/-- iastore, castore -/
theorem ist (X : Fx p s m args meth c cc nL own ret D ad ac L rl) (hH : Hp D ad ac L h s H locs) (hk : L[k]? = some (.inl (0, n))) {i x : Int32} (hin : vp_in i n) (hdg : decode cc pc = .ok (.iastore, 1))
    (kk : ∀ (H1 : Heap) (locs1 : List Loc), Hp D ad ac L (wr h k i.toNatClampNeg x) s H1 locs1 → W p l e R s m args below meth c H1 locs1 cells slots Q (F0 m (pc + 1) ls rest)) : W p l e R s m args below meth c H locs cells slots Q (F0 m pc ls (.int x :: .int i :: .ref (ad k) :: rest)) :=
  va_iast (D := D) X.1 X.2.1 X.2.2.2.2.2.2.2.1.1 hH.1 (hpD X) hH.2 k 0 (wd_at hk) rfl hin hdg (fun H1 locs1 hP _ hS => kk H1 locs1 (hpPut X hk (g := upd (h k) i.toNatClampNeg x) rfl hP hS))
theorem cst (X : Fx p s m args meth c cc nL own ret D ad ac L rl) (hH : Hp D ad ac L h s H locs) (hk : L[k]? = some (.inl (1, n))) {i x : Int32} (hin : vp_in i n) (hdg : decode cc pc = .ok (.castore, 1))
    (kk : ∀ (H1 : Heap) (locs1 : List Loc), Hp D ad ac L (wr h k i.toNatClampNeg (vp_nar .char x)) s H1 locs1 → W p l e R s m args below meth c H1 locs1 cells slots Q (F0 m (pc + 1) ls rest)) : W p l e R s m args below meth c H locs cells slots Q (F0 m pc ls (.int x :: .int i :: .ref (ad k) :: rest)) :=
  va_cast (D := D) X.1 X.2.1 X.2.2.2.2.2.2.2.1.1 hH.1 (hpD X) hH.2 k 1 (wd_at hk) rfl hin hdg (fun H1 locs1 hP _ hS => kk H1 locs1 (hpPut X hk (g := upd (h k) i.toNatClampNeg (vp_nar .char x)) rfl hP hS))
/-- the ends -/
theorem retI (X : Fx p s m args meth c cc nL own (some .int) D ad ac L rl) (hH : Hp D ad ac L h s H locs) {v : Int32} (hdg : decode cc pc = .ok (.ireturn, 1)) : W p l e R s m args below meth c H locs 0 0 (MQ below (QU D ad ac L (some (.int v)) h s.heap.size) args s 0 0 (Aa ad L.length s.heap.size)) (F0 m pc ls [.int v]) :=
  W.iret (v := v) X.1 X.2.1 X.2.2.2.2.2.1 (fun t ht hW => ⟨rfl, by rw [ht]; exact hH.1, hH.2.F ht⟩) hH.2.2.2 hdg X.2.2.2.2.2.2.1
theorem retZ {ty : FieldType} (X : Fx p s m args meth c cc nL own (some ty) D ad ac L rl) (hH : Hp D ad ac L h s H locs) {v : Int32} (hn : narrow ty (.int v) = .int v) (hdg : decode cc pc = .ok (.ireturn, 1)) : W p l e R s m args below meth c H locs 0 0 (MQ below (QU D ad ac L (some (.int v)) h s.heap.size) args s 0 0 (Aa ad L.length s.heap.size)) (F0 m pc ls [.int v]) :=
  W.zret (v := v) X.1 X.2.1 X.2.2.2.2.2.1 hn (fun t ht hW => ⟨rfl, by rw [ht]; exact hH.1, hH.2.F ht⟩) hH.2.2.2 hdg X.2.2.2.2.2.2.1
theorem retV (X : Fx p s m args meth c cc nL own none D ad ac L rl) (hH : Hp D ad ac L h s H locs) (hdg : decode cc pc = .ok (.return_, 1)) : W p l e R s m args below meth c H locs 0 0 (MQ below (QU D ad ac L none h s.heap.size) args s 0 0 (Aa ad L.length s.heap.size)) (F0 m pc ls []) :=
  W.vret X.1 X.2.1 X.2.2.2.2.2.1 (fun t ht hW => ⟨rfl, by rw [ht]; exact hH.1, hH.2.F ht⟩) hH.2.2.2 hdg X.2.2.2.2.2.2.1
theorem retA {rt : FieldType} (X : Fx p s m args meth c cc nL own (some rt) D ad ac L rl) (hH : Hp D ad ac L h s H locs) (hrt : (∃ n, rt = .object n) ∨ ∃ t, rt = .array t) {v : Value} (hv : v = .null ∨ ∃ a, v = .ref a) (hdg : decode cc pc = .ok (.areturn, 1)) : W p l e R s m args below meth c H locs 0 0 (MQ below (QU D ad ac L (some v) h s.heap.size) args s 0 0 (Aa ad L.length s.heap.size)) (F0 m pc ls [v]) :=
  W.aret (v := v) X.1 X.2.1 X.2.2.2.2.2.1 hrt hv (fun t ht hW => ⟨rfl, by rw [ht]; exact hH.1, hH.2.F ht⟩) hH.2.2.2 hdg X.2.2.2.2.2.2.1
end ROWS
/-! calls -/
/-- what the tables say of a call of y out of the class 'own' -/
def CL (own : String) (index : Nat) (y : MethodName) (cc : ByteArray) (nL : Nat) (ret : Option FieldType) (n : Nat) : Prop :=
  Cond.code y cc nL ret ∈ wg ∧ Cond.methodLink own index y ∈ wg ∧ Cond.initialized y.cls ∈ wg ∧ (y.cls ≠ "java/lang/invoke/MethodHandle" ∧ y.cls ≠ "java/lang/invoke/VarHandle") ∧ (parseMethodDescriptor y.desc).map (fun d => d.parameters.length) = some n ∧ nL ≤ 20
def CLv (y : MethodName) : Prop := Cond.instanceMethod y ∈ wg ∧ Cond.selects y.cls y y ∈ wg
section CALLS
variable {p : Program} {l : Launch} {e : Env} {s : State} {m : MethodId} {args : Array Value} {below : List Frame} {meth : Method} {c : Code} {H : Heap} {locs : List Loc} {Q : State → Prop}
variable {cc : ByteArray} {nL : Nat} {own : String} {ret : Option FieldType} {D : va_G} {ad : Nat → Nat} {ac : Nat → ClassId} {L : List CD} {rl : RomL} {h h' : Mm} {pc : Nat} {ls : Array Slot} {rest st : List Value} {k ci index n d d1 : Nat} {fs : List (Option Nat)}
variable {y : MethodName} {cc1 : ByteArray} {nL1 : Nat} {ret1 : Option FieldType} {As : List Value} {r : Option Value}
theorem CL.B (X : Fx p s m args meth c cc nL own ret D ad ac L rl) (hC : CL own index y cc1 nL1 ret1 n) (hd : d1 + 1 ≤ d) : CallB (rmD d) s args own index y cc1 nL1 ret1 (wsy y cc1 nL1 ret1) (rmD d1) 0 0 n := by
  obtain ⟨h1, h2, h3, h4, h5, h6⟩ := hC
  have hts := X.2.2.2.2.1
  refine ⟨rfl, rfl, hd, ?_, ?_, List.mem_cons_self, hts _ h1, hts _ h3, h4, fun sig hs => ?_, hts _ h2⟩
  · show 8 + (nL1 + 11) + 40 * d1 ≤ 40 * d
    omega
  · intro w hw
    rcases List.mem_cons.mp hw with rfl | hw
    · exact wg_pay hts _ h1
    · exact wg_pay hts _ hw
  · rw [hs] at h5
    exact (Option.some.inj h5).symm
theorem PU.blind {sz : Nat} : FrameBlind (va_Pc As (PU D ad ac L rl sz h)) := by
  intro a U g mk hq
  obtain ⟨h0, h1, h2, h3, h4, h5⟩ := hq
  exact ⟨h0, h1, h2, h3.call, h4, fun q hq => va_T.moved (u := U) (U := U.calling g mk a) (Vm.Alike.refl U.vm) (h5 q hq)⟩
theorem Aa.le {n1 a b : Nat} (hab : a ≤ b) {q : Nat} (hq : Aa ad n1 b q) : Aa ad n1 a q := hq.imp id (fun h => Nat.le_trans hab h)
theorem PU.ready (X : Fx p s m args meth c cc nL own ret D ad ac L rl) (hH : Hp D ad ac L h s H locs) {U : State} (hU : U.heap = H) (hW : s.WarmedH U.vm) : PU D ad ac L rl H.size h U := by
  obtain ⟨hx, hb, hml, hown, hts, hr, hlk, hC, hI, hR⟩ := X
  refine ⟨by rw [hU], by rw [hU]; exact hH.1, hC.warm hW, hI, fun q hq => ?_⟩
  rw [hU]
  exact va_T.moved hW.alike (((hR q hq).kept hH.2.2.1).narrow (fun z hz => Aa.le hH.2.1 hz))
theorem callGo {A1 : Array Value} (X : Fx p s m args meth c cc nL own ret D ad ac L rl) (hH : Hp D ad ac L h s H locs)
    (hr : va_Run p l e (rmD d) s m args below meth c H locs 0 0 0 0 (F0 m pc ls st) rest (QU D ad ac L r h' H.size A1) (Aa ad L.length H.size))
    (kk : ∀ (H1 : Heap) (locs1 : List Loc), Hp D ad ac L h' s H1 locs1 → W p l e (rmD d) s m args below meth c H1 locs1 0 0 Q (F0 m (pc + 3) ls (r.toList ++ rest))) : W p l e (rmD d) s m args below meth c H locs 0 0 Q (F0 m pc ls st) := by
  intro T hT X1
  obtain ⟨v, st₀, t, T', L1, h0, X', hL, e1, e2, ⟨hv, hp, hz, hk⟩, stp⟩ := hr T hT X1
  cases hv
  rw [h0] at hz hk
  obtain ⟨t2, a1, b1⟩ := kk T'.heap (locs ++ L1) ⟨by rw [e1]; exact hp, Nat.le_trans hH.2.1 (by rw [e1]; exact hz), fun q h1 h2 => by
      rw [e1, hk q (Nat.lt_of_lt_of_le h1 hH.2.1) (fun z => h2 (Aa.le hH.2.1 z))]
      exact hH.2.2.1 q h1 h2, fun q hq => by
      rcases List.mem_append.mp hq with h | h
      · exact hH.2.2.2 q h
      · exact Aa.le hH.2.1 (hL q h)⟩ T' rfl X'
  exact ⟨t2, stp t2 a1, b1⟩
/-- invokevirtual -/
theorem cV (X : Fx p s m args meth c cc nL own ret D ad ac L rl) (hH : Hp D ad ac L h s H locs) (hC : CL own index y cc1 nL1 ret1 n) (hV : CLv y) (hM : Mt l D ad ac L rl y cc1 nL1 ret1 d1 (.ref (ad k) :: As) h r h') (hk : L[k]? = some (.inr (.inl (ci, fs)))) (hc : (vwCl[ci]?).map (fun q => q.1) = some y.cls) (hn : As.length = n) (hd : d1 + 1 ≤ d) (hls : ls.size = nL) (hst : st = As.reverse ++ .ref (ad k) :: rest) (hW : (rest.map fun v => v.category).sum ≤ 8) (hdg : decode cc pc = .ok (.invokevirtual index, 3))
    (kk : ∀ (H1 : Heap) (locs1 : List Loc), Hp D ad ac L h' s H1 locs1 → W p l e (rmD d) s m args below meth c H1 locs1 0 0 Q (F0 m (pc + 3) ls (r.toList ++ rest))) : W p l e (rmD d) s m args below meth c H locs 0 0 Q (F0 m pc ls st) := by
  have hq : ∃ q : vw_C, vwCl[ci]? = some q ∧ q.1 = y.cls := by
    cases hv : vwCl[ci]? with
    | none => rw [hv] at hc; cases hc
    | some q => rw [hv] at hc; exact ⟨q, rfl, Option.some.inj hc⟩
  obtain ⟨q, hq1, hq2⟩ := hq
  have hrecv := va_recv (D := D) X.2.2.2.2.2.2.2.1.1 hH.1 hq1 (wd_at hk)
  rw [hq2] at hrecv
  exact callGo X hH (va_runV (C := y.cls) (As := As) ⟨X.1, X.2.1, X.2.2.1, X.2.2.2.1, X.2.2.2.2.1⟩ (hM H.size) ⟨CL.B X hC hd, X.2.2.2.2.1 _ hV.1, X.2.2.2.2.1 _ hV.2⟩ ⟨PU.blind, hrecv, fun U hU hWm => ⟨rfl, PU.ready X hH hU hWm⟩⟩ rfl hn hls hst (lv_room hW) hdg ⟨Nat.zero_le _, Nat.zero_le _⟩) kk
/-- invokestatic -/
theorem cS (X : Fx p s m args meth c cc nL own ret D ad ac L rl) (hH : Hp D ad ac L h s H locs) (hC : CL own index y cc1 nL1 ret1 n) (hV : Cond.static y ∈ wg) (hM : Mt l D ad ac L rl y cc1 nL1 ret1 d1 As h r h') (hn : As.length = n) (hd : d1 + 1 ≤ d) (hls : ls.size = nL) (hst : st = As.reverse ++ rest) (hW : (rest.map fun v => v.category).sum ≤ 8) (hdg : decode cc pc = .ok (.invokestatic index, 3))
    (kk : ∀ (H1 : Heap) (locs1 : List Loc), Hp D ad ac L h' s H1 locs1 → W p l e (rmD d) s m args below meth c H1 locs1 0 0 Q (F0 m (pc + 3) ls (r.toList ++ rest))) : W p l e (rmD d) s m args below meth c H locs 0 0 Q (F0 m pc ls st) :=
  callGo X hH (va_runS (As := As) ⟨X.1, X.2.1, X.2.2.1, X.2.2.2.1, X.2.2.2.2.1⟩ (hM H.size) ⟨CL.B X hC hd, X.2.2.2.2.1 _ hV⟩ ⟨PU.blind, fun U hU hWm => ⟨rfl, PU.ready X hH hU hWm⟩⟩ rfl hn hls hst (lv_room hW) hdg ⟨Nat.zero_le _, Nat.zero_le _⟩) kk
end CALLS
end
section
/-! helpers of the pure functions: each guard, and what it says when the whole is something -/
def FU : Nat := 100000
def mlet {α β : Type} (a : α) (f : α → β) : β := f a
theorem mlet_some {α β : Type} {a : α} {f : α → Option β} {r : β} (h : mlet a f = some r) : ∃ b, b = a ∧ f b = some r := ⟨a, rfl, h⟩
def gIn {α : Type} (i : Int32) (n : Nat) (k : Option α) : Option α := if i < 0 ∨ n ≤ i.toNatClampNeg then none else k
theorem gIn_some {α : Type} {i : Int32} {n : Nat} {k : Option α} {r : α} (h : gIn i n k = some r) : vp_in i n ∧ k = some r := by
  unfold gIn at h
  by_cases hc : i < 0 ∨ n ≤ i.toNatClampNeg
  · rw [if_pos hc] at h; cases h
  · rw [if_neg hc] at h; exact ⟨hc, h⟩
theorem gIn_ok {α : Type} {i : Int32} {n : Nat} {k : Option α} (h : vp_in i n) : gIn i n k = k := if_neg h
def gNz {α : Type} (y : Int32) (k : Option α) : Option α := if y = 0 then none else k
theorem gNz_some {α : Type} {y : Int32} {k : Option α} {r : α} (h : gNz y k = some r) : ¬ y = 0 ∧ k = some r := by
  unfold gNz at h
  by_cases hc : y = 0
  · rw [if_pos hc] at h; cases h
  · rw [if_neg hc] at h; exact ⟨hc, h⟩
theorem gNz_ok {α : Type} {y : Int32} {k : Option α} (h : ¬ y = 0) : gNz y k = k := if_neg h
def gB {α : Type} (x : Int32) (k : Option α) : Option α := if x = 0 ∨ x = 1 then k else none
theorem gB_some {α : Type} {x : Int32} {k : Option α} {r : α} (h : gB x k = some r) : narrow .boolean (.int x) = .int x ∧ k = some r := by
  unfold gB at h
  by_cases hc : x = 0 ∨ x = 1
  · rw [if_pos hc] at h
    rcases hc with rfl | rfl
    · exact ⟨rfl, h⟩
    · exact ⟨rfl, h⟩
  · rw [if_neg hc] at h; cases h
theorem gB_ok {α : Type} {x : Int32} {k : Option α} (h : x = 0 ∨ x = 1) : gB x k = k := if_pos h
def gCh {α : Type} (x : Int32) (k : Option α) : Option α := if vp_nar .char x = x then k else none
theorem gCh_some {α : Type} {x : Int32} {k : Option α} {r : α} (h : gCh x k = some r) : narrow .char (.int x) = .int x ∧ k = some r := by
  unfold gCh at h
  by_cases hc : vp_nar .char x = x
  · rw [if_pos hc] at h
    rw [vp_nar_char] at hc
    refine ⟨?_, h⟩
    show Value.int x.toUInt32.toUInt16.toUInt32.toInt32 = .int x
    rw [hc]
  · rw [if_neg hc] at h; cases h
theorem gCh_ok {α : Type} {x : Int32} {k : Option α} (h : vp_nar .char x = x) : gCh x k = k := if_pos h
def bd1 {α β : Type} (o : Option α) (k : α → Option β) : Option β := match o with
  | none => none
  | some v => k v
theorem bd1_some {α β : Type} {o : Option α} {k : α → Option β} {r : β} (h : bd1 o k = some r) : ∃ v, o = some v ∧ k v = some r := by
  cases o with
  | none => cases h
  | some v => exact ⟨v, rfl, h⟩
def bdh {β : Type} (o : Option Mm) (k : Mm → Option β) : Option β := bd1 o k
theorem bdh_some {β : Type} {o : Option Mm} {k : Mm → Option β} {r : β} (h : bdh o k = some r) : ∃ v, o = some v ∧ k v = some r := bd1_some h
def bd2 {β : Type} (o : Option (Int32 × Mm)) (k : Int32 → Mm → Option β) : Option β := match o with
  | none => none
  | some q => k q.1 q.2
theorem bd2_some {β : Type} {o : Option (Int32 × Mm)} {k : Int32 → Mm → Option β} {r : β} (h : bd2 o k = some r) : ∃ v h1, o = some (v, h1) ∧ k v h1 = some r := by
  cases o with
  | none => cases h
  | some q => exact ⟨q.1, q.2, rfl, h⟩
def gCp {α : Type} (sp dp n : Int32) (n0 n1 : Nat) (k : Option α) : Option α := if ¬ sp < 0 ∧ ¬ dp < 0 ∧ ¬ n < 0 ∧ sp.toNatClampNeg + n.toNatClampNeg ≤ n0 ∧ dp.toNatClampNeg + n.toNatClampNeg ≤ n1 then k else none
theorem gCp_some {α : Type} {sp dp n : Int32} {n0 n1 : Nat} {k : Option α} {r : α} (h : gCp sp dp n n0 n1 k = some r) : (¬ sp < 0 ∧ ¬ dp < 0 ∧ ¬ n < 0 ∧ sp.toNatClampNeg + n.toNatClampNeg ≤ n0 ∧ dp.toNatClampNeg + n.toNatClampNeg ≤ n1) ∧ k = some r := by
  unfold gCp at h
  by_cases hc : ¬ sp < 0 ∧ ¬ dp < 0 ∧ ¬ n < 0 ∧ sp.toNatClampNeg + n.toNatClampNeg ≤ n0 ∧ dp.toNatClampNeg + n.toNatClampNeg ≤ n1
  · rw [if_pos hc] at h; exact ⟨hc, h⟩
  · rw [if_neg hc] at h; cases h
theorem vp_lt {i : Int32} {n : Nat} (h : vp_in i n) : i.toNatClampNeg < n := Nat.not_le.mp fun q => h (Or.inr q)
section CALLS2
variable {p : Program} {l : Launch} {e : Env} {s : State} {m : MethodId} {args : Array Value} {below : List Frame} {meth : Method} {c : Code} {H : Heap} {locs : List Loc} {Q : State → Prop}
variable {cc : ByteArray} {nL : Nat} {own : String} {ret : Option FieldType} {D : va_G} {ad : Nat → Nat} {ac : Nat → ClassId} {L : List CD} {rl : RomL} {h h' : Mm} {pc : Nat} {ls : Array Slot} {rest st : List Value} {k ci index n d d1 : Nat} {fs : List (Option Nat)}
variable {y : MethodName} {cc1 : ByteArray} {nL1 : Nat} {ret1 : Option FieldType} {As : List Value} {v : Int32}
theorem cVi (X : Fx p s m args meth c cc nL own ret D ad ac L rl) (hH : Hp D ad ac L h s H locs) (hC : CL own index y cc1 nL1 ret1 n) (hV : CLv y) (hM : Mt l D ad ac L rl y cc1 nL1 ret1 d1 (.ref (ad k) :: As) h (some (.int v)) h') (hk : L[k]? = some (.inr (.inl (ci, fs)))) (hc : (vwCl[ci]?).map (fun q => q.1) = some y.cls) (hn : As.length = n) (hd : d1 + 1 ≤ d) (hls : ls.size = nL) (hst : st = As.reverse ++ .ref (ad k) :: rest) (hW : (rest.map fun v => v.category).sum ≤ 8) (hdg : decode cc pc = .ok (.invokevirtual index, 3))
    (kk : ∀ (H1 : Heap) (locs1 : List Loc), Hp D ad ac L h' s H1 locs1 → W p l e (rmD d) s m args below meth c H1 locs1 0 0 Q (F0 m (pc + 3) ls (.int v :: rest))) : W p l e (rmD d) s m args below meth c H locs 0 0 Q (F0 m pc ls st) := cV X hH hC hV hM hk hc hn hd hls hst hW hdg kk
theorem cVv (X : Fx p s m args meth c cc nL own ret D ad ac L rl) (hH : Hp D ad ac L h s H locs) (hC : CL own index y cc1 nL1 ret1 n) (hV : CLv y) (hM : Mt l D ad ac L rl y cc1 nL1 ret1 d1 (.ref (ad k) :: As) h none h') (hk : L[k]? = some (.inr (.inl (ci, fs)))) (hc : (vwCl[ci]?).map (fun q => q.1) = some y.cls) (hn : As.length = n) (hd : d1 + 1 ≤ d) (hls : ls.size = nL) (hst : st = As.reverse ++ .ref (ad k) :: rest) (hW : (rest.map fun v => v.category).sum ≤ 8) (hdg : decode cc pc = .ok (.invokevirtual index, 3))
    (kk : ∀ (H1 : Heap) (locs1 : List Loc), Hp D ad ac L h' s H1 locs1 → W p l e (rmD d) s m args below meth c H1 locs1 0 0 Q (F0 m (pc + 3) ls rest)) : W p l e (rmD d) s m args below meth c H locs 0 0 Q (F0 m pc ls st) := cV X hH hC hV hM hk hc hn hd hls hst hW hdg kk
theorem cSi (X : Fx p s m args meth c cc nL own ret D ad ac L rl) (hH : Hp D ad ac L h s H locs) (hC : CL own index y cc1 nL1 ret1 n) (hV : Cond.static y ∈ wg) (hM : Mt l D ad ac L rl y cc1 nL1 ret1 d1 As h (some (.int v)) h') (hn : As.length = n) (hd : d1 + 1 ≤ d) (hls : ls.size = nL) (hst : st = As.reverse ++ rest) (hW : (rest.map fun v => v.category).sum ≤ 8) (hdg : decode cc pc = .ok (.invokestatic index, 3))
    (kk : ∀ (H1 : Heap) (locs1 : List Loc), Hp D ad ac L h' s H1 locs1 → W p l e (rmD d) s m args below meth c H1 locs1 0 0 Q (F0 m (pc + 3) ls (.int v :: rest))) : W p l e (rmD d) s m args below meth c H locs 0 0 Q (F0 m pc ls st) := cS X hH hC hV hM hn hd hls hst hW hdg kk
theorem cSv (X : Fx p s m args meth c cc nL own ret D ad ac L rl) (hH : Hp D ad ac L h s H locs) (hC : CL own index y cc1 nL1 ret1 n) (hV : Cond.static y ∈ wg) (hM : Mt l D ad ac L rl y cc1 nL1 ret1 d1 As h none h') (hn : As.length = n) (hd : d1 + 1 ≤ d) (hls : ls.size = nL) (hst : st = As.reverse ++ rest) (hW : (rest.map fun v => v.category).sum ≤ 8) (hdg : decode cc pc = .ok (.invokestatic index, 3))
    (kk : ∀ (H1 : Heap) (locs1 : List Loc), Hp D ad ac L h' s H1 locs1 → W p l e (rmD d) s m args below meth c H1 locs1 0 0 Q (F0 m (pc + 3) ls rest)) : W p l e (rmD d) s m args below meth c H locs 0 0 Q (F0 m pc ls st) := cS X hH hC hV hM hn hd hls hst hW hdg kk
end CALLS2
theorem wg_m1 {w : Cond} (i : Nat) (h : tables_1_1[i]? = some w) (hg : goodWord w = true) : w ∈ wg := List.mem_filter.mpr ⟨List.mem_append_right _ (show w ∈ tables_1 from (List.mem_append_left _ (List.mem_of_getElem? h))), hg⟩
theorem wg_m2 {w : Cond} (i : Nat) (h : tables_1_2[i]? = some w) (hg : goodWord w = true) : w ∈ wg := List.mem_filter.mpr ⟨List.mem_append_right _ (show w ∈ tables_1 from (List.mem_append_right _ (List.mem_append_left _ (List.mem_of_getElem? h)))), hg⟩
theorem wg_m3 {w : Cond} (i : Nat) (h : tables_1_3[i]? = some w) (hg : goodWord w = true) : w ∈ wg := List.mem_filter.mpr ⟨List.mem_append_right _ (show w ∈ tables_1 from (List.mem_append_right _ (List.mem_append_right _ (List.mem_append_left _ (List.mem_of_getElem? h))))), hg⟩
theorem wg_m4 {w : Cond} (i : Nat) (h : tables_1_4[i]? = some w) (hg : goodWord w = true) : w ∈ wg := List.mem_filter.mpr ⟨List.mem_append_right _ (show w ∈ tables_1 from (List.mem_append_right _ (List.mem_append_right _ (List.mem_append_right _ (List.mem_append_left _ (List.mem_of_getElem? h)))))), hg⟩
theorem wg_m5 {w : Cond} (i : Nat) (h : tables_1_5[i]? = some w) (hg : goodWord w = true) : w ∈ wg := List.mem_filter.mpr ⟨List.mem_append_right _ (show w ∈ tables_1 from (List.mem_append_right _ (List.mem_append_right _ (List.mem_append_right _ (List.mem_append_right _ (List.mem_of_getElem? h)))))), hg⟩
theorem ly_0_0 : u_lay RX0 TX0 0 ∈ wg := (wg_m2 25 (by decide +kernel) rfl)
theorem ly_0_1 : u_lay RX0 TX0 1 ∈ wg := (wg_m2 27 (by decide +kernel) rfl)
theorem ly_0_2 : u_lay RX0 TX0 2 ∈ wg := (wg_m2 29 (by decide +kernel) rfl)
theorem ly_0_3 : u_lay RX0 TX0 3 ∈ wg := (wg_m2 31 (by decide +kernel) rfl)
theorem cok0 : clOk (RX0, TX0, 4) := by
  refine ⟨fun w hw => ?_, ⟨tyX0, tyX0_ok⟩, nmX0⟩
  obtain ⟨k, hk, rfl⟩ := List.mem_map.mp hw
  have hk := List.mem_range.mp hk
  match k, hk with
  | 0, _ => exact ly_0_0
  | 1, _ => exact ly_0_1
  | 2, _ => exact ly_0_2
  | 3, _ => exact ly_0_3
  | k + 4, h => exact absurd h (by omega)
theorem ly_1_0 : u_lay RX1 TX1 0 ∈ wg := (wg_m1 219 (by decide +kernel) rfl)
theorem ly_1_1 : u_lay RX1 TX1 1 ∈ wg := (wg_m1 221 (by decide +kernel) rfl)
theorem ly_1_2 : u_lay RX1 TX1 2 ∈ wg := (wg_m1 223 (by decide +kernel) rfl)
theorem cok1 : clOk (RX1, TX1, 3) := by
  refine ⟨fun w hw => ?_, ⟨tyX1, tyX1_ok⟩, nmX1⟩
  obtain ⟨k, hk, rfl⟩ := List.mem_map.mp hw
  have hk := List.mem_range.mp hk
  match k, hk with
  | 0, _ => exact ly_1_0
  | 1, _ => exact ly_1_1
  | 2, _ => exact ly_1_2
  | k + 3, h => exact absurd h (by omega)
theorem ly_2_0 : u_lay RX2 TX2 0 ∈ wg := (wg_m1 80 (by decide +kernel) rfl)
theorem ly_2_1 : u_lay RX2 TX2 1 ∈ wg := (wg_m1 82 (by decide +kernel) rfl)
theorem ly_2_2 : u_lay RX2 TX2 2 ∈ wg := (wg_m1 84 (by decide +kernel) rfl)
theorem ly_2_3 : u_lay RX2 TX2 3 ∈ wg := (wg_m1 86 (by decide +kernel) rfl)
theorem cok2 : clOk (RX2, TX2, 4) := by
  refine ⟨fun w hw => ?_, ⟨tyX2, tyX2_ok⟩, nmX2⟩
  obtain ⟨k, hk, rfl⟩ := List.mem_map.mp hw
  have hk := List.mem_range.mp hk
  match k, hk with
  | 0, _ => exact ly_2_0
  | 1, _ => exact ly_2_1
  | 2, _ => exact ly_2_2
  | 3, _ => exact ly_2_3
  | k + 4, h => exact absurd h (by omega)
theorem ly_3_0 : u_lay RX3 TX3 0 ∈ wg := (wg_m1 39 (by decide +kernel) rfl)
theorem ly_3_1 : u_lay RX3 TX3 1 ∈ wg := (wg_m1 41 (by decide +kernel) rfl)
theorem cok3 : clOk (RX3, TX3, 2) := by
  refine ⟨fun w hw => ?_, ⟨tyX3, tyX3_ok⟩, nmX3⟩
  obtain ⟨k, hk, rfl⟩ := List.mem_map.mp hw
  have hk := List.mem_range.mp hk
  match k, hk with
  | 0, _ => exact ly_3_0
  | 1, _ => exact ly_3_1
  | k + 2, h => exact absurd h (by omega)
theorem ly_4_0 : u_lay RX4 TX4 0 ∈ wg := (wg_m1 199 (by decide +kernel) rfl)
theorem ly_4_1 : u_lay RX4 TX4 1 ∈ wg := (wg_m1 201 (by decide +kernel) rfl)
theorem ly_4_2 : u_lay RX4 TX4 2 ∈ wg := (wg_m1 203 (by decide +kernel) rfl)
theorem cok4 : clOk (RX4, TX4, 3) := by
  refine ⟨fun w hw => ?_, ⟨tyX4, tyX4_ok⟩, nmX4⟩
  obtain ⟨k, hk, rfl⟩ := List.mem_map.mp hw
  have hk := List.mem_range.mp hk
  match k, hk with
  | 0, _ => exact ly_4_0
  | 1, _ => exact ly_4_1
  | 2, _ => exact ly_4_2
  | k + 3, h => exact absurd h (by omega)
theorem ly_5_0 : u_lay RX5 TX5 0 ∈ wg := (wg_m1 149 (by decide +kernel) rfl)
theorem ly_5_1 : u_lay RX5 TX5 1 ∈ wg := (wg_m1 151 (by decide +kernel) rfl)
theorem ly_5_2 : u_lay RX5 TX5 2 ∈ wg := (wg_m1 153 (by decide +kernel) rfl)
theorem ly_5_3 : u_lay RX5 TX5 3 ∈ wg := (wg_m1 155 (by decide +kernel) rfl)
theorem ly_5_4 : u_lay RX5 TX5 4 ∈ wg := (wg_m1 157 (by decide +kernel) rfl)
theorem ly_5_5 : u_lay RX5 TX5 5 ∈ wg := (wg_m1 159 (by decide +kernel) rfl)
theorem ly_5_6 : u_lay RX5 TX5 6 ∈ wg := (wg_m1 161 (by decide +kernel) rfl)
theorem cok5 : clOk (RX5, TX5, 7) := by
  refine ⟨fun w hw => ?_, ⟨tyX5, tyX5_ok⟩, nmX5⟩
  obtain ⟨k, hk, rfl⟩ := List.mem_map.mp hw
  have hk := List.mem_range.mp hk
  match k, hk with
  | 0, _ => exact ly_5_0
  | 1, _ => exact ly_5_1
  | 2, _ => exact ly_5_2
  | 3, _ => exact ly_5_3
  | 4, _ => exact ly_5_4
  | 5, _ => exact ly_5_5
  | 6, _ => exact ly_5_6
  | k + 7, h => exact absurd h (by omega)
theorem ly_6_0 : u_lay RX6 TX6 0 ∈ wg := (wg_m2 60 (by decide +kernel) rfl)
theorem ly_6_1 : u_lay RX6 TX6 1 ∈ wg := (wg_m2 62 (by decide +kernel) rfl)
theorem ly_6_2 : u_lay RX6 TX6 2 ∈ wg := (wg_m2 64 (by decide +kernel) rfl)
theorem ly_6_3 : u_lay RX6 TX6 3 ∈ wg := (wg_m2 66 (by decide +kernel) rfl)
theorem ly_6_4 : u_lay RX6 TX6 4 ∈ wg := (wg_m2 68 (by decide +kernel) rfl)
theorem ly_6_5 : u_lay RX6 TX6 5 ∈ wg := (wg_m2 70 (by decide +kernel) rfl)
theorem ly_6_6 : u_lay RX6 TX6 6 ∈ wg := (wg_m2 72 (by decide +kernel) rfl)
theorem ly_6_7 : u_lay RX6 TX6 7 ∈ wg := (wg_m2 74 (by decide +kernel) rfl)
theorem ly_6_8 : u_lay RX6 TX6 8 ∈ wg := (wg_m2 76 (by decide +kernel) rfl)
theorem ly_6_9 : u_lay RX6 TX6 9 ∈ wg := (wg_m2 78 (by decide +kernel) rfl)
theorem ly_6_10 : u_lay RX6 TX6 10 ∈ wg := (wg_m2 80 (by decide +kernel) rfl)
theorem ly_6_11 : u_lay RX6 TX6 11 ∈ wg := (wg_m2 82 (by decide +kernel) rfl)
theorem ly_6_12 : u_lay RX6 TX6 12 ∈ wg := (wg_m2 84 (by decide +kernel) rfl)
theorem ly_6_13 : u_lay RX6 TX6 13 ∈ wg := (wg_m2 86 (by decide +kernel) rfl)
theorem ly_6_14 : u_lay RX6 TX6 14 ∈ wg := (wg_m2 88 (by decide +kernel) rfl)
theorem ly_6_15 : u_lay RX6 TX6 15 ∈ wg := (wg_m2 90 (by decide +kernel) rfl)
theorem ly_6_16 : u_lay RX6 TX6 16 ∈ wg := (wg_m2 92 (by decide +kernel) rfl)
theorem cok6 : clOk (RX6, TX6, 17) := by
  refine ⟨fun w hw => ?_, ⟨tyX6, tyX6_ok⟩, nmX6⟩
  obtain ⟨k, hk, rfl⟩ := List.mem_map.mp hw
  have hk := List.mem_range.mp hk
  match k, hk with
  | 0, _ => exact ly_6_0
  | 1, _ => exact ly_6_1
  | 2, _ => exact ly_6_2
  | 3, _ => exact ly_6_3
  | 4, _ => exact ly_6_4
  | 5, _ => exact ly_6_5
  | 6, _ => exact ly_6_6
  | 7, _ => exact ly_6_7
  | 8, _ => exact ly_6_8
  | 9, _ => exact ly_6_9
  | 10, _ => exact ly_6_10
  | 11, _ => exact ly_6_11
  | 12, _ => exact ly_6_12
  | 13, _ => exact ly_6_13
  | 14, _ => exact ly_6_14
  | 15, _ => exact ly_6_15
  | 16, _ => exact ly_6_16
  | k + 17, h => exact absurd h (by omega)
theorem ly_7_0 : u_lay RX7 TX7 0 ∈ wg := (wg_m1 110 (by decide +kernel) rfl)
theorem ly_7_1 : u_lay RX7 TX7 1 ∈ wg := (wg_m1 112 (by decide +kernel) rfl)
theorem ly_7_2 : u_lay RX7 TX7 2 ∈ wg := (wg_m1 114 (by decide +kernel) rfl)
theorem cok7 : clOk (RX7, TX7, 3) := by
  refine ⟨fun w hw => ?_, ⟨tyX7, tyX7_ok⟩, nmX7⟩
  obtain ⟨k, hk, rfl⟩ := List.mem_map.mp hw
  have hk := List.mem_range.mp hk
  match k, hk with
  | 0, _ => exact ly_7_0
  | 1, _ => exact ly_7_1
  | 2, _ => exact ly_7_2
  | k + 3, h => exact absurd h (by omega)
theorem ly_8_0 : u_lay RX8 TX8 0 ∈ wg := (wg_m1 180 (by decide +kernel) rfl)
theorem ly_8_1 : u_lay RX8 TX8 1 ∈ wg := (wg_m1 182 (by decide +kernel) rfl)
theorem ly_8_2 : u_lay RX8 TX8 2 ∈ wg := (wg_m1 184 (by decide +kernel) rfl)
theorem cok8 : clOk (RX8, TX8, 3) := by
  refine ⟨fun w hw => ?_, ⟨tyX8, tyX8_ok⟩, nmX8⟩
  obtain ⟨k, hk, rfl⟩ := List.mem_map.mp hw
  have hk := List.mem_range.mp hk
  match k, hk with
  | 0, _ => exact ly_8_0
  | 1, _ => exact ly_8_1
  | 2, _ => exact ly_8_2
  | k + 3, h => exact absurd h (by omega)
theorem ly_9_0 : u_lay RX9 TX9 0 ∈ wg := (wg_m2 2 (by decide +kernel) rfl)
theorem ly_9_1 : u_lay RX9 TX9 1 ∈ wg := (wg_m2 4 (by decide +kernel) rfl)
theorem ly_9_2 : u_lay RX9 TX9 2 ∈ wg := (wg_m2 6 (by decide +kernel) rfl)
theorem ly_9_3 : u_lay RX9 TX9 3 ∈ wg := (wg_m2 8 (by decide +kernel) rfl)
theorem ly_9_4 : u_lay RX9 TX9 4 ∈ wg := (wg_m2 10 (by decide +kernel) rfl)
theorem cok9 : clOk (RX9, TX9, 5) := by
  refine ⟨fun w hw => ?_, ⟨tyX9, tyX9_ok⟩, nmX9⟩
  obtain ⟨k, hk, rfl⟩ := List.mem_map.mp hw
  have hk := List.mem_range.mp hk
  match k, hk with
  | 0, _ => exact ly_9_0
  | 1, _ => exact ly_9_1
  | 2, _ => exact ly_9_2
  | 3, _ => exact ly_9_3
  | 4, _ => exact ly_9_4
  | k + 5, h => exact absurd h (by omega)
theorem ly_10_0 : u_lay RX10 TX10 0 ∈ wg := (wg_m3 14 (by decide +kernel) rfl)
theorem ly_10_1 : u_lay RX10 TX10 1 ∈ wg := (wg_m3 16 (by decide +kernel) rfl)
theorem ly_10_2 : u_lay RX10 TX10 2 ∈ wg := (wg_m3 18 (by decide +kernel) rfl)
theorem ly_10_3 : u_lay RX10 TX10 3 ∈ wg := (wg_m3 20 (by decide +kernel) rfl)
theorem ly_10_4 : u_lay RX10 TX10 4 ∈ wg := (wg_m3 22 (by decide +kernel) rfl)
theorem ly_10_5 : u_lay RX10 TX10 5 ∈ wg := (wg_m3 24 (by decide +kernel) rfl)
theorem ly_10_6 : u_lay RX10 TX10 6 ∈ wg := (wg_m3 26 (by decide +kernel) rfl)
theorem cok10 : clOk (RX10, TX10, 7) := by
  refine ⟨fun w hw => ?_, ⟨tyX10, tyX10_ok⟩, nmX10⟩
  obtain ⟨k, hk, rfl⟩ := List.mem_map.mp hw
  have hk := List.mem_range.mp hk
  match k, hk with
  | 0, _ => exact ly_10_0
  | 1, _ => exact ly_10_1
  | 2, _ => exact ly_10_2
  | 3, _ => exact ly_10_3
  | 4, _ => exact ly_10_4
  | 5, _ => exact ly_10_5
  | 6, _ => exact ly_10_6
  | k + 7, h => exact absurd h (by omega)
theorem ly_11_0 : u_lay RX11 TX11 0 ∈ wg := (wg_m4 152 (by decide +kernel) rfl)
theorem ly_11_1 : u_lay RX11 TX11 1 ∈ wg := (wg_m4 154 (by decide +kernel) rfl)
theorem ly_11_2 : u_lay RX11 TX11 2 ∈ wg := (wg_m4 156 (by decide +kernel) rfl)
theorem ly_11_3 : u_lay RX11 TX11 3 ∈ wg := (wg_m4 158 (by decide +kernel) rfl)
theorem ly_11_4 : u_lay RX11 TX11 4 ∈ wg := (wg_m4 160 (by decide +kernel) rfl)
theorem ly_11_5 : u_lay RX11 TX11 5 ∈ wg := (wg_m4 162 (by decide +kernel) rfl)
theorem ly_11_6 : u_lay RX11 TX11 6 ∈ wg := (wg_m4 164 (by decide +kernel) rfl)
theorem ly_11_7 : u_lay RX11 TX11 7 ∈ wg := (wg_m4 166 (by decide +kernel) rfl)
theorem ly_11_8 : u_lay RX11 TX11 8 ∈ wg := (wg_m4 168 (by decide +kernel) rfl)
theorem ly_11_9 : u_lay RX11 TX11 9 ∈ wg := (wg_m4 170 (by decide +kernel) rfl)
theorem ly_11_10 : u_lay RX11 TX11 10 ∈ wg := (wg_m4 172 (by decide +kernel) rfl)
theorem ly_11_11 : u_lay RX11 TX11 11 ∈ wg := (wg_m4 174 (by decide +kernel) rfl)
theorem ly_11_12 : u_lay RX11 TX11 12 ∈ wg := (wg_m4 176 (by decide +kernel) rfl)
theorem ly_11_13 : u_lay RX11 TX11 13 ∈ wg := (wg_m4 178 (by decide +kernel) rfl)
theorem ly_11_14 : u_lay RX11 TX11 14 ∈ wg := (wg_m4 180 (by decide +kernel) rfl)
theorem ly_11_15 : u_lay RX11 TX11 15 ∈ wg := (wg_m4 182 (by decide +kernel) rfl)
theorem ly_11_16 : u_lay RX11 TX11 16 ∈ wg := (wg_m4 184 (by decide +kernel) rfl)
theorem ly_11_17 : u_lay RX11 TX11 17 ∈ wg := (wg_m4 186 (by decide +kernel) rfl)
theorem ly_11_18 : u_lay RX11 TX11 18 ∈ wg := (wg_m4 188 (by decide +kernel) rfl)
theorem ly_11_19 : u_lay RX11 TX11 19 ∈ wg := (wg_m4 190 (by decide +kernel) rfl)
theorem ly_11_20 : u_lay RX11 TX11 20 ∈ wg := (wg_m4 192 (by decide +kernel) rfl)
theorem ly_11_21 : u_lay RX11 TX11 21 ∈ wg := (wg_m4 194 (by decide +kernel) rfl)
theorem ly_11_22 : u_lay RX11 TX11 22 ∈ wg := (wg_m4 196 (by decide +kernel) rfl)
theorem ly_11_23 : u_lay RX11 TX11 23 ∈ wg := (wg_m4 198 (by decide +kernel) rfl)
theorem ly_11_24 : u_lay RX11 TX11 24 ∈ wg := (wg_m4 200 (by decide +kernel) rfl)
theorem ly_11_25 : u_lay RX11 TX11 25 ∈ wg := (wg_m4 202 (by decide +kernel) rfl)
theorem ly_11_26 : u_lay RX11 TX11 26 ∈ wg := (wg_m4 204 (by decide +kernel) rfl)
theorem ly_11_27 : u_lay RX11 TX11 27 ∈ wg := (wg_m4 206 (by decide +kernel) rfl)
theorem cok11 : clOk (RX11, TX11, 28) := by
  refine ⟨fun w hw => ?_, ⟨tyX11, tyX11_ok⟩, nmX11⟩
  obtain ⟨k, hk, rfl⟩ := List.mem_map.mp hw
  have hk := List.mem_range.mp hk
  match k, hk with
  | 0, _ => exact ly_11_0
  | 1, _ => exact ly_11_1
  | 2, _ => exact ly_11_2
  | 3, _ => exact ly_11_3
  | 4, _ => exact ly_11_4
  | 5, _ => exact ly_11_5
  | 6, _ => exact ly_11_6
  | 7, _ => exact ly_11_7
  | 8, _ => exact ly_11_8
  | 9, _ => exact ly_11_9
  | 10, _ => exact ly_11_10
  | 11, _ => exact ly_11_11
  | 12, _ => exact ly_11_12
  | 13, _ => exact ly_11_13
  | 14, _ => exact ly_11_14
  | 15, _ => exact ly_11_15
  | 16, _ => exact ly_11_16
  | 17, _ => exact ly_11_17
  | 18, _ => exact ly_11_18
  | 19, _ => exact ly_11_19
  | 20, _ => exact ly_11_20
  | 21, _ => exact ly_11_21
  | 22, _ => exact ly_11_22
  | 23, _ => exact ly_11_23
  | 24, _ => exact ly_11_24
  | 25, _ => exact ly_11_25
  | 26, _ => exact ly_11_26
  | 27, _ => exact ly_11_27
  | k + 28, h => exact absurd h (by omega)
def LC : List CD := [.inr (.inl (10, [some 1, some 3, some 66, some 15, some 17, some 22, some 48])), .inr (.inl (3, [some 2, none])), .inl (1, 200), .inr (.inl (4, [some 30, some 4, some 11])), .inr (.inl (5, [some 5, some 6, some 7, some 8, some 9, some 10, none])), .inl (0, 24), .inl (0, 24), .inl (0, 24), .inl (0, 24), .inl (0, 24), .inl (0, 24), .inr (.inl (8, [some 12, some 13, some 14])), .inl (0, 24), .inl (0, 4), .inl (0, 4), .inr (.inl (9, [some 16, none, none, none, none])), .inl (0, 60), .inr (.inl (0, [some 18, some 19, some 20, some 21])), .inl (0, 25), .inl (0, 25), .inl (0, 25), .inl (0, 25), .inr (.inl (6, [some 23, some 24, some 25, some 26, some 27, some 28, none, none, none, none, none, none, none, none, some 29, none, none])), .inl (0, 6), .inl (0, 36), .inl (0, 6), .inl (0, 128), .inl (0, 64), .inl (0, 6), .inl (0, 6), .inr (.inl (7, [some 31, some 37, some 42])), .inr (.inl (2, [some 1000, some 1001, some 32, none])), .inr (.inr (3, [33, 34, 35, 36])), .inl (0, 5), .inl (0, 5), .inl (0, 5), .inl (0, 5), .inr (.inl (2, [some 1002, some 1003, some 38, none])), .inr (.inr (3, [39, 40, 41])), .inl (0, 2), .inl (0, 2), .inl (0, 2), .inr (.inl (2, [some 1004, some 1005, some 43, none])), .inr (.inr (3, [44, 45, 46, 47])), .inl (0, 3), .inl (0, 3), .inl (0, 3), .inl (0, 3), .inr (.inl (7, [some 49, some 55, some 60])), .inr (.inl (2, [some 1000, some 1001, some 50, none])), .inr (.inr (3, [51, 52, 53, 54])), .inl (0, 5), .inl (0, 5), .inl (0, 5), .inl (0, 5), .inr (.inl (2, [some 1002, some 1003, some 56, none])), .inr (.inr (3, [57, 58, 59])), .inl (0, 2), .inl (0, 2), .inl (0, 2), .inr (.inl (2, [some 1004, some 1005, some 61, none])), .inr (.inr (3, [62, 63, 64, 65])), .inl (0, 3), .inl (0, 3), .inl (0, 3), .inl (0, 3), .inr (.inl (1, [some 67, none, none])), .inr (.inr (2, [68, 72, 76, 80, 84, 88])), .inr (.inl (8, [some 69, some 70, some 71])), .inl (0, 24), .inl (0, 4), .inl (0, 4), .inr (.inl (8, [some 73, some 74, some 75])), .inl (0, 24), .inl (0, 4), .inl (0, 4), .inr (.inl (8, [some 77, some 78, some 79])), .inl (0, 24), .inl (0, 4), .inl (0, 4), .inr (.inl (8, [some 81, some 82, some 83])), .inl (0, 24), .inl (0, 4), .inl (0, 4), .inr (.inl (8, [some 85, some 86, some 87])), .inl (0, 24), .inl (0, 4), .inl (0, 4), .inr (.inl (8, [some 89, some 90, some 91])), .inl (0, 24), .inl (0, 4), .inl (0, 4)]
theorem lC_0 : LC[0]? = some (.inr (.inl (10, [some 1, some 3, some 66, some 15, some 17, some 22, some 48]))) := rfl
theorem lC_1 : LC[1]? = some (.inr (.inl (3, [some 2, none]))) := rfl
theorem lC_2 : LC[2]? = some (.inl (1, 200)) := rfl
theorem lC_3 : LC[3]? = some (.inr (.inl (4, [some 30, some 4, some 11]))) := rfl
theorem lC_4 : LC[4]? = some (.inr (.inl (5, [some 5, some 6, some 7, some 8, some 9, some 10, none]))) := rfl
theorem lC_5 : LC[5]? = some (.inl (0, 24)) := rfl
theorem lC_6 : LC[6]? = some (.inl (0, 24)) := rfl
theorem lC_7 : LC[7]? = some (.inl (0, 24)) := rfl
theorem lC_8 : LC[8]? = some (.inl (0, 24)) := rfl
theorem lC_9 : LC[9]? = some (.inl (0, 24)) := rfl
theorem lC_10 : LC[10]? = some (.inl (0, 24)) := rfl
theorem lC_11 : LC[11]? = some (.inr (.inl (8, [some 12, some 13, some 14]))) := rfl
theorem lC_12 : LC[12]? = some (.inl (0, 24)) := rfl
theorem lC_13 : LC[13]? = some (.inl (0, 4)) := rfl
theorem lC_14 : LC[14]? = some (.inl (0, 4)) := rfl
theorem lC_15 : LC[15]? = some (.inr (.inl (9, [some 16, none, none, none, none]))) := rfl
theorem lC_16 : LC[16]? = some (.inl (0, 60)) := rfl
theorem lC_17 : LC[17]? = some (.inr (.inl (0, [some 18, some 19, some 20, some 21]))) := rfl
theorem lC_18 : LC[18]? = some (.inl (0, 25)) := rfl
theorem lC_19 : LC[19]? = some (.inl (0, 25)) := rfl
theorem lC_20 : LC[20]? = some (.inl (0, 25)) := rfl
theorem lC_21 : LC[21]? = some (.inl (0, 25)) := rfl
theorem lC_22 : LC[22]? = some (.inr (.inl (6, [some 23, some 24, some 25, some 26, some 27, some 28, none, none, none, none, none, none, none, none, some 29, none, none]))) := rfl
theorem lC_23 : LC[23]? = some (.inl (0, 6)) := rfl
theorem lC_24 : LC[24]? = some (.inl (0, 36)) := rfl
theorem lC_25 : LC[25]? = some (.inl (0, 6)) := rfl
theorem lC_26 : LC[26]? = some (.inl (0, 128)) := rfl
theorem lC_27 : LC[27]? = some (.inl (0, 64)) := rfl
theorem lC_28 : LC[28]? = some (.inl (0, 6)) := rfl
theorem lC_29 : LC[29]? = some (.inl (0, 6)) := rfl
theorem lC_30 : LC[30]? = some (.inr (.inl (7, [some 31, some 37, some 42]))) := rfl
theorem lC_31 : LC[31]? = some (.inr (.inl (2, [some 1000, some 1001, some 32, none]))) := rfl
theorem lC_32 : LC[32]? = some (.inr (.inr (3, [33, 34, 35, 36]))) := rfl
theorem lC_33 : LC[33]? = some (.inl (0, 5)) := rfl
theorem lC_34 : LC[34]? = some (.inl (0, 5)) := rfl
theorem lC_35 : LC[35]? = some (.inl (0, 5)) := rfl
theorem lC_36 : LC[36]? = some (.inl (0, 5)) := rfl
theorem lC_37 : LC[37]? = some (.inr (.inl (2, [some 1002, some 1003, some 38, none]))) := rfl
theorem lC_38 : LC[38]? = some (.inr (.inr (3, [39, 40, 41]))) := rfl
theorem lC_39 : LC[39]? = some (.inl (0, 2)) := rfl
theorem lC_40 : LC[40]? = some (.inl (0, 2)) := rfl
theorem lC_41 : LC[41]? = some (.inl (0, 2)) := rfl
theorem lC_42 : LC[42]? = some (.inr (.inl (2, [some 1004, some 1005, some 43, none]))) := rfl
theorem lC_43 : LC[43]? = some (.inr (.inr (3, [44, 45, 46, 47]))) := rfl
theorem lC_44 : LC[44]? = some (.inl (0, 3)) := rfl
theorem lC_45 : LC[45]? = some (.inl (0, 3)) := rfl
theorem lC_46 : LC[46]? = some (.inl (0, 3)) := rfl
theorem lC_47 : LC[47]? = some (.inl (0, 3)) := rfl
theorem lC_48 : LC[48]? = some (.inr (.inl (7, [some 49, some 55, some 60]))) := rfl
theorem lC_49 : LC[49]? = some (.inr (.inl (2, [some 1000, some 1001, some 50, none]))) := rfl
theorem lC_50 : LC[50]? = some (.inr (.inr (3, [51, 52, 53, 54]))) := rfl
theorem lC_51 : LC[51]? = some (.inl (0, 5)) := rfl
theorem lC_52 : LC[52]? = some (.inl (0, 5)) := rfl
theorem lC_53 : LC[53]? = some (.inl (0, 5)) := rfl
theorem lC_54 : LC[54]? = some (.inl (0, 5)) := rfl
theorem lC_55 : LC[55]? = some (.inr (.inl (2, [some 1002, some 1003, some 56, none]))) := rfl
theorem lC_56 : LC[56]? = some (.inr (.inr (3, [57, 58, 59]))) := rfl
theorem lC_57 : LC[57]? = some (.inl (0, 2)) := rfl
theorem lC_58 : LC[58]? = some (.inl (0, 2)) := rfl
theorem lC_59 : LC[59]? = some (.inl (0, 2)) := rfl
theorem lC_60 : LC[60]? = some (.inr (.inl (2, [some 1004, some 1005, some 61, none]))) := rfl
theorem lC_61 : LC[61]? = some (.inr (.inr (3, [62, 63, 64, 65]))) := rfl
theorem lC_62 : LC[62]? = some (.inl (0, 3)) := rfl
theorem lC_63 : LC[63]? = some (.inl (0, 3)) := rfl
theorem lC_64 : LC[64]? = some (.inl (0, 3)) := rfl
theorem lC_65 : LC[65]? = some (.inl (0, 3)) := rfl
theorem lC_66 : LC[66]? = some (.inr (.inl (1, [some 67, none, none]))) := rfl
theorem lC_67 : LC[67]? = some (.inr (.inr (2, [68, 72, 76, 80, 84, 88]))) := rfl
theorem lC_68 : LC[68]? = some (.inr (.inl (8, [some 69, some 70, some 71]))) := rfl
theorem lC_69 : LC[69]? = some (.inl (0, 24)) := rfl
theorem lC_70 : LC[70]? = some (.inl (0, 4)) := rfl
theorem lC_71 : LC[71]? = some (.inl (0, 4)) := rfl
theorem lC_72 : LC[72]? = some (.inr (.inl (8, [some 73, some 74, some 75]))) := rfl
theorem lC_73 : LC[73]? = some (.inl (0, 24)) := rfl
theorem lC_74 : LC[74]? = some (.inl (0, 4)) := rfl
theorem lC_75 : LC[75]? = some (.inl (0, 4)) := rfl
theorem lC_76 : LC[76]? = some (.inr (.inl (8, [some 77, some 78, some 79]))) := rfl
theorem lC_77 : LC[77]? = some (.inl (0, 24)) := rfl
theorem lC_78 : LC[78]? = some (.inl (0, 4)) := rfl
theorem lC_79 : LC[79]? = some (.inl (0, 4)) := rfl
theorem lC_80 : LC[80]? = some (.inr (.inl (8, [some 81, some 82, some 83]))) := rfl
theorem lC_81 : LC[81]? = some (.inl (0, 24)) := rfl
theorem lC_82 : LC[82]? = some (.inl (0, 4)) := rfl
theorem lC_83 : LC[83]? = some (.inl (0, 4)) := rfl
theorem lC_84 : LC[84]? = some (.inr (.inl (8, [some 85, some 86, some 87]))) := rfl
theorem lC_85 : LC[85]? = some (.inl (0, 24)) := rfl
theorem lC_86 : LC[86]? = some (.inl (0, 4)) := rfl
theorem lC_87 : LC[87]? = some (.inl (0, 4)) := rfl
theorem lC_88 : LC[88]? = some (.inr (.inl (8, [some 89, some 90, some 91]))) := rfl
theorem lC_89 : LC[89]? = some (.inl (0, 24)) := rfl
theorem lC_90 : LC[90]? = some (.inl (0, 4)) := rfl
theorem lC_91 : LC[91]? = some (.inl (0, 4)) := rfl
def LM : List CD := [.inr (.inl (11, [none, some 1, none, some 2, some 3, some 4, some 5, some 6, some 7, some 8, some 9, some 10, some 11, some 12, some 13, some 14, none, some 15, some 16, none, some 17, some 18, some 19, some 20, some 21, some 22, some 23, some 24])), .inl (0, 200), .inl (0, 20), .inl (0, 6), .inl (0, 12), .inl (0, 3), .inl (0, 20), .inl (0, 6), .inl (0, 12), .inl (0, 3), .inl (0, 24), .inl (0, 24), .inl (0, 24), .inl (0, 24), .inl (0, 24), .inl (0, 32), .inl (0, 192), .inl (0, 25), .inl (0, 25), .inl (0, 25), .inl (0, 24), .inl (0, 6), .inl (0, 4), .inl (0, 4), .inl (0, 240)]
theorem lM_0 : LM[0]? = some (.inr (.inl (11, [none, some 1, none, some 2, some 3, some 4, some 5, some 6, some 7, some 8, some 9, some 10, some 11, some 12, some 13, some 14, none, some 15, some 16, none, some 17, some 18, some 19, some 20, some 21, some 22, some 23, some 24]))) := rfl
theorem lM_1 : LM[1]? = some (.inl (0, 200)) := rfl
theorem lM_2 : LM[2]? = some (.inl (0, 20)) := rfl
theorem lM_3 : LM[3]? = some (.inl (0, 6)) := rfl
theorem lM_4 : LM[4]? = some (.inl (0, 12)) := rfl
theorem lM_5 : LM[5]? = some (.inl (0, 3)) := rfl
theorem lM_6 : LM[6]? = some (.inl (0, 20)) := rfl
theorem lM_7 : LM[7]? = some (.inl (0, 6)) := rfl
theorem lM_8 : LM[8]? = some (.inl (0, 12)) := rfl
theorem lM_9 : LM[9]? = some (.inl (0, 3)) := rfl
theorem lM_10 : LM[10]? = some (.inl (0, 24)) := rfl
theorem lM_11 : LM[11]? = some (.inl (0, 24)) := rfl
theorem lM_12 : LM[12]? = some (.inl (0, 24)) := rfl
theorem lM_13 : LM[13]? = some (.inl (0, 24)) := rfl
theorem lM_14 : LM[14]? = some (.inl (0, 24)) := rfl
theorem lM_15 : LM[15]? = some (.inl (0, 32)) := rfl
theorem lM_16 : LM[16]? = some (.inl (0, 192)) := rfl
theorem lM_17 : LM[17]? = some (.inl (0, 25)) := rfl
theorem lM_18 : LM[18]? = some (.inl (0, 25)) := rfl
theorem lM_19 : LM[19]? = some (.inl (0, 25)) := rfl
theorem lM_20 : LM[20]? = some (.inl (0, 24)) := rfl
theorem lM_21 : LM[21]? = some (.inl (0, 6)) := rfl
theorem lM_22 : LM[22]? = some (.inl (0, 4)) := rfl
theorem lM_23 : LM[23]? = some (.inl (0, 4)) := rfl
theorem lM_24 : LM[24]? = some (.inl (0, 240)) := rfl
theorem gk_32 {i : Int32} (h : vp_in i 4) : ([33, 34, 35, 36] : List Nat)[i.toNatClampNeg]? = some (33 + i.toNatClampNeg) := by
  have hl := vp_lt h
  generalize i.toNatClampNeg = j at hl ⊢
  match j, hl with
  | 0, _ => rfl
  | 1, _ => rfl
  | 2, _ => rfl
  | 3, _ => rfl
  | q + 4, hl => exact absurd hl (by omega)
theorem gl_32 {j : Nat} (hl : j < 4) : LC[33 + j]? = some (.inl (0, 5)) := by
  match j, hl with
  | 0, _ => rfl
  | 1, _ => rfl
  | 2, _ => rfl
  | 3, _ => rfl
  | q + 4, hl => exact absurd hl (by omega)
theorem gk_38 {i : Int32} (h : vp_in i 3) : ([39, 40, 41] : List Nat)[i.toNatClampNeg]? = some (39 + i.toNatClampNeg) := by
  have hl := vp_lt h
  generalize i.toNatClampNeg = j at hl ⊢
  match j, hl with
  | 0, _ => rfl
  | 1, _ => rfl
  | 2, _ => rfl
  | q + 3, hl => exact absurd hl (by omega)
theorem gl_38 {j : Nat} (hl : j < 3) : LC[39 + j]? = some (.inl (0, 2)) := by
  match j, hl with
  | 0, _ => rfl
  | 1, _ => rfl
  | 2, _ => rfl
  | q + 3, hl => exact absurd hl (by omega)
theorem gk_43 {i : Int32} (h : vp_in i 4) : ([44, 45, 46, 47] : List Nat)[i.toNatClampNeg]? = some (44 + i.toNatClampNeg) := by
  have hl := vp_lt h
  generalize i.toNatClampNeg = j at hl ⊢
  match j, hl with
  | 0, _ => rfl
  | 1, _ => rfl
  | 2, _ => rfl
  | 3, _ => rfl
  | q + 4, hl => exact absurd hl (by omega)
theorem gl_43 {j : Nat} (hl : j < 4) : LC[44 + j]? = some (.inl (0, 3)) := by
  match j, hl with
  | 0, _ => rfl
  | 1, _ => rfl
  | 2, _ => rfl
  | 3, _ => rfl
  | q + 4, hl => exact absurd hl (by omega)
theorem gk_50 {i : Int32} (h : vp_in i 4) : ([51, 52, 53, 54] : List Nat)[i.toNatClampNeg]? = some (51 + i.toNatClampNeg) := by
  have hl := vp_lt h
  generalize i.toNatClampNeg = j at hl ⊢
  match j, hl with
  | 0, _ => rfl
  | 1, _ => rfl
  | 2, _ => rfl
  | 3, _ => rfl
  | q + 4, hl => exact absurd hl (by omega)
theorem gl_50 {j : Nat} (hl : j < 4) : LC[51 + j]? = some (.inl (0, 5)) := by
  match j, hl with
  | 0, _ => rfl
  | 1, _ => rfl
  | 2, _ => rfl
  | 3, _ => rfl
  | q + 4, hl => exact absurd hl (by omega)
theorem gk_56 {i : Int32} (h : vp_in i 3) : ([57, 58, 59] : List Nat)[i.toNatClampNeg]? = some (57 + i.toNatClampNeg) := by
  have hl := vp_lt h
  generalize i.toNatClampNeg = j at hl ⊢
  match j, hl with
  | 0, _ => rfl
  | 1, _ => rfl
  | 2, _ => rfl
  | q + 3, hl => exact absurd hl (by omega)
theorem gl_56 {j : Nat} (hl : j < 3) : LC[57 + j]? = some (.inl (0, 2)) := by
  match j, hl with
  | 0, _ => rfl
  | 1, _ => rfl
  | 2, _ => rfl
  | q + 3, hl => exact absurd hl (by omega)
theorem gk_61 {i : Int32} (h : vp_in i 4) : ([62, 63, 64, 65] : List Nat)[i.toNatClampNeg]? = some (62 + i.toNatClampNeg) := by
  have hl := vp_lt h
  generalize i.toNatClampNeg = j at hl ⊢
  match j, hl with
  | 0, _ => rfl
  | 1, _ => rfl
  | 2, _ => rfl
  | 3, _ => rfl
  | q + 4, hl => exact absurd hl (by omega)
theorem gl_61 {j : Nat} (hl : j < 4) : LC[62 + j]? = some (.inl (0, 3)) := by
  match j, hl with
  | 0, _ => rfl
  | 1, _ => rfl
  | 2, _ => rfl
  | 3, _ => rfl
  | q + 4, hl => exact absurd hl (by omega)
theorem gk_67 {i : Int32} (h : vp_in i 6) : ([68, 72, 76, 80, 84, 88] : List Nat)[i.toNatClampNeg]? = some (68 + 4 * i.toNatClampNeg) := by
  have hl := vp_lt h
  generalize i.toNatClampNeg = j at hl ⊢
  match j, hl with
  | 0, _ => rfl
  | 1, _ => rfl
  | 2, _ => rfl
  | 3, _ => rfl
  | 4, _ => rfl
  | 5, _ => rfl
  | q + 6, hl => exact absurd hl (by omega)
theorem gl_67_0 {j : Nat} (hl : j < 6) : LC[68 + 4 * j]? = some (.inr (.inl (8, [some (69 + 4 * j), some (70 + 4 * j), some (71 + 4 * j)]))) := by
  match j, hl with
  | 0, _ => rfl
  | 1, _ => rfl
  | 2, _ => rfl
  | 3, _ => rfl
  | 4, _ => rfl
  | 5, _ => rfl
  | q + 6, hl => exact absurd hl (by omega)
theorem gl_67_1 {j : Nat} (hl : j < 6) : LC[69 + 4 * j]? = some (.inl (0, 24)) := by
  match j, hl with
  | 0, _ => rfl
  | 1, _ => rfl
  | 2, _ => rfl
  | 3, _ => rfl
  | 4, _ => rfl
  | 5, _ => rfl
  | q + 6, hl => exact absurd hl (by omega)
theorem gl_67_2 {j : Nat} (hl : j < 6) : LC[70 + 4 * j]? = some (.inl (0, 4)) := by
  match j, hl with
  | 0, _ => rfl
  | 1, _ => rfl
  | 2, _ => rfl
  | 3, _ => rfl
  | 4, _ => rfl
  | 5, _ => rfl
  | q + 6, hl => exact absurd hl (by omega)
theorem gl_67_3 {j : Nat} (hl : j < 6) : LC[71 + 4 * j]? = some (.inl (0, 4)) := by
  match j, hl with
  | 0, _ => rfl
  | 1, _ => rfl
  | 2, _ => rfl
  | 3, _ => rfl
  | 4, _ => rfl
  | 5, _ => rfl
  | q + 6, hl => exact absurd hl (by omega)
def rom0 : Nat → Int32 := fun j => ([0, 6, 0, 1, 0] : List Int32).getD j 0
def rom1 : Nat → Int32 := fun j => ([59, 60, 1, 99, 9] : List Int32).getD j 0
def rom2 : Nat → Int32 := fun j => ([0, 1] : List Int32).getD j 0
def rom3 : Nat → Int32 := fun j => ([59, 9] : List Int32).getD j 0
def rom4 : Nat → Int32 := fun j => ([0, 0, 0] : List Int32).getD j 0
def rom5 : Nat → Int32 := fun j => ([2, 2, 5] : List Int32).getD j 0
def rlC : RomL := [(1000, 5, rom0), (1001, 5, rom1), (1002, 2, rom2), (1003, 2, rom3), (1004, 3, rom4), (1005, 3, rom5)]
end
