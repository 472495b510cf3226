-- ===== PART A: goes FIRST, ahead of the names: the tables' words, and 'selects' of the private methods out of them =====
/-- a private method of a class that the tables say can be made, by its rows of tables_1 -/
def lw_okq (q : MethodName × Nat) : Prop := (q.1.cls ≠ "java/lang/invoke/MethodHandle" ∧ q.1.cls ≠ "java/lang/invoke/VarHandle") ∧ Cond.instantiable q.1.cls q.2 ∈ tables_1 ∧ Cond.privateMethod q.1 ∈ tables_1 ∧ Cond.instanceMethod q.1 ∈ tables_1
theorem lw_p0 : lw_okq (⟨"CarpetCounter$History", "slotAt", "(I)LCarpetCounter$Book;"⟩, 3) := ⟨⟨by decide +kernel, by decide +kernel⟩, List.mem_of_getElem? (i := 209) (by decide +kernel), List.mem_of_getElem? (i := 323) (by decide +kernel), List.mem_of_getElem? (i := 324) (by decide +kernel)⟩
theorem lw_p1 : lw_okq (⟨"CarpetCounter$RoomText", "beginRoom", "()V"⟩, 6) := ⟨⟨by decide +kernel, by decide +kernel⟩, List.mem_of_getElem? (i := 229) (by decide +kernel), List.mem_of_getElem? (i := 372) (by decide +kernel), List.mem_of_getElem? (i := 373) (by decide +kernel)⟩
theorem lw_p2 : lw_okq (⟨"CarpetCounter$RoomText", "takes", "(I)Z"⟩, 6) := ⟨⟨by decide +kernel, by decide +kernel⟩, List.mem_of_getElem? (i := 229) (by decide +kernel), List.mem_of_getElem? (i := 385) (by decide +kernel), List.mem_of_getElem? (i := 386) (by decide +kernel)⟩
theorem lw_p3 : lw_okq (⟨"CarpetCounter$RoomText", "takesDigit", "(I)Z"⟩, 6) := ⟨⟨by decide +kernel, by decide +kernel⟩, List.mem_of_getElem? (i := 229) (by decide +kernel), List.mem_of_getElem? (i := 389) (by decide +kernel), List.mem_of_getElem? (i := 390) (by decide +kernel)⟩
theorem lw_p4 : lw_okq (⟨"CarpetCounter$RoomText", "takesBetweenSizes", "(I)Z"⟩, 6) := ⟨⟨by decide +kernel, by decide +kernel⟩, List.mem_of_getElem? (i := 229) (by decide +kernel), List.mem_of_getElem? (i := 393) (by decide +kernel), List.mem_of_getElem? (i := 394) (by decide +kernel)⟩
theorem lw_p5 : lw_okq (⟨"CarpetCounter$RoomText", "takesBehindSizes", "(I)Z"⟩, 6) := ⟨⟨by decide +kernel, by decide +kernel⟩, List.mem_of_getElem? (i := 229) (by decide +kernel), List.mem_of_getElem? (i := 397) (by decide +kernel), List.mem_of_getElem? (i := 398) (by decide +kernel)⟩
theorem lw_p6 : lw_okq (⟨"CarpetCounter$RoomText", "takesLight", "(I)Z"⟩, 6) := ⟨⟨by decide +kernel, by decide +kernel⟩, List.mem_of_getElem? (i := 229) (by decide +kernel), List.mem_of_getElem? (i := 414) (by decide +kernel), List.mem_of_getElem? (i := 415) (by decide +kernel)⟩
theorem lw_p7 : lw_okq (⟨"CarpetCounter$RoomText", "takesBetweenRooms", "(I)Z"⟩, 6) := ⟨⟨by decide +kernel, by decide +kernel⟩, List.mem_of_getElem? (i := 229) (by decide +kernel), List.mem_of_getElem? (i := 422) (by decide +kernel), List.mem_of_getElem? (i := 423) (by decide +kernel)⟩
theorem lw_p8 : lw_okq (⟨"CarpetCounter$Rooms", "stripsIn", "(II)I"⟩, 10) := ⟨⟨by decide +kernel, by decide +kernel⟩, List.mem_of_getElem? (i := 128) (by decide +kernel), List.mem_of_getElem? (i := 470) (by decide +kernel), List.mem_of_getElem? (i := 471) (by decide +kernel)⟩
theorem lw_p9 : lw_okq (⟨"CarpetCounter$Book", "takePiece", "(IIIII)Z"⟩, 7) := ⟨⟨by decide +kernel, by decide +kernel⟩, List.mem_of_getElem? (i := 22) (by decide +kernel), List.mem_of_getElem? (i := 491) (by decide +kernel), List.mem_of_getElem? (i := 492) (by decide +kernel)⟩
theorem lw_p10 : lw_okq (⟨"CarpetCounter$Book", "leaveRests", "(III)Z"⟩, 7) := ⟨⟨by decide +kernel, by decide +kernel⟩, List.mem_of_getElem? (i := 22) (by decide +kernel), List.mem_of_getElem? (i := 521) (by decide +kernel), List.mem_of_getElem? (i := 522) (by decide +kernel)⟩
theorem lw_p11 : lw_okq (⟨"CarpetCounter$Book", "isLongBeside", "(II)Z"⟩, 7) := ⟨⟨by decide +kernel, by decide +kernel⟩, List.mem_of_getElem? (i := 22) (by decide +kernel), List.mem_of_getElem? (i := 525) (by decide +kernel), List.mem_of_getElem? (i := 526) (by decide +kernel)⟩
theorem lw_p12 : lw_okq (⟨"CarpetCounter$Book", "leaveRest", "(III)Z"⟩, 7) := ⟨⟨by decide +kernel, by decide +kernel⟩, List.mem_of_getElem? (i := 22) (by decide +kernel), List.mem_of_getElem? (i := 532) (by decide +kernel), List.mem_of_getElem? (i := 533) (by decide +kernel)⟩
theorem lw_p13 : lw_okq (⟨"CarpetCounter$Book", "seamPrice", "(II)I"⟩, 7) := ⟨⟨by decide +kernel, by decide +kernel⟩, List.mem_of_getElem? (i := 22) (by decide +kernel), List.mem_of_getElem? (i := 549) (by decide +kernel), List.mem_of_getElem? (i := 550) (by decide +kernel)⟩
theorem lw_p14 : lw_okq (⟨"CarpetCounter$Offcuts", "rankOf", "(I)I"⟩, 6) := ⟨⟨by decide +kernel, by decide +kernel⟩, List.mem_of_getElem? (i := 90) (by decide +kernel), List.mem_of_getElem? (i := 662) (by decide +kernel), List.mem_of_getElem? (i := 663) (by decide +kernel)⟩
theorem lw_p15 : lw_okq (⟨"CarpetCounter", "covering", "(II)I"⟩, 8) := ⟨⟨by decide +kernel, by decide +kernel⟩, List.mem_of_getElem? (i := 14) (by decide +kernel), List.mem_of_getElem? (i := 671) (by decide +kernel), List.mem_of_getElem? (i := 672) (by decide +kernel)⟩
def lw_privs_1 : List (MethodName × Nat) := [(⟨"CarpetCounter$History", "slotAt", "(I)LCarpetCounter$Book;"⟩, 3), (⟨"CarpetCounter$RoomText", "beginRoom", "()V"⟩, 6), (⟨"CarpetCounter$RoomText", "takes", "(I)Z"⟩, 6), (⟨"CarpetCounter$RoomText", "takesDigit", "(I)Z"⟩, 6), (⟨"CarpetCounter$RoomText", "takesBetweenSizes", "(I)Z"⟩, 6), (⟨"CarpetCounter$RoomText", "takesBehindSizes", "(I)Z"⟩, 6), (⟨"CarpetCounter$RoomText", "takesLight", "(I)Z"⟩, 6), (⟨"CarpetCounter$RoomText", "takesBetweenRooms", "(I)Z"⟩, 6), (⟨"CarpetCounter$Rooms", "stripsIn", "(II)I"⟩, 10), (⟨"CarpetCounter$Book", "takePiece", "(IIIII)Z"⟩, 7), (⟨"CarpetCounter$Book", "leaveRests", "(III)Z"⟩, 7), (⟨"CarpetCounter$Book", "isLongBeside", "(II)Z"⟩, 7), (⟨"CarpetCounter$Book", "leaveRest", "(III)Z"⟩, 7), (⟨"CarpetCounter$Book", "seamPrice", "(II)I"⟩, 7), (⟨"CarpetCounter$Offcuts", "rankOf", "(I)I"⟩, 6), (⟨"CarpetCounter", "covering", "(II)I"⟩, 8)]
theorem lw_r1 : ∀ q ∈ lw_privs_1, lw_okq q := List.forall_mem_cons.mpr ⟨lw_p0, List.forall_mem_cons.mpr ⟨lw_p1, List.forall_mem_cons.mpr ⟨lw_p2, List.forall_mem_cons.mpr ⟨lw_p3, List.forall_mem_cons.mpr ⟨lw_p4, List.forall_mem_cons.mpr ⟨lw_p5, List.forall_mem_cons.mpr ⟨lw_p6, List.forall_mem_cons.mpr ⟨lw_p7, List.forall_mem_cons.mpr ⟨lw_p8, List.forall_mem_cons.mpr ⟨lw_p9, List.forall_mem_cons.mpr ⟨lw_p10, List.forall_mem_cons.mpr ⟨lw_p11, List.forall_mem_cons.mpr ⟨lw_p12, List.forall_mem_cons.mpr ⟨lw_p13, List.forall_mem_cons.mpr ⟨lw_p14, List.forall_mem_cons.mpr ⟨lw_p15, fun _ h => absurd h List.not_mem_nil⟩⟩⟩⟩⟩⟩⟩⟩⟩⟩⟩⟩⟩⟩⟩⟩
theorem lw_p16 : lw_okq (⟨"CarpetCounter", "setting", "(I)I"⟩, 8) := ⟨⟨by decide +kernel, by decide +kernel⟩, List.mem_of_getElem? (i := 14) (by decide +kernel), List.mem_of_getElem? (i := 705) (by decide +kernel), List.mem_of_getElem? (i := 706) (by decide +kernel)⟩
theorem lw_p17 : lw_okq (⟨"CarpetCounter", "choose", "(LCarpetCounter$Book;II)V"⟩, 8) := ⟨⟨by decide +kernel, by decide +kernel⟩, List.mem_of_getElem? (i := 14) (by decide +kernel), List.mem_of_getElem? (i := 728) (by decide +kernel), List.mem_of_getElem? (i := 729) (by decide +kernel)⟩
theorem lw_p18 : lw_okq (⟨"CarpetCounter$Book", "sufficesByWay", "(III)Z"⟩, 7) := ⟨⟨by decide +kernel, by decide +kernel⟩, List.mem_of_getElem? (i := 22) (by decide +kernel), List.mem_of_getElem? (i := 744) (by decide +kernel), List.mem_of_getElem? (i := 745) (by decide +kernel)⟩
theorem lw_p19 : lw_okq (⟨"CarpetCounterModel", "record", "()V"⟩, 15) := ⟨⟨by decide +kernel, by decide +kernel⟩, List.mem_of_getElem? (i := 755) (by decide +kernel), List.mem_of_getElem? (i := 814) (by decide +kernel), List.mem_of_getElem? (i := 815) (by decide +kernel)⟩
theorem lw_p20 : lw_okq (⟨"CarpetCounterModel", "add", "(III)V"⟩, 15) := ⟨⟨by decide +kernel, by decide +kernel⟩, List.mem_of_getElem? (i := 755) (by decide +kernel), List.mem_of_getElem? (i := 818) (by decide +kernel), List.mem_of_getElem? (i := 819) (by decide +kernel)⟩
theorem lw_p21 : lw_okq (⟨"CarpetCounterModel", "readAll", "()I"⟩, 15) := ⟨⟨by decide +kernel, by decide +kernel⟩, List.mem_of_getElem? (i := 755) (by decide +kernel), List.mem_of_getElem? (i := 826) (by decide +kernel), List.mem_of_getElem? (i := 827) (by decide +kernel)⟩
theorem lw_p22 : lw_okq (⟨"CarpetCounterModel", "readRoom", "()Z"⟩, 15) := ⟨⟨by decide +kernel, by decide +kernel⟩, List.mem_of_getElem? (i := 755) (by decide +kernel), List.mem_of_getElem? (i := 830) (by decide +kernel), List.mem_of_getElem? (i := 831) (by decide +kernel)⟩
theorem lw_p23 : lw_okq (⟨"CarpetCounterModel", "size", "(I)Z"⟩, 15) := ⟨⟨by decide +kernel, by decide +kernel⟩, List.mem_of_getElem? (i := 755) (by decide +kernel), List.mem_of_getElem? (i := 834) (by decide +kernel), List.mem_of_getElem? (i := 835) (by decide +kernel)⟩
theorem lw_p24 : lw_okq (⟨"CarpetCounterModel", "isNext", "(II)Z"⟩, 15) := ⟨⟨by decide +kernel, by decide +kernel⟩, List.mem_of_getElem? (i := 755) (by decide +kernel), List.mem_of_getElem? (i := 838) (by decide +kernel), List.mem_of_getElem? (i := 839) (by decide +kernel)⟩
theorem lw_p25 : lw_okq (⟨"CarpetCounterModel", "sign", "(I)Z"⟩, 15) := ⟨⟨by decide +kernel, by decide +kernel⟩, List.mem_of_getElem? (i := 755) (by decide +kernel), List.mem_of_getElem? (i := 842) (by decide +kernel), List.mem_of_getElem? (i := 843) (by decide +kernel)⟩
theorem lw_p26 : lw_okq (⟨"CarpetCounterModel", "put", "(III)V"⟩, 15) := ⟨⟨by decide +kernel, by decide +kernel⟩, List.mem_of_getElem? (i := 755) (by decide +kernel), List.mem_of_getElem? (i := 846) (by decide +kernel), List.mem_of_getElem? (i := 847) (by decide +kernel)⟩
theorem lw_p27 : lw_okq (⟨"CarpetCounterModel", "check", "(III)I"⟩, 15) := ⟨⟨by decide +kernel, by decide +kernel⟩, List.mem_of_getElem? (i := 755) (by decide +kernel), List.mem_of_getElem? (i := 854) (by decide +kernel), List.mem_of_getElem? (i := 855) (by decide +kernel)⟩
theorem lw_p28 : lw_okq (⟨"CarpetCounterModel", "isRoom", "(I)Z"⟩, 15) := ⟨⟨by decide +kernel, by decide +kernel⟩, List.mem_of_getElem? (i := 755) (by decide +kernel), List.mem_of_getElem? (i := 858) (by decide +kernel), List.mem_of_getElem? (i := 859) (by decide +kernel)⟩
theorem lw_p29 : lw_okq (⟨"CarpetCounterModel", "isRoll", "(I)Z"⟩, 15) := ⟨⟨by decide +kernel, by decide +kernel⟩, List.mem_of_getElem? (i := 755) (by decide +kernel), List.mem_of_getElem? (i := 862) (by decide +kernel), List.mem_of_getElem? (i := 863) (by decide +kernel)⟩
theorem lw_p30 : lw_okq (⟨"CarpetCounterModel", "lay", "()V"⟩, 15) := ⟨⟨by decide +kernel, by decide +kernel⟩, List.mem_of_getElem? (i := 755) (by decide +kernel), List.mem_of_getElem? (i := 866) (by decide +kernel), List.mem_of_getElem? (i := 867) (by decide +kernel)⟩
theorem lw_p31 : lw_okq (⟨"CarpetCounterModel", "coverNow", "(III)I"⟩, 15) := ⟨⟨by decide +kernel, by decide +kernel⟩, List.mem_of_getElem? (i := 755) (by decide +kernel), List.mem_of_getElem? (i := 870) (by decide +kernel), List.mem_of_getElem? (i := 871) (by decide +kernel)⟩
def lw_privs_2 : List (MethodName × Nat) := [(⟨"CarpetCounter", "setting", "(I)I"⟩, 8), (⟨"CarpetCounter", "choose", "(LCarpetCounter$Book;II)V"⟩, 8), (⟨"CarpetCounter$Book", "sufficesByWay", "(III)Z"⟩, 7), (⟨"CarpetCounterModel", "record", "()V"⟩, 15), (⟨"CarpetCounterModel", "add", "(III)V"⟩, 15), (⟨"CarpetCounterModel", "readAll", "()I"⟩, 15), (⟨"CarpetCounterModel", "readRoom", "()Z"⟩, 15), (⟨"CarpetCounterModel", "size", "(I)Z"⟩, 15), (⟨"CarpetCounterModel", "isNext", "(II)Z"⟩, 15), (⟨"CarpetCounterModel", "sign", "(I)Z"⟩, 15), (⟨"CarpetCounterModel", "put", "(III)V"⟩, 15), (⟨"CarpetCounterModel", "check", "(III)I"⟩, 15), (⟨"CarpetCounterModel", "isRoom", "(I)Z"⟩, 15), (⟨"CarpetCounterModel", "isRoll", "(I)Z"⟩, 15), (⟨"CarpetCounterModel", "lay", "()V"⟩, 15), (⟨"CarpetCounterModel", "coverNow", "(III)I"⟩, 15)]
theorem lw_r2 : ∀ q ∈ lw_privs_2, lw_okq q := List.forall_mem_cons.mpr ⟨lw_p16, List.forall_mem_cons.mpr ⟨lw_p17, List.forall_mem_cons.mpr ⟨lw_p18, List.forall_mem_cons.mpr ⟨lw_p19, List.forall_mem_cons.mpr ⟨lw_p20, List.forall_mem_cons.mpr ⟨lw_p21, List.forall_mem_cons.mpr ⟨lw_p22, List.forall_mem_cons.mpr ⟨lw_p23, List.forall_mem_cons.mpr ⟨lw_p24, List.forall_mem_cons.mpr ⟨lw_p25, List.forall_mem_cons.mpr ⟨lw_p26, List.forall_mem_cons.mpr ⟨lw_p27, List.forall_mem_cons.mpr ⟨lw_p28, List.forall_mem_cons.mpr ⟨lw_p29, List.forall_mem_cons.mpr ⟨lw_p30, List.forall_mem_cons.mpr ⟨lw_p31, fun _ h => absurd h List.not_mem_nil⟩⟩⟩⟩⟩⟩⟩⟩⟩⟩⟩⟩⟩⟩⟩⟩
theorem lw_p32 : lw_okq (⟨"CarpetCounterModel", "at", "(II)I"⟩, 15) := ⟨⟨by decide +kernel, by decide +kernel⟩, List.mem_of_getElem? (i := 755) (by decide +kernel), List.mem_of_getElem? (i := 874) (by decide +kernel), List.mem_of_getElem? (i := 875) (by decide +kernel)⟩
theorem lw_p33 : lw_okq (⟨"CarpetCounterModel", "isAcross", "(II)Z"⟩, 15) := ⟨⟨by decide +kernel, by decide +kernel⟩, List.mem_of_getElem? (i := 755) (by decide +kernel), List.mem_of_getElem? (i := 878) (by decide +kernel), List.mem_of_getElem? (i := 879) (by decide +kernel)⟩
theorem lw_p34 : lw_okq (⟨"CarpetCounterModel", "of", "(II)I"⟩, 15) := ⟨⟨by decide +kernel, by decide +kernel⟩, List.mem_of_getElem? (i := 755) (by decide +kernel), List.mem_of_getElem? (i := 882) (by decide +kernel), List.mem_of_getElem? (i := 883) (by decide +kernel)⟩
theorem lw_p35 : lw_okq (⟨"CarpetCounterModel", "wide", "(III)I"⟩, 15) := ⟨⟨by decide +kernel, by decide +kernel⟩, List.mem_of_getElem? (i := 755) (by decide +kernel), List.mem_of_getElem? (i := 886) (by decide +kernel), List.mem_of_getElem? (i := 887) (by decide +kernel)⟩
theorem lw_p36 : lw_okq (⟨"CarpetCounterModel", "longs", "(III)I"⟩, 15) := ⟨⟨by decide +kernel, by decide +kernel⟩, List.mem_of_getElem? (i := 755) (by decide +kernel), List.mem_of_getElem? (i := 890) (by decide +kernel), List.mem_of_getElem? (i := 891) (by decide +kernel)⟩
theorem lw_p37 : lw_okq (⟨"CarpetCounterModel", "offcutFor", "(III)I"⟩, 15) := ⟨⟨by decide +kernel, by decide +kernel⟩, List.mem_of_getElem? (i := 755) (by decide +kernel), List.mem_of_getElem? (i := 900) (by decide +kernel), List.mem_of_getElem? (i := 901) (by decide +kernel)⟩
theorem lw_p38 : lw_okq (⟨"CarpetCounterModel", "isKept", "(I)Z"⟩, 15) := ⟨⟨by decide +kernel, by decide +kernel⟩, List.mem_of_getElem? (i := 755) (by decide +kernel), List.mem_of_getElem? (i := 904) (by decide +kernel), List.mem_of_getElem? (i := 905) (by decide +kernel)⟩
theorem lw_p39 : lw_okq (⟨"CarpetCounterModel", "rollOfOffcut", "(I)I"⟩, 15) := ⟨⟨by decide +kernel, by decide +kernel⟩, List.mem_of_getElem? (i := 755) (by decide +kernel), List.mem_of_getElem? (i := 908) (by decide +kernel), List.mem_of_getElem? (i := 909) (by decide +kernel)⟩
theorem lw_p40 : lw_okq (⟨"CarpetCounterModel", "widthOf", "(I)I"⟩, 15) := ⟨⟨by decide +kernel, by decide +kernel⟩, List.mem_of_getElem? (i := 755) (by decide +kernel), List.mem_of_getElem? (i := 912) (by decide +kernel), List.mem_of_getElem? (i := 913) (by decide +kernel)⟩
theorem lw_p41 : lw_okq (⟨"CarpetCounterModel", "lengthOf", "(I)I"⟩, 15) := ⟨⟨by decide +kernel, by decide +kernel⟩, List.mem_of_getElem? (i := 755) (by decide +kernel), List.mem_of_getElem? (i := 916) (by decide +kernel), List.mem_of_getElem? (i := 917) (by decide +kernel)⟩
theorem lw_p42 : lw_okq (⟨"CarpetCounterModel", "areaOf", "(I)I"⟩, 15) := ⟨⟨by decide +kernel, by decide +kernel⟩, List.mem_of_getElem? (i := 755) (by decide +kernel), List.mem_of_getElem? (i := 920) (by decide +kernel), List.mem_of_getElem? (i := 921) (by decide +kernel)⟩
theorem lw_p43 : lw_okq (⟨"CarpetCounterModel", "drop", "(I)V"⟩, 15) := ⟨⟨by decide +kernel, by decide +kernel⟩, List.mem_of_getElem? (i := 755) (by decide +kernel), List.mem_of_getElem? (i := 924) (by decide +kernel), List.mem_of_getElem? (i := 925) (by decide +kernel)⟩
theorem lw_p44 : lw_okq (⟨"CarpetCounterModel", "cut", "(IIIII)Z"⟩, 15) := ⟨⟨by decide +kernel, by decide +kernel⟩, List.mem_of_getElem? (i := 755) (by decide +kernel), List.mem_of_getElem? (i := 928) (by decide +kernel), List.mem_of_getElem? (i := 929) (by decide +kernel)⟩
theorem lw_p45 : lw_okq (⟨"CarpetCounterModel", "rest", "(III)Z"⟩, 15) := ⟨⟨by decide +kernel, by decide +kernel⟩, List.mem_of_getElem? (i := 755) (by decide +kernel), List.mem_of_getElem? (i := 935) (by decide +kernel), List.mem_of_getElem? (i := 936) (by decide +kernel)⟩
theorem lw_p46 : lw_okq (⟨"CarpetCounterModel", "addOffcut", "(III)V"⟩, 15) := ⟨⟨by decide +kernel, by decide +kernel⟩, List.mem_of_getElem? (i := 755) (by decide +kernel), List.mem_of_getElem? (i := 939) (by decide +kernel), List.mem_of_getElem? (i := 940) (by decide +kernel)⟩
theorem lw_p47 : lw_okq (⟨"CarpetCounterModel", "keptOnes", "()I"⟩, 15) := ⟨⟨by decide +kernel, by decide +kernel⟩, List.mem_of_getElem? (i := 755) (by decide +kernel), List.mem_of_getElem? (i := 943) (by decide +kernel), List.mem_of_getElem? (i := 944) (by decide +kernel)⟩
def lw_privs_3 : List (MethodName × Nat) := [(⟨"CarpetCounterModel", "at", "(II)I"⟩, 15), (⟨"CarpetCounterModel", "isAcross", "(II)Z"⟩, 15), (⟨"CarpetCounterModel", "of", "(II)I"⟩, 15), (⟨"CarpetCounterModel", "wide", "(III)I"⟩, 15), (⟨"CarpetCounterModel", "longs", "(III)I"⟩, 15), (⟨"CarpetCounterModel", "offcutFor", "(III)I"⟩, 15), (⟨"CarpetCounterModel", "isKept", "(I)Z"⟩, 15), (⟨"CarpetCounterModel", "rollOfOffcut", "(I)I"⟩, 15), (⟨"CarpetCounterModel", "widthOf", "(I)I"⟩, 15), (⟨"CarpetCounterModel", "lengthOf", "(I)I"⟩, 15), (⟨"CarpetCounterModel", "areaOf", "(I)I"⟩, 15), (⟨"CarpetCounterModel", "drop", "(I)V"⟩, 15), (⟨"CarpetCounterModel", "cut", "(IIIII)Z"⟩, 15), (⟨"CarpetCounterModel", "rest", "(III)Z"⟩, 15), (⟨"CarpetCounterModel", "addOffcut", "(III)V"⟩, 15), (⟨"CarpetCounterModel", "keptOnes", "()I"⟩, 15)]
theorem lw_r3 : ∀ q ∈ lw_privs_3, lw_okq q := List.forall_mem_cons.mpr ⟨lw_p32, List.forall_mem_cons.mpr ⟨lw_p33, List.forall_mem_cons.mpr ⟨lw_p34, List.forall_mem_cons.mpr ⟨lw_p35, List.forall_mem_cons.mpr ⟨lw_p36, List.forall_mem_cons.mpr ⟨lw_p37, List.forall_mem_cons.mpr ⟨lw_p38, List.forall_mem_cons.mpr ⟨lw_p39, List.forall_mem_cons.mpr ⟨lw_p40, List.forall_mem_cons.mpr ⟨lw_p41, List.forall_mem_cons.mpr ⟨lw_p42, List.forall_mem_cons.mpr ⟨lw_p43, List.forall_mem_cons.mpr ⟨lw_p44, List.forall_mem_cons.mpr ⟨lw_p45, List.forall_mem_cons.mpr ⟨lw_p46, List.forall_mem_cons.mpr ⟨lw_p47, fun _ h => absurd h List.not_mem_nil⟩⟩⟩⟩⟩⟩⟩⟩⟩⟩⟩⟩⟩⟩⟩⟩
theorem lw_p48 : lw_okq (⟨"CarpetCounterModel", "area", "(I)I"⟩, 15) := ⟨⟨by decide +kernel, by decide +kernel⟩, List.mem_of_getElem? (i := 755) (by decide +kernel), List.mem_of_getElem? (i := 947) (by decide +kernel), List.mem_of_getElem? (i := 948) (by decide +kernel)⟩
theorem lw_p49 : lw_okq (⟨"CarpetCounterModel", "takeBack", "()V"⟩, 15) := ⟨⟨by decide +kernel, by decide +kernel⟩, List.mem_of_getElem? (i := 755) (by decide +kernel), List.mem_of_getElem? (i := 951) (by decide +kernel), List.mem_of_getElem? (i := 952) (by decide +kernel)⟩
theorem lw_p50 : lw_okq (⟨"CarpetCounterModel", "stripsOf", "(I)I"⟩, 15) := ⟨⟨by decide +kernel, by decide +kernel⟩, List.mem_of_getElem? (i := 755) (by decide +kernel), List.mem_of_getElem? (i := 959) (by decide +kernel), List.mem_of_getElem? (i := 960) (by decide +kernel)⟩
theorem lw_p51 : lw_okq (⟨"CarpetCounterModel", "widthOfStrip", "(II)I"⟩, 15) := ⟨⟨by decide +kernel, by decide +kernel⟩, List.mem_of_getElem? (i := 755) (by decide +kernel), List.mem_of_getElem? (i := 963) (by decide +kernel), List.mem_of_getElem? (i := 964) (by decide +kernel)⟩
theorem lw_p52 : lw_okq (⟨"CarpetCounterModel", "rankOf", "(II)I"⟩, 15) := ⟨⟨by decide +kernel, by decide +kernel⟩, List.mem_of_getElem? (i := 755) (by decide +kernel), List.mem_of_getElem? (i := 967) (by decide +kernel), List.mem_of_getElem? (i := 968) (by decide +kernel)⟩
theorem lw_p53 : lw_okq (⟨"CarpetCounterModel", "lengthOfStrip", "(II)I"⟩, 15) := ⟨⟨by decide +kernel, by decide +kernel⟩, List.mem_of_getElem? (i := 755) (by decide +kernel), List.mem_of_getElem? (i := 971) (by decide +kernel), List.mem_of_getElem? (i := 972) (by decide +kernel)⟩
theorem lw_p54 : lw_okq (⟨"CarpetCounterModel", "isBelow", "(III)Z"⟩, 15) := ⟨⟨by decide +kernel, by decide +kernel⟩, List.mem_of_getElem? (i := 755) (by decide +kernel), List.mem_of_getElem? (i := 983) (by decide +kernel), List.mem_of_getElem? (i := 984) (by decide +kernel)⟩
theorem lw_p55 : lw_okq (⟨"CarpetCounterModel", "laid", "(I)I"⟩, 15) := ⟨⟨by decide +kernel, by decide +kernel⟩, List.mem_of_getElem? (i := 755) (by decide +kernel), List.mem_of_getElem? (i := 1022) (by decide +kernel), List.mem_of_getElem? (i := 1023) (by decide +kernel)⟩
theorem lw_p56 : lw_okq (⟨"CarpetCounterModel", "seamsOf", "(I)I"⟩, 15) := ⟨⟨by decide +kernel, by decide +kernel⟩, List.mem_of_getElem? (i := 755) (by decide +kernel), List.mem_of_getElem? (i := 1038) (by decide +kernel), List.mem_of_getElem? (i := 1039) (by decide +kernel)⟩
theorem lw_p57 : lw_okq (⟨"CarpetCounterModel", "wasteOfAll", "()I"⟩, 15) := ⟨⟨by decide +kernel, by decide +kernel⟩, List.mem_of_getElem? (i := 755) (by decide +kernel), List.mem_of_getElem? (i := 1050) (by decide +kernel), List.mem_of_getElem? (i := 1051) (by decide +kernel)⟩
theorem lw_p58 : lw_okq (⟨"CarpetCounterModel", "bestFor", "(II)I"⟩, 15) := ⟨⟨by decide +kernel, by decide +kernel⟩, List.mem_of_getElem? (i := 755) (by decide +kernel), List.mem_of_getElem? (i := 1067) (by decide +kernel), List.mem_of_getElem? (i := 1068) (by decide +kernel)⟩
def lw_privs_4 : List (MethodName × Nat) := [(⟨"CarpetCounterModel", "area", "(I)I"⟩, 15), (⟨"CarpetCounterModel", "takeBack", "()V"⟩, 15), (⟨"CarpetCounterModel", "stripsOf", "(I)I"⟩, 15), (⟨"CarpetCounterModel", "widthOfStrip", "(II)I"⟩, 15), (⟨"CarpetCounterModel", "rankOf", "(II)I"⟩, 15), (⟨"CarpetCounterModel", "lengthOfStrip", "(II)I"⟩, 15), (⟨"CarpetCounterModel", "isBelow", "(III)Z"⟩, 15), (⟨"CarpetCounterModel", "laid", "(I)I"⟩, 15), (⟨"CarpetCounterModel", "seamsOf", "(I)I"⟩, 15), (⟨"CarpetCounterModel", "wasteOfAll", "()I"⟩, 15), (⟨"CarpetCounterModel", "bestFor", "(II)I"⟩, 15)]
theorem lw_r4 : ∀ q ∈ lw_privs_4, lw_okq q := List.forall_mem_cons.mpr ⟨lw_p48, List.forall_mem_cons.mpr ⟨lw_p49, List.forall_mem_cons.mpr ⟨lw_p50, List.forall_mem_cons.mpr ⟨lw_p51, List.forall_mem_cons.mpr ⟨lw_p52, List.forall_mem_cons.mpr ⟨lw_p53, List.forall_mem_cons.mpr ⟨lw_p54, List.forall_mem_cons.mpr ⟨lw_p55, List.forall_mem_cons.mpr ⟨lw_p56, List.forall_mem_cons.mpr ⟨lw_p57, List.forall_mem_cons.mpr ⟨lw_p58, fun _ h => absurd h List.not_mem_nil⟩⟩⟩⟩⟩⟩⟩⟩⟩⟩⟩
def lw_privs : List (MethodName × Nat) := lw_privs_1 ++ (lw_privs_2 ++ (lw_privs_3 ++ (lw_privs_4)))
def lw_tbl : List Cond := k2_sels lw_privs ++ tables_1
theorem lw_privs_ok : ∀ q ∈ lw_privs, lw_okq q := by
  show ∀ q ∈ lw_privs_1 ++ (lw_privs_2 ++ (lw_privs_3 ++ (lw_privs_4))), lw_okq q
  exact List.forall_mem_append.mpr ⟨lw_r1, List.forall_mem_append.mpr ⟨lw_r2, List.forall_mem_append.mpr ⟨lw_r3, lw_r4⟩⟩⟩
/-- the streams that the claim lets the run draw from -/
abbrev lw_cs : List Choice := [Jvm.Choice.named "NaN.bits"]
theorem lw_bits : nanBits ∈ lw_cs := by first | decide | exact List.mem_cons_self | simp [lw_cs, nanBits]

-- words that stay true through a run
def tbG : List Cond := lw_tbl.filter goodWord
theorem tbG_hts {args : Array Value} {s : State} (h : ∀ w ∈ lw_tbl, w.before args s = true) : ∀ w ∈ tbG, w.before args s = true := fun w hw => h w (List.mem_filter.mp hw).1
theorem tbG_good : ∀ w ∈ tbG, (w.onTables && w.keeps) = true ∨ ∃ ty, w = .arrayClass ty := fun w hw => good_of_word (List.mem_filter.mp hw).2
theorem tg_t {w : Cond} (h : w ∈ tables_1) (hg : goodWord w = true) : w ∈ tbG := List.mem_filter.mpr ⟨List.mem_append_right _ h, hg⟩
theorem tg_s {q : MethodName × Nat} (h : q ∈ lw_privs) : Cond.selects q.1.cls q.1 q.1 ∈ tbG := List.mem_filter.mpr ⟨List.mem_append_left _ (List.mem_map.mpr ⟨q, h, rfl⟩), rfl⟩

theorem tg1 {w : Cond} (j : Nat) (h : tables_1_1[j]? = some w) (hg : goodWord w = true) : w ∈ tbG := tg_t (List.mem_append_left _ (List.mem_of_getElem? h)) hg
theorem tg2 {w : Cond} (j : Nat) (h : tables_1_2[j]? = some w) (hg : goodWord w = true) : w ∈ tbG := tg_t (List.mem_append_right _ (List.mem_append_left _ (List.mem_of_getElem? h))) hg
theorem tg3 {w : Cond} (j : Nat) (h : tables_1_3[j]? = some w) (hg : goodWord w = true) : w ∈ tbG := tg_t (List.mem_append_right _ (List.mem_append_right _ (List.mem_append_left _ (List.mem_of_getElem? h)))) hg
theorem tg4 {w : Cond} (j : Nat) (h : tables_1_4[j]? = some w) (hg : goodWord w = true) : w ∈ tbG := tg_t (List.mem_append_right _ (List.mem_append_right _ (List.mem_append_right _ (List.mem_append_left _ (List.mem_of_getElem? h))))) hg
theorem tg5 {w : Cond} (j : Nat) (h : tables_1_5[j]? = some w) (hg : goodWord w = true) : w ∈ tbG := tg_t (List.mem_append_right _ (List.mem_append_right _ (List.mem_append_right _ (List.mem_append_right _ (List.mem_of_getElem? h))))) hg
def R_Bk : String := "CarpetCounter$Book"
def T_Bk : u_T := fun k => match k with
  | 0 => ("CarpetCounter$Book", "settings", "LCarpetCounter$Row;", true)
  | 1 => ("CarpetCounter$Book", "rolls", "LCarpetCounter$Rolls;", true)
  | 2 => ("CarpetCounter$Book", "offcuts", "LCarpetCounter$Offcuts;", true)
  | 3 => ("CarpetCounter$Book", "rooms", "LCarpetCounter$Rooms;", true)
  | 4 => ("CarpetCounter$Book", "coins", "I", false)
  | 5 => ("CarpetCounter$Book", "pieceWidth", "I", false)
  | _ => ("CarpetCounter$Book", "pieceLength", "I", false)
def ty_Bk : Nat → FieldType := fun k => match k with
  | 0 => .object "CarpetCounter$Row"
  | 1 => .object "CarpetCounter$Rolls"
  | 2 => .object "CarpetCounter$Offcuts"
  | 3 => .object "CarpetCounter$Rooms"
  | 4 => .int
  | 5 => .int
  | _ => .int
theorem nm_Bk : ∀ a, a < 7 → ∀ b, b < 7 → a ≠ b → (T_Bk a).2.1 ≠ (T_Bk b).2.1 := by decide +kernel
theorem ty_Bk_ok : ∀ k, k < 7 → parseFieldDescriptor (T_Bk k).2.2.1 = some (ty_Bk k) := by decide +kernel
def R_Ch : String := "CarpetCounter$Choice"
def T_Ch : u_T := fun k => match k with
  | 0 => ("CarpetCounter$Choice", "isMade", "Z", false)
  | 1 => ("CarpetCounter$Choice", "roll", "I", false)
  | 2 => ("CarpetCounter$Choice", "way", "I", false)
  | 3 => ("CarpetCounter$Choice", "waste", "I", false)
  | _ => ("CarpetCounter$Choice", "price", "I", false)
def ty_Ch : Nat → FieldType := fun k => match k with
  | 0 => .boolean
  | 1 => .int
  | 2 => .int
  | 3 => .int
  | _ => .int
theorem nm_Ch : ∀ a, a < 5 → ∀ b, b < 5 → a ≠ b → (T_Ch a).2.1 ≠ (T_Ch b).2.1 := by decide +kernel
theorem ty_Ch_ok : ∀ k, k < 5 → parseFieldDescriptor (T_Ch k).2.2.1 = some (ty_Ch k) := by decide +kernel
def R_Hi : String := "CarpetCounter$History"
def T_Hi : u_T := fun k => match k with
  | 0 => ("CarpetCounter$History", "states", "[LCarpetCounter$Book;", true)
  | 1 => ("CarpetCounter$History", "oldest", "I", false)
  | _ => ("CarpetCounter$History", "length", "I", false)
def ty_Hi : Nat → FieldType := fun k => match k with
  | 0 => .array (.object "CarpetCounter$Book")
  | 1 => .int
  | _ => .int
theorem nm_Hi : ∀ a, a < 3 → ∀ b, b < 3 → a ≠ b → (T_Hi a).2.1 ≠ (T_Hi b).2.1 := by decide +kernel
theorem ty_Hi_ok : ∀ k, k < 3 → parseFieldDescriptor (T_Hi k).2.2.1 = some (ty_Hi k) := by decide +kernel
def R_Of : String := "CarpetCounter$Offcuts"
def T_Of : u_T := fun k => match k with
  | 0 => ("CarpetCounter$Offcuts", "kept", "I", false)
  | 1 => ("CarpetCounter$Offcuts", "came", "I", false)
  | 2 => ("CarpetCounter$Offcuts", "number", "LCarpetCounter$Row;", true)
  | 3 => ("CarpetCounter$Offcuts", "roll", "LCarpetCounter$Row;", true)
  | 4 => ("CarpetCounter$Offcuts", "width", "LCarpetCounter$Row;", true)
  | _ => ("CarpetCounter$Offcuts", "length", "LCarpetCounter$Row;", true)
def ty_Of : Nat → FieldType := fun k => match k with
  | 0 => .int
  | 1 => .int
  | 2 => .object "CarpetCounter$Row"
  | 3 => .object "CarpetCounter$Row"
  | 4 => .object "CarpetCounter$Row"
  | _ => .object "CarpetCounter$Row"
theorem nm_Of : ∀ a, a < 6 → ∀ b, b < 6 → a ≠ b → (T_Of a).2.1 ≠ (T_Of b).2.1 := by decide +kernel
theorem ty_Of_ok : ∀ k, k < 6 → parseFieldDescriptor (T_Of k).2.2.1 = some (ty_Of k) := by decide +kernel
def R_Ro : String := "CarpetCounter$Rolls"
def T_Ro : u_T := fun k => match k with
  | 0 => ("CarpetCounter$Rolls", "came", "I", false)
  | 1 => ("CarpetCounter$Rolls", "kind", "LCarpetCounter$Row;", true)
  | 2 => ("CarpetCounter$Rolls", "width", "LCarpetCounter$Row;", true)
  | 3 => ("CarpetCounter$Rolls", "left", "LCarpetCounter$Row;", true)
  | 4 => ("CarpetCounter$Rolls", "price", "LCarpetCounter$Row;", true)
  | 5 => ("CarpetCounter$Rolls", "firstArea", "LCarpetCounter$Row;", true)
  | 6 => ("CarpetCounter$Rolls", "laid", "LCarpetCounter$Row;", true)
  | 7 => ("CarpetCounter$Rolls", "waste", "LCarpetCounter$Row;", true)
  | _ => ("CarpetCounter$Rolls", "sold", "LCarpetCounter$Row;", true)
def ty_Ro : Nat → FieldType := fun k => match k with
  | 0 => .int
  | 1 => .object "CarpetCounter$Row"
  | 2 => .object "CarpetCounter$Row"
  | 3 => .object "CarpetCounter$Row"
  | 4 => .object "CarpetCounter$Row"
  | 5 => .object "CarpetCounter$Row"
  | 6 => .object "CarpetCounter$Row"
  | 7 => .object "CarpetCounter$Row"
  | _ => .object "CarpetCounter$Row"
theorem nm_Ro : ∀ a, a < 9 → ∀ b, b < 9 → a ≠ b → (T_Ro a).2.1 ≠ (T_Ro b).2.1 := by decide +kernel
theorem ty_Ro_ok : ∀ k, k < 9 → parseFieldDescriptor (T_Ro k).2.2.1 = some (ty_Ro k) := by decide +kernel
def R_Te : String := "CarpetCounter$RoomText"
def T_Te : u_T := fun k => match k with
  | 0 => ("CarpetCounter$RoomText", "characters", "LCarpetCounter$Row;", true)
  | 1 => ("CarpetCounter$RoomText", "length", "I", false)
  | 2 => ("CarpetCounter$RoomText", "found", "LCarpetCounter$Rooms;", true)
  | 3 => ("CarpetCounter$RoomText", "stage", "I", false)
  | 4 => ("CarpetCounter$RoomText", "number", "I", false)
  | _ => ("CarpetCounter$RoomText", "fromWest", "I", false)
def ty_Te : Nat → FieldType := fun k => match k with
  | 0 => .object "CarpetCounter$Row"
  | 1 => .int
  | 2 => .object "CarpetCounter$Rooms"
  | 3 => .int
  | 4 => .int
  | _ => .int
theorem nm_Te : ∀ a, a < 6 → ∀ b, b < 6 → a ≠ b → (T_Te a).2.1 ≠ (T_Te b).2.1 := by decide +kernel
theorem ty_Te_ok : ∀ k, k < 6 → parseFieldDescriptor (T_Te k).2.2.1 = some (ty_Te k) := by decide +kernel
def R_Rm : String := "CarpetCounter$Rooms"
def T_Rm : u_T := fun k => match k with
  | 0 => ("CarpetCounter$Rooms", "came", "I", false)
  | 1 => ("CarpetCounter$Rooms", "rectangles", "LCarpetCounter$Row;", true)
  | 2 => ("CarpetCounter$Rooms", "westEast", "LCarpetCounter$Row;", true)
  | 3 => ("CarpetCounter$Rooms", "southNorth", "LCarpetCounter$Row;", true)
  | 4 => ("CarpetCounter$Rooms", "side", "LCarpetCounter$Row;", true)
  | 5 => ("CarpetCounter$Rooms", "roll", "LCarpetCounter$Row;", true)
  | 6 => ("CarpetCounter$Rooms", "rollWidth", "LCarpetCounter$Row;", true)
  | 7 => ("CarpetCounter$Rooms", "way", "LCarpetCounter$Row;", true)
  | 8 => ("CarpetCounter$Rooms", "price", "LCarpetCounter$Row;", true)
  | _ => ("CarpetCounter$Rooms", "sources", "LCarpetCounter$Row;", true)
def ty_Rm : Nat → FieldType := fun k => match k with
  | 0 => .int
  | 1 => .object "CarpetCounter$Row"
  | 2 => .object "CarpetCounter$Row"
  | 3 => .object "CarpetCounter$Row"
  | 4 => .object "CarpetCounter$Row"
  | 5 => .object "CarpetCounter$Row"
  | 6 => .object "CarpetCounter$Row"
  | 7 => .object "CarpetCounter$Row"
  | 8 => .object "CarpetCounter$Row"
  | _ => .object "CarpetCounter$Row"
theorem nm_Rm : ∀ a, a < 10 → ∀ b, b < 10 → a ≠ b → (T_Rm a).2.1 ≠ (T_Rm b).2.1 := by decide +kernel
theorem ty_Rm_ok : ∀ k, k < 10 → parseFieldDescriptor (T_Rm k).2.2.1 = some (ty_Rm k) := by decide +kernel
def R_Rw : String := "CarpetCounter$Row"
def T_Rw : u_T := fun k => match k with
  | _ => ("CarpetCounter$Row", "cells", "[I", true)
def ty_Rw : Nat → FieldType := fun k => match k with
  | _ => .array .int
theorem nm_Rw : ∀ a, a < 1 → ∀ b, b < 1 → a ≠ b → (T_Rw a).2.1 ≠ (T_Rw b).2.1 := by decide +kernel
theorem ty_Rw_ok : ∀ k, k < 1 → parseFieldDescriptor (T_Rw k).2.2.1 = some (ty_Rw k) := by decide +kernel
def R_Cc : String := "CarpetCounter"
def T_Cc : u_T := fun k => match k with
  | 0 => ("CarpetCounter", "book", "LCarpetCounter$Book;", true)
  | 1 => ("CarpetCounter", "snapshot", "LCarpetCounter$Book;", true)
  | 2 => ("CarpetCounter", "trial", "LCarpetCounter$Book;", true)
  | 3 => ("CarpetCounter", "plan", "LCarpetCounter$Book;", true)
  | 4 => ("CarpetCounter", "history", "LCarpetCounter$History;", true)
  | 5 => ("CarpetCounter", "text", "LCarpetCounter$RoomText;", true)
  | 6 => ("CarpetCounter", "choice", "LCarpetCounter$Choice;", true)
  | _ => ("CarpetCounter", "hasSnapshot", "Z", false)
def ty_Cc : Nat → FieldType := fun k => match k with
  | 0 => .object "CarpetCounter$Book"
  | 1 => .object "CarpetCounter$Book"
  | 2 => .object "CarpetCounter$Book"
  | 3 => .object "CarpetCounter$Book"
  | 4 => .object "CarpetCounter$History"
  | 5 => .object "CarpetCounter$RoomText"
  | 6 => .object "CarpetCounter$Choice"
  | _ => .boolean
theorem nm_Cc : ∀ a, a < 8 → ∀ b, b < 8 → a ≠ b → (T_Cc a).2.1 ≠ (T_Cc b).2.1 := by decide +kernel
theorem ty_Cc_ok : ∀ k, k < 8 → parseFieldDescriptor (T_Cc k).2.2.1 = some (ty_Cc k) := by decide +kernel
def R_Mo : String := "CarpetCounterModel"
def T_Mo : u_T := fun k => match k with
  | 0 => ("CarpetCounterModel", "now", "[I", true)
  | 1 => ("CarpetCounterModel", "slot", "[I", true)
  | 2 => ("CarpetCounterModel", "beside", "[I", true)
  | 3 => ("CarpetCounterModel", "deep", "[I", true)
  | 4 => ("CarpetCounterModel", "history", "[I", true)
  | 5 => ("CarpetCounterModel", "text", "[I", true)
  | 6 => ("CarpetCounterModel", "read", "[I", true)
  | 7 => ("CarpetCounterModel", "place", "I", false)
  | 8 => ("CarpetCounterModel", "kept", "I", false)
  | 9 => ("CarpetCounterModel", "length", "I", false)
  | 10 => ("CarpetCounterModel", "isFilled", "Z", false)
  | 11 => ("CarpetCounterModel", "strips", "I", false)
  | 12 => ("CarpetCounterModel", "seams", "I", false)
  | 13 => ("CarpetCounterModel", "fromOffcuts", "I", false)
  | _ => ("CarpetCounterModel", "price", "I", false)
def ty_Mo : Nat → FieldType := fun k => match k with
  | 0 => .array .int
  | 1 => .array .int
  | 2 => .array .int
  | 3 => .array .int
  | 4 => .array .int
  | 5 => .array .int
  | 6 => .array .int
  | 7 => .int
  | 8 => .int
  | 9 => .int
  | 10 => .boolean
  | 11 => .int
  | 12 => .int
  | 13 => .int
  | _ => .int
theorem nm_Mo : ∀ a, a < 15 → ∀ b, b < 15 → a ≠ b → (T_Mo a).2.1 ≠ (T_Mo b).2.1 := by decide +kernel
theorem ty_Mo_ok : ∀ k, k < 15 → parseFieldDescriptor (T_Mo k).2.2.1 = some (ty_Mo k) := by decide +kernel
abbrev vwCl : List vw_C := [(R_Bk, T_Bk, 7), (R_Ch, T_Ch, 5), (R_Hi, T_Hi, 3), (R_Of, T_Of, 6), (R_Ro, T_Ro, 9), (R_Te, T_Te, 6), (R_Rm, T_Rm, 10), (R_Rw, T_Rw, 1), (R_Cc, T_Cc, 8), (R_Mo, T_Mo, 15)]
def R_La : String := "CarpetCounterLaw"
abbrev c_La_law : ByteArray := code
def y_La_law : MethodName := ⟨R_La, "law", "([I)Z"⟩
abbrev c_Bk_copyFrom : ByteArray := prog_2_method_2_code
def y_Bk_copyFrom : MethodName := ⟨R_Bk, "copyFrom", "(LCarpetCounter$Book;)V"⟩
abbrev c_Bk_init : ByteArray := prog_2_method_1_code
def y_Bk_init : MethodName := ⟨R_Bk, "<init>", "()V"⟩
abbrev c_Bk_isLongBeside : ByteArray := prog_2_method_7_code
def y_Bk_isLongBeside : MethodName := ⟨R_Bk, "isLongBeside", "(II)Z"⟩
abbrev c_Bk_lay : ByteArray := prog_2_method_3_code
def y_Bk_lay : MethodName := ⟨R_Bk, "lay", "(III)I"⟩
abbrev c_Bk_leaveRest : ByteArray := prog_2_method_8_code
def y_Bk_leaveRest : MethodName := ⟨R_Bk, "leaveRest", "(III)Z"⟩
abbrev c_Bk_leaveRests : ByteArray := prog_2_method_6_code
def y_Bk_leaveRests : MethodName := ⟨R_Bk, "leaveRests", "(III)Z"⟩
abbrev c_Bk_lift : ByteArray := prog_2_method_9_code
def y_Bk_lift : MethodName := ⟨R_Bk, "lift", "(I)I"⟩
abbrev c_Bk_seamPrice : ByteArray := prog_2_method_4_code
def y_Bk_seamPrice : MethodName := ⟨R_Bk, "seamPrice", "(II)I"⟩
abbrev c_Bk_sellAt : ByteArray := prog_2_method_10_code
def y_Bk_sellAt : MethodName := ⟨R_Bk, "sellAt", "(I)I"⟩
abbrev c_Bk_sufficesByWay : ByteArray := prog_2_method_13_code
def y_Bk_sufficesByWay : MethodName := ⟨R_Bk, "sufficesByWay", "(III)Z"⟩
abbrev c_Bk_sufficesFor : ByteArray := prog_2_method_12_code
def y_Bk_sufficesFor : MethodName := ⟨R_Bk, "sufficesFor", "(II)Z"⟩
abbrev c_Bk_takePiece : ByteArray := prog_2_method_5_code
def y_Bk_takePiece : MethodName := ⟨R_Bk, "takePiece", "(IIIII)Z"⟩
abbrev c_Bk_throwSmallOnes : ByteArray := prog_2_method_11_code
def y_Bk_throwSmallOnes : MethodName := ⟨R_Bk, "throwSmallOnes", "(II)I"⟩
abbrev c_Ch_init : ByteArray := prog_3_method_1_code
def y_Ch_init : MethodName := ⟨R_Ch, "<init>", "()V"⟩
abbrev c_Ch_offer : ByteArray := prog_3_method_2_code
def y_Ch_offer : MethodName := ⟨R_Ch, "offer", "(IIII)V"⟩
abbrev c_Hi_init : ByteArray := prog_4_method_1_code
def y_Hi_init : MethodName := ⟨R_Hi, "<init>", "()V"⟩
abbrev c_Hi_moveLatestTo : ByteArray := prog_4_method_3_code
def y_Hi_moveLatestTo : MethodName := ⟨R_Hi, "moveLatestTo", "(LCarpetCounter$Book;)V"⟩
abbrev c_Hi_record : ByteArray := prog_4_method_2_code
def y_Hi_record : MethodName := ⟨R_Hi, "record", "(LCarpetCounter$Book;)V"⟩
abbrev c_Hi_slotAt : ByteArray := prog_4_method_4_code
def y_Hi_slotAt : MethodName := ⟨R_Hi, "slotAt", "(I)LCarpetCounter$Book;"⟩
abbrev c_Of_append : ByteArray := prog_5_method_2_code
def y_Of_append : MethodName := ⟨R_Of, "append", "(III)Z"⟩
abbrev c_Of_area : ByteArray := prog_5_method_5_code
def y_Of_area : MethodName := ⟨R_Of, "area", "(I)I"⟩
abbrev c_Of_areaOf : ByteArray := prog_5_method_7_code
def y_Of_areaOf : MethodName := ⟨R_Of, "areaOf", "(I)I"⟩
abbrev c_Of_copyFrom : ByteArray := prog_5_method_14_code
def y_Of_copyFrom : MethodName := ⟨R_Of, "copyFrom", "(LCarpetCounter$Offcuts;)V"⟩
abbrev c_Of_holds : ByteArray := prog_5_method_10_code
def y_Of_holds : MethodName := ⟨R_Of, "holds", "(III)Z"⟩
abbrev c_Of_init : ByteArray := prog_5_method_1_code
def y_Of_init : MethodName := ⟨R_Of, "<init>", "()V"⟩
abbrev c_Of_isSmall : ByteArray := prog_5_method_8_code
def y_Of_isSmall : MethodName := ⟨R_Of, "isSmall", "(III)Z"⟩
abbrev c_Of_keptOf : ByteArray := prog_5_method_6_code
def y_Of_keptOf : MethodName := ⟨R_Of, "keptOf", "(I)I"⟩
abbrev c_Of_placeByArea : ByteArray := prog_5_method_12_code
def y_Of_placeByArea : MethodName := ⟨R_Of, "placeByArea", "(I)I"⟩
abbrev c_Of_placeFor : ByteArray := prog_5_method_11_code
def y_Of_placeFor : MethodName := ⟨R_Of, "placeFor", "(III)I"⟩
abbrev c_Of_placeOf : ByteArray := prog_5_method_4_code
def y_Of_placeOf : MethodName := ⟨R_Of, "placeOf", "(I)I"⟩
abbrev c_Of_rankOf : ByteArray := prog_5_method_13_code
def y_Of_rankOf : MethodName := ⟨R_Of, "rankOf", "(I)I"⟩
abbrev c_Of_removeAt : ByteArray := prog_5_method_3_code
def y_Of_removeAt : MethodName := ⟨R_Of, "removeAt", "(I)V"⟩
abbrev c_Of_smallOnes : ByteArray := prog_5_method_9_code
def y_Of_smallOnes : MethodName := ⟨R_Of, "smallOnes", "(II)I"⟩
abbrev c_Ro_append : ByteArray := prog_6_method_3_code
def y_Ro_append : MethodName := ⟨R_Ro, "append", "(IIII)I"⟩
abbrev c_Ro_copyFrom : ByteArray := prog_6_method_4_code
def y_Ro_copyFrom : MethodName := ⟨R_Ro, "copyFrom", "(LCarpetCounter$Rolls;)V"⟩
abbrev c_Ro_has : ByteArray := prog_6_method_2_code
def y_Ro_has : MethodName := ⟨R_Ro, "has", "(I)Z"⟩
abbrev c_Ro_init : ByteArray := prog_6_method_1_code
def y_Ro_init : MethodName := ⟨R_Ro, "<init>", "()V"⟩
abbrev c_Te_append : ByteArray := prog_7_method_2_code
def y_Te_append : MethodName := ⟨R_Te, "append", "(C)Z"⟩
abbrev c_Te_beginRoom : ByteArray := prog_7_method_4_code
def y_Te_beginRoom : MethodName := ⟨R_Te, "beginRoom", "()V"⟩
abbrev c_Te_init : ByteArray := prog_7_method_1_code
def y_Te_init : MethodName := ⟨R_Te, "<init>", "()V"⟩
abbrev c_Te_read : ByteArray := prog_7_method_3_code
def y_Te_read : MethodName := ⟨R_Te, "read", "()I"⟩
abbrev c_Te_takes : ByteArray := prog_7_method_5_code
def y_Te_takes : MethodName := ⟨R_Te, "takes", "(I)Z"⟩
abbrev c_Te_takesBehindSizes : ByteArray := prog_7_method_8_code
def y_Te_takesBehindSizes : MethodName := ⟨R_Te, "takesBehindSizes", "(I)Z"⟩
abbrev c_Te_takesBetweenRooms : ByteArray := prog_7_method_10_code
def y_Te_takesBetweenRooms : MethodName := ⟨R_Te, "takesBetweenRooms", "(I)Z"⟩
abbrev c_Te_takesBetweenSizes : ByteArray := prog_7_method_7_code
def y_Te_takesBetweenSizes : MethodName := ⟨R_Te, "takesBetweenSizes", "(I)Z"⟩
abbrev c_Te_takesDigit : ByteArray := prog_7_method_6_code
def y_Te_takesDigit : MethodName := ⟨R_Te, "takesDigit", "(I)Z"⟩
abbrev c_Te_takesLight : ByteArray := prog_7_method_9_code
def y_Te_takesLight : MethodName := ⟨R_Te, "takesLight", "(I)Z"⟩
abbrev c_Rm_addRectangle : ByteArray := prog_8_method_5_code
def y_Rm_addRectangle : MethodName := ⟨R_Rm, "addRectangle", "(II)V"⟩
abbrev c_Rm_appendAll : ByteArray := prog_8_method_7_code
def y_Rm_appendAll : MethodName := ⟨R_Rm, "appendAll", "(LCarpetCounter$Rooms;)V"⟩
abbrev c_Rm_area : ByteArray := prog_8_method_9_code
def y_Rm_area : MethodName := ⟨R_Rm, "area", "(I)I"⟩
abbrev c_Rm_begin : ByteArray := prog_8_method_4_code
def y_Rm_begin : MethodName := ⟨R_Rm, "begin", "()V"⟩
abbrev c_Rm_cell : ByteArray := prog_8_method_8_code
def y_Rm_cell : MethodName := ⟨R_Rm, "cell", "(II)I"⟩
abbrev c_Rm_copyFrom : ByteArray := prog_8_method_25_code
def y_Rm_copyFrom : MethodName := ⟨R_Rm, "copyFrom", "(LCarpetCounter$Rooms;)V"⟩
abbrev c_Rm_covered : ByteArray := prog_8_method_10_code
def y_Rm_covered : MethodName := ⟨R_Rm, "covered", "()I"⟩
abbrev c_Rm_coveredArea : ByteArray := prog_8_method_11_code
def y_Rm_coveredArea : MethodName := ⟨R_Rm, "coveredArea", "()I"⟩
abbrev c_Rm_finish : ByteArray := prog_8_method_6_code
def y_Rm_finish : MethodName := ⟨R_Rm, "finish", "(I)V"⟩
abbrev c_Rm_has : ByteArray := prog_8_method_2_code
def y_Rm_has : MethodName := ⟨R_Rm, "has", "(I)Z"⟩
abbrev c_Rm_init : ByteArray := prog_8_method_1_code
def y_Rm_init : MethodName := ⟨R_Rm, "<init>", "()V"⟩
abbrev c_Rm_isAcross : ByteArray := prog_8_method_12_code
def y_Rm_isAcross : MethodName := ⟨R_Rm, "isAcross", "(II)Z"⟩
abbrev c_Rm_isCovered : ByteArray := prog_8_method_3_code
def y_Rm_isCovered : MethodName := ⟨R_Rm, "isCovered", "(I)Z"⟩
abbrev c_Rm_putBare : ByteArray := prog_8_method_16_code
def y_Rm_putBare : MethodName := ⟨R_Rm, "putBare", "(I)V"⟩
abbrev c_Rm_putCovering : ByteArray := prog_8_method_15_code
def y_Rm_putCovering : MethodName := ⟨R_Rm, "putCovering", "(IIII)V"⟩
abbrev c_Rm_putSource : ByteArray := prog_8_method_17_code
def y_Rm_putSource : MethodName := ⟨R_Rm, "putSource", "(III)V"⟩
abbrev c_Rm_rectangleLength : ByteArray := prog_8_method_14_code
def y_Rm_rectangleLength : MethodName := ⟨R_Rm, "rectangleLength", "(III)I"⟩
abbrev c_Rm_rectangleWidth : ByteArray := prog_8_method_13_code
def y_Rm_rectangleWidth : MethodName := ⟨R_Rm, "rectangleWidth", "(III)I"⟩
abbrev c_Rm_seams : ByteArray := prog_8_method_21_code
def y_Rm_seams : MethodName := ⟨R_Rm, "seams", "(I)I"⟩
abbrev c_Rm_source : ByteArray := prog_8_method_18_code
def y_Rm_source : MethodName := ⟨R_Rm, "source", "(II)I"⟩
abbrev c_Rm_stripLength : ByteArray := prog_8_method_23_code
def y_Rm_stripLength : MethodName := ⟨R_Rm, "stripLength", "(II)I"⟩
abbrev c_Rm_stripWidth : ByteArray := prog_8_method_22_code
def y_Rm_stripWidth : MethodName := ⟨R_Rm, "stripWidth", "(II)I"⟩
abbrev c_Rm_strips : ByteArray := prog_8_method_20_code
def y_Rm_strips : MethodName := ⟨R_Rm, "strips", "(I)I"⟩
abbrev c_Rm_stripsFromOffcuts : ByteArray := prog_8_method_24_code
def y_Rm_stripsFromOffcuts : MethodName := ⟨R_Rm, "stripsFromOffcuts", "(I)I"⟩
abbrev c_Rm_stripsIn : ByteArray := prog_8_method_19_code
def y_Rm_stripsIn : MethodName := ⟨R_Rm, "stripsIn", "(II)I"⟩
abbrev c_Rw_add : ByteArray := prog_9_method_4_code
def y_Rw_add : MethodName := ⟨R_Rw, "add", "(II)V"⟩
abbrev c_Rw_at : ByteArray := prog_9_method_2_code
def y_Rw_at : MethodName := ⟨R_Rw, "at", "(I)I"⟩
abbrev c_Rw_copyFrom : ByteArray := prog_9_method_7_code
def y_Rw_copyFrom : MethodName := ⟨R_Rw, "copyFrom", "(LCarpetCounter$Row;)V"⟩
abbrev c_Rw_init : ByteArray := prog_9_method_1_code
def y_Rw_init : MethodName := ⟨R_Rw, "<init>", "(I)V"⟩
abbrev c_Rw_put : ByteArray := prog_9_method_3_code
def y_Rw_put : MethodName := ⟨R_Rw, "put", "(II)V"⟩
abbrev c_Rw_removeAt : ByteArray := prog_9_method_5_code
def y_Rw_removeAt : MethodName := ⟨R_Rw, "removeAt", "(I)V"⟩
abbrev c_Rw_sum : ByteArray := prog_9_method_6_code
def y_Rw_sum : MethodName := ⟨R_Rw, "sum", "()I"⟩
abbrev c_Cc_best : ByteArray := prog_1_method_26_code
def y_Cc_best : MethodName := ⟨R_Cc, "best", "(III)I"⟩
abbrev c_Cc_choose : ByteArray := prog_1_method_29_code
def y_Cc_choose : MethodName := ⟨R_Cc, "choose", "(LCarpetCounter$Book;II)V"⟩
abbrev c_Cc_clear : ByteArray := prog_1_method_7_code
def y_Cc_clear : MethodName := ⟨R_Cc, "clear", "(II)I"⟩
abbrev c_Cc_clearText : ByteArray := prog_1_method_11_code
def y_Cc_clearText : MethodName := ⟨R_Cc, "clearText", "()I"⟩
abbrev c_Cc_count : ByteArray := prog_1_method_22_code
def y_Cc_count : MethodName := ⟨R_Cc, "count", "(I)I"⟩
abbrev c_Cc_cover : ByteArray := prog_1_method_4_code
def y_Cc_cover : MethodName := ⟨R_Cc, "cover", "(III)I"⟩
abbrev c_Cc_coverAll : ByteArray := prog_1_method_28_code
def y_Cc_coverAll : MethodName := ⟨R_Cc, "coverAll", "(II)I"⟩
abbrev c_Cc_covering : ByteArray := prog_1_method_20_code
def y_Cc_covering : MethodName := ⟨R_Cc, "covering", "(II)I"⟩
abbrev c_Cc_fault : ByteArray := prog_1_method_12_code
def y_Cc_fault : MethodName := ⟨R_Cc, "fault", "()I"⟩
abbrev c_Cc_ifCovered : ByteArray := prog_1_method_25_code
def y_Cc_ifCovered : MethodName := ⟨R_Cc, "ifCovered", "(IIII)I"⟩
abbrev c_Cc_init : ByteArray := prog_1_method_1_code
def y_Cc_init : MethodName := ⟨R_Cc, "<init>", "()V"⟩
abbrev c_Cc_isKind : ByteArray := prog_1_method_30_code
def y_Cc_isKind : MethodName := ⟨R_Cc, "isKind", "(I)Z"⟩
abbrev c_Cc_isSetting : ByteArray := prog_1_method_9_code
def y_Cc_isSetting : MethodName := ⟨R_Cc, "isSetting", "(II)Z"⟩
abbrev c_Cc_isWay : ByteArray := prog_1_method_31_code
def y_Cc_isWay : MethodName := ⟨R_Cc, "isWay", "(I)Z"⟩
abbrev c_Cc_keep : ByteArray := prog_1_method_14_code
def y_Cc_keep : MethodName := ⟨R_Cc, "keep", "()I"⟩
abbrev c_Cc_offcut : ByteArray := prog_1_method_17_code
def y_Cc_offcut : MethodName := ⟨R_Cc, "offcut", "(II)I"⟩
abbrev c_Cc_restore : ByteArray := prog_1_method_15_code
def y_Cc_restore : MethodName := ⟨R_Cc, "restore", "()I"⟩
abbrev c_Cc_roll : ByteArray := prog_1_method_2_code
def y_Cc_roll : MethodName := ⟨R_Cc, "roll", "(IIII)I"⟩
abbrev c_Cc_rollOf : ByteArray := prog_1_method_16_code
def y_Cc_rollOf : MethodName := ⟨R_Cc, "rollOf", "(II)I"⟩
abbrev c_Cc_room : ByteArray := prog_1_method_19_code
def y_Cc_room : MethodName := ⟨R_Cc, "room", "(II)I"⟩
abbrev c_Cc_rooms : ByteArray := prog_1_method_3_code
def y_Cc_rooms : MethodName := ⟨R_Cc, "rooms", "()I"⟩
abbrev c_Cc_sell : ByteArray := prog_1_method_6_code
def y_Cc_sell : MethodName := ⟨R_Cc, "sell", "(I)I"⟩
abbrev c_Cc_set : ByteArray := prog_1_method_8_code
def y_Cc_set : MethodName := ⟨R_Cc, "set", "(II)I"⟩
abbrev c_Cc_setting : ByteArray := prog_1_method_23_code
def y_Cc_setting : MethodName := ⟨R_Cc, "setting", "(I)I"⟩
abbrev c_Cc_sorted : ByteArray := prog_1_method_18_code
def y_Cc_sorted : MethodName := ⟨R_Cc, "sorted", "(I)I"⟩
abbrev c_Cc_strip : ByteArray := prog_1_method_21_code
def y_Cc_strip : MethodName := ⟨R_Cc, "strip", "(III)I"⟩
abbrev c_Cc_suits : ByteArray := prog_1_method_27_code
def y_Cc_suits : MethodName := ⟨R_Cc, "suits", "(I)I"⟩
abbrev c_Cc_takeUp : ByteArray := prog_1_method_5_code
def y_Cc_takeUp : MethodName := ⟨R_Cc, "takeUp", "(I)I"⟩
abbrev c_Cc_type : ByteArray := prog_1_method_10_code
def y_Cc_type : MethodName := ⟨R_Cc, "type", "(C)I"⟩
abbrev c_Cc_undo : ByteArray := prog_1_method_13_code
def y_Cc_undo : MethodName := ⟨R_Cc, "undo", "()I"⟩
abbrev c_Cc_wasted : ByteArray := prog_1_method_24_code
def y_Cc_wasted : MethodName := ⟨R_Cc, "wasted", "(I)D"⟩
abbrev c_Mo_add : ByteArray := prog_11_method_7_code
def y_Mo_add : MethodName := ⟨R_Mo, "add", "(III)V"⟩
abbrev c_Mo_addOffcut : ByteArray := prog_11_method_18_code
def y_Mo_addOffcut : MethodName := ⟨R_Mo, "addOffcut", "(III)V"⟩
abbrev c_Mo_area : ByteArray := prog_11_method_29_code
def y_Mo_area : MethodName := ⟨R_Mo, "area", "(I)I"⟩
abbrev c_Mo_areaOf : ByteArray := prog_11_method_16_code
def y_Mo_areaOf : MethodName := ⟨R_Mo, "areaOf", "(I)I"⟩
abbrev c_Mo_at : ByteArray := prog_11_method_8_code
def y_Mo_at : MethodName := ⟨R_Mo, "at", "(II)I"⟩
abbrev c_Mo_best : ByteArray := prog_11_method_68_code
def y_Mo_best : MethodName := ⟨R_Mo, "best", "(III)I"⟩
abbrev c_Mo_bestFor : ByteArray := prog_11_method_67_code
def y_Mo_bestFor : MethodName := ⟨R_Mo, "bestFor", "(II)I"⟩
abbrev c_Mo_check : ByteArray := prog_11_method_33_code
def y_Mo_check : MethodName := ⟨R_Mo, "check", "(III)I"⟩
abbrev c_Mo_clear : ByteArray := prog_11_method_43_code
def y_Mo_clear : MethodName := ⟨R_Mo, "clear", "(II)I"⟩
abbrev c_Mo_clearText : ByteArray := prog_11_method_47_code
def y_Mo_clearText : MethodName := ⟨R_Mo, "clearText", "()I"⟩
abbrev c_Mo_count : ByteArray := prog_11_method_64_code
def y_Mo_count : MethodName := ⟨R_Mo, "count", "(I)I"⟩
abbrev c_Mo_cover : ByteArray := prog_11_method_34_code
def y_Mo_cover : MethodName := ⟨R_Mo, "cover", "(III)I"⟩
abbrev c_Mo_coverAll : ByteArray := prog_11_method_70_code
def y_Mo_coverAll : MethodName := ⟨R_Mo, "coverAll", "(II)I"⟩
abbrev c_Mo_coverNow : ByteArray := prog_11_method_30_code
def y_Mo_coverNow : MethodName := ⟨R_Mo, "coverNow", "(III)I"⟩
abbrev c_Mo_cut : ByteArray := prog_11_method_22_code
def y_Mo_cut : MethodName := ⟨R_Mo, "cut", "(IIIII)Z"⟩
abbrev c_Mo_drop : ByteArray := prog_11_method_19_code
def y_Mo_drop : MethodName := ⟨R_Mo, "drop", "(I)V"⟩
abbrev c_Mo_fault : ByteArray := prog_11_method_53_code
def y_Mo_fault : MethodName := ⟨R_Mo, "fault", "()I"⟩
abbrev c_Mo_greater : ByteArray := prog_11_method_21_code
def y_Mo_greater : MethodName := ⟨R_Mo, "greater", "(II)I"⟩
abbrev c_Mo_ifCovered : ByteArray := prog_11_method_66_code
def y_Mo_ifCovered : MethodName := ⟨R_Mo, "ifCovered", "(IIII)I"⟩
abbrev c_Mo_in : ByteArray := prog_11_method_2_code
def y_Mo_in : MethodName := ⟨R_Mo, "in", "(III)Z"⟩
abbrev c_Mo_init : ByteArray := prog_11_method_1_code
def y_Mo_init : MethodName := ⟨R_Mo, "<init>", "()V"⟩
abbrev c_Mo_isAcross : ByteArray := prog_11_method_28_code
def y_Mo_isAcross : MethodName := ⟨R_Mo, "isAcross", "(II)Z"⟩
abbrev c_Mo_isBelow : ByteArray := prog_11_method_42_code
def y_Mo_isBelow : MethodName := ⟨R_Mo, "isBelow", "(III)Z"⟩
abbrev c_Mo_isKept : ByteArray := prog_11_method_12_code
def y_Mo_isKept : MethodName := ⟨R_Mo, "isKept", "(I)Z"⟩
abbrev c_Mo_isNext : ByteArray := prog_11_method_48_code
def y_Mo_isNext : MethodName := ⟨R_Mo, "isNext", "(II)Z"⟩
abbrev c_Mo_isRoll : ByteArray := prog_11_method_10_code
def y_Mo_isRoll : MethodName := ⟨R_Mo, "isRoll", "(I)Z"⟩
abbrev c_Mo_isRoom : ByteArray := prog_11_method_11_code
def y_Mo_isRoom : MethodName := ⟨R_Mo, "isRoom", "(I)Z"⟩
abbrev c_Mo_keep : ByteArray := prog_11_method_55_code
def y_Mo_keep : MethodName := ⟨R_Mo, "keep", "()I"⟩
abbrev c_Mo_keptOnes : ByteArray := prog_11_method_17_code
def y_Mo_keptOnes : MethodName := ⟨R_Mo, "keptOnes", "()I"⟩
abbrev c_Mo_laid : ByteArray := prog_11_method_57_code
def y_Mo_laid : MethodName := ⟨R_Mo, "laid", "(I)I"⟩
abbrev c_Mo_lay : ByteArray := prog_11_method_4_code
def y_Mo_lay : MethodName := ⟨R_Mo, "lay", "()V"⟩
abbrev c_Mo_lengthOf : ByteArray := prog_11_method_15_code
def y_Mo_lengthOf : MethodName := ⟨R_Mo, "lengthOf", "(I)I"⟩
abbrev c_Mo_lengthOfStrip : ByteArray := prog_11_method_39_code
def y_Mo_lengthOfStrip : MethodName := ⟨R_Mo, "lengthOfStrip", "(II)I"⟩
abbrev c_Mo_longs : ByteArray := prog_11_method_25_code
def y_Mo_longs : MethodName := ⟨R_Mo, "longs", "(III)I"⟩
abbrev c_Mo_most : ByteArray := prog_11_method_44_code
def y_Mo_most : MethodName := ⟨R_Mo, "most", "(I)I"⟩
abbrev c_Mo_of : ByteArray := prog_11_method_6_code
def y_Mo_of : MethodName := ⟨R_Mo, "of", "(II)I"⟩
abbrev c_Mo_offcut : ByteArray := prog_11_method_59_code
def y_Mo_offcut : MethodName := ⟨R_Mo, "offcut", "(II)I"⟩
abbrev c_Mo_offcutFor : ByteArray := prog_11_method_23_code
def y_Mo_offcutFor : MethodName := ⟨R_Mo, "offcutFor", "(III)I"⟩
abbrev c_Mo_put : ByteArray := prog_11_method_9_code
def y_Mo_put : MethodName := ⟨R_Mo, "put", "(III)V"⟩
abbrev c_Mo_rankOf : ByteArray := prog_11_method_35_code
def y_Mo_rankOf : MethodName := ⟨R_Mo, "rankOf", "(II)I"⟩
abbrev c_Mo_readAll : ByteArray := prog_11_method_52_code
def y_Mo_readAll : MethodName := ⟨R_Mo, "readAll", "()I"⟩
abbrev c_Mo_readRoom : ByteArray := prog_11_method_51_code
def y_Mo_readRoom : MethodName := ⟨R_Mo, "readRoom", "()Z"⟩
abbrev c_Mo_record : ByteArray := prog_11_method_3_code
def y_Mo_record : MethodName := ⟨R_Mo, "record", "()V"⟩
abbrev c_Mo_rest : ByteArray := prog_11_method_20_code
def y_Mo_rest : MethodName := ⟨R_Mo, "rest", "(III)Z"⟩
abbrev c_Mo_restore : ByteArray := prog_11_method_56_code
def y_Mo_restore : MethodName := ⟨R_Mo, "restore", "()I"⟩
abbrev c_Mo_roll : ByteArray := prog_11_method_31_code
def y_Mo_roll : MethodName := ⟨R_Mo, "roll", "(IIII)I"⟩
abbrev c_Mo_rollOf : ByteArray := prog_11_method_58_code
def y_Mo_rollOf : MethodName := ⟨R_Mo, "rollOf", "(II)I"⟩
abbrev c_Mo_rollOfOffcut : ByteArray := prog_11_method_13_code
def y_Mo_rollOfOffcut : MethodName := ⟨R_Mo, "rollOfOffcut", "(I)I"⟩
abbrev c_Mo_room : ByteArray := prog_11_method_61_code
def y_Mo_room : MethodName := ⟨R_Mo, "room", "(II)I"⟩
abbrev c_Mo_rooms : ByteArray := prog_11_method_32_code
def y_Mo_rooms : MethodName := ⟨R_Mo, "rooms", "()I"⟩
abbrev c_Mo_rounds : ByteArray := prog_11_method_26_code
def y_Mo_rounds : MethodName := ⟨R_Mo, "rounds", "(II)I"⟩
abbrev c_Mo_seamsOf : ByteArray := prog_11_method_37_code
def y_Mo_seamsOf : MethodName := ⟨R_Mo, "seamsOf", "(I)I"⟩
abbrev c_Mo_sell : ByteArray := prog_11_method_41_code
def y_Mo_sell : MethodName := ⟨R_Mo, "sell", "(I)I"⟩
abbrev c_Mo_set : ByteArray := prog_11_method_45_code
def y_Mo_set : MethodName := ⟨R_Mo, "set", "(II)I"⟩
abbrev c_Mo_sign : ByteArray := prog_11_method_49_code
def y_Mo_sign : MethodName := ⟨R_Mo, "sign", "(I)Z"⟩
abbrev c_Mo_size : ByteArray := prog_11_method_50_code
def y_Mo_size : MethodName := ⟨R_Mo, "size", "(I)Z"⟩
abbrev c_Mo_sorted : ByteArray := prog_11_method_60_code
def y_Mo_sorted : MethodName := ⟨R_Mo, "sorted", "(I)I"⟩
abbrev c_Mo_strip : ByteArray := prog_11_method_62_code
def y_Mo_strip : MethodName := ⟨R_Mo, "strip", "(III)I"⟩
abbrev c_Mo_stripWidth : ByteArray := prog_11_method_27_code
def y_Mo_stripWidth : MethodName := ⟨R_Mo, "stripWidth", "(III)I"⟩
abbrev c_Mo_stripsOf : ByteArray := prog_11_method_36_code
def y_Mo_stripsOf : MethodName := ⟨R_Mo, "stripsOf", "(I)I"⟩
abbrev c_Mo_suits : ByteArray := prog_11_method_69_code
def y_Mo_suits : MethodName := ⟨R_Mo, "suits", "(I)I"⟩
abbrev c_Mo_takeBack : ByteArray := prog_11_method_5_code
def y_Mo_takeBack : MethodName := ⟨R_Mo, "takeBack", "()V"⟩
abbrev c_Mo_takeUp : ByteArray := prog_11_method_40_code
def y_Mo_takeUp : MethodName := ⟨R_Mo, "takeUp", "(I)I"⟩
abbrev c_Mo_type : ByteArray := prog_11_method_46_code
def y_Mo_type : MethodName := ⟨R_Mo, "type", "(C)I"⟩
abbrev c_Mo_undo : ByteArray := prog_11_method_54_code
def y_Mo_undo : MethodName := ⟨R_Mo, "undo", "()I"⟩
abbrev c_Mo_wasteOfAll : ByteArray := prog_11_method_63_code
def y_Mo_wasteOfAll : MethodName := ⟨R_Mo, "wasteOfAll", "()I"⟩
abbrev c_Mo_wasted : ByteArray := prog_11_method_65_code
def y_Mo_wasted : MethodName := ⟨R_Mo, "wasted", "(I)D"⟩
abbrev c_Mo_wide : ByteArray := prog_11_method_24_code
def y_Mo_wide : MethodName := ⟨R_Mo, "wide", "(III)I"⟩
abbrev c_Mo_widthOf : ByteArray := prog_11_method_14_code
def y_Mo_widthOf : MethodName := ⟨R_Mo, "widthOf", "(I)I"⟩
abbrev c_Mo_widthOfStrip : ByteArray := prog_11_method_38_code
def y_Mo_widthOfStrip : MethodName := ⟨R_Mo, "widthOfStrip", "(II)I"⟩
