section
-- ===== PART A: goes FIRST, ahead of the names: the tables' words, and 'selects' of the private methods out of them =====
/-- a private method of a class that the tables say can be made, by its rows of tables_1 -/
def lw_okq (q : MethodName × Nat) : Prop := (q.1.cls ≠ "java/lang/invoke/MethodHandle" ∧ q.1.cls ≠ "java/lang/invoke/VarHandle") ∧ Cond.instantiable q.1.cls q.2 ∈ tables_1 ∧ Cond.privateMethod q.1 ∈ tables_1 ∧ Cond.instanceMethod q.1 ∈ tables_1
theorem lw_p0 : lw_okq (⟨"CarpetCounter$History", "slotAt", "(I)LCarpetCounter$Book;"⟩, 3) := ⟨⟨by decide +kernel, by decide +kernel⟩, List.mem_of_getElem? (i := 209) (by decide +kernel), List.mem_of_getElem? (i := 323) (by decide +kernel), List.mem_of_getElem? (i := 324) (by decide +kernel)⟩
theorem lw_p1 : lw_okq (⟨"CarpetCounter$RoomText", "beginRoom", "()V"⟩, 6) := ⟨⟨by decide +kernel, by decide +kernel⟩, List.mem_of_getElem? (i := 229) (by decide +kernel), List.mem_of_getElem? (i := 372) (by decide +kernel), List.mem_of_getElem? (i := 373) (by decide +kernel)⟩
theorem lw_p2 : lw_okq (⟨"CarpetCounter$RoomText", "takes", "(I)Z"⟩, 6) := ⟨⟨by decide +kernel, by decide +kernel⟩, List.mem_of_getElem? (i := 229) (by decide +kernel), List.mem_of_getElem? (i := 385) (by decide +kernel), List.mem_of_getElem? (i := 386) (by decide +kernel)⟩
theorem lw_p3 : lw_okq (⟨"CarpetCounter$RoomText", "takesDigit", "(I)Z"⟩, 6) := ⟨⟨by decide +kernel, by decide +kernel⟩, List.mem_of_getElem? (i := 229) (by decide +kernel), List.mem_of_getElem? (i := 389) (by decide +kernel), List.mem_of_getElem? (i := 390) (by decide +kernel)⟩
theorem lw_p4 : lw_okq (⟨"CarpetCounter$RoomText", "takesBetweenSizes", "(I)Z"⟩, 6) := ⟨⟨by decide +kernel, by decide +kernel⟩, List.mem_of_getElem? (i := 229) (by decide +kernel), List.mem_of_getElem? (i := 393) (by decide +kernel), List.mem_of_getElem? (i := 394) (by decide +kernel)⟩
theorem lw_p5 : lw_okq (⟨"CarpetCounter$RoomText", "takesBehindSizes", "(I)Z"⟩, 6) := ⟨⟨by decide +kernel, by decide +kernel⟩, List.mem_of_getElem? (i := 229) (by decide +kernel), List.mem_of_getElem? (i := 397) (by decide +kernel), List.mem_of_getElem? (i := 398) (by decide +kernel)⟩
theorem lw_p6 : lw_okq (⟨"CarpetCounter$RoomText", "takesLight", "(I)Z"⟩, 6) := ⟨⟨by decide +kernel, by decide +kernel⟩, List.mem_of_getElem? (i := 229) (by decide +kernel), List.mem_of_getElem? (i := 414) (by decide +kernel), List.mem_of_getElem? (i := 415) (by decide +kernel)⟩
theorem lw_p7 : lw_okq (⟨"CarpetCounter$RoomText", "takesBetweenRooms", "(I)Z"⟩, 6) := ⟨⟨by decide +kernel, by decide +kernel⟩, List.mem_of_getElem? (i := 229) (by decide +kernel), List.mem_of_getElem? (i := 422) (by decide +kernel), List.mem_of_getElem? (i := 423) (by decide +kernel)⟩
theorem lw_p8 : lw_okq (⟨"CarpetCounter$Rooms", "stripsIn", "(II)I"⟩, 10) := ⟨⟨by decide +kernel, by decide +kernel⟩, List.mem_of_getElem? (i := 128) (by decide +kernel), List.mem_of_getElem? (i := 470) (by decide +kernel), List.mem_of_getElem? (i := 471) (by decide +kernel)⟩
theorem lw_p9 : lw_okq (⟨"CarpetCounter$Book", "takePiece", "(IIIII)Z"⟩, 7) := ⟨⟨by decide +kernel, by decide +kernel⟩, List.mem_of_getElem? (i := 22) (by decide +kernel), List.mem_of_getElem? (i := 491) (by decide +kernel), List.mem_of_getElem? (i := 492) (by decide +kernel)⟩
theorem lw_p10 : lw_okq (⟨"CarpetCounter$Book", "leaveRests", "(III)Z"⟩, 7) := ⟨⟨by decide +kernel, by decide +kernel⟩, List.mem_of_getElem? (i := 22) (by decide +kernel), List.mem_of_getElem? (i := 521) (by decide +kernel), List.mem_of_getElem? (i := 522) (by decide +kernel)⟩
theorem lw_p11 : lw_okq (⟨"CarpetCounter$Book", "isLongBeside", "(II)Z"⟩, 7) := ⟨⟨by decide +kernel, by decide +kernel⟩, List.mem_of_getElem? (i := 22) (by decide +kernel), List.mem_of_getElem? (i := 525) (by decide +kernel), List.mem_of_getElem? (i := 526) (by decide +kernel)⟩
theorem lw_p12 : lw_okq (⟨"CarpetCounter$Book", "leaveRest", "(III)Z"⟩, 7) := ⟨⟨by decide +kernel, by decide +kernel⟩, List.mem_of_getElem? (i := 22) (by decide +kernel), List.mem_of_getElem? (i := 532) (by decide +kernel), List.mem_of_getElem? (i := 533) (by decide +kernel)⟩
theorem lw_p13 : lw_okq (⟨"CarpetCounter$Book", "seamPrice", "(II)I"⟩, 7) := ⟨⟨by decide +kernel, by decide +kernel⟩, List.mem_of_getElem? (i := 22) (by decide +kernel), List.mem_of_getElem? (i := 549) (by decide +kernel), List.mem_of_getElem? (i := 550) (by decide +kernel)⟩
theorem lw_p14 : lw_okq (⟨"CarpetCounter$Offcuts", "rankOf", "(I)I"⟩, 6) := ⟨⟨by decide +kernel, by decide +kernel⟩, List.mem_of_getElem? (i := 90) (by decide +kernel), List.mem_of_getElem? (i := 662) (by decide +kernel), List.mem_of_getElem? (i := 663) (by decide +kernel)⟩
theorem lw_p15 : lw_okq (⟨"CarpetCounter", "covering", "(II)I"⟩, 8) := ⟨⟨by decide +kernel, by decide +kernel⟩, List.mem_of_getElem? (i := 14) (by decide +kernel), List.mem_of_getElem? (i := 671) (by decide +kernel), List.mem_of_getElem? (i := 672) (by decide +kernel)⟩
def lw_privs_1 : List (MethodName × Nat) := [(⟨"CarpetCounter$History", "slotAt", "(I)LCarpetCounter$Book;"⟩, 3), (⟨"CarpetCounter$RoomText", "beginRoom", "()V"⟩, 6), (⟨"CarpetCounter$RoomText", "takes", "(I)Z"⟩, 6), (⟨"CarpetCounter$RoomText", "takesDigit", "(I)Z"⟩, 6), (⟨"CarpetCounter$RoomText", "takesBetweenSizes", "(I)Z"⟩, 6), (⟨"CarpetCounter$RoomText", "takesBehindSizes", "(I)Z"⟩, 6), (⟨"CarpetCounter$RoomText", "takesLight", "(I)Z"⟩, 6), (⟨"CarpetCounter$RoomText", "takesBetweenRooms", "(I)Z"⟩, 6), (⟨"CarpetCounter$Rooms", "stripsIn", "(II)I"⟩, 10), (⟨"CarpetCounter$Book", "takePiece", "(IIIII)Z"⟩, 7), (⟨"CarpetCounter$Book", "leaveRests", "(III)Z"⟩, 7), (⟨"CarpetCounter$Book", "isLongBeside", "(II)Z"⟩, 7), (⟨"CarpetCounter$Book", "leaveRest", "(III)Z"⟩, 7), (⟨"CarpetCounter$Book", "seamPrice", "(II)I"⟩, 7), (⟨"CarpetCounter$Offcuts", "rankOf", "(I)I"⟩, 6), (⟨"CarpetCounter", "covering", "(II)I"⟩, 8)]
theorem lw_r1 : ∀ q ∈ lw_privs_1, lw_okq q := List.forall_mem_cons.mpr ⟨lw_p0, List.forall_mem_cons.mpr ⟨lw_p1, List.forall_mem_cons.mpr ⟨lw_p2, List.forall_mem_cons.mpr ⟨lw_p3, List.forall_mem_cons.mpr ⟨lw_p4, List.forall_mem_cons.mpr ⟨lw_p5, List.forall_mem_cons.mpr ⟨lw_p6, List.forall_mem_cons.mpr ⟨lw_p7, List.forall_mem_cons.mpr ⟨lw_p8, List.forall_mem_cons.mpr ⟨lw_p9, List.forall_mem_cons.mpr ⟨lw_p10, List.forall_mem_cons.mpr ⟨lw_p11, List.forall_mem_cons.mpr ⟨lw_p12, List.forall_mem_cons.mpr ⟨lw_p13, List.forall_mem_cons.mpr ⟨lw_p14, List.forall_mem_cons.mpr ⟨lw_p15, fun _ h => absurd h List.not_mem_nil⟩⟩⟩⟩⟩⟩⟩⟩⟩⟩⟩⟩⟩⟩⟩⟩
theorem lw_p16 : lw_okq (⟨"CarpetCounter", "setting", "(I)I"⟩, 8) := ⟨⟨by decide +kernel, by decide +kernel⟩, List.mem_of_getElem? (i := 14) (by decide +kernel), List.mem_of_getElem? (i := 705) (by decide +kernel), List.mem_of_getElem? (i := 706) (by decide +kernel)⟩
theorem lw_p17 : lw_okq (⟨"CarpetCounter", "choose", "(LCarpetCounter$Book;II)V"⟩, 8) := ⟨⟨by decide +kernel, by decide +kernel⟩, List.mem_of_getElem? (i := 14) (by decide +kernel), List.mem_of_getElem? (i := 728) (by decide +kernel), List.mem_of_getElem? (i := 729) (by decide +kernel)⟩
theorem lw_p18 : lw_okq (⟨"CarpetCounter$Book", "sufficesByWay", "(III)Z"⟩, 7) := ⟨⟨by decide +kernel, by decide +kernel⟩, List.mem_of_getElem? (i := 22) (by decide +kernel), List.mem_of_getElem? (i := 744) (by decide +kernel), List.mem_of_getElem? (i := 745) (by decide +kernel)⟩
theorem lw_p19 : lw_okq (⟨"CarpetCounterModel", "record", "()V"⟩, 15) := ⟨⟨by decide +kernel, by decide +kernel⟩, List.mem_of_getElem? (i := 755) (by decide +kernel), List.mem_of_getElem? (i := 814) (by decide +kernel), List.mem_of_getElem? (i := 815) (by decide +kernel)⟩
theorem lw_p20 : lw_okq (⟨"CarpetCounterModel", "add", "(III)V"⟩, 15) := ⟨⟨by decide +kernel, by decide +kernel⟩, List.mem_of_getElem? (i := 755) (by decide +kernel), List.mem_of_getElem? (i := 818) (by decide +kernel), List.mem_of_getElem? (i := 819) (by decide +kernel)⟩
theorem lw_p21 : lw_okq (⟨"CarpetCounterModel", "readAll", "()I"⟩, 15) := ⟨⟨by decide +kernel, by decide +kernel⟩, List.mem_of_getElem? (i := 755) (by decide +kernel), List.mem_of_getElem? (i := 826) (by decide +kernel), List.mem_of_getElem? (i := 827) (by decide +kernel)⟩
theorem lw_p22 : lw_okq (⟨"CarpetCounterModel", "readRoom", "()Z"⟩, 15) := ⟨⟨by decide +kernel, by decide +kernel⟩, List.mem_of_getElem? (i := 755) (by decide +kernel), List.mem_of_getElem? (i := 830) (by decide +kernel), List.mem_of_getElem? (i := 831) (by decide +kernel)⟩
theorem lw_p23 : lw_okq (⟨"CarpetCounterModel", "size", "(I)Z"⟩, 15) := ⟨⟨by decide +kernel, by decide +kernel⟩, List.mem_of_getElem? (i := 755) (by decide +kernel), List.mem_of_getElem? (i := 834) (by decide +kernel), List.mem_of_getElem? (i := 835) (by decide +kernel)⟩
theorem lw_p24 : lw_okq (⟨"CarpetCounterModel", "isNext", "(II)Z"⟩, 15) := ⟨⟨by decide +kernel, by decide +kernel⟩, List.mem_of_getElem? (i := 755) (by decide +kernel), List.mem_of_getElem? (i := 838) (by decide +kernel), List.mem_of_getElem? (i := 839) (by decide +kernel)⟩
theorem lw_p25 : lw_okq (⟨"CarpetCounterModel", "sign", "(I)Z"⟩, 15) := ⟨⟨by decide +kernel, by decide +kernel⟩, List.mem_of_getElem? (i := 755) (by decide +kernel), List.mem_of_getElem? (i := 842) (by decide +kernel), List.mem_of_getElem? (i := 843) (by decide +kernel)⟩
theorem lw_p26 : lw_okq (⟨"CarpetCounterModel", "put", "(III)V"⟩, 15) := ⟨⟨by decide +kernel, by decide +kernel⟩, List.mem_of_getElem? (i := 755) (by decide +kernel), List.mem_of_getElem? (i := 846) (by decide +kernel), List.mem_of_getElem? (i := 847) (by decide +kernel)⟩
theorem lw_p27 : lw_okq (⟨"CarpetCounterModel", "check", "(III)I"⟩, 15) := ⟨⟨by decide +kernel, by decide +kernel⟩, List.mem_of_getElem? (i := 755) (by decide +kernel), List.mem_of_getElem? (i := 854) (by decide +kernel), List.mem_of_getElem? (i := 855) (by decide +kernel)⟩
theorem lw_p28 : lw_okq (⟨"CarpetCounterModel", "isRoom", "(I)Z"⟩, 15) := ⟨⟨by decide +kernel, by decide +kernel⟩, List.mem_of_getElem? (i := 755) (by decide +kernel), List.mem_of_getElem? (i := 858) (by decide +kernel), List.mem_of_getElem? (i := 859) (by decide +kernel)⟩
theorem lw_p29 : lw_okq (⟨"CarpetCounterModel", "isRoll", "(I)Z"⟩, 15) := ⟨⟨by decide +kernel, by decide +kernel⟩, List.mem_of_getElem? (i := 755) (by decide +kernel), List.mem_of_getElem? (i := 862) (by decide +kernel), List.mem_of_getElem? (i := 863) (by decide +kernel)⟩
theorem lw_p30 : lw_okq (⟨"CarpetCounterModel", "lay", "()V"⟩, 15) := ⟨⟨by decide +kernel, by decide +kernel⟩, List.mem_of_getElem? (i := 755) (by decide +kernel), List.mem_of_getElem? (i := 866) (by decide +kernel), List.mem_of_getElem? (i := 867) (by decide +kernel)⟩
theorem lw_p31 : lw_okq (⟨"CarpetCounterModel", "coverNow", "(III)I"⟩, 15) := ⟨⟨by decide +kernel, by decide +kernel⟩, List.mem_of_getElem? (i := 755) (by decide +kernel), List.mem_of_getElem? (i := 870) (by decide +kernel), List.mem_of_getElem? (i := 871) (by decide +kernel)⟩
def lw_privs_2 : List (MethodName × Nat) := [(⟨"CarpetCounter", "setting", "(I)I"⟩, 8), (⟨"CarpetCounter", "choose", "(LCarpetCounter$Book;II)V"⟩, 8), (⟨"CarpetCounter$Book", "sufficesByWay", "(III)Z"⟩, 7), (⟨"CarpetCounterModel", "record", "()V"⟩, 15), (⟨"CarpetCounterModel", "add", "(III)V"⟩, 15), (⟨"CarpetCounterModel", "readAll", "()I"⟩, 15), (⟨"CarpetCounterModel", "readRoom", "()Z"⟩, 15), (⟨"CarpetCounterModel", "size", "(I)Z"⟩, 15), (⟨"CarpetCounterModel", "isNext", "(II)Z"⟩, 15), (⟨"CarpetCounterModel", "sign", "(I)Z"⟩, 15), (⟨"CarpetCounterModel", "put", "(III)V"⟩, 15), (⟨"CarpetCounterModel", "check", "(III)I"⟩, 15), (⟨"CarpetCounterModel", "isRoom", "(I)Z"⟩, 15), (⟨"CarpetCounterModel", "isRoll", "(I)Z"⟩, 15), (⟨"CarpetCounterModel", "lay", "()V"⟩, 15), (⟨"CarpetCounterModel", "coverNow", "(III)I"⟩, 15)]
theorem lw_r2 : ∀ q ∈ lw_privs_2, lw_okq q := List.forall_mem_cons.mpr ⟨lw_p16, List.forall_mem_cons.mpr ⟨lw_p17, List.forall_mem_cons.mpr ⟨lw_p18, List.forall_mem_cons.mpr ⟨lw_p19, List.forall_mem_cons.mpr ⟨lw_p20, List.forall_mem_cons.mpr ⟨lw_p21, List.forall_mem_cons.mpr ⟨lw_p22, List.forall_mem_cons.mpr ⟨lw_p23, List.forall_mem_cons.mpr ⟨lw_p24, List.forall_mem_cons.mpr ⟨lw_p25, List.forall_mem_cons.mpr ⟨lw_p26, List.forall_mem_cons.mpr ⟨lw_p27, List.forall_mem_cons.mpr ⟨lw_p28, List.forall_mem_cons.mpr ⟨lw_p29, List.forall_mem_cons.mpr ⟨lw_p30, List.forall_mem_cons.mpr ⟨lw_p31, fun _ h => absurd h List.not_mem_nil⟩⟩⟩⟩⟩⟩⟩⟩⟩⟩⟩⟩⟩⟩⟩⟩
theorem lw_p32 : lw_okq (⟨"CarpetCounterModel", "at", "(II)I"⟩, 15) := ⟨⟨by decide +kernel, by decide +kernel⟩, List.mem_of_getElem? (i := 755) (by decide +kernel), List.mem_of_getElem? (i := 874) (by decide +kernel), List.mem_of_getElem? (i := 875) (by decide +kernel)⟩
theorem lw_p33 : lw_okq (⟨"CarpetCounterModel", "isAcross", "(II)Z"⟩, 15) := ⟨⟨by decide +kernel, by decide +kernel⟩, List.mem_of_getElem? (i := 755) (by decide +kernel), List.mem_of_getElem? (i := 878) (by decide +kernel), List.mem_of_getElem? (i := 879) (by decide +kernel)⟩
theorem lw_p34 : lw_okq (⟨"CarpetCounterModel", "of", "(II)I"⟩, 15) := ⟨⟨by decide +kernel, by decide +kernel⟩, List.mem_of_getElem? (i := 755) (by decide +kernel), List.mem_of_getElem? (i := 882) (by decide +kernel), List.mem_of_getElem? (i := 883) (by decide +kernel)⟩
theorem lw_p35 : lw_okq (⟨"CarpetCounterModel", "wide", "(III)I"⟩, 15) := ⟨⟨by decide +kernel, by decide +kernel⟩, List.mem_of_getElem? (i := 755) (by decide +kernel), List.mem_of_getElem? (i := 886) (by decide +kernel), List.mem_of_getElem? (i := 887) (by decide +kernel)⟩
theorem lw_p36 : lw_okq (⟨"CarpetCounterModel", "longs", "(III)I"⟩, 15) := ⟨⟨by decide +kernel, by decide +kernel⟩, List.mem_of_getElem? (i := 755) (by decide +kernel), List.mem_of_getElem? (i := 890) (by decide +kernel), List.mem_of_getElem? (i := 891) (by decide +kernel)⟩
theorem lw_p37 : lw_okq (⟨"CarpetCounterModel", "offcutFor", "(III)I"⟩, 15) := ⟨⟨by decide +kernel, by decide +kernel⟩, List.mem_of_getElem? (i := 755) (by decide +kernel), List.mem_of_getElem? (i := 900) (by decide +kernel), List.mem_of_getElem? (i := 901) (by decide +kernel)⟩
theorem lw_p38 : lw_okq (⟨"CarpetCounterModel", "isKept", "(I)Z"⟩, 15) := ⟨⟨by decide +kernel, by decide +kernel⟩, List.mem_of_getElem? (i := 755) (by decide +kernel), List.mem_of_getElem? (i := 904) (by decide +kernel), List.mem_of_getElem? (i := 905) (by decide +kernel)⟩
theorem lw_p39 : lw_okq (⟨"CarpetCounterModel", "rollOfOffcut", "(I)I"⟩, 15) := ⟨⟨by decide +kernel, by decide +kernel⟩, List.mem_of_getElem? (i := 755) (by decide +kernel), List.mem_of_getElem? (i := 908) (by decide +kernel), List.mem_of_getElem? (i := 909) (by decide +kernel)⟩
theorem lw_p40 : lw_okq (⟨"CarpetCounterModel", "widthOf", "(I)I"⟩, 15) := ⟨⟨by decide +kernel, by decide +kernel⟩, List.mem_of_getElem? (i := 755) (by decide +kernel), List.mem_of_getElem? (i := 912) (by decide +kernel), List.mem_of_getElem? (i := 913) (by decide +kernel)⟩
theorem lw_p41 : lw_okq (⟨"CarpetCounterModel", "lengthOf", "(I)I"⟩, 15) := ⟨⟨by decide +kernel, by decide +kernel⟩, List.mem_of_getElem? (i := 755) (by decide +kernel), List.mem_of_getElem? (i := 916) (by decide +kernel), List.mem_of_getElem? (i := 917) (by decide +kernel)⟩
theorem lw_p42 : lw_okq (⟨"CarpetCounterModel", "areaOf", "(I)I"⟩, 15) := ⟨⟨by decide +kernel, by decide +kernel⟩, List.mem_of_getElem? (i := 755) (by decide +kernel), List.mem_of_getElem? (i := 920) (by decide +kernel), List.mem_of_getElem? (i := 921) (by decide +kernel)⟩
theorem lw_p43 : lw_okq (⟨"CarpetCounterModel", "drop", "(I)V"⟩, 15) := ⟨⟨by decide +kernel, by decide +kernel⟩, List.mem_of_getElem? (i := 755) (by decide +kernel), List.mem_of_getElem? (i := 924) (by decide +kernel), List.mem_of_getElem? (i := 925) (by decide +kernel)⟩
theorem lw_p44 : lw_okq (⟨"CarpetCounterModel", "cut", "(IIIII)Z"⟩, 15) := ⟨⟨by decide +kernel, by decide +kernel⟩, List.mem_of_getElem? (i := 755) (by decide +kernel), List.mem_of_getElem? (i := 928) (by decide +kernel), List.mem_of_getElem? (i := 929) (by decide +kernel)⟩
theorem lw_p45 : lw_okq (⟨"CarpetCounterModel", "rest", "(III)Z"⟩, 15) := ⟨⟨by decide +kernel, by decide +kernel⟩, List.mem_of_getElem? (i := 755) (by decide +kernel), List.mem_of_getElem? (i := 935) (by decide +kernel), List.mem_of_getElem? (i := 936) (by decide +kernel)⟩
theorem lw_p46 : lw_okq (⟨"CarpetCounterModel", "addOffcut", "(III)V"⟩, 15) := ⟨⟨by decide +kernel, by decide +kernel⟩, List.mem_of_getElem? (i := 755) (by decide +kernel), List.mem_of_getElem? (i := 939) (by decide +kernel), List.mem_of_getElem? (i := 940) (by decide +kernel)⟩
theorem lw_p47 : lw_okq (⟨"CarpetCounterModel", "keptOnes", "()I"⟩, 15) := ⟨⟨by decide +kernel, by decide +kernel⟩, List.mem_of_getElem? (i := 755) (by decide +kernel), List.mem_of_getElem? (i := 943) (by decide +kernel), List.mem_of_getElem? (i := 944) (by decide +kernel)⟩
def lw_privs_3 : List (MethodName × Nat) := [(⟨"CarpetCounterModel", "at", "(II)I"⟩, 15), (⟨"CarpetCounterModel", "isAcross", "(II)Z"⟩, 15), (⟨"CarpetCounterModel", "of", "(II)I"⟩, 15), (⟨"CarpetCounterModel", "wide", "(III)I"⟩, 15), (⟨"CarpetCounterModel", "longs", "(III)I"⟩, 15), (⟨"CarpetCounterModel", "offcutFor", "(III)I"⟩, 15), (⟨"CarpetCounterModel", "isKept", "(I)Z"⟩, 15), (⟨"CarpetCounterModel", "rollOfOffcut", "(I)I"⟩, 15), (⟨"CarpetCounterModel", "widthOf", "(I)I"⟩, 15), (⟨"CarpetCounterModel", "lengthOf", "(I)I"⟩, 15), (⟨"CarpetCounterModel", "areaOf", "(I)I"⟩, 15), (⟨"CarpetCounterModel", "drop", "(I)V"⟩, 15), (⟨"CarpetCounterModel", "cut", "(IIIII)Z"⟩, 15), (⟨"CarpetCounterModel", "rest", "(III)Z"⟩, 15), (⟨"CarpetCounterModel", "addOffcut", "(III)V"⟩, 15), (⟨"CarpetCounterModel", "keptOnes", "()I"⟩, 15)]
theorem lw_r3 : ∀ q ∈ lw_privs_3, lw_okq q := List.forall_mem_cons.mpr ⟨lw_p32, List.forall_mem_cons.mpr ⟨lw_p33, List.forall_mem_cons.mpr ⟨lw_p34, List.forall_mem_cons.mpr ⟨lw_p35, List.forall_mem_cons.mpr ⟨lw_p36, List.forall_mem_cons.mpr ⟨lw_p37, List.forall_mem_cons.mpr ⟨lw_p38, List.forall_mem_cons.mpr ⟨lw_p39, List.forall_mem_cons.mpr ⟨lw_p40, List.forall_mem_cons.mpr ⟨lw_p41, List.forall_mem_cons.mpr ⟨lw_p42, List.forall_mem_cons.mpr ⟨lw_p43, List.forall_mem_cons.mpr ⟨lw_p44, List.forall_mem_cons.mpr ⟨lw_p45, List.forall_mem_cons.mpr ⟨lw_p46, List.forall_mem_cons.mpr ⟨lw_p47, fun _ h => absurd h List.not_mem_nil⟩⟩⟩⟩⟩⟩⟩⟩⟩⟩⟩⟩⟩⟩⟩⟩
theorem lw_p48 : lw_okq (⟨"CarpetCounterModel", "area", "(I)I"⟩, 15) := ⟨⟨by decide +kernel, by decide +kernel⟩, List.mem_of_getElem? (i := 755) (by decide +kernel), List.mem_of_getElem? (i := 947) (by decide +kernel), List.mem_of_getElem? (i := 948) (by decide +kernel)⟩
theorem lw_p49 : lw_okq (⟨"CarpetCounterModel", "takeBack", "()V"⟩, 15) := ⟨⟨by decide +kernel, by decide +kernel⟩, List.mem_of_getElem? (i := 755) (by decide +kernel), List.mem_of_getElem? (i := 951) (by decide +kernel), List.mem_of_getElem? (i := 952) (by decide +kernel)⟩
theorem lw_p50 : lw_okq (⟨"CarpetCounterModel", "stripsOf", "(I)I"⟩, 15) := ⟨⟨by decide +kernel, by decide +kernel⟩, List.mem_of_getElem? (i := 755) (by decide +kernel), List.mem_of_getElem? (i := 959) (by decide +kernel), List.mem_of_getElem? (i := 960) (by decide +kernel)⟩
theorem lw_p51 : lw_okq (⟨"CarpetCounterModel", "widthOfStrip", "(II)I"⟩, 15) := ⟨⟨by decide +kernel, by decide +kernel⟩, List.mem_of_getElem? (i := 755) (by decide +kernel), List.mem_of_getElem? (i := 963) (by decide +kernel), List.mem_of_getElem? (i := 964) (by decide +kernel)⟩
theorem lw_p52 : lw_okq (⟨"CarpetCounterModel", "rankOf", "(II)I"⟩, 15) := ⟨⟨by decide +kernel, by decide +kernel⟩, List.mem_of_getElem? (i := 755) (by decide +kernel), List.mem_of_getElem? (i := 967) (by decide +kernel), List.mem_of_getElem? (i := 968) (by decide +kernel)⟩
theorem lw_p53 : lw_okq (⟨"CarpetCounterModel", "lengthOfStrip", "(II)I"⟩, 15) := ⟨⟨by decide +kernel, by decide +kernel⟩, List.mem_of_getElem? (i := 755) (by decide +kernel), List.mem_of_getElem? (i := 971) (by decide +kernel), List.mem_of_getElem? (i := 972) (by decide +kernel)⟩
theorem lw_p54 : lw_okq (⟨"CarpetCounterModel", "isBelow", "(III)Z"⟩, 15) := ⟨⟨by decide +kernel, by decide +kernel⟩, List.mem_of_getElem? (i := 755) (by decide +kernel), List.mem_of_getElem? (i := 983) (by decide +kernel), List.mem_of_getElem? (i := 984) (by decide +kernel)⟩
theorem lw_p55 : lw_okq (⟨"CarpetCounterModel", "laid", "(I)I"⟩, 15) := ⟨⟨by decide +kernel, by decide +kernel⟩, List.mem_of_getElem? (i := 755) (by decide +kernel), List.mem_of_getElem? (i := 1022) (by decide +kernel), List.mem_of_getElem? (i := 1023) (by decide +kernel)⟩
theorem lw_p56 : lw_okq (⟨"CarpetCounterModel", "seamsOf", "(I)I"⟩, 15) := ⟨⟨by decide +kernel, by decide +kernel⟩, List.mem_of_getElem? (i := 755) (by decide +kernel), List.mem_of_getElem? (i := 1038) (by decide +kernel), List.mem_of_getElem? (i := 1039) (by decide +kernel)⟩
theorem lw_p57 : lw_okq (⟨"CarpetCounterModel", "wasteOfAll", "()I"⟩, 15) := ⟨⟨by decide +kernel, by decide +kernel⟩, List.mem_of_getElem? (i := 755) (by decide +kernel), List.mem_of_getElem? (i := 1050) (by decide +kernel), List.mem_of_getElem? (i := 1051) (by decide +kernel)⟩
theorem lw_p58 : lw_okq (⟨"CarpetCounterModel", "bestFor", "(II)I"⟩, 15) := ⟨⟨by decide +kernel, by decide +kernel⟩, List.mem_of_getElem? (i := 755) (by decide +kernel), List.mem_of_getElem? (i := 1067) (by decide +kernel), List.mem_of_getElem? (i := 1068) (by decide +kernel)⟩
def lw_privs_4 : List (MethodName × Nat) := [(⟨"CarpetCounterModel", "area", "(I)I"⟩, 15), (⟨"CarpetCounterModel", "takeBack", "()V"⟩, 15), (⟨"CarpetCounterModel", "stripsOf", "(I)I"⟩, 15), (⟨"CarpetCounterModel", "widthOfStrip", "(II)I"⟩, 15), (⟨"CarpetCounterModel", "rankOf", "(II)I"⟩, 15), (⟨"CarpetCounterModel", "lengthOfStrip", "(II)I"⟩, 15), (⟨"CarpetCounterModel", "isBelow", "(III)Z"⟩, 15), (⟨"CarpetCounterModel", "laid", "(I)I"⟩, 15), (⟨"CarpetCounterModel", "seamsOf", "(I)I"⟩, 15), (⟨"CarpetCounterModel", "wasteOfAll", "()I"⟩, 15), (⟨"CarpetCounterModel", "bestFor", "(II)I"⟩, 15)]
theorem lw_r4 : ∀ q ∈ lw_privs_4, lw_okq q := List.forall_mem_cons.mpr ⟨lw_p48, List.forall_mem_cons.mpr ⟨lw_p49, List.forall_mem_cons.mpr ⟨lw_p50, List.forall_mem_cons.mpr ⟨lw_p51, List.forall_mem_cons.mpr ⟨lw_p52, List.forall_mem_cons.mpr ⟨lw_p53, List.forall_mem_cons.mpr ⟨lw_p54, List.forall_mem_cons.mpr ⟨lw_p55, List.forall_mem_cons.mpr ⟨lw_p56, List.forall_mem_cons.mpr ⟨lw_p57, List.forall_mem_cons.mpr ⟨lw_p58, fun _ h => absurd h List.not_mem_nil⟩⟩⟩⟩⟩⟩⟩⟩⟩⟩⟩
def lw_privs : List (MethodName × Nat) := lw_privs_1 ++ (lw_privs_2 ++ (lw_privs_3 ++ (lw_privs_4)))
def lw_tbl : List Cond := k2_sels lw_privs ++ tables_1
theorem lw_privs_ok : ∀ q ∈ lw_privs, lw_okq q := by
  show ∀ q ∈ lw_privs_1 ++ (lw_privs_2 ++ (lw_privs_3 ++ (lw_privs_4))), lw_okq q
  exact List.forall_mem_append.mpr ⟨lw_r1, List.forall_mem_append.mpr ⟨lw_r2, List.forall_mem_append.mpr ⟨lw_r3, lw_r4⟩⟩⟩
/-- the streams that the claim lets the run draw from -/
abbrev lw_cs : List Choice := [Jvm.Choice.named "NaN.bits"]
theorem lw_bits : nanBits ∈ lw_cs := by first | decide | exact List.mem_cons_self | simp [lw_cs, nanBits]

-- words that stay true through a run
def tbG : List Cond := lw_tbl.filter goodWord
theorem tbG_hts {args : Array Value} {s : State} (h : ∀ w ∈ lw_tbl, w.before args s = true) : ∀ w ∈ tbG, w.before args s = true := fun w hw => h w (List.mem_filter.mp hw).1
theorem tbG_good : ∀ w ∈ tbG, (w.onTables && w.keeps) = true ∨ ∃ ty, w = .arrayClass ty := fun w hw => good_of_word (List.mem_filter.mp hw).2
theorem tg_t {w : Cond} (h : w ∈ tables_1) (hg : goodWord w = true) : w ∈ tbG := List.mem_filter.mpr ⟨List.mem_append_right _ h, hg⟩
theorem tg_s {q : MethodName × Nat} (h : q ∈ lw_privs) : Cond.selects q.1.cls q.1 q.1 ∈ tbG := List.mem_filter.mpr ⟨List.mem_append_left _ (List.mem_map.mpr ⟨q, h, rfl⟩), rfl⟩

theorem tg1 {w : Cond} (j : Nat) (h : tables_1_1[j]? = some w) (hg : goodWord w = true) : w ∈ tbG := tg_t (List.mem_append_left _ (List.mem_of_getElem? h)) hg
theorem tg2 {w : Cond} (j : Nat) (h : tables_1_2[j]? = some w) (hg : goodWord w = true) : w ∈ tbG := tg_t (List.mem_append_right _ (List.mem_append_left _ (List.mem_of_getElem? h))) hg
theorem tg3 {w : Cond} (j : Nat) (h : tables_1_3[j]? = some w) (hg : goodWord w = true) : w ∈ tbG := tg_t (List.mem_append_right _ (List.mem_append_right _ (List.mem_append_left _ (List.mem_of_getElem? h)))) hg
theorem tg4 {w : Cond} (j : Nat) (h : tables_1_4[j]? = some w) (hg : goodWord w = true) : w ∈ tbG := tg_t (List.mem_append_right _ (List.mem_append_right _ (List.mem_append_right _ (List.mem_append_left _ (List.mem_of_getElem? h))))) hg
theorem tg5 {w : Cond} (j : Nat) (h : tables_1_5[j]? = some w) (hg : goodWord w = true) : w ∈ tbG := tg_t (List.mem_append_right _ (List.mem_append_right _ (List.mem_append_right _ (List.mem_append_right _ (List.mem_of_getElem? h))))) hg
def R_Bk : String := "CarpetCounter$Book"
def T_Bk : u_T := fun k => match k with
  | 0 => ("CarpetCounter$Book", "settings", "LCarpetCounter$Row;", true)
  | 1 => ("CarpetCounter$Book", "rolls", "LCarpetCounter$Rolls;", true)
  | 2 => ("CarpetCounter$Book", "offcuts", "LCarpetCounter$Offcuts;", true)
  | 3 => ("CarpetCounter$Book", "rooms", "LCarpetCounter$Rooms;", true)
  | 4 => ("CarpetCounter$Book", "coins", "I", false)
  | 5 => ("CarpetCounter$Book", "pieceWidth", "I", false)
  | _ => ("CarpetCounter$Book", "pieceLength", "I", false)
def ty_Bk : Nat → FieldType := fun k => match k with
  | 0 => .object "CarpetCounter$Row"
  | 1 => .object "CarpetCounter$Rolls"
  | 2 => .object "CarpetCounter$Offcuts"
  | 3 => .object "CarpetCounter$Rooms"
  | 4 => .int
  | 5 => .int
  | _ => .int
theorem nm_Bk : ∀ a, a < 7 → ∀ b, b < 7 → a ≠ b → (T_Bk a).2.1 ≠ (T_Bk b).2.1 := by decide +kernel
theorem ty_Bk_ok : ∀ k, k < 7 → parseFieldDescriptor (T_Bk k).2.2.1 = some (ty_Bk k) := by decide +kernel
def R_Ch : String := "CarpetCounter$Choice"
def T_Ch : u_T := fun k => match k with
  | 0 => ("CarpetCounter$Choice", "isMade", "Z", false)
  | 1 => ("CarpetCounter$Choice", "roll", "I", false)
  | 2 => ("CarpetCounter$Choice", "way", "I", false)
  | 3 => ("CarpetCounter$Choice", "waste", "I", false)
  | _ => ("CarpetCounter$Choice", "price", "I", false)
def ty_Ch : Nat → FieldType := fun k => match k with
  | 0 => .boolean
  | 1 => .int
  | 2 => .int
  | 3 => .int
  | _ => .int
theorem nm_Ch : ∀ a, a < 5 → ∀ b, b < 5 → a ≠ b → (T_Ch a).2.1 ≠ (T_Ch b).2.1 := by decide +kernel
theorem ty_Ch_ok : ∀ k, k < 5 → parseFieldDescriptor (T_Ch k).2.2.1 = some (ty_Ch k) := by decide +kernel
def R_Hi : String := "CarpetCounter$History"
def T_Hi : u_T := fun k => match k with
  | 0 => ("CarpetCounter$History", "states", "[LCarpetCounter$Book;", true)
  | 1 => ("CarpetCounter$History", "oldest", "I", false)
  | _ => ("CarpetCounter$History", "length", "I", false)
def ty_Hi : Nat → FieldType := fun k => match k with
  | 0 => .array (.object "CarpetCounter$Book")
  | 1 => .int
  | _ => .int
theorem nm_Hi : ∀ a, a < 3 → ∀ b, b < 3 → a ≠ b → (T_Hi a).2.1 ≠ (T_Hi b).2.1 := by decide +kernel
theorem ty_Hi_ok : ∀ k, k < 3 → parseFieldDescriptor (T_Hi k).2.2.1 = some (ty_Hi k) := by decide +kernel
def R_Of : String := "CarpetCounter$Offcuts"
def T_Of : u_T := fun k => match k with
  | 0 => ("CarpetCounter$Offcuts", "kept", "I", false)
  | 1 => ("CarpetCounter$Offcuts", "came", "I", false)
  | 2 => ("CarpetCounter$Offcuts", "number", "LCarpetCounter$Row;", true)
  | 3 => ("CarpetCounter$Offcuts", "roll", "LCarpetCounter$Row;", true)
  | 4 => ("CarpetCounter$Offcuts", "width", "LCarpetCounter$Row;", true)
  | _ => ("CarpetCounter$Offcuts", "length", "LCarpetCounter$Row;", true)
def ty_Of : Nat → FieldType := fun k => match k with
  | 0 => .int
  | 1 => .int
  | 2 => .object "CarpetCounter$Row"
  | 3 => .object "CarpetCounter$Row"
  | 4 => .object "CarpetCounter$Row"
  | _ => .object "CarpetCounter$Row"
theorem nm_Of : ∀ a, a < 6 → ∀ b, b < 6 → a ≠ b → (T_Of a).2.1 ≠ (T_Of b).2.1 := by decide +kernel
theorem ty_Of_ok : ∀ k, k < 6 → parseFieldDescriptor (T_Of k).2.2.1 = some (ty_Of k) := by decide +kernel
def R_Ro : String := "CarpetCounter$Rolls"
def T_Ro : u_T := fun k => match k with
  | 0 => ("CarpetCounter$Rolls", "came", "I", false)
  | 1 => ("CarpetCounter$Rolls", "kind", "LCarpetCounter$Row;", true)
  | 2 => ("CarpetCounter$Rolls", "width", "LCarpetCounter$Row;", true)
  | 3 => ("CarpetCounter$Rolls", "left", "LCarpetCounter$Row;", true)
  | 4 => ("CarpetCounter$Rolls", "price", "LCarpetCounter$Row;", true)
  | 5 => ("CarpetCounter$Rolls", "firstArea", "LCarpetCounter$Row;", true)
  | 6 => ("CarpetCounter$Rolls", "laid", "LCarpetCounter$Row;", true)
  | 7 => ("CarpetCounter$Rolls", "waste", "LCarpetCounter$Row;", true)
  | _ => ("CarpetCounter$Rolls", "sold", "LCarpetCounter$Row;", true)
def ty_Ro : Nat → FieldType := fun k => match k with
  | 0 => .int
  | 1 => .object "CarpetCounter$Row"
  | 2 => .object "CarpetCounter$Row"
  | 3 => .object "CarpetCounter$Row"
  | 4 => .object "CarpetCounter$Row"
  | 5 => .object "CarpetCounter$Row"
  | 6 => .object "CarpetCounter$Row"
  | 7 => .object "CarpetCounter$Row"
  | _ => .object "CarpetCounter$Row"
theorem nm_Ro : ∀ a, a < 9 → ∀ b, b < 9 → a ≠ b → (T_Ro a).2.1 ≠ (T_Ro b).2.1 := by decide +kernel
theorem ty_Ro_ok : ∀ k, k < 9 → parseFieldDescriptor (T_Ro k).2.2.1 = some (ty_Ro k) := by decide +kernel
def R_Te : String := "CarpetCounter$RoomText"
def T_Te : u_T := fun k => match k with
  | 0 => ("CarpetCounter$RoomText", "characters", "LCarpetCounter$Row;", true)
  | 1 => ("CarpetCounter$RoomText", "length", "I", false)
  | 2 => ("CarpetCounter$RoomText", "found", "LCarpetCounter$Rooms;", true)
  | 3 => ("CarpetCounter$RoomText", "stage", "I", false)
  | 4 => ("CarpetCounter$RoomText", "number", "I", false)
  | _ => ("CarpetCounter$RoomText", "fromWest", "I", false)
def ty_Te : Nat → FieldType := fun k => match k with
  | 0 => .object "CarpetCounter$Row"
  | 1 => .int
  | 2 => .object "CarpetCounter$Rooms"
  | 3 => .int
  | 4 => .int
  | _ => .int
theorem nm_Te : ∀ a, a < 6 → ∀ b, b < 6 → a ≠ b → (T_Te a).2.1 ≠ (T_Te b).2.1 := by decide +kernel
theorem ty_Te_ok : ∀ k, k < 6 → parseFieldDescriptor (T_Te k).2.2.1 = some (ty_Te k) := by decide +kernel
def R_Rm : String := "CarpetCounter$Rooms"
def T_Rm : u_T := fun k => match k with
  | 0 => ("CarpetCounter$Rooms", "came", "I", false)
  | 1 => ("CarpetCounter$Rooms", "rectangles", "LCarpetCounter$Row;", true)
  | 2 => ("CarpetCounter$Rooms", "westEast", "LCarpetCounter$Row;", true)
  | 3 => ("CarpetCounter$Rooms", "southNorth", "LCarpetCounter$Row;", true)
  | 4 => ("CarpetCounter$Rooms", "side", "LCarpetCounter$Row;", true)
  | 5 => ("CarpetCounter$Rooms", "roll", "LCarpetCounter$Row;", true)
  | 6 => ("CarpetCounter$Rooms", "rollWidth", "LCarpetCounter$Row;", true)
  | 7 => ("CarpetCounter$Rooms", "way", "LCarpetCounter$Row;", true)
  | 8 => ("CarpetCounter$Rooms", "price", "LCarpetCounter$Row;", true)
  | _ => ("CarpetCounter$Rooms", "sources", "LCarpetCounter$Row;", true)
def ty_Rm : Nat → FieldType := fun k => match k with
  | 0 => .int
  | 1 => .object "CarpetCounter$Row"
  | 2 => .object "CarpetCounter$Row"
  | 3 => .object "CarpetCounter$Row"
  | 4 => .object "CarpetCounter$Row"
  | 5 => .object "CarpetCounter$Row"
  | 6 => .object "CarpetCounter$Row"
  | 7 => .object "CarpetCounter$Row"
  | 8 => .object "CarpetCounter$Row"
  | _ => .object "CarpetCounter$Row"
theorem nm_Rm : ∀ a, a < 10 → ∀ b, b < 10 → a ≠ b → (T_Rm a).2.1 ≠ (T_Rm b).2.1 := by decide +kernel
theorem ty_Rm_ok : ∀ k, k < 10 → parseFieldDescriptor (T_Rm k).2.2.1 = some (ty_Rm k) := by decide +kernel
def R_Rw : String := "CarpetCounter$Row"
def T_Rw : u_T := fun k => match k with
  | _ => ("CarpetCounter$Row", "cells", "[I", true)
def ty_Rw : Nat → FieldType := fun k => match k with
  | _ => .array .int
theorem nm_Rw : ∀ a, a < 1 → ∀ b, b < 1 → a ≠ b → (T_Rw a).2.1 ≠ (T_Rw b).2.1 := by decide +kernel
theorem ty_Rw_ok : ∀ k, k < 1 → parseFieldDescriptor (T_Rw k).2.2.1 = some (ty_Rw k) := by decide +kernel
def R_Cc : String := "CarpetCounter"
def T_Cc : u_T := fun k => match k with
  | 0 => ("CarpetCounter", "book", "LCarpetCounter$Book;", true)
  | 1 => ("CarpetCounter", "snapshot", "LCarpetCounter$Book;", true)
  | 2 => ("CarpetCounter", "trial", "LCarpetCounter$Book;", true)
  | 3 => ("CarpetCounter", "plan", "LCarpetCounter$Book;", true)
  | 4 => ("CarpetCounter", "history", "LCarpetCounter$History;", true)
  | 5 => ("CarpetCounter", "text", "LCarpetCounter$RoomText;", true)
  | 6 => ("CarpetCounter", "choice", "LCarpetCounter$Choice;", true)
  | _ => ("CarpetCounter", "hasSnapshot", "Z", false)
def ty_Cc : Nat → FieldType := fun k => match k with
  | 0 => .object "CarpetCounter$Book"
  | 1 => .object "CarpetCounter$Book"
  | 2 => .object "CarpetCounter$Book"
  | 3 => .object "CarpetCounter$Book"
  | 4 => .object "CarpetCounter$History"
  | 5 => .object "CarpetCounter$RoomText"
  | 6 => .object "CarpetCounter$Choice"
  | _ => .boolean
theorem nm_Cc : ∀ a, a < 8 → ∀ b, b < 8 → a ≠ b → (T_Cc a).2.1 ≠ (T_Cc b).2.1 := by decide +kernel
theorem ty_Cc_ok : ∀ k, k < 8 → parseFieldDescriptor (T_Cc k).2.2.1 = some (ty_Cc k) := by decide +kernel
def R_Mo : String := "CarpetCounterModel"
def T_Mo : u_T := fun k => match k with
  | 0 => ("CarpetCounterModel", "now", "[I", true)
  | 1 => ("CarpetCounterModel", "slot", "[I", true)
  | 2 => ("CarpetCounterModel", "beside", "[I", true)
  | 3 => ("CarpetCounterModel", "deep", "[I", true)
  | 4 => ("CarpetCounterModel", "history", "[I", true)
  | 5 => ("CarpetCounterModel", "text", "[I", true)
  | 6 => ("CarpetCounterModel", "read", "[I", true)
  | 7 => ("CarpetCounterModel", "place", "I", false)
  | 8 => ("CarpetCounterModel", "kept", "I", false)
  | 9 => ("CarpetCounterModel", "length", "I", false)
  | 10 => ("CarpetCounterModel", "isFilled", "Z", false)
  | 11 => ("CarpetCounterModel", "strips", "I", false)
  | 12 => ("CarpetCounterModel", "seams", "I", false)
  | 13 => ("CarpetCounterModel", "fromOffcuts", "I", false)
  | _ => ("CarpetCounterModel", "price", "I", false)
def ty_Mo : Nat → FieldType := fun k => match k with
  | 0 => .array .int
  | 1 => .array .int
  | 2 => .array .int
  | 3 => .array .int
  | 4 => .array .int
  | 5 => .array .int
  | 6 => .array .int
  | 7 => .int
  | 8 => .int
  | 9 => .int
  | 10 => .boolean
  | 11 => .int
  | 12 => .int
  | 13 => .int
  | _ => .int
theorem nm_Mo : ∀ a, a < 15 → ∀ b, b < 15 → a ≠ b → (T_Mo a).2.1 ≠ (T_Mo b).2.1 := by decide +kernel
theorem ty_Mo_ok : ∀ k, k < 15 → parseFieldDescriptor (T_Mo k).2.2.1 = some (ty_Mo k) := by decide +kernel
abbrev vwCl : List vw_C := [(R_Bk, T_Bk, 7), (R_Ch, T_Ch, 5), (R_Hi, T_Hi, 3), (R_Of, T_Of, 6), (R_Ro, T_Ro, 9), (R_Te, T_Te, 6), (R_Rm, T_Rm, 10), (R_Rw, T_Rw, 1), (R_Cc, T_Cc, 8), (R_Mo, T_Mo, 15)]
def R_La : String := "CarpetCounterLaw"
abbrev c_La_law : ByteArray := code
def y_La_law : MethodName := ⟨R_La, "law", "([I)Z"⟩
abbrev c_Bk_copyFrom : ByteArray := prog_2_method_2_code
def y_Bk_copyFrom : MethodName := ⟨R_Bk, "copyFrom", "(LCarpetCounter$Book;)V"⟩
abbrev c_Bk_init : ByteArray := prog_2_method_1_code
def y_Bk_init : MethodName := ⟨R_Bk, "<init>", "()V"⟩
abbrev c_Bk_isLongBeside : ByteArray := prog_2_method_7_code
def y_Bk_isLongBeside : MethodName := ⟨R_Bk, "isLongBeside", "(II)Z"⟩
abbrev c_Bk_lay : ByteArray := prog_2_method_3_code
def y_Bk_lay : MethodName := ⟨R_Bk, "lay", "(III)I"⟩
abbrev c_Bk_leaveRest : ByteArray := prog_2_method_8_code
def y_Bk_leaveRest : MethodName := ⟨R_Bk, "leaveRest", "(III)Z"⟩
abbrev c_Bk_leaveRests : ByteArray := prog_2_method_6_code
def y_Bk_leaveRests : MethodName := ⟨R_Bk, "leaveRests", "(III)Z"⟩
abbrev c_Bk_lift : ByteArray := prog_2_method_9_code
def y_Bk_lift : MethodName := ⟨R_Bk, "lift", "(I)I"⟩
abbrev c_Bk_seamPrice : ByteArray := prog_2_method_4_code
def y_Bk_seamPrice : MethodName := ⟨R_Bk, "seamPrice", "(II)I"⟩
abbrev c_Bk_sellAt : ByteArray := prog_2_method_10_code
def y_Bk_sellAt : MethodName := ⟨R_Bk, "sellAt", "(I)I"⟩
abbrev c_Bk_sufficesByWay : ByteArray := prog_2_method_13_code
def y_Bk_sufficesByWay : MethodName := ⟨R_Bk, "sufficesByWay", "(III)Z"⟩
abbrev c_Bk_sufficesFor : ByteArray := prog_2_method_12_code
def y_Bk_sufficesFor : MethodName := ⟨R_Bk, "sufficesFor", "(II)Z"⟩
abbrev c_Bk_takePiece : ByteArray := prog_2_method_5_code
def y_Bk_takePiece : MethodName := ⟨R_Bk, "takePiece", "(IIIII)Z"⟩
abbrev c_Bk_throwSmallOnes : ByteArray := prog_2_method_11_code
def y_Bk_throwSmallOnes : MethodName := ⟨R_Bk, "throwSmallOnes", "(II)I"⟩
abbrev c_Ch_init : ByteArray := prog_3_method_1_code
def y_Ch_init : MethodName := ⟨R_Ch, "<init>", "()V"⟩
abbrev c_Ch_offer : ByteArray := prog_3_method_2_code
def y_Ch_offer : MethodName := ⟨R_Ch, "offer", "(IIII)V"⟩
abbrev c_Hi_init : ByteArray := prog_4_method_1_code
def y_Hi_init : MethodName := ⟨R_Hi, "<init>", "()V"⟩
abbrev c_Hi_moveLatestTo : ByteArray := prog_4_method_3_code
def y_Hi_moveLatestTo : MethodName := ⟨R_Hi, "moveLatestTo", "(LCarpetCounter$Book;)V"⟩
abbrev c_Hi_record : ByteArray := prog_4_method_2_code
def y_Hi_record : MethodName := ⟨R_Hi, "record", "(LCarpetCounter$Book;)V"⟩
abbrev c_Hi_slotAt : ByteArray := prog_4_method_4_code
def y_Hi_slotAt : MethodName := ⟨R_Hi, "slotAt", "(I)LCarpetCounter$Book;"⟩
abbrev c_Of_append : ByteArray := prog_5_method_2_code
def y_Of_append : MethodName := ⟨R_Of, "append", "(III)Z"⟩
abbrev c_Of_area : ByteArray := prog_5_method_5_code
def y_Of_area : MethodName := ⟨R_Of, "area", "(I)I"⟩
abbrev c_Of_areaOf : ByteArray := prog_5_method_7_code
def y_Of_areaOf : MethodName := ⟨R_Of, "areaOf", "(I)I"⟩
abbrev c_Of_copyFrom : ByteArray := prog_5_method_14_code
def y_Of_copyFrom : MethodName := ⟨R_Of, "copyFrom", "(LCarpetCounter$Offcuts;)V"⟩
abbrev c_Of_holds : ByteArray := prog_5_method_10_code
def y_Of_holds : MethodName := ⟨R_Of, "holds", "(III)Z"⟩
abbrev c_Of_init : ByteArray := prog_5_method_1_code
def y_Of_init : MethodName := ⟨R_Of, "<init>", "()V"⟩
abbrev c_Of_isSmall : ByteArray := prog_5_method_8_code
def y_Of_isSmall : MethodName := ⟨R_Of, "isSmall", "(III)Z"⟩
abbrev c_Of_keptOf : ByteArray := prog_5_method_6_code
def y_Of_keptOf : MethodName := ⟨R_Of, "keptOf", "(I)I"⟩
abbrev c_Of_placeByArea : ByteArray := prog_5_method_12_code
def y_Of_placeByArea : MethodName := ⟨R_Of, "placeByArea", "(I)I"⟩
abbrev c_Of_placeFor : ByteArray := prog_5_method_11_code
def y_Of_placeFor : MethodName := ⟨R_Of, "placeFor", "(III)I"⟩
abbrev c_Of_placeOf : ByteArray := prog_5_method_4_code
def y_Of_placeOf : MethodName := ⟨R_Of, "placeOf", "(I)I"⟩
abbrev c_Of_rankOf : ByteArray := prog_5_method_13_code
def y_Of_rankOf : MethodName := ⟨R_Of, "rankOf", "(I)I"⟩
abbrev c_Of_removeAt : ByteArray := prog_5_method_3_code
def y_Of_removeAt : MethodName := ⟨R_Of, "removeAt", "(I)V"⟩
abbrev c_Of_smallOnes : ByteArray := prog_5_method_9_code
def y_Of_smallOnes : MethodName := ⟨R_Of, "smallOnes", "(II)I"⟩
abbrev c_Ro_append : ByteArray := prog_6_method_3_code
def y_Ro_append : MethodName := ⟨R_Ro, "append", "(IIII)I"⟩
abbrev c_Ro_copyFrom : ByteArray := prog_6_method_4_code
def y_Ro_copyFrom : MethodName := ⟨R_Ro, "copyFrom", "(LCarpetCounter$Rolls;)V"⟩
abbrev c_Ro_has : ByteArray := prog_6_method_2_code
def y_Ro_has : MethodName := ⟨R_Ro, "has", "(I)Z"⟩
abbrev c_Ro_init : ByteArray := prog_6_method_1_code
def y_Ro_init : MethodName := ⟨R_Ro, "<init>", "()V"⟩
abbrev c_Te_append : ByteArray := prog_7_method_2_code
def y_Te_append : MethodName := ⟨R_Te, "append", "(C)Z"⟩
abbrev c_Te_beginRoom : ByteArray := prog_7_method_4_code
def y_Te_beginRoom : MethodName := ⟨R_Te, "beginRoom", "()V"⟩
abbrev c_Te_init : ByteArray := prog_7_method_1_code
def y_Te_init : MethodName := ⟨R_Te, "<init>", "()V"⟩
abbrev c_Te_read : ByteArray := prog_7_method_3_code
def y_Te_read : MethodName := ⟨R_Te, "read", "()I"⟩
abbrev c_Te_takes : ByteArray := prog_7_method_5_code
def y_Te_takes : MethodName := ⟨R_Te, "takes", "(I)Z"⟩
abbrev c_Te_takesBehindSizes : ByteArray := prog_7_method_8_code
def y_Te_takesBehindSizes : MethodName := ⟨R_Te, "takesBehindSizes", "(I)Z"⟩
abbrev c_Te_takesBetweenRooms : ByteArray := prog_7_method_10_code
def y_Te_takesBetweenRooms : MethodName := ⟨R_Te, "takesBetweenRooms", "(I)Z"⟩
abbrev c_Te_takesBetweenSizes : ByteArray := prog_7_method_7_code
def y_Te_takesBetweenSizes : MethodName := ⟨R_Te, "takesBetweenSizes", "(I)Z"⟩
abbrev c_Te_takesDigit : ByteArray := prog_7_method_6_code
def y_Te_takesDigit : MethodName := ⟨R_Te, "takesDigit", "(I)Z"⟩
abbrev c_Te_takesLight : ByteArray := prog_7_method_9_code
def y_Te_takesLight : MethodName := ⟨R_Te, "takesLight", "(I)Z"⟩
abbrev c_Rm_addRectangle : ByteArray := prog_8_method_5_code
def y_Rm_addRectangle : MethodName := ⟨R_Rm, "addRectangle", "(II)V"⟩
abbrev c_Rm_appendAll : ByteArray := prog_8_method_7_code
def y_Rm_appendAll : MethodName := ⟨R_Rm, "appendAll", "(LCarpetCounter$Rooms;)V"⟩
abbrev c_Rm_area : ByteArray := prog_8_method_9_code
def y_Rm_area : MethodName := ⟨R_Rm, "area", "(I)I"⟩
abbrev c_Rm_begin : ByteArray := prog_8_method_4_code
def y_Rm_begin : MethodName := ⟨R_Rm, "begin", "()V"⟩
abbrev c_Rm_cell : ByteArray := prog_8_method_8_code
def y_Rm_cell : MethodName := ⟨R_Rm, "cell", "(II)I"⟩
abbrev c_Rm_copyFrom : ByteArray := prog_8_method_25_code
def y_Rm_copyFrom : MethodName := ⟨R_Rm, "copyFrom", "(LCarpetCounter$Rooms;)V"⟩
abbrev c_Rm_covered : ByteArray := prog_8_method_10_code
def y_Rm_covered : MethodName := ⟨R_Rm, "covered", "()I"⟩
abbrev c_Rm_coveredArea : ByteArray := prog_8_method_11_code
def y_Rm_coveredArea : MethodName := ⟨R_Rm, "coveredArea", "()I"⟩
abbrev c_Rm_finish : ByteArray := prog_8_method_6_code
def y_Rm_finish : MethodName := ⟨R_Rm, "finish", "(I)V"⟩
abbrev c_Rm_has : ByteArray := prog_8_method_2_code
def y_Rm_has : MethodName := ⟨R_Rm, "has", "(I)Z"⟩
abbrev c_Rm_init : ByteArray := prog_8_method_1_code
def y_Rm_init : MethodName := ⟨R_Rm, "<init>", "()V"⟩
abbrev c_Rm_isAcross : ByteArray := prog_8_method_12_code
def y_Rm_isAcross : MethodName := ⟨R_Rm, "isAcross", "(II)Z"⟩
abbrev c_Rm_isCovered : ByteArray := prog_8_method_3_code
def y_Rm_isCovered : MethodName := ⟨R_Rm, "isCovered", "(I)Z"⟩
abbrev c_Rm_putBare : ByteArray := prog_8_method_16_code
def y_Rm_putBare : MethodName := ⟨R_Rm, "putBare", "(I)V"⟩
abbrev c_Rm_putCovering : ByteArray := prog_8_method_15_code
def y_Rm_putCovering : MethodName := ⟨R_Rm, "putCovering", "(IIII)V"⟩
abbrev c_Rm_putSource : ByteArray := prog_8_method_17_code
def y_Rm_putSource : MethodName := ⟨R_Rm, "putSource", "(III)V"⟩
abbrev c_Rm_rectangleLength : ByteArray := prog_8_method_14_code
def y_Rm_rectangleLength : MethodName := ⟨R_Rm, "rectangleLength", "(III)I"⟩
abbrev c_Rm_rectangleWidth : ByteArray := prog_8_method_13_code
def y_Rm_rectangleWidth : MethodName := ⟨R_Rm, "rectangleWidth", "(III)I"⟩
abbrev c_Rm_seams : ByteArray := prog_8_method_21_code
def y_Rm_seams : MethodName := ⟨R_Rm, "seams", "(I)I"⟩
abbrev c_Rm_source : ByteArray := prog_8_method_18_code
def y_Rm_source : MethodName := ⟨R_Rm, "source", "(II)I"⟩
abbrev c_Rm_stripLength : ByteArray := prog_8_method_23_code
def y_Rm_stripLength : MethodName := ⟨R_Rm, "stripLength", "(II)I"⟩
abbrev c_Rm_stripWidth : ByteArray := prog_8_method_22_code
def y_Rm_stripWidth : MethodName := ⟨R_Rm, "stripWidth", "(II)I"⟩
abbrev c_Rm_strips : ByteArray := prog_8_method_20_code
def y_Rm_strips : MethodName := ⟨R_Rm, "strips", "(I)I"⟩
abbrev c_Rm_stripsFromOffcuts : ByteArray := prog_8_method_24_code
def y_Rm_stripsFromOffcuts : MethodName := ⟨R_Rm, "stripsFromOffcuts", "(I)I"⟩
abbrev c_Rm_stripsIn : ByteArray := prog_8_method_19_code
def y_Rm_stripsIn : MethodName := ⟨R_Rm, "stripsIn", "(II)I"⟩
abbrev c_Rw_add : ByteArray := prog_9_method_4_code
def y_Rw_add : MethodName := ⟨R_Rw, "add", "(II)V"⟩
abbrev c_Rw_at : ByteArray := prog_9_method_2_code
def y_Rw_at : MethodName := ⟨R_Rw, "at", "(I)I"⟩
abbrev c_Rw_copyFrom : ByteArray := prog_9_method_7_code
def y_Rw_copyFrom : MethodName := ⟨R_Rw, "copyFrom", "(LCarpetCounter$Row;)V"⟩
abbrev c_Rw_init : ByteArray := prog_9_method_1_code
def y_Rw_init : MethodName := ⟨R_Rw, "<init>", "(I)V"⟩
abbrev c_Rw_put : ByteArray := prog_9_method_3_code
def y_Rw_put : MethodName := ⟨R_Rw, "put", "(II)V"⟩
abbrev c_Rw_removeAt : ByteArray := prog_9_method_5_code
def y_Rw_removeAt : MethodName := ⟨R_Rw, "removeAt", "(I)V"⟩
abbrev c_Rw_sum : ByteArray := prog_9_method_6_code
def y_Rw_sum : MethodName := ⟨R_Rw, "sum", "()I"⟩
abbrev c_Cc_best : ByteArray := prog_1_method_26_code
def y_Cc_best : MethodName := ⟨R_Cc, "best", "(III)I"⟩
abbrev c_Cc_choose : ByteArray := prog_1_method_29_code
def y_Cc_choose : MethodName := ⟨R_Cc, "choose", "(LCarpetCounter$Book;II)V"⟩
abbrev c_Cc_clear : ByteArray := prog_1_method_7_code
def y_Cc_clear : MethodName := ⟨R_Cc, "clear", "(II)I"⟩
abbrev c_Cc_clearText : ByteArray := prog_1_method_11_code
def y_Cc_clearText : MethodName := ⟨R_Cc, "clearText", "()I"⟩
abbrev c_Cc_count : ByteArray := prog_1_method_22_code
def y_Cc_count : MethodName := ⟨R_Cc, "count", "(I)I"⟩
abbrev c_Cc_cover : ByteArray := prog_1_method_4_code
def y_Cc_cover : MethodName := ⟨R_Cc, "cover", "(III)I"⟩
abbrev c_Cc_coverAll : ByteArray := prog_1_method_28_code
def y_Cc_coverAll : MethodName := ⟨R_Cc, "coverAll", "(II)I"⟩
abbrev c_Cc_covering : ByteArray := prog_1_method_20_code
def y_Cc_covering : MethodName := ⟨R_Cc, "covering", "(II)I"⟩
abbrev c_Cc_fault : ByteArray := prog_1_method_12_code
def y_Cc_fault : MethodName := ⟨R_Cc, "fault", "()I"⟩
abbrev c_Cc_ifCovered : ByteArray := prog_1_method_25_code
def y_Cc_ifCovered : MethodName := ⟨R_Cc, "ifCovered", "(IIII)I"⟩
abbrev c_Cc_init : ByteArray := prog_1_method_1_code
def y_Cc_init : MethodName := ⟨R_Cc, "<init>", "()V"⟩
abbrev c_Cc_isKind : ByteArray := prog_1_method_30_code
def y_Cc_isKind : MethodName := ⟨R_Cc, "isKind", "(I)Z"⟩
abbrev c_Cc_isSetting : ByteArray := prog_1_method_9_code
def y_Cc_isSetting : MethodName := ⟨R_Cc, "isSetting", "(II)Z"⟩
abbrev c_Cc_isWay : ByteArray := prog_1_method_31_code
def y_Cc_isWay : MethodName := ⟨R_Cc, "isWay", "(I)Z"⟩
abbrev c_Cc_keep : ByteArray := prog_1_method_14_code
def y_Cc_keep : MethodName := ⟨R_Cc, "keep", "()I"⟩
abbrev c_Cc_offcut : ByteArray := prog_1_method_17_code
def y_Cc_offcut : MethodName := ⟨R_Cc, "offcut", "(II)I"⟩
abbrev c_Cc_restore : ByteArray := prog_1_method_15_code
def y_Cc_restore : MethodName := ⟨R_Cc, "restore", "()I"⟩
abbrev c_Cc_roll : ByteArray := prog_1_method_2_code
def y_Cc_roll : MethodName := ⟨R_Cc, "roll", "(IIII)I"⟩
abbrev c_Cc_rollOf : ByteArray := prog_1_method_16_code
def y_Cc_rollOf : MethodName := ⟨R_Cc, "rollOf", "(II)I"⟩
abbrev c_Cc_room : ByteArray := prog_1_method_19_code
def y_Cc_room : MethodName := ⟨R_Cc, "room", "(II)I"⟩
abbrev c_Cc_rooms : ByteArray := prog_1_method_3_code
def y_Cc_rooms : MethodName := ⟨R_Cc, "rooms", "()I"⟩
abbrev c_Cc_sell : ByteArray := prog_1_method_6_code
def y_Cc_sell : MethodName := ⟨R_Cc, "sell", "(I)I"⟩
abbrev c_Cc_set : ByteArray := prog_1_method_8_code
def y_Cc_set : MethodName := ⟨R_Cc, "set", "(II)I"⟩
abbrev c_Cc_setting : ByteArray := prog_1_method_23_code
def y_Cc_setting : MethodName := ⟨R_Cc, "setting", "(I)I"⟩
abbrev c_Cc_sorted : ByteArray := prog_1_method_18_code
def y_Cc_sorted : MethodName := ⟨R_Cc, "sorted", "(I)I"⟩
abbrev c_Cc_strip : ByteArray := prog_1_method_21_code
def y_Cc_strip : MethodName := ⟨R_Cc, "strip", "(III)I"⟩
abbrev c_Cc_suits : ByteArray := prog_1_method_27_code
def y_Cc_suits : MethodName := ⟨R_Cc, "suits", "(I)I"⟩
abbrev c_Cc_takeUp : ByteArray := prog_1_method_5_code
def y_Cc_takeUp : MethodName := ⟨R_Cc, "takeUp", "(I)I"⟩
abbrev c_Cc_type : ByteArray := prog_1_method_10_code
def y_Cc_type : MethodName := ⟨R_Cc, "type", "(C)I"⟩
abbrev c_Cc_undo : ByteArray := prog_1_method_13_code
def y_Cc_undo : MethodName := ⟨R_Cc, "undo", "()I"⟩
abbrev c_Cc_wasted : ByteArray := prog_1_method_24_code
def y_Cc_wasted : MethodName := ⟨R_Cc, "wasted", "(I)D"⟩
abbrev c_Mo_add : ByteArray := prog_11_method_7_code
def y_Mo_add : MethodName := ⟨R_Mo, "add", "(III)V"⟩
abbrev c_Mo_addOffcut : ByteArray := prog_11_method_18_code
def y_Mo_addOffcut : MethodName := ⟨R_Mo, "addOffcut", "(III)V"⟩
abbrev c_Mo_area : ByteArray := prog_11_method_29_code
def y_Mo_area : MethodName := ⟨R_Mo, "area", "(I)I"⟩
abbrev c_Mo_areaOf : ByteArray := prog_11_method_16_code
def y_Mo_areaOf : MethodName := ⟨R_Mo, "areaOf", "(I)I"⟩
abbrev c_Mo_at : ByteArray := prog_11_method_8_code
def y_Mo_at : MethodName := ⟨R_Mo, "at", "(II)I"⟩
abbrev c_Mo_best : ByteArray := prog_11_method_68_code
def y_Mo_best : MethodName := ⟨R_Mo, "best", "(III)I"⟩
abbrev c_Mo_bestFor : ByteArray := prog_11_method_67_code
def y_Mo_bestFor : MethodName := ⟨R_Mo, "bestFor", "(II)I"⟩
abbrev c_Mo_check : ByteArray := prog_11_method_33_code
def y_Mo_check : MethodName := ⟨R_Mo, "check", "(III)I"⟩
abbrev c_Mo_clear : ByteArray := prog_11_method_43_code
def y_Mo_clear : MethodName := ⟨R_Mo, "clear", "(II)I"⟩
abbrev c_Mo_clearText : ByteArray := prog_11_method_47_code
def y_Mo_clearText : MethodName := ⟨R_Mo, "clearText", "()I"⟩
abbrev c_Mo_count : ByteArray := prog_11_method_64_code
def y_Mo_count : MethodName := ⟨R_Mo, "count", "(I)I"⟩
abbrev c_Mo_cover : ByteArray := prog_11_method_34_code
def y_Mo_cover : MethodName := ⟨R_Mo, "cover", "(III)I"⟩
abbrev c_Mo_coverAll : ByteArray := prog_11_method_70_code
def y_Mo_coverAll : MethodName := ⟨R_Mo, "coverAll", "(II)I"⟩
abbrev c_Mo_coverNow : ByteArray := prog_11_method_30_code
def y_Mo_coverNow : MethodName := ⟨R_Mo, "coverNow", "(III)I"⟩
abbrev c_Mo_cut : ByteArray := prog_11_method_22_code
def y_Mo_cut : MethodName := ⟨R_Mo, "cut", "(IIIII)Z"⟩
abbrev c_Mo_drop : ByteArray := prog_11_method_19_code
def y_Mo_drop : MethodName := ⟨R_Mo, "drop", "(I)V"⟩
abbrev c_Mo_fault : ByteArray := prog_11_method_53_code
def y_Mo_fault : MethodName := ⟨R_Mo, "fault", "()I"⟩
abbrev c_Mo_greater : ByteArray := prog_11_method_21_code
def y_Mo_greater : MethodName := ⟨R_Mo, "greater", "(II)I"⟩
abbrev c_Mo_ifCovered : ByteArray := prog_11_method_66_code
def y_Mo_ifCovered : MethodName := ⟨R_Mo, "ifCovered", "(IIII)I"⟩
abbrev c_Mo_in : ByteArray := prog_11_method_2_code
def y_Mo_in : MethodName := ⟨R_Mo, "in", "(III)Z"⟩
abbrev c_Mo_init : ByteArray := prog_11_method_1_code
def y_Mo_init : MethodName := ⟨R_Mo, "<init>", "()V"⟩
abbrev c_Mo_isAcross : ByteArray := prog_11_method_28_code
def y_Mo_isAcross : MethodName := ⟨R_Mo, "isAcross", "(II)Z"⟩
abbrev c_Mo_isBelow : ByteArray := prog_11_method_42_code
def y_Mo_isBelow : MethodName := ⟨R_Mo, "isBelow", "(III)Z"⟩
abbrev c_Mo_isKept : ByteArray := prog_11_method_12_code
def y_Mo_isKept : MethodName := ⟨R_Mo, "isKept", "(I)Z"⟩
abbrev c_Mo_isNext : ByteArray := prog_11_method_48_code
def y_Mo_isNext : MethodName := ⟨R_Mo, "isNext", "(II)Z"⟩
abbrev c_Mo_isRoll : ByteArray := prog_11_method_10_code
def y_Mo_isRoll : MethodName := ⟨R_Mo, "isRoll", "(I)Z"⟩
abbrev c_Mo_isRoom : ByteArray := prog_11_method_11_code
def y_Mo_isRoom : MethodName := ⟨R_Mo, "isRoom", "(I)Z"⟩
abbrev c_Mo_keep : ByteArray := prog_11_method_55_code
def y_Mo_keep : MethodName := ⟨R_Mo, "keep", "()I"⟩
abbrev c_Mo_keptOnes : ByteArray := prog_11_method_17_code
def y_Mo_keptOnes : MethodName := ⟨R_Mo, "keptOnes", "()I"⟩
abbrev c_Mo_laid : ByteArray := prog_11_method_57_code
def y_Mo_laid : MethodName := ⟨R_Mo, "laid", "(I)I"⟩
abbrev c_Mo_lay : ByteArray := prog_11_method_4_code
def y_Mo_lay : MethodName := ⟨R_Mo, "lay", "()V"⟩
abbrev c_Mo_lengthOf : ByteArray := prog_11_method_15_code
def y_Mo_lengthOf : MethodName := ⟨R_Mo, "lengthOf", "(I)I"⟩
abbrev c_Mo_lengthOfStrip : ByteArray := prog_11_method_39_code
def y_Mo_lengthOfStrip : MethodName := ⟨R_Mo, "lengthOfStrip", "(II)I"⟩
abbrev c_Mo_longs : ByteArray := prog_11_method_25_code
def y_Mo_longs : MethodName := ⟨R_Mo, "longs", "(III)I"⟩
abbrev c_Mo_most : ByteArray := prog_11_method_44_code
def y_Mo_most : MethodName := ⟨R_Mo, "most", "(I)I"⟩
abbrev c_Mo_of : ByteArray := prog_11_method_6_code
def y_Mo_of : MethodName := ⟨R_Mo, "of", "(II)I"⟩
abbrev c_Mo_offcut : ByteArray := prog_11_method_59_code
def y_Mo_offcut : MethodName := ⟨R_Mo, "offcut", "(II)I"⟩
abbrev c_Mo_offcutFor : ByteArray := prog_11_method_23_code
def y_Mo_offcutFor : MethodName := ⟨R_Mo, "offcutFor", "(III)I"⟩
abbrev c_Mo_put : ByteArray := prog_11_method_9_code
def y_Mo_put : MethodName := ⟨R_Mo, "put", "(III)V"⟩
abbrev c_Mo_rankOf : ByteArray := prog_11_method_35_code
def y_Mo_rankOf : MethodName := ⟨R_Mo, "rankOf", "(II)I"⟩
abbrev c_Mo_readAll : ByteArray := prog_11_method_52_code
def y_Mo_readAll : MethodName := ⟨R_Mo, "readAll", "()I"⟩
abbrev c_Mo_readRoom : ByteArray := prog_11_method_51_code
def y_Mo_readRoom : MethodName := ⟨R_Mo, "readRoom", "()Z"⟩
abbrev c_Mo_record : ByteArray := prog_11_method_3_code
def y_Mo_record : MethodName := ⟨R_Mo, "record", "()V"⟩
abbrev c_Mo_rest : ByteArray := prog_11_method_20_code
def y_Mo_rest : MethodName := ⟨R_Mo, "rest", "(III)Z"⟩
abbrev c_Mo_restore : ByteArray := prog_11_method_56_code
def y_Mo_restore : MethodName := ⟨R_Mo, "restore", "()I"⟩
abbrev c_Mo_roll : ByteArray := prog_11_method_31_code
def y_Mo_roll : MethodName := ⟨R_Mo, "roll", "(IIII)I"⟩
abbrev c_Mo_rollOf : ByteArray := prog_11_method_58_code
def y_Mo_rollOf : MethodName := ⟨R_Mo, "rollOf", "(II)I"⟩
abbrev c_Mo_rollOfOffcut : ByteArray := prog_11_method_13_code
def y_Mo_rollOfOffcut : MethodName := ⟨R_Mo, "rollOfOffcut", "(I)I"⟩
abbrev c_Mo_room : ByteArray := prog_11_method_61_code
def y_Mo_room : MethodName := ⟨R_Mo, "room", "(II)I"⟩
abbrev c_Mo_rooms : ByteArray := prog_11_method_32_code
def y_Mo_rooms : MethodName := ⟨R_Mo, "rooms", "()I"⟩
abbrev c_Mo_rounds : ByteArray := prog_11_method_26_code
def y_Mo_rounds : MethodName := ⟨R_Mo, "rounds", "(II)I"⟩
abbrev c_Mo_seamsOf : ByteArray := prog_11_method_37_code
def y_Mo_seamsOf : MethodName := ⟨R_Mo, "seamsOf", "(I)I"⟩
abbrev c_Mo_sell : ByteArray := prog_11_method_41_code
def y_Mo_sell : MethodName := ⟨R_Mo, "sell", "(I)I"⟩
abbrev c_Mo_set : ByteArray := prog_11_method_45_code
def y_Mo_set : MethodName := ⟨R_Mo, "set", "(II)I"⟩
abbrev c_Mo_sign : ByteArray := prog_11_method_49_code
def y_Mo_sign : MethodName := ⟨R_Mo, "sign", "(I)Z"⟩
abbrev c_Mo_size : ByteArray := prog_11_method_50_code
def y_Mo_size : MethodName := ⟨R_Mo, "size", "(I)Z"⟩
abbrev c_Mo_sorted : ByteArray := prog_11_method_60_code
def y_Mo_sorted : MethodName := ⟨R_Mo, "sorted", "(I)I"⟩
abbrev c_Mo_strip : ByteArray := prog_11_method_62_code
def y_Mo_strip : MethodName := ⟨R_Mo, "strip", "(III)I"⟩
abbrev c_Mo_stripWidth : ByteArray := prog_11_method_27_code
def y_Mo_stripWidth : MethodName := ⟨R_Mo, "stripWidth", "(III)I"⟩
abbrev c_Mo_stripsOf : ByteArray := prog_11_method_36_code
def y_Mo_stripsOf : MethodName := ⟨R_Mo, "stripsOf", "(I)I"⟩
abbrev c_Mo_suits : ByteArray := prog_11_method_69_code
def y_Mo_suits : MethodName := ⟨R_Mo, "suits", "(I)I"⟩
abbrev c_Mo_takeBack : ByteArray := prog_11_method_5_code
def y_Mo_takeBack : MethodName := ⟨R_Mo, "takeBack", "()V"⟩
abbrev c_Mo_takeUp : ByteArray := prog_11_method_40_code
def y_Mo_takeUp : MethodName := ⟨R_Mo, "takeUp", "(I)I"⟩
abbrev c_Mo_type : ByteArray := prog_11_method_46_code
def y_Mo_type : MethodName := ⟨R_Mo, "type", "(C)I"⟩
abbrev c_Mo_undo : ByteArray := prog_11_method_54_code
def y_Mo_undo : MethodName := ⟨R_Mo, "undo", "()I"⟩
abbrev c_Mo_wasteOfAll : ByteArray := prog_11_method_63_code
def y_Mo_wasteOfAll : MethodName := ⟨R_Mo, "wasteOfAll", "()I"⟩
abbrev c_Mo_wasted : ByteArray := prog_11_method_65_code
def y_Mo_wasted : MethodName := ⟨R_Mo, "wasted", "(I)D"⟩
abbrev c_Mo_wide : ByteArray := prog_11_method_24_code
def y_Mo_wide : MethodName := ⟨R_Mo, "wide", "(III)I"⟩
abbrev c_Mo_widthOf : ByteArray := prog_11_method_14_code
def y_Mo_widthOf : MethodName := ⟨R_Mo, "widthOf", "(I)I"⟩
abbrev c_Mo_widthOfStrip : ByteArray := prog_11_method_38_code
def y_Mo_widthOfStrip : MethodName := ⟨R_Mo, "widthOfStrip", "(II)I"⟩
end
section
theorem d_Bk_init_0 : decode c_Bk_init 0 = .ok (.aload_n 0, 1) := by decide +kernel
theorem d_Bk_init_1 : decode c_Bk_init 1 = .ok (.invokespecial 3, 3) := by decide +kernel
theorem d_Bk_init_4 : decode c_Bk_init 4 = .ok (.aload_n 0, 1) := by decide +kernel
theorem d_Bk_init_5 : decode c_Bk_init 5 = .ok (.new 9, 3) := by decide +kernel
theorem d_Bk_init_8 : decode c_Bk_init 8 = .ok (.dup, 1) := by decide +kernel
theorem d_Bk_init_9 : decode c_Bk_init 9 = .ok (.iconst 5, 1) := by decide +kernel
theorem d_Bk_init_10 : decode c_Bk_init 10 = .ok (.invokespecial 11, 3) := by decide +kernel
theorem d_Bk_init_13 : decode c_Bk_init 13 = .ok (.putfield 14, 3) := by decide +kernel
theorem d_Bk_init_16 : decode c_Bk_init 16 = .ok (.aload_n 0, 1) := by decide +kernel
theorem d_Bk_init_17 : decode c_Bk_init 17 = .ok (.new 20, 3) := by decide +kernel
theorem d_Bk_init_20 : decode c_Bk_init 20 = .ok (.dup, 1) := by decide +kernel
theorem d_Bk_init_21 : decode c_Bk_init 21 = .ok (.invokespecial 22, 3) := by decide +kernel
theorem d_Bk_init_24 : decode c_Bk_init 24 = .ok (.putfield 23, 3) := by decide +kernel
theorem d_Bk_init_27 : decode c_Bk_init 27 = .ok (.aload_n 0, 1) := by decide +kernel
theorem d_Bk_init_28 : decode c_Bk_init 28 = .ok (.new 27, 3) := by decide +kernel
theorem d_Bk_init_31 : decode c_Bk_init 31 = .ok (.dup, 1) := by decide +kernel
theorem d_Bk_init_32 : decode c_Bk_init 32 = .ok (.invokespecial 29, 3) := by decide +kernel
theorem d_Bk_init_35 : decode c_Bk_init 35 = .ok (.putfield 30, 3) := by decide +kernel
theorem d_Bk_init_38 : decode c_Bk_init 38 = .ok (.aload_n 0, 1) := by decide +kernel
theorem d_Bk_init_39 : decode c_Bk_init 39 = .ok (.new 34, 3) := by decide +kernel
theorem d_Bk_init_42 : decode c_Bk_init 42 = .ok (.dup, 1) := by decide +kernel
theorem d_Bk_init_43 : decode c_Bk_init 43 = .ok (.invokespecial 36, 3) := by decide +kernel
theorem d_Bk_init_46 : decode c_Bk_init 46 = .ok (.putfield 37, 3) := by decide +kernel
theorem d_Bk_init_49 : decode c_Bk_init 49 = .ok (.aload_n 0, 1) := by decide +kernel
theorem d_Bk_init_50 : decode c_Bk_init 50 = .ok (.getfield 14, 3) := by decide +kernel
theorem d_Bk_init_53 : decode c_Bk_init 53 = .ok (.iconst 1, 1) := by decide +kernel
theorem d_Bk_init_54 : decode c_Bk_init 54 = .ok (.iconst 3, 1) := by decide +kernel
theorem d_Bk_init_55 : decode c_Bk_init 55 = .ok (.invokevirtual 41, 3) := by decide +kernel
theorem d_Bk_init_58 : decode c_Bk_init 58 = .ok (.aload_n 0, 1) := by decide +kernel
theorem d_Bk_init_59 : decode c_Bk_init 59 = .ok (.getfield 14, 3) := by decide +kernel
theorem d_Bk_init_62 : decode c_Bk_init 62 = .ok (.iconst 2, 1) := by decide +kernel
theorem d_Bk_init_63 : decode c_Bk_init 63 = .ok (.iconst 2, 1) := by decide +kernel
theorem d_Bk_init_64 : decode c_Bk_init 64 = .ok (.invokevirtual 41, 3) := by decide +kernel
theorem d_Bk_init_67 : decode c_Bk_init 67 = .ok (.aload_n 0, 1) := by decide +kernel
theorem d_Bk_init_68 : decode c_Bk_init 68 = .ok (.getfield 14, 3) := by decide +kernel
theorem d_Bk_init_71 : decode c_Bk_init 71 = .ok (.iconst 3, 1) := by decide +kernel
theorem d_Bk_init_72 : decode c_Bk_init 72 = .ok (.iconst 3, 1) := by decide +kernel
theorem d_Bk_init_73 : decode c_Bk_init 73 = .ok (.invokevirtual 41, 3) := by decide +kernel
theorem d_Bk_init_76 : decode c_Bk_init 76 = .ok (.return_, 1) := by decide +kernel
theorem d_Bk_copyFrom_0 : decode c_Bk_copyFrom 0 = .ok (.aload_n 0, 1) := by decide +kernel
theorem d_Bk_copyFrom_1 : decode c_Bk_copyFrom 1 = .ok (.getfield 14, 3) := by decide +kernel
theorem d_Bk_copyFrom_4 : decode c_Bk_copyFrom 4 = .ok (.aload_n 1, 1) := by decide +kernel
theorem d_Bk_copyFrom_5 : decode c_Bk_copyFrom 5 = .ok (.getfield 14, 3) := by decide +kernel
theorem d_Bk_copyFrom_8 : decode c_Bk_copyFrom 8 = .ok (.invokevirtual 45, 3) := by decide +kernel
theorem d_Bk_copyFrom_11 : decode c_Bk_copyFrom 11 = .ok (.aload_n 0, 1) := by decide +kernel
theorem d_Bk_copyFrom_12 : decode c_Bk_copyFrom 12 = .ok (.getfield 23, 3) := by decide +kernel
theorem d_Bk_copyFrom_15 : decode c_Bk_copyFrom 15 = .ok (.aload_n 1, 1) := by decide +kernel
theorem d_Bk_copyFrom_16 : decode c_Bk_copyFrom 16 = .ok (.getfield 23, 3) := by decide +kernel
theorem d_Bk_copyFrom_19 : decode c_Bk_copyFrom 19 = .ok (.invokevirtual 49, 3) := by decide +kernel
theorem d_Bk_copyFrom_22 : decode c_Bk_copyFrom 22 = .ok (.aload_n 0, 1) := by decide +kernel
theorem d_Bk_copyFrom_23 : decode c_Bk_copyFrom 23 = .ok (.getfield 30, 3) := by decide +kernel
theorem d_Bk_copyFrom_26 : decode c_Bk_copyFrom 26 = .ok (.aload_n 1, 1) := by decide +kernel
theorem d_Bk_copyFrom_27 : decode c_Bk_copyFrom 27 = .ok (.getfield 30, 3) := by decide +kernel
theorem d_Bk_copyFrom_30 : decode c_Bk_copyFrom 30 = .ok (.invokevirtual 52, 3) := by decide +kernel
theorem d_Bk_copyFrom_33 : decode c_Bk_copyFrom 33 = .ok (.aload_n 0, 1) := by decide +kernel
theorem d_Bk_copyFrom_34 : decode c_Bk_copyFrom 34 = .ok (.getfield 37, 3) := by decide +kernel
theorem d_Bk_copyFrom_37 : decode c_Bk_copyFrom 37 = .ok (.aload_n 1, 1) := by decide +kernel
theorem d_Bk_copyFrom_38 : decode c_Bk_copyFrom 38 = .ok (.getfield 37, 3) := by decide +kernel
theorem d_Bk_copyFrom_41 : decode c_Bk_copyFrom 41 = .ok (.invokevirtual 55, 3) := by decide +kernel
theorem d_Bk_copyFrom_44 : decode c_Bk_copyFrom 44 = .ok (.aload_n 0, 1) := by decide +kernel
theorem d_Bk_copyFrom_45 : decode c_Bk_copyFrom 45 = .ok (.aload_n 1, 1) := by decide +kernel
theorem d_Bk_copyFrom_46 : decode c_Bk_copyFrom 46 = .ok (.getfield 58, 3) := by decide +kernel
theorem d_Bk_copyFrom_49 : decode c_Bk_copyFrom 49 = .ok (.putfield 58, 3) := by decide +kernel
theorem d_Bk_copyFrom_52 : decode c_Bk_copyFrom 52 = .ok (.return_, 1) := by decide +kernel
theorem d_Bk_lay_0 : decode c_Bk_lay 0 = .ok (.aload_n 0, 1) := by decide +kernel
theorem d_Bk_lay_1 : decode c_Bk_lay 1 = .ok (.getfield 37, 3) := by decide +kernel
theorem d_Bk_lay_4 : decode c_Bk_lay 4 = .ok (.iload_n 1, 1) := by decide +kernel
theorem d_Bk_lay_5 : decode c_Bk_lay 5 = .ok (.invokevirtual 62, 3) := by decide +kernel
theorem d_Bk_lay_8 : decode c_Bk_lay 8 = .ok (.ifCond .eq 6, 3) := by decide +kernel
theorem d_Bk_lay_11 : decode c_Bk_lay 11 = .ok (.bipush (-11), 2) := by decide +kernel
theorem d_Bk_lay_13 : decode c_Bk_lay 13 = .ok (.ireturn, 1) := by decide +kernel
theorem d_Bk_lay_14 : decode c_Bk_lay 14 = .ok (.aload_n 0, 1) := by decide +kernel
theorem d_Bk_lay_15 : decode c_Bk_lay 15 = .ok (.getfield 14, 3) := by decide +kernel
theorem d_Bk_lay_18 : decode c_Bk_lay 18 = .ok (.iconst 4, 1) := by decide +kernel
theorem d_Bk_lay_19 : decode c_Bk_lay 19 = .ok (.invokevirtual 66, 3) := by decide +kernel
theorem d_Bk_lay_22 : decode c_Bk_lay 22 = .ok (.iconst 1, 1) := by decide +kernel
theorem d_Bk_lay_23 : decode c_Bk_lay 23 = .ok (.if_icmp .ne 18, 3) := by decide +kernel
theorem d_Bk_lay_26 : decode c_Bk_lay 26 = .ok (.aload_n 0, 1) := by decide +kernel
theorem d_Bk_lay_27 : decode c_Bk_lay 27 = .ok (.getfield 37, 3) := by decide +kernel
theorem d_Bk_lay_30 : decode c_Bk_lay 30 = .ok (.iload_n 1, 1) := by decide +kernel
theorem d_Bk_lay_31 : decode c_Bk_lay 31 = .ok (.iload_n 3, 1) := by decide +kernel
theorem d_Bk_lay_32 : decode c_Bk_lay 32 = .ok (.invokevirtual 70, 3) := by decide +kernel
theorem d_Bk_lay_35 : decode c_Bk_lay 35 = .ok (.ifCond .eq 6, 3) := by decide +kernel
theorem d_Bk_lay_38 : decode c_Bk_lay 38 = .ok (.bipush (-12), 2) := by decide +kernel
theorem d_Bk_lay_40 : decode c_Bk_lay 40 = .ok (.ireturn, 1) := by decide +kernel
theorem d_Bk_lay_41 : decode c_Bk_lay 41 = .ok (.aload_n 0, 1) := by decide +kernel
theorem d_Bk_lay_42 : decode c_Bk_lay 42 = .ok (.getfield 37, 3) := by decide +kernel
theorem d_Bk_lay_45 : decode c_Bk_lay 45 = .ok (.iload_n 1, 1) := by decide +kernel
theorem d_Bk_lay_46 : decode c_Bk_lay 46 = .ok (.iload_n 2, 1) := by decide +kernel
theorem d_Bk_lay_47 : decode c_Bk_lay 47 = .ok (.aload_n 0, 1) := by decide +kernel
theorem d_Bk_lay_48 : decode c_Bk_lay 48 = .ok (.getfield 23, 3) := by decide +kernel
theorem d_Bk_lay_51 : decode c_Bk_lay 51 = .ok (.getfield 74, 3) := by decide +kernel
theorem d_Bk_lay_54 : decode c_Bk_lay 54 = .ok (.iload_n 2, 1) := by decide +kernel
theorem d_Bk_lay_55 : decode c_Bk_lay 55 = .ok (.invokevirtual 66, 3) := by decide +kernel
theorem d_Bk_lay_58 : decode c_Bk_lay 58 = .ok (.iload_n 3, 1) := by decide +kernel
theorem d_Bk_lay_59 : decode c_Bk_lay 59 = .ok (.invokevirtual 77, 3) := by decide +kernel
theorem d_Bk_lay_62 : decode c_Bk_lay 62 = .ok (.aload_n 0, 1) := by decide +kernel
theorem d_Bk_lay_63 : decode c_Bk_lay 63 = .ok (.getfield 37, 3) := by decide +kernel
theorem d_Bk_lay_66 : decode c_Bk_lay 66 = .ok (.iload_n 1, 1) := by decide +kernel
theorem d_Bk_lay_67 : decode c_Bk_lay 67 = .ok (.invokevirtual 81, 3) := by decide +kernel
theorem d_Bk_lay_70 : decode c_Bk_lay 70 = .ok (.istore 4, 2) := by decide +kernel
theorem d_Bk_lay_72 : decode c_Bk_lay 72 = .ok (.iconst 0, 1) := by decide +kernel
theorem d_Bk_lay_73 : decode c_Bk_lay 73 = .ok (.istore 5, 2) := by decide +kernel
theorem d_Bk_lay_75 : decode c_Bk_lay 75 = .ok (.iload 5, 2) := by decide +kernel
theorem d_Bk_lay_77 : decode c_Bk_lay 77 = .ok (.iload 4, 2) := by decide +kernel
theorem d_Bk_lay_79 : decode c_Bk_lay 79 = .ok (.if_icmp .ge 82, 3) := by decide +kernel
theorem d_Bk_lay_82 : decode c_Bk_lay 82 = .ok (.aload_n 0, 1) := by decide +kernel
theorem d_Bk_lay_83 : decode c_Bk_lay 83 = .ok (.getfield 37, 3) := by decide +kernel
theorem d_Bk_lay_86 : decode c_Bk_lay 86 = .ok (.iload_n 1, 1) := by decide +kernel
theorem d_Bk_lay_87 : decode c_Bk_lay 87 = .ok (.iload 5, 2) := by decide +kernel
theorem d_Bk_lay_89 : decode c_Bk_lay 89 = .ok (.invokevirtual 84, 3) := by decide +kernel
theorem d_Bk_lay_92 : decode c_Bk_lay 92 = .ok (.istore 6, 2) := by decide +kernel
theorem d_Bk_lay_94 : decode c_Bk_lay 94 = .ok (.aload_n 0, 1) := by decide +kernel
theorem d_Bk_lay_95 : decode c_Bk_lay 95 = .ok (.getfield 37, 3) := by decide +kernel
theorem d_Bk_lay_98 : decode c_Bk_lay 98 = .ok (.iload_n 1, 1) := by decide +kernel
theorem d_Bk_lay_99 : decode c_Bk_lay 99 = .ok (.iload 5, 2) := by decide +kernel
theorem d_Bk_lay_101 : decode c_Bk_lay 101 = .ok (.invokevirtual 88, 3) := by decide +kernel
theorem d_Bk_lay_104 : decode c_Bk_lay 104 = .ok (.istore 7, 2) := by decide +kernel
theorem d_Bk_lay_106 : decode c_Bk_lay 106 = .ok (.aload_n 0, 1) := by decide +kernel
theorem d_Bk_lay_107 : decode c_Bk_lay 107 = .ok (.iload_n 2, 1) := by decide +kernel
theorem d_Bk_lay_108 : decode c_Bk_lay 108 = .ok (.iload 6, 2) := by decide +kernel
theorem d_Bk_lay_110 : decode c_Bk_lay 110 = .ok (.iload 7, 2) := by decide +kernel
theorem d_Bk_lay_112 : decode c_Bk_lay 112 = .ok (.iload_n 1, 1) := by decide +kernel
theorem d_Bk_lay_113 : decode c_Bk_lay 113 = .ok (.iload 5, 2) := by decide +kernel
theorem d_Bk_lay_115 : decode c_Bk_lay 115 = .ok (.invokevirtual 91, 3) := by decide +kernel
theorem d_Bk_lay_118 : decode c_Bk_lay 118 = .ok (.ifCond .ne 6, 3) := by decide +kernel
theorem d_Bk_lay_121 : decode c_Bk_lay 121 = .ok (.bipush (-13), 2) := by decide +kernel
theorem d_Bk_lay_123 : decode c_Bk_lay 123 = .ok (.ireturn, 1) := by decide +kernel
theorem d_Bk_lay_124 : decode c_Bk_lay 124 = .ok (.aload_n 0, 1) := by decide +kernel
theorem d_Bk_lay_125 : decode c_Bk_lay 125 = .ok (.getfield 23, 3) := by decide +kernel
theorem d_Bk_lay_128 : decode c_Bk_lay 128 = .ok (.getfield 95, 3) := by decide +kernel
theorem d_Bk_lay_131 : decode c_Bk_lay 131 = .ok (.iload_n 2, 1) := by decide +kernel
theorem d_Bk_lay_132 : decode c_Bk_lay 132 = .ok (.iload 6, 2) := by decide +kernel
theorem d_Bk_lay_134 : decode c_Bk_lay 134 = .ok (.iload 7, 2) := by decide +kernel
theorem d_Bk_lay_136 : decode c_Bk_lay 136 = .ok (.imul, 1) := by decide +kernel
theorem d_Bk_lay_137 : decode c_Bk_lay 137 = .ok (.invokevirtual 98, 3) := by decide +kernel
theorem d_Bk_lay_140 : decode c_Bk_lay 140 = .ok (.aload_n 0, 1) := by decide +kernel
theorem d_Bk_lay_141 : decode c_Bk_lay 141 = .ok (.iload_n 2, 1) := by decide +kernel
theorem d_Bk_lay_142 : decode c_Bk_lay 142 = .ok (.iload 6, 2) := by decide +kernel
theorem d_Bk_lay_144 : decode c_Bk_lay 144 = .ok (.iload 7, 2) := by decide +kernel
theorem d_Bk_lay_146 : decode c_Bk_lay 146 = .ok (.invokevirtual 101, 3) := by decide +kernel
theorem d_Bk_lay_149 : decode c_Bk_lay 149 = .ok (.ifCond .ne 6, 3) := by decide +kernel
theorem d_Bk_lay_152 : decode c_Bk_lay 152 = .ok (.bipush (-14), 2) := by decide +kernel
theorem d_Bk_lay_154 : decode c_Bk_lay 154 = .ok (.ireturn, 1) := by decide +kernel
theorem d_Bk_lay_155 : decode c_Bk_lay 155 = .ok (.iinc 5 1, 3) := by decide +kernel
theorem d_Bk_lay_158 : decode c_Bk_lay 158 = .ok (.goto (-83), 3) := by decide +kernel
theorem d_Bk_lay_161 : decode c_Bk_lay 161 = .ok (.aload_n 0, 1) := by decide +kernel
theorem d_Bk_lay_162 : decode c_Bk_lay 162 = .ok (.getfield 37, 3) := by decide +kernel
theorem d_Bk_lay_165 : decode c_Bk_lay 165 = .ok (.iload_n 1, 1) := by decide +kernel
theorem d_Bk_lay_166 : decode c_Bk_lay 166 = .ok (.invokevirtual 105, 3) := by decide +kernel
theorem d_Bk_lay_169 : decode c_Bk_lay 169 = .ok (.aload_n 0, 1) := by decide +kernel
theorem d_Bk_lay_170 : decode c_Bk_lay 170 = .ok (.getfield 23, 3) := by decide +kernel
theorem d_Bk_lay_173 : decode c_Bk_lay 173 = .ok (.getfield 108, 3) := by decide +kernel
theorem d_Bk_lay_176 : decode c_Bk_lay 176 = .ok (.iload_n 2, 1) := by decide +kernel
theorem d_Bk_lay_177 : decode c_Bk_lay 177 = .ok (.invokevirtual 66, 3) := by decide +kernel
theorem d_Bk_lay_180 : decode c_Bk_lay 180 = .ok (.imul, 1) := by decide +kernel
theorem d_Bk_lay_181 : decode c_Bk_lay 181 = .ok (.aload_n 0, 1) := by decide +kernel
theorem d_Bk_lay_182 : decode c_Bk_lay 182 = .ok (.getfield 37, 3) := by decide +kernel
theorem d_Bk_lay_185 : decode c_Bk_lay 185 = .ok (.iload_n 1, 1) := by decide +kernel
theorem d_Bk_lay_186 : decode c_Bk_lay 186 = .ok (.invokevirtual 111, 3) := by decide +kernel
theorem d_Bk_lay_189 : decode c_Bk_lay 189 = .ok (.aload_n 0, 1) := by decide +kernel
theorem d_Bk_lay_190 : decode c_Bk_lay 190 = .ok (.iload_n 1, 1) := by decide +kernel
theorem d_Bk_lay_191 : decode c_Bk_lay 191 = .ok (.iload_n 3, 1) := by decide +kernel
theorem d_Bk_lay_192 : decode c_Bk_lay 192 = .ok (.invokevirtual 114, 3) := by decide +kernel
theorem d_Bk_lay_195 : decode c_Bk_lay 195 = .ok (.imul, 1) := by decide +kernel
theorem d_Bk_lay_196 : decode c_Bk_lay 196 = .ok (.iadd, 1) := by decide +kernel
theorem d_Bk_lay_197 : decode c_Bk_lay 197 = .ok (.istore 5, 2) := by decide +kernel
theorem d_Bk_lay_199 : decode c_Bk_lay 199 = .ok (.aload_n 0, 1) := by decide +kernel
theorem d_Bk_lay_200 : decode c_Bk_lay 200 = .ok (.getfield 37, 3) := by decide +kernel
theorem d_Bk_lay_203 : decode c_Bk_lay 203 = .ok (.getfield 117, 3) := by decide +kernel
theorem d_Bk_lay_206 : decode c_Bk_lay 206 = .ok (.iload_n 1, 1) := by decide +kernel
theorem d_Bk_lay_207 : decode c_Bk_lay 207 = .ok (.iload 5, 2) := by decide +kernel
theorem d_Bk_lay_209 : decode c_Bk_lay 209 = .ok (.invokevirtual 41, 3) := by decide +kernel
theorem d_Bk_lay_212 : decode c_Bk_lay 212 = .ok (.aload_n 0, 1) := by decide +kernel
theorem d_Bk_lay_213 : decode c_Bk_lay 213 = .ok (.dup, 1) := by decide +kernel
theorem d_Bk_lay_214 : decode c_Bk_lay 214 = .ok (.getfield 58, 3) := by decide +kernel
theorem d_Bk_lay_217 : decode c_Bk_lay 217 = .ok (.iload 5, 2) := by decide +kernel
theorem d_Bk_lay_219 : decode c_Bk_lay 219 = .ok (.iadd, 1) := by decide +kernel
theorem d_Bk_lay_220 : decode c_Bk_lay 220 = .ok (.putfield 58, 3) := by decide +kernel
theorem d_Bk_lay_223 : decode c_Bk_lay 223 = .ok (.iload 5, 2) := by decide +kernel
theorem d_Bk_lay_225 : decode c_Bk_lay 225 = .ok (.ireturn, 1) := by decide +kernel
theorem d_Bk_seamPrice_0 : decode c_Bk_seamPrice 0 = .ok (.aload_n 0, 1) := by decide +kernel
theorem d_Bk_seamPrice_1 : decode c_Bk_seamPrice 1 = .ok (.getfield 37, 3) := by decide +kernel
theorem d_Bk_seamPrice_4 : decode c_Bk_seamPrice 4 = .ok (.iload_n 1, 1) := by decide +kernel
theorem d_Bk_seamPrice_5 : decode c_Bk_seamPrice 5 = .ok (.iload_n 2, 1) := by decide +kernel
theorem d_Bk_seamPrice_6 : decode c_Bk_seamPrice 6 = .ok (.invokevirtual 70, 3) := by decide +kernel
theorem d_Bk_seamPrice_9 : decode c_Bk_seamPrice 9 = .ok (.ifCond .eq 14, 3) := by decide +kernel
theorem d_Bk_seamPrice_12 : decode c_Bk_seamPrice 12 = .ok (.aload_n 0, 1) := by decide +kernel
theorem d_Bk_seamPrice_13 : decode c_Bk_seamPrice 13 = .ok (.getfield 14, 3) := by decide +kernel
theorem d_Bk_seamPrice_16 : decode c_Bk_seamPrice 16 = .ok (.iconst 3, 1) := by decide +kernel
theorem d_Bk_seamPrice_17 : decode c_Bk_seamPrice 17 = .ok (.invokevirtual 66, 3) := by decide +kernel
theorem d_Bk_seamPrice_20 : decode c_Bk_seamPrice 20 = .ok (.goto 4, 3) := by decide +kernel
theorem d_Bk_seamPrice_23 : decode c_Bk_seamPrice 23 = .ok (.iconst 1, 1) := by decide +kernel
theorem d_Bk_seamPrice_24 : decode c_Bk_seamPrice 24 = .ok (.istore_n 3, 1) := by decide +kernel
theorem d_Bk_seamPrice_25 : decode c_Bk_seamPrice 25 = .ok (.aload_n 0, 1) := by decide +kernel
theorem d_Bk_seamPrice_26 : decode c_Bk_seamPrice 26 = .ok (.getfield 14, 3) := by decide +kernel
theorem d_Bk_seamPrice_29 : decode c_Bk_seamPrice 29 = .ok (.iconst 2, 1) := by decide +kernel
theorem d_Bk_seamPrice_30 : decode c_Bk_seamPrice 30 = .ok (.invokevirtual 66, 3) := by decide +kernel
theorem d_Bk_seamPrice_33 : decode c_Bk_seamPrice 33 = .ok (.iload_n 3, 1) := by decide +kernel
theorem d_Bk_seamPrice_34 : decode c_Bk_seamPrice 34 = .ok (.imul, 1) := by decide +kernel
theorem d_Bk_seamPrice_35 : decode c_Bk_seamPrice 35 = .ok (.ireturn, 1) := by decide +kernel
theorem d_Bk_takePiece_0 : decode c_Bk_takePiece 0 = .ok (.aload_n 0, 1) := by decide +kernel
theorem d_Bk_takePiece_1 : decode c_Bk_takePiece 1 = .ok (.getfield 30, 3) := by decide +kernel
theorem d_Bk_takePiece_4 : decode c_Bk_takePiece 4 = .ok (.iload_n 1, 1) := by decide +kernel
theorem d_Bk_takePiece_5 : decode c_Bk_takePiece 5 = .ok (.iload_n 2, 1) := by decide +kernel
theorem d_Bk_takePiece_6 : decode c_Bk_takePiece 6 = .ok (.iload_n 3, 1) := by decide +kernel
theorem d_Bk_takePiece_7 : decode c_Bk_takePiece 7 = .ok (.invokevirtual 118, 3) := by decide +kernel
theorem d_Bk_takePiece_10 : decode c_Bk_takePiece 10 = .ok (.istore 6, 2) := by decide +kernel
theorem d_Bk_takePiece_12 : decode c_Bk_takePiece 12 = .ok (.iload 6, 2) := by decide +kernel
theorem d_Bk_takePiece_14 : decode c_Bk_takePiece 14 = .ok (.ifCond .lt 69, 3) := by decide +kernel
theorem d_Bk_takePiece_17 : decode c_Bk_takePiece 17 = .ok (.aload_n 0, 1) := by decide +kernel
theorem d_Bk_takePiece_18 : decode c_Bk_takePiece 18 = .ok (.aload_n 0, 1) := by decide +kernel
theorem d_Bk_takePiece_19 : decode c_Bk_takePiece 19 = .ok (.getfield 30, 3) := by decide +kernel
theorem d_Bk_takePiece_22 : decode c_Bk_takePiece 22 = .ok (.getfield 122, 3) := by decide +kernel
theorem d_Bk_takePiece_25 : decode c_Bk_takePiece 25 = .ok (.iload 6, 2) := by decide +kernel
theorem d_Bk_takePiece_27 : decode c_Bk_takePiece 27 = .ok (.invokevirtual 66, 3) := by decide +kernel
theorem d_Bk_takePiece_30 : decode c_Bk_takePiece 30 = .ok (.putfield 123, 3) := by decide +kernel
theorem d_Bk_takePiece_33 : decode c_Bk_takePiece 33 = .ok (.aload_n 0, 1) := by decide +kernel
theorem d_Bk_takePiece_34 : decode c_Bk_takePiece 34 = .ok (.aload_n 0, 1) := by decide +kernel
theorem d_Bk_takePiece_35 : decode c_Bk_takePiece 35 = .ok (.getfield 30, 3) := by decide +kernel
theorem d_Bk_takePiece_38 : decode c_Bk_takePiece 38 = .ok (.getfield 126, 3) := by decide +kernel
theorem d_Bk_takePiece_41 : decode c_Bk_takePiece 41 = .ok (.iload 6, 2) := by decide +kernel
theorem d_Bk_takePiece_43 : decode c_Bk_takePiece 43 = .ok (.invokevirtual 66, 3) := by decide +kernel
theorem d_Bk_takePiece_46 : decode c_Bk_takePiece 46 = .ok (.putfield 129, 3) := by decide +kernel
theorem d_Bk_takePiece_49 : decode c_Bk_takePiece 49 = .ok (.aload_n 0, 1) := by decide +kernel
theorem d_Bk_takePiece_50 : decode c_Bk_takePiece 50 = .ok (.getfield 37, 3) := by decide +kernel
theorem d_Bk_takePiece_53 : decode c_Bk_takePiece 53 = .ok (.iload 4, 2) := by decide +kernel
theorem d_Bk_takePiece_55 : decode c_Bk_takePiece 55 = .ok (.iload 5, 2) := by decide +kernel
theorem d_Bk_takePiece_57 : decode c_Bk_takePiece 57 = .ok (.aload_n 0, 1) := by decide +kernel
theorem d_Bk_takePiece_58 : decode c_Bk_takePiece 58 = .ok (.getfield 30, 3) := by decide +kernel
theorem d_Bk_takePiece_61 : decode c_Bk_takePiece 61 = .ok (.getfield 132, 3) := by decide +kernel
theorem d_Bk_takePiece_64 : decode c_Bk_takePiece 64 = .ok (.iload 6, 2) := by decide +kernel
theorem d_Bk_takePiece_66 : decode c_Bk_takePiece 66 = .ok (.invokevirtual 66, 3) := by decide +kernel
theorem d_Bk_takePiece_69 : decode c_Bk_takePiece 69 = .ok (.invokevirtual 135, 3) := by decide +kernel
theorem d_Bk_takePiece_72 : decode c_Bk_takePiece 72 = .ok (.aload_n 0, 1) := by decide +kernel
theorem d_Bk_takePiece_73 : decode c_Bk_takePiece 73 = .ok (.getfield 30, 3) := by decide +kernel
theorem d_Bk_takePiece_76 : decode c_Bk_takePiece 76 = .ok (.iload 6, 2) := by decide +kernel
theorem d_Bk_takePiece_78 : decode c_Bk_takePiece 78 = .ok (.invokevirtual 139, 3) := by decide +kernel
theorem d_Bk_takePiece_81 : decode c_Bk_takePiece 81 = .ok (.iconst 1, 1) := by decide +kernel
theorem d_Bk_takePiece_82 : decode c_Bk_takePiece 82 = .ok (.ireturn, 1) := by decide +kernel
theorem d_Bk_takePiece_83 : decode c_Bk_takePiece 83 = .ok (.aload_n 0, 1) := by decide +kernel
theorem d_Bk_takePiece_84 : decode c_Bk_takePiece 84 = .ok (.getfield 23, 3) := by decide +kernel
theorem d_Bk_takePiece_87 : decode c_Bk_takePiece 87 = .ok (.getfield 142, 3) := by decide +kernel
theorem d_Bk_takePiece_90 : decode c_Bk_takePiece 90 = .ok (.iload_n 1, 1) := by decide +kernel
theorem d_Bk_takePiece_91 : decode c_Bk_takePiece 91 = .ok (.invokevirtual 66, 3) := by decide +kernel
theorem d_Bk_takePiece_94 : decode c_Bk_takePiece 94 = .ok (.iload_n 3, 1) := by decide +kernel
theorem d_Bk_takePiece_95 : decode c_Bk_takePiece 95 = .ok (.if_icmp .ge 5, 3) := by decide +kernel
theorem d_Bk_takePiece_98 : decode c_Bk_takePiece 98 = .ok (.iconst 0, 1) := by decide +kernel
theorem d_Bk_takePiece_99 : decode c_Bk_takePiece 99 = .ok (.ireturn, 1) := by decide +kernel
theorem d_Bk_takePiece_100 : decode c_Bk_takePiece 100 = .ok (.aload_n 0, 1) := by decide +kernel
theorem d_Bk_takePiece_101 : decode c_Bk_takePiece 101 = .ok (.getfield 23, 3) := by decide +kernel
theorem d_Bk_takePiece_104 : decode c_Bk_takePiece 104 = .ok (.getfield 142, 3) := by decide +kernel
theorem d_Bk_takePiece_107 : decode c_Bk_takePiece 107 = .ok (.iload_n 1, 1) := by decide +kernel
theorem d_Bk_takePiece_108 : decode c_Bk_takePiece 108 = .ok (.iload_n 3, 1) := by decide +kernel
theorem d_Bk_takePiece_109 : decode c_Bk_takePiece 109 = .ok (.ineg, 1) := by decide +kernel
theorem d_Bk_takePiece_110 : decode c_Bk_takePiece 110 = .ok (.invokevirtual 98, 3) := by decide +kernel
theorem d_Bk_takePiece_113 : decode c_Bk_takePiece 113 = .ok (.aload_n 0, 1) := by decide +kernel
theorem d_Bk_takePiece_114 : decode c_Bk_takePiece 114 = .ok (.aload_n 0, 1) := by decide +kernel
theorem d_Bk_takePiece_115 : decode c_Bk_takePiece 115 = .ok (.getfield 23, 3) := by decide +kernel
theorem d_Bk_takePiece_118 : decode c_Bk_takePiece 118 = .ok (.getfield 74, 3) := by decide +kernel
theorem d_Bk_takePiece_121 : decode c_Bk_takePiece 121 = .ok (.iload_n 1, 1) := by decide +kernel
theorem d_Bk_takePiece_122 : decode c_Bk_takePiece 122 = .ok (.invokevirtual 66, 3) := by decide +kernel
theorem d_Bk_takePiece_125 : decode c_Bk_takePiece 125 = .ok (.putfield 123, 3) := by decide +kernel
theorem d_Bk_takePiece_128 : decode c_Bk_takePiece 128 = .ok (.aload_n 0, 1) := by decide +kernel
theorem d_Bk_takePiece_129 : decode c_Bk_takePiece 129 = .ok (.iload_n 3, 1) := by decide +kernel
theorem d_Bk_takePiece_130 : decode c_Bk_takePiece 130 = .ok (.putfield 129, 3) := by decide +kernel
theorem d_Bk_takePiece_133 : decode c_Bk_takePiece 133 = .ok (.aload_n 0, 1) := by decide +kernel
theorem d_Bk_takePiece_134 : decode c_Bk_takePiece 134 = .ok (.getfield 37, 3) := by decide +kernel
theorem d_Bk_takePiece_137 : decode c_Bk_takePiece 137 = .ok (.iload 4, 2) := by decide +kernel
theorem d_Bk_takePiece_139 : decode c_Bk_takePiece 139 = .ok (.iload 5, 2) := by decide +kernel
theorem d_Bk_takePiece_141 : decode c_Bk_takePiece 141 = .ok (.bipush (-5), 2) := by decide +kernel
theorem d_Bk_takePiece_143 : decode c_Bk_takePiece 143 = .ok (.invokevirtual 135, 3) := by decide +kernel
theorem d_Bk_takePiece_146 : decode c_Bk_takePiece 146 = .ok (.iconst 1, 1) := by decide +kernel
theorem d_Bk_takePiece_147 : decode c_Bk_takePiece 147 = .ok (.ireturn, 1) := by decide +kernel
theorem d_Bk_leaveRests_0 : decode c_Bk_leaveRests 0 = .ok (.aload_n 0, 1) := by decide +kernel
theorem d_Bk_leaveRests_1 : decode c_Bk_leaveRests 1 = .ok (.iload_n 2, 1) := by decide +kernel
theorem d_Bk_leaveRests_2 : decode c_Bk_leaveRests 2 = .ok (.iload_n 3, 1) := by decide +kernel
theorem d_Bk_leaveRests_3 : decode c_Bk_leaveRests 3 = .ok (.invokevirtual 145, 3) := by decide +kernel
theorem d_Bk_leaveRests_6 : decode c_Bk_leaveRests 6 = .ok (.istore 4, 2) := by decide +kernel
theorem d_Bk_leaveRests_8 : decode c_Bk_leaveRests 8 = .ok (.iload 4, 2) := by decide +kernel
theorem d_Bk_leaveRests_10 : decode c_Bk_leaveRests 10 = .ok (.ifCond .eq 10, 3) := by decide +kernel
theorem d_Bk_leaveRests_13 : decode c_Bk_leaveRests 13 = .ok (.aload_n 0, 1) := by decide +kernel
theorem d_Bk_leaveRests_14 : decode c_Bk_leaveRests 14 = .ok (.getfield 129, 3) := by decide +kernel
theorem d_Bk_leaveRests_17 : decode c_Bk_leaveRests 17 = .ok (.goto 4, 3) := by decide +kernel
theorem d_Bk_leaveRests_20 : decode c_Bk_leaveRests 20 = .ok (.iload_n 3, 1) := by decide +kernel
theorem d_Bk_leaveRests_21 : decode c_Bk_leaveRests 21 = .ok (.istore 5, 2) := by decide +kernel
theorem d_Bk_leaveRests_23 : decode c_Bk_leaveRests 23 = .ok (.iload 4, 2) := by decide +kernel
theorem d_Bk_leaveRests_25 : decode c_Bk_leaveRests 25 = .ok (.ifCond .eq 7, 3) := by decide +kernel
theorem d_Bk_leaveRests_28 : decode c_Bk_leaveRests 28 = .ok (.iload_n 2, 1) := by decide +kernel
theorem d_Bk_leaveRests_29 : decode c_Bk_leaveRests 29 = .ok (.goto 7, 3) := by decide +kernel
theorem d_Bk_leaveRests_32 : decode c_Bk_leaveRests 32 = .ok (.aload_n 0, 1) := by decide +kernel
theorem d_Bk_leaveRests_33 : decode c_Bk_leaveRests 33 = .ok (.getfield 123, 3) := by decide +kernel
theorem d_Bk_leaveRests_36 : decode c_Bk_leaveRests 36 = .ok (.istore 6, 2) := by decide +kernel
theorem d_Bk_leaveRests_38 : decode c_Bk_leaveRests 38 = .ok (.aload_n 0, 1) := by decide +kernel
theorem d_Bk_leaveRests_39 : decode c_Bk_leaveRests 39 = .ok (.iload_n 1, 1) := by decide +kernel
theorem d_Bk_leaveRests_40 : decode c_Bk_leaveRests 40 = .ok (.aload_n 0, 1) := by decide +kernel
theorem d_Bk_leaveRests_41 : decode c_Bk_leaveRests 41 = .ok (.getfield 123, 3) := by decide +kernel
theorem d_Bk_leaveRests_44 : decode c_Bk_leaveRests 44 = .ok (.iload_n 2, 1) := by decide +kernel
theorem d_Bk_leaveRests_45 : decode c_Bk_leaveRests 45 = .ok (.isub, 1) := by decide +kernel
theorem d_Bk_leaveRests_46 : decode c_Bk_leaveRests 46 = .ok (.iload 5, 2) := by decide +kernel
theorem d_Bk_leaveRests_48 : decode c_Bk_leaveRests 48 = .ok (.invokevirtual 148, 3) := by decide +kernel
theorem d_Bk_leaveRests_51 : decode c_Bk_leaveRests 51 = .ok (.ifCond .eq 23, 3) := by decide +kernel
theorem d_Bk_leaveRests_54 : decode c_Bk_leaveRests 54 = .ok (.aload_n 0, 1) := by decide +kernel
theorem d_Bk_leaveRests_55 : decode c_Bk_leaveRests 55 = .ok (.iload_n 1, 1) := by decide +kernel
theorem d_Bk_leaveRests_56 : decode c_Bk_leaveRests 56 = .ok (.iload 6, 2) := by decide +kernel
theorem d_Bk_leaveRests_58 : decode c_Bk_leaveRests 58 = .ok (.aload_n 0, 1) := by decide +kernel
theorem d_Bk_leaveRests_59 : decode c_Bk_leaveRests 59 = .ok (.getfield 129, 3) := by decide +kernel
theorem d_Bk_leaveRests_62 : decode c_Bk_leaveRests 62 = .ok (.iload_n 3, 1) := by decide +kernel
theorem d_Bk_leaveRests_63 : decode c_Bk_leaveRests 63 = .ok (.isub, 1) := by decide +kernel
theorem d_Bk_leaveRests_64 : decode c_Bk_leaveRests 64 = .ok (.invokevirtual 148, 3) := by decide +kernel
theorem d_Bk_leaveRests_67 : decode c_Bk_leaveRests 67 = .ok (.ifCond .eq 7, 3) := by decide +kernel
theorem d_Bk_leaveRests_70 : decode c_Bk_leaveRests 70 = .ok (.iconst 1, 1) := by decide +kernel
theorem d_Bk_leaveRests_71 : decode c_Bk_leaveRests 71 = .ok (.goto 4, 3) := by decide +kernel
theorem d_Bk_leaveRests_74 : decode c_Bk_leaveRests 74 = .ok (.iconst 0, 1) := by decide +kernel
theorem d_Bk_leaveRests_75 : decode c_Bk_leaveRests 75 = .ok (.ireturn, 1) := by decide +kernel
theorem d_Bk_isLongBeside_0 : decode c_Bk_isLongBeside 0 = .ok (.aload_n 0, 1) := by decide +kernel
theorem d_Bk_isLongBeside_1 : decode c_Bk_isLongBeside 1 = .ok (.getfield 14, 3) := by decide +kernel
theorem d_Bk_isLongBeside_4 : decode c_Bk_isLongBeside 4 = .ok (.iconst 0, 1) := by decide +kernel
theorem d_Bk_isLongBeside_5 : decode c_Bk_isLongBeside 5 = .ok (.invokevirtual 66, 3) := by decide +kernel
theorem d_Bk_isLongBeside_8 : decode c_Bk_isLongBeside 8 = .ok (.istore_n 3, 1) := by decide +kernel
theorem d_Bk_isLongBeside_9 : decode c_Bk_isLongBeside 9 = .ok (.iload_n 3, 1) := by decide +kernel
theorem d_Bk_isLongBeside_10 : decode c_Bk_isLongBeside 10 = .ok (.iconst 2, 1) := by decide +kernel
theorem d_Bk_isLongBeside_11 : decode c_Bk_isLongBeside 11 = .ok (.if_icmp .eq 13, 3) := by decide +kernel
theorem d_Bk_isLongBeside_14 : decode c_Bk_isLongBeside 14 = .ok (.iload_n 3, 1) := by decide +kernel
theorem d_Bk_isLongBeside_15 : decode c_Bk_isLongBeside 15 = .ok (.ifCond .ne 7, 3) := by decide +kernel
theorem d_Bk_isLongBeside_18 : decode c_Bk_isLongBeside 18 = .ok (.iconst 1, 1) := by decide +kernel
theorem d_Bk_isLongBeside_19 : decode c_Bk_isLongBeside 19 = .ok (.goto 4, 3) := by decide +kernel
theorem d_Bk_isLongBeside_22 : decode c_Bk_isLongBeside 22 = .ok (.iconst 0, 1) := by decide +kernel
theorem d_Bk_isLongBeside_23 : decode c_Bk_isLongBeside 23 = .ok (.ireturn, 1) := by decide +kernel
theorem d_Bk_isLongBeside_24 : decode c_Bk_isLongBeside 24 = .ok (.aload_n 0, 1) := by decide +kernel
theorem d_Bk_isLongBeside_25 : decode c_Bk_isLongBeside 25 = .ok (.getfield 123, 3) := by decide +kernel
theorem d_Bk_isLongBeside_28 : decode c_Bk_isLongBeside 28 = .ok (.iload_n 1, 1) := by decide +kernel
theorem d_Bk_isLongBeside_29 : decode c_Bk_isLongBeside 29 = .ok (.isub, 1) := by decide +kernel
theorem d_Bk_isLongBeside_30 : decode c_Bk_isLongBeside 30 = .ok (.istore 4, 2) := by decide +kernel
theorem d_Bk_isLongBeside_32 : decode c_Bk_isLongBeside 32 = .ok (.aload_n 0, 1) := by decide +kernel
theorem d_Bk_isLongBeside_33 : decode c_Bk_isLongBeside 33 = .ok (.getfield 129, 3) := by decide +kernel
theorem d_Bk_isLongBeside_36 : decode c_Bk_isLongBeside 36 = .ok (.iload_n 2, 1) := by decide +kernel
theorem d_Bk_isLongBeside_37 : decode c_Bk_isLongBeside 37 = .ok (.isub, 1) := by decide +kernel
theorem d_Bk_isLongBeside_38 : decode c_Bk_isLongBeside 38 = .ok (.istore 5, 2) := by decide +kernel
theorem d_Bk_isLongBeside_40 : decode c_Bk_isLongBeside 40 = .ok (.iload 4, 2) := by decide +kernel
theorem d_Bk_isLongBeside_42 : decode c_Bk_isLongBeside 42 = .ok (.aload_n 0, 1) := by decide +kernel
theorem d_Bk_isLongBeside_43 : decode c_Bk_isLongBeside 43 = .ok (.getfield 129, 3) := by decide +kernel
theorem d_Bk_isLongBeside_46 : decode c_Bk_isLongBeside 46 = .ok (.imul, 1) := by decide +kernel
theorem d_Bk_isLongBeside_47 : decode c_Bk_isLongBeside 47 = .ok (.iload_n 1, 1) := by decide +kernel
theorem d_Bk_isLongBeside_48 : decode c_Bk_isLongBeside 48 = .ok (.iload 5, 2) := by decide +kernel
theorem d_Bk_isLongBeside_50 : decode c_Bk_isLongBeside 50 = .ok (.imul, 1) := by decide +kernel
theorem d_Bk_isLongBeside_51 : decode c_Bk_isLongBeside 51 = .ok (.invokestatic 151, 3) := by decide +kernel
theorem d_Bk_isLongBeside_54 : decode c_Bk_isLongBeside 54 = .ok (.istore 6, 2) := by decide +kernel
theorem d_Bk_isLongBeside_56 : decode c_Bk_isLongBeside 56 = .ok (.iload 4, 2) := by decide +kernel
theorem d_Bk_isLongBeside_58 : decode c_Bk_isLongBeside 58 = .ok (.iload_n 2, 1) := by decide +kernel
theorem d_Bk_isLongBeside_59 : decode c_Bk_isLongBeside 59 = .ok (.imul, 1) := by decide +kernel
theorem d_Bk_isLongBeside_60 : decode c_Bk_isLongBeside 60 = .ok (.aload_n 0, 1) := by decide +kernel
theorem d_Bk_isLongBeside_61 : decode c_Bk_isLongBeside 61 = .ok (.getfield 123, 3) := by decide +kernel
theorem d_Bk_isLongBeside_64 : decode c_Bk_isLongBeside 64 = .ok (.iload 5, 2) := by decide +kernel
theorem d_Bk_isLongBeside_66 : decode c_Bk_isLongBeside 66 = .ok (.imul, 1) := by decide +kernel
theorem d_Bk_isLongBeside_67 : decode c_Bk_isLongBeside 67 = .ok (.invokestatic 151, 3) := by decide +kernel
theorem d_Bk_isLongBeside_70 : decode c_Bk_isLongBeside 70 = .ok (.istore 7, 2) := by decide +kernel
theorem d_Bk_isLongBeside_72 : decode c_Bk_isLongBeside 72 = .ok (.iload 6, 2) := by decide +kernel
theorem d_Bk_isLongBeside_74 : decode c_Bk_isLongBeside 74 = .ok (.iload 7, 2) := by decide +kernel
theorem d_Bk_isLongBeside_76 : decode c_Bk_isLongBeside 76 = .ok (.if_icmp .lt 7, 3) := by decide +kernel
theorem d_Bk_isLongBeside_79 : decode c_Bk_isLongBeside 79 = .ok (.iconst 1, 1) := by decide +kernel
theorem d_Bk_isLongBeside_80 : decode c_Bk_isLongBeside 80 = .ok (.goto 4, 3) := by decide +kernel
theorem d_Bk_isLongBeside_83 : decode c_Bk_isLongBeside 83 = .ok (.iconst 0, 1) := by decide +kernel
theorem d_Bk_isLongBeside_84 : decode c_Bk_isLongBeside 84 = .ok (.ireturn, 1) := by decide +kernel
theorem d_Bk_leaveRest_0 : decode c_Bk_leaveRest 0 = .ok (.aload_n 0, 1) := by decide +kernel
theorem d_Bk_leaveRest_1 : decode c_Bk_leaveRest 1 = .ok (.getfield 14, 3) := by decide +kernel
theorem d_Bk_leaveRest_4 : decode c_Bk_leaveRest 4 = .ok (.iconst 1, 1) := by decide +kernel
theorem d_Bk_leaveRest_5 : decode c_Bk_leaveRest 5 = .ok (.invokevirtual 66, 3) := by decide +kernel
theorem d_Bk_leaveRest_8 : decode c_Bk_leaveRest 8 = .ok (.istore 4, 2) := by decide +kernel
theorem d_Bk_leaveRest_10 : decode c_Bk_leaveRest 10 = .ok (.iload_n 2, 1) := by decide +kernel
theorem d_Bk_leaveRest_11 : decode c_Bk_leaveRest 11 = .ok (.iload 4, 2) := by decide +kernel
theorem d_Bk_leaveRest_13 : decode c_Bk_leaveRest 13 = .ok (.if_icmp .lt 9, 3) := by decide +kernel
theorem d_Bk_leaveRest_16 : decode c_Bk_leaveRest 16 = .ok (.iload_n 3, 1) := by decide +kernel
theorem d_Bk_leaveRest_17 : decode c_Bk_leaveRest 17 = .ok (.iload 4, 2) := by decide +kernel
theorem d_Bk_leaveRest_19 : decode c_Bk_leaveRest 19 = .ok (.if_icmp .ge 19, 3) := by decide +kernel
theorem d_Bk_leaveRest_22 : decode c_Bk_leaveRest 22 = .ok (.aload_n 0, 1) := by decide +kernel
theorem d_Bk_leaveRest_23 : decode c_Bk_leaveRest 23 = .ok (.getfield 23, 3) := by decide +kernel
theorem d_Bk_leaveRest_26 : decode c_Bk_leaveRest 26 = .ok (.getfield 156, 3) := by decide +kernel
theorem d_Bk_leaveRest_29 : decode c_Bk_leaveRest 29 = .ok (.iload_n 1, 1) := by decide +kernel
theorem d_Bk_leaveRest_30 : decode c_Bk_leaveRest 30 = .ok (.iload_n 2, 1) := by decide +kernel
theorem d_Bk_leaveRest_31 : decode c_Bk_leaveRest 31 = .ok (.iload_n 3, 1) := by decide +kernel
theorem d_Bk_leaveRest_32 : decode c_Bk_leaveRest 32 = .ok (.imul, 1) := by decide +kernel
theorem d_Bk_leaveRest_33 : decode c_Bk_leaveRest 33 = .ok (.invokevirtual 98, 3) := by decide +kernel
theorem d_Bk_leaveRest_36 : decode c_Bk_leaveRest 36 = .ok (.iconst 1, 1) := by decide +kernel
theorem d_Bk_leaveRest_37 : decode c_Bk_leaveRest 37 = .ok (.ireturn, 1) := by decide +kernel
theorem d_Bk_leaveRest_38 : decode c_Bk_leaveRest 38 = .ok (.aload_n 0, 1) := by decide +kernel
theorem d_Bk_leaveRest_39 : decode c_Bk_leaveRest 39 = .ok (.getfield 30, 3) := by decide +kernel
theorem d_Bk_leaveRest_42 : decode c_Bk_leaveRest 42 = .ok (.iload_n 1, 1) := by decide +kernel
theorem d_Bk_leaveRest_43 : decode c_Bk_leaveRest 43 = .ok (.iload_n 2, 1) := by decide +kernel
theorem d_Bk_leaveRest_44 : decode c_Bk_leaveRest 44 = .ok (.iload_n 3, 1) := by decide +kernel
theorem d_Bk_leaveRest_45 : decode c_Bk_leaveRest 45 = .ok (.invokevirtual 159, 3) := by decide +kernel
theorem d_Bk_leaveRest_48 : decode c_Bk_leaveRest 48 = .ok (.ireturn, 1) := by decide +kernel
theorem d_Bk_lift_0 : decode c_Bk_lift 0 = .ok (.aload_n 0, 1) := by decide +kernel
theorem d_Bk_lift_1 : decode c_Bk_lift 1 = .ok (.getfield 37, 3) := by decide +kernel
theorem d_Bk_lift_4 : decode c_Bk_lift 4 = .ok (.getfield 162, 3) := by decide +kernel
theorem d_Bk_lift_7 : decode c_Bk_lift 7 = .ok (.iload_n 1, 1) := by decide +kernel
theorem d_Bk_lift_8 : decode c_Bk_lift 8 = .ok (.invokevirtual 66, 3) := by decide +kernel
theorem d_Bk_lift_11 : decode c_Bk_lift 11 = .ok (.istore_n 2, 1) := by decide +kernel
theorem d_Bk_lift_12 : decode c_Bk_lift 12 = .ok (.aload_n 0, 1) := by decide +kernel
theorem d_Bk_lift_13 : decode c_Bk_lift 13 = .ok (.getfield 37, 3) := by decide +kernel
theorem d_Bk_lift_16 : decode c_Bk_lift 16 = .ok (.iload_n 1, 1) := by decide +kernel
theorem d_Bk_lift_17 : decode c_Bk_lift 17 = .ok (.invokevirtual 81, 3) := by decide +kernel
theorem d_Bk_lift_20 : decode c_Bk_lift 20 = .ok (.istore_n 3, 1) := by decide +kernel
theorem d_Bk_lift_21 : decode c_Bk_lift 21 = .ok (.iconst 0, 1) := by decide +kernel
theorem d_Bk_lift_22 : decode c_Bk_lift 22 = .ok (.istore 4, 2) := by decide +kernel
theorem d_Bk_lift_24 : decode c_Bk_lift 24 = .ok (.iconst 0, 1) := by decide +kernel
theorem d_Bk_lift_25 : decode c_Bk_lift 25 = .ok (.istore 5, 2) := by decide +kernel
theorem d_Bk_lift_27 : decode c_Bk_lift 27 = .ok (.iload 5, 2) := by decide +kernel
theorem d_Bk_lift_29 : decode c_Bk_lift 29 = .ok (.iload_n 3, 1) := by decide +kernel
theorem d_Bk_lift_30 : decode c_Bk_lift 30 = .ok (.if_icmp .ge 87, 3) := by decide +kernel
theorem d_Bk_lift_33 : decode c_Bk_lift 33 = .ok (.aload_n 0, 1) := by decide +kernel
theorem d_Bk_lift_34 : decode c_Bk_lift 34 = .ok (.getfield 37, 3) := by decide +kernel
theorem d_Bk_lift_37 : decode c_Bk_lift 37 = .ok (.iload_n 1, 1) := by decide +kernel
theorem d_Bk_lift_38 : decode c_Bk_lift 38 = .ok (.iload 5, 2) := by decide +kernel
theorem d_Bk_lift_40 : decode c_Bk_lift 40 = .ok (.invokevirtual 84, 3) := by decide +kernel
theorem d_Bk_lift_43 : decode c_Bk_lift 43 = .ok (.istore 6, 2) := by decide +kernel
theorem d_Bk_lift_45 : decode c_Bk_lift 45 = .ok (.aload_n 0, 1) := by decide +kernel
theorem d_Bk_lift_46 : decode c_Bk_lift 46 = .ok (.getfield 37, 3) := by decide +kernel
theorem d_Bk_lift_49 : decode c_Bk_lift 49 = .ok (.iload_n 1, 1) := by decide +kernel
theorem d_Bk_lift_50 : decode c_Bk_lift 50 = .ok (.iload 5, 2) := by decide +kernel
theorem d_Bk_lift_52 : decode c_Bk_lift 52 = .ok (.invokevirtual 88, 3) := by decide +kernel
theorem d_Bk_lift_55 : decode c_Bk_lift 55 = .ok (.istore 7, 2) := by decide +kernel
theorem d_Bk_lift_57 : decode c_Bk_lift 57 = .ok (.aload_n 0, 1) := by decide +kernel
theorem d_Bk_lift_58 : decode c_Bk_lift 58 = .ok (.getfield 23, 3) := by decide +kernel
theorem d_Bk_lift_61 : decode c_Bk_lift 61 = .ok (.getfield 95, 3) := by decide +kernel
theorem d_Bk_lift_64 : decode c_Bk_lift 64 = .ok (.iload_n 2, 1) := by decide +kernel
theorem d_Bk_lift_65 : decode c_Bk_lift 65 = .ok (.iload 6, 2) := by decide +kernel
theorem d_Bk_lift_67 : decode c_Bk_lift 67 = .ok (.iload 7, 2) := by decide +kernel
theorem d_Bk_lift_69 : decode c_Bk_lift 69 = .ok (.imul, 1) := by decide +kernel
theorem d_Bk_lift_70 : decode c_Bk_lift 70 = .ok (.ineg, 1) := by decide +kernel
theorem d_Bk_lift_71 : decode c_Bk_lift 71 = .ok (.invokevirtual 98, 3) := by decide +kernel
theorem d_Bk_lift_74 : decode c_Bk_lift 74 = .ok (.aload_n 0, 1) := by decide +kernel
theorem d_Bk_lift_75 : decode c_Bk_lift 75 = .ok (.getfield 30, 3) := by decide +kernel
theorem d_Bk_lift_78 : decode c_Bk_lift 78 = .ok (.iload_n 2, 1) := by decide +kernel
theorem d_Bk_lift_79 : decode c_Bk_lift 79 = .ok (.iload 6, 2) := by decide +kernel
theorem d_Bk_lift_81 : decode c_Bk_lift 81 = .ok (.iload 7, 2) := by decide +kernel
theorem d_Bk_lift_83 : decode c_Bk_lift 83 = .ok (.invokevirtual 159, 3) := by decide +kernel
theorem d_Bk_lift_86 : decode c_Bk_lift 86 = .ok (.ifCond .eq 9, 3) := by decide +kernel
theorem d_Bk_lift_89 : decode c_Bk_lift 89 = .ok (.iinc 4 1, 3) := by decide +kernel
theorem d_Bk_lift_92 : decode c_Bk_lift 92 = .ok (.goto 19, 3) := by decide +kernel
theorem d_Bk_lift_95 : decode c_Bk_lift 95 = .ok (.aload_n 0, 1) := by decide +kernel
theorem d_Bk_lift_96 : decode c_Bk_lift 96 = .ok (.getfield 23, 3) := by decide +kernel
theorem d_Bk_lift_99 : decode c_Bk_lift 99 = .ok (.getfield 156, 3) := by decide +kernel
theorem d_Bk_lift_102 : decode c_Bk_lift 102 = .ok (.iload_n 2, 1) := by decide +kernel
theorem d_Bk_lift_103 : decode c_Bk_lift 103 = .ok (.iload 6, 2) := by decide +kernel
theorem d_Bk_lift_105 : decode c_Bk_lift 105 = .ok (.iload 7, 2) := by decide +kernel
theorem d_Bk_lift_107 : decode c_Bk_lift 107 = .ok (.imul, 1) := by decide +kernel
theorem d_Bk_lift_108 : decode c_Bk_lift 108 = .ok (.invokevirtual 98, 3) := by decide +kernel
theorem d_Bk_lift_111 : decode c_Bk_lift 111 = .ok (.iinc 5 1, 3) := by decide +kernel
theorem d_Bk_lift_114 : decode c_Bk_lift 114 = .ok (.goto (-87), 3) := by decide +kernel
theorem d_Bk_lift_117 : decode c_Bk_lift 117 = .ok (.aload_n 0, 1) := by decide +kernel
theorem d_Bk_lift_118 : decode c_Bk_lift 118 = .ok (.getfield 37, 3) := by decide +kernel
theorem d_Bk_lift_121 : decode c_Bk_lift 121 = .ok (.iload_n 1, 1) := by decide +kernel
theorem d_Bk_lift_122 : decode c_Bk_lift 122 = .ok (.invokevirtual 165, 3) := by decide +kernel
theorem d_Bk_lift_125 : decode c_Bk_lift 125 = .ok (.iload 4, 2) := by decide +kernel
theorem d_Bk_lift_127 : decode c_Bk_lift 127 = .ok (.ireturn, 1) := by decide +kernel
theorem d_Bk_sellAt_0 : decode c_Bk_sellAt 0 = .ok (.aload_n 0, 1) := by decide +kernel
theorem d_Bk_sellAt_1 : decode c_Bk_sellAt 1 = .ok (.getfield 30, 3) := by decide +kernel
theorem d_Bk_sellAt_4 : decode c_Bk_sellAt 4 = .ok (.getfield 168, 3) := by decide +kernel
theorem d_Bk_sellAt_7 : decode c_Bk_sellAt 7 = .ok (.iload_n 1, 1) := by decide +kernel
theorem d_Bk_sellAt_8 : decode c_Bk_sellAt 8 = .ok (.invokevirtual 66, 3) := by decide +kernel
theorem d_Bk_sellAt_11 : decode c_Bk_sellAt 11 = .ok (.istore_n 2, 1) := by decide +kernel
theorem d_Bk_sellAt_12 : decode c_Bk_sellAt 12 = .ok (.aload_n 0, 1) := by decide +kernel
theorem d_Bk_sellAt_13 : decode c_Bk_sellAt 13 = .ok (.getfield 30, 3) := by decide +kernel
theorem d_Bk_sellAt_16 : decode c_Bk_sellAt 16 = .ok (.iload_n 1, 1) := by decide +kernel
theorem d_Bk_sellAt_17 : decode c_Bk_sellAt 17 = .ok (.invokevirtual 169, 3) := by decide +kernel
theorem d_Bk_sellAt_20 : decode c_Bk_sellAt 20 = .ok (.istore_n 3, 1) := by decide +kernel
theorem d_Bk_sellAt_21 : decode c_Bk_sellAt 21 = .ok (.iload_n 3, 1) := by decide +kernel
theorem d_Bk_sellAt_22 : decode c_Bk_sellAt 22 = .ok (.aload_n 0, 1) := by decide +kernel
theorem d_Bk_sellAt_23 : decode c_Bk_sellAt 23 = .ok (.getfield 23, 3) := by decide +kernel
theorem d_Bk_sellAt_26 : decode c_Bk_sellAt 26 = .ok (.getfield 108, 3) := by decide +kernel
theorem d_Bk_sellAt_29 : decode c_Bk_sellAt 29 = .ok (.iload_n 2, 1) := by decide +kernel
theorem d_Bk_sellAt_30 : decode c_Bk_sellAt 30 = .ok (.invokevirtual 66, 3) := by decide +kernel
theorem d_Bk_sellAt_33 : decode c_Bk_sellAt 33 = .ok (.imul, 1) := by decide +kernel
theorem d_Bk_sellAt_34 : decode c_Bk_sellAt 34 = .ok (.iconst 2, 1) := by decide +kernel
theorem d_Bk_sellAt_35 : decode c_Bk_sellAt 35 = .ok (.idiv, 1) := by decide +kernel
theorem d_Bk_sellAt_36 : decode c_Bk_sellAt 36 = .ok (.istore 4, 2) := by decide +kernel
theorem d_Bk_sellAt_38 : decode c_Bk_sellAt 38 = .ok (.aload_n 0, 1) := by decide +kernel
theorem d_Bk_sellAt_39 : decode c_Bk_sellAt 39 = .ok (.getfield 23, 3) := by decide +kernel
theorem d_Bk_sellAt_42 : decode c_Bk_sellAt 42 = .ok (.getfield 170, 3) := by decide +kernel
theorem d_Bk_sellAt_45 : decode c_Bk_sellAt 45 = .ok (.iload_n 2, 1) := by decide +kernel
theorem d_Bk_sellAt_46 : decode c_Bk_sellAt 46 = .ok (.iload_n 3, 1) := by decide +kernel
theorem d_Bk_sellAt_47 : decode c_Bk_sellAt 47 = .ok (.invokevirtual 98, 3) := by decide +kernel
theorem d_Bk_sellAt_50 : decode c_Bk_sellAt 50 = .ok (.aload_n 0, 1) := by decide +kernel
theorem d_Bk_sellAt_51 : decode c_Bk_sellAt 51 = .ok (.dup, 1) := by decide +kernel
theorem d_Bk_sellAt_52 : decode c_Bk_sellAt 52 = .ok (.getfield 58, 3) := by decide +kernel
theorem d_Bk_sellAt_55 : decode c_Bk_sellAt 55 = .ok (.iload 4, 2) := by decide +kernel
theorem d_Bk_sellAt_57 : decode c_Bk_sellAt 57 = .ok (.iadd, 1) := by decide +kernel
theorem d_Bk_sellAt_58 : decode c_Bk_sellAt 58 = .ok (.putfield 58, 3) := by decide +kernel
theorem d_Bk_sellAt_61 : decode c_Bk_sellAt 61 = .ok (.aload_n 0, 1) := by decide +kernel
theorem d_Bk_sellAt_62 : decode c_Bk_sellAt 62 = .ok (.getfield 30, 3) := by decide +kernel
theorem d_Bk_sellAt_65 : decode c_Bk_sellAt 65 = .ok (.iload_n 1, 1) := by decide +kernel
theorem d_Bk_sellAt_66 : decode c_Bk_sellAt 66 = .ok (.invokevirtual 139, 3) := by decide +kernel
theorem d_Bk_sellAt_69 : decode c_Bk_sellAt 69 = .ok (.iload 4, 2) := by decide +kernel
theorem d_Bk_sellAt_71 : decode c_Bk_sellAt 71 = .ok (.ireturn, 1) := by decide +kernel
theorem d_Bk_throwSmallOnes_0 : decode c_Bk_throwSmallOnes 0 = .ok (.iconst 0, 1) := by decide +kernel
theorem d_Bk_throwSmallOnes_1 : decode c_Bk_throwSmallOnes 1 = .ok (.istore_n 3, 1) := by decide +kernel
theorem d_Bk_throwSmallOnes_2 : decode c_Bk_throwSmallOnes 2 = .ok (.aload_n 0, 1) := by decide +kernel
theorem d_Bk_throwSmallOnes_3 : decode c_Bk_throwSmallOnes 3 = .ok (.getfield 30, 3) := by decide +kernel
theorem d_Bk_throwSmallOnes_6 : decode c_Bk_throwSmallOnes 6 = .ok (.getfield 173, 3) := by decide +kernel
theorem d_Bk_throwSmallOnes_9 : decode c_Bk_throwSmallOnes 9 = .ok (.iconst 1, 1) := by decide +kernel
theorem d_Bk_throwSmallOnes_10 : decode c_Bk_throwSmallOnes 10 = .ok (.isub, 1) := by decide +kernel
theorem d_Bk_throwSmallOnes_11 : decode c_Bk_throwSmallOnes 11 = .ok (.istore 4, 2) := by decide +kernel
theorem d_Bk_throwSmallOnes_13 : decode c_Bk_throwSmallOnes 13 = .ok (.iload 4, 2) := by decide +kernel
theorem d_Bk_throwSmallOnes_15 : decode c_Bk_throwSmallOnes 15 = .ok (.ifCond .lt 55, 3) := by decide +kernel
theorem d_Bk_throwSmallOnes_18 : decode c_Bk_throwSmallOnes 18 = .ok (.aload_n 0, 1) := by decide +kernel
theorem d_Bk_throwSmallOnes_19 : decode c_Bk_throwSmallOnes 19 = .ok (.getfield 30, 3) := by decide +kernel
theorem d_Bk_throwSmallOnes_22 : decode c_Bk_throwSmallOnes 22 = .ok (.iload 4, 2) := by decide +kernel
theorem d_Bk_throwSmallOnes_24 : decode c_Bk_throwSmallOnes 24 = .ok (.iload_n 1, 1) := by decide +kernel
theorem d_Bk_throwSmallOnes_25 : decode c_Bk_throwSmallOnes 25 = .ok (.iload_n 2, 1) := by decide +kernel
theorem d_Bk_throwSmallOnes_26 : decode c_Bk_throwSmallOnes 26 = .ok (.invokevirtual 176, 3) := by decide +kernel
theorem d_Bk_throwSmallOnes_29 : decode c_Bk_throwSmallOnes 29 = .ok (.ifCond .eq 35, 3) := by decide +kernel
theorem d_Bk_throwSmallOnes_32 : decode c_Bk_throwSmallOnes 32 = .ok (.aload_n 0, 1) := by decide +kernel
theorem d_Bk_throwSmallOnes_33 : decode c_Bk_throwSmallOnes 33 = .ok (.getfield 23, 3) := by decide +kernel
theorem d_Bk_throwSmallOnes_36 : decode c_Bk_throwSmallOnes 36 = .ok (.getfield 156, 3) := by decide +kernel
theorem d_Bk_throwSmallOnes_39 : decode c_Bk_throwSmallOnes 39 = .ok (.iload_n 1, 1) := by decide +kernel
theorem d_Bk_throwSmallOnes_40 : decode c_Bk_throwSmallOnes 40 = .ok (.aload_n 0, 1) := by decide +kernel
theorem d_Bk_throwSmallOnes_41 : decode c_Bk_throwSmallOnes 41 = .ok (.getfield 30, 3) := by decide +kernel
theorem d_Bk_throwSmallOnes_44 : decode c_Bk_throwSmallOnes 44 = .ok (.iload 4, 2) := by decide +kernel
theorem d_Bk_throwSmallOnes_46 : decode c_Bk_throwSmallOnes 46 = .ok (.invokevirtual 169, 3) := by decide +kernel
theorem d_Bk_throwSmallOnes_49 : decode c_Bk_throwSmallOnes 49 = .ok (.invokevirtual 98, 3) := by decide +kernel
theorem d_Bk_throwSmallOnes_52 : decode c_Bk_throwSmallOnes 52 = .ok (.aload_n 0, 1) := by decide +kernel
theorem d_Bk_throwSmallOnes_53 : decode c_Bk_throwSmallOnes 53 = .ok (.getfield 30, 3) := by decide +kernel
theorem d_Bk_throwSmallOnes_56 : decode c_Bk_throwSmallOnes 56 = .ok (.iload 4, 2) := by decide +kernel
theorem d_Bk_throwSmallOnes_58 : decode c_Bk_throwSmallOnes 58 = .ok (.invokevirtual 139, 3) := by decide +kernel
theorem d_Bk_throwSmallOnes_61 : decode c_Bk_throwSmallOnes 61 = .ok (.iinc 3 1, 3) := by decide +kernel
theorem d_Bk_throwSmallOnes_64 : decode c_Bk_throwSmallOnes 64 = .ok (.iinc 4 (-1), 3) := by decide +kernel
theorem d_Bk_throwSmallOnes_67 : decode c_Bk_throwSmallOnes 67 = .ok (.goto (-54), 3) := by decide +kernel
theorem d_Bk_throwSmallOnes_70 : decode c_Bk_throwSmallOnes 70 = .ok (.iload_n 3, 1) := by decide +kernel
theorem d_Bk_throwSmallOnes_71 : decode c_Bk_throwSmallOnes 71 = .ok (.ireturn, 1) := by decide +kernel
theorem d_Bk_sufficesFor_0 : decode c_Bk_sufficesFor 0 = .ok (.aload_n 0, 1) := by decide +kernel
theorem d_Bk_sufficesFor_1 : decode c_Bk_sufficesFor 1 = .ok (.getfield 37, 3) := by decide +kernel
theorem d_Bk_sufficesFor_4 : decode c_Bk_sufficesFor 4 = .ok (.iload_n 2, 1) := by decide +kernel
theorem d_Bk_sufficesFor_5 : decode c_Bk_sufficesFor 5 = .ok (.invokevirtual 62, 3) := by decide +kernel
theorem d_Bk_sufficesFor_8 : decode c_Bk_sufficesFor 8 = .ok (.ifCond .ne 18, 3) := by decide +kernel
theorem d_Bk_sufficesFor_11 : decode c_Bk_sufficesFor 11 = .ok (.aload_n 0, 1) := by decide +kernel
theorem d_Bk_sufficesFor_12 : decode c_Bk_sufficesFor 12 = .ok (.getfield 37, 3) := by decide +kernel
theorem d_Bk_sufficesFor_15 : decode c_Bk_sufficesFor 15 = .ok (.getfield 179, 3) := by decide +kernel
theorem d_Bk_sufficesFor_18 : decode c_Bk_sufficesFor 18 = .ok (.iload_n 2, 1) := by decide +kernel
theorem d_Bk_sufficesFor_19 : decode c_Bk_sufficesFor 19 = .ok (.invokevirtual 66, 3) := by decide +kernel
theorem d_Bk_sufficesFor_22 : decode c_Bk_sufficesFor 22 = .ok (.iconst 1, 1) := by decide +kernel
theorem d_Bk_sufficesFor_23 : decode c_Bk_sufficesFor 23 = .ok (.if_icmp .eq 5, 3) := by decide +kernel
theorem d_Bk_sufficesFor_26 : decode c_Bk_sufficesFor 26 = .ok (.iconst 0, 1) := by decide +kernel
theorem d_Bk_sufficesFor_27 : decode c_Bk_sufficesFor 27 = .ok (.ireturn, 1) := by decide +kernel
theorem d_Bk_sufficesFor_28 : decode c_Bk_sufficesFor 28 = .ok (.aload_n 0, 1) := by decide +kernel
theorem d_Bk_sufficesFor_29 : decode c_Bk_sufficesFor 29 = .ok (.iload_n 1, 1) := by decide +kernel
theorem d_Bk_sufficesFor_30 : decode c_Bk_sufficesFor 30 = .ok (.iload_n 2, 1) := by decide +kernel
theorem d_Bk_sufficesFor_31 : decode c_Bk_sufficesFor 31 = .ok (.iconst 0, 1) := by decide +kernel
theorem d_Bk_sufficesFor_32 : decode c_Bk_sufficesFor 32 = .ok (.invokevirtual 182, 3) := by decide +kernel
theorem d_Bk_sufficesFor_35 : decode c_Bk_sufficesFor 35 = .ok (.ifCond .ne 13, 3) := by decide +kernel
theorem d_Bk_sufficesFor_38 : decode c_Bk_sufficesFor 38 = .ok (.aload_n 0, 1) := by decide +kernel
theorem d_Bk_sufficesFor_39 : decode c_Bk_sufficesFor 39 = .ok (.iload_n 1, 1) := by decide +kernel
theorem d_Bk_sufficesFor_40 : decode c_Bk_sufficesFor 40 = .ok (.iload_n 2, 1) := by decide +kernel
theorem d_Bk_sufficesFor_41 : decode c_Bk_sufficesFor 41 = .ok (.iconst 1, 1) := by decide +kernel
theorem d_Bk_sufficesFor_42 : decode c_Bk_sufficesFor 42 = .ok (.invokevirtual 182, 3) := by decide +kernel
theorem d_Bk_sufficesFor_45 : decode c_Bk_sufficesFor 45 = .ok (.ifCond .eq 7, 3) := by decide +kernel
theorem d_Bk_sufficesFor_48 : decode c_Bk_sufficesFor 48 = .ok (.iconst 1, 1) := by decide +kernel
theorem d_Bk_sufficesFor_49 : decode c_Bk_sufficesFor 49 = .ok (.goto 4, 3) := by decide +kernel
theorem d_Bk_sufficesFor_52 : decode c_Bk_sufficesFor 52 = .ok (.iconst 0, 1) := by decide +kernel
theorem d_Bk_sufficesFor_53 : decode c_Bk_sufficesFor 53 = .ok (.ireturn, 1) := by decide +kernel
theorem d_Bk_sufficesByWay_0 : decode c_Bk_sufficesByWay 0 = .ok (.aload_n 0, 1) := by decide +kernel
theorem d_Bk_sufficesByWay_1 : decode c_Bk_sufficesByWay 1 = .ok (.getfield 14, 3) := by decide +kernel
theorem d_Bk_sufficesByWay_4 : decode c_Bk_sufficesByWay 4 = .ok (.iconst 4, 1) := by decide +kernel
theorem d_Bk_sufficesByWay_5 : decode c_Bk_sufficesByWay 5 = .ok (.invokevirtual 66, 3) := by decide +kernel
theorem d_Bk_sufficesByWay_8 : decode c_Bk_sufficesByWay 8 = .ok (.iconst 1, 1) := by decide +kernel
theorem d_Bk_sufficesByWay_9 : decode c_Bk_sufficesByWay 9 = .ok (.if_icmp .ne 17, 3) := by decide +kernel
theorem d_Bk_sufficesByWay_12 : decode c_Bk_sufficesByWay 12 = .ok (.aload_n 0, 1) := by decide +kernel
theorem d_Bk_sufficesByWay_13 : decode c_Bk_sufficesByWay 13 = .ok (.getfield 37, 3) := by decide +kernel
theorem d_Bk_sufficesByWay_16 : decode c_Bk_sufficesByWay 16 = .ok (.iload_n 2, 1) := by decide +kernel
theorem d_Bk_sufficesByWay_17 : decode c_Bk_sufficesByWay 17 = .ok (.iload_n 3, 1) := by decide +kernel
theorem d_Bk_sufficesByWay_18 : decode c_Bk_sufficesByWay 18 = .ok (.invokevirtual 70, 3) := by decide +kernel
theorem d_Bk_sufficesByWay_21 : decode c_Bk_sufficesByWay 21 = .ok (.ifCond .eq 5, 3) := by decide +kernel
theorem d_Bk_sufficesByWay_24 : decode c_Bk_sufficesByWay 24 = .ok (.iconst 0, 1) := by decide +kernel
theorem d_Bk_sufficesByWay_25 : decode c_Bk_sufficesByWay 25 = .ok (.ireturn, 1) := by decide +kernel
theorem d_Bk_sufficesByWay_26 : decode c_Bk_sufficesByWay 26 = .ok (.aload_n 0, 1) := by decide +kernel
theorem d_Bk_sufficesByWay_27 : decode c_Bk_sufficesByWay 27 = .ok (.getfield 30, 3) := by decide +kernel
theorem d_Bk_sufficesByWay_30 : decode c_Bk_sufficesByWay 30 = .ok (.iload_n 1, 1) := by decide +kernel
theorem d_Bk_sufficesByWay_31 : decode c_Bk_sufficesByWay 31 = .ok (.aload_n 0, 1) := by decide +kernel
theorem d_Bk_sufficesByWay_32 : decode c_Bk_sufficesByWay 32 = .ok (.getfield 37, 3) := by decide +kernel
theorem d_Bk_sufficesByWay_35 : decode c_Bk_sufficesByWay 35 = .ok (.iload_n 2, 1) := by decide +kernel
theorem d_Bk_sufficesByWay_36 : decode c_Bk_sufficesByWay 36 = .ok (.iconst 0, 1) := by decide +kernel
theorem d_Bk_sufficesByWay_37 : decode c_Bk_sufficesByWay 37 = .ok (.iload_n 3, 1) := by decide +kernel
theorem d_Bk_sufficesByWay_38 : decode c_Bk_sufficesByWay 38 = .ok (.invokevirtual 185, 3) := by decide +kernel
theorem d_Bk_sufficesByWay_41 : decode c_Bk_sufficesByWay 41 = .ok (.aload_n 0, 1) := by decide +kernel
theorem d_Bk_sufficesByWay_42 : decode c_Bk_sufficesByWay 42 = .ok (.getfield 37, 3) := by decide +kernel
theorem d_Bk_sufficesByWay_45 : decode c_Bk_sufficesByWay 45 = .ok (.iload_n 2, 1) := by decide +kernel
theorem d_Bk_sufficesByWay_46 : decode c_Bk_sufficesByWay 46 = .ok (.iconst 0, 1) := by decide +kernel
theorem d_Bk_sufficesByWay_47 : decode c_Bk_sufficesByWay 47 = .ok (.iload_n 3, 1) := by decide +kernel
theorem d_Bk_sufficesByWay_48 : decode c_Bk_sufficesByWay 48 = .ok (.invokevirtual 188, 3) := by decide +kernel
theorem d_Bk_sufficesByWay_51 : decode c_Bk_sufficesByWay 51 = .ok (.invokevirtual 191, 3) := by decide +kernel
theorem d_Bk_sufficesByWay_54 : decode c_Bk_sufficesByWay 54 = .ok (.ireturn, 1) := by decide +kernel
theorem d_Ch_init_0 : decode c_Ch_init 0 = .ok (.aload_n 0, 1) := by decide +kernel
theorem d_Ch_init_1 : decode c_Ch_init 1 = .ok (.invokespecial 1, 3) := by decide +kernel
theorem d_Ch_init_4 : decode c_Ch_init 4 = .ok (.return_, 1) := by decide +kernel
theorem d_Ch_offer_0 : decode c_Ch_offer 0 = .ok (.aload_n 0, 1) := by decide +kernel
theorem d_Ch_offer_1 : decode c_Ch_offer 1 = .ok (.getfield 7, 3) := by decide +kernel
theorem d_Ch_offer_4 : decode c_Ch_offer 4 = .ok (.ifCond .eq 29, 3) := by decide +kernel
theorem d_Ch_offer_7 : decode c_Ch_offer 7 = .ok (.iload_n 3, 1) := by decide +kernel
theorem d_Ch_offer_8 : decode c_Ch_offer 8 = .ok (.aload_n 0, 1) := by decide +kernel
theorem d_Ch_offer_9 : decode c_Ch_offer 9 = .ok (.getfield 13, 3) := by decide +kernel
theorem d_Ch_offer_12 : decode c_Ch_offer 12 = .ok (.if_icmp .gt 20, 3) := by decide +kernel
theorem d_Ch_offer_15 : decode c_Ch_offer 15 = .ok (.iload_n 3, 1) := by decide +kernel
theorem d_Ch_offer_16 : decode c_Ch_offer 16 = .ok (.aload_n 0, 1) := by decide +kernel
theorem d_Ch_offer_17 : decode c_Ch_offer 17 = .ok (.getfield 13, 3) := by decide +kernel
theorem d_Ch_offer_20 : decode c_Ch_offer 20 = .ok (.if_icmp .ne 13, 3) := by decide +kernel
theorem d_Ch_offer_23 : decode c_Ch_offer 23 = .ok (.iload 4, 2) := by decide +kernel
theorem d_Ch_offer_25 : decode c_Ch_offer 25 = .ok (.aload_n 0, 1) := by decide +kernel
theorem d_Ch_offer_26 : decode c_Ch_offer 26 = .ok (.getfield 17, 3) := by decide +kernel
theorem d_Ch_offer_29 : decode c_Ch_offer 29 = .ok (.if_icmp .lt 4, 3) := by decide +kernel
theorem d_Ch_offer_32 : decode c_Ch_offer 32 = .ok (.return_, 1) := by decide +kernel
theorem d_Ch_offer_33 : decode c_Ch_offer 33 = .ok (.aload_n 0, 1) := by decide +kernel
theorem d_Ch_offer_34 : decode c_Ch_offer 34 = .ok (.iconst 1, 1) := by decide +kernel
theorem d_Ch_offer_35 : decode c_Ch_offer 35 = .ok (.putfield 7, 3) := by decide +kernel
theorem d_Ch_offer_38 : decode c_Ch_offer 38 = .ok (.aload_n 0, 1) := by decide +kernel
theorem d_Ch_offer_39 : decode c_Ch_offer 39 = .ok (.iload_n 1, 1) := by decide +kernel
theorem d_Ch_offer_40 : decode c_Ch_offer 40 = .ok (.putfield 20, 3) := by decide +kernel
theorem d_Ch_offer_43 : decode c_Ch_offer 43 = .ok (.aload_n 0, 1) := by decide +kernel
theorem d_Ch_offer_44 : decode c_Ch_offer 44 = .ok (.iload_n 2, 1) := by decide +kernel
theorem d_Ch_offer_45 : decode c_Ch_offer 45 = .ok (.putfield 23, 3) := by decide +kernel
theorem d_Ch_offer_48 : decode c_Ch_offer 48 = .ok (.aload_n 0, 1) := by decide +kernel
theorem d_Ch_offer_49 : decode c_Ch_offer 49 = .ok (.iload_n 3, 1) := by decide +kernel
theorem d_Ch_offer_50 : decode c_Ch_offer 50 = .ok (.putfield 13, 3) := by decide +kernel
theorem d_Ch_offer_53 : decode c_Ch_offer 53 = .ok (.aload_n 0, 1) := by decide +kernel
theorem d_Ch_offer_54 : decode c_Ch_offer 54 = .ok (.iload 4, 2) := by decide +kernel
theorem d_Ch_offer_56 : decode c_Ch_offer 56 = .ok (.putfield 17, 3) := by decide +kernel
theorem d_Ch_offer_59 : decode c_Ch_offer 59 = .ok (.return_, 1) := by decide +kernel
theorem d_Hi_init_0 : decode c_Hi_init 0 = .ok (.aload_n 0, 1) := by decide +kernel
theorem d_Hi_init_1 : decode c_Hi_init 1 = .ok (.invokespecial 3, 3) := by decide +kernel
theorem d_Hi_init_4 : decode c_Hi_init 4 = .ok (.aload_n 0, 1) := by decide +kernel
theorem d_Hi_init_5 : decode c_Hi_init 5 = .ok (.iconst 4, 1) := by decide +kernel
theorem d_Hi_init_6 : decode c_Hi_init 6 = .ok (.anewarray 9, 3) := by decide +kernel
theorem d_Hi_init_9 : decode c_Hi_init 9 = .ok (.putfield 11, 3) := by decide +kernel
theorem d_Hi_init_12 : decode c_Hi_init 12 = .ok (.iconst 0, 1) := by decide +kernel
theorem d_Hi_init_13 : decode c_Hi_init 13 = .ok (.istore_n 1, 1) := by decide +kernel
theorem d_Hi_init_14 : decode c_Hi_init 14 = .ok (.iload_n 1, 1) := by decide +kernel
theorem d_Hi_init_15 : decode c_Hi_init 15 = .ok (.aload_n 0, 1) := by decide +kernel
theorem d_Hi_init_16 : decode c_Hi_init 16 = .ok (.getfield 11, 3) := by decide +kernel
theorem d_Hi_init_19 : decode c_Hi_init 19 = .ok (.arraylength, 1) := by decide +kernel
theorem d_Hi_init_20 : decode c_Hi_init 20 = .ok (.if_icmp .ge 22, 3) := by decide +kernel
theorem d_Hi_init_23 : decode c_Hi_init 23 = .ok (.aload_n 0, 1) := by decide +kernel
theorem d_Hi_init_24 : decode c_Hi_init 24 = .ok (.getfield 11, 3) := by decide +kernel
theorem d_Hi_init_27 : decode c_Hi_init 27 = .ok (.iload_n 1, 1) := by decide +kernel
theorem d_Hi_init_28 : decode c_Hi_init 28 = .ok (.new 9, 3) := by decide +kernel
theorem d_Hi_init_31 : decode c_Hi_init 31 = .ok (.dup, 1) := by decide +kernel
theorem d_Hi_init_32 : decode c_Hi_init 32 = .ok (.invokespecial 17, 3) := by decide +kernel
theorem d_Hi_init_35 : decode c_Hi_init 35 = .ok (.aastore, 1) := by decide +kernel
theorem d_Hi_init_36 : decode c_Hi_init 36 = .ok (.iinc 1 1, 3) := by decide +kernel
theorem d_Hi_init_39 : decode c_Hi_init 39 = .ok (.goto (-25), 3) := by decide +kernel
theorem d_Hi_init_42 : decode c_Hi_init 42 = .ok (.return_, 1) := by decide +kernel
theorem d_Hi_record_0 : decode c_Hi_record 0 = .ok (.aload_n 0, 1) := by decide +kernel
theorem d_Hi_record_1 : decode c_Hi_record 1 = .ok (.aload_n 0, 1) := by decide +kernel
theorem d_Hi_record_2 : decode c_Hi_record 2 = .ok (.getfield 18, 3) := by decide +kernel
theorem d_Hi_record_5 : decode c_Hi_record 5 = .ok (.aload_n 0, 1) := by decide +kernel
theorem d_Hi_record_6 : decode c_Hi_record 6 = .ok (.getfield 22, 3) := by decide +kernel
theorem d_Hi_record_9 : decode c_Hi_record 9 = .ok (.iadd, 1) := by decide +kernel
theorem d_Hi_record_10 : decode c_Hi_record 10 = .ok (.invokevirtual 25, 3) := by decide +kernel
theorem d_Hi_record_13 : decode c_Hi_record 13 = .ok (.astore_n 2, 1) := by decide +kernel
theorem d_Hi_record_14 : decode c_Hi_record 14 = .ok (.aload_n 2, 1) := by decide +kernel
theorem d_Hi_record_15 : decode c_Hi_record 15 = .ok (.ifnonnull 4, 3) := by decide +kernel
theorem d_Hi_record_18 : decode c_Hi_record 18 = .ok (.return_, 1) := by decide +kernel
theorem d_Hi_record_19 : decode c_Hi_record 19 = .ok (.aload_n 2, 1) := by decide +kernel
theorem d_Hi_record_20 : decode c_Hi_record 20 = .ok (.aload_n 1, 1) := by decide +kernel
theorem d_Hi_record_21 : decode c_Hi_record 21 = .ok (.invokevirtual 29, 3) := by decide +kernel
theorem d_Hi_record_24 : decode c_Hi_record 24 = .ok (.aload_n 0, 1) := by decide +kernel
theorem d_Hi_record_25 : decode c_Hi_record 25 = .ok (.getfield 22, 3) := by decide +kernel
theorem d_Hi_record_28 : decode c_Hi_record 28 = .ok (.iconst 4, 1) := by decide +kernel
theorem d_Hi_record_29 : decode c_Hi_record 29 = .ok (.if_icmp .ge 16, 3) := by decide +kernel
theorem d_Hi_record_32 : decode c_Hi_record 32 = .ok (.aload_n 0, 1) := by decide +kernel
theorem d_Hi_record_33 : decode c_Hi_record 33 = .ok (.dup, 1) := by decide +kernel
theorem d_Hi_record_34 : decode c_Hi_record 34 = .ok (.getfield 22, 3) := by decide +kernel
theorem d_Hi_record_37 : decode c_Hi_record 37 = .ok (.iconst 1, 1) := by decide +kernel
theorem d_Hi_record_38 : decode c_Hi_record 38 = .ok (.iadd, 1) := by decide +kernel
theorem d_Hi_record_39 : decode c_Hi_record 39 = .ok (.putfield 22, 3) := by decide +kernel
theorem d_Hi_record_42 : decode c_Hi_record 42 = .ok (.goto 15, 3) := by decide +kernel
theorem d_Hi_record_45 : decode c_Hi_record 45 = .ok (.aload_n 0, 1) := by decide +kernel
theorem d_Hi_record_46 : decode c_Hi_record 46 = .ok (.aload_n 0, 1) := by decide +kernel
theorem d_Hi_record_47 : decode c_Hi_record 47 = .ok (.getfield 18, 3) := by decide +kernel
theorem d_Hi_record_50 : decode c_Hi_record 50 = .ok (.iconst 1, 1) := by decide +kernel
theorem d_Hi_record_51 : decode c_Hi_record 51 = .ok (.iadd, 1) := by decide +kernel
theorem d_Hi_record_52 : decode c_Hi_record 52 = .ok (.iconst 4, 1) := by decide +kernel
theorem d_Hi_record_53 : decode c_Hi_record 53 = .ok (.irem, 1) := by decide +kernel
theorem d_Hi_record_54 : decode c_Hi_record 54 = .ok (.putfield 18, 3) := by decide +kernel
theorem d_Hi_record_57 : decode c_Hi_record 57 = .ok (.return_, 1) := by decide +kernel
theorem d_Hi_moveLatestTo_0 : decode c_Hi_moveLatestTo 0 = .ok (.aload_n 0, 1) := by decide +kernel
theorem d_Hi_moveLatestTo_1 : decode c_Hi_moveLatestTo 1 = .ok (.aload_n 0, 1) := by decide +kernel
theorem d_Hi_moveLatestTo_2 : decode c_Hi_moveLatestTo 2 = .ok (.getfield 18, 3) := by decide +kernel
theorem d_Hi_moveLatestTo_5 : decode c_Hi_moveLatestTo 5 = .ok (.aload_n 0, 1) := by decide +kernel
theorem d_Hi_moveLatestTo_6 : decode c_Hi_moveLatestTo 6 = .ok (.getfield 22, 3) := by decide +kernel
theorem d_Hi_moveLatestTo_9 : decode c_Hi_moveLatestTo 9 = .ok (.iadd, 1) := by decide +kernel
theorem d_Hi_moveLatestTo_10 : decode c_Hi_moveLatestTo 10 = .ok (.iconst 1, 1) := by decide +kernel
theorem d_Hi_moveLatestTo_11 : decode c_Hi_moveLatestTo 11 = .ok (.isub, 1) := by decide +kernel
theorem d_Hi_moveLatestTo_12 : decode c_Hi_moveLatestTo 12 = .ok (.invokevirtual 25, 3) := by decide +kernel
theorem d_Hi_moveLatestTo_15 : decode c_Hi_moveLatestTo 15 = .ok (.astore_n 2, 1) := by decide +kernel
theorem d_Hi_moveLatestTo_16 : decode c_Hi_moveLatestTo 16 = .ok (.aload_n 2, 1) := by decide +kernel
theorem d_Hi_moveLatestTo_17 : decode c_Hi_moveLatestTo 17 = .ok (.ifnull 10, 3) := by decide +kernel
theorem d_Hi_moveLatestTo_20 : decode c_Hi_moveLatestTo 20 = .ok (.aload_n 0, 1) := by decide +kernel
theorem d_Hi_moveLatestTo_21 : decode c_Hi_moveLatestTo 21 = .ok (.getfield 22, 3) := by decide +kernel
theorem d_Hi_moveLatestTo_24 : decode c_Hi_moveLatestTo 24 = .ok (.ifCond .gt 4, 3) := by decide +kernel
theorem d_Hi_moveLatestTo_27 : decode c_Hi_moveLatestTo 27 = .ok (.return_, 1) := by decide +kernel
theorem d_Hi_moveLatestTo_28 : decode c_Hi_moveLatestTo 28 = .ok (.aload_n 1, 1) := by decide +kernel
theorem d_Hi_moveLatestTo_29 : decode c_Hi_moveLatestTo 29 = .ok (.aload_n 2, 1) := by decide +kernel
theorem d_Hi_moveLatestTo_30 : decode c_Hi_moveLatestTo 30 = .ok (.invokevirtual 29, 3) := by decide +kernel
theorem d_Hi_moveLatestTo_33 : decode c_Hi_moveLatestTo 33 = .ok (.aload_n 0, 1) := by decide +kernel
theorem d_Hi_moveLatestTo_34 : decode c_Hi_moveLatestTo 34 = .ok (.dup, 1) := by decide +kernel
theorem d_Hi_moveLatestTo_35 : decode c_Hi_moveLatestTo 35 = .ok (.getfield 22, 3) := by decide +kernel
theorem d_Hi_moveLatestTo_38 : decode c_Hi_moveLatestTo 38 = .ok (.iconst 1, 1) := by decide +kernel
theorem d_Hi_moveLatestTo_39 : decode c_Hi_moveLatestTo 39 = .ok (.isub, 1) := by decide +kernel
theorem d_Hi_moveLatestTo_40 : decode c_Hi_moveLatestTo 40 = .ok (.putfield 22, 3) := by decide +kernel
theorem d_Hi_moveLatestTo_43 : decode c_Hi_moveLatestTo 43 = .ok (.return_, 1) := by decide +kernel
theorem d_Hi_slotAt_0 : decode c_Hi_slotAt 0 = .ok (.iload_n 1, 1) := by decide +kernel
theorem d_Hi_slotAt_1 : decode c_Hi_slotAt 1 = .ok (.iconst 4, 1) := by decide +kernel
theorem d_Hi_slotAt_2 : decode c_Hi_slotAt 2 = .ok (.invokestatic 33, 3) := by decide +kernel
theorem d_Hi_slotAt_5 : decode c_Hi_slotAt 5 = .ok (.istore_n 2, 1) := by decide +kernel
theorem d_Hi_slotAt_6 : decode c_Hi_slotAt 6 = .ok (.iload_n 2, 1) := by decide +kernel
theorem d_Hi_slotAt_7 : decode c_Hi_slotAt 7 = .ok (.ifCond .lt 21, 3) := by decide +kernel
theorem d_Hi_slotAt_10 : decode c_Hi_slotAt 10 = .ok (.iload_n 2, 1) := by decide +kernel
theorem d_Hi_slotAt_11 : decode c_Hi_slotAt 11 = .ok (.aload_n 0, 1) := by decide +kernel
theorem d_Hi_slotAt_12 : decode c_Hi_slotAt 12 = .ok (.getfield 11, 3) := by decide +kernel
theorem d_Hi_slotAt_15 : decode c_Hi_slotAt 15 = .ok (.arraylength, 1) := by decide +kernel
theorem d_Hi_slotAt_16 : decode c_Hi_slotAt 16 = .ok (.if_icmp .ge 12, 3) := by decide +kernel
theorem d_Hi_slotAt_19 : decode c_Hi_slotAt 19 = .ok (.aload_n 0, 1) := by decide +kernel
theorem d_Hi_slotAt_20 : decode c_Hi_slotAt 20 = .ok (.getfield 11, 3) := by decide +kernel
theorem d_Hi_slotAt_23 : decode c_Hi_slotAt 23 = .ok (.iload_n 2, 1) := by decide +kernel
theorem d_Hi_slotAt_24 : decode c_Hi_slotAt 24 = .ok (.aaload, 1) := by decide +kernel
theorem d_Hi_slotAt_25 : decode c_Hi_slotAt 25 = .ok (.goto 4, 3) := by decide +kernel
theorem d_Hi_slotAt_28 : decode c_Hi_slotAt 28 = .ok (.aconst_null, 1) := by decide +kernel
theorem d_Hi_slotAt_29 : decode c_Hi_slotAt 29 = .ok (.areturn, 1) := by decide +kernel
theorem d_Of_init_0 : decode c_Of_init 0 = .ok (.aload_n 0, 1) := by decide +kernel
theorem d_Of_init_1 : decode c_Of_init 1 = .ok (.invokespecial 3, 3) := by decide +kernel
theorem d_Of_init_4 : decode c_Of_init 4 = .ok (.aload_n 0, 1) := by decide +kernel
theorem d_Of_init_5 : decode c_Of_init 5 = .ok (.new 9, 3) := by decide +kernel
theorem d_Of_init_8 : decode c_Of_init 8 = .ok (.dup, 1) := by decide +kernel
theorem d_Of_init_9 : decode c_Of_init 9 = .ok (.bipush 60, 2) := by decide +kernel
theorem d_Of_init_11 : decode c_Of_init 11 = .ok (.invokespecial 11, 3) := by decide +kernel
theorem d_Of_init_14 : decode c_Of_init 14 = .ok (.putfield 14, 3) := by decide +kernel
theorem d_Of_init_17 : decode c_Of_init 17 = .ok (.aload_n 0, 1) := by decide +kernel
theorem d_Of_init_18 : decode c_Of_init 18 = .ok (.new 9, 3) := by decide +kernel
theorem d_Of_init_21 : decode c_Of_init 21 = .ok (.dup, 1) := by decide +kernel
theorem d_Of_init_22 : decode c_Of_init 22 = .ok (.bipush 60, 2) := by decide +kernel
theorem d_Of_init_24 : decode c_Of_init 24 = .ok (.invokespecial 11, 3) := by decide +kernel
theorem d_Of_init_27 : decode c_Of_init 27 = .ok (.putfield 20, 3) := by decide +kernel
theorem d_Of_init_30 : decode c_Of_init 30 = .ok (.aload_n 0, 1) := by decide +kernel
theorem d_Of_init_31 : decode c_Of_init 31 = .ok (.new 9, 3) := by decide +kernel
theorem d_Of_init_34 : decode c_Of_init 34 = .ok (.dup, 1) := by decide +kernel
theorem d_Of_init_35 : decode c_Of_init 35 = .ok (.bipush 60, 2) := by decide +kernel
theorem d_Of_init_37 : decode c_Of_init 37 = .ok (.invokespecial 11, 3) := by decide +kernel
theorem d_Of_init_40 : decode c_Of_init 40 = .ok (.putfield 23, 3) := by decide +kernel
theorem d_Of_init_43 : decode c_Of_init 43 = .ok (.aload_n 0, 1) := by decide +kernel
theorem d_Of_init_44 : decode c_Of_init 44 = .ok (.new 9, 3) := by decide +kernel
theorem d_Of_init_47 : decode c_Of_init 47 = .ok (.dup, 1) := by decide +kernel
theorem d_Of_init_48 : decode c_Of_init 48 = .ok (.bipush 60, 2) := by decide +kernel
theorem d_Of_init_50 : decode c_Of_init 50 = .ok (.invokespecial 11, 3) := by decide +kernel
theorem d_Of_init_53 : decode c_Of_init 53 = .ok (.putfield 26, 3) := by decide +kernel
theorem d_Of_init_56 : decode c_Of_init 56 = .ok (.return_, 1) := by decide +kernel
theorem d_Of_append_0 : decode c_Of_append 0 = .ok (.aload_n 0, 1) := by decide +kernel
theorem d_Of_append_1 : decode c_Of_append 1 = .ok (.getfield 29, 3) := by decide +kernel
theorem d_Of_append_4 : decode c_Of_append 4 = .ok (.bipush 60, 2) := by decide +kernel
theorem d_Of_append_6 : decode c_Of_append 6 = .ok (.if_icmp .ge 13, 3) := by decide +kernel
theorem d_Of_append_9 : decode c_Of_append 9 = .ok (.aload_n 0, 1) := by decide +kernel
theorem d_Of_append_10 : decode c_Of_append 10 = .ok (.getfield 33, 3) := by decide +kernel
theorem d_Of_append_13 : decode c_Of_append 13 = .ok (.sipush 300, 3) := by decide +kernel
theorem d_Of_append_16 : decode c_Of_append 16 = .ok (.if_icmp .lt 5, 3) := by decide +kernel
theorem d_Of_append_19 : decode c_Of_append 19 = .ok (.iconst 0, 1) := by decide +kernel
theorem d_Of_append_20 : decode c_Of_append 20 = .ok (.ireturn, 1) := by decide +kernel
theorem d_Of_append_21 : decode c_Of_append 21 = .ok (.aload_n 0, 1) := by decide +kernel
theorem d_Of_append_22 : decode c_Of_append 22 = .ok (.getfield 14, 3) := by decide +kernel
theorem d_Of_append_25 : decode c_Of_append 25 = .ok (.aload_n 0, 1) := by decide +kernel
theorem d_Of_append_26 : decode c_Of_append 26 = .ok (.getfield 29, 3) := by decide +kernel
theorem d_Of_append_29 : decode c_Of_append 29 = .ok (.aload_n 0, 1) := by decide +kernel
theorem d_Of_append_30 : decode c_Of_append 30 = .ok (.getfield 33, 3) := by decide +kernel
theorem d_Of_append_33 : decode c_Of_append 33 = .ok (.invokevirtual 36, 3) := by decide +kernel
theorem d_Of_append_36 : decode c_Of_append 36 = .ok (.aload_n 0, 1) := by decide +kernel
theorem d_Of_append_37 : decode c_Of_append 37 = .ok (.getfield 20, 3) := by decide +kernel
theorem d_Of_append_40 : decode c_Of_append 40 = .ok (.aload_n 0, 1) := by decide +kernel
theorem d_Of_append_41 : decode c_Of_append 41 = .ok (.getfield 29, 3) := by decide +kernel
theorem d_Of_append_44 : decode c_Of_append 44 = .ok (.iload_n 1, 1) := by decide +kernel
theorem d_Of_append_45 : decode c_Of_append 45 = .ok (.invokevirtual 36, 3) := by decide +kernel
theorem d_Of_append_48 : decode c_Of_append 48 = .ok (.aload_n 0, 1) := by decide +kernel
theorem d_Of_append_49 : decode c_Of_append 49 = .ok (.getfield 23, 3) := by decide +kernel
theorem d_Of_append_52 : decode c_Of_append 52 = .ok (.aload_n 0, 1) := by decide +kernel
theorem d_Of_append_53 : decode c_Of_append 53 = .ok (.getfield 29, 3) := by decide +kernel
theorem d_Of_append_56 : decode c_Of_append 56 = .ok (.iload_n 2, 1) := by decide +kernel
theorem d_Of_append_57 : decode c_Of_append 57 = .ok (.invokevirtual 36, 3) := by decide +kernel
theorem d_Of_append_60 : decode c_Of_append 60 = .ok (.aload_n 0, 1) := by decide +kernel
theorem d_Of_append_61 : decode c_Of_append 61 = .ok (.getfield 26, 3) := by decide +kernel
theorem d_Of_append_64 : decode c_Of_append 64 = .ok (.aload_n 0, 1) := by decide +kernel
theorem d_Of_append_65 : decode c_Of_append 65 = .ok (.getfield 29, 3) := by decide +kernel
theorem d_Of_append_68 : decode c_Of_append 68 = .ok (.iload_n 3, 1) := by decide +kernel
theorem d_Of_append_69 : decode c_Of_append 69 = .ok (.invokevirtual 36, 3) := by decide +kernel
theorem d_Of_append_72 : decode c_Of_append 72 = .ok (.aload_n 0, 1) := by decide +kernel
theorem d_Of_append_73 : decode c_Of_append 73 = .ok (.dup, 1) := by decide +kernel
theorem d_Of_append_74 : decode c_Of_append 74 = .ok (.getfield 29, 3) := by decide +kernel
theorem d_Of_append_77 : decode c_Of_append 77 = .ok (.iconst 1, 1) := by decide +kernel
theorem d_Of_append_78 : decode c_Of_append 78 = .ok (.iadd, 1) := by decide +kernel
theorem d_Of_append_79 : decode c_Of_append 79 = .ok (.putfield 29, 3) := by decide +kernel
theorem d_Of_append_82 : decode c_Of_append 82 = .ok (.aload_n 0, 1) := by decide +kernel
theorem d_Of_append_83 : decode c_Of_append 83 = .ok (.dup, 1) := by decide +kernel
theorem d_Of_append_84 : decode c_Of_append 84 = .ok (.getfield 33, 3) := by decide +kernel
theorem d_Of_append_87 : decode c_Of_append 87 = .ok (.iconst 1, 1) := by decide +kernel
theorem d_Of_append_88 : decode c_Of_append 88 = .ok (.iadd, 1) := by decide +kernel
theorem d_Of_append_89 : decode c_Of_append 89 = .ok (.putfield 33, 3) := by decide +kernel
theorem d_Of_append_92 : decode c_Of_append 92 = .ok (.iconst 1, 1) := by decide +kernel
theorem d_Of_append_93 : decode c_Of_append 93 = .ok (.ireturn, 1) := by decide +kernel
theorem d_Of_removeAt_0 : decode c_Of_removeAt 0 = .ok (.iload_n 1, 1) := by decide +kernel
theorem d_Of_removeAt_1 : decode c_Of_removeAt 1 = .ok (.ifCond .lt 11, 3) := by decide +kernel
theorem d_Of_removeAt_4 : decode c_Of_removeAt 4 = .ok (.iload_n 1, 1) := by decide +kernel
theorem d_Of_removeAt_5 : decode c_Of_removeAt 5 = .ok (.aload_n 0, 1) := by decide +kernel
theorem d_Of_removeAt_6 : decode c_Of_removeAt 6 = .ok (.getfield 29, 3) := by decide +kernel
theorem d_Of_removeAt_9 : decode c_Of_removeAt 9 = .ok (.if_icmp .lt 4, 3) := by decide +kernel
theorem d_Of_removeAt_12 : decode c_Of_removeAt 12 = .ok (.return_, 1) := by decide +kernel
theorem d_Of_removeAt_13 : decode c_Of_removeAt 13 = .ok (.aload_n 0, 1) := by decide +kernel
theorem d_Of_removeAt_14 : decode c_Of_removeAt 14 = .ok (.getfield 14, 3) := by decide +kernel
theorem d_Of_removeAt_17 : decode c_Of_removeAt 17 = .ok (.iload_n 1, 1) := by decide +kernel
theorem d_Of_removeAt_18 : decode c_Of_removeAt 18 = .ok (.invokevirtual 40, 3) := by decide +kernel
theorem d_Of_removeAt_21 : decode c_Of_removeAt 21 = .ok (.aload_n 0, 1) := by decide +kernel
theorem d_Of_removeAt_22 : decode c_Of_removeAt 22 = .ok (.getfield 20, 3) := by decide +kernel
theorem d_Of_removeAt_25 : decode c_Of_removeAt 25 = .ok (.iload_n 1, 1) := by decide +kernel
theorem d_Of_removeAt_26 : decode c_Of_removeAt 26 = .ok (.invokevirtual 40, 3) := by decide +kernel
theorem d_Of_removeAt_29 : decode c_Of_removeAt 29 = .ok (.aload_n 0, 1) := by decide +kernel
theorem d_Of_removeAt_30 : decode c_Of_removeAt 30 = .ok (.getfield 23, 3) := by decide +kernel
theorem d_Of_removeAt_33 : decode c_Of_removeAt 33 = .ok (.iload_n 1, 1) := by decide +kernel
theorem d_Of_removeAt_34 : decode c_Of_removeAt 34 = .ok (.invokevirtual 40, 3) := by decide +kernel
theorem d_Of_removeAt_37 : decode c_Of_removeAt 37 = .ok (.aload_n 0, 1) := by decide +kernel
theorem d_Of_removeAt_38 : decode c_Of_removeAt 38 = .ok (.getfield 26, 3) := by decide +kernel
theorem d_Of_removeAt_41 : decode c_Of_removeAt 41 = .ok (.iload_n 1, 1) := by decide +kernel
theorem d_Of_removeAt_42 : decode c_Of_removeAt 42 = .ok (.invokevirtual 40, 3) := by decide +kernel
theorem d_Of_removeAt_45 : decode c_Of_removeAt 45 = .ok (.aload_n 0, 1) := by decide +kernel
theorem d_Of_removeAt_46 : decode c_Of_removeAt 46 = .ok (.dup, 1) := by decide +kernel
theorem d_Of_removeAt_47 : decode c_Of_removeAt 47 = .ok (.getfield 29, 3) := by decide +kernel
theorem d_Of_removeAt_50 : decode c_Of_removeAt 50 = .ok (.iconst 1, 1) := by decide +kernel
theorem d_Of_removeAt_51 : decode c_Of_removeAt 51 = .ok (.isub, 1) := by decide +kernel
theorem d_Of_removeAt_52 : decode c_Of_removeAt 52 = .ok (.putfield 29, 3) := by decide +kernel
theorem d_Of_removeAt_55 : decode c_Of_removeAt 55 = .ok (.return_, 1) := by decide +kernel
theorem d_Of_placeOf_0 : decode c_Of_placeOf 0 = .ok (.iconst 0, 1) := by decide +kernel
theorem d_Of_placeOf_1 : decode c_Of_placeOf 1 = .ok (.istore_n 2, 1) := by decide +kernel
theorem d_Of_placeOf_2 : decode c_Of_placeOf 2 = .ok (.iload_n 2, 1) := by decide +kernel
theorem d_Of_placeOf_3 : decode c_Of_placeOf 3 = .ok (.aload_n 0, 1) := by decide +kernel
theorem d_Of_placeOf_4 : decode c_Of_placeOf 4 = .ok (.getfield 29, 3) := by decide +kernel
theorem d_Of_placeOf_7 : decode c_Of_placeOf 7 = .ok (.if_icmp .ge 23, 3) := by decide +kernel
theorem d_Of_placeOf_10 : decode c_Of_placeOf 10 = .ok (.aload_n 0, 1) := by decide +kernel
theorem d_Of_placeOf_11 : decode c_Of_placeOf 11 = .ok (.getfield 14, 3) := by decide +kernel
theorem d_Of_placeOf_14 : decode c_Of_placeOf 14 = .ok (.iload_n 2, 1) := by decide +kernel
theorem d_Of_placeOf_15 : decode c_Of_placeOf 15 = .ok (.invokevirtual 43, 3) := by decide +kernel
theorem d_Of_placeOf_18 : decode c_Of_placeOf 18 = .ok (.iload_n 1, 1) := by decide +kernel
theorem d_Of_placeOf_19 : decode c_Of_placeOf 19 = .ok (.if_icmp .ne 5, 3) := by decide +kernel
theorem d_Of_placeOf_22 : decode c_Of_placeOf 22 = .ok (.iload_n 2, 1) := by decide +kernel
theorem d_Of_placeOf_23 : decode c_Of_placeOf 23 = .ok (.ireturn, 1) := by decide +kernel
theorem d_Of_placeOf_24 : decode c_Of_placeOf 24 = .ok (.iinc 2 1, 3) := by decide +kernel
theorem d_Of_placeOf_27 : decode c_Of_placeOf 27 = .ok (.goto (-25), 3) := by decide +kernel
theorem d_Of_placeOf_30 : decode c_Of_placeOf 30 = .ok (.bipush (-5), 2) := by decide +kernel
theorem d_Of_placeOf_32 : decode c_Of_placeOf 32 = .ok (.ireturn, 1) := by decide +kernel
theorem d_Of_area_0 : decode c_Of_area 0 = .ok (.aload_n 0, 1) := by decide +kernel
theorem d_Of_area_1 : decode c_Of_area 1 = .ok (.getfield 23, 3) := by decide +kernel
theorem d_Of_area_4 : decode c_Of_area 4 = .ok (.iload_n 1, 1) := by decide +kernel
theorem d_Of_area_5 : decode c_Of_area 5 = .ok (.invokevirtual 43, 3) := by decide +kernel
theorem d_Of_area_8 : decode c_Of_area 8 = .ok (.aload_n 0, 1) := by decide +kernel
theorem d_Of_area_9 : decode c_Of_area 9 = .ok (.getfield 26, 3) := by decide +kernel
theorem d_Of_area_12 : decode c_Of_area 12 = .ok (.iload_n 1, 1) := by decide +kernel
theorem d_Of_area_13 : decode c_Of_area 13 = .ok (.invokevirtual 43, 3) := by decide +kernel
theorem d_Of_area_16 : decode c_Of_area 16 = .ok (.imul, 1) := by decide +kernel
theorem d_Of_area_17 : decode c_Of_area 17 = .ok (.ireturn, 1) := by decide +kernel
theorem d_Of_keptOf_0 : decode c_Of_keptOf 0 = .ok (.iconst 0, 1) := by decide +kernel
theorem d_Of_keptOf_1 : decode c_Of_keptOf 1 = .ok (.istore_n 2, 1) := by decide +kernel
theorem d_Of_keptOf_2 : decode c_Of_keptOf 2 = .ok (.iconst 0, 1) := by decide +kernel
theorem d_Of_keptOf_3 : decode c_Of_keptOf 3 = .ok (.istore_n 3, 1) := by decide +kernel
theorem d_Of_keptOf_4 : decode c_Of_keptOf 4 = .ok (.iload_n 3, 1) := by decide +kernel
theorem d_Of_keptOf_5 : decode c_Of_keptOf 5 = .ok (.aload_n 0, 1) := by decide +kernel
theorem d_Of_keptOf_6 : decode c_Of_keptOf 6 = .ok (.getfield 29, 3) := by decide +kernel
theorem d_Of_keptOf_9 : decode c_Of_keptOf 9 = .ok (.if_icmp .ge 24, 3) := by decide +kernel
theorem d_Of_keptOf_12 : decode c_Of_keptOf 12 = .ok (.aload_n 0, 1) := by decide +kernel
theorem d_Of_keptOf_13 : decode c_Of_keptOf 13 = .ok (.getfield 20, 3) := by decide +kernel
theorem d_Of_keptOf_16 : decode c_Of_keptOf 16 = .ok (.iload_n 3, 1) := by decide +kernel
theorem d_Of_keptOf_17 : decode c_Of_keptOf 17 = .ok (.invokevirtual 43, 3) := by decide +kernel
theorem d_Of_keptOf_20 : decode c_Of_keptOf 20 = .ok (.iload_n 1, 1) := by decide +kernel
theorem d_Of_keptOf_21 : decode c_Of_keptOf 21 = .ok (.if_icmp .ne 6, 3) := by decide +kernel
theorem d_Of_keptOf_24 : decode c_Of_keptOf 24 = .ok (.iinc 2 1, 3) := by decide +kernel
theorem d_Of_keptOf_27 : decode c_Of_keptOf 27 = .ok (.iinc 3 1, 3) := by decide +kernel
theorem d_Of_keptOf_30 : decode c_Of_keptOf 30 = .ok (.goto (-26), 3) := by decide +kernel
theorem d_Of_keptOf_33 : decode c_Of_keptOf 33 = .ok (.iload_n 2, 1) := by decide +kernel
theorem d_Of_keptOf_34 : decode c_Of_keptOf 34 = .ok (.ireturn, 1) := by decide +kernel
theorem d_Of_areaOf_0 : decode c_Of_areaOf 0 = .ok (.iconst 0, 1) := by decide +kernel
theorem d_Of_areaOf_1 : decode c_Of_areaOf 1 = .ok (.istore_n 2, 1) := by decide +kernel
theorem d_Of_areaOf_2 : decode c_Of_areaOf 2 = .ok (.iconst 0, 1) := by decide +kernel
theorem d_Of_areaOf_3 : decode c_Of_areaOf 3 = .ok (.istore_n 3, 1) := by decide +kernel
theorem d_Of_areaOf_4 : decode c_Of_areaOf 4 = .ok (.iload_n 3, 1) := by decide +kernel
theorem d_Of_areaOf_5 : decode c_Of_areaOf 5 = .ok (.aload_n 0, 1) := by decide +kernel
theorem d_Of_areaOf_6 : decode c_Of_areaOf 6 = .ok (.getfield 29, 3) := by decide +kernel
theorem d_Of_areaOf_9 : decode c_Of_areaOf 9 = .ok (.if_icmp .ge 29, 3) := by decide +kernel
theorem d_Of_areaOf_12 : decode c_Of_areaOf 12 = .ok (.aload_n 0, 1) := by decide +kernel
theorem d_Of_areaOf_13 : decode c_Of_areaOf 13 = .ok (.getfield 20, 3) := by decide +kernel
theorem d_Of_areaOf_16 : decode c_Of_areaOf 16 = .ok (.iload_n 3, 1) := by decide +kernel
theorem d_Of_areaOf_17 : decode c_Of_areaOf 17 = .ok (.invokevirtual 43, 3) := by decide +kernel
theorem d_Of_areaOf_20 : decode c_Of_areaOf 20 = .ok (.iload_n 1, 1) := by decide +kernel
theorem d_Of_areaOf_21 : decode c_Of_areaOf 21 = .ok (.if_icmp .ne 11, 3) := by decide +kernel
theorem d_Of_areaOf_24 : decode c_Of_areaOf 24 = .ok (.iload_n 2, 1) := by decide +kernel
theorem d_Of_areaOf_25 : decode c_Of_areaOf 25 = .ok (.aload_n 0, 1) := by decide +kernel
theorem d_Of_areaOf_26 : decode c_Of_areaOf 26 = .ok (.iload_n 3, 1) := by decide +kernel
theorem d_Of_areaOf_27 : decode c_Of_areaOf 27 = .ok (.invokevirtual 47, 3) := by decide +kernel
theorem d_Of_areaOf_30 : decode c_Of_areaOf 30 = .ok (.iadd, 1) := by decide +kernel
theorem d_Of_areaOf_31 : decode c_Of_areaOf 31 = .ok (.istore_n 2, 1) := by decide +kernel
theorem d_Of_areaOf_32 : decode c_Of_areaOf 32 = .ok (.iinc 3 1, 3) := by decide +kernel
theorem d_Of_areaOf_35 : decode c_Of_areaOf 35 = .ok (.goto (-31), 3) := by decide +kernel
theorem d_Of_areaOf_38 : decode c_Of_areaOf 38 = .ok (.iload_n 2, 1) := by decide +kernel
theorem d_Of_areaOf_39 : decode c_Of_areaOf 39 = .ok (.ireturn, 1) := by decide +kernel
theorem d_Of_isSmall_0 : decode c_Of_isSmall 0 = .ok (.aload_n 0, 1) := by decide +kernel
theorem d_Of_isSmall_1 : decode c_Of_isSmall 1 = .ok (.getfield 20, 3) := by decide +kernel
theorem d_Of_isSmall_4 : decode c_Of_isSmall 4 = .ok (.iload_n 1, 1) := by decide +kernel
theorem d_Of_isSmall_5 : decode c_Of_isSmall 5 = .ok (.invokevirtual 43, 3) := by decide +kernel
theorem d_Of_isSmall_8 : decode c_Of_isSmall 8 = .ok (.iload_n 2, 1) := by decide +kernel
theorem d_Of_isSmall_9 : decode c_Of_isSmall 9 = .ok (.if_icmp .ne 16, 3) := by decide +kernel
theorem d_Of_isSmall_12 : decode c_Of_isSmall 12 = .ok (.aload_n 0, 1) := by decide +kernel
theorem d_Of_isSmall_13 : decode c_Of_isSmall 13 = .ok (.iload_n 1, 1) := by decide +kernel
theorem d_Of_isSmall_14 : decode c_Of_isSmall 14 = .ok (.invokevirtual 47, 3) := by decide +kernel
theorem d_Of_isSmall_17 : decode c_Of_isSmall 17 = .ok (.iload_n 3, 1) := by decide +kernel
theorem d_Of_isSmall_18 : decode c_Of_isSmall 18 = .ok (.if_icmp .ge 7, 3) := by decide +kernel
theorem d_Of_isSmall_21 : decode c_Of_isSmall 21 = .ok (.iconst 1, 1) := by decide +kernel
theorem d_Of_isSmall_22 : decode c_Of_isSmall 22 = .ok (.goto 4, 3) := by decide +kernel
theorem d_Of_isSmall_25 : decode c_Of_isSmall 25 = .ok (.iconst 0, 1) := by decide +kernel
theorem d_Of_isSmall_26 : decode c_Of_isSmall 26 = .ok (.ireturn, 1) := by decide +kernel
theorem d_Of_smallOnes_0 : decode c_Of_smallOnes 0 = .ok (.iconst 0, 1) := by decide +kernel
theorem d_Of_smallOnes_1 : decode c_Of_smallOnes 1 = .ok (.istore_n 3, 1) := by decide +kernel
theorem d_Of_smallOnes_2 : decode c_Of_smallOnes 2 = .ok (.iconst 0, 1) := by decide +kernel
theorem d_Of_smallOnes_3 : decode c_Of_smallOnes 3 = .ok (.istore 4, 2) := by decide +kernel
theorem d_Of_smallOnes_5 : decode c_Of_smallOnes 5 = .ok (.iload 4, 2) := by decide +kernel
theorem d_Of_smallOnes_7 : decode c_Of_smallOnes 7 = .ok (.aload_n 0, 1) := by decide +kernel
theorem d_Of_smallOnes_8 : decode c_Of_smallOnes 8 = .ok (.getfield 29, 3) := by decide +kernel
theorem d_Of_smallOnes_11 : decode c_Of_smallOnes 11 = .ok (.if_icmp .ge 23, 3) := by decide +kernel
theorem d_Of_smallOnes_14 : decode c_Of_smallOnes 14 = .ok (.aload_n 0, 1) := by decide +kernel
theorem d_Of_smallOnes_15 : decode c_Of_smallOnes 15 = .ok (.iload 4, 2) := by decide +kernel
theorem d_Of_smallOnes_17 : decode c_Of_smallOnes 17 = .ok (.iload_n 1, 1) := by decide +kernel
theorem d_Of_smallOnes_18 : decode c_Of_smallOnes 18 = .ok (.iload_n 2, 1) := by decide +kernel
theorem d_Of_smallOnes_19 : decode c_Of_smallOnes 19 = .ok (.invokevirtual 50, 3) := by decide +kernel
theorem d_Of_smallOnes_22 : decode c_Of_smallOnes 22 = .ok (.ifCond .eq 6, 3) := by decide +kernel
theorem d_Of_smallOnes_25 : decode c_Of_smallOnes 25 = .ok (.iinc 3 1, 3) := by decide +kernel
theorem d_Of_smallOnes_28 : decode c_Of_smallOnes 28 = .ok (.iinc 4 1, 3) := by decide +kernel
theorem d_Of_smallOnes_31 : decode c_Of_smallOnes 31 = .ok (.goto (-26), 3) := by decide +kernel
theorem d_Of_smallOnes_34 : decode c_Of_smallOnes 34 = .ok (.iload_n 3, 1) := by decide +kernel
theorem d_Of_smallOnes_35 : decode c_Of_smallOnes 35 = .ok (.ireturn, 1) := by decide +kernel
theorem d_Of_holds_0 : decode c_Of_holds 0 = .ok (.aload_n 0, 1) := by decide +kernel
theorem d_Of_holds_1 : decode c_Of_holds 1 = .ok (.getfield 23, 3) := by decide +kernel
theorem d_Of_holds_4 : decode c_Of_holds 4 = .ok (.iload_n 1, 1) := by decide +kernel
theorem d_Of_holds_5 : decode c_Of_holds 5 = .ok (.invokevirtual 43, 3) := by decide +kernel
theorem d_Of_holds_8 : decode c_Of_holds 8 = .ok (.iload_n 2, 1) := by decide +kernel
theorem d_Of_holds_9 : decode c_Of_holds 9 = .ok (.if_icmp .lt 19, 3) := by decide +kernel
theorem d_Of_holds_12 : decode c_Of_holds 12 = .ok (.aload_n 0, 1) := by decide +kernel
theorem d_Of_holds_13 : decode c_Of_holds 13 = .ok (.getfield 26, 3) := by decide +kernel
theorem d_Of_holds_16 : decode c_Of_holds 16 = .ok (.iload_n 1, 1) := by decide +kernel
theorem d_Of_holds_17 : decode c_Of_holds 17 = .ok (.invokevirtual 43, 3) := by decide +kernel
theorem d_Of_holds_20 : decode c_Of_holds 20 = .ok (.iload_n 3, 1) := by decide +kernel
theorem d_Of_holds_21 : decode c_Of_holds 21 = .ok (.if_icmp .lt 7, 3) := by decide +kernel
theorem d_Of_holds_24 : decode c_Of_holds 24 = .ok (.iconst 1, 1) := by decide +kernel
theorem d_Of_holds_25 : decode c_Of_holds 25 = .ok (.goto 4, 3) := by decide +kernel
theorem d_Of_holds_28 : decode c_Of_holds 28 = .ok (.iconst 0, 1) := by decide +kernel
theorem d_Of_holds_29 : decode c_Of_holds 29 = .ok (.ireturn, 1) := by decide +kernel
theorem d_Of_placeFor_0 : decode c_Of_placeFor 0 = .ok (.bipush (-5), 2) := by decide +kernel
theorem d_Of_placeFor_2 : decode c_Of_placeFor 2 = .ok (.istore 4, 2) := by decide +kernel
theorem d_Of_placeFor_4 : decode c_Of_placeFor 4 = .ok (.iconst 0, 1) := by decide +kernel
theorem d_Of_placeFor_5 : decode c_Of_placeFor 5 = .ok (.istore 5, 2) := by decide +kernel
theorem d_Of_placeFor_7 : decode c_Of_placeFor 7 = .ok (.iload 5, 2) := by decide +kernel
theorem d_Of_placeFor_9 : decode c_Of_placeFor 9 = .ok (.aload_n 0, 1) := by decide +kernel
theorem d_Of_placeFor_10 : decode c_Of_placeFor 10 = .ok (.getfield 29, 3) := by decide +kernel
theorem d_Of_placeFor_13 : decode c_Of_placeFor 13 = .ok (.if_icmp .ge 57, 3) := by decide +kernel
theorem d_Of_placeFor_16 : decode c_Of_placeFor 16 = .ok (.aload_n 0, 1) := by decide +kernel
theorem d_Of_placeFor_17 : decode c_Of_placeFor 17 = .ok (.getfield 20, 3) := by decide +kernel
theorem d_Of_placeFor_20 : decode c_Of_placeFor 20 = .ok (.iload 5, 2) := by decide +kernel
theorem d_Of_placeFor_22 : decode c_Of_placeFor 22 = .ok (.invokevirtual 43, 3) := by decide +kernel
theorem d_Of_placeFor_25 : decode c_Of_placeFor 25 = .ok (.iload_n 1, 1) := by decide +kernel
theorem d_Of_placeFor_26 : decode c_Of_placeFor 26 = .ok (.if_icmp .ne 38, 3) := by decide +kernel
theorem d_Of_placeFor_29 : decode c_Of_placeFor 29 = .ok (.aload_n 0, 1) := by decide +kernel
theorem d_Of_placeFor_30 : decode c_Of_placeFor 30 = .ok (.iload 5, 2) := by decide +kernel
theorem d_Of_placeFor_32 : decode c_Of_placeFor 32 = .ok (.iload_n 2, 1) := by decide +kernel
theorem d_Of_placeFor_33 : decode c_Of_placeFor 33 = .ok (.iload_n 3, 1) := by decide +kernel
theorem d_Of_placeFor_34 : decode c_Of_placeFor 34 = .ok (.invokevirtual 54, 3) := by decide +kernel
theorem d_Of_placeFor_37 : decode c_Of_placeFor 37 = .ok (.ifCond .eq 27, 3) := by decide +kernel
theorem d_Of_placeFor_40 : decode c_Of_placeFor 40 = .ok (.iload 4, 2) := by decide +kernel
theorem d_Of_placeFor_42 : decode c_Of_placeFor 42 = .ok (.ifCond .lt 18, 3) := by decide +kernel
theorem d_Of_placeFor_45 : decode c_Of_placeFor 45 = .ok (.aload_n 0, 1) := by decide +kernel
theorem d_Of_placeFor_46 : decode c_Of_placeFor 46 = .ok (.iload 5, 2) := by decide +kernel
theorem d_Of_placeFor_48 : decode c_Of_placeFor 48 = .ok (.invokevirtual 47, 3) := by decide +kernel
theorem d_Of_placeFor_51 : decode c_Of_placeFor 51 = .ok (.aload_n 0, 1) := by decide +kernel
theorem d_Of_placeFor_52 : decode c_Of_placeFor 52 = .ok (.iload 4, 2) := by decide +kernel
theorem d_Of_placeFor_54 : decode c_Of_placeFor 54 = .ok (.invokevirtual 47, 3) := by decide +kernel
theorem d_Of_placeFor_57 : decode c_Of_placeFor 57 = .ok (.if_icmp .ge 7, 3) := by decide +kernel
theorem d_Of_placeFor_60 : decode c_Of_placeFor 60 = .ok (.iload 5, 2) := by decide +kernel
theorem d_Of_placeFor_62 : decode c_Of_placeFor 62 = .ok (.istore 4, 2) := by decide +kernel
theorem d_Of_placeFor_64 : decode c_Of_placeFor 64 = .ok (.iinc 5 1, 3) := by decide +kernel
theorem d_Of_placeFor_67 : decode c_Of_placeFor 67 = .ok (.goto (-60), 3) := by decide +kernel
theorem d_Of_placeFor_70 : decode c_Of_placeFor 70 = .ok (.iload 4, 2) := by decide +kernel
theorem d_Of_placeFor_72 : decode c_Of_placeFor 72 = .ok (.ireturn, 1) := by decide +kernel
theorem d_Of_placeByArea_0 : decode c_Of_placeByArea 0 = .ok (.iconst 0, 1) := by decide +kernel
theorem d_Of_placeByArea_1 : decode c_Of_placeByArea 1 = .ok (.istore_n 2, 1) := by decide +kernel
theorem d_Of_placeByArea_2 : decode c_Of_placeByArea 2 = .ok (.iload_n 2, 1) := by decide +kernel
theorem d_Of_placeByArea_3 : decode c_Of_placeByArea 3 = .ok (.aload_n 0, 1) := by decide +kernel
theorem d_Of_placeByArea_4 : decode c_Of_placeByArea 4 = .ok (.getfield 29, 3) := by decide +kernel
theorem d_Of_placeByArea_7 : decode c_Of_placeByArea 7 = .ok (.if_icmp .ge 20, 3) := by decide +kernel
theorem d_Of_placeByArea_10 : decode c_Of_placeByArea 10 = .ok (.aload_n 0, 1) := by decide +kernel
theorem d_Of_placeByArea_11 : decode c_Of_placeByArea 11 = .ok (.iload_n 2, 1) := by decide +kernel
theorem d_Of_placeByArea_12 : decode c_Of_placeByArea 12 = .ok (.invokevirtual 57, 3) := by decide +kernel
theorem d_Of_placeByArea_15 : decode c_Of_placeByArea 15 = .ok (.iload_n 1, 1) := by decide +kernel
theorem d_Of_placeByArea_16 : decode c_Of_placeByArea 16 = .ok (.if_icmp .ne 5, 3) := by decide +kernel
theorem d_Of_placeByArea_19 : decode c_Of_placeByArea 19 = .ok (.iload_n 2, 1) := by decide +kernel
theorem d_Of_placeByArea_20 : decode c_Of_placeByArea 20 = .ok (.ireturn, 1) := by decide +kernel
theorem d_Of_placeByArea_21 : decode c_Of_placeByArea 21 = .ok (.iinc 2 1, 3) := by decide +kernel
theorem d_Of_placeByArea_24 : decode c_Of_placeByArea 24 = .ok (.goto (-22), 3) := by decide +kernel
theorem d_Of_placeByArea_27 : decode c_Of_placeByArea 27 = .ok (.bipush (-5), 2) := by decide +kernel
theorem d_Of_placeByArea_29 : decode c_Of_placeByArea 29 = .ok (.ireturn, 1) := by decide +kernel
theorem d_Of_rankOf_0 : decode c_Of_rankOf 0 = .ok (.aload_n 0, 1) := by decide +kernel
theorem d_Of_rankOf_1 : decode c_Of_rankOf 1 = .ok (.iload_n 1, 1) := by decide +kernel
theorem d_Of_rankOf_2 : decode c_Of_rankOf 2 = .ok (.invokevirtual 47, 3) := by decide +kernel
theorem d_Of_rankOf_5 : decode c_Of_rankOf 5 = .ok (.istore_n 2, 1) := by decide +kernel
theorem d_Of_rankOf_6 : decode c_Of_rankOf 6 = .ok (.iconst 0, 1) := by decide +kernel
theorem d_Of_rankOf_7 : decode c_Of_rankOf 7 = .ok (.istore_n 3, 1) := by decide +kernel
theorem d_Of_rankOf_8 : decode c_Of_rankOf 8 = .ok (.iconst 0, 1) := by decide +kernel
theorem d_Of_rankOf_9 : decode c_Of_rankOf 9 = .ok (.istore 4, 2) := by decide +kernel
theorem d_Of_rankOf_11 : decode c_Of_rankOf 11 = .ok (.iload 4, 2) := by decide +kernel
theorem d_Of_rankOf_13 : decode c_Of_rankOf 13 = .ok (.aload_n 0, 1) := by decide +kernel
theorem d_Of_rankOf_14 : decode c_Of_rankOf 14 = .ok (.getfield 29, 3) := by decide +kernel
theorem d_Of_rankOf_17 : decode c_Of_rankOf 17 = .ok (.if_icmp .ge 38, 3) := by decide +kernel
theorem d_Of_rankOf_20 : decode c_Of_rankOf 20 = .ok (.aload_n 0, 1) := by decide +kernel
theorem d_Of_rankOf_21 : decode c_Of_rankOf 21 = .ok (.iload 4, 2) := by decide +kernel
theorem d_Of_rankOf_23 : decode c_Of_rankOf 23 = .ok (.invokevirtual 47, 3) := by decide +kernel
theorem d_Of_rankOf_26 : decode c_Of_rankOf 26 = .ok (.istore 5, 2) := by decide +kernel
theorem d_Of_rankOf_28 : decode c_Of_rankOf 28 = .ok (.iload 5, 2) := by decide +kernel
theorem d_Of_rankOf_30 : decode c_Of_rankOf 30 = .ok (.iload_n 2, 1) := by decide +kernel
theorem d_Of_rankOf_31 : decode c_Of_rankOf 31 = .ok (.if_icmp .lt 15, 3) := by decide +kernel
theorem d_Of_rankOf_34 : decode c_Of_rankOf 34 = .ok (.iload 5, 2) := by decide +kernel
theorem d_Of_rankOf_36 : decode c_Of_rankOf 36 = .ok (.iload_n 2, 1) := by decide +kernel
theorem d_Of_rankOf_37 : decode c_Of_rankOf 37 = .ok (.if_icmp .ne 12, 3) := by decide +kernel
theorem d_Of_rankOf_40 : decode c_Of_rankOf 40 = .ok (.iload 4, 2) := by decide +kernel
theorem d_Of_rankOf_42 : decode c_Of_rankOf 42 = .ok (.iload_n 1, 1) := by decide +kernel
theorem d_Of_rankOf_43 : decode c_Of_rankOf 43 = .ok (.if_icmp .ge 6, 3) := by decide +kernel
theorem d_Of_rankOf_46 : decode c_Of_rankOf 46 = .ok (.iinc 3 1, 3) := by decide +kernel
theorem d_Of_rankOf_49 : decode c_Of_rankOf 49 = .ok (.iinc 4 1, 3) := by decide +kernel
theorem d_Of_rankOf_52 : decode c_Of_rankOf 52 = .ok (.goto (-41), 3) := by decide +kernel
theorem d_Of_rankOf_55 : decode c_Of_rankOf 55 = .ok (.iload_n 3, 1) := by decide +kernel
theorem d_Of_rankOf_56 : decode c_Of_rankOf 56 = .ok (.ireturn, 1) := by decide +kernel
theorem d_Of_copyFrom_0 : decode c_Of_copyFrom 0 = .ok (.aload_n 0, 1) := by decide +kernel
theorem d_Of_copyFrom_1 : decode c_Of_copyFrom 1 = .ok (.aload_n 1, 1) := by decide +kernel
theorem d_Of_copyFrom_2 : decode c_Of_copyFrom 2 = .ok (.getfield 29, 3) := by decide +kernel
theorem d_Of_copyFrom_5 : decode c_Of_copyFrom 5 = .ok (.putfield 29, 3) := by decide +kernel
theorem d_Of_copyFrom_8 : decode c_Of_copyFrom 8 = .ok (.aload_n 0, 1) := by decide +kernel
theorem d_Of_copyFrom_9 : decode c_Of_copyFrom 9 = .ok (.aload_n 1, 1) := by decide +kernel
theorem d_Of_copyFrom_10 : decode c_Of_copyFrom 10 = .ok (.getfield 33, 3) := by decide +kernel
theorem d_Of_copyFrom_13 : decode c_Of_copyFrom 13 = .ok (.putfield 33, 3) := by decide +kernel
theorem d_Of_copyFrom_16 : decode c_Of_copyFrom 16 = .ok (.aload_n 0, 1) := by decide +kernel
theorem d_Of_copyFrom_17 : decode c_Of_copyFrom 17 = .ok (.getfield 14, 3) := by decide +kernel
theorem d_Of_copyFrom_20 : decode c_Of_copyFrom 20 = .ok (.aload_n 1, 1) := by decide +kernel
theorem d_Of_copyFrom_21 : decode c_Of_copyFrom 21 = .ok (.getfield 14, 3) := by decide +kernel
theorem d_Of_copyFrom_24 : decode c_Of_copyFrom 24 = .ok (.invokevirtual 60, 3) := by decide +kernel
theorem d_Of_copyFrom_27 : decode c_Of_copyFrom 27 = .ok (.aload_n 0, 1) := by decide +kernel
theorem d_Of_copyFrom_28 : decode c_Of_copyFrom 28 = .ok (.getfield 20, 3) := by decide +kernel
theorem d_Of_copyFrom_31 : decode c_Of_copyFrom 31 = .ok (.aload_n 1, 1) := by decide +kernel
theorem d_Of_copyFrom_32 : decode c_Of_copyFrom 32 = .ok (.getfield 20, 3) := by decide +kernel
theorem d_Of_copyFrom_35 : decode c_Of_copyFrom 35 = .ok (.invokevirtual 60, 3) := by decide +kernel
theorem d_Of_copyFrom_38 : decode c_Of_copyFrom 38 = .ok (.aload_n 0, 1) := by decide +kernel
theorem d_Of_copyFrom_39 : decode c_Of_copyFrom 39 = .ok (.getfield 23, 3) := by decide +kernel
theorem d_Of_copyFrom_42 : decode c_Of_copyFrom 42 = .ok (.aload_n 1, 1) := by decide +kernel
theorem d_Of_copyFrom_43 : decode c_Of_copyFrom 43 = .ok (.getfield 23, 3) := by decide +kernel
theorem d_Of_copyFrom_46 : decode c_Of_copyFrom 46 = .ok (.invokevirtual 60, 3) := by decide +kernel
theorem d_Of_copyFrom_49 : decode c_Of_copyFrom 49 = .ok (.aload_n 0, 1) := by decide +kernel
theorem d_Of_copyFrom_50 : decode c_Of_copyFrom 50 = .ok (.getfield 26, 3) := by decide +kernel
theorem d_Of_copyFrom_53 : decode c_Of_copyFrom 53 = .ok (.aload_n 1, 1) := by decide +kernel
theorem d_Of_copyFrom_54 : decode c_Of_copyFrom 54 = .ok (.getfield 26, 3) := by decide +kernel
theorem d_Of_copyFrom_57 : decode c_Of_copyFrom 57 = .ok (.invokevirtual 60, 3) := by decide +kernel
theorem d_Of_copyFrom_60 : decode c_Of_copyFrom 60 = .ok (.return_, 1) := by decide +kernel
theorem d_Ro_init_0 : decode c_Ro_init 0 = .ok (.aload_n 0, 1) := by decide +kernel
theorem d_Ro_init_1 : decode c_Ro_init 1 = .ok (.invokespecial 3, 3) := by decide +kernel
theorem d_Ro_init_4 : decode c_Ro_init 4 = .ok (.aload_n 0, 1) := by decide +kernel
theorem d_Ro_init_5 : decode c_Ro_init 5 = .ok (.new 9, 3) := by decide +kernel
theorem d_Ro_init_8 : decode c_Ro_init 8 = .ok (.dup, 1) := by decide +kernel
theorem d_Ro_init_9 : decode c_Ro_init 9 = .ok (.bipush 12, 2) := by decide +kernel
theorem d_Ro_init_11 : decode c_Ro_init 11 = .ok (.invokespecial 11, 3) := by decide +kernel
theorem d_Ro_init_14 : decode c_Ro_init 14 = .ok (.putfield 14, 3) := by decide +kernel
theorem d_Ro_init_17 : decode c_Ro_init 17 = .ok (.aload_n 0, 1) := by decide +kernel
theorem d_Ro_init_18 : decode c_Ro_init 18 = .ok (.new 9, 3) := by decide +kernel
theorem d_Ro_init_21 : decode c_Ro_init 21 = .ok (.dup, 1) := by decide +kernel
theorem d_Ro_init_22 : decode c_Ro_init 22 = .ok (.bipush 12, 2) := by decide +kernel
theorem d_Ro_init_24 : decode c_Ro_init 24 = .ok (.invokespecial 11, 3) := by decide +kernel
theorem d_Ro_init_27 : decode c_Ro_init 27 = .ok (.putfield 20, 3) := by decide +kernel
theorem d_Ro_init_30 : decode c_Ro_init 30 = .ok (.aload_n 0, 1) := by decide +kernel
theorem d_Ro_init_31 : decode c_Ro_init 31 = .ok (.new 9, 3) := by decide +kernel
theorem d_Ro_init_34 : decode c_Ro_init 34 = .ok (.dup, 1) := by decide +kernel
theorem d_Ro_init_35 : decode c_Ro_init 35 = .ok (.bipush 12, 2) := by decide +kernel
theorem d_Ro_init_37 : decode c_Ro_init 37 = .ok (.invokespecial 11, 3) := by decide +kernel
theorem d_Ro_init_40 : decode c_Ro_init 40 = .ok (.putfield 23, 3) := by decide +kernel
theorem d_Ro_init_43 : decode c_Ro_init 43 = .ok (.aload_n 0, 1) := by decide +kernel
theorem d_Ro_init_44 : decode c_Ro_init 44 = .ok (.new 9, 3) := by decide +kernel
theorem d_Ro_init_47 : decode c_Ro_init 47 = .ok (.dup, 1) := by decide +kernel
theorem d_Ro_init_48 : decode c_Ro_init 48 = .ok (.bipush 12, 2) := by decide +kernel
theorem d_Ro_init_50 : decode c_Ro_init 50 = .ok (.invokespecial 11, 3) := by decide +kernel
theorem d_Ro_init_53 : decode c_Ro_init 53 = .ok (.putfield 26, 3) := by decide +kernel
theorem d_Ro_init_56 : decode c_Ro_init 56 = .ok (.aload_n 0, 1) := by decide +kernel
theorem d_Ro_init_57 : decode c_Ro_init 57 = .ok (.new 9, 3) := by decide +kernel
theorem d_Ro_init_60 : decode c_Ro_init 60 = .ok (.dup, 1) := by decide +kernel
theorem d_Ro_init_61 : decode c_Ro_init 61 = .ok (.bipush 12, 2) := by decide +kernel
theorem d_Ro_init_63 : decode c_Ro_init 63 = .ok (.invokespecial 11, 3) := by decide +kernel
theorem d_Ro_init_66 : decode c_Ro_init 66 = .ok (.putfield 29, 3) := by decide +kernel
theorem d_Ro_init_69 : decode c_Ro_init 69 = .ok (.aload_n 0, 1) := by decide +kernel
theorem d_Ro_init_70 : decode c_Ro_init 70 = .ok (.new 9, 3) := by decide +kernel
theorem d_Ro_init_73 : decode c_Ro_init 73 = .ok (.dup, 1) := by decide +kernel
theorem d_Ro_init_74 : decode c_Ro_init 74 = .ok (.bipush 12, 2) := by decide +kernel
theorem d_Ro_init_76 : decode c_Ro_init 76 = .ok (.invokespecial 11, 3) := by decide +kernel
theorem d_Ro_init_79 : decode c_Ro_init 79 = .ok (.putfield 32, 3) := by decide +kernel
theorem d_Ro_init_82 : decode c_Ro_init 82 = .ok (.aload_n 0, 1) := by decide +kernel
theorem d_Ro_init_83 : decode c_Ro_init 83 = .ok (.new 9, 3) := by decide +kernel
theorem d_Ro_init_86 : decode c_Ro_init 86 = .ok (.dup, 1) := by decide +kernel
theorem d_Ro_init_87 : decode c_Ro_init 87 = .ok (.bipush 12, 2) := by decide +kernel
theorem d_Ro_init_89 : decode c_Ro_init 89 = .ok (.invokespecial 11, 3) := by decide +kernel
theorem d_Ro_init_92 : decode c_Ro_init 92 = .ok (.putfield 35, 3) := by decide +kernel
theorem d_Ro_init_95 : decode c_Ro_init 95 = .ok (.aload_n 0, 1) := by decide +kernel
theorem d_Ro_init_96 : decode c_Ro_init 96 = .ok (.new 9, 3) := by decide +kernel
theorem d_Ro_init_99 : decode c_Ro_init 99 = .ok (.dup, 1) := by decide +kernel
theorem d_Ro_init_100 : decode c_Ro_init 100 = .ok (.bipush 12, 2) := by decide +kernel
theorem d_Ro_init_102 : decode c_Ro_init 102 = .ok (.invokespecial 11, 3) := by decide +kernel
theorem d_Ro_init_105 : decode c_Ro_init 105 = .ok (.putfield 38, 3) := by decide +kernel
theorem d_Ro_init_108 : decode c_Ro_init 108 = .ok (.return_, 1) := by decide +kernel
theorem d_Ro_has_0 : decode c_Ro_has 0 = .ok (.iload_n 1, 1) := by decide +kernel
theorem d_Ro_has_1 : decode c_Ro_has 1 = .ok (.ifCond .lt 15, 3) := by decide +kernel
theorem d_Ro_has_4 : decode c_Ro_has 4 = .ok (.iload_n 1, 1) := by decide +kernel
theorem d_Ro_has_5 : decode c_Ro_has 5 = .ok (.aload_n 0, 1) := by decide +kernel
theorem d_Ro_has_6 : decode c_Ro_has 6 = .ok (.getfield 41, 3) := by decide +kernel
theorem d_Ro_has_9 : decode c_Ro_has 9 = .ok (.if_icmp .ge 7, 3) := by decide +kernel
theorem d_Ro_has_12 : decode c_Ro_has 12 = .ok (.iconst 1, 1) := by decide +kernel
theorem d_Ro_has_13 : decode c_Ro_has 13 = .ok (.goto 4, 3) := by decide +kernel
theorem d_Ro_has_16 : decode c_Ro_has 16 = .ok (.iconst 0, 1) := by decide +kernel
theorem d_Ro_has_17 : decode c_Ro_has 17 = .ok (.ireturn, 1) := by decide +kernel
theorem d_Ro_append_0 : decode c_Ro_append 0 = .ok (.aload_n 0, 1) := by decide +kernel
theorem d_Ro_append_1 : decode c_Ro_append 1 = .ok (.getfield 41, 3) := by decide +kernel
theorem d_Ro_append_4 : decode c_Ro_append 4 = .ok (.istore 5, 2) := by decide +kernel
theorem d_Ro_append_6 : decode c_Ro_append 6 = .ok (.aload_n 0, 1) := by decide +kernel
theorem d_Ro_append_7 : decode c_Ro_append 7 = .ok (.getfield 14, 3) := by decide +kernel
theorem d_Ro_append_10 : decode c_Ro_append 10 = .ok (.iload 5, 2) := by decide +kernel
theorem d_Ro_append_12 : decode c_Ro_append 12 = .ok (.iload_n 1, 1) := by decide +kernel
theorem d_Ro_append_13 : decode c_Ro_append 13 = .ok (.invokevirtual 45, 3) := by decide +kernel
theorem d_Ro_append_16 : decode c_Ro_append 16 = .ok (.aload_n 0, 1) := by decide +kernel
theorem d_Ro_append_17 : decode c_Ro_append 17 = .ok (.getfield 20, 3) := by decide +kernel
theorem d_Ro_append_20 : decode c_Ro_append 20 = .ok (.iload 5, 2) := by decide +kernel
theorem d_Ro_append_22 : decode c_Ro_append 22 = .ok (.iload_n 2, 1) := by decide +kernel
theorem d_Ro_append_23 : decode c_Ro_append 23 = .ok (.invokevirtual 45, 3) := by decide +kernel
theorem d_Ro_append_26 : decode c_Ro_append 26 = .ok (.aload_n 0, 1) := by decide +kernel
theorem d_Ro_append_27 : decode c_Ro_append 27 = .ok (.getfield 23, 3) := by decide +kernel
theorem d_Ro_append_30 : decode c_Ro_append 30 = .ok (.iload 5, 2) := by decide +kernel
theorem d_Ro_append_32 : decode c_Ro_append 32 = .ok (.iload_n 3, 1) := by decide +kernel
theorem d_Ro_append_33 : decode c_Ro_append 33 = .ok (.invokevirtual 45, 3) := by decide +kernel
theorem d_Ro_append_36 : decode c_Ro_append 36 = .ok (.aload_n 0, 1) := by decide +kernel
theorem d_Ro_append_37 : decode c_Ro_append 37 = .ok (.getfield 26, 3) := by decide +kernel
theorem d_Ro_append_40 : decode c_Ro_append 40 = .ok (.iload 5, 2) := by decide +kernel
theorem d_Ro_append_42 : decode c_Ro_append 42 = .ok (.iload 4, 2) := by decide +kernel
theorem d_Ro_append_44 : decode c_Ro_append 44 = .ok (.invokevirtual 45, 3) := by decide +kernel
theorem d_Ro_append_47 : decode c_Ro_append 47 = .ok (.aload_n 0, 1) := by decide +kernel
theorem d_Ro_append_48 : decode c_Ro_append 48 = .ok (.getfield 29, 3) := by decide +kernel
theorem d_Ro_append_51 : decode c_Ro_append 51 = .ok (.iload 5, 2) := by decide +kernel
theorem d_Ro_append_53 : decode c_Ro_append 53 = .ok (.iload_n 2, 1) := by decide +kernel
theorem d_Ro_append_54 : decode c_Ro_append 54 = .ok (.iload_n 3, 1) := by decide +kernel
theorem d_Ro_append_55 : decode c_Ro_append 55 = .ok (.imul, 1) := by decide +kernel
theorem d_Ro_append_56 : decode c_Ro_append 56 = .ok (.invokevirtual 45, 3) := by decide +kernel
theorem d_Ro_append_59 : decode c_Ro_append 59 = .ok (.aload_n 0, 1) := by decide +kernel
theorem d_Ro_append_60 : decode c_Ro_append 60 = .ok (.dup, 1) := by decide +kernel
theorem d_Ro_append_61 : decode c_Ro_append 61 = .ok (.getfield 41, 3) := by decide +kernel
theorem d_Ro_append_64 : decode c_Ro_append 64 = .ok (.iconst 1, 1) := by decide +kernel
theorem d_Ro_append_65 : decode c_Ro_append 65 = .ok (.iadd, 1) := by decide +kernel
theorem d_Ro_append_66 : decode c_Ro_append 66 = .ok (.putfield 41, 3) := by decide +kernel
theorem d_Ro_append_69 : decode c_Ro_append 69 = .ok (.iload 5, 2) := by decide +kernel
theorem d_Ro_append_71 : decode c_Ro_append 71 = .ok (.ireturn, 1) := by decide +kernel
theorem d_Ro_copyFrom_0 : decode c_Ro_copyFrom 0 = .ok (.aload_n 0, 1) := by decide +kernel
theorem d_Ro_copyFrom_1 : decode c_Ro_copyFrom 1 = .ok (.aload_n 1, 1) := by decide +kernel
theorem d_Ro_copyFrom_2 : decode c_Ro_copyFrom 2 = .ok (.getfield 41, 3) := by decide +kernel
theorem d_Ro_copyFrom_5 : decode c_Ro_copyFrom 5 = .ok (.putfield 41, 3) := by decide +kernel
theorem d_Ro_copyFrom_8 : decode c_Ro_copyFrom 8 = .ok (.aload_n 0, 1) := by decide +kernel
theorem d_Ro_copyFrom_9 : decode c_Ro_copyFrom 9 = .ok (.getfield 14, 3) := by decide +kernel
theorem d_Ro_copyFrom_12 : decode c_Ro_copyFrom 12 = .ok (.aload_n 1, 1) := by decide +kernel
theorem d_Ro_copyFrom_13 : decode c_Ro_copyFrom 13 = .ok (.getfield 14, 3) := by decide +kernel
theorem d_Ro_copyFrom_16 : decode c_Ro_copyFrom 16 = .ok (.invokevirtual 49, 3) := by decide +kernel
theorem d_Ro_copyFrom_19 : decode c_Ro_copyFrom 19 = .ok (.aload_n 0, 1) := by decide +kernel
theorem d_Ro_copyFrom_20 : decode c_Ro_copyFrom 20 = .ok (.getfield 20, 3) := by decide +kernel
theorem d_Ro_copyFrom_23 : decode c_Ro_copyFrom 23 = .ok (.aload_n 1, 1) := by decide +kernel
theorem d_Ro_copyFrom_24 : decode c_Ro_copyFrom 24 = .ok (.getfield 20, 3) := by decide +kernel
theorem d_Ro_copyFrom_27 : decode c_Ro_copyFrom 27 = .ok (.invokevirtual 49, 3) := by decide +kernel
theorem d_Ro_copyFrom_30 : decode c_Ro_copyFrom 30 = .ok (.aload_n 0, 1) := by decide +kernel
theorem d_Ro_copyFrom_31 : decode c_Ro_copyFrom 31 = .ok (.getfield 23, 3) := by decide +kernel
theorem d_Ro_copyFrom_34 : decode c_Ro_copyFrom 34 = .ok (.aload_n 1, 1) := by decide +kernel
theorem d_Ro_copyFrom_35 : decode c_Ro_copyFrom 35 = .ok (.getfield 23, 3) := by decide +kernel
theorem d_Ro_copyFrom_38 : decode c_Ro_copyFrom 38 = .ok (.invokevirtual 49, 3) := by decide +kernel
theorem d_Ro_copyFrom_41 : decode c_Ro_copyFrom 41 = .ok (.aload_n 0, 1) := by decide +kernel
theorem d_Ro_copyFrom_42 : decode c_Ro_copyFrom 42 = .ok (.getfield 26, 3) := by decide +kernel
theorem d_Ro_copyFrom_45 : decode c_Ro_copyFrom 45 = .ok (.aload_n 1, 1) := by decide +kernel
theorem d_Ro_copyFrom_46 : decode c_Ro_copyFrom 46 = .ok (.getfield 26, 3) := by decide +kernel
theorem d_Ro_copyFrom_49 : decode c_Ro_copyFrom 49 = .ok (.invokevirtual 49, 3) := by decide +kernel
theorem d_Ro_copyFrom_52 : decode c_Ro_copyFrom 52 = .ok (.aload_n 0, 1) := by decide +kernel
theorem d_Ro_copyFrom_53 : decode c_Ro_copyFrom 53 = .ok (.getfield 29, 3) := by decide +kernel
theorem d_Ro_copyFrom_56 : decode c_Ro_copyFrom 56 = .ok (.aload_n 1, 1) := by decide +kernel
theorem d_Ro_copyFrom_57 : decode c_Ro_copyFrom 57 = .ok (.getfield 29, 3) := by decide +kernel
theorem d_Ro_copyFrom_60 : decode c_Ro_copyFrom 60 = .ok (.invokevirtual 49, 3) := by decide +kernel
theorem d_Ro_copyFrom_63 : decode c_Ro_copyFrom 63 = .ok (.aload_n 0, 1) := by decide +kernel
theorem d_Ro_copyFrom_64 : decode c_Ro_copyFrom 64 = .ok (.getfield 32, 3) := by decide +kernel
theorem d_Ro_copyFrom_67 : decode c_Ro_copyFrom 67 = .ok (.aload_n 1, 1) := by decide +kernel
theorem d_Ro_copyFrom_68 : decode c_Ro_copyFrom 68 = .ok (.getfield 32, 3) := by decide +kernel
theorem d_Ro_copyFrom_71 : decode c_Ro_copyFrom 71 = .ok (.invokevirtual 49, 3) := by decide +kernel
theorem d_Ro_copyFrom_74 : decode c_Ro_copyFrom 74 = .ok (.aload_n 0, 1) := by decide +kernel
theorem d_Ro_copyFrom_75 : decode c_Ro_copyFrom 75 = .ok (.getfield 35, 3) := by decide +kernel
theorem d_Ro_copyFrom_78 : decode c_Ro_copyFrom 78 = .ok (.aload_n 1, 1) := by decide +kernel
theorem d_Ro_copyFrom_79 : decode c_Ro_copyFrom 79 = .ok (.getfield 35, 3) := by decide +kernel
theorem d_Ro_copyFrom_82 : decode c_Ro_copyFrom 82 = .ok (.invokevirtual 49, 3) := by decide +kernel
theorem d_Ro_copyFrom_85 : decode c_Ro_copyFrom 85 = .ok (.aload_n 0, 1) := by decide +kernel
theorem d_Ro_copyFrom_86 : decode c_Ro_copyFrom 86 = .ok (.getfield 38, 3) := by decide +kernel
theorem d_Ro_copyFrom_89 : decode c_Ro_copyFrom 89 = .ok (.aload_n 1, 1) := by decide +kernel
theorem d_Ro_copyFrom_90 : decode c_Ro_copyFrom 90 = .ok (.getfield 38, 3) := by decide +kernel
theorem d_Ro_copyFrom_93 : decode c_Ro_copyFrom 93 = .ok (.invokevirtual 49, 3) := by decide +kernel
theorem d_Ro_copyFrom_96 : decode c_Ro_copyFrom 96 = .ok (.return_, 1) := by decide +kernel
theorem d_Te_init_0 : decode c_Te_init 0 = .ok (.aload_n 0, 1) := by decide +kernel
theorem d_Te_init_1 : decode c_Te_init 1 = .ok (.invokespecial 3, 3) := by decide +kernel
theorem d_Te_init_4 : decode c_Te_init 4 = .ok (.aload_n 0, 1) := by decide +kernel
theorem d_Te_init_5 : decode c_Te_init 5 = .ok (.new 9, 3) := by decide +kernel
theorem d_Te_init_8 : decode c_Te_init 8 = .ok (.dup, 1) := by decide +kernel
theorem d_Te_init_9 : decode c_Te_init 9 = .ok (.bipush 60, 2) := by decide +kernel
theorem d_Te_init_11 : decode c_Te_init 11 = .ok (.invokespecial 11, 3) := by decide +kernel
theorem d_Te_init_14 : decode c_Te_init 14 = .ok (.putfield 14, 3) := by decide +kernel
theorem d_Te_init_17 : decode c_Te_init 17 = .ok (.aload_n 0, 1) := by decide +kernel
theorem d_Te_init_18 : decode c_Te_init 18 = .ok (.new 20, 3) := by decide +kernel
theorem d_Te_init_21 : decode c_Te_init 21 = .ok (.dup, 1) := by decide +kernel
theorem d_Te_init_22 : decode c_Te_init 22 = .ok (.invokespecial 22, 3) := by decide +kernel
theorem d_Te_init_25 : decode c_Te_init 25 = .ok (.putfield 23, 3) := by decide +kernel
theorem d_Te_init_28 : decode c_Te_init 28 = .ok (.return_, 1) := by decide +kernel
theorem d_Te_append_0 : decode c_Te_append 0 = .ok (.aload_n 0, 1) := by decide +kernel
theorem d_Te_append_1 : decode c_Te_append 1 = .ok (.getfield 27, 3) := by decide +kernel
theorem d_Te_append_4 : decode c_Te_append 4 = .ok (.bipush 60, 2) := by decide +kernel
theorem d_Te_append_6 : decode c_Te_append 6 = .ok (.if_icmp .lt 5, 3) := by decide +kernel
theorem d_Te_append_9 : decode c_Te_append 9 = .ok (.iconst 0, 1) := by decide +kernel
theorem d_Te_append_10 : decode c_Te_append 10 = .ok (.ireturn, 1) := by decide +kernel
theorem d_Te_append_11 : decode c_Te_append 11 = .ok (.aload_n 0, 1) := by decide +kernel
theorem d_Te_append_12 : decode c_Te_append 12 = .ok (.getfield 14, 3) := by decide +kernel
theorem d_Te_append_15 : decode c_Te_append 15 = .ok (.aload_n 0, 1) := by decide +kernel
theorem d_Te_append_16 : decode c_Te_append 16 = .ok (.getfield 27, 3) := by decide +kernel
theorem d_Te_append_19 : decode c_Te_append 19 = .ok (.iload_n 1, 1) := by decide +kernel
theorem d_Te_append_20 : decode c_Te_append 20 = .ok (.invokevirtual 31, 3) := by decide +kernel
theorem d_Te_append_23 : decode c_Te_append 23 = .ok (.aload_n 0, 1) := by decide +kernel
theorem d_Te_append_24 : decode c_Te_append 24 = .ok (.dup, 1) := by decide +kernel
theorem d_Te_append_25 : decode c_Te_append 25 = .ok (.getfield 27, 3) := by decide +kernel
theorem d_Te_append_28 : decode c_Te_append 28 = .ok (.iconst 1, 1) := by decide +kernel
theorem d_Te_append_29 : decode c_Te_append 29 = .ok (.iadd, 1) := by decide +kernel
theorem d_Te_append_30 : decode c_Te_append 30 = .ok (.putfield 27, 3) := by decide +kernel
theorem d_Te_append_33 : decode c_Te_append 33 = .ok (.iconst 1, 1) := by decide +kernel
theorem d_Te_append_34 : decode c_Te_append 34 = .ok (.ireturn, 1) := by decide +kernel
theorem d_Te_read_0 : decode c_Te_read 0 = .ok (.aload_n 0, 1) := by decide +kernel
theorem d_Te_read_1 : decode c_Te_read 1 = .ok (.getfield 23, 3) := by decide +kernel
theorem d_Te_read_4 : decode c_Te_read 4 = .ok (.iconst 0, 1) := by decide +kernel
theorem d_Te_read_5 : decode c_Te_read 5 = .ok (.putfield 35, 3) := by decide +kernel
theorem d_Te_read_8 : decode c_Te_read 8 = .ok (.aload_n 0, 1) := by decide +kernel
theorem d_Te_read_9 : decode c_Te_read 9 = .ok (.invokevirtual 38, 3) := by decide +kernel
theorem d_Te_read_12 : decode c_Te_read 12 = .ok (.iconst 0, 1) := by decide +kernel
theorem d_Te_read_13 : decode c_Te_read 13 = .ok (.istore_n 1, 1) := by decide +kernel
theorem d_Te_read_14 : decode c_Te_read 14 = .ok (.iload_n 1, 1) := by decide +kernel
theorem d_Te_read_15 : decode c_Te_read 15 = .ok (.aload_n 0, 1) := by decide +kernel
theorem d_Te_read_16 : decode c_Te_read 16 = .ok (.getfield 27, 3) := by decide +kernel
theorem d_Te_read_19 : decode c_Te_read 19 = .ok (.if_icmp .ge 26, 3) := by decide +kernel
theorem d_Te_read_22 : decode c_Te_read 22 = .ok (.aload_n 0, 1) := by decide +kernel
theorem d_Te_read_23 : decode c_Te_read 23 = .ok (.aload_n 0, 1) := by decide +kernel
theorem d_Te_read_24 : decode c_Te_read 24 = .ok (.getfield 14, 3) := by decide +kernel
theorem d_Te_read_27 : decode c_Te_read 27 = .ok (.iload_n 1, 1) := by decide +kernel
theorem d_Te_read_28 : decode c_Te_read 28 = .ok (.invokevirtual 41, 3) := by decide +kernel
theorem d_Te_read_31 : decode c_Te_read 31 = .ok (.invokevirtual 45, 3) := by decide +kernel
theorem d_Te_read_34 : decode c_Te_read 34 = .ok (.ifCond .ne 5, 3) := by decide +kernel
theorem d_Te_read_37 : decode c_Te_read 37 = .ok (.iload_n 1, 1) := by decide +kernel
theorem d_Te_read_38 : decode c_Te_read 38 = .ok (.ireturn, 1) := by decide +kernel
theorem d_Te_read_39 : decode c_Te_read 39 = .ok (.iinc 1 1, 3) := by decide +kernel
theorem d_Te_read_42 : decode c_Te_read 42 = .ok (.goto (-28), 3) := by decide +kernel
theorem d_Te_read_45 : decode c_Te_read 45 = .ok (.aload_n 0, 1) := by decide +kernel
theorem d_Te_read_46 : decode c_Te_read 46 = .ok (.getfield 49, 3) := by decide +kernel
theorem d_Te_read_49 : decode c_Te_read 49 = .ok (.iconst 3, 1) := by decide +kernel
theorem d_Te_read_50 : decode c_Te_read 50 = .ok (.if_icmp .ne 8, 3) := by decide +kernel
theorem d_Te_read_53 : decode c_Te_read 53 = .ok (.bipush (-5), 2) := by decide +kernel
theorem d_Te_read_55 : decode c_Te_read 55 = .ok (.goto 7, 3) := by decide +kernel
theorem d_Te_read_58 : decode c_Te_read 58 = .ok (.aload_n 0, 1) := by decide +kernel
theorem d_Te_read_59 : decode c_Te_read 59 = .ok (.getfield 27, 3) := by decide +kernel
theorem d_Te_read_62 : decode c_Te_read 62 = .ok (.ireturn, 1) := by decide +kernel
theorem d_Te_beginRoom_0 : decode c_Te_beginRoom 0 = .ok (.aload_n 0, 1) := by decide +kernel
theorem d_Te_beginRoom_1 : decode c_Te_beginRoom 1 = .ok (.getfield 23, 3) := by decide +kernel
theorem d_Te_beginRoom_4 : decode c_Te_beginRoom 4 = .ok (.invokevirtual 52, 3) := by decide +kernel
theorem d_Te_beginRoom_7 : decode c_Te_beginRoom 7 = .ok (.aload_n 0, 1) := by decide +kernel
theorem d_Te_beginRoom_8 : decode c_Te_beginRoom 8 = .ok (.iconst 0, 1) := by decide +kernel
theorem d_Te_beginRoom_9 : decode c_Te_beginRoom 9 = .ok (.putfield 49, 3) := by decide +kernel
theorem d_Te_beginRoom_12 : decode c_Te_beginRoom 12 = .ok (.aload_n 0, 1) := by decide +kernel
theorem d_Te_beginRoom_13 : decode c_Te_beginRoom 13 = .ok (.iconst 0, 1) := by decide +kernel
theorem d_Te_beginRoom_14 : decode c_Te_beginRoom 14 = .ok (.putfield 55, 3) := by decide +kernel
theorem d_Te_beginRoom_17 : decode c_Te_beginRoom 17 = .ok (.return_, 1) := by decide +kernel
theorem d_Te_takes_0 : decode c_Te_takes 0 = .ok (.aload_n 0, 1) := by decide +kernel
theorem d_Te_takes_1 : decode c_Te_takes 1 = .ok (.getfield 49, 3) := by decide +kernel
theorem d_Te_takes_4 : decode c_Te_takes 4 = .ok (.tableswitch 78 0 2 #[28, 50, 72], 28) := by decide +kernel
theorem d_Te_takes_32 : decode c_Te_takes 32 = .ok (.aload_n 0, 1) := by decide +kernel
theorem d_Te_takes_33 : decode c_Te_takes 33 = .ok (.iload_n 1, 1) := by decide +kernel
theorem d_Te_takes_34 : decode c_Te_takes 34 = .ok (.invokevirtual 58, 3) := by decide +kernel
theorem d_Te_takes_37 : decode c_Te_takes 37 = .ok (.ifCond .ne 11, 3) := by decide +kernel
theorem d_Te_takes_40 : decode c_Te_takes 40 = .ok (.aload_n 0, 1) := by decide +kernel
theorem d_Te_takes_41 : decode c_Te_takes 41 = .ok (.iload_n 1, 1) := by decide +kernel
theorem d_Te_takes_42 : decode c_Te_takes 42 = .ok (.invokevirtual 61, 3) := by decide +kernel
theorem d_Te_takes_45 : decode c_Te_takes 45 = .ok (.ifCond .eq 7, 3) := by decide +kernel
theorem d_Te_takes_48 : decode c_Te_takes 48 = .ok (.iconst 1, 1) := by decide +kernel
theorem d_Te_takes_49 : decode c_Te_takes 49 = .ok (.goto 4, 3) := by decide +kernel
theorem d_Te_takes_52 : decode c_Te_takes 52 = .ok (.iconst 0, 1) := by decide +kernel
theorem d_Te_takes_53 : decode c_Te_takes 53 = .ok (.ireturn, 1) := by decide +kernel
theorem d_Te_takes_54 : decode c_Te_takes 54 = .ok (.aload_n 0, 1) := by decide +kernel
theorem d_Te_takes_55 : decode c_Te_takes 55 = .ok (.iload_n 1, 1) := by decide +kernel
theorem d_Te_takes_56 : decode c_Te_takes 56 = .ok (.invokevirtual 58, 3) := by decide +kernel
theorem d_Te_takes_59 : decode c_Te_takes 59 = .ok (.ifCond .ne 11, 3) := by decide +kernel
theorem d_Te_takes_62 : decode c_Te_takes 62 = .ok (.aload_n 0, 1) := by decide +kernel
theorem d_Te_takes_63 : decode c_Te_takes 63 = .ok (.iload_n 1, 1) := by decide +kernel
theorem d_Te_takes_64 : decode c_Te_takes 64 = .ok (.invokevirtual 64, 3) := by decide +kernel
theorem d_Te_takes_67 : decode c_Te_takes 67 = .ok (.ifCond .eq 7, 3) := by decide +kernel
theorem d_Te_takes_70 : decode c_Te_takes 70 = .ok (.iconst 1, 1) := by decide +kernel
theorem d_Te_takes_71 : decode c_Te_takes 71 = .ok (.goto 4, 3) := by decide +kernel
theorem d_Te_takes_74 : decode c_Te_takes 74 = .ok (.iconst 0, 1) := by decide +kernel
theorem d_Te_takes_75 : decode c_Te_takes 75 = .ok (.ireturn, 1) := by decide +kernel
theorem d_Te_takes_76 : decode c_Te_takes 76 = .ok (.aload_n 0, 1) := by decide +kernel
theorem d_Te_takes_77 : decode c_Te_takes 77 = .ok (.iload_n 1, 1) := by decide +kernel
theorem d_Te_takes_78 : decode c_Te_takes 78 = .ok (.invokevirtual 67, 3) := by decide +kernel
theorem d_Te_takes_81 : decode c_Te_takes 81 = .ok (.ireturn, 1) := by decide +kernel
theorem d_Te_takes_82 : decode c_Te_takes 82 = .ok (.aload_n 0, 1) := by decide +kernel
theorem d_Te_takes_83 : decode c_Te_takes 83 = .ok (.iload_n 1, 1) := by decide +kernel
theorem d_Te_takes_84 : decode c_Te_takes 84 = .ok (.invokevirtual 70, 3) := by decide +kernel
theorem d_Te_takes_87 : decode c_Te_takes 87 = .ok (.ireturn, 1) := by decide +kernel
theorem d_Te_takesDigit_0 : decode c_Te_takesDigit 0 = .ok (.iload_n 1, 1) := by decide +kernel
theorem d_Te_takesDigit_1 : decode c_Te_takesDigit 1 = .ok (.bipush 48, 2) := by decide +kernel
theorem d_Te_takesDigit_3 : decode c_Te_takesDigit 3 = .ok (.if_icmp .lt 9, 3) := by decide +kernel
theorem d_Te_takesDigit_6 : decode c_Te_takesDigit 6 = .ok (.iload_n 1, 1) := by decide +kernel
theorem d_Te_takesDigit_7 : decode c_Te_takesDigit 7 = .ok (.bipush 57, 2) := by decide +kernel
theorem d_Te_takesDigit_9 : decode c_Te_takesDigit 9 = .ok (.if_icmp .le 5, 3) := by decide +kernel
theorem d_Te_takesDigit_12 : decode c_Te_takesDigit 12 = .ok (.iconst 0, 1) := by decide +kernel
theorem d_Te_takesDigit_13 : decode c_Te_takesDigit 13 = .ok (.ireturn, 1) := by decide +kernel
theorem d_Te_takesDigit_14 : decode c_Te_takesDigit 14 = .ok (.aload_n 0, 1) := by decide +kernel
theorem d_Te_takesDigit_15 : decode c_Te_takesDigit 15 = .ok (.getfield 55, 3) := by decide +kernel
theorem d_Te_takesDigit_18 : decode c_Te_takesDigit 18 = .ok (.bipush 10, 2) := by decide +kernel
theorem d_Te_takesDigit_20 : decode c_Te_takesDigit 20 = .ok (.imul, 1) := by decide +kernel
theorem d_Te_takesDigit_21 : decode c_Te_takesDigit 21 = .ok (.iload_n 1, 1) := by decide +kernel
theorem d_Te_takesDigit_22 : decode c_Te_takesDigit 22 = .ok (.iadd, 1) := by decide +kernel
theorem d_Te_takesDigit_23 : decode c_Te_takesDigit 23 = .ok (.bipush 48, 2) := by decide +kernel
theorem d_Te_takesDigit_25 : decode c_Te_takesDigit 25 = .ok (.isub, 1) := by decide +kernel
theorem d_Te_takesDigit_26 : decode c_Te_takesDigit 26 = .ok (.istore_n 2, 1) := by decide +kernel
theorem d_Te_takesDigit_27 : decode c_Te_takesDigit 27 = .ok (.iload_n 2, 1) := by decide +kernel
theorem d_Te_takesDigit_28 : decode c_Te_takesDigit 28 = .ok (.iconst 1, 1) := by decide +kernel
theorem d_Te_takesDigit_29 : decode c_Te_takesDigit 29 = .ok (.if_icmp .lt 9, 3) := by decide +kernel
theorem d_Te_takesDigit_32 : decode c_Te_takesDigit 32 = .ok (.iload_n 2, 1) := by decide +kernel
theorem d_Te_takesDigit_33 : decode c_Te_takesDigit 33 = .ok (.bipush 60, 2) := by decide +kernel
theorem d_Te_takesDigit_35 : decode c_Te_takesDigit 35 = .ok (.if_icmp .le 5, 3) := by decide +kernel
theorem d_Te_takesDigit_38 : decode c_Te_takesDigit 38 = .ok (.iconst 0, 1) := by decide +kernel
theorem d_Te_takesDigit_39 : decode c_Te_takesDigit 39 = .ok (.ireturn, 1) := by decide +kernel
theorem d_Te_takesDigit_40 : decode c_Te_takesDigit 40 = .ok (.aload_n 0, 1) := by decide +kernel
theorem d_Te_takesDigit_41 : decode c_Te_takesDigit 41 = .ok (.iload_n 2, 1) := by decide +kernel
theorem d_Te_takesDigit_42 : decode c_Te_takesDigit 42 = .ok (.putfield 55, 3) := by decide +kernel
theorem d_Te_takesDigit_45 : decode c_Te_takesDigit 45 = .ok (.iconst 1, 1) := by decide +kernel
theorem d_Te_takesDigit_46 : decode c_Te_takesDigit 46 = .ok (.ireturn, 1) := by decide +kernel
theorem d_Te_takesBetweenSizes_0 : decode c_Te_takesBetweenSizes 0 = .ok (.iload_n 1, 1) := by decide +kernel
theorem d_Te_takesBetweenSizes_1 : decode c_Te_takesBetweenSizes 1 = .ok (.bipush 120, 2) := by decide +kernel
theorem d_Te_takesBetweenSizes_3 : decode c_Te_takesBetweenSizes 3 = .ok (.if_icmp .ne 10, 3) := by decide +kernel
theorem d_Te_takesBetweenSizes_6 : decode c_Te_takesBetweenSizes 6 = .ok (.aload_n 0, 1) := by decide +kernel
theorem d_Te_takesBetweenSizes_7 : decode c_Te_takesBetweenSizes 7 = .ok (.getfield 55, 3) := by decide +kernel
theorem d_Te_takesBetweenSizes_10 : decode c_Te_takesBetweenSizes 10 = .ok (.ifCond .ne 5, 3) := by decide +kernel
theorem d_Te_takesBetweenSizes_13 : decode c_Te_takesBetweenSizes 13 = .ok (.iconst 0, 1) := by decide +kernel
theorem d_Te_takesBetweenSizes_14 : decode c_Te_takesBetweenSizes 14 = .ok (.ireturn, 1) := by decide +kernel
theorem d_Te_takesBetweenSizes_15 : decode c_Te_takesBetweenSizes 15 = .ok (.aload_n 0, 1) := by decide +kernel
theorem d_Te_takesBetweenSizes_16 : decode c_Te_takesBetweenSizes 16 = .ok (.aload_n 0, 1) := by decide +kernel
theorem d_Te_takesBetweenSizes_17 : decode c_Te_takesBetweenSizes 17 = .ok (.getfield 55, 3) := by decide +kernel
theorem d_Te_takesBetweenSizes_20 : decode c_Te_takesBetweenSizes 20 = .ok (.putfield 73, 3) := by decide +kernel
theorem d_Te_takesBetweenSizes_23 : decode c_Te_takesBetweenSizes 23 = .ok (.aload_n 0, 1) := by decide +kernel
theorem d_Te_takesBetweenSizes_24 : decode c_Te_takesBetweenSizes 24 = .ok (.iconst 0, 1) := by decide +kernel
theorem d_Te_takesBetweenSizes_25 : decode c_Te_takesBetweenSizes 25 = .ok (.putfield 55, 3) := by decide +kernel
theorem d_Te_takesBetweenSizes_28 : decode c_Te_takesBetweenSizes 28 = .ok (.aload_n 0, 1) := by decide +kernel
theorem d_Te_takesBetweenSizes_29 : decode c_Te_takesBetweenSizes 29 = .ok (.iconst 1, 1) := by decide +kernel
theorem d_Te_takesBetweenSizes_30 : decode c_Te_takesBetweenSizes 30 = .ok (.putfield 49, 3) := by decide +kernel
theorem d_Te_takesBetweenSizes_33 : decode c_Te_takesBetweenSizes 33 = .ok (.iconst 1, 1) := by decide +kernel
theorem d_Te_takesBetweenSizes_34 : decode c_Te_takesBetweenSizes 34 = .ok (.ireturn, 1) := by decide +kernel
theorem d_Te_takesBehindSizes_0 : decode c_Te_takesBehindSizes 0 = .ok (.aload_n 0, 1) := by decide +kernel
theorem d_Te_takesBehindSizes_1 : decode c_Te_takesBehindSizes 1 = .ok (.getfield 55, 3) := by decide +kernel
theorem d_Te_takesBehindSizes_4 : decode c_Te_takesBehindSizes 4 = .ok (.ifCond .eq 15, 3) := by decide +kernel
theorem d_Te_takesBehindSizes_7 : decode c_Te_takesBehindSizes 7 = .ok (.iload_n 1, 1) := by decide +kernel
theorem d_Te_takesBehindSizes_8 : decode c_Te_takesBehindSizes 8 = .ok (.bipush 43, 2) := by decide +kernel
theorem d_Te_takesBehindSizes_10 : decode c_Te_takesBehindSizes 10 = .ok (.if_icmp .eq 11, 3) := by decide +kernel
theorem d_Te_takesBehindSizes_13 : decode c_Te_takesBehindSizes 13 = .ok (.iload_n 1, 1) := by decide +kernel
theorem d_Te_takesBehindSizes_14 : decode c_Te_takesBehindSizes 14 = .ok (.bipush 64, 2) := by decide +kernel
theorem d_Te_takesBehindSizes_16 : decode c_Te_takesBehindSizes 16 = .ok (.if_icmp .eq 5, 3) := by decide +kernel
theorem d_Te_takesBehindSizes_19 : decode c_Te_takesBehindSizes 19 = .ok (.iconst 0, 1) := by decide +kernel
theorem d_Te_takesBehindSizes_20 : decode c_Te_takesBehindSizes 20 = .ok (.ireturn, 1) := by decide +kernel
theorem d_Te_takesBehindSizes_21 : decode c_Te_takesBehindSizes 21 = .ok (.iload_n 1, 1) := by decide +kernel
theorem d_Te_takesBehindSizes_22 : decode c_Te_takesBehindSizes 22 = .ok (.bipush 43, 2) := by decide +kernel
theorem d_Te_takesBehindSizes_24 : decode c_Te_takesBehindSizes 24 = .ok (.if_icmp .ne 26, 3) := by decide +kernel
theorem d_Te_takesBehindSizes_27 : decode c_Te_takesBehindSizes 27 = .ok (.aload_n 0, 1) := by decide +kernel
theorem d_Te_takesBehindSizes_28 : decode c_Te_takesBehindSizes 28 = .ok (.getfield 23, 3) := by decide +kernel
theorem d_Te_takesBehindSizes_31 : decode c_Te_takesBehindSizes 31 = .ok (.getfield 76, 3) := by decide +kernel
theorem d_Te_takesBehindSizes_34 : decode c_Te_takesBehindSizes 34 = .ok (.aload_n 0, 1) := by decide +kernel
theorem d_Te_takesBehindSizes_35 : decode c_Te_takesBehindSizes 35 = .ok (.getfield 23, 3) := by decide +kernel
theorem d_Te_takesBehindSizes_38 : decode c_Te_takesBehindSizes 38 = .ok (.getfield 35, 3) := by decide +kernel
theorem d_Te_takesBehindSizes_41 : decode c_Te_takesBehindSizes 41 = .ok (.invokevirtual 41, 3) := by decide +kernel
theorem d_Te_takesBehindSizes_44 : decode c_Te_takesBehindSizes 44 = .ok (.iconst 2, 1) := by decide +kernel
theorem d_Te_takesBehindSizes_45 : decode c_Te_takesBehindSizes 45 = .ok (.if_icmp .lt 5, 3) := by decide +kernel
theorem d_Te_takesBehindSizes_48 : decode c_Te_takesBehindSizes 48 = .ok (.iconst 0, 1) := by decide +kernel
theorem d_Te_takesBehindSizes_49 : decode c_Te_takesBehindSizes 49 = .ok (.ireturn, 1) := by decide +kernel
theorem d_Te_takesBehindSizes_50 : decode c_Te_takesBehindSizes 50 = .ok (.aload_n 0, 1) := by decide +kernel
theorem d_Te_takesBehindSizes_51 : decode c_Te_takesBehindSizes 51 = .ok (.getfield 23, 3) := by decide +kernel
theorem d_Te_takesBehindSizes_54 : decode c_Te_takesBehindSizes 54 = .ok (.aload_n 0, 1) := by decide +kernel
theorem d_Te_takesBehindSizes_55 : decode c_Te_takesBehindSizes 55 = .ok (.getfield 73, 3) := by decide +kernel
theorem d_Te_takesBehindSizes_58 : decode c_Te_takesBehindSizes 58 = .ok (.aload_n 0, 1) := by decide +kernel
theorem d_Te_takesBehindSizes_59 : decode c_Te_takesBehindSizes 59 = .ok (.getfield 55, 3) := by decide +kernel
theorem d_Te_takesBehindSizes_62 : decode c_Te_takesBehindSizes 62 = .ok (.invokevirtual 79, 3) := by decide +kernel
theorem d_Te_takesBehindSizes_65 : decode c_Te_takesBehindSizes 65 = .ok (.aload_n 0, 1) := by decide +kernel
theorem d_Te_takesBehindSizes_66 : decode c_Te_takesBehindSizes 66 = .ok (.iconst 0, 1) := by decide +kernel
theorem d_Te_takesBehindSizes_67 : decode c_Te_takesBehindSizes 67 = .ok (.putfield 55, 3) := by decide +kernel
theorem d_Te_takesBehindSizes_70 : decode c_Te_takesBehindSizes 70 = .ok (.aload_n 0, 1) := by decide +kernel
theorem d_Te_takesBehindSizes_71 : decode c_Te_takesBehindSizes 71 = .ok (.iload_n 1, 1) := by decide +kernel
theorem d_Te_takesBehindSizes_72 : decode c_Te_takesBehindSizes 72 = .ok (.bipush 43, 2) := by decide +kernel
theorem d_Te_takesBehindSizes_74 : decode c_Te_takesBehindSizes 74 = .ok (.if_icmp .ne 7, 3) := by decide +kernel
theorem d_Te_takesBehindSizes_77 : decode c_Te_takesBehindSizes 77 = .ok (.iconst 0, 1) := by decide +kernel
theorem d_Te_takesBehindSizes_78 : decode c_Te_takesBehindSizes 78 = .ok (.goto 4, 3) := by decide +kernel
theorem d_Te_takesBehindSizes_81 : decode c_Te_takesBehindSizes 81 = .ok (.iconst 2, 1) := by decide +kernel
theorem d_Te_takesBehindSizes_82 : decode c_Te_takesBehindSizes 82 = .ok (.putfield 49, 3) := by decide +kernel
theorem d_Te_takesBehindSizes_85 : decode c_Te_takesBehindSizes 85 = .ok (.iconst 1, 1) := by decide +kernel
theorem d_Te_takesBehindSizes_86 : decode c_Te_takesBehindSizes 86 = .ok (.ireturn, 1) := by decide +kernel
theorem d_Te_takesLight_0 : decode c_Te_takesLight 0 = .ok (.iload_n 1, 1) := by decide +kernel
theorem d_Te_takesLight_1 : decode c_Te_takesLight 1 = .ok (.bipush 48, 2) := by decide +kernel
theorem d_Te_takesLight_3 : decode c_Te_takesLight 3 = .ok (.if_icmp .lt 9, 3) := by decide +kernel
theorem d_Te_takesLight_6 : decode c_Te_takesLight 6 = .ok (.iload_n 1, 1) := by decide +kernel
theorem d_Te_takesLight_7 : decode c_Te_takesLight 7 = .ok (.bipush 51, 2) := by decide +kernel
theorem d_Te_takesLight_9 : decode c_Te_takesLight 9 = .ok (.if_icmp .le 5, 3) := by decide +kernel
theorem d_Te_takesLight_12 : decode c_Te_takesLight 12 = .ok (.iconst 0, 1) := by decide +kernel
theorem d_Te_takesLight_13 : decode c_Te_takesLight 13 = .ok (.ireturn, 1) := by decide +kernel
theorem d_Te_takesLight_14 : decode c_Te_takesLight 14 = .ok (.aload_n 0, 1) := by decide +kernel
theorem d_Te_takesLight_15 : decode c_Te_takesLight 15 = .ok (.getfield 23, 3) := by decide +kernel
theorem d_Te_takesLight_18 : decode c_Te_takesLight 18 = .ok (.iload_n 1, 1) := by decide +kernel
theorem d_Te_takesLight_19 : decode c_Te_takesLight 19 = .ok (.bipush 48, 2) := by decide +kernel
theorem d_Te_takesLight_21 : decode c_Te_takesLight 21 = .ok (.isub, 1) := by decide +kernel
theorem d_Te_takesLight_22 : decode c_Te_takesLight 22 = .ok (.invokevirtual 82, 3) := by decide +kernel
theorem d_Te_takesLight_25 : decode c_Te_takesLight 25 = .ok (.aload_n 0, 1) := by decide +kernel
theorem d_Te_takesLight_26 : decode c_Te_takesLight 26 = .ok (.iconst 3, 1) := by decide +kernel
theorem d_Te_takesLight_27 : decode c_Te_takesLight 27 = .ok (.putfield 49, 3) := by decide +kernel
theorem d_Te_takesLight_30 : decode c_Te_takesLight 30 = .ok (.iconst 1, 1) := by decide +kernel
theorem d_Te_takesLight_31 : decode c_Te_takesLight 31 = .ok (.ireturn, 1) := by decide +kernel
theorem d_Te_takesBetweenRooms_0 : decode c_Te_takesBetweenRooms 0 = .ok (.iload_n 1, 1) := by decide +kernel
theorem d_Te_takesBetweenRooms_1 : decode c_Te_takesBetweenRooms 1 = .ok (.bipush 59, 2) := by decide +kernel
theorem d_Te_takesBetweenRooms_3 : decode c_Te_takesBetweenRooms 3 = .ok (.if_icmp .eq 5, 3) := by decide +kernel
theorem d_Te_takesBetweenRooms_6 : decode c_Te_takesBetweenRooms 6 = .ok (.iconst 0, 1) := by decide +kernel
theorem d_Te_takesBetweenRooms_7 : decode c_Te_takesBetweenRooms 7 = .ok (.ireturn, 1) := by decide +kernel
theorem d_Te_takesBetweenRooms_8 : decode c_Te_takesBetweenRooms 8 = .ok (.aload_n 0, 1) := by decide +kernel
theorem d_Te_takesBetweenRooms_9 : decode c_Te_takesBetweenRooms 9 = .ok (.invokevirtual 38, 3) := by decide +kernel
theorem d_Te_takesBetweenRooms_12 : decode c_Te_takesBetweenRooms 12 = .ok (.iconst 1, 1) := by decide +kernel
theorem d_Te_takesBetweenRooms_13 : decode c_Te_takesBetweenRooms 13 = .ok (.ireturn, 1) := by decide +kernel
theorem d_Rm_init_0 : decode c_Rm_init 0 = .ok (.aload_n 0, 1) := by decide +kernel
theorem d_Rm_init_1 : decode c_Rm_init 1 = .ok (.invokespecial 3, 3) := by decide +kernel
theorem d_Rm_init_4 : decode c_Rm_init 4 = .ok (.aload_n 0, 1) := by decide +kernel
theorem d_Rm_init_5 : decode c_Rm_init 5 = .ok (.new 9, 3) := by decide +kernel
theorem d_Rm_init_8 : decode c_Rm_init 8 = .ok (.dup, 1) := by decide +kernel
theorem d_Rm_init_9 : decode c_Rm_init 9 = .ok (.bipush 20, 2) := by decide +kernel
theorem d_Rm_init_11 : decode c_Rm_init 11 = .ok (.invokespecial 11, 3) := by decide +kernel
theorem d_Rm_init_14 : decode c_Rm_init 14 = .ok (.putfield 14, 3) := by decide +kernel
theorem d_Rm_init_17 : decode c_Rm_init 17 = .ok (.aload_n 0, 1) := by decide +kernel
theorem d_Rm_init_18 : decode c_Rm_init 18 = .ok (.new 9, 3) := by decide +kernel
theorem d_Rm_init_21 : decode c_Rm_init 21 = .ok (.dup, 1) := by decide +kernel
theorem d_Rm_init_22 : decode c_Rm_init 22 = .ok (.bipush 60, 2) := by decide +kernel
theorem d_Rm_init_24 : decode c_Rm_init 24 = .ok (.invokespecial 11, 3) := by decide +kernel
theorem d_Rm_init_27 : decode c_Rm_init 27 = .ok (.putfield 20, 3) := by decide +kernel
theorem d_Rm_init_30 : decode c_Rm_init 30 = .ok (.aload_n 0, 1) := by decide +kernel
theorem d_Rm_init_31 : decode c_Rm_init 31 = .ok (.new 9, 3) := by decide +kernel
theorem d_Rm_init_34 : decode c_Rm_init 34 = .ok (.dup, 1) := by decide +kernel
theorem d_Rm_init_35 : decode c_Rm_init 35 = .ok (.bipush 60, 2) := by decide +kernel
theorem d_Rm_init_37 : decode c_Rm_init 37 = .ok (.invokespecial 11, 3) := by decide +kernel
theorem d_Rm_init_40 : decode c_Rm_init 40 = .ok (.putfield 23, 3) := by decide +kernel
theorem d_Rm_init_43 : decode c_Rm_init 43 = .ok (.aload_n 0, 1) := by decide +kernel
theorem d_Rm_init_44 : decode c_Rm_init 44 = .ok (.new 9, 3) := by decide +kernel
theorem d_Rm_init_47 : decode c_Rm_init 47 = .ok (.dup, 1) := by decide +kernel
theorem d_Rm_init_48 : decode c_Rm_init 48 = .ok (.bipush 20, 2) := by decide +kernel
theorem d_Rm_init_50 : decode c_Rm_init 50 = .ok (.invokespecial 11, 3) := by decide +kernel
theorem d_Rm_init_53 : decode c_Rm_init 53 = .ok (.putfield 26, 3) := by decide +kernel
theorem d_Rm_init_56 : decode c_Rm_init 56 = .ok (.aload_n 0, 1) := by decide +kernel
theorem d_Rm_init_57 : decode c_Rm_init 57 = .ok (.new 9, 3) := by decide +kernel
theorem d_Rm_init_60 : decode c_Rm_init 60 = .ok (.dup, 1) := by decide +kernel
theorem d_Rm_init_61 : decode c_Rm_init 61 = .ok (.bipush 20, 2) := by decide +kernel
theorem d_Rm_init_63 : decode c_Rm_init 63 = .ok (.invokespecial 11, 3) := by decide +kernel
theorem d_Rm_init_66 : decode c_Rm_init 66 = .ok (.putfield 29, 3) := by decide +kernel
theorem d_Rm_init_69 : decode c_Rm_init 69 = .ok (.aload_n 0, 1) := by decide +kernel
theorem d_Rm_init_70 : decode c_Rm_init 70 = .ok (.new 9, 3) := by decide +kernel
theorem d_Rm_init_73 : decode c_Rm_init 73 = .ok (.dup, 1) := by decide +kernel
theorem d_Rm_init_74 : decode c_Rm_init 74 = .ok (.bipush 20, 2) := by decide +kernel
theorem d_Rm_init_76 : decode c_Rm_init 76 = .ok (.invokespecial 11, 3) := by decide +kernel
theorem d_Rm_init_79 : decode c_Rm_init 79 = .ok (.putfield 32, 3) := by decide +kernel
theorem d_Rm_init_82 : decode c_Rm_init 82 = .ok (.aload_n 0, 1) := by decide +kernel
theorem d_Rm_init_83 : decode c_Rm_init 83 = .ok (.new 9, 3) := by decide +kernel
theorem d_Rm_init_86 : decode c_Rm_init 86 = .ok (.dup, 1) := by decide +kernel
theorem d_Rm_init_87 : decode c_Rm_init 87 = .ok (.bipush 20, 2) := by decide +kernel
theorem d_Rm_init_89 : decode c_Rm_init 89 = .ok (.invokespecial 11, 3) := by decide +kernel
theorem d_Rm_init_92 : decode c_Rm_init 92 = .ok (.putfield 35, 3) := by decide +kernel
theorem d_Rm_init_95 : decode c_Rm_init 95 = .ok (.aload_n 0, 1) := by decide +kernel
theorem d_Rm_init_96 : decode c_Rm_init 96 = .ok (.new 9, 3) := by decide +kernel
theorem d_Rm_init_99 : decode c_Rm_init 99 = .ok (.dup, 1) := by decide +kernel
theorem d_Rm_init_100 : decode c_Rm_init 100 = .ok (.bipush 20, 2) := by decide +kernel
theorem d_Rm_init_102 : decode c_Rm_init 102 = .ok (.invokespecial 11, 3) := by decide +kernel
theorem d_Rm_init_105 : decode c_Rm_init 105 = .ok (.putfield 38, 3) := by decide +kernel
theorem d_Rm_init_108 : decode c_Rm_init 108 = .ok (.aload_n 0, 1) := by decide +kernel
theorem d_Rm_init_109 : decode c_Rm_init 109 = .ok (.new 9, 3) := by decide +kernel
theorem d_Rm_init_112 : decode c_Rm_init 112 = .ok (.dup, 1) := by decide +kernel
theorem d_Rm_init_113 : decode c_Rm_init 113 = .ok (.sipush 720, 3) := by decide +kernel
theorem d_Rm_init_116 : decode c_Rm_init 116 = .ok (.invokespecial 11, 3) := by decide +kernel
theorem d_Rm_init_119 : decode c_Rm_init 119 = .ok (.putfield 41, 3) := by decide +kernel
theorem d_Rm_init_122 : decode c_Rm_init 122 = .ok (.return_, 1) := by decide +kernel
theorem d_Rm_has_0 : decode c_Rm_has 0 = .ok (.iload_n 1, 1) := by decide +kernel
theorem d_Rm_has_1 : decode c_Rm_has 1 = .ok (.ifCond .lt 15, 3) := by decide +kernel
theorem d_Rm_has_4 : decode c_Rm_has 4 = .ok (.iload_n 1, 1) := by decide +kernel
theorem d_Rm_has_5 : decode c_Rm_has 5 = .ok (.aload_n 0, 1) := by decide +kernel
theorem d_Rm_has_6 : decode c_Rm_has 6 = .ok (.getfield 44, 3) := by decide +kernel
theorem d_Rm_has_9 : decode c_Rm_has 9 = .ok (.if_icmp .ge 7, 3) := by decide +kernel
theorem d_Rm_has_12 : decode c_Rm_has 12 = .ok (.iconst 1, 1) := by decide +kernel
theorem d_Rm_has_13 : decode c_Rm_has 13 = .ok (.goto 4, 3) := by decide +kernel
theorem d_Rm_has_16 : decode c_Rm_has 16 = .ok (.iconst 0, 1) := by decide +kernel
theorem d_Rm_has_17 : decode c_Rm_has 17 = .ok (.ireturn, 1) := by decide +kernel
theorem d_Rm_isCovered_0 : decode c_Rm_isCovered 0 = .ok (.aload_n 0, 1) := by decide +kernel
theorem d_Rm_isCovered_1 : decode c_Rm_isCovered 1 = .ok (.getfield 32, 3) := by decide +kernel
theorem d_Rm_isCovered_4 : decode c_Rm_isCovered 4 = .ok (.iload_n 1, 1) := by decide +kernel
theorem d_Rm_isCovered_5 : decode c_Rm_isCovered 5 = .ok (.invokevirtual 48, 3) := by decide +kernel
theorem d_Rm_isCovered_8 : decode c_Rm_isCovered 8 = .ok (.ifCond .le 7, 3) := by decide +kernel
theorem d_Rm_isCovered_11 : decode c_Rm_isCovered 11 = .ok (.iconst 1, 1) := by decide +kernel
theorem d_Rm_isCovered_12 : decode c_Rm_isCovered 12 = .ok (.goto 4, 3) := by decide +kernel
theorem d_Rm_isCovered_15 : decode c_Rm_isCovered 15 = .ok (.iconst 0, 1) := by decide +kernel
theorem d_Rm_isCovered_16 : decode c_Rm_isCovered 16 = .ok (.ireturn, 1) := by decide +kernel
theorem d_Rm_begin_0 : decode c_Rm_begin 0 = .ok (.aload_n 0, 1) := by decide +kernel
theorem d_Rm_begin_1 : decode c_Rm_begin 1 = .ok (.getfield 14, 3) := by decide +kernel
theorem d_Rm_begin_4 : decode c_Rm_begin 4 = .ok (.aload_n 0, 1) := by decide +kernel
theorem d_Rm_begin_5 : decode c_Rm_begin 5 = .ok (.getfield 44, 3) := by decide +kernel
theorem d_Rm_begin_8 : decode c_Rm_begin 8 = .ok (.iconst 0, 1) := by decide +kernel
theorem d_Rm_begin_9 : decode c_Rm_begin 9 = .ok (.invokevirtual 52, 3) := by decide +kernel
theorem d_Rm_begin_12 : decode c_Rm_begin 12 = .ok (.aload_n 0, 1) := by decide +kernel
theorem d_Rm_begin_13 : decode c_Rm_begin 13 = .ok (.getfield 32, 3) := by decide +kernel
theorem d_Rm_begin_16 : decode c_Rm_begin 16 = .ok (.aload_n 0, 1) := by decide +kernel
theorem d_Rm_begin_17 : decode c_Rm_begin 17 = .ok (.getfield 44, 3) := by decide +kernel
theorem d_Rm_begin_20 : decode c_Rm_begin 20 = .ok (.iconst 0, 1) := by decide +kernel
theorem d_Rm_begin_21 : decode c_Rm_begin 21 = .ok (.invokevirtual 52, 3) := by decide +kernel
theorem d_Rm_begin_24 : decode c_Rm_begin 24 = .ok (.return_, 1) := by decide +kernel
theorem d_Rm_addRectangle_0 : decode c_Rm_addRectangle 0 = .ok (.aload_n 0, 1) := by decide +kernel
theorem d_Rm_addRectangle_1 : decode c_Rm_addRectangle 1 = .ok (.aload_n 0, 1) := by decide +kernel
theorem d_Rm_addRectangle_2 : decode c_Rm_addRectangle 2 = .ok (.getfield 44, 3) := by decide +kernel
theorem d_Rm_addRectangle_5 : decode c_Rm_addRectangle 5 = .ok (.aload_n 0, 1) := by decide +kernel
theorem d_Rm_addRectangle_6 : decode c_Rm_addRectangle 6 = .ok (.getfield 14, 3) := by decide +kernel
theorem d_Rm_addRectangle_9 : decode c_Rm_addRectangle 9 = .ok (.aload_n 0, 1) := by decide +kernel
theorem d_Rm_addRectangle_10 : decode c_Rm_addRectangle 10 = .ok (.getfield 44, 3) := by decide +kernel
theorem d_Rm_addRectangle_13 : decode c_Rm_addRectangle 13 = .ok (.invokevirtual 48, 3) := by decide +kernel
theorem d_Rm_addRectangle_16 : decode c_Rm_addRectangle 16 = .ok (.invokevirtual 56, 3) := by decide +kernel
theorem d_Rm_addRectangle_19 : decode c_Rm_addRectangle 19 = .ok (.istore_n 3, 1) := by decide +kernel
theorem d_Rm_addRectangle_20 : decode c_Rm_addRectangle 20 = .ok (.aload_n 0, 1) := by decide +kernel
theorem d_Rm_addRectangle_21 : decode c_Rm_addRectangle 21 = .ok (.getfield 20, 3) := by decide +kernel
theorem d_Rm_addRectangle_24 : decode c_Rm_addRectangle 24 = .ok (.iload_n 3, 1) := by decide +kernel
theorem d_Rm_addRectangle_25 : decode c_Rm_addRectangle 25 = .ok (.iload_n 1, 1) := by decide +kernel
theorem d_Rm_addRectangle_26 : decode c_Rm_addRectangle 26 = .ok (.invokevirtual 52, 3) := by decide +kernel
theorem d_Rm_addRectangle_29 : decode c_Rm_addRectangle 29 = .ok (.aload_n 0, 1) := by decide +kernel
theorem d_Rm_addRectangle_30 : decode c_Rm_addRectangle 30 = .ok (.getfield 23, 3) := by decide +kernel
theorem d_Rm_addRectangle_33 : decode c_Rm_addRectangle 33 = .ok (.iload_n 3, 1) := by decide +kernel
theorem d_Rm_addRectangle_34 : decode c_Rm_addRectangle 34 = .ok (.iload_n 2, 1) := by decide +kernel
theorem d_Rm_addRectangle_35 : decode c_Rm_addRectangle 35 = .ok (.invokevirtual 52, 3) := by decide +kernel
theorem d_Rm_addRectangle_38 : decode c_Rm_addRectangle 38 = .ok (.aload_n 0, 1) := by decide +kernel
theorem d_Rm_addRectangle_39 : decode c_Rm_addRectangle 39 = .ok (.getfield 14, 3) := by decide +kernel
theorem d_Rm_addRectangle_42 : decode c_Rm_addRectangle 42 = .ok (.aload_n 0, 1) := by decide +kernel
theorem d_Rm_addRectangle_43 : decode c_Rm_addRectangle 43 = .ok (.getfield 44, 3) := by decide +kernel
theorem d_Rm_addRectangle_46 : decode c_Rm_addRectangle 46 = .ok (.iconst 1, 1) := by decide +kernel
theorem d_Rm_addRectangle_47 : decode c_Rm_addRectangle 47 = .ok (.invokevirtual 60, 3) := by decide +kernel
theorem d_Rm_addRectangle_50 : decode c_Rm_addRectangle 50 = .ok (.return_, 1) := by decide +kernel
theorem d_Rm_finish_0 : decode c_Rm_finish 0 = .ok (.aload_n 0, 1) := by decide +kernel
theorem d_Rm_finish_1 : decode c_Rm_finish 1 = .ok (.getfield 26, 3) := by decide +kernel
theorem d_Rm_finish_4 : decode c_Rm_finish 4 = .ok (.aload_n 0, 1) := by decide +kernel
theorem d_Rm_finish_5 : decode c_Rm_finish 5 = .ok (.getfield 44, 3) := by decide +kernel
theorem d_Rm_finish_8 : decode c_Rm_finish 8 = .ok (.iload_n 1, 1) := by decide +kernel
theorem d_Rm_finish_9 : decode c_Rm_finish 9 = .ok (.invokevirtual 52, 3) := by decide +kernel
theorem d_Rm_finish_12 : decode c_Rm_finish 12 = .ok (.aload_n 0, 1) := by decide +kernel
theorem d_Rm_finish_13 : decode c_Rm_finish 13 = .ok (.dup, 1) := by decide +kernel
theorem d_Rm_finish_14 : decode c_Rm_finish 14 = .ok (.getfield 44, 3) := by decide +kernel
theorem d_Rm_finish_17 : decode c_Rm_finish 17 = .ok (.iconst 1, 1) := by decide +kernel
theorem d_Rm_finish_18 : decode c_Rm_finish 18 = .ok (.iadd, 1) := by decide +kernel
theorem d_Rm_finish_19 : decode c_Rm_finish 19 = .ok (.putfield 44, 3) := by decide +kernel
theorem d_Rm_finish_22 : decode c_Rm_finish 22 = .ok (.return_, 1) := by decide +kernel
theorem d_Rm_appendAll_0 : decode c_Rm_appendAll 0 = .ok (.aload_n 1, 1) := by decide +kernel
theorem d_Rm_appendAll_1 : decode c_Rm_appendAll 1 = .ok (.getfield 44, 3) := by decide +kernel
theorem d_Rm_appendAll_4 : decode c_Rm_appendAll 4 = .ok (.istore_n 2, 1) := by decide +kernel
theorem d_Rm_appendAll_5 : decode c_Rm_appendAll 5 = .ok (.iconst 0, 1) := by decide +kernel
theorem d_Rm_appendAll_6 : decode c_Rm_appendAll 6 = .ok (.istore_n 3, 1) := by decide +kernel
theorem d_Rm_appendAll_7 : decode c_Rm_appendAll 7 = .ok (.iload_n 3, 1) := by decide +kernel
theorem d_Rm_appendAll_8 : decode c_Rm_appendAll 8 = .ok (.iload_n 2, 1) := by decide +kernel
theorem d_Rm_appendAll_9 : decode c_Rm_appendAll 9 = .ok (.if_icmp .ge 82, 3) := by decide +kernel
theorem d_Rm_appendAll_12 : decode c_Rm_appendAll 12 = .ok (.aload_n 0, 1) := by decide +kernel
theorem d_Rm_appendAll_13 : decode c_Rm_appendAll 13 = .ok (.invokevirtual 63, 3) := by decide +kernel
theorem d_Rm_appendAll_16 : decode c_Rm_appendAll 16 = .ok (.aload_n 1, 1) := by decide +kernel
theorem d_Rm_appendAll_17 : decode c_Rm_appendAll 17 = .ok (.getfield 14, 3) := by decide +kernel
theorem d_Rm_appendAll_20 : decode c_Rm_appendAll 20 = .ok (.iload_n 3, 1) := by decide +kernel
theorem d_Rm_appendAll_21 : decode c_Rm_appendAll 21 = .ok (.invokevirtual 48, 3) := by decide +kernel
theorem d_Rm_appendAll_24 : decode c_Rm_appendAll 24 = .ok (.istore 4, 2) := by decide +kernel
theorem d_Rm_appendAll_26 : decode c_Rm_appendAll 26 = .ok (.iconst 0, 1) := by decide +kernel
theorem d_Rm_appendAll_27 : decode c_Rm_appendAll 27 = .ok (.istore 5, 2) := by decide +kernel
theorem d_Rm_appendAll_29 : decode c_Rm_appendAll 29 = .ok (.iload 5, 2) := by decide +kernel
theorem d_Rm_appendAll_31 : decode c_Rm_appendAll 31 = .ok (.iload 4, 2) := by decide +kernel
theorem d_Rm_appendAll_33 : decode c_Rm_appendAll 33 = .ok (.if_icmp .ge 40, 3) := by decide +kernel
theorem d_Rm_appendAll_36 : decode c_Rm_appendAll 36 = .ok (.aload_n 1, 1) := by decide +kernel
theorem d_Rm_appendAll_37 : decode c_Rm_appendAll 37 = .ok (.iload_n 3, 1) := by decide +kernel
theorem d_Rm_appendAll_38 : decode c_Rm_appendAll 38 = .ok (.iload 5, 2) := by decide +kernel
theorem d_Rm_appendAll_40 : decode c_Rm_appendAll 40 = .ok (.invokevirtual 56, 3) := by decide +kernel
theorem d_Rm_appendAll_43 : decode c_Rm_appendAll 43 = .ok (.istore 6, 2) := by decide +kernel
theorem d_Rm_appendAll_45 : decode c_Rm_appendAll 45 = .ok (.aload_n 0, 1) := by decide +kernel
theorem d_Rm_appendAll_46 : decode c_Rm_appendAll 46 = .ok (.aload_n 1, 1) := by decide +kernel
theorem d_Rm_appendAll_47 : decode c_Rm_appendAll 47 = .ok (.getfield 20, 3) := by decide +kernel
theorem d_Rm_appendAll_50 : decode c_Rm_appendAll 50 = .ok (.iload 6, 2) := by decide +kernel
theorem d_Rm_appendAll_52 : decode c_Rm_appendAll 52 = .ok (.invokevirtual 48, 3) := by decide +kernel
theorem d_Rm_appendAll_55 : decode c_Rm_appendAll 55 = .ok (.aload_n 1, 1) := by decide +kernel
theorem d_Rm_appendAll_56 : decode c_Rm_appendAll 56 = .ok (.getfield 23, 3) := by decide +kernel
theorem d_Rm_appendAll_59 : decode c_Rm_appendAll 59 = .ok (.iload 6, 2) := by decide +kernel
theorem d_Rm_appendAll_61 : decode c_Rm_appendAll 61 = .ok (.invokevirtual 48, 3) := by decide +kernel
theorem d_Rm_appendAll_64 : decode c_Rm_appendAll 64 = .ok (.invokevirtual 66, 3) := by decide +kernel
theorem d_Rm_appendAll_67 : decode c_Rm_appendAll 67 = .ok (.iinc 5 1, 3) := by decide +kernel
theorem d_Rm_appendAll_70 : decode c_Rm_appendAll 70 = .ok (.goto (-41), 3) := by decide +kernel
theorem d_Rm_appendAll_73 : decode c_Rm_appendAll 73 = .ok (.aload_n 0, 1) := by decide +kernel
theorem d_Rm_appendAll_74 : decode c_Rm_appendAll 74 = .ok (.aload_n 1, 1) := by decide +kernel
theorem d_Rm_appendAll_75 : decode c_Rm_appendAll 75 = .ok (.getfield 26, 3) := by decide +kernel
theorem d_Rm_appendAll_78 : decode c_Rm_appendAll 78 = .ok (.iload_n 3, 1) := by decide +kernel
theorem d_Rm_appendAll_79 : decode c_Rm_appendAll 79 = .ok (.invokevirtual 48, 3) := by decide +kernel
theorem d_Rm_appendAll_82 : decode c_Rm_appendAll 82 = .ok (.invokevirtual 69, 3) := by decide +kernel
theorem d_Rm_appendAll_85 : decode c_Rm_appendAll 85 = .ok (.iinc 3 1, 3) := by decide +kernel
theorem d_Rm_appendAll_88 : decode c_Rm_appendAll 88 = .ok (.goto (-81), 3) := by decide +kernel
theorem d_Rm_appendAll_91 : decode c_Rm_appendAll 91 = .ok (.return_, 1) := by decide +kernel
theorem d_Rm_cell_0 : decode c_Rm_cell 0 = .ok (.iload_n 1, 1) := by decide +kernel
theorem d_Rm_cell_1 : decode c_Rm_cell 1 = .ok (.iconst 3, 1) := by decide +kernel
theorem d_Rm_cell_2 : decode c_Rm_cell 2 = .ok (.imul, 1) := by decide +kernel
theorem d_Rm_cell_3 : decode c_Rm_cell 3 = .ok (.iload_n 2, 1) := by decide +kernel
theorem d_Rm_cell_4 : decode c_Rm_cell 4 = .ok (.iadd, 1) := by decide +kernel
theorem d_Rm_cell_5 : decode c_Rm_cell 5 = .ok (.ireturn, 1) := by decide +kernel
theorem d_Rm_area_0 : decode c_Rm_area 0 = .ok (.iconst 0, 1) := by decide +kernel
theorem d_Rm_area_1 : decode c_Rm_area 1 = .ok (.istore_n 2, 1) := by decide +kernel
theorem d_Rm_area_2 : decode c_Rm_area 2 = .ok (.iconst 0, 1) := by decide +kernel
theorem d_Rm_area_3 : decode c_Rm_area 3 = .ok (.istore_n 3, 1) := by decide +kernel
theorem d_Rm_area_4 : decode c_Rm_area 4 = .ok (.iload_n 3, 1) := by decide +kernel
theorem d_Rm_area_5 : decode c_Rm_area 5 = .ok (.aload_n 0, 1) := by decide +kernel
theorem d_Rm_area_6 : decode c_Rm_area 6 = .ok (.getfield 14, 3) := by decide +kernel
theorem d_Rm_area_9 : decode c_Rm_area 9 = .ok (.iload_n 1, 1) := by decide +kernel
theorem d_Rm_area_10 : decode c_Rm_area 10 = .ok (.invokevirtual 48, 3) := by decide +kernel
theorem d_Rm_area_13 : decode c_Rm_area 13 = .ok (.if_icmp .ge 39, 3) := by decide +kernel
theorem d_Rm_area_16 : decode c_Rm_area 16 = .ok (.aload_n 0, 1) := by decide +kernel
theorem d_Rm_area_17 : decode c_Rm_area 17 = .ok (.iload_n 1, 1) := by decide +kernel
theorem d_Rm_area_18 : decode c_Rm_area 18 = .ok (.iload_n 3, 1) := by decide +kernel
theorem d_Rm_area_19 : decode c_Rm_area 19 = .ok (.invokevirtual 56, 3) := by decide +kernel
theorem d_Rm_area_22 : decode c_Rm_area 22 = .ok (.istore 4, 2) := by decide +kernel
theorem d_Rm_area_24 : decode c_Rm_area 24 = .ok (.iload_n 2, 1) := by decide +kernel
theorem d_Rm_area_25 : decode c_Rm_area 25 = .ok (.aload_n 0, 1) := by decide +kernel
theorem d_Rm_area_26 : decode c_Rm_area 26 = .ok (.getfield 20, 3) := by decide +kernel
theorem d_Rm_area_29 : decode c_Rm_area 29 = .ok (.iload 4, 2) := by decide +kernel
theorem d_Rm_area_31 : decode c_Rm_area 31 = .ok (.invokevirtual 48, 3) := by decide +kernel
theorem d_Rm_area_34 : decode c_Rm_area 34 = .ok (.aload_n 0, 1) := by decide +kernel
theorem d_Rm_area_35 : decode c_Rm_area 35 = .ok (.getfield 23, 3) := by decide +kernel
theorem d_Rm_area_38 : decode c_Rm_area 38 = .ok (.iload 4, 2) := by decide +kernel
theorem d_Rm_area_40 : decode c_Rm_area 40 = .ok (.invokevirtual 48, 3) := by decide +kernel
theorem d_Rm_area_43 : decode c_Rm_area 43 = .ok (.imul, 1) := by decide +kernel
theorem d_Rm_area_44 : decode c_Rm_area 44 = .ok (.iadd, 1) := by decide +kernel
theorem d_Rm_area_45 : decode c_Rm_area 45 = .ok (.istore_n 2, 1) := by decide +kernel
theorem d_Rm_area_46 : decode c_Rm_area 46 = .ok (.iinc 3 1, 3) := by decide +kernel
theorem d_Rm_area_49 : decode c_Rm_area 49 = .ok (.goto (-45), 3) := by decide +kernel
theorem d_Rm_area_52 : decode c_Rm_area 52 = .ok (.iload_n 2, 1) := by decide +kernel
theorem d_Rm_area_53 : decode c_Rm_area 53 = .ok (.ireturn, 1) := by decide +kernel
theorem d_Rm_covered_0 : decode c_Rm_covered 0 = .ok (.iconst 0, 1) := by decide +kernel
theorem d_Rm_covered_1 : decode c_Rm_covered 1 = .ok (.istore_n 1, 1) := by decide +kernel
theorem d_Rm_covered_2 : decode c_Rm_covered 2 = .ok (.iconst 0, 1) := by decide +kernel
theorem d_Rm_covered_3 : decode c_Rm_covered 3 = .ok (.istore_n 2, 1) := by decide +kernel
theorem d_Rm_covered_4 : decode c_Rm_covered 4 = .ok (.iload_n 2, 1) := by decide +kernel
theorem d_Rm_covered_5 : decode c_Rm_covered 5 = .ok (.aload_n 0, 1) := by decide +kernel
theorem d_Rm_covered_6 : decode c_Rm_covered 6 = .ok (.getfield 44, 3) := by decide +kernel
theorem d_Rm_covered_9 : decode c_Rm_covered 9 = .ok (.if_icmp .ge 20, 3) := by decide +kernel
theorem d_Rm_covered_12 : decode c_Rm_covered 12 = .ok (.aload_n 0, 1) := by decide +kernel
theorem d_Rm_covered_13 : decode c_Rm_covered 13 = .ok (.iload_n 2, 1) := by decide +kernel
theorem d_Rm_covered_14 : decode c_Rm_covered 14 = .ok (.invokevirtual 72, 3) := by decide +kernel
theorem d_Rm_covered_17 : decode c_Rm_covered 17 = .ok (.ifCond .eq 6, 3) := by decide +kernel
theorem d_Rm_covered_20 : decode c_Rm_covered 20 = .ok (.iinc 1 1, 3) := by decide +kernel
theorem d_Rm_covered_23 : decode c_Rm_covered 23 = .ok (.iinc 2 1, 3) := by decide +kernel
theorem d_Rm_covered_26 : decode c_Rm_covered 26 = .ok (.goto (-22), 3) := by decide +kernel
theorem d_Rm_covered_29 : decode c_Rm_covered 29 = .ok (.iload_n 1, 1) := by decide +kernel
theorem d_Rm_covered_30 : decode c_Rm_covered 30 = .ok (.ireturn, 1) := by decide +kernel
theorem d_Rm_coveredArea_0 : decode c_Rm_coveredArea 0 = .ok (.iconst 0, 1) := by decide +kernel
theorem d_Rm_coveredArea_1 : decode c_Rm_coveredArea 1 = .ok (.istore_n 1, 1) := by decide +kernel
theorem d_Rm_coveredArea_2 : decode c_Rm_coveredArea 2 = .ok (.iconst 0, 1) := by decide +kernel
theorem d_Rm_coveredArea_3 : decode c_Rm_coveredArea 3 = .ok (.istore_n 2, 1) := by decide +kernel
theorem d_Rm_coveredArea_4 : decode c_Rm_coveredArea 4 = .ok (.iload_n 2, 1) := by decide +kernel
theorem d_Rm_coveredArea_5 : decode c_Rm_coveredArea 5 = .ok (.aload_n 0, 1) := by decide +kernel
theorem d_Rm_coveredArea_6 : decode c_Rm_coveredArea 6 = .ok (.getfield 44, 3) := by decide +kernel
theorem d_Rm_coveredArea_9 : decode c_Rm_coveredArea 9 = .ok (.if_icmp .ge 25, 3) := by decide +kernel
theorem d_Rm_coveredArea_12 : decode c_Rm_coveredArea 12 = .ok (.aload_n 0, 1) := by decide +kernel
theorem d_Rm_coveredArea_13 : decode c_Rm_coveredArea 13 = .ok (.iload_n 2, 1) := by decide +kernel
theorem d_Rm_coveredArea_14 : decode c_Rm_coveredArea 14 = .ok (.invokevirtual 72, 3) := by decide +kernel
theorem d_Rm_coveredArea_17 : decode c_Rm_coveredArea 17 = .ok (.ifCond .eq 11, 3) := by decide +kernel
theorem d_Rm_coveredArea_20 : decode c_Rm_coveredArea 20 = .ok (.iload_n 1, 1) := by decide +kernel
theorem d_Rm_coveredArea_21 : decode c_Rm_coveredArea 21 = .ok (.aload_n 0, 1) := by decide +kernel
theorem d_Rm_coveredArea_22 : decode c_Rm_coveredArea 22 = .ok (.iload_n 2, 1) := by decide +kernel
theorem d_Rm_coveredArea_23 : decode c_Rm_coveredArea 23 = .ok (.invokevirtual 76, 3) := by decide +kernel
theorem d_Rm_coveredArea_26 : decode c_Rm_coveredArea 26 = .ok (.iadd, 1) := by decide +kernel
theorem d_Rm_coveredArea_27 : decode c_Rm_coveredArea 27 = .ok (.istore_n 1, 1) := by decide +kernel
theorem d_Rm_coveredArea_28 : decode c_Rm_coveredArea 28 = .ok (.iinc 2 1, 3) := by decide +kernel
theorem d_Rm_coveredArea_31 : decode c_Rm_coveredArea 31 = .ok (.goto (-27), 3) := by decide +kernel
theorem d_Rm_coveredArea_34 : decode c_Rm_coveredArea 34 = .ok (.iload_n 1, 1) := by decide +kernel
theorem d_Rm_coveredArea_35 : decode c_Rm_coveredArea 35 = .ok (.ireturn, 1) := by decide +kernel
theorem d_Rm_isAcross_0 : decode c_Rm_isAcross 0 = .ok (.aload_n 0, 1) := by decide +kernel
theorem d_Rm_isAcross_1 : decode c_Rm_isAcross 1 = .ok (.getfield 26, 3) := by decide +kernel
theorem d_Rm_isAcross_4 : decode c_Rm_isAcross 4 = .ok (.iload_n 1, 1) := by decide +kernel
theorem d_Rm_isAcross_5 : decode c_Rm_isAcross 5 = .ok (.invokevirtual 48, 3) := by decide +kernel
theorem d_Rm_isAcross_8 : decode c_Rm_isAcross 8 = .ok (.ifCond .eq 15, 3) := by decide +kernel
theorem d_Rm_isAcross_11 : decode c_Rm_isAcross 11 = .ok (.aload_n 0, 1) := by decide +kernel
theorem d_Rm_isAcross_12 : decode c_Rm_isAcross 12 = .ok (.getfield 26, 3) := by decide +kernel
theorem d_Rm_isAcross_15 : decode c_Rm_isAcross 15 = .ok (.iload_n 1, 1) := by decide +kernel
theorem d_Rm_isAcross_16 : decode c_Rm_isAcross 16 = .ok (.invokevirtual 48, 3) := by decide +kernel
theorem d_Rm_isAcross_19 : decode c_Rm_isAcross 19 = .ok (.iconst 2, 1) := by decide +kernel
theorem d_Rm_isAcross_20 : decode c_Rm_isAcross 20 = .ok (.if_icmp .ne 7, 3) := by decide +kernel
theorem d_Rm_isAcross_23 : decode c_Rm_isAcross 23 = .ok (.iconst 1, 1) := by decide +kernel
theorem d_Rm_isAcross_24 : decode c_Rm_isAcross 24 = .ok (.goto 4, 3) := by decide +kernel
theorem d_Rm_isAcross_27 : decode c_Rm_isAcross 27 = .ok (.iconst 0, 1) := by decide +kernel
theorem d_Rm_isAcross_28 : decode c_Rm_isAcross 28 = .ok (.istore_n 3, 1) := by decide +kernel
theorem d_Rm_isAcross_29 : decode c_Rm_isAcross 29 = .ok (.iload_n 3, 1) := by decide +kernel
theorem d_Rm_isAcross_30 : decode c_Rm_isAcross 30 = .ok (.ifCond .eq 16, 3) := by decide +kernel
theorem d_Rm_isAcross_33 : decode c_Rm_isAcross 33 = .ok (.iload_n 2, 1) := by decide +kernel
theorem d_Rm_isAcross_34 : decode c_Rm_isAcross 34 = .ok (.iconst 1, 1) := by decide +kernel
theorem d_Rm_isAcross_35 : decode c_Rm_isAcross 35 = .ok (.if_icmp .ne 7, 3) := by decide +kernel
theorem d_Rm_isAcross_38 : decode c_Rm_isAcross 38 = .ok (.iconst 1, 1) := by decide +kernel
theorem d_Rm_isAcross_39 : decode c_Rm_isAcross 39 = .ok (.goto 16, 3) := by decide +kernel
theorem d_Rm_isAcross_42 : decode c_Rm_isAcross 42 = .ok (.iconst 0, 1) := by decide +kernel
theorem d_Rm_isAcross_43 : decode c_Rm_isAcross 43 = .ok (.goto 12, 3) := by decide +kernel
theorem d_Rm_isAcross_46 : decode c_Rm_isAcross 46 = .ok (.iload_n 2, 1) := by decide +kernel
theorem d_Rm_isAcross_47 : decode c_Rm_isAcross 47 = .ok (.ifCond .ne 7, 3) := by decide +kernel
theorem d_Rm_isAcross_50 : decode c_Rm_isAcross 50 = .ok (.iconst 1, 1) := by decide +kernel
theorem d_Rm_isAcross_51 : decode c_Rm_isAcross 51 = .ok (.goto 4, 3) := by decide +kernel
theorem d_Rm_isAcross_54 : decode c_Rm_isAcross 54 = .ok (.iconst 0, 1) := by decide +kernel
theorem d_Rm_isAcross_55 : decode c_Rm_isAcross 55 = .ok (.ireturn, 1) := by decide +kernel
theorem d_Rm_rectangleWidth_0 : decode c_Rm_rectangleWidth 0 = .ok (.iload_n 3, 1) := by decide +kernel
theorem d_Rm_rectangleWidth_1 : decode c_Rm_rectangleWidth 1 = .ok (.ifCond .ne 10, 3) := by decide +kernel
theorem d_Rm_rectangleWidth_4 : decode c_Rm_rectangleWidth 4 = .ok (.aload_n 0, 1) := by decide +kernel
theorem d_Rm_rectangleWidth_5 : decode c_Rm_rectangleWidth 5 = .ok (.getfield 20, 3) := by decide +kernel
theorem d_Rm_rectangleWidth_8 : decode c_Rm_rectangleWidth 8 = .ok (.goto 7, 3) := by decide +kernel
theorem d_Rm_rectangleWidth_11 : decode c_Rm_rectangleWidth 11 = .ok (.aload_n 0, 1) := by decide +kernel
theorem d_Rm_rectangleWidth_12 : decode c_Rm_rectangleWidth 12 = .ok (.getfield 23, 3) := by decide +kernel
theorem d_Rm_rectangleWidth_15 : decode c_Rm_rectangleWidth 15 = .ok (.astore 4, 2) := by decide +kernel
theorem d_Rm_rectangleWidth_17 : decode c_Rm_rectangleWidth 17 = .ok (.aload 4, 2) := by decide +kernel
theorem d_Rm_rectangleWidth_19 : decode c_Rm_rectangleWidth 19 = .ok (.aload_n 0, 1) := by decide +kernel
theorem d_Rm_rectangleWidth_20 : decode c_Rm_rectangleWidth 20 = .ok (.iload_n 1, 1) := by decide +kernel
theorem d_Rm_rectangleWidth_21 : decode c_Rm_rectangleWidth 21 = .ok (.iload_n 2, 1) := by decide +kernel
theorem d_Rm_rectangleWidth_22 : decode c_Rm_rectangleWidth 22 = .ok (.invokevirtual 56, 3) := by decide +kernel
theorem d_Rm_rectangleWidth_25 : decode c_Rm_rectangleWidth 25 = .ok (.invokevirtual 48, 3) := by decide +kernel
theorem d_Rm_rectangleWidth_28 : decode c_Rm_rectangleWidth 28 = .ok (.ireturn, 1) := by decide +kernel
theorem d_Rm_rectangleLength_0 : decode c_Rm_rectangleLength 0 = .ok (.iload_n 3, 1) := by decide +kernel
theorem d_Rm_rectangleLength_1 : decode c_Rm_rectangleLength 1 = .ok (.ifCond .ne 10, 3) := by decide +kernel
theorem d_Rm_rectangleLength_4 : decode c_Rm_rectangleLength 4 = .ok (.aload_n 0, 1) := by decide +kernel
theorem d_Rm_rectangleLength_5 : decode c_Rm_rectangleLength 5 = .ok (.getfield 23, 3) := by decide +kernel
theorem d_Rm_rectangleLength_8 : decode c_Rm_rectangleLength 8 = .ok (.goto 7, 3) := by decide +kernel
theorem d_Rm_rectangleLength_11 : decode c_Rm_rectangleLength 11 = .ok (.aload_n 0, 1) := by decide +kernel
theorem d_Rm_rectangleLength_12 : decode c_Rm_rectangleLength 12 = .ok (.getfield 20, 3) := by decide +kernel
theorem d_Rm_rectangleLength_15 : decode c_Rm_rectangleLength 15 = .ok (.astore 4, 2) := by decide +kernel
theorem d_Rm_rectangleLength_17 : decode c_Rm_rectangleLength 17 = .ok (.aload 4, 2) := by decide +kernel
theorem d_Rm_rectangleLength_19 : decode c_Rm_rectangleLength 19 = .ok (.aload_n 0, 1) := by decide +kernel
theorem d_Rm_rectangleLength_20 : decode c_Rm_rectangleLength 20 = .ok (.iload_n 1, 1) := by decide +kernel
theorem d_Rm_rectangleLength_21 : decode c_Rm_rectangleLength 21 = .ok (.iload_n 2, 1) := by decide +kernel
theorem d_Rm_rectangleLength_22 : decode c_Rm_rectangleLength 22 = .ok (.invokevirtual 56, 3) := by decide +kernel
theorem d_Rm_rectangleLength_25 : decode c_Rm_rectangleLength 25 = .ok (.invokevirtual 48, 3) := by decide +kernel
theorem d_Rm_rectangleLength_28 : decode c_Rm_rectangleLength 28 = .ok (.ireturn, 1) := by decide +kernel
theorem d_Rm_putCovering_0 : decode c_Rm_putCovering 0 = .ok (.aload_n 0, 1) := by decide +kernel
theorem d_Rm_putCovering_1 : decode c_Rm_putCovering 1 = .ok (.getfield 29, 3) := by decide +kernel
theorem d_Rm_putCovering_4 : decode c_Rm_putCovering 4 = .ok (.iload_n 1, 1) := by decide +kernel
theorem d_Rm_putCovering_5 : decode c_Rm_putCovering 5 = .ok (.iload_n 2, 1) := by decide +kernel
theorem d_Rm_putCovering_6 : decode c_Rm_putCovering 6 = .ok (.invokevirtual 52, 3) := by decide +kernel
theorem d_Rm_putCovering_9 : decode c_Rm_putCovering 9 = .ok (.aload_n 0, 1) := by decide +kernel
theorem d_Rm_putCovering_10 : decode c_Rm_putCovering 10 = .ok (.getfield 32, 3) := by decide +kernel
theorem d_Rm_putCovering_13 : decode c_Rm_putCovering 13 = .ok (.iload_n 1, 1) := by decide +kernel
theorem d_Rm_putCovering_14 : decode c_Rm_putCovering 14 = .ok (.iload_n 3, 1) := by decide +kernel
theorem d_Rm_putCovering_15 : decode c_Rm_putCovering 15 = .ok (.invokevirtual 52, 3) := by decide +kernel
theorem d_Rm_putCovering_18 : decode c_Rm_putCovering 18 = .ok (.aload_n 0, 1) := by decide +kernel
theorem d_Rm_putCovering_19 : decode c_Rm_putCovering 19 = .ok (.getfield 35, 3) := by decide +kernel
theorem d_Rm_putCovering_22 : decode c_Rm_putCovering 22 = .ok (.iload_n 1, 1) := by decide +kernel
theorem d_Rm_putCovering_23 : decode c_Rm_putCovering 23 = .ok (.iload 4, 2) := by decide +kernel
theorem d_Rm_putCovering_25 : decode c_Rm_putCovering 25 = .ok (.invokevirtual 52, 3) := by decide +kernel
theorem d_Rm_putCovering_28 : decode c_Rm_putCovering 28 = .ok (.return_, 1) := by decide +kernel
theorem d_Rm_putBare_0 : decode c_Rm_putBare 0 = .ok (.aload_n 0, 1) := by decide +kernel
theorem d_Rm_putBare_1 : decode c_Rm_putBare 1 = .ok (.getfield 32, 3) := by decide +kernel
theorem d_Rm_putBare_4 : decode c_Rm_putBare 4 = .ok (.iload_n 1, 1) := by decide +kernel
theorem d_Rm_putBare_5 : decode c_Rm_putBare 5 = .ok (.iconst 0, 1) := by decide +kernel
theorem d_Rm_putBare_6 : decode c_Rm_putBare 6 = .ok (.invokevirtual 52, 3) := by decide +kernel
theorem d_Rm_putBare_9 : decode c_Rm_putBare 9 = .ok (.return_, 1) := by decide +kernel
theorem d_Rm_putSource_0 : decode c_Rm_putSource 0 = .ok (.aload_n 0, 1) := by decide +kernel
theorem d_Rm_putSource_1 : decode c_Rm_putSource 1 = .ok (.getfield 41, 3) := by decide +kernel
theorem d_Rm_putSource_4 : decode c_Rm_putSource 4 = .ok (.iload_n 1, 1) := by decide +kernel
theorem d_Rm_putSource_5 : decode c_Rm_putSource 5 = .ok (.bipush 36, 2) := by decide +kernel
theorem d_Rm_putSource_7 : decode c_Rm_putSource 7 = .ok (.imul, 1) := by decide +kernel
theorem d_Rm_putSource_8 : decode c_Rm_putSource 8 = .ok (.iload_n 2, 1) := by decide +kernel
theorem d_Rm_putSource_9 : decode c_Rm_putSource 9 = .ok (.iadd, 1) := by decide +kernel
theorem d_Rm_putSource_10 : decode c_Rm_putSource 10 = .ok (.iload_n 3, 1) := by decide +kernel
theorem d_Rm_putSource_11 : decode c_Rm_putSource 11 = .ok (.invokevirtual 52, 3) := by decide +kernel
theorem d_Rm_putSource_14 : decode c_Rm_putSource 14 = .ok (.return_, 1) := by decide +kernel
theorem d_Rm_source_0 : decode c_Rm_source 0 = .ok (.aload_n 0, 1) := by decide +kernel
theorem d_Rm_source_1 : decode c_Rm_source 1 = .ok (.getfield 41, 3) := by decide +kernel
theorem d_Rm_source_4 : decode c_Rm_source 4 = .ok (.iload_n 1, 1) := by decide +kernel
theorem d_Rm_source_5 : decode c_Rm_source 5 = .ok (.bipush 36, 2) := by decide +kernel
theorem d_Rm_source_7 : decode c_Rm_source 7 = .ok (.imul, 1) := by decide +kernel
theorem d_Rm_source_8 : decode c_Rm_source 8 = .ok (.iload_n 2, 1) := by decide +kernel
theorem d_Rm_source_9 : decode c_Rm_source 9 = .ok (.iadd, 1) := by decide +kernel
theorem d_Rm_source_10 : decode c_Rm_source 10 = .ok (.invokevirtual 48, 3) := by decide +kernel
theorem d_Rm_source_13 : decode c_Rm_source 13 = .ok (.ireturn, 1) := by decide +kernel
theorem d_Rm_stripsIn_0 : decode c_Rm_stripsIn 0 = .ok (.aload_n 0, 1) := by decide +kernel
theorem d_Rm_stripsIn_1 : decode c_Rm_stripsIn 1 = .ok (.getfield 32, 3) := by decide +kernel
theorem d_Rm_stripsIn_4 : decode c_Rm_stripsIn 4 = .ok (.iload_n 1, 1) := by decide +kernel
theorem d_Rm_stripsIn_5 : decode c_Rm_stripsIn 5 = .ok (.invokevirtual 48, 3) := by decide +kernel
theorem d_Rm_stripsIn_8 : decode c_Rm_stripsIn 8 = .ok (.istore_n 3, 1) := by decide +kernel
theorem d_Rm_stripsIn_9 : decode c_Rm_stripsIn 9 = .ok (.iload_n 3, 1) := by decide +kernel
theorem d_Rm_stripsIn_10 : decode c_Rm_stripsIn 10 = .ok (.ifCond .gt 5, 3) := by decide +kernel
theorem d_Rm_stripsIn_13 : decode c_Rm_stripsIn 13 = .ok (.iconst 0, 1) := by decide +kernel
theorem d_Rm_stripsIn_14 : decode c_Rm_stripsIn 14 = .ok (.ireturn, 1) := by decide +kernel
theorem d_Rm_stripsIn_15 : decode c_Rm_stripsIn 15 = .ok (.aload_n 0, 1) := by decide +kernel
theorem d_Rm_stripsIn_16 : decode c_Rm_stripsIn 16 = .ok (.iload_n 1, 1) := by decide +kernel
theorem d_Rm_stripsIn_17 : decode c_Rm_stripsIn 17 = .ok (.iload_n 2, 1) := by decide +kernel
theorem d_Rm_stripsIn_18 : decode c_Rm_stripsIn 18 = .ok (.aload_n 0, 1) := by decide +kernel
theorem d_Rm_stripsIn_19 : decode c_Rm_stripsIn 19 = .ok (.getfield 35, 3) := by decide +kernel
theorem d_Rm_stripsIn_22 : decode c_Rm_stripsIn 22 = .ok (.iload_n 1, 1) := by decide +kernel
theorem d_Rm_stripsIn_23 : decode c_Rm_stripsIn 23 = .ok (.invokevirtual 48, 3) := by decide +kernel
theorem d_Rm_stripsIn_26 : decode c_Rm_stripsIn 26 = .ok (.invokevirtual 79, 3) := by decide +kernel
theorem d_Rm_stripsIn_29 : decode c_Rm_stripsIn 29 = .ok (.iload_n 3, 1) := by decide +kernel
theorem d_Rm_stripsIn_30 : decode c_Rm_stripsIn 30 = .ok (.iadd, 1) := by decide +kernel
theorem d_Rm_stripsIn_31 : decode c_Rm_stripsIn 31 = .ok (.iconst 1, 1) := by decide +kernel
theorem d_Rm_stripsIn_32 : decode c_Rm_stripsIn 32 = .ok (.isub, 1) := by decide +kernel
theorem d_Rm_stripsIn_33 : decode c_Rm_stripsIn 33 = .ok (.iload_n 3, 1) := by decide +kernel
theorem d_Rm_stripsIn_34 : decode c_Rm_stripsIn 34 = .ok (.idiv, 1) := by decide +kernel
theorem d_Rm_stripsIn_35 : decode c_Rm_stripsIn 35 = .ok (.ireturn, 1) := by decide +kernel
theorem d_Rm_strips_0 : decode c_Rm_strips 0 = .ok (.iconst 0, 1) := by decide +kernel
theorem d_Rm_strips_1 : decode c_Rm_strips 1 = .ok (.istore_n 2, 1) := by decide +kernel
theorem d_Rm_strips_2 : decode c_Rm_strips 2 = .ok (.iconst 0, 1) := by decide +kernel
theorem d_Rm_strips_3 : decode c_Rm_strips 3 = .ok (.istore_n 3, 1) := by decide +kernel
theorem d_Rm_strips_4 : decode c_Rm_strips 4 = .ok (.iload_n 3, 1) := by decide +kernel
theorem d_Rm_strips_5 : decode c_Rm_strips 5 = .ok (.aload_n 0, 1) := by decide +kernel
theorem d_Rm_strips_6 : decode c_Rm_strips 6 = .ok (.getfield 14, 3) := by decide +kernel
theorem d_Rm_strips_9 : decode c_Rm_strips 9 = .ok (.iload_n 1, 1) := by decide +kernel
theorem d_Rm_strips_10 : decode c_Rm_strips 10 = .ok (.invokevirtual 48, 3) := by decide +kernel
theorem d_Rm_strips_13 : decode c_Rm_strips 13 = .ok (.if_icmp .ge 18, 3) := by decide +kernel
theorem d_Rm_strips_16 : decode c_Rm_strips 16 = .ok (.iload_n 2, 1) := by decide +kernel
theorem d_Rm_strips_17 : decode c_Rm_strips 17 = .ok (.aload_n 0, 1) := by decide +kernel
theorem d_Rm_strips_18 : decode c_Rm_strips 18 = .ok (.iload_n 1, 1) := by decide +kernel
theorem d_Rm_strips_19 : decode c_Rm_strips 19 = .ok (.iload_n 3, 1) := by decide +kernel
theorem d_Rm_strips_20 : decode c_Rm_strips 20 = .ok (.invokevirtual 83, 3) := by decide +kernel
theorem d_Rm_strips_23 : decode c_Rm_strips 23 = .ok (.iadd, 1) := by decide +kernel
theorem d_Rm_strips_24 : decode c_Rm_strips 24 = .ok (.istore_n 2, 1) := by decide +kernel
theorem d_Rm_strips_25 : decode c_Rm_strips 25 = .ok (.iinc 3 1, 3) := by decide +kernel
theorem d_Rm_strips_28 : decode c_Rm_strips 28 = .ok (.goto (-24), 3) := by decide +kernel
theorem d_Rm_strips_31 : decode c_Rm_strips 31 = .ok (.iload_n 2, 1) := by decide +kernel
theorem d_Rm_strips_32 : decode c_Rm_strips 32 = .ok (.ireturn, 1) := by decide +kernel
theorem d_Rm_seams_0 : decode c_Rm_seams 0 = .ok (.iconst 0, 1) := by decide +kernel
theorem d_Rm_seams_1 : decode c_Rm_seams 1 = .ok (.istore_n 2, 1) := by decide +kernel
theorem d_Rm_seams_2 : decode c_Rm_seams 2 = .ok (.iconst 0, 1) := by decide +kernel
theorem d_Rm_seams_3 : decode c_Rm_seams 3 = .ok (.istore_n 3, 1) := by decide +kernel
theorem d_Rm_seams_4 : decode c_Rm_seams 4 = .ok (.iload_n 3, 1) := by decide +kernel
theorem d_Rm_seams_5 : decode c_Rm_seams 5 = .ok (.aload_n 0, 1) := by decide +kernel
theorem d_Rm_seams_6 : decode c_Rm_seams 6 = .ok (.getfield 14, 3) := by decide +kernel
theorem d_Rm_seams_9 : decode c_Rm_seams 9 = .ok (.iload_n 1, 1) := by decide +kernel
theorem d_Rm_seams_10 : decode c_Rm_seams 10 = .ok (.invokevirtual 48, 3) := by decide +kernel
theorem d_Rm_seams_13 : decode c_Rm_seams 13 = .ok (.if_icmp .ge 35, 3) := by decide +kernel
theorem d_Rm_seams_16 : decode c_Rm_seams 16 = .ok (.iload_n 2, 1) := by decide +kernel
theorem d_Rm_seams_17 : decode c_Rm_seams 17 = .ok (.aload_n 0, 1) := by decide +kernel
theorem d_Rm_seams_18 : decode c_Rm_seams 18 = .ok (.iload_n 1, 1) := by decide +kernel
theorem d_Rm_seams_19 : decode c_Rm_seams 19 = .ok (.iload_n 3, 1) := by decide +kernel
theorem d_Rm_seams_20 : decode c_Rm_seams 20 = .ok (.invokevirtual 83, 3) := by decide +kernel
theorem d_Rm_seams_23 : decode c_Rm_seams 23 = .ok (.iconst 1, 1) := by decide +kernel
theorem d_Rm_seams_24 : decode c_Rm_seams 24 = .ok (.isub, 1) := by decide +kernel
theorem d_Rm_seams_25 : decode c_Rm_seams 25 = .ok (.aload_n 0, 1) := by decide +kernel
theorem d_Rm_seams_26 : decode c_Rm_seams 26 = .ok (.iload_n 1, 1) := by decide +kernel
theorem d_Rm_seams_27 : decode c_Rm_seams 27 = .ok (.iload_n 3, 1) := by decide +kernel
theorem d_Rm_seams_28 : decode c_Rm_seams 28 = .ok (.aload_n 0, 1) := by decide +kernel
theorem d_Rm_seams_29 : decode c_Rm_seams 29 = .ok (.getfield 35, 3) := by decide +kernel
theorem d_Rm_seams_32 : decode c_Rm_seams 32 = .ok (.iload_n 1, 1) := by decide +kernel
theorem d_Rm_seams_33 : decode c_Rm_seams 33 = .ok (.invokevirtual 48, 3) := by decide +kernel
theorem d_Rm_seams_36 : decode c_Rm_seams 36 = .ok (.invokevirtual 86, 3) := by decide +kernel
theorem d_Rm_seams_39 : decode c_Rm_seams 39 = .ok (.imul, 1) := by decide +kernel
theorem d_Rm_seams_40 : decode c_Rm_seams 40 = .ok (.iadd, 1) := by decide +kernel
theorem d_Rm_seams_41 : decode c_Rm_seams 41 = .ok (.istore_n 2, 1) := by decide +kernel
theorem d_Rm_seams_42 : decode c_Rm_seams 42 = .ok (.iinc 3 1, 3) := by decide +kernel
theorem d_Rm_seams_45 : decode c_Rm_seams 45 = .ok (.goto (-41), 3) := by decide +kernel
theorem d_Rm_seams_48 : decode c_Rm_seams 48 = .ok (.iload_n 2, 1) := by decide +kernel
theorem d_Rm_seams_49 : decode c_Rm_seams 49 = .ok (.ireturn, 1) := by decide +kernel
theorem d_Rm_stripWidth_0 : decode c_Rm_stripWidth 0 = .ok (.iload_n 2, 1) := by decide +kernel
theorem d_Rm_stripWidth_1 : decode c_Rm_stripWidth 1 = .ok (.istore_n 3, 1) := by decide +kernel
theorem d_Rm_stripWidth_2 : decode c_Rm_stripWidth 2 = .ok (.iconst 0, 1) := by decide +kernel
theorem d_Rm_stripWidth_3 : decode c_Rm_stripWidth 3 = .ok (.istore 4, 2) := by decide +kernel
theorem d_Rm_stripWidth_5 : decode c_Rm_stripWidth 5 = .ok (.iload 4, 2) := by decide +kernel
theorem d_Rm_stripWidth_7 : decode c_Rm_stripWidth 7 = .ok (.aload_n 0, 1) := by decide +kernel
theorem d_Rm_stripWidth_8 : decode c_Rm_stripWidth 8 = .ok (.getfield 14, 3) := by decide +kernel
theorem d_Rm_stripWidth_11 : decode c_Rm_stripWidth 11 = .ok (.iload_n 1, 1) := by decide +kernel
theorem d_Rm_stripWidth_12 : decode c_Rm_stripWidth 12 = .ok (.invokevirtual 48, 3) := by decide +kernel
theorem d_Rm_stripWidth_15 : decode c_Rm_stripWidth 15 = .ok (.if_icmp .ge 65, 3) := by decide +kernel
theorem d_Rm_stripWidth_18 : decode c_Rm_stripWidth 18 = .ok (.aload_n 0, 1) := by decide +kernel
theorem d_Rm_stripWidth_19 : decode c_Rm_stripWidth 19 = .ok (.iload_n 1, 1) := by decide +kernel
theorem d_Rm_stripWidth_20 : decode c_Rm_stripWidth 20 = .ok (.iload 4, 2) := by decide +kernel
theorem d_Rm_stripWidth_22 : decode c_Rm_stripWidth 22 = .ok (.invokevirtual 83, 3) := by decide +kernel
theorem d_Rm_stripWidth_25 : decode c_Rm_stripWidth 25 = .ok (.istore 5, 2) := by decide +kernel
theorem d_Rm_stripWidth_27 : decode c_Rm_stripWidth 27 = .ok (.iload_n 3, 1) := by decide +kernel
theorem d_Rm_stripWidth_28 : decode c_Rm_stripWidth 28 = .ok (.iload 5, 2) := by decide +kernel
theorem d_Rm_stripWidth_30 : decode c_Rm_stripWidth 30 = .ok (.if_icmp .ge 39, 3) := by decide +kernel
theorem d_Rm_stripWidth_33 : decode c_Rm_stripWidth 33 = .ok (.aload_n 0, 1) := by decide +kernel
theorem d_Rm_stripWidth_34 : decode c_Rm_stripWidth 34 = .ok (.getfield 32, 3) := by decide +kernel
theorem d_Rm_stripWidth_37 : decode c_Rm_stripWidth 37 = .ok (.iload_n 1, 1) := by decide +kernel
theorem d_Rm_stripWidth_38 : decode c_Rm_stripWidth 38 = .ok (.invokevirtual 48, 3) := by decide +kernel
theorem d_Rm_stripWidth_41 : decode c_Rm_stripWidth 41 = .ok (.istore 6, 2) := by decide +kernel
theorem d_Rm_stripWidth_43 : decode c_Rm_stripWidth 43 = .ok (.iload 6, 2) := by decide +kernel
theorem d_Rm_stripWidth_45 : decode c_Rm_stripWidth 45 = .ok (.aload_n 0, 1) := by decide +kernel
theorem d_Rm_stripWidth_46 : decode c_Rm_stripWidth 46 = .ok (.iload_n 1, 1) := by decide +kernel
theorem d_Rm_stripWidth_47 : decode c_Rm_stripWidth 47 = .ok (.iload 4, 2) := by decide +kernel
theorem d_Rm_stripWidth_49 : decode c_Rm_stripWidth 49 = .ok (.aload_n 0, 1) := by decide +kernel
theorem d_Rm_stripWidth_50 : decode c_Rm_stripWidth 50 = .ok (.getfield 35, 3) := by decide +kernel
theorem d_Rm_stripWidth_53 : decode c_Rm_stripWidth 53 = .ok (.iload_n 1, 1) := by decide +kernel
theorem d_Rm_stripWidth_54 : decode c_Rm_stripWidth 54 = .ok (.invokevirtual 48, 3) := by decide +kernel
theorem d_Rm_stripWidth_57 : decode c_Rm_stripWidth 57 = .ok (.invokevirtual 79, 3) := by decide +kernel
theorem d_Rm_stripWidth_60 : decode c_Rm_stripWidth 60 = .ok (.iload_n 3, 1) := by decide +kernel
theorem d_Rm_stripWidth_61 : decode c_Rm_stripWidth 61 = .ok (.iload 6, 2) := by decide +kernel
theorem d_Rm_stripWidth_63 : decode c_Rm_stripWidth 63 = .ok (.imul, 1) := by decide +kernel
theorem d_Rm_stripWidth_64 : decode c_Rm_stripWidth 64 = .ok (.isub, 1) := by decide +kernel
theorem d_Rm_stripWidth_65 : decode c_Rm_stripWidth 65 = .ok (.invokestatic 89, 3) := by decide +kernel
theorem d_Rm_stripWidth_68 : decode c_Rm_stripWidth 68 = .ok (.ireturn, 1) := by decide +kernel
theorem d_Rm_stripWidth_69 : decode c_Rm_stripWidth 69 = .ok (.iload_n 3, 1) := by decide +kernel
theorem d_Rm_stripWidth_70 : decode c_Rm_stripWidth 70 = .ok (.iload 5, 2) := by decide +kernel
theorem d_Rm_stripWidth_72 : decode c_Rm_stripWidth 72 = .ok (.isub, 1) := by decide +kernel
theorem d_Rm_stripWidth_73 : decode c_Rm_stripWidth 73 = .ok (.istore_n 3, 1) := by decide +kernel
theorem d_Rm_stripWidth_74 : decode c_Rm_stripWidth 74 = .ok (.iinc 4 1, 3) := by decide +kernel
theorem d_Rm_stripWidth_77 : decode c_Rm_stripWidth 77 = .ok (.goto (-72), 3) := by decide +kernel
theorem d_Rm_stripWidth_80 : decode c_Rm_stripWidth 80 = .ok (.iconst 0, 1) := by decide +kernel
theorem d_Rm_stripWidth_81 : decode c_Rm_stripWidth 81 = .ok (.ireturn, 1) := by decide +kernel
theorem d_Rm_stripLength_0 : decode c_Rm_stripLength 0 = .ok (.iload_n 2, 1) := by decide +kernel
theorem d_Rm_stripLength_1 : decode c_Rm_stripLength 1 = .ok (.istore_n 3, 1) := by decide +kernel
theorem d_Rm_stripLength_2 : decode c_Rm_stripLength 2 = .ok (.iconst 0, 1) := by decide +kernel
theorem d_Rm_stripLength_3 : decode c_Rm_stripLength 3 = .ok (.istore 4, 2) := by decide +kernel
theorem d_Rm_stripLength_5 : decode c_Rm_stripLength 5 = .ok (.iload 4, 2) := by decide +kernel
theorem d_Rm_stripLength_7 : decode c_Rm_stripLength 7 = .ok (.aload_n 0, 1) := by decide +kernel
theorem d_Rm_stripLength_8 : decode c_Rm_stripLength 8 = .ok (.getfield 14, 3) := by decide +kernel
theorem d_Rm_stripLength_11 : decode c_Rm_stripLength 11 = .ok (.iload_n 1, 1) := by decide +kernel
theorem d_Rm_stripLength_12 : decode c_Rm_stripLength 12 = .ok (.invokevirtual 48, 3) := by decide +kernel
theorem d_Rm_stripLength_15 : decode c_Rm_stripLength 15 = .ok (.if_icmp .ge 45, 3) := by decide +kernel
theorem d_Rm_stripLength_18 : decode c_Rm_stripLength 18 = .ok (.aload_n 0, 1) := by decide +kernel
theorem d_Rm_stripLength_19 : decode c_Rm_stripLength 19 = .ok (.iload_n 1, 1) := by decide +kernel
theorem d_Rm_stripLength_20 : decode c_Rm_stripLength 20 = .ok (.iload 4, 2) := by decide +kernel
theorem d_Rm_stripLength_22 : decode c_Rm_stripLength 22 = .ok (.invokevirtual 83, 3) := by decide +kernel
theorem d_Rm_stripLength_25 : decode c_Rm_stripLength 25 = .ok (.istore 5, 2) := by decide +kernel
theorem d_Rm_stripLength_27 : decode c_Rm_stripLength 27 = .ok (.iload_n 3, 1) := by decide +kernel
theorem d_Rm_stripLength_28 : decode c_Rm_stripLength 28 = .ok (.iload 5, 2) := by decide +kernel
theorem d_Rm_stripLength_30 : decode c_Rm_stripLength 30 = .ok (.if_icmp .ge 19, 3) := by decide +kernel
theorem d_Rm_stripLength_33 : decode c_Rm_stripLength 33 = .ok (.aload_n 0, 1) := by decide +kernel
theorem d_Rm_stripLength_34 : decode c_Rm_stripLength 34 = .ok (.iload_n 1, 1) := by decide +kernel
theorem d_Rm_stripLength_35 : decode c_Rm_stripLength 35 = .ok (.iload 4, 2) := by decide +kernel
theorem d_Rm_stripLength_37 : decode c_Rm_stripLength 37 = .ok (.aload_n 0, 1) := by decide +kernel
theorem d_Rm_stripLength_38 : decode c_Rm_stripLength 38 = .ok (.getfield 35, 3) := by decide +kernel
theorem d_Rm_stripLength_41 : decode c_Rm_stripLength 41 = .ok (.iload_n 1, 1) := by decide +kernel
theorem d_Rm_stripLength_42 : decode c_Rm_stripLength 42 = .ok (.invokevirtual 48, 3) := by decide +kernel
theorem d_Rm_stripLength_45 : decode c_Rm_stripLength 45 = .ok (.invokevirtual 86, 3) := by decide +kernel
theorem d_Rm_stripLength_48 : decode c_Rm_stripLength 48 = .ok (.ireturn, 1) := by decide +kernel
theorem d_Rm_stripLength_49 : decode c_Rm_stripLength 49 = .ok (.iload_n 3, 1) := by decide +kernel
theorem d_Rm_stripLength_50 : decode c_Rm_stripLength 50 = .ok (.iload 5, 2) := by decide +kernel
theorem d_Rm_stripLength_52 : decode c_Rm_stripLength 52 = .ok (.isub, 1) := by decide +kernel
theorem d_Rm_stripLength_53 : decode c_Rm_stripLength 53 = .ok (.istore_n 3, 1) := by decide +kernel
theorem d_Rm_stripLength_54 : decode c_Rm_stripLength 54 = .ok (.iinc 4 1, 3) := by decide +kernel
theorem d_Rm_stripLength_57 : decode c_Rm_stripLength 57 = .ok (.goto (-52), 3) := by decide +kernel
theorem d_Rm_stripLength_60 : decode c_Rm_stripLength 60 = .ok (.iconst 0, 1) := by decide +kernel
theorem d_Rm_stripLength_61 : decode c_Rm_stripLength 61 = .ok (.ireturn, 1) := by decide +kernel
theorem d_Rm_stripsFromOffcuts_0 : decode c_Rm_stripsFromOffcuts 0 = .ok (.aload_n 0, 1) := by decide +kernel
theorem d_Rm_stripsFromOffcuts_1 : decode c_Rm_stripsFromOffcuts 1 = .ok (.iload_n 1, 1) := by decide +kernel
theorem d_Rm_stripsFromOffcuts_2 : decode c_Rm_stripsFromOffcuts 2 = .ok (.invokevirtual 94, 3) := by decide +kernel
theorem d_Rm_stripsFromOffcuts_5 : decode c_Rm_stripsFromOffcuts 5 = .ok (.istore_n 2, 1) := by decide +kernel
theorem d_Rm_stripsFromOffcuts_6 : decode c_Rm_stripsFromOffcuts 6 = .ok (.iconst 0, 1) := by decide +kernel
theorem d_Rm_stripsFromOffcuts_7 : decode c_Rm_stripsFromOffcuts 7 = .ok (.istore_n 3, 1) := by decide +kernel
theorem d_Rm_stripsFromOffcuts_8 : decode c_Rm_stripsFromOffcuts 8 = .ok (.iconst 0, 1) := by decide +kernel
theorem d_Rm_stripsFromOffcuts_9 : decode c_Rm_stripsFromOffcuts 9 = .ok (.istore 4, 2) := by decide +kernel
theorem d_Rm_stripsFromOffcuts_11 : decode c_Rm_stripsFromOffcuts 11 = .ok (.iload 4, 2) := by decide +kernel
theorem d_Rm_stripsFromOffcuts_13 : decode c_Rm_stripsFromOffcuts 13 = .ok (.iload_n 2, 1) := by decide +kernel
theorem d_Rm_stripsFromOffcuts_14 : decode c_Rm_stripsFromOffcuts 14 = .ok (.if_icmp .ge 22, 3) := by decide +kernel
theorem d_Rm_stripsFromOffcuts_17 : decode c_Rm_stripsFromOffcuts 17 = .ok (.aload_n 0, 1) := by decide +kernel
theorem d_Rm_stripsFromOffcuts_18 : decode c_Rm_stripsFromOffcuts 18 = .ok (.iload_n 1, 1) := by decide +kernel
theorem d_Rm_stripsFromOffcuts_19 : decode c_Rm_stripsFromOffcuts 19 = .ok (.iload 4, 2) := by decide +kernel
theorem d_Rm_stripsFromOffcuts_21 : decode c_Rm_stripsFromOffcuts 21 = .ok (.invokevirtual 97, 3) := by decide +kernel
theorem d_Rm_stripsFromOffcuts_24 : decode c_Rm_stripsFromOffcuts 24 = .ok (.ifCond .lt 6, 3) := by decide +kernel
theorem d_Rm_stripsFromOffcuts_27 : decode c_Rm_stripsFromOffcuts 27 = .ok (.iinc 3 1, 3) := by decide +kernel
theorem d_Rm_stripsFromOffcuts_30 : decode c_Rm_stripsFromOffcuts 30 = .ok (.iinc 4 1, 3) := by decide +kernel
theorem d_Rm_stripsFromOffcuts_33 : decode c_Rm_stripsFromOffcuts 33 = .ok (.goto (-22), 3) := by decide +kernel
theorem d_Rm_stripsFromOffcuts_36 : decode c_Rm_stripsFromOffcuts 36 = .ok (.iload_n 3, 1) := by decide +kernel
theorem d_Rm_stripsFromOffcuts_37 : decode c_Rm_stripsFromOffcuts 37 = .ok (.ireturn, 1) := by decide +kernel
theorem d_Rm_copyFrom_0 : decode c_Rm_copyFrom 0 = .ok (.aload_n 0, 1) := by decide +kernel
theorem d_Rm_copyFrom_1 : decode c_Rm_copyFrom 1 = .ok (.aload_n 1, 1) := by decide +kernel
theorem d_Rm_copyFrom_2 : decode c_Rm_copyFrom 2 = .ok (.getfield 44, 3) := by decide +kernel
theorem d_Rm_copyFrom_5 : decode c_Rm_copyFrom 5 = .ok (.putfield 44, 3) := by decide +kernel
theorem d_Rm_copyFrom_8 : decode c_Rm_copyFrom 8 = .ok (.aload_n 0, 1) := by decide +kernel
theorem d_Rm_copyFrom_9 : decode c_Rm_copyFrom 9 = .ok (.getfield 14, 3) := by decide +kernel
theorem d_Rm_copyFrom_12 : decode c_Rm_copyFrom 12 = .ok (.aload_n 1, 1) := by decide +kernel
theorem d_Rm_copyFrom_13 : decode c_Rm_copyFrom 13 = .ok (.getfield 14, 3) := by decide +kernel
theorem d_Rm_copyFrom_16 : decode c_Rm_copyFrom 16 = .ok (.invokevirtual 100, 3) := by decide +kernel
theorem d_Rm_copyFrom_19 : decode c_Rm_copyFrom 19 = .ok (.aload_n 0, 1) := by decide +kernel
theorem d_Rm_copyFrom_20 : decode c_Rm_copyFrom 20 = .ok (.getfield 20, 3) := by decide +kernel
theorem d_Rm_copyFrom_23 : decode c_Rm_copyFrom 23 = .ok (.aload_n 1, 1) := by decide +kernel
theorem d_Rm_copyFrom_24 : decode c_Rm_copyFrom 24 = .ok (.getfield 20, 3) := by decide +kernel
theorem d_Rm_copyFrom_27 : decode c_Rm_copyFrom 27 = .ok (.invokevirtual 100, 3) := by decide +kernel
theorem d_Rm_copyFrom_30 : decode c_Rm_copyFrom 30 = .ok (.aload_n 0, 1) := by decide +kernel
theorem d_Rm_copyFrom_31 : decode c_Rm_copyFrom 31 = .ok (.getfield 23, 3) := by decide +kernel
theorem d_Rm_copyFrom_34 : decode c_Rm_copyFrom 34 = .ok (.aload_n 1, 1) := by decide +kernel
theorem d_Rm_copyFrom_35 : decode c_Rm_copyFrom 35 = .ok (.getfield 23, 3) := by decide +kernel
theorem d_Rm_copyFrom_38 : decode c_Rm_copyFrom 38 = .ok (.invokevirtual 100, 3) := by decide +kernel
theorem d_Rm_copyFrom_41 : decode c_Rm_copyFrom 41 = .ok (.aload_n 0, 1) := by decide +kernel
theorem d_Rm_copyFrom_42 : decode c_Rm_copyFrom 42 = .ok (.getfield 26, 3) := by decide +kernel
theorem d_Rm_copyFrom_45 : decode c_Rm_copyFrom 45 = .ok (.aload_n 1, 1) := by decide +kernel
theorem d_Rm_copyFrom_46 : decode c_Rm_copyFrom 46 = .ok (.getfield 26, 3) := by decide +kernel
theorem d_Rm_copyFrom_49 : decode c_Rm_copyFrom 49 = .ok (.invokevirtual 100, 3) := by decide +kernel
theorem d_Rm_copyFrom_52 : decode c_Rm_copyFrom 52 = .ok (.aload_n 0, 1) := by decide +kernel
theorem d_Rm_copyFrom_53 : decode c_Rm_copyFrom 53 = .ok (.getfield 29, 3) := by decide +kernel
theorem d_Rm_copyFrom_56 : decode c_Rm_copyFrom 56 = .ok (.aload_n 1, 1) := by decide +kernel
theorem d_Rm_copyFrom_57 : decode c_Rm_copyFrom 57 = .ok (.getfield 29, 3) := by decide +kernel
theorem d_Rm_copyFrom_60 : decode c_Rm_copyFrom 60 = .ok (.invokevirtual 100, 3) := by decide +kernel
theorem d_Rm_copyFrom_63 : decode c_Rm_copyFrom 63 = .ok (.aload_n 0, 1) := by decide +kernel
theorem d_Rm_copyFrom_64 : decode c_Rm_copyFrom 64 = .ok (.getfield 32, 3) := by decide +kernel
theorem d_Rm_copyFrom_67 : decode c_Rm_copyFrom 67 = .ok (.aload_n 1, 1) := by decide +kernel
theorem d_Rm_copyFrom_68 : decode c_Rm_copyFrom 68 = .ok (.getfield 32, 3) := by decide +kernel
theorem d_Rm_copyFrom_71 : decode c_Rm_copyFrom 71 = .ok (.invokevirtual 100, 3) := by decide +kernel
theorem d_Rm_copyFrom_74 : decode c_Rm_copyFrom 74 = .ok (.aload_n 0, 1) := by decide +kernel
theorem d_Rm_copyFrom_75 : decode c_Rm_copyFrom 75 = .ok (.getfield 35, 3) := by decide +kernel
theorem d_Rm_copyFrom_78 : decode c_Rm_copyFrom 78 = .ok (.aload_n 1, 1) := by decide +kernel
theorem d_Rm_copyFrom_79 : decode c_Rm_copyFrom 79 = .ok (.getfield 35, 3) := by decide +kernel
theorem d_Rm_copyFrom_82 : decode c_Rm_copyFrom 82 = .ok (.invokevirtual 100, 3) := by decide +kernel
theorem d_Rm_copyFrom_85 : decode c_Rm_copyFrom 85 = .ok (.aload_n 0, 1) := by decide +kernel
theorem d_Rm_copyFrom_86 : decode c_Rm_copyFrom 86 = .ok (.getfield 38, 3) := by decide +kernel
theorem d_Rm_copyFrom_89 : decode c_Rm_copyFrom 89 = .ok (.aload_n 1, 1) := by decide +kernel
theorem d_Rm_copyFrom_90 : decode c_Rm_copyFrom 90 = .ok (.getfield 38, 3) := by decide +kernel
theorem d_Rm_copyFrom_93 : decode c_Rm_copyFrom 93 = .ok (.invokevirtual 100, 3) := by decide +kernel
theorem d_Rm_copyFrom_96 : decode c_Rm_copyFrom 96 = .ok (.aload_n 0, 1) := by decide +kernel
theorem d_Rm_copyFrom_97 : decode c_Rm_copyFrom 97 = .ok (.getfield 41, 3) := by decide +kernel
theorem d_Rm_copyFrom_100 : decode c_Rm_copyFrom 100 = .ok (.aload_n 1, 1) := by decide +kernel
theorem d_Rm_copyFrom_101 : decode c_Rm_copyFrom 101 = .ok (.getfield 41, 3) := by decide +kernel
theorem d_Rm_copyFrom_104 : decode c_Rm_copyFrom 104 = .ok (.invokevirtual 100, 3) := by decide +kernel
theorem d_Rm_copyFrom_107 : decode c_Rm_copyFrom 107 = .ok (.return_, 1) := by decide +kernel
theorem d_Rw_init_0 : decode c_Rw_init 0 = .ok (.aload_n 0, 1) := by decide +kernel
theorem d_Rw_init_1 : decode c_Rw_init 1 = .ok (.invokespecial 1, 3) := by decide +kernel
theorem d_Rw_init_4 : decode c_Rw_init 4 = .ok (.aload_n 0, 1) := by decide +kernel
theorem d_Rw_init_5 : decode c_Rw_init 5 = .ok (.iload_n 1, 1) := by decide +kernel
theorem d_Rw_init_6 : decode c_Rw_init 6 = .ok (.ifCond .ge 7, 3) := by decide +kernel
theorem d_Rw_init_9 : decode c_Rw_init 9 = .ok (.iconst 0, 1) := by decide +kernel
theorem d_Rw_init_10 : decode c_Rw_init 10 = .ok (.goto 4, 3) := by decide +kernel
theorem d_Rw_init_13 : decode c_Rw_init 13 = .ok (.iload_n 1, 1) := by decide +kernel
theorem d_Rw_init_14 : decode c_Rw_init 14 = .ok (.newarray .int, 2) := by decide +kernel
theorem d_Rw_init_16 : decode c_Rw_init 16 = .ok (.putfield 7, 3) := by decide +kernel
theorem d_Rw_init_19 : decode c_Rw_init 19 = .ok (.return_, 1) := by decide +kernel
theorem d_Rw_at_0 : decode c_Rw_at 0 = .ok (.iload_n 1, 1) := by decide +kernel
theorem d_Rw_at_1 : decode c_Rw_at 1 = .ok (.ifCond .lt 21, 3) := by decide +kernel
theorem d_Rw_at_4 : decode c_Rw_at 4 = .ok (.iload_n 1, 1) := by decide +kernel
theorem d_Rw_at_5 : decode c_Rw_at 5 = .ok (.aload_n 0, 1) := by decide +kernel
theorem d_Rw_at_6 : decode c_Rw_at 6 = .ok (.getfield 7, 3) := by decide +kernel
theorem d_Rw_at_9 : decode c_Rw_at 9 = .ok (.arraylength, 1) := by decide +kernel
theorem d_Rw_at_10 : decode c_Rw_at 10 = .ok (.if_icmp .ge 12, 3) := by decide +kernel
theorem d_Rw_at_13 : decode c_Rw_at 13 = .ok (.aload_n 0, 1) := by decide +kernel
theorem d_Rw_at_14 : decode c_Rw_at 14 = .ok (.getfield 7, 3) := by decide +kernel
theorem d_Rw_at_17 : decode c_Rw_at 17 = .ok (.iload_n 1, 1) := by decide +kernel
theorem d_Rw_at_18 : decode c_Rw_at 18 = .ok (.iaload, 1) := by decide +kernel
theorem d_Rw_at_19 : decode c_Rw_at 19 = .ok (.goto 4, 3) := by decide +kernel
theorem d_Rw_at_22 : decode c_Rw_at 22 = .ok (.iconst 0, 1) := by decide +kernel
theorem d_Rw_at_23 : decode c_Rw_at 23 = .ok (.ireturn, 1) := by decide +kernel
theorem d_Rw_put_0 : decode c_Rw_put 0 = .ok (.iload_n 1, 1) := by decide +kernel
theorem d_Rw_put_1 : decode c_Rw_put 1 = .ok (.ifCond .lt 19, 3) := by decide +kernel
theorem d_Rw_put_4 : decode c_Rw_put 4 = .ok (.iload_n 1, 1) := by decide +kernel
theorem d_Rw_put_5 : decode c_Rw_put 5 = .ok (.aload_n 0, 1) := by decide +kernel
theorem d_Rw_put_6 : decode c_Rw_put 6 = .ok (.getfield 7, 3) := by decide +kernel
theorem d_Rw_put_9 : decode c_Rw_put 9 = .ok (.arraylength, 1) := by decide +kernel
theorem d_Rw_put_10 : decode c_Rw_put 10 = .ok (.if_icmp .ge 10, 3) := by decide +kernel
theorem d_Rw_put_13 : decode c_Rw_put 13 = .ok (.aload_n 0, 1) := by decide +kernel
theorem d_Rw_put_14 : decode c_Rw_put 14 = .ok (.getfield 7, 3) := by decide +kernel
theorem d_Rw_put_17 : decode c_Rw_put 17 = .ok (.iload_n 1, 1) := by decide +kernel
theorem d_Rw_put_18 : decode c_Rw_put 18 = .ok (.iload_n 2, 1) := by decide +kernel
theorem d_Rw_put_19 : decode c_Rw_put 19 = .ok (.iastore, 1) := by decide +kernel
theorem d_Rw_put_20 : decode c_Rw_put 20 = .ok (.return_, 1) := by decide +kernel
theorem d_Rw_add_0 : decode c_Rw_add 0 = .ok (.iload_n 1, 1) := by decide +kernel
theorem d_Rw_add_1 : decode c_Rw_add 1 = .ok (.ifCond .lt 22, 3) := by decide +kernel
theorem d_Rw_add_4 : decode c_Rw_add 4 = .ok (.iload_n 1, 1) := by decide +kernel
theorem d_Rw_add_5 : decode c_Rw_add 5 = .ok (.aload_n 0, 1) := by decide +kernel
theorem d_Rw_add_6 : decode c_Rw_add 6 = .ok (.getfield 7, 3) := by decide +kernel
theorem d_Rw_add_9 : decode c_Rw_add 9 = .ok (.arraylength, 1) := by decide +kernel
theorem d_Rw_add_10 : decode c_Rw_add 10 = .ok (.if_icmp .ge 13, 3) := by decide +kernel
theorem d_Rw_add_13 : decode c_Rw_add 13 = .ok (.aload_n 0, 1) := by decide +kernel
theorem d_Rw_add_14 : decode c_Rw_add 14 = .ok (.getfield 7, 3) := by decide +kernel
theorem d_Rw_add_17 : decode c_Rw_add 17 = .ok (.iload_n 1, 1) := by decide +kernel
theorem d_Rw_add_18 : decode c_Rw_add 18 = .ok (.dup2, 1) := by decide +kernel
theorem d_Rw_add_19 : decode c_Rw_add 19 = .ok (.iaload, 1) := by decide +kernel
theorem d_Rw_add_20 : decode c_Rw_add 20 = .ok (.iload_n 2, 1) := by decide +kernel
theorem d_Rw_add_21 : decode c_Rw_add 21 = .ok (.iadd, 1) := by decide +kernel
theorem d_Rw_add_22 : decode c_Rw_add 22 = .ok (.iastore, 1) := by decide +kernel
theorem d_Rw_add_23 : decode c_Rw_add 23 = .ok (.return_, 1) := by decide +kernel
theorem d_Rw_removeAt_0 : decode c_Rw_removeAt 0 = .ok (.iload_n 1, 1) := by decide +kernel
theorem d_Rw_removeAt_1 : decode c_Rw_removeAt 1 = .ok (.ifCond .ge 7, 3) := by decide +kernel
theorem d_Rw_removeAt_4 : decode c_Rw_removeAt 4 = .ok (.iconst 0, 1) := by decide +kernel
theorem d_Rw_removeAt_5 : decode c_Rw_removeAt 5 = .ok (.goto 4, 3) := by decide +kernel
theorem d_Rw_removeAt_8 : decode c_Rw_removeAt 8 = .ok (.iload_n 1, 1) := by decide +kernel
theorem d_Rw_removeAt_9 : decode c_Rw_removeAt 9 = .ok (.istore_n 2, 1) := by decide +kernel
theorem d_Rw_removeAt_10 : decode c_Rw_removeAt 10 = .ok (.iload_n 2, 1) := by decide +kernel
theorem d_Rw_removeAt_11 : decode c_Rw_removeAt 11 = .ok (.aload_n 0, 1) := by decide +kernel
theorem d_Rw_removeAt_12 : decode c_Rw_removeAt 12 = .ok (.getfield 7, 3) := by decide +kernel
theorem d_Rw_removeAt_15 : decode c_Rw_removeAt 15 = .ok (.arraylength, 1) := by decide +kernel
theorem d_Rw_removeAt_16 : decode c_Rw_removeAt 16 = .ok (.iconst 1, 1) := by decide +kernel
theorem d_Rw_removeAt_17 : decode c_Rw_removeAt 17 = .ok (.isub, 1) := by decide +kernel
theorem d_Rw_removeAt_18 : decode c_Rw_removeAt 18 = .ok (.if_icmp .ge 23, 3) := by decide +kernel
theorem d_Rw_removeAt_21 : decode c_Rw_removeAt 21 = .ok (.aload_n 0, 1) := by decide +kernel
theorem d_Rw_removeAt_22 : decode c_Rw_removeAt 22 = .ok (.getfield 7, 3) := by decide +kernel
theorem d_Rw_removeAt_25 : decode c_Rw_removeAt 25 = .ok (.iload_n 2, 1) := by decide +kernel
theorem d_Rw_removeAt_26 : decode c_Rw_removeAt 26 = .ok (.aload_n 0, 1) := by decide +kernel
theorem d_Rw_removeAt_27 : decode c_Rw_removeAt 27 = .ok (.getfield 7, 3) := by decide +kernel
theorem d_Rw_removeAt_30 : decode c_Rw_removeAt 30 = .ok (.iload_n 2, 1) := by decide +kernel
theorem d_Rw_removeAt_31 : decode c_Rw_removeAt 31 = .ok (.iconst 1, 1) := by decide +kernel
theorem d_Rw_removeAt_32 : decode c_Rw_removeAt 32 = .ok (.iadd, 1) := by decide +kernel
theorem d_Rw_removeAt_33 : decode c_Rw_removeAt 33 = .ok (.iaload, 1) := by decide +kernel
theorem d_Rw_removeAt_34 : decode c_Rw_removeAt 34 = .ok (.iastore, 1) := by decide +kernel
theorem d_Rw_removeAt_35 : decode c_Rw_removeAt 35 = .ok (.iinc 2 1, 3) := by decide +kernel
theorem d_Rw_removeAt_38 : decode c_Rw_removeAt 38 = .ok (.goto (-28), 3) := by decide +kernel
theorem d_Rw_removeAt_41 : decode c_Rw_removeAt 41 = .ok (.return_, 1) := by decide +kernel
theorem d_Rw_sum_0 : decode c_Rw_sum 0 = .ok (.iconst 0, 1) := by decide +kernel
theorem d_Rw_sum_1 : decode c_Rw_sum 1 = .ok (.istore_n 1, 1) := by decide +kernel
theorem d_Rw_sum_2 : decode c_Rw_sum 2 = .ok (.iconst 0, 1) := by decide +kernel
theorem d_Rw_sum_3 : decode c_Rw_sum 3 = .ok (.istore_n 2, 1) := by decide +kernel
theorem d_Rw_sum_4 : decode c_Rw_sum 4 = .ok (.iload_n 2, 1) := by decide +kernel
theorem d_Rw_sum_5 : decode c_Rw_sum 5 = .ok (.aload_n 0, 1) := by decide +kernel
theorem d_Rw_sum_6 : decode c_Rw_sum 6 = .ok (.getfield 7, 3) := by decide +kernel
theorem d_Rw_sum_9 : decode c_Rw_sum 9 = .ok (.arraylength, 1) := by decide +kernel
theorem d_Rw_sum_10 : decode c_Rw_sum 10 = .ok (.if_icmp .ge 18, 3) := by decide +kernel
theorem d_Rw_sum_13 : decode c_Rw_sum 13 = .ok (.iload_n 1, 1) := by decide +kernel
theorem d_Rw_sum_14 : decode c_Rw_sum 14 = .ok (.aload_n 0, 1) := by decide +kernel
theorem d_Rw_sum_15 : decode c_Rw_sum 15 = .ok (.getfield 7, 3) := by decide +kernel
theorem d_Rw_sum_18 : decode c_Rw_sum 18 = .ok (.iload_n 2, 1) := by decide +kernel
theorem d_Rw_sum_19 : decode c_Rw_sum 19 = .ok (.iaload, 1) := by decide +kernel
theorem d_Rw_sum_20 : decode c_Rw_sum 20 = .ok (.iadd, 1) := by decide +kernel
theorem d_Rw_sum_21 : decode c_Rw_sum 21 = .ok (.istore_n 1, 1) := by decide +kernel
theorem d_Rw_sum_22 : decode c_Rw_sum 22 = .ok (.iinc 2 1, 3) := by decide +kernel
theorem d_Rw_sum_25 : decode c_Rw_sum 25 = .ok (.goto (-21), 3) := by decide +kernel
theorem d_Rw_sum_28 : decode c_Rw_sum 28 = .ok (.iload_n 1, 1) := by decide +kernel
theorem d_Rw_sum_29 : decode c_Rw_sum 29 = .ok (.ireturn, 1) := by decide +kernel
theorem d_Rw_copyFrom_0 : decode c_Rw_copyFrom 0 = .ok (.aload_n 1, 1) := by decide +kernel
theorem d_Rw_copyFrom_1 : decode c_Rw_copyFrom 1 = .ok (.getfield 7, 3) := by decide +kernel
theorem d_Rw_copyFrom_4 : decode c_Rw_copyFrom 4 = .ok (.iconst 0, 1) := by decide +kernel
theorem d_Rw_copyFrom_5 : decode c_Rw_copyFrom 5 = .ok (.aload_n 0, 1) := by decide +kernel
theorem d_Rw_copyFrom_6 : decode c_Rw_copyFrom 6 = .ok (.getfield 7, 3) := by decide +kernel
theorem d_Rw_copyFrom_9 : decode c_Rw_copyFrom 9 = .ok (.iconst 0, 1) := by decide +kernel
theorem d_Rw_copyFrom_10 : decode c_Rw_copyFrom 10 = .ok (.aload_n 1, 1) := by decide +kernel
theorem d_Rw_copyFrom_11 : decode c_Rw_copyFrom 11 = .ok (.getfield 7, 3) := by decide +kernel
theorem d_Rw_copyFrom_14 : decode c_Rw_copyFrom 14 = .ok (.arraylength, 1) := by decide +kernel
theorem d_Rw_copyFrom_15 : decode c_Rw_copyFrom 15 = .ok (.aload_n 0, 1) := by decide +kernel
theorem d_Rw_copyFrom_16 : decode c_Rw_copyFrom 16 = .ok (.getfield 7, 3) := by decide +kernel
theorem d_Rw_copyFrom_19 : decode c_Rw_copyFrom 19 = .ok (.arraylength, 1) := by decide +kernel
theorem d_Rw_copyFrom_20 : decode c_Rw_copyFrom 20 = .ok (.invokestatic 13, 3) := by decide +kernel
theorem d_Rw_copyFrom_23 : decode c_Rw_copyFrom 23 = .ok (.invokestatic 19, 3) := by decide +kernel
theorem d_Rw_copyFrom_26 : decode c_Rw_copyFrom 26 = .ok (.return_, 1) := by decide +kernel
theorem d_Cc_init_0 : decode c_Cc_init 0 = .ok (.aload_n 0, 1) := by decide +kernel
theorem d_Cc_init_1 : decode c_Cc_init 1 = .ok (.invokespecial 1, 3) := by decide +kernel
theorem d_Cc_init_4 : decode c_Cc_init 4 = .ok (.aload_n 0, 1) := by decide +kernel
theorem d_Cc_init_5 : decode c_Cc_init 5 = .ok (.new 7, 3) := by decide +kernel
theorem d_Cc_init_8 : decode c_Cc_init 8 = .ok (.dup, 1) := by decide +kernel
theorem d_Cc_init_9 : decode c_Cc_init 9 = .ok (.invokespecial 9, 3) := by decide +kernel
theorem d_Cc_init_12 : decode c_Cc_init 12 = .ok (.putfield 10, 3) := by decide +kernel
theorem d_Cc_init_15 : decode c_Cc_init 15 = .ok (.aload_n 0, 1) := by decide +kernel
theorem d_Cc_init_16 : decode c_Cc_init 16 = .ok (.new 7, 3) := by decide +kernel
theorem d_Cc_init_19 : decode c_Cc_init 19 = .ok (.dup, 1) := by decide +kernel
theorem d_Cc_init_20 : decode c_Cc_init 20 = .ok (.invokespecial 9, 3) := by decide +kernel
theorem d_Cc_init_23 : decode c_Cc_init 23 = .ok (.putfield 16, 3) := by decide +kernel
theorem d_Cc_init_26 : decode c_Cc_init 26 = .ok (.aload_n 0, 1) := by decide +kernel
theorem d_Cc_init_27 : decode c_Cc_init 27 = .ok (.new 7, 3) := by decide +kernel
theorem d_Cc_init_30 : decode c_Cc_init 30 = .ok (.dup, 1) := by decide +kernel
theorem d_Cc_init_31 : decode c_Cc_init 31 = .ok (.invokespecial 9, 3) := by decide +kernel
theorem d_Cc_init_34 : decode c_Cc_init 34 = .ok (.putfield 19, 3) := by decide +kernel
theorem d_Cc_init_37 : decode c_Cc_init 37 = .ok (.aload_n 0, 1) := by decide +kernel
theorem d_Cc_init_38 : decode c_Cc_init 38 = .ok (.new 7, 3) := by decide +kernel
theorem d_Cc_init_41 : decode c_Cc_init 41 = .ok (.dup, 1) := by decide +kernel
theorem d_Cc_init_42 : decode c_Cc_init 42 = .ok (.invokespecial 9, 3) := by decide +kernel
theorem d_Cc_init_45 : decode c_Cc_init 45 = .ok (.putfield 22, 3) := by decide +kernel
theorem d_Cc_init_48 : decode c_Cc_init 48 = .ok (.aload_n 0, 1) := by decide +kernel
theorem d_Cc_init_49 : decode c_Cc_init 49 = .ok (.new 25, 3) := by decide +kernel
theorem d_Cc_init_52 : decode c_Cc_init 52 = .ok (.dup, 1) := by decide +kernel
theorem d_Cc_init_53 : decode c_Cc_init 53 = .ok (.invokespecial 27, 3) := by decide +kernel
theorem d_Cc_init_56 : decode c_Cc_init 56 = .ok (.putfield 28, 3) := by decide +kernel
theorem d_Cc_init_59 : decode c_Cc_init 59 = .ok (.aload_n 0, 1) := by decide +kernel
theorem d_Cc_init_60 : decode c_Cc_init 60 = .ok (.new 32, 3) := by decide +kernel
theorem d_Cc_init_63 : decode c_Cc_init 63 = .ok (.dup, 1) := by decide +kernel
theorem d_Cc_init_64 : decode c_Cc_init 64 = .ok (.invokespecial 34, 3) := by decide +kernel
theorem d_Cc_init_67 : decode c_Cc_init 67 = .ok (.putfield 35, 3) := by decide +kernel
theorem d_Cc_init_70 : decode c_Cc_init 70 = .ok (.aload_n 0, 1) := by decide +kernel
theorem d_Cc_init_71 : decode c_Cc_init 71 = .ok (.new 39, 3) := by decide +kernel
end
section
theorem d_Cc_init_74 : decode c_Cc_init 74 = .ok (.dup, 1) := by decide +kernel
theorem d_Cc_init_75 : decode c_Cc_init 75 = .ok (.invokespecial 41, 3) := by decide +kernel
theorem d_Cc_init_78 : decode c_Cc_init 78 = .ok (.putfield 42, 3) := by decide +kernel
theorem d_Cc_init_81 : decode c_Cc_init 81 = .ok (.return_, 1) := by decide +kernel
theorem d_Cc_roll_0 : decode c_Cc_roll 0 = .ok (.iload_n 1, 1) := by decide +kernel
theorem d_Cc_roll_1 : decode c_Cc_roll 1 = .ok (.invokestatic 46, 3) := by decide +kernel
theorem d_Cc_roll_4 : decode c_Cc_roll 4 = .ok (.ifCond .eq 14, 3) := by decide +kernel
theorem d_Cc_roll_7 : decode c_Cc_roll 7 = .ok (.iload_n 2, 1) := by decide +kernel
theorem d_Cc_roll_8 : decode c_Cc_roll 8 = .ok (.iconst 5, 1) := by decide +kernel
theorem d_Cc_roll_9 : decode c_Cc_roll 9 = .ok (.if_icmp .lt 9, 3) := by decide +kernel
theorem d_Cc_roll_12 : decode c_Cc_roll 12 = .ok (.iload_n 2, 1) := by decide +kernel
theorem d_Cc_roll_13 : decode c_Cc_roll 13 = .ok (.bipush 60, 2) := by decide +kernel
theorem d_Cc_roll_15 : decode c_Cc_roll 15 = .ok (.if_icmp .le 6, 3) := by decide +kernel
theorem d_Cc_roll_18 : decode c_Cc_roll 18 = .ok (.bipush (-2), 2) := by decide +kernel
theorem d_Cc_roll_20 : decode c_Cc_roll 20 = .ok (.ireturn, 1) := by decide +kernel
theorem d_Cc_roll_21 : decode c_Cc_roll 21 = .ok (.iload_n 3, 1) := by decide +kernel
theorem d_Cc_roll_22 : decode c_Cc_roll 22 = .ok (.iconst 1, 1) := by decide +kernel
theorem d_Cc_roll_23 : decode c_Cc_roll 23 = .ok (.if_icmp .lt 22, 3) := by decide +kernel
theorem d_Cc_roll_26 : decode c_Cc_roll 26 = .ok (.iload_n 3, 1) := by decide +kernel
theorem d_Cc_roll_27 : decode c_Cc_roll 27 = .ok (.sipush 999, 3) := by decide +kernel
theorem d_Cc_roll_30 : decode c_Cc_roll 30 = .ok (.if_icmp .gt 15, 3) := by decide +kernel
theorem d_Cc_roll_33 : decode c_Cc_roll 33 = .ok (.iload 4, 2) := by decide +kernel
theorem d_Cc_roll_35 : decode c_Cc_roll 35 = .ok (.ifCond .lt 10, 3) := by decide +kernel
theorem d_Cc_roll_38 : decode c_Cc_roll 38 = .ok (.iload 4, 2) := by decide +kernel
theorem d_Cc_roll_40 : decode c_Cc_roll 40 = .ok (.bipush 99, 2) := by decide +kernel
theorem d_Cc_roll_42 : decode c_Cc_roll 42 = .ok (.if_icmp .le 6, 3) := by decide +kernel
theorem d_Cc_roll_45 : decode c_Cc_roll 45 = .ok (.bipush (-2), 2) := by decide +kernel
theorem d_Cc_roll_47 : decode c_Cc_roll 47 = .ok (.ireturn, 1) := by decide +kernel
theorem d_Cc_roll_48 : decode c_Cc_roll 48 = .ok (.aload_n 0, 1) := by decide +kernel
theorem d_Cc_roll_49 : decode c_Cc_roll 49 = .ok (.getfield 10, 3) := by decide +kernel
theorem d_Cc_roll_52 : decode c_Cc_roll 52 = .ok (.getfield 50, 3) := by decide +kernel
theorem d_Cc_roll_55 : decode c_Cc_roll 55 = .ok (.getfield 54, 3) := by decide +kernel
theorem d_Cc_roll_58 : decode c_Cc_roll 58 = .ok (.bipush 12, 2) := by decide +kernel
theorem d_Cc_roll_60 : decode c_Cc_roll 60 = .ok (.if_icmp .lt 6, 3) := by decide +kernel
theorem d_Cc_roll_63 : decode c_Cc_roll 63 = .ok (.bipush (-3), 2) := by decide +kernel
theorem d_Cc_roll_65 : decode c_Cc_roll 65 = .ok (.ireturn, 1) := by decide +kernel
theorem d_Cc_roll_66 : decode c_Cc_roll 66 = .ok (.aload_n 0, 1) := by decide +kernel
theorem d_Cc_roll_67 : decode c_Cc_roll 67 = .ok (.getfield 28, 3) := by decide +kernel
theorem d_Cc_roll_70 : decode c_Cc_roll 70 = .ok (.aload_n 0, 1) := by decide +kernel
theorem d_Cc_roll_71 : decode c_Cc_roll 71 = .ok (.getfield 10, 3) := by decide +kernel
theorem d_Cc_roll_74 : decode c_Cc_roll 74 = .ok (.invokevirtual 60, 3) := by decide +kernel
theorem d_Cc_roll_77 : decode c_Cc_roll 77 = .ok (.aload_n 0, 1) := by decide +kernel
theorem d_Cc_roll_78 : decode c_Cc_roll 78 = .ok (.getfield 10, 3) := by decide +kernel
theorem d_Cc_roll_81 : decode c_Cc_roll 81 = .ok (.getfield 50, 3) := by decide +kernel
theorem d_Cc_roll_84 : decode c_Cc_roll 84 = .ok (.iload_n 1, 1) := by decide +kernel
theorem d_Cc_roll_85 : decode c_Cc_roll 85 = .ok (.iload_n 2, 1) := by decide +kernel
theorem d_Cc_roll_86 : decode c_Cc_roll 86 = .ok (.iload_n 3, 1) := by decide +kernel
theorem d_Cc_roll_87 : decode c_Cc_roll 87 = .ok (.iload 4, 2) := by decide +kernel
theorem d_Cc_roll_89 : decode c_Cc_roll 89 = .ok (.invokevirtual 64, 3) := by decide +kernel
theorem d_Cc_roll_92 : decode c_Cc_roll 92 = .ok (.ireturn, 1) := by decide +kernel
theorem d_Cc_rooms_0 : decode c_Cc_rooms 0 = .ok (.aload_n 0, 1) := by decide +kernel
theorem d_Cc_rooms_1 : decode c_Cc_rooms 1 = .ok (.getfield 35, 3) := by decide +kernel
theorem d_Cc_rooms_4 : decode c_Cc_rooms 4 = .ok (.invokevirtual 68, 3) := by decide +kernel
theorem d_Cc_rooms_7 : decode c_Cc_rooms 7 = .ok (.istore_n 1, 1) := by decide +kernel
theorem d_Cc_rooms_8 : decode c_Cc_rooms 8 = .ok (.iload_n 1, 1) := by decide +kernel
theorem d_Cc_rooms_9 : decode c_Cc_rooms 9 = .ok (.ifCond .lt 8, 3) := by decide +kernel
theorem d_Cc_rooms_12 : decode c_Cc_rooms 12 = .ok (.bipush (-100), 2) := by decide +kernel
theorem d_Cc_rooms_14 : decode c_Cc_rooms 14 = .ok (.iload_n 1, 1) := by decide +kernel
theorem d_Cc_rooms_15 : decode c_Cc_rooms 15 = .ok (.isub, 1) := by decide +kernel
theorem d_Cc_rooms_16 : decode c_Cc_rooms 16 = .ok (.ireturn, 1) := by decide +kernel
theorem d_Cc_rooms_17 : decode c_Cc_rooms 17 = .ok (.aload_n 0, 1) := by decide +kernel
theorem d_Cc_rooms_18 : decode c_Cc_rooms 18 = .ok (.getfield 35, 3) := by decide +kernel
theorem d_Cc_rooms_21 : decode c_Cc_rooms 21 = .ok (.getfield 72, 3) := by decide +kernel
theorem d_Cc_rooms_24 : decode c_Cc_rooms 24 = .ok (.getfield 76, 3) := by decide +kernel
theorem d_Cc_rooms_27 : decode c_Cc_rooms 27 = .ok (.istore_n 2, 1) := by decide +kernel
theorem d_Cc_rooms_28 : decode c_Cc_rooms 28 = .ok (.aload_n 0, 1) := by decide +kernel
theorem d_Cc_rooms_29 : decode c_Cc_rooms 29 = .ok (.getfield 10, 3) := by decide +kernel
theorem d_Cc_rooms_32 : decode c_Cc_rooms 32 = .ok (.getfield 79, 3) := by decide +kernel
theorem d_Cc_rooms_35 : decode c_Cc_rooms 35 = .ok (.getfield 76, 3) := by decide +kernel
theorem d_Cc_rooms_38 : decode c_Cc_rooms 38 = .ok (.iload_n 2, 1) := by decide +kernel
theorem d_Cc_rooms_39 : decode c_Cc_rooms 39 = .ok (.iadd, 1) := by decide +kernel
theorem d_Cc_rooms_40 : decode c_Cc_rooms 40 = .ok (.bipush 20, 2) := by decide +kernel
theorem d_Cc_rooms_42 : decode c_Cc_rooms 42 = .ok (.if_icmp .le 6, 3) := by decide +kernel
theorem d_Cc_rooms_45 : decode c_Cc_rooms 45 = .ok (.bipush (-3), 2) := by decide +kernel
theorem d_Cc_rooms_47 : decode c_Cc_rooms 47 = .ok (.ireturn, 1) := by decide +kernel
theorem d_Cc_rooms_48 : decode c_Cc_rooms 48 = .ok (.aload_n 0, 1) := by decide +kernel
theorem d_Cc_rooms_49 : decode c_Cc_rooms 49 = .ok (.getfield 28, 3) := by decide +kernel
theorem d_Cc_rooms_52 : decode c_Cc_rooms 52 = .ok (.aload_n 0, 1) := by decide +kernel
theorem d_Cc_rooms_53 : decode c_Cc_rooms 53 = .ok (.getfield 10, 3) := by decide +kernel
theorem d_Cc_rooms_56 : decode c_Cc_rooms 56 = .ok (.invokevirtual 60, 3) := by decide +kernel
theorem d_Cc_rooms_59 : decode c_Cc_rooms 59 = .ok (.aload_n 0, 1) := by decide +kernel
theorem d_Cc_rooms_60 : decode c_Cc_rooms 60 = .ok (.getfield 10, 3) := by decide +kernel
theorem d_Cc_rooms_63 : decode c_Cc_rooms 63 = .ok (.getfield 79, 3) := by decide +kernel
theorem d_Cc_rooms_66 : decode c_Cc_rooms 66 = .ok (.aload_n 0, 1) := by decide +kernel
theorem d_Cc_rooms_67 : decode c_Cc_rooms 67 = .ok (.getfield 35, 3) := by decide +kernel
theorem d_Cc_rooms_70 : decode c_Cc_rooms 70 = .ok (.getfield 72, 3) := by decide +kernel
theorem d_Cc_rooms_73 : decode c_Cc_rooms 73 = .ok (.invokevirtual 82, 3) := by decide +kernel
theorem d_Cc_rooms_76 : decode c_Cc_rooms 76 = .ok (.iload_n 2, 1) := by decide +kernel
theorem d_Cc_rooms_77 : decode c_Cc_rooms 77 = .ok (.ireturn, 1) := by decide +kernel
theorem d_Cc_cover_0 : decode c_Cc_cover 0 = .ok (.aload_n 0, 1) := by decide +kernel
theorem d_Cc_cover_1 : decode c_Cc_cover 1 = .ok (.getfield 10, 3) := by decide +kernel
theorem d_Cc_cover_4 : decode c_Cc_cover 4 = .ok (.getfield 79, 3) := by decide +kernel
theorem d_Cc_cover_7 : decode c_Cc_cover 7 = .ok (.iload_n 1, 1) := by decide +kernel
theorem d_Cc_cover_8 : decode c_Cc_cover 8 = .ok (.invokevirtual 86, 3) := by decide +kernel
theorem d_Cc_cover_11 : decode c_Cc_cover 11 = .ok (.ifCond .eq 17, 3) := by decide +kernel
theorem d_Cc_cover_14 : decode c_Cc_cover 14 = .ok (.aload_n 0, 1) := by decide +kernel
theorem d_Cc_cover_15 : decode c_Cc_cover 15 = .ok (.getfield 10, 3) := by decide +kernel
theorem d_Cc_cover_18 : decode c_Cc_cover 18 = .ok (.getfield 50, 3) := by decide +kernel
theorem d_Cc_cover_21 : decode c_Cc_cover 21 = .ok (.iload_n 2, 1) := by decide +kernel
theorem d_Cc_cover_22 : decode c_Cc_cover 22 = .ok (.invokevirtual 89, 3) := by decide +kernel
theorem d_Cc_cover_25 : decode c_Cc_cover 25 = .ok (.ifCond .ne 5, 3) := by decide +kernel
theorem d_Cc_cover_28 : decode c_Cc_cover 28 = .ok (.iconst (-1), 1) := by decide +kernel
theorem d_Cc_cover_29 : decode c_Cc_cover 29 = .ok (.ireturn, 1) := by decide +kernel
theorem d_Cc_cover_30 : decode c_Cc_cover 30 = .ok (.iload_n 3, 1) := by decide +kernel
theorem d_Cc_cover_31 : decode c_Cc_cover 31 = .ok (.invokestatic 90, 3) := by decide +kernel
theorem d_Cc_cover_34 : decode c_Cc_cover 34 = .ok (.ifCond .ne 6, 3) := by decide +kernel
theorem d_Cc_cover_37 : decode c_Cc_cover 37 = .ok (.bipush (-2), 2) := by decide +kernel
theorem d_Cc_cover_39 : decode c_Cc_cover 39 = .ok (.ireturn, 1) := by decide +kernel
theorem d_Cc_cover_40 : decode c_Cc_cover 40 = .ok (.aload_n 0, 1) := by decide +kernel
theorem d_Cc_cover_41 : decode c_Cc_cover 41 = .ok (.getfield 19, 3) := by decide +kernel
theorem d_Cc_cover_44 : decode c_Cc_cover 44 = .ok (.aload_n 0, 1) := by decide +kernel
theorem d_Cc_cover_45 : decode c_Cc_cover 45 = .ok (.getfield 10, 3) := by decide +kernel
theorem d_Cc_cover_48 : decode c_Cc_cover 48 = .ok (.invokevirtual 93, 3) := by decide +kernel
theorem d_Cc_cover_51 : decode c_Cc_cover 51 = .ok (.aload_n 0, 1) := by decide +kernel
theorem d_Cc_cover_52 : decode c_Cc_cover 52 = .ok (.getfield 19, 3) := by decide +kernel
theorem d_Cc_cover_55 : decode c_Cc_cover 55 = .ok (.iload_n 1, 1) := by decide +kernel
theorem d_Cc_cover_56 : decode c_Cc_cover 56 = .ok (.iload_n 2, 1) := by decide +kernel
theorem d_Cc_cover_57 : decode c_Cc_cover 57 = .ok (.iload_n 3, 1) := by decide +kernel
theorem d_Cc_cover_58 : decode c_Cc_cover 58 = .ok (.invokevirtual 96, 3) := by decide +kernel
theorem d_Cc_cover_61 : decode c_Cc_cover 61 = .ok (.istore 4, 2) := by decide +kernel
theorem d_Cc_cover_63 : decode c_Cc_cover 63 = .ok (.iload 4, 2) := by decide +kernel
theorem d_Cc_cover_65 : decode c_Cc_cover 65 = .ok (.ifCond .ge 6, 3) := by decide +kernel
theorem d_Cc_cover_68 : decode c_Cc_cover 68 = .ok (.iload 4, 2) := by decide +kernel
theorem d_Cc_cover_70 : decode c_Cc_cover 70 = .ok (.ireturn, 1) := by decide +kernel
theorem d_Cc_cover_71 : decode c_Cc_cover 71 = .ok (.aload_n 0, 1) := by decide +kernel
theorem d_Cc_cover_72 : decode c_Cc_cover 72 = .ok (.getfield 28, 3) := by decide +kernel
theorem d_Cc_cover_75 : decode c_Cc_cover 75 = .ok (.aload_n 0, 1) := by decide +kernel
theorem d_Cc_cover_76 : decode c_Cc_cover 76 = .ok (.getfield 10, 3) := by decide +kernel
theorem d_Cc_cover_79 : decode c_Cc_cover 79 = .ok (.invokevirtual 60, 3) := by decide +kernel
theorem d_Cc_cover_82 : decode c_Cc_cover 82 = .ok (.aload_n 0, 1) := by decide +kernel
theorem d_Cc_cover_83 : decode c_Cc_cover 83 = .ok (.getfield 10, 3) := by decide +kernel
theorem d_Cc_cover_86 : decode c_Cc_cover 86 = .ok (.aload_n 0, 1) := by decide +kernel
theorem d_Cc_cover_87 : decode c_Cc_cover 87 = .ok (.getfield 19, 3) := by decide +kernel
theorem d_Cc_cover_90 : decode c_Cc_cover 90 = .ok (.invokevirtual 93, 3) := by decide +kernel
theorem d_Cc_cover_93 : decode c_Cc_cover 93 = .ok (.iload 4, 2) := by decide +kernel
theorem d_Cc_cover_95 : decode c_Cc_cover 95 = .ok (.ireturn, 1) := by decide +kernel
theorem d_Cc_takeUp_0 : decode c_Cc_takeUp 0 = .ok (.aload_n 0, 1) := by decide +kernel
theorem d_Cc_takeUp_1 : decode c_Cc_takeUp 1 = .ok (.getfield 10, 3) := by decide +kernel
theorem d_Cc_takeUp_4 : decode c_Cc_takeUp 4 = .ok (.getfield 79, 3) := by decide +kernel
theorem d_Cc_takeUp_7 : decode c_Cc_takeUp 7 = .ok (.iload_n 1, 1) := by decide +kernel
theorem d_Cc_takeUp_8 : decode c_Cc_takeUp 8 = .ok (.invokevirtual 86, 3) := by decide +kernel
theorem d_Cc_takeUp_11 : decode c_Cc_takeUp 11 = .ok (.ifCond .ne 5, 3) := by decide +kernel
theorem d_Cc_takeUp_14 : decode c_Cc_takeUp 14 = .ok (.iconst (-1), 1) := by decide +kernel
theorem d_Cc_takeUp_15 : decode c_Cc_takeUp 15 = .ok (.ireturn, 1) := by decide +kernel
theorem d_Cc_takeUp_16 : decode c_Cc_takeUp 16 = .ok (.aload_n 0, 1) := by decide +kernel
theorem d_Cc_takeUp_17 : decode c_Cc_takeUp 17 = .ok (.getfield 10, 3) := by decide +kernel
theorem d_Cc_takeUp_20 : decode c_Cc_takeUp 20 = .ok (.getfield 79, 3) := by decide +kernel
theorem d_Cc_takeUp_23 : decode c_Cc_takeUp 23 = .ok (.iload_n 1, 1) := by decide +kernel
theorem d_Cc_takeUp_24 : decode c_Cc_takeUp 24 = .ok (.invokevirtual 100, 3) := by decide +kernel
theorem d_Cc_takeUp_27 : decode c_Cc_takeUp 27 = .ok (.ifCond .ne 6, 3) := by decide +kernel
theorem d_Cc_takeUp_30 : decode c_Cc_takeUp 30 = .ok (.bipush (-5), 2) := by decide +kernel
theorem d_Cc_takeUp_32 : decode c_Cc_takeUp 32 = .ok (.ireturn, 1) := by decide +kernel
theorem d_Cc_takeUp_33 : decode c_Cc_takeUp 33 = .ok (.aload_n 0, 1) := by decide +kernel
theorem d_Cc_takeUp_34 : decode c_Cc_takeUp 34 = .ok (.getfield 28, 3) := by decide +kernel
theorem d_Cc_takeUp_37 : decode c_Cc_takeUp 37 = .ok (.aload_n 0, 1) := by decide +kernel
theorem d_Cc_takeUp_38 : decode c_Cc_takeUp 38 = .ok (.getfield 10, 3) := by decide +kernel
theorem d_Cc_takeUp_41 : decode c_Cc_takeUp 41 = .ok (.invokevirtual 60, 3) := by decide +kernel
theorem d_Cc_takeUp_44 : decode c_Cc_takeUp 44 = .ok (.aload_n 0, 1) := by decide +kernel
theorem d_Cc_takeUp_45 : decode c_Cc_takeUp 45 = .ok (.getfield 10, 3) := by decide +kernel
theorem d_Cc_takeUp_48 : decode c_Cc_takeUp 48 = .ok (.iload_n 1, 1) := by decide +kernel
theorem d_Cc_takeUp_49 : decode c_Cc_takeUp 49 = .ok (.invokevirtual 103, 3) := by decide +kernel
theorem d_Cc_takeUp_52 : decode c_Cc_takeUp 52 = .ok (.ireturn, 1) := by decide +kernel
theorem d_Cc_sell_0 : decode c_Cc_sell 0 = .ok (.aload_n 0, 1) := by decide +kernel
theorem d_Cc_sell_1 : decode c_Cc_sell 1 = .ok (.getfield 10, 3) := by decide +kernel
theorem d_Cc_sell_4 : decode c_Cc_sell 4 = .ok (.getfield 107, 3) := by decide +kernel
theorem d_Cc_sell_7 : decode c_Cc_sell 7 = .ok (.iload_n 1, 1) := by decide +kernel
theorem d_Cc_sell_8 : decode c_Cc_sell 8 = .ok (.invokevirtual 111, 3) := by decide +kernel
theorem d_Cc_sell_11 : decode c_Cc_sell 11 = .ok (.istore_n 2, 1) := by decide +kernel
theorem d_Cc_sell_12 : decode c_Cc_sell 12 = .ok (.iload_n 2, 1) := by decide +kernel
theorem d_Cc_sell_13 : decode c_Cc_sell 13 = .ok (.ifCond .ge 5, 3) := by decide +kernel
theorem d_Cc_sell_16 : decode c_Cc_sell 16 = .ok (.iconst (-1), 1) := by decide +kernel
theorem d_Cc_sell_17 : decode c_Cc_sell 17 = .ok (.ireturn, 1) := by decide +kernel
theorem d_Cc_sell_18 : decode c_Cc_sell 18 = .ok (.aload_n 0, 1) := by decide +kernel
theorem d_Cc_sell_19 : decode c_Cc_sell 19 = .ok (.getfield 28, 3) := by decide +kernel
theorem d_Cc_sell_22 : decode c_Cc_sell 22 = .ok (.aload_n 0, 1) := by decide +kernel
theorem d_Cc_sell_23 : decode c_Cc_sell 23 = .ok (.getfield 10, 3) := by decide +kernel
theorem d_Cc_sell_26 : decode c_Cc_sell 26 = .ok (.invokevirtual 60, 3) := by decide +kernel
theorem d_Cc_sell_29 : decode c_Cc_sell 29 = .ok (.aload_n 0, 1) := by decide +kernel
theorem d_Cc_sell_30 : decode c_Cc_sell 30 = .ok (.getfield 10, 3) := by decide +kernel
theorem d_Cc_sell_33 : decode c_Cc_sell 33 = .ok (.iload_n 2, 1) := by decide +kernel
theorem d_Cc_sell_34 : decode c_Cc_sell 34 = .ok (.invokevirtual 116, 3) := by decide +kernel
theorem d_Cc_sell_37 : decode c_Cc_sell 37 = .ok (.ireturn, 1) := by decide +kernel
theorem d_Cc_clear_0 : decode c_Cc_clear 0 = .ok (.aload_n 0, 1) := by decide +kernel
theorem d_Cc_clear_1 : decode c_Cc_clear 1 = .ok (.getfield 10, 3) := by decide +kernel
theorem d_Cc_clear_4 : decode c_Cc_clear 4 = .ok (.getfield 50, 3) := by decide +kernel
theorem d_Cc_clear_7 : decode c_Cc_clear 7 = .ok (.iload_n 1, 1) := by decide +kernel
theorem d_Cc_clear_8 : decode c_Cc_clear 8 = .ok (.invokevirtual 89, 3) := by decide +kernel
theorem d_Cc_clear_11 : decode c_Cc_clear 11 = .ok (.ifCond .ne 5, 3) := by decide +kernel
theorem d_Cc_clear_14 : decode c_Cc_clear 14 = .ok (.iconst (-1), 1) := by decide +kernel
theorem d_Cc_clear_15 : decode c_Cc_clear 15 = .ok (.ireturn, 1) := by decide +kernel
theorem d_Cc_clear_16 : decode c_Cc_clear 16 = .ok (.iload_n 2, 1) := by decide +kernel
theorem d_Cc_clear_17 : decode c_Cc_clear 17 = .ok (.iconst 1, 1) := by decide +kernel
theorem d_Cc_clear_18 : decode c_Cc_clear 18 = .ok (.if_icmp .lt 10, 3) := by decide +kernel
theorem d_Cc_clear_21 : decode c_Cc_clear 21 = .ok (.iload_n 2, 1) := by decide +kernel
theorem d_Cc_clear_22 : decode c_Cc_clear 22 = .ok (.sipush 9999, 3) := by decide +kernel
theorem d_Cc_clear_25 : decode c_Cc_clear 25 = .ok (.if_icmp .le 6, 3) := by decide +kernel
theorem d_Cc_clear_28 : decode c_Cc_clear 28 = .ok (.bipush (-2), 2) := by decide +kernel
theorem d_Cc_clear_30 : decode c_Cc_clear 30 = .ok (.ireturn, 1) := by decide +kernel
theorem d_Cc_clear_31 : decode c_Cc_clear 31 = .ok (.aload_n 0, 1) := by decide +kernel
theorem d_Cc_clear_32 : decode c_Cc_clear 32 = .ok (.getfield 10, 3) := by decide +kernel
theorem d_Cc_clear_35 : decode c_Cc_clear 35 = .ok (.getfield 107, 3) := by decide +kernel
theorem d_Cc_clear_38 : decode c_Cc_clear 38 = .ok (.iload_n 1, 1) := by decide +kernel
theorem d_Cc_clear_39 : decode c_Cc_clear 39 = .ok (.iload_n 2, 1) := by decide +kernel
theorem d_Cc_clear_40 : decode c_Cc_clear 40 = .ok (.invokevirtual 119, 3) := by decide +kernel
theorem d_Cc_clear_43 : decode c_Cc_clear 43 = .ok (.ifCond .ne 6, 3) := by decide +kernel
theorem d_Cc_clear_46 : decode c_Cc_clear 46 = .ok (.bipush (-5), 2) := by decide +kernel
theorem d_Cc_clear_48 : decode c_Cc_clear 48 = .ok (.ireturn, 1) := by decide +kernel
theorem d_Cc_clear_49 : decode c_Cc_clear 49 = .ok (.aload_n 0, 1) := by decide +kernel
theorem d_Cc_clear_50 : decode c_Cc_clear 50 = .ok (.getfield 28, 3) := by decide +kernel
theorem d_Cc_clear_53 : decode c_Cc_clear 53 = .ok (.aload_n 0, 1) := by decide +kernel
theorem d_Cc_clear_54 : decode c_Cc_clear 54 = .ok (.getfield 10, 3) := by decide +kernel
theorem d_Cc_clear_57 : decode c_Cc_clear 57 = .ok (.invokevirtual 60, 3) := by decide +kernel
theorem d_Cc_clear_60 : decode c_Cc_clear 60 = .ok (.aload_n 0, 1) := by decide +kernel
theorem d_Cc_clear_61 : decode c_Cc_clear 61 = .ok (.getfield 10, 3) := by decide +kernel
theorem d_Cc_clear_64 : decode c_Cc_clear 64 = .ok (.iload_n 1, 1) := by decide +kernel
theorem d_Cc_clear_65 : decode c_Cc_clear 65 = .ok (.iload_n 2, 1) := by decide +kernel
theorem d_Cc_clear_66 : decode c_Cc_clear 66 = .ok (.invokevirtual 123, 3) := by decide +kernel
theorem d_Cc_clear_69 : decode c_Cc_clear 69 = .ok (.ireturn, 1) := by decide +kernel
theorem d_Cc_set_0 : decode c_Cc_set 0 = .ok (.iload_n 1, 1) := by decide +kernel
theorem d_Cc_set_1 : decode c_Cc_set 1 = .ok (.iload_n 2, 1) := by decide +kernel
theorem d_Cc_set_2 : decode c_Cc_set 2 = .ok (.invokestatic 126, 3) := by decide +kernel
theorem d_Cc_set_5 : decode c_Cc_set 5 = .ok (.ifCond .ne 6, 3) := by decide +kernel
theorem d_Cc_set_8 : decode c_Cc_set 8 = .ok (.bipush (-2), 2) := by decide +kernel
theorem d_Cc_set_10 : decode c_Cc_set 10 = .ok (.ireturn, 1) := by decide +kernel
theorem d_Cc_set_11 : decode c_Cc_set 11 = .ok (.aload_n 0, 1) := by decide +kernel
theorem d_Cc_set_12 : decode c_Cc_set 12 = .ok (.getfield 10, 3) := by decide +kernel
theorem d_Cc_set_15 : decode c_Cc_set 15 = .ok (.getfield 130, 3) := by decide +kernel
theorem d_Cc_set_18 : decode c_Cc_set 18 = .ok (.iload_n 1, 1) := by decide +kernel
theorem d_Cc_set_19 : decode c_Cc_set 19 = .ok (.invokevirtual 134, 3) := by decide +kernel
theorem d_Cc_set_22 : decode c_Cc_set 22 = .ok (.istore_n 3, 1) := by decide +kernel
theorem d_Cc_set_23 : decode c_Cc_set 23 = .ok (.iload_n 2, 1) := by decide +kernel
theorem d_Cc_set_24 : decode c_Cc_set 24 = .ok (.iload_n 3, 1) := by decide +kernel
theorem d_Cc_set_25 : decode c_Cc_set 25 = .ok (.if_icmp .ne 6, 3) := by decide +kernel
theorem d_Cc_set_28 : decode c_Cc_set 28 = .ok (.bipush (-5), 2) := by decide +kernel
theorem d_Cc_set_30 : decode c_Cc_set 30 = .ok (.ireturn, 1) := by decide +kernel
theorem d_Cc_set_31 : decode c_Cc_set 31 = .ok (.aload_n 0, 1) := by decide +kernel
theorem d_Cc_set_32 : decode c_Cc_set 32 = .ok (.getfield 28, 3) := by decide +kernel
theorem d_Cc_set_35 : decode c_Cc_set 35 = .ok (.aload_n 0, 1) := by decide +kernel
theorem d_Cc_set_36 : decode c_Cc_set 36 = .ok (.getfield 10, 3) := by decide +kernel
theorem d_Cc_set_39 : decode c_Cc_set 39 = .ok (.invokevirtual 60, 3) := by decide +kernel
theorem d_Cc_set_42 : decode c_Cc_set 42 = .ok (.aload_n 0, 1) := by decide +kernel
theorem d_Cc_set_43 : decode c_Cc_set 43 = .ok (.getfield 10, 3) := by decide +kernel
theorem d_Cc_set_46 : decode c_Cc_set 46 = .ok (.getfield 130, 3) := by decide +kernel
theorem d_Cc_set_49 : decode c_Cc_set 49 = .ok (.iload_n 1, 1) := by decide +kernel
theorem d_Cc_set_50 : decode c_Cc_set 50 = .ok (.iload_n 2, 1) := by decide +kernel
theorem d_Cc_set_51 : decode c_Cc_set 51 = .ok (.invokevirtual 139, 3) := by decide +kernel
theorem d_Cc_set_54 : decode c_Cc_set 54 = .ok (.iload_n 3, 1) := by decide +kernel
theorem d_Cc_set_55 : decode c_Cc_set 55 = .ok (.ireturn, 1) := by decide +kernel
theorem d_Cc_isSetting_0 : decode c_Cc_isSetting 0 = .ok (.iload_n 0, 1) := by decide +kernel
theorem d_Cc_isSetting_1 : decode c_Cc_isSetting 1 = .ok (.tableswitch 115 0 4 #[35, 50, 67, 83, 100], 35) := by decide +kernel
theorem d_Cc_isSetting_36 : decode c_Cc_isSetting 36 = .ok (.iload_n 1, 1) := by decide +kernel
theorem d_Cc_isSetting_37 : decode c_Cc_isSetting 37 = .ok (.ifCond .lt 12, 3) := by decide +kernel
theorem d_Cc_isSetting_40 : decode c_Cc_isSetting 40 = .ok (.iload_n 1, 1) := by decide +kernel
theorem d_Cc_isSetting_41 : decode c_Cc_isSetting 41 = .ok (.iconst 2, 1) := by decide +kernel
theorem d_Cc_isSetting_42 : decode c_Cc_isSetting 42 = .ok (.if_icmp .gt 7, 3) := by decide +kernel
theorem d_Cc_isSetting_45 : decode c_Cc_isSetting 45 = .ok (.iconst 1, 1) := by decide +kernel
theorem d_Cc_isSetting_46 : decode c_Cc_isSetting 46 = .ok (.goto 4, 3) := by decide +kernel
theorem d_Cc_isSetting_49 : decode c_Cc_isSetting 49 = .ok (.iconst 0, 1) := by decide +kernel
theorem d_Cc_isSetting_50 : decode c_Cc_isSetting 50 = .ok (.ireturn, 1) := by decide +kernel
theorem d_Cc_isSetting_51 : decode c_Cc_isSetting 51 = .ok (.iload_n 1, 1) := by decide +kernel
theorem d_Cc_isSetting_52 : decode c_Cc_isSetting 52 = .ok (.iconst 1, 1) := by decide +kernel
theorem d_Cc_isSetting_53 : decode c_Cc_isSetting 53 = .ok (.if_icmp .lt 13, 3) := by decide +kernel
theorem d_Cc_isSetting_56 : decode c_Cc_isSetting 56 = .ok (.iload_n 1, 1) := by decide +kernel
theorem d_Cc_isSetting_57 : decode c_Cc_isSetting 57 = .ok (.bipush 20, 2) := by decide +kernel
theorem d_Cc_isSetting_59 : decode c_Cc_isSetting 59 = .ok (.if_icmp .gt 7, 3) := by decide +kernel
theorem d_Cc_isSetting_62 : decode c_Cc_isSetting 62 = .ok (.iconst 1, 1) := by decide +kernel
theorem d_Cc_isSetting_63 : decode c_Cc_isSetting 63 = .ok (.goto 4, 3) := by decide +kernel
theorem d_Cc_isSetting_66 : decode c_Cc_isSetting 66 = .ok (.iconst 0, 1) := by decide +kernel
theorem d_Cc_isSetting_67 : decode c_Cc_isSetting 67 = .ok (.ireturn, 1) := by decide +kernel
theorem d_Cc_isSetting_68 : decode c_Cc_isSetting 68 = .ok (.iload_n 1, 1) := by decide +kernel
theorem d_Cc_isSetting_69 : decode c_Cc_isSetting 69 = .ok (.ifCond .lt 13, 3) := by decide +kernel
theorem d_Cc_isSetting_72 : decode c_Cc_isSetting 72 = .ok (.iload_n 1, 1) := by decide +kernel
theorem d_Cc_isSetting_73 : decode c_Cc_isSetting 73 = .ok (.bipush 99, 2) := by decide +kernel
theorem d_Cc_isSetting_75 : decode c_Cc_isSetting 75 = .ok (.if_icmp .gt 7, 3) := by decide +kernel
theorem d_Cc_isSetting_78 : decode c_Cc_isSetting 78 = .ok (.iconst 1, 1) := by decide +kernel
theorem d_Cc_isSetting_79 : decode c_Cc_isSetting 79 = .ok (.goto 4, 3) := by decide +kernel
theorem d_Cc_isSetting_82 : decode c_Cc_isSetting 82 = .ok (.iconst 0, 1) := by decide +kernel
theorem d_Cc_isSetting_83 : decode c_Cc_isSetting 83 = .ok (.ireturn, 1) := by decide +kernel
theorem d_Cc_isSetting_84 : decode c_Cc_isSetting 84 = .ok (.iload_n 1, 1) := by decide +kernel
theorem d_Cc_isSetting_85 : decode c_Cc_isSetting 85 = .ok (.iconst 1, 1) := by decide +kernel
theorem d_Cc_isSetting_86 : decode c_Cc_isSetting 86 = .ok (.if_icmp .lt 13, 3) := by decide +kernel
theorem d_Cc_isSetting_89 : decode c_Cc_isSetting 89 = .ok (.iload_n 1, 1) := by decide +kernel
theorem d_Cc_isSetting_90 : decode c_Cc_isSetting 90 = .ok (.bipush 9, 2) := by decide +kernel
theorem d_Cc_isSetting_92 : decode c_Cc_isSetting 92 = .ok (.if_icmp .gt 7, 3) := by decide +kernel
theorem d_Cc_isSetting_95 : decode c_Cc_isSetting 95 = .ok (.iconst 1, 1) := by decide +kernel
theorem d_Cc_isSetting_96 : decode c_Cc_isSetting 96 = .ok (.goto 4, 3) := by decide +kernel
theorem d_Cc_isSetting_99 : decode c_Cc_isSetting 99 = .ok (.iconst 0, 1) := by decide +kernel
theorem d_Cc_isSetting_100 : decode c_Cc_isSetting 100 = .ok (.ireturn, 1) := by decide +kernel
theorem d_Cc_isSetting_101 : decode c_Cc_isSetting 101 = .ok (.iload_n 1, 1) := by decide +kernel
theorem d_Cc_isSetting_102 : decode c_Cc_isSetting 102 = .ok (.ifCond .eq 8, 3) := by decide +kernel
theorem d_Cc_isSetting_105 : decode c_Cc_isSetting 105 = .ok (.iload_n 1, 1) := by decide +kernel
theorem d_Cc_isSetting_106 : decode c_Cc_isSetting 106 = .ok (.iconst 1, 1) := by decide +kernel
theorem d_Cc_isSetting_107 : decode c_Cc_isSetting 107 = .ok (.if_icmp .ne 7, 3) := by decide +kernel
theorem d_Cc_isSetting_110 : decode c_Cc_isSetting 110 = .ok (.iconst 1, 1) := by decide +kernel
theorem d_Cc_isSetting_111 : decode c_Cc_isSetting 111 = .ok (.goto 4, 3) := by decide +kernel
theorem d_Cc_isSetting_114 : decode c_Cc_isSetting 114 = .ok (.iconst 0, 1) := by decide +kernel
theorem d_Cc_isSetting_115 : decode c_Cc_isSetting 115 = .ok (.ireturn, 1) := by decide +kernel
theorem d_Cc_isSetting_116 : decode c_Cc_isSetting 116 = .ok (.iconst 0, 1) := by decide +kernel
theorem d_Cc_isSetting_117 : decode c_Cc_isSetting 117 = .ok (.ireturn, 1) := by decide +kernel
theorem d_Cc_type_0 : decode c_Cc_type 0 = .ok (.aload_n 0, 1) := by decide +kernel
theorem d_Cc_type_1 : decode c_Cc_type 1 = .ok (.getfield 35, 3) := by decide +kernel
theorem d_Cc_type_4 : decode c_Cc_type 4 = .ok (.iload_n 1, 1) := by decide +kernel
theorem d_Cc_type_5 : decode c_Cc_type 5 = .ok (.invokevirtual 143, 3) := by decide +kernel
theorem d_Cc_type_8 : decode c_Cc_type 8 = .ok (.ifCond .eq 13, 3) := by decide +kernel
theorem d_Cc_type_11 : decode c_Cc_type 11 = .ok (.aload_n 0, 1) := by decide +kernel
theorem d_Cc_type_12 : decode c_Cc_type 12 = .ok (.getfield 35, 3) := by decide +kernel
theorem d_Cc_type_15 : decode c_Cc_type 15 = .ok (.getfield 146, 3) := by decide +kernel
theorem d_Cc_type_18 : decode c_Cc_type 18 = .ok (.goto 5, 3) := by decide +kernel
theorem d_Cc_type_21 : decode c_Cc_type 21 = .ok (.bipush (-3), 2) := by decide +kernel
theorem d_Cc_type_23 : decode c_Cc_type 23 = .ok (.ireturn, 1) := by decide +kernel
theorem d_Cc_clearText_0 : decode c_Cc_clearText 0 = .ok (.aload_n 0, 1) := by decide +kernel
theorem d_Cc_clearText_1 : decode c_Cc_clearText 1 = .ok (.getfield 35, 3) := by decide +kernel
theorem d_Cc_clearText_4 : decode c_Cc_clearText 4 = .ok (.getfield 146, 3) := by decide +kernel
theorem d_Cc_clearText_7 : decode c_Cc_clearText 7 = .ok (.istore_n 1, 1) := by decide +kernel
theorem d_Cc_clearText_8 : decode c_Cc_clearText 8 = .ok (.aload_n 0, 1) := by decide +kernel
theorem d_Cc_clearText_9 : decode c_Cc_clearText 9 = .ok (.getfield 35, 3) := by decide +kernel
theorem d_Cc_clearText_12 : decode c_Cc_clearText 12 = .ok (.iconst 0, 1) := by decide +kernel
theorem d_Cc_clearText_13 : decode c_Cc_clearText 13 = .ok (.putfield 146, 3) := by decide +kernel
theorem d_Cc_clearText_16 : decode c_Cc_clearText 16 = .ok (.iload_n 1, 1) := by decide +kernel
theorem d_Cc_clearText_17 : decode c_Cc_clearText 17 = .ok (.ireturn, 1) := by decide +kernel
theorem d_Cc_fault_0 : decode c_Cc_fault 0 = .ok (.aload_n 0, 1) := by decide +kernel
theorem d_Cc_fault_1 : decode c_Cc_fault 1 = .ok (.getfield 35, 3) := by decide +kernel
theorem d_Cc_fault_4 : decode c_Cc_fault 4 = .ok (.invokevirtual 68, 3) := by decide +kernel
theorem d_Cc_fault_7 : decode c_Cc_fault 7 = .ok (.ireturn, 1) := by decide +kernel
theorem d_Cc_undo_0 : decode c_Cc_undo 0 = .ok (.aload_n 0, 1) := by decide +kernel
theorem d_Cc_undo_1 : decode c_Cc_undo 1 = .ok (.getfield 28, 3) := by decide +kernel
theorem d_Cc_undo_4 : decode c_Cc_undo 4 = .ok (.getfield 149, 3) := by decide +kernel
theorem d_Cc_undo_7 : decode c_Cc_undo 7 = .ok (.ifCond .ne 6, 3) := by decide +kernel
theorem d_Cc_undo_10 : decode c_Cc_undo 10 = .ok (.bipush (-5), 2) := by decide +kernel
theorem d_Cc_undo_12 : decode c_Cc_undo 12 = .ok (.ireturn, 1) := by decide +kernel
theorem d_Cc_undo_13 : decode c_Cc_undo 13 = .ok (.aload_n 0, 1) := by decide +kernel
theorem d_Cc_undo_14 : decode c_Cc_undo 14 = .ok (.getfield 28, 3) := by decide +kernel
theorem d_Cc_undo_17 : decode c_Cc_undo 17 = .ok (.aload_n 0, 1) := by decide +kernel
theorem d_Cc_undo_18 : decode c_Cc_undo 18 = .ok (.getfield 10, 3) := by decide +kernel
theorem d_Cc_undo_21 : decode c_Cc_undo 21 = .ok (.invokevirtual 150, 3) := by decide +kernel
theorem d_Cc_undo_24 : decode c_Cc_undo 24 = .ok (.aload_n 0, 1) := by decide +kernel
theorem d_Cc_undo_25 : decode c_Cc_undo 25 = .ok (.getfield 28, 3) := by decide +kernel
theorem d_Cc_undo_28 : decode c_Cc_undo 28 = .ok (.getfield 149, 3) := by decide +kernel
theorem d_Cc_undo_31 : decode c_Cc_undo 31 = .ok (.ireturn, 1) := by decide +kernel
theorem d_Cc_keep_0 : decode c_Cc_keep 0 = .ok (.aload_n 0, 1) := by decide +kernel
theorem d_Cc_keep_1 : decode c_Cc_keep 1 = .ok (.getfield 16, 3) := by decide +kernel
theorem d_Cc_keep_4 : decode c_Cc_keep 4 = .ok (.aload_n 0, 1) := by decide +kernel
theorem d_Cc_keep_5 : decode c_Cc_keep 5 = .ok (.getfield 10, 3) := by decide +kernel
theorem d_Cc_keep_8 : decode c_Cc_keep 8 = .ok (.invokevirtual 93, 3) := by decide +kernel
theorem d_Cc_keep_11 : decode c_Cc_keep 11 = .ok (.aload_n 0, 1) := by decide +kernel
theorem d_Cc_keep_12 : decode c_Cc_keep 12 = .ok (.iconst 1, 1) := by decide +kernel
theorem d_Cc_keep_13 : decode c_Cc_keep 13 = .ok (.putfield 153, 3) := by decide +kernel
theorem d_Cc_keep_16 : decode c_Cc_keep 16 = .ok (.aload_n 0, 1) := by decide +kernel
theorem d_Cc_keep_17 : decode c_Cc_keep 17 = .ok (.getfield 10, 3) := by decide +kernel
theorem d_Cc_keep_20 : decode c_Cc_keep 20 = .ok (.getfield 79, 3) := by decide +kernel
theorem d_Cc_keep_23 : decode c_Cc_keep 23 = .ok (.getfield 76, 3) := by decide +kernel
theorem d_Cc_keep_26 : decode c_Cc_keep 26 = .ok (.ireturn, 1) := by decide +kernel
theorem d_Cc_restore_0 : decode c_Cc_restore 0 = .ok (.aload_n 0, 1) := by decide +kernel
theorem d_Cc_restore_1 : decode c_Cc_restore 1 = .ok (.getfield 153, 3) := by decide +kernel
theorem d_Cc_restore_4 : decode c_Cc_restore 4 = .ok (.ifCond .ne 6, 3) := by decide +kernel
theorem d_Cc_restore_7 : decode c_Cc_restore 7 = .ok (.bipush (-5), 2) := by decide +kernel
theorem d_Cc_restore_9 : decode c_Cc_restore 9 = .ok (.ireturn, 1) := by decide +kernel
theorem d_Cc_restore_10 : decode c_Cc_restore 10 = .ok (.aload_n 0, 1) := by decide +kernel
theorem d_Cc_restore_11 : decode c_Cc_restore 11 = .ok (.getfield 28, 3) := by decide +kernel
theorem d_Cc_restore_14 : decode c_Cc_restore 14 = .ok (.aload_n 0, 1) := by decide +kernel
theorem d_Cc_restore_15 : decode c_Cc_restore 15 = .ok (.getfield 10, 3) := by decide +kernel
theorem d_Cc_restore_18 : decode c_Cc_restore 18 = .ok (.invokevirtual 60, 3) := by decide +kernel
theorem d_Cc_restore_21 : decode c_Cc_restore 21 = .ok (.aload_n 0, 1) := by decide +kernel
theorem d_Cc_restore_22 : decode c_Cc_restore 22 = .ok (.getfield 10, 3) := by decide +kernel
theorem d_Cc_restore_25 : decode c_Cc_restore 25 = .ok (.aload_n 0, 1) := by decide +kernel
theorem d_Cc_restore_26 : decode c_Cc_restore 26 = .ok (.getfield 16, 3) := by decide +kernel
theorem d_Cc_restore_29 : decode c_Cc_restore 29 = .ok (.invokevirtual 93, 3) := by decide +kernel
theorem d_Cc_restore_32 : decode c_Cc_restore 32 = .ok (.aload_n 0, 1) := by decide +kernel
theorem d_Cc_restore_33 : decode c_Cc_restore 33 = .ok (.getfield 10, 3) := by decide +kernel
theorem d_Cc_restore_36 : decode c_Cc_restore 36 = .ok (.getfield 79, 3) := by decide +kernel
theorem d_Cc_restore_39 : decode c_Cc_restore 39 = .ok (.getfield 76, 3) := by decide +kernel
theorem d_Cc_restore_42 : decode c_Cc_restore 42 = .ok (.ireturn, 1) := by decide +kernel
theorem d_Cc_rollOf_0 : decode c_Cc_rollOf 0 = .ok (.aload_n 0, 1) := by decide +kernel
theorem d_Cc_rollOf_1 : decode c_Cc_rollOf 1 = .ok (.getfield 10, 3) := by decide +kernel
theorem d_Cc_rollOf_4 : decode c_Cc_rollOf 4 = .ok (.getfield 50, 3) := by decide +kernel
theorem d_Cc_rollOf_7 : decode c_Cc_rollOf 7 = .ok (.iload_n 1, 1) := by decide +kernel
theorem d_Cc_rollOf_8 : decode c_Cc_rollOf 8 = .ok (.invokevirtual 89, 3) := by decide +kernel
theorem d_Cc_rollOf_11 : decode c_Cc_rollOf 11 = .ok (.ifCond .ne 5, 3) := by decide +kernel
theorem d_Cc_rollOf_14 : decode c_Cc_rollOf 14 = .ok (.iconst (-1), 1) := by decide +kernel
theorem d_Cc_rollOf_15 : decode c_Cc_rollOf 15 = .ok (.ireturn, 1) := by decide +kernel
theorem d_Cc_rollOf_16 : decode c_Cc_rollOf 16 = .ok (.iload_n 2, 1) := by decide +kernel
theorem d_Cc_rollOf_17 : decode c_Cc_rollOf 17 = .ok (.tableswitch 199 0 9 #[55, 70, 85, 100, 115, 127, 139, 154, 169, 184], 55) := by decide +kernel
theorem d_Cc_rollOf_72 : decode c_Cc_rollOf 72 = .ok (.aload_n 0, 1) := by decide +kernel
theorem d_Cc_rollOf_73 : decode c_Cc_rollOf 73 = .ok (.getfield 10, 3) := by decide +kernel
theorem d_Cc_rollOf_76 : decode c_Cc_rollOf 76 = .ok (.getfield 50, 3) := by decide +kernel
theorem d_Cc_rollOf_79 : decode c_Cc_rollOf 79 = .ok (.getfield 157, 3) := by decide +kernel
theorem d_Cc_rollOf_82 : decode c_Cc_rollOf 82 = .ok (.iload_n 1, 1) := by decide +kernel
theorem d_Cc_rollOf_83 : decode c_Cc_rollOf 83 = .ok (.invokevirtual 134, 3) := by decide +kernel
theorem d_Cc_rollOf_86 : decode c_Cc_rollOf 86 = .ok (.ireturn, 1) := by decide +kernel
theorem d_Cc_rollOf_87 : decode c_Cc_rollOf 87 = .ok (.aload_n 0, 1) := by decide +kernel
theorem d_Cc_rollOf_88 : decode c_Cc_rollOf 88 = .ok (.getfield 10, 3) := by decide +kernel
theorem d_Cc_rollOf_91 : decode c_Cc_rollOf 91 = .ok (.getfield 50, 3) := by decide +kernel
theorem d_Cc_rollOf_94 : decode c_Cc_rollOf 94 = .ok (.getfield 160, 3) := by decide +kernel
theorem d_Cc_rollOf_97 : decode c_Cc_rollOf 97 = .ok (.iload_n 1, 1) := by decide +kernel
theorem d_Cc_rollOf_98 : decode c_Cc_rollOf 98 = .ok (.invokevirtual 134, 3) := by decide +kernel
theorem d_Cc_rollOf_101 : decode c_Cc_rollOf 101 = .ok (.ireturn, 1) := by decide +kernel
theorem d_Cc_rollOf_102 : decode c_Cc_rollOf 102 = .ok (.aload_n 0, 1) := by decide +kernel
theorem d_Cc_rollOf_103 : decode c_Cc_rollOf 103 = .ok (.getfield 10, 3) := by decide +kernel
theorem d_Cc_rollOf_106 : decode c_Cc_rollOf 106 = .ok (.getfield 50, 3) := by decide +kernel
theorem d_Cc_rollOf_109 : decode c_Cc_rollOf 109 = .ok (.getfield 163, 3) := by decide +kernel
theorem d_Cc_rollOf_112 : decode c_Cc_rollOf 112 = .ok (.iload_n 1, 1) := by decide +kernel
theorem d_Cc_rollOf_113 : decode c_Cc_rollOf 113 = .ok (.invokevirtual 134, 3) := by decide +kernel
theorem d_Cc_rollOf_116 : decode c_Cc_rollOf 116 = .ok (.ireturn, 1) := by decide +kernel
theorem d_Cc_rollOf_117 : decode c_Cc_rollOf 117 = .ok (.aload_n 0, 1) := by decide +kernel
theorem d_Cc_rollOf_118 : decode c_Cc_rollOf 118 = .ok (.getfield 10, 3) := by decide +kernel
theorem d_Cc_rollOf_121 : decode c_Cc_rollOf 121 = .ok (.getfield 50, 3) := by decide +kernel
theorem d_Cc_rollOf_124 : decode c_Cc_rollOf 124 = .ok (.getfield 166, 3) := by decide +kernel
theorem d_Cc_rollOf_127 : decode c_Cc_rollOf 127 = .ok (.iload_n 1, 1) := by decide +kernel
theorem d_Cc_rollOf_128 : decode c_Cc_rollOf 128 = .ok (.invokevirtual 134, 3) := by decide +kernel
theorem d_Cc_rollOf_131 : decode c_Cc_rollOf 131 = .ok (.ireturn, 1) := by decide +kernel
theorem d_Cc_rollOf_132 : decode c_Cc_rollOf 132 = .ok (.aload_n 0, 1) := by decide +kernel
theorem d_Cc_rollOf_133 : decode c_Cc_rollOf 133 = .ok (.getfield 10, 3) := by decide +kernel
theorem d_Cc_rollOf_136 : decode c_Cc_rollOf 136 = .ok (.getfield 107, 3) := by decide +kernel
theorem d_Cc_rollOf_139 : decode c_Cc_rollOf 139 = .ok (.iload_n 1, 1) := by decide +kernel
theorem d_Cc_rollOf_140 : decode c_Cc_rollOf 140 = .ok (.invokevirtual 169, 3) := by decide +kernel
theorem d_Cc_rollOf_143 : decode c_Cc_rollOf 143 = .ok (.ireturn, 1) := by decide +kernel
theorem d_Cc_rollOf_144 : decode c_Cc_rollOf 144 = .ok (.aload_n 0, 1) := by decide +kernel
theorem d_Cc_rollOf_145 : decode c_Cc_rollOf 145 = .ok (.getfield 10, 3) := by decide +kernel
theorem d_Cc_rollOf_148 : decode c_Cc_rollOf 148 = .ok (.getfield 107, 3) := by decide +kernel
theorem d_Cc_rollOf_151 : decode c_Cc_rollOf 151 = .ok (.iload_n 1, 1) := by decide +kernel
theorem d_Cc_rollOf_152 : decode c_Cc_rollOf 152 = .ok (.invokevirtual 172, 3) := by decide +kernel
theorem d_Cc_rollOf_155 : decode c_Cc_rollOf 155 = .ok (.ireturn, 1) := by decide +kernel
theorem d_Cc_rollOf_156 : decode c_Cc_rollOf 156 = .ok (.aload_n 0, 1) := by decide +kernel
theorem d_Cc_rollOf_157 : decode c_Cc_rollOf 157 = .ok (.getfield 10, 3) := by decide +kernel
theorem d_Cc_rollOf_160 : decode c_Cc_rollOf 160 = .ok (.getfield 50, 3) := by decide +kernel
theorem d_Cc_rollOf_163 : decode c_Cc_rollOf 163 = .ok (.getfield 175, 3) := by decide +kernel
theorem d_Cc_rollOf_166 : decode c_Cc_rollOf 166 = .ok (.iload_n 1, 1) := by decide +kernel
theorem d_Cc_rollOf_167 : decode c_Cc_rollOf 167 = .ok (.invokevirtual 134, 3) := by decide +kernel
theorem d_Cc_rollOf_170 : decode c_Cc_rollOf 170 = .ok (.ireturn, 1) := by decide +kernel
theorem d_Cc_rollOf_171 : decode c_Cc_rollOf 171 = .ok (.aload_n 0, 1) := by decide +kernel
theorem d_Cc_rollOf_172 : decode c_Cc_rollOf 172 = .ok (.getfield 10, 3) := by decide +kernel
theorem d_Cc_rollOf_175 : decode c_Cc_rollOf 175 = .ok (.getfield 50, 3) := by decide +kernel
theorem d_Cc_rollOf_178 : decode c_Cc_rollOf 178 = .ok (.getfield 178, 3) := by decide +kernel
theorem d_Cc_rollOf_181 : decode c_Cc_rollOf 181 = .ok (.iload_n 1, 1) := by decide +kernel
theorem d_Cc_rollOf_182 : decode c_Cc_rollOf 182 = .ok (.invokevirtual 134, 3) := by decide +kernel
theorem d_Cc_rollOf_185 : decode c_Cc_rollOf 185 = .ok (.ireturn, 1) := by decide +kernel
theorem d_Cc_rollOf_186 : decode c_Cc_rollOf 186 = .ok (.aload_n 0, 1) := by decide +kernel
theorem d_Cc_rollOf_187 : decode c_Cc_rollOf 187 = .ok (.getfield 10, 3) := by decide +kernel
theorem d_Cc_rollOf_190 : decode c_Cc_rollOf 190 = .ok (.getfield 50, 3) := by decide +kernel
theorem d_Cc_rollOf_193 : decode c_Cc_rollOf 193 = .ok (.getfield 181, 3) := by decide +kernel
theorem d_Cc_rollOf_196 : decode c_Cc_rollOf 196 = .ok (.iload_n 1, 1) := by decide +kernel
theorem d_Cc_rollOf_197 : decode c_Cc_rollOf 197 = .ok (.invokevirtual 134, 3) := by decide +kernel
theorem d_Cc_rollOf_200 : decode c_Cc_rollOf 200 = .ok (.ireturn, 1) := by decide +kernel
theorem d_Cc_rollOf_201 : decode c_Cc_rollOf 201 = .ok (.aload_n 0, 1) := by decide +kernel
theorem d_Cc_rollOf_202 : decode c_Cc_rollOf 202 = .ok (.getfield 10, 3) := by decide +kernel
theorem d_Cc_rollOf_205 : decode c_Cc_rollOf 205 = .ok (.getfield 50, 3) := by decide +kernel
theorem d_Cc_rollOf_208 : decode c_Cc_rollOf 208 = .ok (.getfield 184, 3) := by decide +kernel
theorem d_Cc_rollOf_211 : decode c_Cc_rollOf 211 = .ok (.iload_n 1, 1) := by decide +kernel
theorem d_Cc_rollOf_212 : decode c_Cc_rollOf 212 = .ok (.invokevirtual 134, 3) := by decide +kernel
theorem d_Cc_rollOf_215 : decode c_Cc_rollOf 215 = .ok (.ireturn, 1) := by decide +kernel
theorem d_Cc_rollOf_216 : decode c_Cc_rollOf 216 = .ok (.bipush (-2), 2) := by decide +kernel
theorem d_Cc_rollOf_218 : decode c_Cc_rollOf 218 = .ok (.ireturn, 1) := by decide +kernel
theorem d_Cc_offcut_0 : decode c_Cc_offcut 0 = .ok (.aload_n 0, 1) := by decide +kernel
theorem d_Cc_offcut_1 : decode c_Cc_offcut 1 = .ok (.getfield 10, 3) := by decide +kernel
theorem d_Cc_offcut_4 : decode c_Cc_offcut 4 = .ok (.getfield 107, 3) := by decide +kernel
theorem d_Cc_offcut_7 : decode c_Cc_offcut 7 = .ok (.iload_n 1, 1) := by decide +kernel
theorem d_Cc_offcut_8 : decode c_Cc_offcut 8 = .ok (.invokevirtual 111, 3) := by decide +kernel
theorem d_Cc_offcut_11 : decode c_Cc_offcut 11 = .ok (.istore_n 3, 1) := by decide +kernel
theorem d_Cc_offcut_12 : decode c_Cc_offcut 12 = .ok (.iload_n 3, 1) := by decide +kernel
theorem d_Cc_offcut_13 : decode c_Cc_offcut 13 = .ok (.ifCond .ge 5, 3) := by decide +kernel
theorem d_Cc_offcut_16 : decode c_Cc_offcut 16 = .ok (.iconst (-1), 1) := by decide +kernel
theorem d_Cc_offcut_17 : decode c_Cc_offcut 17 = .ok (.ireturn, 1) := by decide +kernel
theorem d_Cc_offcut_18 : decode c_Cc_offcut 18 = .ok (.iload_n 2, 1) := by decide +kernel
theorem d_Cc_offcut_19 : decode c_Cc_offcut 19 = .ok (.tableswitch 70 0 2 #[25, 40, 55], 25) := by decide +kernel
theorem d_Cc_offcut_44 : decode c_Cc_offcut 44 = .ok (.aload_n 0, 1) := by decide +kernel
theorem d_Cc_offcut_45 : decode c_Cc_offcut 45 = .ok (.getfield 10, 3) := by decide +kernel
theorem d_Cc_offcut_48 : decode c_Cc_offcut 48 = .ok (.getfield 107, 3) := by decide +kernel
theorem d_Cc_offcut_51 : decode c_Cc_offcut 51 = .ok (.getfield 187, 3) := by decide +kernel
theorem d_Cc_offcut_54 : decode c_Cc_offcut 54 = .ok (.iload_n 3, 1) := by decide +kernel
theorem d_Cc_offcut_55 : decode c_Cc_offcut 55 = .ok (.invokevirtual 134, 3) := by decide +kernel
theorem d_Cc_offcut_58 : decode c_Cc_offcut 58 = .ok (.ireturn, 1) := by decide +kernel
theorem d_Cc_offcut_59 : decode c_Cc_offcut 59 = .ok (.aload_n 0, 1) := by decide +kernel
theorem d_Cc_offcut_60 : decode c_Cc_offcut 60 = .ok (.getfield 10, 3) := by decide +kernel
theorem d_Cc_offcut_63 : decode c_Cc_offcut 63 = .ok (.getfield 107, 3) := by decide +kernel
theorem d_Cc_offcut_66 : decode c_Cc_offcut 66 = .ok (.getfield 190, 3) := by decide +kernel
theorem d_Cc_offcut_69 : decode c_Cc_offcut 69 = .ok (.iload_n 3, 1) := by decide +kernel
theorem d_Cc_offcut_70 : decode c_Cc_offcut 70 = .ok (.invokevirtual 134, 3) := by decide +kernel
theorem d_Cc_offcut_73 : decode c_Cc_offcut 73 = .ok (.ireturn, 1) := by decide +kernel
theorem d_Cc_offcut_74 : decode c_Cc_offcut 74 = .ok (.aload_n 0, 1) := by decide +kernel
theorem d_Cc_offcut_75 : decode c_Cc_offcut 75 = .ok (.getfield 10, 3) := by decide +kernel
theorem d_Cc_offcut_78 : decode c_Cc_offcut 78 = .ok (.getfield 107, 3) := by decide +kernel
theorem d_Cc_offcut_81 : decode c_Cc_offcut 81 = .ok (.getfield 191, 3) := by decide +kernel
theorem d_Cc_offcut_84 : decode c_Cc_offcut 84 = .ok (.iload_n 3, 1) := by decide +kernel
theorem d_Cc_offcut_85 : decode c_Cc_offcut 85 = .ok (.invokevirtual 134, 3) := by decide +kernel
theorem d_Cc_offcut_88 : decode c_Cc_offcut 88 = .ok (.ireturn, 1) := by decide +kernel
theorem d_Cc_offcut_89 : decode c_Cc_offcut 89 = .ok (.bipush (-2), 2) := by decide +kernel
theorem d_Cc_offcut_91 : decode c_Cc_offcut 91 = .ok (.ireturn, 1) := by decide +kernel
theorem d_Cc_sorted_0 : decode c_Cc_sorted 0 = .ok (.iload_n 1, 1) := by decide +kernel
theorem d_Cc_sorted_1 : decode c_Cc_sorted 1 = .ok (.ifCond .ge 6, 3) := by decide +kernel
theorem d_Cc_sorted_4 : decode c_Cc_sorted 4 = .ok (.bipush (-2), 2) := by decide +kernel
theorem d_Cc_sorted_6 : decode c_Cc_sorted 6 = .ok (.ireturn, 1) := by decide +kernel
theorem d_Cc_sorted_7 : decode c_Cc_sorted 7 = .ok (.aload_n 0, 1) := by decide +kernel
theorem d_Cc_sorted_8 : decode c_Cc_sorted 8 = .ok (.getfield 10, 3) := by decide +kernel
theorem d_Cc_sorted_11 : decode c_Cc_sorted 11 = .ok (.getfield 107, 3) := by decide +kernel
theorem d_Cc_sorted_14 : decode c_Cc_sorted 14 = .ok (.iload_n 1, 1) := by decide +kernel
theorem d_Cc_sorted_15 : decode c_Cc_sorted 15 = .ok (.invokevirtual 193, 3) := by decide +kernel
theorem d_Cc_sorted_18 : decode c_Cc_sorted 18 = .ok (.istore_n 2, 1) := by decide +kernel
theorem d_Cc_sorted_19 : decode c_Cc_sorted 19 = .ok (.iload_n 2, 1) := by decide +kernel
theorem d_Cc_sorted_20 : decode c_Cc_sorted 20 = .ok (.ifCond .ge 8, 3) := by decide +kernel
theorem d_Cc_sorted_23 : decode c_Cc_sorted 23 = .ok (.bipush (-5), 2) := by decide +kernel
theorem d_Cc_sorted_25 : decode c_Cc_sorted 25 = .ok (.goto 17, 3) := by decide +kernel
theorem d_Cc_sorted_28 : decode c_Cc_sorted 28 = .ok (.aload_n 0, 1) := by decide +kernel
theorem d_Cc_sorted_29 : decode c_Cc_sorted 29 = .ok (.getfield 10, 3) := by decide +kernel
theorem d_Cc_sorted_32 : decode c_Cc_sorted 32 = .ok (.getfield 107, 3) := by decide +kernel
theorem d_Cc_sorted_35 : decode c_Cc_sorted 35 = .ok (.getfield 196, 3) := by decide +kernel
theorem d_Cc_sorted_38 : decode c_Cc_sorted 38 = .ok (.iload_n 2, 1) := by decide +kernel
theorem d_Cc_sorted_39 : decode c_Cc_sorted 39 = .ok (.invokevirtual 134, 3) := by decide +kernel
theorem d_Cc_sorted_42 : decode c_Cc_sorted 42 = .ok (.ireturn, 1) := by decide +kernel
theorem d_Cc_room_0 : decode c_Cc_room 0 = .ok (.aload_n 0, 1) := by decide +kernel
theorem d_Cc_room_1 : decode c_Cc_room 1 = .ok (.getfield 10, 3) := by decide +kernel
theorem d_Cc_room_4 : decode c_Cc_room 4 = .ok (.getfield 79, 3) := by decide +kernel
theorem d_Cc_room_7 : decode c_Cc_room 7 = .ok (.iload_n 1, 1) := by decide +kernel
theorem d_Cc_room_8 : decode c_Cc_room 8 = .ok (.invokevirtual 86, 3) := by decide +kernel
theorem d_Cc_room_11 : decode c_Cc_room 11 = .ok (.ifCond .ne 5, 3) := by decide +kernel
theorem d_Cc_room_14 : decode c_Cc_room 14 = .ok (.iconst (-1), 1) := by decide +kernel
theorem d_Cc_room_15 : decode c_Cc_room 15 = .ok (.ireturn, 1) := by decide +kernel
theorem d_Cc_room_16 : decode c_Cc_room 16 = .ok (.iload_n 2, 1) := by decide +kernel
theorem d_Cc_room_17 : decode c_Cc_room 17 = .ok (.ifCond .lt 9, 3) := by decide +kernel
theorem d_Cc_room_20 : decode c_Cc_room 20 = .ok (.iload_n 2, 1) := by decide +kernel
theorem d_Cc_room_21 : decode c_Cc_room 21 = .ok (.bipush 8, 2) := by decide +kernel
theorem d_Cc_room_23 : decode c_Cc_room 23 = .ok (.if_icmp .le 6, 3) := by decide +kernel
theorem d_Cc_room_26 : decode c_Cc_room 26 = .ok (.bipush (-2), 2) := by decide +kernel
theorem d_Cc_room_28 : decode c_Cc_room 28 = .ok (.ireturn, 1) := by decide +kernel
theorem d_Cc_room_29 : decode c_Cc_room 29 = .ok (.aload_n 0, 1) := by decide +kernel
theorem d_Cc_room_30 : decode c_Cc_room 30 = .ok (.getfield 10, 3) := by decide +kernel
theorem d_Cc_room_33 : decode c_Cc_room 33 = .ok (.getfield 79, 3) := by decide +kernel
theorem d_Cc_room_36 : decode c_Cc_room 36 = .ok (.iload_n 1, 1) := by decide +kernel
theorem d_Cc_room_37 : decode c_Cc_room 37 = .ok (.invokevirtual 100, 3) := by decide +kernel
theorem d_Cc_room_40 : decode c_Cc_room 40 = .ok (.istore_n 3, 1) := by decide +kernel
theorem d_Cc_room_41 : decode c_Cc_room 41 = .ok (.iload_n 2, 1) := by decide +kernel
theorem d_Cc_room_42 : decode c_Cc_room 42 = .ok (.tableswitch 82 0 3 #[30, 45, 57, 72], 30) := by decide +kernel
theorem d_Cc_room_72 : decode c_Cc_room 72 = .ok (.aload_n 0, 1) := by decide +kernel
theorem d_Cc_room_73 : decode c_Cc_room 73 = .ok (.getfield 10, 3) := by decide +kernel
theorem d_Cc_room_76 : decode c_Cc_room 76 = .ok (.getfield 79, 3) := by decide +kernel
theorem d_Cc_room_79 : decode c_Cc_room 79 = .ok (.getfield 199, 3) := by decide +kernel
theorem d_Cc_room_82 : decode c_Cc_room 82 = .ok (.iload_n 1, 1) := by decide +kernel
theorem d_Cc_room_83 : decode c_Cc_room 83 = .ok (.invokevirtual 134, 3) := by decide +kernel
theorem d_Cc_room_86 : decode c_Cc_room 86 = .ok (.ireturn, 1) := by decide +kernel
theorem d_Cc_room_87 : decode c_Cc_room 87 = .ok (.aload_n 0, 1) := by decide +kernel
theorem d_Cc_room_88 : decode c_Cc_room 88 = .ok (.getfield 10, 3) := by decide +kernel
theorem d_Cc_room_91 : decode c_Cc_room 91 = .ok (.getfield 79, 3) := by decide +kernel
theorem d_Cc_room_94 : decode c_Cc_room 94 = .ok (.iload_n 1, 1) := by decide +kernel
theorem d_Cc_room_95 : decode c_Cc_room 95 = .ok (.invokevirtual 202, 3) := by decide +kernel
theorem d_Cc_room_98 : decode c_Cc_room 98 = .ok (.ireturn, 1) := by decide +kernel
theorem d_Cc_room_99 : decode c_Cc_room 99 = .ok (.aload_n 0, 1) := by decide +kernel
theorem d_Cc_room_100 : decode c_Cc_room 100 = .ok (.getfield 10, 3) := by decide +kernel
theorem d_Cc_room_103 : decode c_Cc_room 103 = .ok (.getfield 79, 3) := by decide +kernel
theorem d_Cc_room_106 : decode c_Cc_room 106 = .ok (.getfield 205, 3) := by decide +kernel
theorem d_Cc_room_109 : decode c_Cc_room 109 = .ok (.iload_n 1, 1) := by decide +kernel
theorem d_Cc_room_110 : decode c_Cc_room 110 = .ok (.invokevirtual 134, 3) := by decide +kernel
theorem d_Cc_room_113 : decode c_Cc_room 113 = .ok (.ireturn, 1) := by decide +kernel
theorem d_Cc_room_114 : decode c_Cc_room 114 = .ok (.iload_n 3, 1) := by decide +kernel
theorem d_Cc_room_115 : decode c_Cc_room 115 = .ok (.ifCond .eq 7, 3) := by decide +kernel
theorem d_Cc_room_118 : decode c_Cc_room 118 = .ok (.iconst 1, 1) := by decide +kernel
theorem d_Cc_room_119 : decode c_Cc_room 119 = .ok (.goto 4, 3) := by decide +kernel
theorem d_Cc_room_122 : decode c_Cc_room 122 = .ok (.iconst 0, 1) := by decide +kernel
theorem d_Cc_room_123 : decode c_Cc_room 123 = .ok (.ireturn, 1) := by decide +kernel
theorem d_Cc_room_124 : decode c_Cc_room 124 = .ok (.iload_n 3, 1) := by decide +kernel
theorem d_Cc_room_125 : decode c_Cc_room 125 = .ok (.ifCond .eq 12, 3) := by decide +kernel
theorem d_Cc_room_128 : decode c_Cc_room 128 = .ok (.aload_n 0, 1) := by decide +kernel
theorem d_Cc_room_129 : decode c_Cc_room 129 = .ok (.iload_n 1, 1) := by decide +kernel
theorem d_Cc_room_130 : decode c_Cc_room 130 = .ok (.iload_n 2, 1) := by decide +kernel
theorem d_Cc_room_131 : decode c_Cc_room 131 = .ok (.invokevirtual 208, 3) := by decide +kernel
theorem d_Cc_room_134 : decode c_Cc_room 134 = .ok (.goto 5, 3) := by decide +kernel
theorem d_Cc_room_137 : decode c_Cc_room 137 = .ok (.bipush (-5), 2) := by decide +kernel
theorem d_Cc_room_139 : decode c_Cc_room 139 = .ok (.ireturn, 1) := by decide +kernel
theorem d_Cc_covering_0 : decode c_Cc_covering 0 = .ok (.iload_n 2, 1) := by decide +kernel
theorem d_Cc_covering_1 : decode c_Cc_covering 1 = .ok (.tableswitch 85 4 7 #[31, 46, 61, 73], 31) := by decide +kernel
theorem d_Cc_covering_32 : decode c_Cc_covering 32 = .ok (.aload_n 0, 1) := by decide +kernel
theorem d_Cc_covering_33 : decode c_Cc_covering 33 = .ok (.getfield 10, 3) := by decide +kernel
theorem d_Cc_covering_36 : decode c_Cc_covering 36 = .ok (.getfield 79, 3) := by decide +kernel
theorem d_Cc_covering_39 : decode c_Cc_covering 39 = .ok (.getfield 211, 3) := by decide +kernel
theorem d_Cc_covering_42 : decode c_Cc_covering 42 = .ok (.iload_n 1, 1) := by decide +kernel
theorem d_Cc_covering_43 : decode c_Cc_covering 43 = .ok (.invokevirtual 134, 3) := by decide +kernel
theorem d_Cc_covering_46 : decode c_Cc_covering 46 = .ok (.ireturn, 1) := by decide +kernel
theorem d_Cc_covering_47 : decode c_Cc_covering 47 = .ok (.aload_n 0, 1) := by decide +kernel
theorem d_Cc_covering_48 : decode c_Cc_covering 48 = .ok (.getfield 10, 3) := by decide +kernel
theorem d_Cc_covering_51 : decode c_Cc_covering 51 = .ok (.getfield 79, 3) := by decide +kernel
theorem d_Cc_covering_54 : decode c_Cc_covering 54 = .ok (.getfield 212, 3) := by decide +kernel
theorem d_Cc_covering_57 : decode c_Cc_covering 57 = .ok (.iload_n 1, 1) := by decide +kernel
theorem d_Cc_covering_58 : decode c_Cc_covering 58 = .ok (.invokevirtual 134, 3) := by decide +kernel
theorem d_Cc_covering_61 : decode c_Cc_covering 61 = .ok (.ireturn, 1) := by decide +kernel
theorem d_Cc_covering_62 : decode c_Cc_covering 62 = .ok (.aload_n 0, 1) := by decide +kernel
theorem d_Cc_covering_63 : decode c_Cc_covering 63 = .ok (.getfield 10, 3) := by decide +kernel
theorem d_Cc_covering_66 : decode c_Cc_covering 66 = .ok (.getfield 79, 3) := by decide +kernel
theorem d_Cc_covering_69 : decode c_Cc_covering 69 = .ok (.iload_n 1, 1) := by decide +kernel
theorem d_Cc_covering_70 : decode c_Cc_covering 70 = .ok (.invokevirtual 215, 3) := by decide +kernel
theorem d_Cc_covering_73 : decode c_Cc_covering 73 = .ok (.ireturn, 1) := by decide +kernel
theorem d_Cc_covering_74 : decode c_Cc_covering 74 = .ok (.aload_n 0, 1) := by decide +kernel
theorem d_Cc_covering_75 : decode c_Cc_covering 75 = .ok (.getfield 10, 3) := by decide +kernel
theorem d_Cc_covering_78 : decode c_Cc_covering 78 = .ok (.getfield 79, 3) := by decide +kernel
theorem d_Cc_covering_81 : decode c_Cc_covering 81 = .ok (.iload_n 1, 1) := by decide +kernel
theorem d_Cc_covering_82 : decode c_Cc_covering 82 = .ok (.invokevirtual 218, 3) := by decide +kernel
theorem d_Cc_covering_85 : decode c_Cc_covering 85 = .ok (.ireturn, 1) := by decide +kernel
theorem d_Cc_covering_86 : decode c_Cc_covering 86 = .ok (.aload_n 0, 1) := by decide +kernel
theorem d_Cc_covering_87 : decode c_Cc_covering 87 = .ok (.getfield 10, 3) := by decide +kernel
theorem d_Cc_covering_90 : decode c_Cc_covering 90 = .ok (.getfield 79, 3) := by decide +kernel
theorem d_Cc_covering_93 : decode c_Cc_covering 93 = .ok (.getfield 221, 3) := by decide +kernel
theorem d_Cc_covering_96 : decode c_Cc_covering 96 = .ok (.iload_n 1, 1) := by decide +kernel
theorem d_Cc_covering_97 : decode c_Cc_covering 97 = .ok (.invokevirtual 134, 3) := by decide +kernel
theorem d_Cc_covering_100 : decode c_Cc_covering 100 = .ok (.ireturn, 1) := by decide +kernel
theorem d_Cc_strip_0 : decode c_Cc_strip 0 = .ok (.aload_n 0, 1) := by decide +kernel
theorem d_Cc_strip_1 : decode c_Cc_strip 1 = .ok (.getfield 10, 3) := by decide +kernel
theorem d_Cc_strip_4 : decode c_Cc_strip 4 = .ok (.getfield 79, 3) := by decide +kernel
theorem d_Cc_strip_7 : decode c_Cc_strip 7 = .ok (.iload_n 1, 1) := by decide +kernel
theorem d_Cc_strip_8 : decode c_Cc_strip 8 = .ok (.invokevirtual 86, 3) := by decide +kernel
theorem d_Cc_strip_11 : decode c_Cc_strip 11 = .ok (.ifCond .ne 5, 3) := by decide +kernel
theorem d_Cc_strip_14 : decode c_Cc_strip 14 = .ok (.iconst (-1), 1) := by decide +kernel
theorem d_Cc_strip_15 : decode c_Cc_strip 15 = .ok (.ireturn, 1) := by decide +kernel
theorem d_Cc_strip_16 : decode c_Cc_strip 16 = .ok (.iload_n 2, 1) := by decide +kernel
theorem d_Cc_strip_17 : decode c_Cc_strip 17 = .ok (.ifCond .lt 12, 3) := by decide +kernel
theorem d_Cc_strip_20 : decode c_Cc_strip 20 = .ok (.iload_n 3, 1) := by decide +kernel
theorem d_Cc_strip_21 : decode c_Cc_strip 21 = .ok (.ifCond .lt 8, 3) := by decide +kernel
theorem d_Cc_strip_24 : decode c_Cc_strip 24 = .ok (.iload_n 3, 1) := by decide +kernel
theorem d_Cc_strip_25 : decode c_Cc_strip 25 = .ok (.iconst 2, 1) := by decide +kernel
theorem d_Cc_strip_26 : decode c_Cc_strip 26 = .ok (.if_icmp .le 6, 3) := by decide +kernel
theorem d_Cc_strip_29 : decode c_Cc_strip 29 = .ok (.bipush (-2), 2) := by decide +kernel
theorem d_Cc_strip_31 : decode c_Cc_strip 31 = .ok (.ireturn, 1) := by decide +kernel
theorem d_Cc_strip_32 : decode c_Cc_strip 32 = .ok (.iload_n 2, 1) := by decide +kernel
theorem d_Cc_strip_33 : decode c_Cc_strip 33 = .ok (.aload_n 0, 1) := by decide +kernel
theorem d_Cc_strip_34 : decode c_Cc_strip 34 = .ok (.getfield 10, 3) := by decide +kernel
theorem d_Cc_strip_37 : decode c_Cc_strip 37 = .ok (.getfield 79, 3) := by decide +kernel
theorem d_Cc_strip_40 : decode c_Cc_strip 40 = .ok (.iload_n 1, 1) := by decide +kernel
theorem d_Cc_strip_41 : decode c_Cc_strip 41 = .ok (.invokevirtual 215, 3) := by decide +kernel
theorem d_Cc_strip_44 : decode c_Cc_strip 44 = .ok (.if_icmp .lt 6, 3) := by decide +kernel
theorem d_Cc_strip_47 : decode c_Cc_strip 47 = .ok (.bipush (-5), 2) := by decide +kernel
theorem d_Cc_strip_49 : decode c_Cc_strip 49 = .ok (.ireturn, 1) := by decide +kernel
theorem d_Cc_strip_50 : decode c_Cc_strip 50 = .ok (.iload_n 3, 1) := by decide +kernel
theorem d_Cc_strip_51 : decode c_Cc_strip 51 = .ok (.lookupswitch 51 #[(0, 25), (1, 38)], 25) := by decide +kernel
theorem d_Cc_strip_76 : decode c_Cc_strip 76 = .ok (.aload_n 0, 1) := by decide +kernel
theorem d_Cc_strip_77 : decode c_Cc_strip 77 = .ok (.getfield 10, 3) := by decide +kernel
theorem d_Cc_strip_80 : decode c_Cc_strip 80 = .ok (.getfield 79, 3) := by decide +kernel
theorem d_Cc_strip_83 : decode c_Cc_strip 83 = .ok (.iload_n 1, 1) := by decide +kernel
theorem d_Cc_strip_84 : decode c_Cc_strip 84 = .ok (.iload_n 2, 1) := by decide +kernel
theorem d_Cc_strip_85 : decode c_Cc_strip 85 = .ok (.invokevirtual 222, 3) := by decide +kernel
theorem d_Cc_strip_88 : decode c_Cc_strip 88 = .ok (.ireturn, 1) := by decide +kernel
theorem d_Cc_strip_89 : decode c_Cc_strip 89 = .ok (.aload_n 0, 1) := by decide +kernel
theorem d_Cc_strip_90 : decode c_Cc_strip 90 = .ok (.getfield 10, 3) := by decide +kernel
theorem d_Cc_strip_93 : decode c_Cc_strip 93 = .ok (.getfield 79, 3) := by decide +kernel
theorem d_Cc_strip_96 : decode c_Cc_strip 96 = .ok (.iload_n 1, 1) := by decide +kernel
theorem d_Cc_strip_97 : decode c_Cc_strip 97 = .ok (.iload_n 2, 1) := by decide +kernel
theorem d_Cc_strip_98 : decode c_Cc_strip 98 = .ok (.invokevirtual 225, 3) := by decide +kernel
theorem d_Cc_strip_101 : decode c_Cc_strip 101 = .ok (.ireturn, 1) := by decide +kernel
theorem d_Cc_strip_102 : decode c_Cc_strip 102 = .ok (.aload_n 0, 1) := by decide +kernel
theorem d_Cc_strip_103 : decode c_Cc_strip 103 = .ok (.getfield 10, 3) := by decide +kernel
theorem d_Cc_strip_106 : decode c_Cc_strip 106 = .ok (.getfield 79, 3) := by decide +kernel
theorem d_Cc_strip_109 : decode c_Cc_strip 109 = .ok (.iload_n 1, 1) := by decide +kernel
theorem d_Cc_strip_110 : decode c_Cc_strip 110 = .ok (.iload_n 2, 1) := by decide +kernel
theorem d_Cc_strip_111 : decode c_Cc_strip 111 = .ok (.invokevirtual 228, 3) := by decide +kernel
theorem d_Cc_strip_114 : decode c_Cc_strip 114 = .ok (.ireturn, 1) := by decide +kernel
theorem d_Cc_count_0 : decode c_Cc_count 0 = .ok (.iload_n 1, 1) := by decide +kernel
theorem d_Cc_count_1 : decode c_Cc_count 1 = .ok (.tableswitch 177 0 10 #[59, 70, 81, 92, 103, 114, 128, 142, 153, 161, 169], 59) := by decide +kernel
theorem d_Cc_count_60 : decode c_Cc_count 60 = .ok (.aload_n 0, 1) := by decide +kernel
theorem d_Cc_count_61 : decode c_Cc_count 61 = .ok (.getfield 10, 3) := by decide +kernel
theorem d_Cc_count_64 : decode c_Cc_count 64 = .ok (.getfield 50, 3) := by decide +kernel
theorem d_Cc_count_67 : decode c_Cc_count 67 = .ok (.getfield 54, 3) := by decide +kernel
theorem d_Cc_count_70 : decode c_Cc_count 70 = .ok (.ireturn, 1) := by decide +kernel
theorem d_Cc_count_71 : decode c_Cc_count 71 = .ok (.aload_n 0, 1) := by decide +kernel
theorem d_Cc_count_72 : decode c_Cc_count 72 = .ok (.getfield 10, 3) := by decide +kernel
theorem d_Cc_count_75 : decode c_Cc_count 75 = .ok (.getfield 79, 3) := by decide +kernel
theorem d_Cc_count_78 : decode c_Cc_count 78 = .ok (.getfield 76, 3) := by decide +kernel
theorem d_Cc_count_81 : decode c_Cc_count 81 = .ok (.ireturn, 1) := by decide +kernel
theorem d_Cc_count_82 : decode c_Cc_count 82 = .ok (.aload_n 0, 1) := by decide +kernel
theorem d_Cc_count_83 : decode c_Cc_count 83 = .ok (.getfield 10, 3) := by decide +kernel
theorem d_Cc_count_86 : decode c_Cc_count 86 = .ok (.getfield 79, 3) := by decide +kernel
theorem d_Cc_count_89 : decode c_Cc_count 89 = .ok (.invokevirtual 231, 3) := by decide +kernel
theorem d_Cc_count_92 : decode c_Cc_count 92 = .ok (.ireturn, 1) := by decide +kernel
theorem d_Cc_count_93 : decode c_Cc_count 93 = .ok (.aload_n 0, 1) := by decide +kernel
theorem d_Cc_count_94 : decode c_Cc_count 94 = .ok (.getfield 10, 3) := by decide +kernel
theorem d_Cc_count_97 : decode c_Cc_count 97 = .ok (.getfield 107, 3) := by decide +kernel
theorem d_Cc_count_100 : decode c_Cc_count 100 = .ok (.getfield 234, 3) := by decide +kernel
theorem d_Cc_count_103 : decode c_Cc_count 103 = .ok (.ireturn, 1) := by decide +kernel
theorem d_Cc_count_104 : decode c_Cc_count 104 = .ok (.aload_n 0, 1) := by decide +kernel
theorem d_Cc_count_105 : decode c_Cc_count 105 = .ok (.getfield 10, 3) := by decide +kernel
theorem d_Cc_count_108 : decode c_Cc_count 108 = .ok (.getfield 107, 3) := by decide +kernel
theorem d_Cc_count_111 : decode c_Cc_count 111 = .ok (.getfield 237, 3) := by decide +kernel
theorem d_Cc_count_114 : decode c_Cc_count 114 = .ok (.ireturn, 1) := by decide +kernel
theorem d_Cc_count_115 : decode c_Cc_count 115 = .ok (.aload_n 0, 1) := by decide +kernel
theorem d_Cc_count_116 : decode c_Cc_count 116 = .ok (.getfield 10, 3) := by decide +kernel
theorem d_Cc_count_119 : decode c_Cc_count 119 = .ok (.getfield 50, 3) := by decide +kernel
theorem d_Cc_count_122 : decode c_Cc_count 122 = .ok (.getfield 178, 3) := by decide +kernel
theorem d_Cc_count_125 : decode c_Cc_count 125 = .ok (.invokevirtual 238, 3) := by decide +kernel
theorem d_Cc_count_128 : decode c_Cc_count 128 = .ok (.ireturn, 1) := by decide +kernel
theorem d_Cc_count_129 : decode c_Cc_count 129 = .ok (.aload_n 0, 1) := by decide +kernel
theorem d_Cc_count_130 : decode c_Cc_count 130 = .ok (.getfield 10, 3) := by decide +kernel
theorem d_Cc_count_133 : decode c_Cc_count 133 = .ok (.getfield 50, 3) := by decide +kernel
theorem d_Cc_count_136 : decode c_Cc_count 136 = .ok (.getfield 175, 3) := by decide +kernel
theorem d_Cc_count_139 : decode c_Cc_count 139 = .ok (.invokevirtual 238, 3) := by decide +kernel
theorem d_Cc_count_142 : decode c_Cc_count 142 = .ok (.ireturn, 1) := by decide +kernel
theorem d_Cc_count_143 : decode c_Cc_count 143 = .ok (.aload_n 0, 1) := by decide +kernel
theorem d_Cc_count_144 : decode c_Cc_count 144 = .ok (.getfield 10, 3) := by decide +kernel
theorem d_Cc_count_147 : decode c_Cc_count 147 = .ok (.getfield 79, 3) := by decide +kernel
theorem d_Cc_count_150 : decode c_Cc_count 150 = .ok (.invokevirtual 241, 3) := by decide +kernel
theorem d_Cc_count_153 : decode c_Cc_count 153 = .ok (.ireturn, 1) := by decide +kernel
theorem d_Cc_count_154 : decode c_Cc_count 154 = .ok (.aload_n 0, 1) := by decide +kernel
theorem d_Cc_count_155 : decode c_Cc_count 155 = .ok (.getfield 10, 3) := by decide +kernel
theorem d_Cc_count_158 : decode c_Cc_count 158 = .ok (.getfield 244, 3) := by decide +kernel
theorem d_Cc_count_161 : decode c_Cc_count 161 = .ok (.ireturn, 1) := by decide +kernel
theorem d_Cc_count_162 : decode c_Cc_count 162 = .ok (.aload_n 0, 1) := by decide +kernel
theorem d_Cc_count_163 : decode c_Cc_count 163 = .ok (.getfield 28, 3) := by decide +kernel
theorem d_Cc_count_166 : decode c_Cc_count 166 = .ok (.getfield 149, 3) := by decide +kernel
theorem d_Cc_count_169 : decode c_Cc_count 169 = .ok (.ireturn, 1) := by decide +kernel
theorem d_Cc_count_170 : decode c_Cc_count 170 = .ok (.aload_n 0, 1) := by decide +kernel
theorem d_Cc_count_171 : decode c_Cc_count 171 = .ok (.getfield 35, 3) := by decide +kernel
theorem d_Cc_count_174 : decode c_Cc_count 174 = .ok (.getfield 146, 3) := by decide +kernel
theorem d_Cc_count_177 : decode c_Cc_count 177 = .ok (.ireturn, 1) := by decide +kernel
theorem d_Cc_count_178 : decode c_Cc_count 178 = .ok (.aload_n 0, 1) := by decide +kernel
theorem d_Cc_count_179 : decode c_Cc_count 179 = .ok (.iload_n 1, 1) := by decide +kernel
theorem d_Cc_count_180 : decode c_Cc_count 180 = .ok (.bipush 11, 2) := by decide +kernel
theorem d_Cc_count_182 : decode c_Cc_count 182 = .ok (.isub, 1) := by decide +kernel
theorem d_Cc_count_183 : decode c_Cc_count 183 = .ok (.invokevirtual 247, 3) := by decide +kernel
theorem d_Cc_count_186 : decode c_Cc_count 186 = .ok (.ireturn, 1) := by decide +kernel
theorem d_Cc_setting_0 : decode c_Cc_setting 0 = .ok (.iload_n 1, 1) := by decide +kernel
theorem d_Cc_setting_1 : decode c_Cc_setting 1 = .ok (.ifCond .lt 8, 3) := by decide +kernel
theorem d_Cc_setting_4 : decode c_Cc_setting 4 = .ok (.iload_n 1, 1) := by decide +kernel
theorem d_Cc_setting_5 : decode c_Cc_setting 5 = .ok (.iconst 5, 1) := by decide +kernel
theorem d_Cc_setting_6 : decode c_Cc_setting 6 = .ok (.if_icmp .lt 8, 3) := by decide +kernel
theorem d_Cc_setting_9 : decode c_Cc_setting 9 = .ok (.bipush (-2), 2) := by decide +kernel
theorem d_Cc_setting_11 : decode c_Cc_setting 11 = .ok (.goto 14, 3) := by decide +kernel
theorem d_Cc_setting_14 : decode c_Cc_setting 14 = .ok (.aload_n 0, 1) := by decide +kernel
theorem d_Cc_setting_15 : decode c_Cc_setting 15 = .ok (.getfield 10, 3) := by decide +kernel
theorem d_Cc_setting_18 : decode c_Cc_setting 18 = .ok (.getfield 130, 3) := by decide +kernel
theorem d_Cc_setting_21 : decode c_Cc_setting 21 = .ok (.iload_n 1, 1) := by decide +kernel
theorem d_Cc_setting_22 : decode c_Cc_setting 22 = .ok (.invokevirtual 134, 3) := by decide +kernel
theorem d_Cc_setting_25 : decode c_Cc_setting 25 = .ok (.ireturn, 1) := by decide +kernel
theorem d_Cc_wasted_0 : decode c_Cc_wasted 0 = .ok (.aload_n 0, 1) := by decide +kernel
theorem d_Cc_wasted_1 : decode c_Cc_wasted 1 = .ok (.getfield 10, 3) := by decide +kernel
theorem d_Cc_wasted_4 : decode c_Cc_wasted 4 = .ok (.getfield 50, 3) := by decide +kernel
theorem d_Cc_wasted_7 : decode c_Cc_wasted 7 = .ok (.iload_n 1, 1) := by decide +kernel
theorem d_Cc_wasted_8 : decode c_Cc_wasted 8 = .ok (.invokevirtual 89, 3) := by decide +kernel
theorem d_Cc_wasted_11 : decode c_Cc_wasted 11 = .ok (.ifCond .eq 20, 3) := by decide +kernel
theorem d_Cc_wasted_14 : decode c_Cc_wasted 14 = .ok (.aload_n 0, 1) := by decide +kernel
theorem d_Cc_wasted_15 : decode c_Cc_wasted 15 = .ok (.getfield 10, 3) := by decide +kernel
theorem d_Cc_wasted_18 : decode c_Cc_wasted 18 = .ok (.getfield 50, 3) := by decide +kernel
theorem d_Cc_wasted_21 : decode c_Cc_wasted 21 = .ok (.getfield 184, 3) := by decide +kernel
theorem d_Cc_wasted_24 : decode c_Cc_wasted 24 = .ok (.iload_n 1, 1) := by decide +kernel
theorem d_Cc_wasted_25 : decode c_Cc_wasted 25 = .ok (.invokevirtual 134, 3) := by decide +kernel
theorem d_Cc_wasted_28 : decode c_Cc_wasted 28 = .ok (.goto 4, 3) := by decide +kernel
theorem d_Cc_wasted_31 : decode c_Cc_wasted 31 = .ok (.iconst 0, 1) := by decide +kernel
theorem d_Cc_wasted_32 : decode c_Cc_wasted 32 = .ok (.istore_n 2, 1) := by decide +kernel
theorem d_Cc_wasted_33 : decode c_Cc_wasted 33 = .ok (.iload_n 2, 1) := by decide +kernel
theorem d_Cc_wasted_34 : decode c_Cc_wasted 34 = .ok (.ifCond .gt 7, 3) := by decide +kernel
theorem d_Cc_wasted_37 : decode c_Cc_wasted 37 = .ok (.ldc2_w 250, 3) := by decide +kernel
theorem d_Cc_wasted_40 : decode c_Cc_wasted 40 = .ok (.dreturn, 1) := by decide +kernel
theorem d_Cc_wasted_41 : decode c_Cc_wasted 41 = .ok (.aload_n 0, 1) := by decide +kernel
theorem d_Cc_wasted_42 : decode c_Cc_wasted 42 = .ok (.getfield 10, 3) := by decide +kernel
theorem d_Cc_wasted_45 : decode c_Cc_wasted 45 = .ok (.getfield 50, 3) := by decide +kernel
theorem d_Cc_wasted_48 : decode c_Cc_wasted 48 = .ok (.getfield 178, 3) := by decide +kernel
theorem d_Cc_wasted_51 : decode c_Cc_wasted 51 = .ok (.iload_n 1, 1) := by decide +kernel
theorem d_Cc_wasted_52 : decode c_Cc_wasted 52 = .ok (.invokevirtual 134, 3) := by decide +kernel
theorem d_Cc_wasted_55 : decode c_Cc_wasted 55 = .ok (.i2d, 1) := by decide +kernel
theorem d_Cc_wasted_56 : decode c_Cc_wasted 56 = .ok (.iload_n 2, 1) := by decide +kernel
theorem d_Cc_wasted_57 : decode c_Cc_wasted 57 = .ok (.i2d, 1) := by decide +kernel
theorem d_Cc_wasted_58 : decode c_Cc_wasted 58 = .ok (.ddiv, 1) := by decide +kernel
theorem d_Cc_wasted_59 : decode c_Cc_wasted 59 = .ok (.dreturn, 1) := by decide +kernel
theorem d_Cc_ifCovered_0 : decode c_Cc_ifCovered 0 = .ok (.aload_n 0, 1) := by decide +kernel
theorem d_Cc_ifCovered_1 : decode c_Cc_ifCovered 1 = .ok (.getfield 10, 3) := by decide +kernel
theorem d_Cc_ifCovered_4 : decode c_Cc_ifCovered 4 = .ok (.getfield 79, 3) := by decide +kernel
theorem d_Cc_ifCovered_7 : decode c_Cc_ifCovered 7 = .ok (.iload_n 1, 1) := by decide +kernel
theorem d_Cc_ifCovered_8 : decode c_Cc_ifCovered 8 = .ok (.invokevirtual 86, 3) := by decide +kernel
theorem d_Cc_ifCovered_11 : decode c_Cc_ifCovered 11 = .ok (.ifCond .eq 17, 3) := by decide +kernel
theorem d_Cc_ifCovered_14 : decode c_Cc_ifCovered 14 = .ok (.aload_n 0, 1) := by decide +kernel
theorem d_Cc_ifCovered_15 : decode c_Cc_ifCovered 15 = .ok (.getfield 10, 3) := by decide +kernel
theorem d_Cc_ifCovered_18 : decode c_Cc_ifCovered 18 = .ok (.getfield 50, 3) := by decide +kernel
theorem d_Cc_ifCovered_21 : decode c_Cc_ifCovered 21 = .ok (.iload_n 2, 1) := by decide +kernel
theorem d_Cc_ifCovered_22 : decode c_Cc_ifCovered 22 = .ok (.invokevirtual 89, 3) := by decide +kernel
theorem d_Cc_ifCovered_25 : decode c_Cc_ifCovered 25 = .ok (.ifCond .ne 5, 3) := by decide +kernel
theorem d_Cc_ifCovered_28 : decode c_Cc_ifCovered 28 = .ok (.iconst (-1), 1) := by decide +kernel
theorem d_Cc_ifCovered_29 : decode c_Cc_ifCovered 29 = .ok (.ireturn, 1) := by decide +kernel
theorem d_Cc_ifCovered_30 : decode c_Cc_ifCovered 30 = .ok (.iload_n 3, 1) := by decide +kernel
theorem d_Cc_ifCovered_31 : decode c_Cc_ifCovered 31 = .ok (.invokestatic 90, 3) := by decide +kernel
theorem d_Cc_ifCovered_34 : decode c_Cc_ifCovered 34 = .ok (.ifCond .eq 14, 3) := by decide +kernel
theorem d_Cc_ifCovered_37 : decode c_Cc_ifCovered 37 = .ok (.iload 4, 2) := by decide +kernel
theorem d_Cc_ifCovered_39 : decode c_Cc_ifCovered 39 = .ok (.ifCond .lt 9, 3) := by decide +kernel
theorem d_Cc_ifCovered_42 : decode c_Cc_ifCovered 42 = .ok (.iload 4, 2) := by decide +kernel
theorem d_Cc_ifCovered_44 : decode c_Cc_ifCovered 44 = .ok (.iconst 5, 1) := by decide +kernel
theorem d_Cc_ifCovered_45 : decode c_Cc_ifCovered 45 = .ok (.if_icmp .le 6, 3) := by decide +kernel
theorem d_Cc_ifCovered_48 : decode c_Cc_ifCovered 48 = .ok (.bipush (-2), 2) := by decide +kernel
theorem d_Cc_ifCovered_50 : decode c_Cc_ifCovered 50 = .ok (.ireturn, 1) := by decide +kernel
theorem d_Cc_ifCovered_51 : decode c_Cc_ifCovered 51 = .ok (.aload_n 0, 1) := by decide +kernel
theorem d_Cc_ifCovered_52 : decode c_Cc_ifCovered 52 = .ok (.getfield 19, 3) := by decide +kernel
theorem d_Cc_ifCovered_55 : decode c_Cc_ifCovered 55 = .ok (.aload_n 0, 1) := by decide +kernel
theorem d_Cc_ifCovered_56 : decode c_Cc_ifCovered 56 = .ok (.getfield 10, 3) := by decide +kernel
theorem d_Cc_ifCovered_59 : decode c_Cc_ifCovered 59 = .ok (.invokevirtual 93, 3) := by decide +kernel
theorem d_Cc_ifCovered_62 : decode c_Cc_ifCovered 62 = .ok (.aload_n 0, 1) := by decide +kernel
theorem d_Cc_ifCovered_63 : decode c_Cc_ifCovered 63 = .ok (.getfield 19, 3) := by decide +kernel
theorem d_Cc_ifCovered_66 : decode c_Cc_ifCovered 66 = .ok (.iload_n 1, 1) := by decide +kernel
theorem d_Cc_ifCovered_67 : decode c_Cc_ifCovered 67 = .ok (.iload_n 2, 1) := by decide +kernel
theorem d_Cc_ifCovered_68 : decode c_Cc_ifCovered 68 = .ok (.iload_n 3, 1) := by decide +kernel
theorem d_Cc_ifCovered_69 : decode c_Cc_ifCovered 69 = .ok (.invokevirtual 96, 3) := by decide +kernel
theorem d_Cc_ifCovered_72 : decode c_Cc_ifCovered 72 = .ok (.istore 5, 2) := by decide +kernel
theorem d_Cc_ifCovered_74 : decode c_Cc_ifCovered 74 = .ok (.iload 5, 2) := by decide +kernel
theorem d_Cc_ifCovered_76 : decode c_Cc_ifCovered 76 = .ok (.ifCond .ge 6, 3) := by decide +kernel
theorem d_Cc_ifCovered_79 : decode c_Cc_ifCovered 79 = .ok (.iload 5, 2) := by decide +kernel
theorem d_Cc_ifCovered_81 : decode c_Cc_ifCovered 81 = .ok (.ireturn, 1) := by decide +kernel
theorem d_Cc_ifCovered_82 : decode c_Cc_ifCovered 82 = .ok (.iload 4, 2) := by decide +kernel
theorem d_Cc_ifCovered_84 : decode c_Cc_ifCovered 84 = .ok (.tableswitch 123 0 4 #[36, 39, 51, 63, 93], 36) := by decide +kernel
theorem d_Cc_ifCovered_120 : decode c_Cc_ifCovered 120 = .ok (.iload 5, 2) := by decide +kernel
theorem d_Cc_ifCovered_122 : decode c_Cc_ifCovered 122 = .ok (.ireturn, 1) := by decide +kernel
theorem d_Cc_ifCovered_123 : decode c_Cc_ifCovered 123 = .ok (.aload_n 0, 1) := by decide +kernel
theorem d_Cc_ifCovered_124 : decode c_Cc_ifCovered 124 = .ok (.getfield 19, 3) := by decide +kernel
theorem d_Cc_ifCovered_127 : decode c_Cc_ifCovered 127 = .ok (.getfield 79, 3) := by decide +kernel
theorem d_Cc_ifCovered_130 : decode c_Cc_ifCovered 130 = .ok (.iload_n 1, 1) := by decide +kernel
theorem d_Cc_ifCovered_131 : decode c_Cc_ifCovered 131 = .ok (.invokevirtual 215, 3) := by decide +kernel
theorem d_Cc_ifCovered_134 : decode c_Cc_ifCovered 134 = .ok (.ireturn, 1) := by decide +kernel
theorem d_Cc_ifCovered_135 : decode c_Cc_ifCovered 135 = .ok (.aload_n 0, 1) := by decide +kernel
theorem d_Cc_ifCovered_136 : decode c_Cc_ifCovered 136 = .ok (.getfield 19, 3) := by decide +kernel
theorem d_Cc_ifCovered_139 : decode c_Cc_ifCovered 139 = .ok (.getfield 79, 3) := by decide +kernel
theorem d_Cc_ifCovered_142 : decode c_Cc_ifCovered 142 = .ok (.iload_n 1, 1) := by decide +kernel
theorem d_Cc_ifCovered_143 : decode c_Cc_ifCovered 143 = .ok (.invokevirtual 218, 3) := by decide +kernel
theorem d_Cc_ifCovered_146 : decode c_Cc_ifCovered 146 = .ok (.ireturn, 1) := by decide +kernel
theorem d_Cc_ifCovered_147 : decode c_Cc_ifCovered 147 = .ok (.aload_n 0, 1) := by decide +kernel
theorem d_Cc_ifCovered_148 : decode c_Cc_ifCovered 148 = .ok (.getfield 19, 3) := by decide +kernel
theorem d_Cc_ifCovered_151 : decode c_Cc_ifCovered 151 = .ok (.getfield 50, 3) := by decide +kernel
theorem d_Cc_ifCovered_154 : decode c_Cc_ifCovered 154 = .ok (.getfield 178, 3) := by decide +kernel
theorem d_Cc_ifCovered_157 : decode c_Cc_ifCovered 157 = .ok (.iload_n 2, 1) := by decide +kernel
theorem d_Cc_ifCovered_158 : decode c_Cc_ifCovered 158 = .ok (.invokevirtual 134, 3) := by decide +kernel
theorem d_Cc_ifCovered_161 : decode c_Cc_ifCovered 161 = .ok (.aload_n 0, 1) := by decide +kernel
theorem d_Cc_ifCovered_162 : decode c_Cc_ifCovered 162 = .ok (.getfield 10, 3) := by decide +kernel
theorem d_Cc_ifCovered_165 : decode c_Cc_ifCovered 165 = .ok (.getfield 50, 3) := by decide +kernel
theorem d_Cc_ifCovered_168 : decode c_Cc_ifCovered 168 = .ok (.getfield 178, 3) := by decide +kernel
theorem d_Cc_ifCovered_171 : decode c_Cc_ifCovered 171 = .ok (.iload_n 2, 1) := by decide +kernel
theorem d_Cc_ifCovered_172 : decode c_Cc_ifCovered 172 = .ok (.invokevirtual 134, 3) := by decide +kernel
theorem d_Cc_ifCovered_175 : decode c_Cc_ifCovered 175 = .ok (.isub, 1) := by decide +kernel
theorem d_Cc_ifCovered_176 : decode c_Cc_ifCovered 176 = .ok (.ireturn, 1) := by decide +kernel
theorem d_Cc_ifCovered_177 : decode c_Cc_ifCovered 177 = .ok (.aload_n 0, 1) := by decide +kernel
theorem d_Cc_ifCovered_178 : decode c_Cc_ifCovered 178 = .ok (.getfield 10, 3) := by decide +kernel
theorem d_Cc_ifCovered_181 : decode c_Cc_ifCovered 181 = .ok (.getfield 50, 3) := by decide +kernel
theorem d_Cc_ifCovered_184 : decode c_Cc_ifCovered 184 = .ok (.getfield 163, 3) := by decide +kernel
theorem d_Cc_ifCovered_187 : decode c_Cc_ifCovered 187 = .ok (.iload_n 2, 1) := by decide +kernel
theorem d_Cc_ifCovered_188 : decode c_Cc_ifCovered 188 = .ok (.invokevirtual 134, 3) := by decide +kernel
theorem d_Cc_ifCovered_191 : decode c_Cc_ifCovered 191 = .ok (.aload_n 0, 1) := by decide +kernel
theorem d_Cc_ifCovered_192 : decode c_Cc_ifCovered 192 = .ok (.getfield 19, 3) := by decide +kernel
theorem d_Cc_ifCovered_195 : decode c_Cc_ifCovered 195 = .ok (.getfield 50, 3) := by decide +kernel
theorem d_Cc_ifCovered_198 : decode c_Cc_ifCovered 198 = .ok (.getfield 163, 3) := by decide +kernel
theorem d_Cc_ifCovered_201 : decode c_Cc_ifCovered 201 = .ok (.iload_n 2, 1) := by decide +kernel
theorem d_Cc_ifCovered_202 : decode c_Cc_ifCovered 202 = .ok (.invokevirtual 134, 3) := by decide +kernel
theorem d_Cc_ifCovered_205 : decode c_Cc_ifCovered 205 = .ok (.isub, 1) := by decide +kernel
theorem d_Cc_ifCovered_206 : decode c_Cc_ifCovered 206 = .ok (.ireturn, 1) := by decide +kernel
theorem d_Cc_ifCovered_207 : decode c_Cc_ifCovered 207 = .ok (.aload_n 0, 1) := by decide +kernel
theorem d_Cc_ifCovered_208 : decode c_Cc_ifCovered 208 = .ok (.getfield 19, 3) := by decide +kernel
theorem d_Cc_ifCovered_211 : decode c_Cc_ifCovered 211 = .ok (.getfield 79, 3) := by decide +kernel
theorem d_Cc_ifCovered_214 : decode c_Cc_ifCovered 214 = .ok (.iload_n 1, 1) := by decide +kernel
theorem d_Cc_ifCovered_215 : decode c_Cc_ifCovered 215 = .ok (.invokevirtual 252, 3) := by decide +kernel
theorem d_Cc_ifCovered_218 : decode c_Cc_ifCovered 218 = .ok (.ireturn, 1) := by decide +kernel
theorem d_Cc_best_0 : decode c_Cc_best 0 = .ok (.aload_n 0, 1) := by decide +kernel
theorem d_Cc_best_1 : decode c_Cc_best 1 = .ok (.getfield 10, 3) := by decide +kernel
theorem d_Cc_best_4 : decode c_Cc_best 4 = .ok (.getfield 79, 3) := by decide +kernel
theorem d_Cc_best_7 : decode c_Cc_best 7 = .ok (.iload_n 1, 1) := by decide +kernel
theorem d_Cc_best_8 : decode c_Cc_best 8 = .ok (.invokevirtual 86, 3) := by decide +kernel
theorem d_Cc_best_11 : decode c_Cc_best 11 = .ok (.ifCond .ne 5, 3) := by decide +kernel
theorem d_Cc_best_14 : decode c_Cc_best 14 = .ok (.iconst (-1), 1) := by decide +kernel
theorem d_Cc_best_15 : decode c_Cc_best 15 = .ok (.ireturn, 1) := by decide +kernel
theorem d_Cc_best_16 : decode c_Cc_best 16 = .ok (.iload_n 2, 1) := by decide +kernel
theorem d_Cc_best_17 : decode c_Cc_best 17 = .ok (.invokestatic 46, 3) := by decide +kernel
theorem d_Cc_best_20 : decode c_Cc_best 20 = .ok (.ifCond .eq 12, 3) := by decide +kernel
theorem d_Cc_best_23 : decode c_Cc_best 23 = .ok (.iload_n 3, 1) := by decide +kernel
theorem d_Cc_best_24 : decode c_Cc_best 24 = .ok (.ifCond .lt 8, 3) := by decide +kernel
theorem d_Cc_best_27 : decode c_Cc_best 27 = .ok (.iload_n 3, 1) := by decide +kernel
theorem d_Cc_best_28 : decode c_Cc_best 28 = .ok (.iconst 3, 1) := by decide +kernel
theorem d_Cc_best_29 : decode c_Cc_best 29 = .ok (.if_icmp .le 6, 3) := by decide +kernel
theorem d_Cc_best_32 : decode c_Cc_best 32 = .ok (.bipush (-2), 2) := by decide +kernel
theorem d_Cc_best_34 : decode c_Cc_best 34 = .ok (.ireturn, 1) := by decide +kernel
theorem d_Cc_best_35 : decode c_Cc_best 35 = .ok (.aload_n 0, 1) := by decide +kernel
theorem d_Cc_best_36 : decode c_Cc_best 36 = .ok (.aload_n 0, 1) := by decide +kernel
theorem d_Cc_best_37 : decode c_Cc_best 37 = .ok (.getfield 10, 3) := by decide +kernel
theorem d_Cc_best_40 : decode c_Cc_best 40 = .ok (.iload_n 1, 1) := by decide +kernel
theorem d_Cc_best_41 : decode c_Cc_best 41 = .ok (.iload_n 2, 1) := by decide +kernel
theorem d_Cc_best_42 : decode c_Cc_best 42 = .ok (.invokevirtual 255, 3) := by decide +kernel
theorem d_Cc_best_45 : decode c_Cc_best 45 = .ok (.aload_n 0, 1) := by decide +kernel
theorem d_Cc_best_46 : decode c_Cc_best 46 = .ok (.getfield 42, 3) := by decide +kernel
theorem d_Cc_best_49 : decode c_Cc_best 49 = .ok (.getfield 259, 3) := by decide +kernel
theorem d_Cc_best_52 : decode c_Cc_best 52 = .ok (.ifCond .ne 6, 3) := by decide +kernel
theorem d_Cc_best_55 : decode c_Cc_best 55 = .ok (.bipush (-5), 2) := by decide +kernel
theorem d_Cc_best_57 : decode c_Cc_best 57 = .ok (.ireturn, 1) := by decide +kernel
theorem d_Cc_best_58 : decode c_Cc_best 58 = .ok (.iload_n 3, 1) := by decide +kernel
theorem d_Cc_best_59 : decode c_Cc_best 59 = .ok (.tableswitch 49 0 2 #[25, 33, 41], 25) := by decide +kernel
theorem d_Cc_best_84 : decode c_Cc_best 84 = .ok (.aload_n 0, 1) := by decide +kernel
theorem d_Cc_best_85 : decode c_Cc_best 85 = .ok (.getfield 42, 3) := by decide +kernel
theorem d_Cc_best_88 : decode c_Cc_best 88 = .ok (.getfield 262, 3) := by decide +kernel
theorem d_Cc_best_91 : decode c_Cc_best 91 = .ok (.ireturn, 1) := by decide +kernel
theorem d_Cc_best_92 : decode c_Cc_best 92 = .ok (.aload_n 0, 1) := by decide +kernel
theorem d_Cc_best_93 : decode c_Cc_best 93 = .ok (.getfield 42, 3) := by decide +kernel
theorem d_Cc_best_96 : decode c_Cc_best 96 = .ok (.getfield 264, 3) := by decide +kernel
theorem d_Cc_best_99 : decode c_Cc_best 99 = .ok (.ireturn, 1) := by decide +kernel
theorem d_Cc_best_100 : decode c_Cc_best 100 = .ok (.aload_n 0, 1) := by decide +kernel
theorem d_Cc_best_101 : decode c_Cc_best 101 = .ok (.getfield 42, 3) := by decide +kernel
theorem d_Cc_best_104 : decode c_Cc_best 104 = .ok (.getfield 266, 3) := by decide +kernel
theorem d_Cc_best_107 : decode c_Cc_best 107 = .ok (.ireturn, 1) := by decide +kernel
theorem d_Cc_best_108 : decode c_Cc_best 108 = .ok (.aload_n 0, 1) := by decide +kernel
theorem d_Cc_best_109 : decode c_Cc_best 109 = .ok (.getfield 42, 3) := by decide +kernel
theorem d_Cc_best_112 : decode c_Cc_best 112 = .ok (.getfield 268, 3) := by decide +kernel
theorem d_Cc_best_115 : decode c_Cc_best 115 = .ok (.ireturn, 1) := by decide +kernel
theorem d_Cc_suits_0 : decode c_Cc_suits 0 = .ok (.aload_n 0, 1) := by decide +kernel
theorem d_Cc_suits_1 : decode c_Cc_suits 1 = .ok (.getfield 10, 3) := by decide +kernel
theorem d_Cc_suits_4 : decode c_Cc_suits 4 = .ok (.getfield 107, 3) := by decide +kernel
theorem d_Cc_suits_7 : decode c_Cc_suits 7 = .ok (.iload_n 1, 1) := by decide +kernel
theorem d_Cc_suits_8 : decode c_Cc_suits 8 = .ok (.invokevirtual 111, 3) := by decide +kernel
theorem d_Cc_suits_11 : decode c_Cc_suits 11 = .ok (.istore_n 2, 1) := by decide +kernel
theorem d_Cc_suits_12 : decode c_Cc_suits 12 = .ok (.iload_n 2, 1) := by decide +kernel
theorem d_Cc_suits_13 : decode c_Cc_suits 13 = .ok (.ifCond .ge 5, 3) := by decide +kernel
theorem d_Cc_suits_16 : decode c_Cc_suits 16 = .ok (.iconst (-1), 1) := by decide +kernel
theorem d_Cc_suits_17 : decode c_Cc_suits 17 = .ok (.ireturn, 1) := by decide +kernel
theorem d_Cc_suits_18 : decode c_Cc_suits 18 = .ok (.iconst 0, 1) := by decide +kernel
theorem d_Cc_suits_19 : decode c_Cc_suits 19 = .ok (.istore_n 3, 1) := by decide +kernel
theorem d_Cc_suits_20 : decode c_Cc_suits 20 = .ok (.iload_n 3, 1) := by decide +kernel
theorem d_Cc_suits_21 : decode c_Cc_suits 21 = .ok (.aload_n 0, 1) := by decide +kernel
theorem d_Cc_suits_22 : decode c_Cc_suits 22 = .ok (.getfield 10, 3) := by decide +kernel
theorem d_Cc_suits_25 : decode c_Cc_suits 25 = .ok (.getfield 79, 3) := by decide +kernel
theorem d_Cc_suits_28 : decode c_Cc_suits 28 = .ok (.getfield 76, 3) := by decide +kernel
theorem d_Cc_suits_31 : decode c_Cc_suits 31 = .ok (.if_icmp .ge 23, 3) := by decide +kernel
theorem d_Cc_suits_34 : decode c_Cc_suits 34 = .ok (.aload_n 0, 1) := by decide +kernel
theorem d_Cc_suits_35 : decode c_Cc_suits 35 = .ok (.getfield 10, 3) := by decide +kernel
theorem d_Cc_suits_38 : decode c_Cc_suits 38 = .ok (.iload_n 2, 1) := by decide +kernel
theorem d_Cc_suits_39 : decode c_Cc_suits 39 = .ok (.iload_n 3, 1) := by decide +kernel
theorem d_Cc_suits_40 : decode c_Cc_suits 40 = .ok (.invokevirtual 270, 3) := by decide +kernel
theorem d_Cc_suits_43 : decode c_Cc_suits 43 = .ok (.ifCond .eq 5, 3) := by decide +kernel
theorem d_Cc_suits_46 : decode c_Cc_suits 46 = .ok (.iload_n 3, 1) := by decide +kernel
theorem d_Cc_suits_47 : decode c_Cc_suits 47 = .ok (.ireturn, 1) := by decide +kernel
theorem d_Cc_suits_48 : decode c_Cc_suits 48 = .ok (.iinc 3 1, 3) := by decide +kernel
theorem d_Cc_suits_51 : decode c_Cc_suits 51 = .ok (.goto (-31), 3) := by decide +kernel
theorem d_Cc_suits_54 : decode c_Cc_suits 54 = .ok (.bipush (-5), 2) := by decide +kernel
theorem d_Cc_suits_56 : decode c_Cc_suits 56 = .ok (.ireturn, 1) := by decide +kernel
theorem d_Cc_coverAll_0 : decode c_Cc_coverAll 0 = .ok (.iload_n 1, 1) := by decide +kernel
theorem d_Cc_coverAll_1 : decode c_Cc_coverAll 1 = .ok (.invokestatic 46, 3) := by decide +kernel
theorem d_Cc_coverAll_4 : decode c_Cc_coverAll 4 = .ok (.ifCond .eq 12, 3) := by decide +kernel
theorem d_Cc_coverAll_7 : decode c_Cc_coverAll 7 = .ok (.iload_n 2, 1) := by decide +kernel
theorem d_Cc_coverAll_8 : decode c_Cc_coverAll 8 = .ok (.ifCond .lt 8, 3) := by decide +kernel
theorem d_Cc_coverAll_11 : decode c_Cc_coverAll 11 = .ok (.iload_n 2, 1) := by decide +kernel
theorem d_Cc_coverAll_12 : decode c_Cc_coverAll 12 = .ok (.iconst 1, 1) := by decide +kernel
theorem d_Cc_coverAll_13 : decode c_Cc_coverAll 13 = .ok (.if_icmp .le 6, 3) := by decide +kernel
theorem d_Cc_coverAll_16 : decode c_Cc_coverAll 16 = .ok (.bipush (-2), 2) := by decide +kernel
theorem d_Cc_coverAll_18 : decode c_Cc_coverAll 18 = .ok (.ireturn, 1) := by decide +kernel
theorem d_Cc_coverAll_19 : decode c_Cc_coverAll 19 = .ok (.aload_n 0, 1) := by decide +kernel
theorem d_Cc_coverAll_20 : decode c_Cc_coverAll 20 = .ok (.getfield 22, 3) := by decide +kernel
theorem d_Cc_coverAll_23 : decode c_Cc_coverAll 23 = .ok (.aload_n 0, 1) := by decide +kernel
theorem d_Cc_coverAll_24 : decode c_Cc_coverAll 24 = .ok (.getfield 10, 3) := by decide +kernel
theorem d_Cc_coverAll_27 : decode c_Cc_coverAll 27 = .ok (.invokevirtual 93, 3) := by decide +kernel
theorem d_Cc_coverAll_30 : decode c_Cc_coverAll 30 = .ok (.aload_n 0, 1) := by decide +kernel
theorem d_Cc_coverAll_31 : decode c_Cc_coverAll 31 = .ok (.getfield 22, 3) := by decide +kernel
theorem d_Cc_coverAll_34 : decode c_Cc_coverAll 34 = .ok (.getfield 79, 3) := by decide +kernel
theorem d_Cc_coverAll_37 : decode c_Cc_coverAll 37 = .ok (.getfield 76, 3) := by decide +kernel
theorem d_Cc_coverAll_40 : decode c_Cc_coverAll 40 = .ok (.istore_n 3, 1) := by decide +kernel
theorem d_Cc_coverAll_41 : decode c_Cc_coverAll 41 = .ok (.iconst 0, 1) := by decide +kernel
theorem d_Cc_coverAll_42 : decode c_Cc_coverAll 42 = .ok (.istore 4, 2) := by decide +kernel
theorem d_Cc_coverAll_44 : decode c_Cc_coverAll 44 = .ok (.iconst 0, 1) := by decide +kernel
theorem d_Cc_coverAll_45 : decode c_Cc_coverAll 45 = .ok (.istore 5, 2) := by decide +kernel
theorem d_Cc_coverAll_47 : decode c_Cc_coverAll 47 = .ok (.iconst 0, 1) := by decide +kernel
theorem d_Cc_coverAll_48 : decode c_Cc_coverAll 48 = .ok (.istore 6, 2) := by decide +kernel
theorem d_Cc_coverAll_50 : decode c_Cc_coverAll 50 = .ok (.iload 6, 2) := by decide +kernel
theorem d_Cc_coverAll_52 : decode c_Cc_coverAll 52 = .ok (.iload_n 3, 1) := by decide +kernel
theorem d_Cc_coverAll_53 : decode c_Cc_coverAll 53 = .ok (.if_icmp .ge 69, 3) := by decide +kernel
theorem d_Cc_coverAll_56 : decode c_Cc_coverAll 56 = .ok (.aload_n 0, 1) := by decide +kernel
theorem d_Cc_coverAll_57 : decode c_Cc_coverAll 57 = .ok (.aload_n 0, 1) := by decide +kernel
theorem d_Cc_coverAll_58 : decode c_Cc_coverAll 58 = .ok (.getfield 22, 3) := by decide +kernel
theorem d_Cc_coverAll_61 : decode c_Cc_coverAll 61 = .ok (.iload 6, 2) := by decide +kernel
theorem d_Cc_coverAll_63 : decode c_Cc_coverAll 63 = .ok (.iload_n 1, 1) := by decide +kernel
theorem d_Cc_coverAll_64 : decode c_Cc_coverAll 64 = .ok (.invokevirtual 255, 3) := by decide +kernel
theorem d_Cc_coverAll_67 : decode c_Cc_coverAll 67 = .ok (.aload_n 0, 1) := by decide +kernel
theorem d_Cc_coverAll_68 : decode c_Cc_coverAll 68 = .ok (.getfield 42, 3) := by decide +kernel
theorem d_Cc_coverAll_71 : decode c_Cc_coverAll 71 = .ok (.getfield 259, 3) := by decide +kernel
theorem d_Cc_coverAll_74 : decode c_Cc_coverAll 74 = .ok (.ifCond .eq 42, 3) := by decide +kernel
theorem d_Cc_coverAll_77 : decode c_Cc_coverAll 77 = .ok (.aload_n 0, 1) := by decide +kernel
theorem d_Cc_coverAll_78 : decode c_Cc_coverAll 78 = .ok (.getfield 22, 3) := by decide +kernel
theorem d_Cc_coverAll_81 : decode c_Cc_coverAll 81 = .ok (.iload 6, 2) := by decide +kernel
theorem d_Cc_coverAll_83 : decode c_Cc_coverAll 83 = .ok (.aload_n 0, 1) := by decide +kernel
theorem d_Cc_coverAll_84 : decode c_Cc_coverAll 84 = .ok (.getfield 42, 3) := by decide +kernel
theorem d_Cc_coverAll_87 : decode c_Cc_coverAll 87 = .ok (.getfield 262, 3) := by decide +kernel
theorem d_Cc_coverAll_90 : decode c_Cc_coverAll 90 = .ok (.aload_n 0, 1) := by decide +kernel
theorem d_Cc_coverAll_91 : decode c_Cc_coverAll 91 = .ok (.getfield 42, 3) := by decide +kernel
theorem d_Cc_coverAll_94 : decode c_Cc_coverAll 94 = .ok (.getfield 264, 3) := by decide +kernel
theorem d_Cc_coverAll_97 : decode c_Cc_coverAll 97 = .ok (.invokevirtual 96, 3) := by decide +kernel
theorem d_Cc_coverAll_100 : decode c_Cc_coverAll 100 = .ok (.pop, 1) := by decide +kernel
theorem d_Cc_coverAll_101 : decode c_Cc_coverAll 101 = .ok (.iinc 4 1, 3) := by decide +kernel
theorem d_Cc_coverAll_104 : decode c_Cc_coverAll 104 = .ok (.iload 5, 2) := by decide +kernel
theorem d_Cc_coverAll_106 : decode c_Cc_coverAll 106 = .ok (.aload_n 0, 1) := by decide +kernel
theorem d_Cc_coverAll_107 : decode c_Cc_coverAll 107 = .ok (.getfield 42, 3) := by decide +kernel
theorem d_Cc_coverAll_110 : decode c_Cc_coverAll 110 = .ok (.getfield 266, 3) := by decide +kernel
theorem d_Cc_coverAll_113 : decode c_Cc_coverAll 113 = .ok (.iadd, 1) := by decide +kernel
theorem d_Cc_coverAll_114 : decode c_Cc_coverAll 114 = .ok (.istore 5, 2) := by decide +kernel
theorem d_Cc_coverAll_116 : decode c_Cc_coverAll 116 = .ok (.iinc 6 1, 3) := by decide +kernel
theorem d_Cc_coverAll_119 : decode c_Cc_coverAll 119 = .ok (.goto (-69), 3) := by decide +kernel
theorem d_Cc_coverAll_122 : decode c_Cc_coverAll 122 = .ok (.iload_n 2, 1) := by decide +kernel
theorem d_Cc_coverAll_123 : decode c_Cc_coverAll 123 = .ok (.ifCond .ne 8, 3) := by decide +kernel
theorem d_Cc_coverAll_126 : decode c_Cc_coverAll 126 = .ok (.iload 4, 2) := by decide +kernel
theorem d_Cc_coverAll_128 : decode c_Cc_coverAll 128 = .ok (.goto 5, 3) := by decide +kernel
theorem d_Cc_coverAll_131 : decode c_Cc_coverAll 131 = .ok (.iload 5, 2) := by decide +kernel
theorem d_Cc_coverAll_133 : decode c_Cc_coverAll 133 = .ok (.ireturn, 1) := by decide +kernel
theorem d_Cc_choose_0 : decode c_Cc_choose 0 = .ok (.aload_n 0, 1) := by decide +kernel
theorem d_Cc_choose_1 : decode c_Cc_choose 1 = .ok (.getfield 42, 3) := by decide +kernel
theorem d_Cc_choose_4 : decode c_Cc_choose 4 = .ok (.iconst 0, 1) := by decide +kernel
theorem d_Cc_choose_5 : decode c_Cc_choose 5 = .ok (.putfield 259, 3) := by decide +kernel
theorem d_Cc_choose_8 : decode c_Cc_choose 8 = .ok (.aload_n 1, 1) := by decide +kernel
theorem d_Cc_choose_9 : decode c_Cc_choose 9 = .ok (.getfield 50, 3) := by decide +kernel
theorem d_Cc_choose_12 : decode c_Cc_choose 12 = .ok (.getfield 54, 3) := by decide +kernel
theorem d_Cc_choose_15 : decode c_Cc_choose 15 = .ok (.istore 4, 2) := by decide +kernel
theorem d_Cc_choose_17 : decode c_Cc_choose 17 = .ok (.iconst 0, 1) := by decide +kernel
theorem d_Cc_choose_18 : decode c_Cc_choose 18 = .ok (.istore 5, 2) := by decide +kernel
theorem d_Cc_choose_20 : decode c_Cc_choose 20 = .ok (.iload 5, 2) := by decide +kernel
theorem d_Cc_choose_22 : decode c_Cc_choose 22 = .ok (.iload 4, 2) := by decide +kernel
theorem d_Cc_choose_24 : decode c_Cc_choose 24 = .ok (.if_icmp .ge 115, 3) := by decide +kernel
theorem d_Cc_choose_27 : decode c_Cc_choose 27 = .ok (.aload_n 1, 1) := by decide +kernel
theorem d_Cc_choose_28 : decode c_Cc_choose 28 = .ok (.getfield 50, 3) := by decide +kernel
theorem d_Cc_choose_31 : decode c_Cc_choose 31 = .ok (.getfield 157, 3) := by decide +kernel
theorem d_Cc_choose_34 : decode c_Cc_choose 34 = .ok (.iload 5, 2) := by decide +kernel
theorem d_Cc_choose_36 : decode c_Cc_choose 36 = .ok (.invokevirtual 134, 3) := by decide +kernel
theorem d_Cc_choose_39 : decode c_Cc_choose 39 = .ok (.iload_n 3, 1) := by decide +kernel
theorem d_Cc_choose_40 : decode c_Cc_choose 40 = .ok (.if_icmp .eq 6, 3) := by decide +kernel
theorem d_Cc_choose_43 : decode c_Cc_choose 43 = .ok (.goto 90, 3) := by decide +kernel
theorem d_Cc_choose_46 : decode c_Cc_choose 46 = .ok (.iconst 0, 1) := by decide +kernel
theorem d_Cc_choose_47 : decode c_Cc_choose 47 = .ok (.istore 6, 2) := by decide +kernel
theorem d_Cc_choose_49 : decode c_Cc_choose 49 = .ok (.iload 6, 2) := by decide +kernel
theorem d_Cc_choose_51 : decode c_Cc_choose 51 = .ok (.iconst 1, 1) := by decide +kernel
theorem d_Cc_choose_52 : decode c_Cc_choose 52 = .ok (.if_icmp .gt 81, 3) := by decide +kernel
theorem d_Cc_choose_55 : decode c_Cc_choose 55 = .ok (.aload_n 0, 1) := by decide +kernel
theorem d_Cc_choose_56 : decode c_Cc_choose 56 = .ok (.getfield 19, 3) := by decide +kernel
theorem d_Cc_choose_59 : decode c_Cc_choose 59 = .ok (.aload_n 1, 1) := by decide +kernel
theorem d_Cc_choose_60 : decode c_Cc_choose 60 = .ok (.invokevirtual 93, 3) := by decide +kernel
theorem d_Cc_choose_63 : decode c_Cc_choose 63 = .ok (.aload_n 0, 1) := by decide +kernel
theorem d_Cc_choose_64 : decode c_Cc_choose 64 = .ok (.getfield 19, 3) := by decide +kernel
theorem d_Cc_choose_67 : decode c_Cc_choose 67 = .ok (.iload_n 2, 1) := by decide +kernel
theorem d_Cc_choose_68 : decode c_Cc_choose 68 = .ok (.iload 5, 2) := by decide +kernel
theorem d_Cc_choose_70 : decode c_Cc_choose 70 = .ok (.iload 6, 2) := by decide +kernel
theorem d_Cc_choose_72 : decode c_Cc_choose 72 = .ok (.invokevirtual 96, 3) := by decide +kernel
theorem d_Cc_choose_75 : decode c_Cc_choose 75 = .ok (.istore 7, 2) := by decide +kernel
theorem d_Cc_choose_77 : decode c_Cc_choose 77 = .ok (.iload 7, 2) := by decide +kernel
theorem d_Cc_choose_79 : decode c_Cc_choose 79 = .ok (.ifCond .lt 48, 3) := by decide +kernel
theorem d_Cc_choose_82 : decode c_Cc_choose 82 = .ok (.aload_n 0, 1) := by decide +kernel
theorem d_Cc_choose_83 : decode c_Cc_choose 83 = .ok (.getfield 19, 3) := by decide +kernel
theorem d_Cc_choose_86 : decode c_Cc_choose 86 = .ok (.getfield 50, 3) := by decide +kernel
theorem d_Cc_choose_89 : decode c_Cc_choose 89 = .ok (.getfield 178, 3) := by decide +kernel
theorem d_Cc_choose_92 : decode c_Cc_choose 92 = .ok (.iload 5, 2) := by decide +kernel
theorem d_Cc_choose_94 : decode c_Cc_choose 94 = .ok (.invokevirtual 134, 3) := by decide +kernel
theorem d_Cc_choose_97 : decode c_Cc_choose 97 = .ok (.aload_n 1, 1) := by decide +kernel
theorem d_Cc_choose_98 : decode c_Cc_choose 98 = .ok (.getfield 50, 3) := by decide +kernel
theorem d_Cc_choose_101 : decode c_Cc_choose 101 = .ok (.getfield 178, 3) := by decide +kernel
theorem d_Cc_choose_104 : decode c_Cc_choose 104 = .ok (.iload 5, 2) := by decide +kernel
theorem d_Cc_choose_106 : decode c_Cc_choose 106 = .ok (.invokevirtual 134, 3) := by decide +kernel
theorem d_Cc_choose_109 : decode c_Cc_choose 109 = .ok (.isub, 1) := by decide +kernel
theorem d_Cc_choose_110 : decode c_Cc_choose 110 = .ok (.istore 8, 2) := by decide +kernel
theorem d_Cc_choose_112 : decode c_Cc_choose 112 = .ok (.aload_n 0, 1) := by decide +kernel
theorem d_Cc_choose_113 : decode c_Cc_choose 113 = .ok (.getfield 42, 3) := by decide +kernel
theorem d_Cc_choose_116 : decode c_Cc_choose 116 = .ok (.iload 5, 2) := by decide +kernel
theorem d_Cc_choose_118 : decode c_Cc_choose 118 = .ok (.iload 6, 2) := by decide +kernel
theorem d_Cc_choose_120 : decode c_Cc_choose 120 = .ok (.iload 8, 2) := by decide +kernel
theorem d_Cc_choose_122 : decode c_Cc_choose 122 = .ok (.iload 7, 2) := by decide +kernel
theorem d_Cc_choose_124 : decode c_Cc_choose 124 = .ok (.invokevirtual 273, 3) := by decide +kernel
theorem d_Cc_choose_127 : decode c_Cc_choose 127 = .ok (.iinc 6 1, 3) := by decide +kernel
theorem d_Cc_choose_130 : decode c_Cc_choose 130 = .ok (.goto (-81), 3) := by decide +kernel
theorem d_Cc_choose_133 : decode c_Cc_choose 133 = .ok (.iinc 5 1, 3) := by decide +kernel
theorem d_Cc_choose_136 : decode c_Cc_choose 136 = .ok (.goto (-116), 3) := by decide +kernel
theorem d_Cc_choose_139 : decode c_Cc_choose 139 = .ok (.return_, 1) := by decide +kernel
theorem d_Cc_isKind_0 : decode c_Cc_isKind 0 = .ok (.iload_n 0, 1) := by decide +kernel
theorem d_Cc_isKind_1 : decode c_Cc_isKind 1 = .ok (.ifCond .lt 13, 3) := by decide +kernel
theorem d_Cc_isKind_4 : decode c_Cc_isKind 4 = .ok (.iload_n 0, 1) := by decide +kernel
theorem d_Cc_isKind_5 : decode c_Cc_isKind 5 = .ok (.bipush 9, 2) := by decide +kernel
theorem d_Cc_isKind_7 : decode c_Cc_isKind 7 = .ok (.if_icmp .gt 7, 3) := by decide +kernel
theorem d_Cc_isKind_10 : decode c_Cc_isKind 10 = .ok (.iconst 1, 1) := by decide +kernel
theorem d_Cc_isKind_11 : decode c_Cc_isKind 11 = .ok (.goto 4, 3) := by decide +kernel
theorem d_Cc_isKind_14 : decode c_Cc_isKind 14 = .ok (.iconst 0, 1) := by decide +kernel
theorem d_Cc_isKind_15 : decode c_Cc_isKind 15 = .ok (.ireturn, 1) := by decide +kernel
theorem d_Cc_isWay_0 : decode c_Cc_isWay 0 = .ok (.iload_n 0, 1) := by decide +kernel
theorem d_Cc_isWay_1 : decode c_Cc_isWay 1 = .ok (.ifCond .eq 8, 3) := by decide +kernel
theorem d_Cc_isWay_4 : decode c_Cc_isWay 4 = .ok (.iload_n 0, 1) := by decide +kernel
theorem d_Cc_isWay_5 : decode c_Cc_isWay 5 = .ok (.iconst 1, 1) := by decide +kernel
theorem d_Cc_isWay_6 : decode c_Cc_isWay 6 = .ok (.if_icmp .ne 7, 3) := by decide +kernel
theorem d_Cc_isWay_9 : decode c_Cc_isWay 9 = .ok (.iconst 1, 1) := by decide +kernel
theorem d_Cc_isWay_10 : decode c_Cc_isWay 10 = .ok (.goto 4, 3) := by decide +kernel
theorem d_Cc_isWay_13 : decode c_Cc_isWay 13 = .ok (.iconst 0, 1) := by decide +kernel
theorem d_Cc_isWay_14 : decode c_Cc_isWay 14 = .ok (.ireturn, 1) := by decide +kernel
theorem d_Mo_init_0 : decode c_Mo_init 0 = .ok (.aload_n 0, 1) := by decide +kernel
theorem d_Mo_init_1 : decode c_Mo_init 1 = .ok (.invokespecial 1, 3) := by decide +kernel
theorem d_Mo_init_4 : decode c_Mo_init 4 = .ok (.aload_n 0, 1) := by decide +kernel
theorem d_Mo_init_5 : decode c_Mo_init 5 = .ok (.sipush 1953, 3) := by decide +kernel
theorem d_Mo_init_8 : decode c_Mo_init 8 = .ok (.newarray .int, 2) := by decide +kernel
theorem d_Mo_init_10 : decode c_Mo_init 10 = .ok (.putfield 7, 3) := by decide +kernel
theorem d_Mo_init_13 : decode c_Mo_init 13 = .ok (.aload_n 0, 1) := by decide +kernel
theorem d_Mo_init_14 : decode c_Mo_init 14 = .ok (.sipush 1953, 3) := by decide +kernel
theorem d_Mo_init_17 : decode c_Mo_init 17 = .ok (.newarray .int, 2) := by decide +kernel
theorem d_Mo_init_19 : decode c_Mo_init 19 = .ok (.putfield 13, 3) := by decide +kernel
theorem d_Mo_init_22 : decode c_Mo_init 22 = .ok (.aload_n 0, 1) := by decide +kernel
theorem d_Mo_init_23 : decode c_Mo_init 23 = .ok (.sipush 1953, 3) := by decide +kernel
theorem d_Mo_init_26 : decode c_Mo_init 26 = .ok (.newarray .int, 2) := by decide +kernel
theorem d_Mo_init_28 : decode c_Mo_init 28 = .ok (.putfield 16, 3) := by decide +kernel
theorem d_Mo_init_31 : decode c_Mo_init 31 = .ok (.aload_n 0, 1) := by decide +kernel
theorem d_Mo_init_32 : decode c_Mo_init 32 = .ok (.sipush 1953, 3) := by decide +kernel
theorem d_Mo_init_35 : decode c_Mo_init 35 = .ok (.newarray .int, 2) := by decide +kernel
theorem d_Mo_init_37 : decode c_Mo_init 37 = .ok (.putfield 19, 3) := by decide +kernel
theorem d_Mo_init_40 : decode c_Mo_init 40 = .ok (.aload_n 0, 1) := by decide +kernel
theorem d_Mo_init_41 : decode c_Mo_init 41 = .ok (.sipush 7812, 3) := by decide +kernel
theorem d_Mo_init_44 : decode c_Mo_init 44 = .ok (.newarray .int, 2) := by decide +kernel
theorem d_Mo_init_46 : decode c_Mo_init 46 = .ok (.putfield 22, 3) := by decide +kernel
theorem d_Mo_init_49 : decode c_Mo_init 49 = .ok (.aload_n 0, 1) := by decide +kernel
theorem d_Mo_init_50 : decode c_Mo_init 50 = .ok (.bipush 60, 2) := by decide +kernel
theorem d_Mo_init_52 : decode c_Mo_init 52 = .ok (.newarray .int, 2) := by decide +kernel
theorem d_Mo_init_54 : decode c_Mo_init 54 = .ok (.putfield 25, 3) := by decide +kernel
theorem d_Mo_init_57 : decode c_Mo_init 57 = .ok (.aload_n 0, 1) := by decide +kernel
theorem d_Mo_init_58 : decode c_Mo_init 58 = .ok (.bipush 8, 2) := by decide +kernel
theorem d_Mo_init_60 : decode c_Mo_init 60 = .ok (.newarray .int, 2) := by decide +kernel
theorem d_Mo_init_62 : decode c_Mo_init 62 = .ok (.putfield 28, 3) := by decide +kernel
theorem d_Mo_init_65 : decode c_Mo_init 65 = .ok (.aload_n 0, 1) := by decide +kernel
theorem d_Mo_init_66 : decode c_Mo_init 66 = .ok (.getfield 7, 3) := by decide +kernel
theorem d_Mo_init_69 : decode c_Mo_init 69 = .ok (.iconst 5, 1) := by decide +kernel
theorem d_Mo_init_70 : decode c_Mo_init 70 = .ok (.iconst 3, 1) := by decide +kernel
theorem d_Mo_init_71 : decode c_Mo_init 71 = .ok (.iastore, 1) := by decide +kernel
theorem d_Mo_init_72 : decode c_Mo_init 72 = .ok (.aload_n 0, 1) := by decide +kernel
theorem d_Mo_init_73 : decode c_Mo_init 73 = .ok (.getfield 7, 3) := by decide +kernel
theorem d_Mo_init_76 : decode c_Mo_init 76 = .ok (.bipush 6, 2) := by decide +kernel
theorem d_Mo_init_78 : decode c_Mo_init 78 = .ok (.iconst 2, 1) := by decide +kernel
theorem d_Mo_init_79 : decode c_Mo_init 79 = .ok (.iastore, 1) := by decide +kernel
theorem d_Mo_init_80 : decode c_Mo_init 80 = .ok (.aload_n 0, 1) := by decide +kernel
theorem d_Mo_init_81 : decode c_Mo_init 81 = .ok (.getfield 7, 3) := by decide +kernel
theorem d_Mo_init_84 : decode c_Mo_init 84 = .ok (.bipush 7, 2) := by decide +kernel
theorem d_Mo_init_86 : decode c_Mo_init 86 = .ok (.iconst 3, 1) := by decide +kernel
theorem d_Mo_init_87 : decode c_Mo_init 87 = .ok (.iastore, 1) := by decide +kernel
theorem d_Mo_init_88 : decode c_Mo_init 88 = .ok (.return_, 1) := by decide +kernel
theorem d_Mo_in_0 : decode c_Mo_in 0 = .ok (.iload_n 0, 1) := by decide +kernel
theorem d_Mo_in_1 : decode c_Mo_in 1 = .ok (.iload_n 1, 1) := by decide +kernel
theorem d_Mo_in_2 : decode c_Mo_in 2 = .ok (.if_icmp .lt 12, 3) := by decide +kernel
theorem d_Mo_in_5 : decode c_Mo_in 5 = .ok (.iload_n 0, 1) := by decide +kernel
theorem d_Mo_in_6 : decode c_Mo_in 6 = .ok (.iload_n 2, 1) := by decide +kernel
theorem d_Mo_in_7 : decode c_Mo_in 7 = .ok (.if_icmp .gt 7, 3) := by decide +kernel
theorem d_Mo_in_10 : decode c_Mo_in 10 = .ok (.iconst 1, 1) := by decide +kernel
theorem d_Mo_in_11 : decode c_Mo_in 11 = .ok (.goto 4, 3) := by decide +kernel
theorem d_Mo_in_14 : decode c_Mo_in 14 = .ok (.iconst 0, 1) := by decide +kernel
theorem d_Mo_in_15 : decode c_Mo_in 15 = .ok (.ireturn, 1) := by decide +kernel
theorem d_Mo_record_0 : decode c_Mo_record 0 = .ok (.aload_n 0, 1) := by decide +kernel
theorem d_Mo_record_1 : decode c_Mo_record 1 = .ok (.getfield 31, 3) := by decide +kernel
theorem d_Mo_record_4 : decode c_Mo_record 4 = .ok (.iconst 4, 1) := by decide +kernel
theorem d_Mo_record_5 : decode c_Mo_record 5 = .ok (.if_icmp .ne 44, 3) := by decide +kernel
theorem d_Mo_record_8 : decode c_Mo_record 8 = .ok (.iconst 0, 1) := by decide +kernel
theorem d_Mo_record_9 : decode c_Mo_record 9 = .ok (.istore_n 1, 1) := by decide +kernel
theorem d_Mo_record_10 : decode c_Mo_record 10 = .ok (.iload_n 1, 1) := by decide +kernel
theorem d_Mo_record_11 : decode c_Mo_record 11 = .ok (.sipush 5859, 3) := by decide +kernel
theorem d_Mo_record_14 : decode c_Mo_record 14 = .ok (.if_icmp .ge 25, 3) := by decide +kernel
theorem d_Mo_record_17 : decode c_Mo_record 17 = .ok (.aload_n 0, 1) := by decide +kernel
theorem d_Mo_record_18 : decode c_Mo_record 18 = .ok (.getfield 22, 3) := by decide +kernel
theorem d_Mo_record_21 : decode c_Mo_record 21 = .ok (.iload_n 1, 1) := by decide +kernel
theorem d_Mo_record_22 : decode c_Mo_record 22 = .ok (.aload_n 0, 1) := by decide +kernel
theorem d_Mo_record_23 : decode c_Mo_record 23 = .ok (.getfield 22, 3) := by decide +kernel
theorem d_Mo_record_26 : decode c_Mo_record 26 = .ok (.iload_n 1, 1) := by decide +kernel
theorem d_Mo_record_27 : decode c_Mo_record 27 = .ok (.sipush 1953, 3) := by decide +kernel
theorem d_Mo_record_30 : decode c_Mo_record 30 = .ok (.iadd, 1) := by decide +kernel
theorem d_Mo_record_31 : decode c_Mo_record 31 = .ok (.iaload, 1) := by decide +kernel
theorem d_Mo_record_32 : decode c_Mo_record 32 = .ok (.iastore, 1) := by decide +kernel
theorem d_Mo_record_33 : decode c_Mo_record 33 = .ok (.iinc 1 1, 3) := by decide +kernel
theorem d_Mo_record_36 : decode c_Mo_record 36 = .ok (.goto (-26), 3) := by decide +kernel
theorem d_Mo_record_39 : decode c_Mo_record 39 = .ok (.aload_n 0, 1) := by decide +kernel
theorem d_Mo_record_40 : decode c_Mo_record 40 = .ok (.dup, 1) := by decide +kernel
theorem d_Mo_record_41 : decode c_Mo_record 41 = .ok (.getfield 31, 3) := by decide +kernel
theorem d_Mo_record_44 : decode c_Mo_record 44 = .ok (.iconst 1, 1) := by decide +kernel
theorem d_Mo_record_45 : decode c_Mo_record 45 = .ok (.isub, 1) := by decide +kernel
theorem d_Mo_record_46 : decode c_Mo_record 46 = .ok (.putfield 31, 3) := by decide +kernel
theorem d_Mo_record_49 : decode c_Mo_record 49 = .ok (.iconst 0, 1) := by decide +kernel
theorem d_Mo_record_50 : decode c_Mo_record 50 = .ok (.istore_n 1, 1) := by decide +kernel
theorem d_Mo_record_51 : decode c_Mo_record 51 = .ok (.iload_n 1, 1) := by decide +kernel
theorem d_Mo_record_52 : decode c_Mo_record 52 = .ok (.sipush 1953, 3) := by decide +kernel
theorem d_Mo_record_55 : decode c_Mo_record 55 = .ok (.if_icmp .ge 30, 3) := by decide +kernel
theorem d_Mo_record_58 : decode c_Mo_record 58 = .ok (.aload_n 0, 1) := by decide +kernel
theorem d_Mo_record_59 : decode c_Mo_record 59 = .ok (.getfield 22, 3) := by decide +kernel
theorem d_Mo_record_62 : decode c_Mo_record 62 = .ok (.sipush 1953, 3) := by decide +kernel
theorem d_Mo_record_65 : decode c_Mo_record 65 = .ok (.aload_n 0, 1) := by decide +kernel
theorem d_Mo_record_66 : decode c_Mo_record 66 = .ok (.getfield 31, 3) := by decide +kernel
theorem d_Mo_record_69 : decode c_Mo_record 69 = .ok (.imul, 1) := by decide +kernel
theorem d_Mo_record_70 : decode c_Mo_record 70 = .ok (.iload_n 1, 1) := by decide +kernel
theorem d_Mo_record_71 : decode c_Mo_record 71 = .ok (.iadd, 1) := by decide +kernel
theorem d_Mo_record_72 : decode c_Mo_record 72 = .ok (.aload_n 0, 1) := by decide +kernel
theorem d_Mo_record_73 : decode c_Mo_record 73 = .ok (.getfield 7, 3) := by decide +kernel
theorem d_Mo_record_76 : decode c_Mo_record 76 = .ok (.iload_n 1, 1) := by decide +kernel
theorem d_Mo_record_77 : decode c_Mo_record 77 = .ok (.iaload, 1) := by decide +kernel
theorem d_Mo_record_78 : decode c_Mo_record 78 = .ok (.iastore, 1) := by decide +kernel
theorem d_Mo_record_79 : decode c_Mo_record 79 = .ok (.iinc 1 1, 3) := by decide +kernel
theorem d_Mo_record_82 : decode c_Mo_record 82 = .ok (.goto (-31), 3) := by decide +kernel
theorem d_Mo_record_85 : decode c_Mo_record 85 = .ok (.aload_n 0, 1) := by decide +kernel
theorem d_Mo_record_86 : decode c_Mo_record 86 = .ok (.dup, 1) := by decide +kernel
theorem d_Mo_record_87 : decode c_Mo_record 87 = .ok (.getfield 31, 3) := by decide +kernel
theorem d_Mo_record_90 : decode c_Mo_record 90 = .ok (.iconst 1, 1) := by decide +kernel
theorem d_Mo_record_91 : decode c_Mo_record 91 = .ok (.iadd, 1) := by decide +kernel
theorem d_Mo_record_92 : decode c_Mo_record 92 = .ok (.putfield 31, 3) := by decide +kernel
theorem d_Mo_record_95 : decode c_Mo_record 95 = .ok (.return_, 1) := by decide +kernel
theorem d_Mo_lay_0 : decode c_Mo_lay 0 = .ok (.iconst 0, 1) := by decide +kernel
theorem d_Mo_lay_1 : decode c_Mo_lay 1 = .ok (.istore_n 1, 1) := by decide +kernel
theorem d_Mo_lay_2 : decode c_Mo_lay 2 = .ok (.iload_n 1, 1) := by decide +kernel
theorem d_Mo_lay_3 : decode c_Mo_lay 3 = .ok (.sipush 1953, 3) := by decide +kernel
theorem d_Mo_lay_6 : decode c_Mo_lay 6 = .ok (.if_icmp .ge 21, 3) := by decide +kernel
theorem d_Mo_lay_9 : decode c_Mo_lay 9 = .ok (.aload_n 0, 1) := by decide +kernel
theorem d_Mo_lay_10 : decode c_Mo_lay 10 = .ok (.getfield 16, 3) := by decide +kernel
theorem d_Mo_lay_13 : decode c_Mo_lay 13 = .ok (.iload_n 1, 1) := by decide +kernel
theorem d_Mo_lay_14 : decode c_Mo_lay 14 = .ok (.aload_n 0, 1) := by decide +kernel
theorem d_Mo_lay_15 : decode c_Mo_lay 15 = .ok (.getfield 7, 3) := by decide +kernel
theorem d_Mo_lay_18 : decode c_Mo_lay 18 = .ok (.iload_n 1, 1) := by decide +kernel
theorem d_Mo_lay_19 : decode c_Mo_lay 19 = .ok (.iaload, 1) := by decide +kernel
theorem d_Mo_lay_20 : decode c_Mo_lay 20 = .ok (.iastore, 1) := by decide +kernel
theorem d_Mo_lay_21 : decode c_Mo_lay 21 = .ok (.iinc 1 1, 3) := by decide +kernel
theorem d_Mo_lay_24 : decode c_Mo_lay 24 = .ok (.goto (-22), 3) := by decide +kernel
theorem d_Mo_lay_27 : decode c_Mo_lay 27 = .ok (.return_, 1) := by decide +kernel
theorem d_Mo_takeBack_0 : decode c_Mo_takeBack 0 = .ok (.iconst 0, 1) := by decide +kernel
theorem d_Mo_takeBack_1 : decode c_Mo_takeBack 1 = .ok (.istore_n 1, 1) := by decide +kernel
theorem d_Mo_takeBack_2 : decode c_Mo_takeBack 2 = .ok (.iload_n 1, 1) := by decide +kernel
theorem d_Mo_takeBack_3 : decode c_Mo_takeBack 3 = .ok (.sipush 1953, 3) := by decide +kernel
theorem d_Mo_takeBack_6 : decode c_Mo_takeBack 6 = .ok (.if_icmp .ge 21, 3) := by decide +kernel
theorem d_Mo_takeBack_9 : decode c_Mo_takeBack 9 = .ok (.aload_n 0, 1) := by decide +kernel
theorem d_Mo_takeBack_10 : decode c_Mo_takeBack 10 = .ok (.getfield 7, 3) := by decide +kernel
theorem d_Mo_takeBack_13 : decode c_Mo_takeBack 13 = .ok (.iload_n 1, 1) := by decide +kernel
theorem d_Mo_takeBack_14 : decode c_Mo_takeBack 14 = .ok (.aload_n 0, 1) := by decide +kernel
theorem d_Mo_takeBack_15 : decode c_Mo_takeBack 15 = .ok (.getfield 16, 3) := by decide +kernel
theorem d_Mo_takeBack_18 : decode c_Mo_takeBack 18 = .ok (.iload_n 1, 1) := by decide +kernel
theorem d_Mo_takeBack_19 : decode c_Mo_takeBack 19 = .ok (.iaload, 1) := by decide +kernel
theorem d_Mo_takeBack_20 : decode c_Mo_takeBack 20 = .ok (.iastore, 1) := by decide +kernel
theorem d_Mo_takeBack_21 : decode c_Mo_takeBack 21 = .ok (.iinc 1 1, 3) := by decide +kernel
theorem d_Mo_takeBack_24 : decode c_Mo_takeBack 24 = .ok (.goto (-22), 3) := by decide +kernel
theorem d_Mo_takeBack_27 : decode c_Mo_takeBack 27 = .ok (.return_, 1) := by decide +kernel
theorem d_Mo_of_0 : decode c_Mo_of 0 = .ok (.aload_n 0, 1) := by decide +kernel
theorem d_Mo_of_1 : decode c_Mo_of 1 = .ok (.getfield 7, 3) := by decide +kernel
theorem d_Mo_of_4 : decode c_Mo_of 4 = .ok (.bipush 9, 2) := by decide +kernel
theorem d_Mo_of_6 : decode c_Mo_of 6 = .ok (.bipush 7, 2) := by decide +kernel
theorem d_Mo_of_8 : decode c_Mo_of 8 = .ok (.iload_n 1, 1) := by decide +kernel
theorem d_Mo_of_9 : decode c_Mo_of 9 = .ok (.imul, 1) := by decide +kernel
theorem d_Mo_of_10 : decode c_Mo_of 10 = .ok (.iadd, 1) := by decide +kernel
theorem d_Mo_of_11 : decode c_Mo_of 11 = .ok (.iload_n 2, 1) := by decide +kernel
theorem d_Mo_of_12 : decode c_Mo_of 12 = .ok (.iadd, 1) := by decide +kernel
theorem d_Mo_of_13 : decode c_Mo_of 13 = .ok (.iaload, 1) := by decide +kernel
theorem d_Mo_of_14 : decode c_Mo_of 14 = .ok (.ireturn, 1) := by decide +kernel
theorem d_Mo_add_0 : decode c_Mo_add 0 = .ok (.aload_n 0, 1) := by decide +kernel
theorem d_Mo_add_1 : decode c_Mo_add 1 = .ok (.getfield 7, 3) := by decide +kernel
theorem d_Mo_add_4 : decode c_Mo_add 4 = .ok (.bipush 9, 2) := by decide +kernel
theorem d_Mo_add_6 : decode c_Mo_add 6 = .ok (.bipush 7, 2) := by decide +kernel
theorem d_Mo_add_8 : decode c_Mo_add 8 = .ok (.iload_n 1, 1) := by decide +kernel
theorem d_Mo_add_9 : decode c_Mo_add 9 = .ok (.imul, 1) := by decide +kernel
theorem d_Mo_add_10 : decode c_Mo_add 10 = .ok (.iadd, 1) := by decide +kernel
theorem d_Mo_add_11 : decode c_Mo_add 11 = .ok (.iload_n 2, 1) := by decide +kernel
theorem d_Mo_add_12 : decode c_Mo_add 12 = .ok (.iadd, 1) := by decide +kernel
theorem d_Mo_add_13 : decode c_Mo_add 13 = .ok (.dup2, 1) := by decide +kernel
theorem d_Mo_add_14 : decode c_Mo_add 14 = .ok (.iaload, 1) := by decide +kernel
theorem d_Mo_add_15 : decode c_Mo_add 15 = .ok (.iload_n 3, 1) := by decide +kernel
theorem d_Mo_add_16 : decode c_Mo_add 16 = .ok (.iadd, 1) := by decide +kernel
theorem d_Mo_add_17 : decode c_Mo_add 17 = .ok (.iastore, 1) := by decide +kernel
theorem d_Mo_add_18 : decode c_Mo_add 18 = .ok (.return_, 1) := by decide +kernel
theorem d_Mo_at_0 : decode c_Mo_at 0 = .ok (.aload_n 0, 1) := by decide +kernel
theorem d_Mo_at_1 : decode c_Mo_at 1 = .ok (.getfield 7, 3) := by decide +kernel
theorem d_Mo_at_4 : decode c_Mo_at 4 = .ok (.sipush 993, 3) := by decide +kernel
theorem d_Mo_at_7 : decode c_Mo_at 7 = .ok (.bipush 12, 2) := by decide +kernel
theorem d_Mo_at_9 : decode c_Mo_at 9 = .ok (.iload_n 1, 1) := by decide +kernel
theorem d_Mo_at_10 : decode c_Mo_at 10 = .ok (.imul, 1) := by decide +kernel
theorem d_Mo_at_11 : decode c_Mo_at 11 = .ok (.iadd, 1) := by decide +kernel
theorem d_Mo_at_12 : decode c_Mo_at 12 = .ok (.iload_n 2, 1) := by decide +kernel
theorem d_Mo_at_13 : decode c_Mo_at 13 = .ok (.iadd, 1) := by decide +kernel
theorem d_Mo_at_14 : decode c_Mo_at 14 = .ok (.iaload, 1) := by decide +kernel
theorem d_Mo_at_15 : decode c_Mo_at 15 = .ok (.ireturn, 1) := by decide +kernel
theorem d_Mo_put_0 : decode c_Mo_put 0 = .ok (.aload_n 0, 1) := by decide +kernel
theorem d_Mo_put_1 : decode c_Mo_put 1 = .ok (.getfield 7, 3) := by decide +kernel
theorem d_Mo_put_4 : decode c_Mo_put 4 = .ok (.sipush 993, 3) := by decide +kernel
theorem d_Mo_put_7 : decode c_Mo_put 7 = .ok (.bipush 12, 2) := by decide +kernel
theorem d_Mo_put_9 : decode c_Mo_put 9 = .ok (.iload_n 1, 1) := by decide +kernel
theorem d_Mo_put_10 : decode c_Mo_put 10 = .ok (.imul, 1) := by decide +kernel
theorem d_Mo_put_11 : decode c_Mo_put 11 = .ok (.iadd, 1) := by decide +kernel
theorem d_Mo_put_12 : decode c_Mo_put 12 = .ok (.iload_n 2, 1) := by decide +kernel
theorem d_Mo_put_13 : decode c_Mo_put 13 = .ok (.iadd, 1) := by decide +kernel
theorem d_Mo_put_14 : decode c_Mo_put 14 = .ok (.iload_n 3, 1) := by decide +kernel
theorem d_Mo_put_15 : decode c_Mo_put 15 = .ok (.iastore, 1) := by decide +kernel
theorem d_Mo_put_16 : decode c_Mo_put 16 = .ok (.return_, 1) := by decide +kernel
theorem d_Mo_isRoll_0 : decode c_Mo_isRoll 0 = .ok (.iload_n 1, 1) := by decide +kernel
theorem d_Mo_isRoll_1 : decode c_Mo_isRoll 1 = .ok (.iconst 0, 1) := by decide +kernel
theorem d_Mo_isRoll_2 : decode c_Mo_isRoll 2 = .ok (.aload_n 0, 1) := by decide +kernel
theorem d_Mo_isRoll_3 : decode c_Mo_isRoll 3 = .ok (.getfield 7, 3) := by decide +kernel
theorem d_Mo_isRoll_6 : decode c_Mo_isRoll 6 = .ok (.iconst 0, 1) := by decide +kernel
theorem d_Mo_isRoll_7 : decode c_Mo_isRoll 7 = .ok (.iaload, 1) := by decide +kernel
theorem d_Mo_isRoll_8 : decode c_Mo_isRoll 8 = .ok (.iconst 1, 1) := by decide +kernel
theorem d_Mo_isRoll_9 : decode c_Mo_isRoll 9 = .ok (.isub, 1) := by decide +kernel
theorem d_Mo_isRoll_10 : decode c_Mo_isRoll 10 = .ok (.invokestatic 35, 3) := by decide +kernel
theorem d_Mo_isRoll_13 : decode c_Mo_isRoll 13 = .ok (.ireturn, 1) := by decide +kernel
theorem d_Mo_isRoom_0 : decode c_Mo_isRoom 0 = .ok (.iload_n 1, 1) := by decide +kernel
theorem d_Mo_isRoom_1 : decode c_Mo_isRoom 1 = .ok (.iconst 0, 1) := by decide +kernel
theorem d_Mo_isRoom_2 : decode c_Mo_isRoom 2 = .ok (.aload_n 0, 1) := by decide +kernel
theorem d_Mo_isRoom_3 : decode c_Mo_isRoom 3 = .ok (.getfield 7, 3) := by decide +kernel
theorem d_Mo_isRoom_6 : decode c_Mo_isRoom 6 = .ok (.iconst 2, 1) := by decide +kernel
theorem d_Mo_isRoom_7 : decode c_Mo_isRoom 7 = .ok (.iaload, 1) := by decide +kernel
theorem d_Mo_isRoom_8 : decode c_Mo_isRoom 8 = .ok (.iconst 1, 1) := by decide +kernel
theorem d_Mo_isRoom_9 : decode c_Mo_isRoom 9 = .ok (.isub, 1) := by decide +kernel
theorem d_Mo_isRoom_10 : decode c_Mo_isRoom 10 = .ok (.invokestatic 35, 3) := by decide +kernel
theorem d_Mo_isRoom_13 : decode c_Mo_isRoom 13 = .ok (.ireturn, 1) := by decide +kernel
theorem d_Mo_isKept_0 : decode c_Mo_isKept 0 = .ok (.iload_n 1, 1) := by decide +kernel
theorem d_Mo_isKept_1 : decode c_Mo_isKept 1 = .ok (.iconst 0, 1) := by decide +kernel
theorem d_Mo_isKept_2 : decode c_Mo_isKept 2 = .ok (.aload_n 0, 1) := by decide +kernel
theorem d_Mo_isKept_3 : decode c_Mo_isKept 3 = .ok (.getfield 7, 3) := by decide +kernel
theorem d_Mo_isKept_6 : decode c_Mo_isKept 6 = .ok (.iconst 1, 1) := by decide +kernel
theorem d_Mo_isKept_7 : decode c_Mo_isKept 7 = .ok (.iaload, 1) := by decide +kernel
theorem d_Mo_isKept_8 : decode c_Mo_isKept 8 = .ok (.iconst 1, 1) := by decide +kernel
theorem d_Mo_isKept_9 : decode c_Mo_isKept 9 = .ok (.isub, 1) := by decide +kernel
theorem d_Mo_isKept_10 : decode c_Mo_isKept 10 = .ok (.invokestatic 35, 3) := by decide +kernel
theorem d_Mo_isKept_13 : decode c_Mo_isKept 13 = .ok (.ifCond .eq 21, 3) := by decide +kernel
theorem d_Mo_isKept_16 : decode c_Mo_isKept 16 = .ok (.aload_n 0, 1) := by decide +kernel
theorem d_Mo_isKept_17 : decode c_Mo_isKept 17 = .ok (.getfield 7, 3) := by decide +kernel
theorem d_Mo_isKept_20 : decode c_Mo_isKept 20 = .ok (.bipush 93, 2) := by decide +kernel
theorem d_Mo_isKept_22 : decode c_Mo_isKept 22 = .ok (.iconst 3, 1) := by decide +kernel
theorem d_Mo_isKept_23 : decode c_Mo_isKept 23 = .ok (.iload_n 1, 1) := by decide +kernel
theorem d_Mo_isKept_24 : decode c_Mo_isKept 24 = .ok (.imul, 1) := by decide +kernel
theorem d_Mo_isKept_25 : decode c_Mo_isKept 25 = .ok (.iadd, 1) := by decide +kernel
theorem d_Mo_isKept_26 : decode c_Mo_isKept 26 = .ok (.iaload, 1) := by decide +kernel
theorem d_Mo_isKept_27 : decode c_Mo_isKept 27 = .ok (.ifCond .le 7, 3) := by decide +kernel
theorem d_Mo_isKept_30 : decode c_Mo_isKept 30 = .ok (.iconst 1, 1) := by decide +kernel
theorem d_Mo_isKept_31 : decode c_Mo_isKept 31 = .ok (.goto 4, 3) := by decide +kernel
theorem d_Mo_isKept_34 : decode c_Mo_isKept 34 = .ok (.iconst 0, 1) := by decide +kernel
theorem d_Mo_isKept_35 : decode c_Mo_isKept 35 = .ok (.ireturn, 1) := by decide +kernel
theorem d_Mo_rollOfOffcut_0 : decode c_Mo_rollOfOffcut 0 = .ok (.aload_n 0, 1) := by decide +kernel
theorem d_Mo_rollOfOffcut_1 : decode c_Mo_rollOfOffcut 1 = .ok (.getfield 7, 3) := by decide +kernel
theorem d_Mo_rollOfOffcut_4 : decode c_Mo_rollOfOffcut 4 = .ok (.bipush 93, 2) := by decide +kernel
theorem d_Mo_rollOfOffcut_6 : decode c_Mo_rollOfOffcut 6 = .ok (.iconst 3, 1) := by decide +kernel
theorem d_Mo_rollOfOffcut_7 : decode c_Mo_rollOfOffcut 7 = .ok (.iload_n 1, 1) := by decide +kernel
theorem d_Mo_rollOfOffcut_8 : decode c_Mo_rollOfOffcut 8 = .ok (.imul, 1) := by decide +kernel
theorem d_Mo_rollOfOffcut_9 : decode c_Mo_rollOfOffcut 9 = .ok (.iadd, 1) := by decide +kernel
theorem d_Mo_rollOfOffcut_10 : decode c_Mo_rollOfOffcut 10 = .ok (.iaload, 1) := by decide +kernel
theorem d_Mo_rollOfOffcut_11 : decode c_Mo_rollOfOffcut 11 = .ok (.iconst 1, 1) := by decide +kernel
theorem d_Mo_rollOfOffcut_12 : decode c_Mo_rollOfOffcut 12 = .ok (.isub, 1) := by decide +kernel
theorem d_Mo_rollOfOffcut_13 : decode c_Mo_rollOfOffcut 13 = .ok (.ireturn, 1) := by decide +kernel
theorem d_Mo_widthOf_0 : decode c_Mo_widthOf 0 = .ok (.aload_n 0, 1) := by decide +kernel
theorem d_Mo_widthOf_1 : decode c_Mo_widthOf 1 = .ok (.getfield 7, 3) := by decide +kernel
theorem d_Mo_widthOf_4 : decode c_Mo_widthOf 4 = .ok (.bipush 93, 2) := by decide +kernel
theorem d_Mo_widthOf_6 : decode c_Mo_widthOf 6 = .ok (.iconst 3, 1) := by decide +kernel
theorem d_Mo_widthOf_7 : decode c_Mo_widthOf 7 = .ok (.iload_n 1, 1) := by decide +kernel
theorem d_Mo_widthOf_8 : decode c_Mo_widthOf 8 = .ok (.imul, 1) := by decide +kernel
theorem d_Mo_widthOf_9 : decode c_Mo_widthOf 9 = .ok (.iadd, 1) := by decide +kernel
theorem d_Mo_widthOf_10 : decode c_Mo_widthOf 10 = .ok (.iconst 1, 1) := by decide +kernel
theorem d_Mo_widthOf_11 : decode c_Mo_widthOf 11 = .ok (.iadd, 1) := by decide +kernel
theorem d_Mo_widthOf_12 : decode c_Mo_widthOf 12 = .ok (.iaload, 1) := by decide +kernel
theorem d_Mo_widthOf_13 : decode c_Mo_widthOf 13 = .ok (.ireturn, 1) := by decide +kernel
theorem d_Mo_lengthOf_0 : decode c_Mo_lengthOf 0 = .ok (.aload_n 0, 1) := by decide +kernel
theorem d_Mo_lengthOf_1 : decode c_Mo_lengthOf 1 = .ok (.getfield 7, 3) := by decide +kernel
theorem d_Mo_lengthOf_4 : decode c_Mo_lengthOf 4 = .ok (.bipush 93, 2) := by decide +kernel
theorem d_Mo_lengthOf_6 : decode c_Mo_lengthOf 6 = .ok (.iconst 3, 1) := by decide +kernel
theorem d_Mo_lengthOf_7 : decode c_Mo_lengthOf 7 = .ok (.iload_n 1, 1) := by decide +kernel
theorem d_Mo_lengthOf_8 : decode c_Mo_lengthOf 8 = .ok (.imul, 1) := by decide +kernel
theorem d_Mo_lengthOf_9 : decode c_Mo_lengthOf 9 = .ok (.iadd, 1) := by decide +kernel
theorem d_Mo_lengthOf_10 : decode c_Mo_lengthOf 10 = .ok (.iconst 2, 1) := by decide +kernel
theorem d_Mo_lengthOf_11 : decode c_Mo_lengthOf 11 = .ok (.iadd, 1) := by decide +kernel
theorem d_Mo_lengthOf_12 : decode c_Mo_lengthOf 12 = .ok (.iaload, 1) := by decide +kernel
theorem d_Mo_lengthOf_13 : decode c_Mo_lengthOf 13 = .ok (.ireturn, 1) := by decide +kernel
theorem d_Mo_areaOf_0 : decode c_Mo_areaOf 0 = .ok (.aload_n 0, 1) := by decide +kernel
theorem d_Mo_areaOf_1 : decode c_Mo_areaOf 1 = .ok (.iload_n 1, 1) := by decide +kernel
theorem d_Mo_areaOf_2 : decode c_Mo_areaOf 2 = .ok (.invokevirtual 39, 3) := by decide +kernel
theorem d_Mo_areaOf_5 : decode c_Mo_areaOf 5 = .ok (.aload_n 0, 1) := by decide +kernel
theorem d_Mo_areaOf_6 : decode c_Mo_areaOf 6 = .ok (.iload_n 1, 1) := by decide +kernel
theorem d_Mo_areaOf_7 : decode c_Mo_areaOf 7 = .ok (.invokevirtual 43, 3) := by decide +kernel
theorem d_Mo_areaOf_10 : decode c_Mo_areaOf 10 = .ok (.imul, 1) := by decide +kernel
theorem d_Mo_areaOf_11 : decode c_Mo_areaOf 11 = .ok (.ireturn, 1) := by decide +kernel
theorem d_Mo_keptOnes_0 : decode c_Mo_keptOnes 0 = .ok (.iconst 0, 1) := by decide +kernel
theorem d_Mo_keptOnes_1 : decode c_Mo_keptOnes 1 = .ok (.istore_n 1, 1) := by decide +kernel
theorem d_Mo_keptOnes_2 : decode c_Mo_keptOnes 2 = .ok (.iconst 0, 1) := by decide +kernel
theorem d_Mo_keptOnes_3 : decode c_Mo_keptOnes 3 = .ok (.istore_n 2, 1) := by decide +kernel
theorem d_Mo_keptOnes_4 : decode c_Mo_keptOnes 4 = .ok (.iload_n 2, 1) := by decide +kernel
theorem d_Mo_keptOnes_5 : decode c_Mo_keptOnes 5 = .ok (.aload_n 0, 1) := by decide +kernel
theorem d_Mo_keptOnes_6 : decode c_Mo_keptOnes 6 = .ok (.getfield 7, 3) := by decide +kernel
theorem d_Mo_keptOnes_9 : decode c_Mo_keptOnes 9 = .ok (.iconst 1, 1) := by decide +kernel
theorem d_Mo_keptOnes_10 : decode c_Mo_keptOnes 10 = .ok (.iaload, 1) := by decide +kernel
theorem d_Mo_keptOnes_11 : decode c_Mo_keptOnes 11 = .ok (.if_icmp .ge 25, 3) := by decide +kernel
theorem d_Mo_keptOnes_14 : decode c_Mo_keptOnes 14 = .ok (.iload_n 1, 1) := by decide +kernel
theorem d_Mo_keptOnes_15 : decode c_Mo_keptOnes 15 = .ok (.aload_n 0, 1) := by decide +kernel
theorem d_Mo_keptOnes_16 : decode c_Mo_keptOnes 16 = .ok (.iload_n 2, 1) := by decide +kernel
theorem d_Mo_keptOnes_17 : decode c_Mo_keptOnes 17 = .ok (.invokevirtual 46, 3) := by decide +kernel
theorem d_Mo_keptOnes_20 : decode c_Mo_keptOnes 20 = .ok (.ifCond .eq 7, 3) := by decide +kernel
theorem d_Mo_keptOnes_23 : decode c_Mo_keptOnes 23 = .ok (.iconst 1, 1) := by decide +kernel
theorem d_Mo_keptOnes_24 : decode c_Mo_keptOnes 24 = .ok (.goto 4, 3) := by decide +kernel
theorem d_Mo_keptOnes_27 : decode c_Mo_keptOnes 27 = .ok (.iconst 0, 1) := by decide +kernel
theorem d_Mo_keptOnes_28 : decode c_Mo_keptOnes 28 = .ok (.iadd, 1) := by decide +kernel
theorem d_Mo_keptOnes_29 : decode c_Mo_keptOnes 29 = .ok (.istore_n 1, 1) := by decide +kernel
theorem d_Mo_keptOnes_30 : decode c_Mo_keptOnes 30 = .ok (.iinc 2 1, 3) := by decide +kernel
theorem d_Mo_keptOnes_33 : decode c_Mo_keptOnes 33 = .ok (.goto (-29), 3) := by decide +kernel
theorem d_Mo_keptOnes_36 : decode c_Mo_keptOnes 36 = .ok (.iload_n 1, 1) := by decide +kernel
theorem d_Mo_keptOnes_37 : decode c_Mo_keptOnes 37 = .ok (.ireturn, 1) := by decide +kernel
theorem d_Mo_addOffcut_0 : decode c_Mo_addOffcut 0 = .ok (.aload_n 0, 1) := by decide +kernel
theorem d_Mo_addOffcut_1 : decode c_Mo_addOffcut 1 = .ok (.getfield 7, 3) := by decide +kernel
theorem d_Mo_addOffcut_4 : decode c_Mo_addOffcut 4 = .ok (.iconst 1, 1) := by decide +kernel
theorem d_Mo_addOffcut_5 : decode c_Mo_addOffcut 5 = .ok (.iaload, 1) := by decide +kernel
theorem d_Mo_addOffcut_6 : decode c_Mo_addOffcut 6 = .ok (.istore 4, 2) := by decide +kernel
theorem d_Mo_addOffcut_8 : decode c_Mo_addOffcut 8 = .ok (.aload_n 0, 1) := by decide +kernel
theorem d_Mo_addOffcut_9 : decode c_Mo_addOffcut 9 = .ok (.getfield 7, 3) := by decide +kernel
theorem d_Mo_addOffcut_12 : decode c_Mo_addOffcut 12 = .ok (.iconst 1, 1) := by decide +kernel
theorem d_Mo_addOffcut_13 : decode c_Mo_addOffcut 13 = .ok (.dup2, 1) := by decide +kernel
theorem d_Mo_addOffcut_14 : decode c_Mo_addOffcut 14 = .ok (.iaload, 1) := by decide +kernel
theorem d_Mo_addOffcut_15 : decode c_Mo_addOffcut 15 = .ok (.iconst 1, 1) := by decide +kernel
theorem d_Mo_addOffcut_16 : decode c_Mo_addOffcut 16 = .ok (.iadd, 1) := by decide +kernel
theorem d_Mo_addOffcut_17 : decode c_Mo_addOffcut 17 = .ok (.iastore, 1) := by decide +kernel
theorem d_Mo_addOffcut_18 : decode c_Mo_addOffcut 18 = .ok (.aload_n 0, 1) := by decide +kernel
theorem d_Mo_addOffcut_19 : decode c_Mo_addOffcut 19 = .ok (.getfield 7, 3) := by decide +kernel
theorem d_Mo_addOffcut_22 : decode c_Mo_addOffcut 22 = .ok (.bipush 93, 2) := by decide +kernel
theorem d_Mo_addOffcut_24 : decode c_Mo_addOffcut 24 = .ok (.iconst 3, 1) := by decide +kernel
theorem d_Mo_addOffcut_25 : decode c_Mo_addOffcut 25 = .ok (.iload 4, 2) := by decide +kernel
theorem d_Mo_addOffcut_27 : decode c_Mo_addOffcut 27 = .ok (.imul, 1) := by decide +kernel
theorem d_Mo_addOffcut_28 : decode c_Mo_addOffcut 28 = .ok (.iadd, 1) := by decide +kernel
theorem d_Mo_addOffcut_29 : decode c_Mo_addOffcut 29 = .ok (.iload_n 1, 1) := by decide +kernel
theorem d_Mo_addOffcut_30 : decode c_Mo_addOffcut 30 = .ok (.iconst 1, 1) := by decide +kernel
theorem d_Mo_addOffcut_31 : decode c_Mo_addOffcut 31 = .ok (.iadd, 1) := by decide +kernel
theorem d_Mo_addOffcut_32 : decode c_Mo_addOffcut 32 = .ok (.iastore, 1) := by decide +kernel
theorem d_Mo_addOffcut_33 : decode c_Mo_addOffcut 33 = .ok (.aload_n 0, 1) := by decide +kernel
theorem d_Mo_addOffcut_34 : decode c_Mo_addOffcut 34 = .ok (.getfield 7, 3) := by decide +kernel
theorem d_Mo_addOffcut_37 : decode c_Mo_addOffcut 37 = .ok (.bipush 93, 2) := by decide +kernel
theorem d_Mo_addOffcut_39 : decode c_Mo_addOffcut 39 = .ok (.iconst 3, 1) := by decide +kernel
theorem d_Mo_addOffcut_40 : decode c_Mo_addOffcut 40 = .ok (.iload 4, 2) := by decide +kernel
theorem d_Mo_addOffcut_42 : decode c_Mo_addOffcut 42 = .ok (.imul, 1) := by decide +kernel
theorem d_Mo_addOffcut_43 : decode c_Mo_addOffcut 43 = .ok (.iadd, 1) := by decide +kernel
theorem d_Mo_addOffcut_44 : decode c_Mo_addOffcut 44 = .ok (.iconst 1, 1) := by decide +kernel
theorem d_Mo_addOffcut_45 : decode c_Mo_addOffcut 45 = .ok (.iadd, 1) := by decide +kernel
theorem d_Mo_addOffcut_46 : decode c_Mo_addOffcut 46 = .ok (.iload_n 2, 1) := by decide +kernel
theorem d_Mo_addOffcut_47 : decode c_Mo_addOffcut 47 = .ok (.iastore, 1) := by decide +kernel
theorem d_Mo_addOffcut_48 : decode c_Mo_addOffcut 48 = .ok (.aload_n 0, 1) := by decide +kernel
theorem d_Mo_addOffcut_49 : decode c_Mo_addOffcut 49 = .ok (.getfield 7, 3) := by decide +kernel
theorem d_Mo_addOffcut_52 : decode c_Mo_addOffcut 52 = .ok (.bipush 93, 2) := by decide +kernel
theorem d_Mo_addOffcut_54 : decode c_Mo_addOffcut 54 = .ok (.iconst 3, 1) := by decide +kernel
theorem d_Mo_addOffcut_55 : decode c_Mo_addOffcut 55 = .ok (.iload 4, 2) := by decide +kernel
theorem d_Mo_addOffcut_57 : decode c_Mo_addOffcut 57 = .ok (.imul, 1) := by decide +kernel
theorem d_Mo_addOffcut_58 : decode c_Mo_addOffcut 58 = .ok (.iadd, 1) := by decide +kernel
theorem d_Mo_addOffcut_59 : decode c_Mo_addOffcut 59 = .ok (.iconst 2, 1) := by decide +kernel
theorem d_Mo_addOffcut_60 : decode c_Mo_addOffcut 60 = .ok (.iadd, 1) := by decide +kernel
theorem d_Mo_addOffcut_61 : decode c_Mo_addOffcut 61 = .ok (.iload_n 3, 1) := by decide +kernel
theorem d_Mo_addOffcut_62 : decode c_Mo_addOffcut 62 = .ok (.iastore, 1) := by decide +kernel
theorem d_Mo_addOffcut_63 : decode c_Mo_addOffcut 63 = .ok (.return_, 1) := by decide +kernel
theorem d_Mo_drop_0 : decode c_Mo_drop 0 = .ok (.aload_n 0, 1) := by decide +kernel
theorem d_Mo_drop_1 : decode c_Mo_drop 1 = .ok (.getfield 7, 3) := by decide +kernel
theorem d_Mo_drop_4 : decode c_Mo_drop 4 = .ok (.bipush 93, 2) := by decide +kernel
theorem d_Mo_drop_6 : decode c_Mo_drop 6 = .ok (.iconst 3, 1) := by decide +kernel
theorem d_Mo_drop_7 : decode c_Mo_drop 7 = .ok (.iload_n 1, 1) := by decide +kernel
theorem d_Mo_drop_8 : decode c_Mo_drop 8 = .ok (.imul, 1) := by decide +kernel
theorem d_Mo_drop_9 : decode c_Mo_drop 9 = .ok (.iadd, 1) := by decide +kernel
theorem d_Mo_drop_10 : decode c_Mo_drop 10 = .ok (.iconst 0, 1) := by decide +kernel
theorem d_Mo_drop_11 : decode c_Mo_drop 11 = .ok (.iastore, 1) := by decide +kernel
theorem d_Mo_drop_12 : decode c_Mo_drop 12 = .ok (.return_, 1) := by decide +kernel
theorem d_Mo_rest_0 : decode c_Mo_rest 0 = .ok (.iload_n 2, 1) := by decide +kernel
theorem d_Mo_rest_1 : decode c_Mo_rest 1 = .ok (.aload_n 0, 1) := by decide +kernel
theorem d_Mo_rest_2 : decode c_Mo_rest 2 = .ok (.getfield 7, 3) := by decide +kernel
theorem d_Mo_rest_5 : decode c_Mo_rest 5 = .ok (.iconst 5, 1) := by decide +kernel
theorem d_Mo_rest_6 : decode c_Mo_rest 6 = .ok (.iaload, 1) := by decide +kernel
theorem d_Mo_rest_7 : decode c_Mo_rest 7 = .ok (.if_icmp .lt 13, 3) := by decide +kernel
theorem d_Mo_rest_10 : decode c_Mo_rest 10 = .ok (.iload_n 3, 1) := by decide +kernel
theorem d_Mo_rest_11 : decode c_Mo_rest 11 = .ok (.aload_n 0, 1) := by decide +kernel
theorem d_Mo_rest_12 : decode c_Mo_rest 12 = .ok (.getfield 7, 3) := by decide +kernel
theorem d_Mo_rest_15 : decode c_Mo_rest 15 = .ok (.iconst 5, 1) := by decide +kernel
theorem d_Mo_rest_16 : decode c_Mo_rest 16 = .ok (.iaload, 1) := by decide +kernel
theorem d_Mo_rest_17 : decode c_Mo_rest 17 = .ok (.if_icmp .ge 14, 3) := by decide +kernel
theorem d_Mo_rest_20 : decode c_Mo_rest 20 = .ok (.aload_n 0, 1) := by decide +kernel
theorem d_Mo_rest_21 : decode c_Mo_rest 21 = .ok (.iload_n 1, 1) := by decide +kernel
theorem d_Mo_rest_22 : decode c_Mo_rest 22 = .ok (.iconst 5, 1) := by decide +kernel
theorem d_Mo_rest_23 : decode c_Mo_rest 23 = .ok (.iload_n 2, 1) := by decide +kernel
theorem d_Mo_rest_24 : decode c_Mo_rest 24 = .ok (.iload_n 3, 1) := by decide +kernel
theorem d_Mo_rest_25 : decode c_Mo_rest 25 = .ok (.imul, 1) := by decide +kernel
theorem d_Mo_rest_26 : decode c_Mo_rest 26 = .ok (.invokevirtual 50, 3) := by decide +kernel
theorem d_Mo_rest_29 : decode c_Mo_rest 29 = .ok (.iconst 1, 1) := by decide +kernel
theorem d_Mo_rest_30 : decode c_Mo_rest 30 = .ok (.ireturn, 1) := by decide +kernel
theorem d_Mo_rest_31 : decode c_Mo_rest 31 = .ok (.aload_n 0, 1) := by decide +kernel
theorem d_Mo_rest_32 : decode c_Mo_rest 32 = .ok (.getfield 7, 3) := by decide +kernel
theorem d_Mo_rest_35 : decode c_Mo_rest 35 = .ok (.iconst 1, 1) := by decide +kernel
theorem d_Mo_rest_36 : decode c_Mo_rest 36 = .ok (.iaload, 1) := by decide +kernel
theorem d_Mo_rest_37 : decode c_Mo_rest 37 = .ok (.sipush 300, 3) := by decide +kernel
theorem d_Mo_rest_40 : decode c_Mo_rest 40 = .ok (.if_icmp .ne 5, 3) := by decide +kernel
theorem d_Mo_rest_43 : decode c_Mo_rest 43 = .ok (.iconst 0, 1) := by decide +kernel
theorem d_Mo_rest_44 : decode c_Mo_rest 44 = .ok (.ireturn, 1) := by decide +kernel
theorem d_Mo_rest_45 : decode c_Mo_rest 45 = .ok (.aload_n 0, 1) := by decide +kernel
theorem d_Mo_rest_46 : decode c_Mo_rest 46 = .ok (.iload_n 1, 1) := by decide +kernel
theorem d_Mo_rest_47 : decode c_Mo_rest 47 = .ok (.iload_n 2, 1) := by decide +kernel
theorem d_Mo_rest_48 : decode c_Mo_rest 48 = .ok (.iload_n 3, 1) := by decide +kernel
theorem d_Mo_rest_49 : decode c_Mo_rest 49 = .ok (.invokevirtual 54, 3) := by decide +kernel
theorem d_Mo_rest_52 : decode c_Mo_rest 52 = .ok (.iconst 1, 1) := by decide +kernel
theorem d_Mo_rest_53 : decode c_Mo_rest 53 = .ok (.ireturn, 1) := by decide +kernel
theorem d_Mo_greater_0 : decode c_Mo_greater 0 = .ok (.iload_n 0, 1) := by decide +kernel
theorem d_Mo_greater_1 : decode c_Mo_greater 1 = .ok (.iload_n 1, 1) := by decide +kernel
theorem d_Mo_greater_2 : decode c_Mo_greater 2 = .ok (.if_icmp .le 7, 3) := by decide +kernel
theorem d_Mo_greater_5 : decode c_Mo_greater 5 = .ok (.iload_n 0, 1) := by decide +kernel
theorem d_Mo_greater_6 : decode c_Mo_greater 6 = .ok (.goto 4, 3) := by decide +kernel
theorem d_Mo_greater_9 : decode c_Mo_greater 9 = .ok (.iload_n 1, 1) := by decide +kernel
theorem d_Mo_greater_10 : decode c_Mo_greater 10 = .ok (.ireturn, 1) := by decide +kernel
theorem d_Mo_cut_0 : decode c_Mo_cut 0 = .ok (.iload_n 2, 1) := by decide +kernel
theorem d_Mo_cut_1 : decode c_Mo_cut 1 = .ok (.iload 4, 2) := by decide +kernel
theorem d_Mo_cut_3 : decode c_Mo_cut 3 = .ok (.isub, 1) := by decide +kernel
theorem d_Mo_cut_4 : decode c_Mo_cut 4 = .ok (.istore 6, 2) := by decide +kernel
theorem d_Mo_cut_6 : decode c_Mo_cut 6 = .ok (.iload_n 3, 1) := by decide +kernel
theorem d_Mo_cut_7 : decode c_Mo_cut 7 = .ok (.iload 5, 2) := by decide +kernel
theorem d_Mo_cut_9 : decode c_Mo_cut 9 = .ok (.isub, 1) := by decide +kernel
theorem d_Mo_cut_10 : decode c_Mo_cut 10 = .ok (.istore 7, 2) := by decide +kernel
theorem d_Mo_cut_12 : decode c_Mo_cut 12 = .ok (.iload 6, 2) := by decide +kernel
theorem d_Mo_cut_14 : decode c_Mo_cut 14 = .ok (.iload_n 3, 1) := by decide +kernel
theorem d_Mo_cut_15 : decode c_Mo_cut 15 = .ok (.imul, 1) := by decide +kernel
theorem d_Mo_cut_16 : decode c_Mo_cut 16 = .ok (.iload 4, 2) := by decide +kernel
theorem d_Mo_cut_18 : decode c_Mo_cut 18 = .ok (.iload 7, 2) := by decide +kernel
theorem d_Mo_cut_20 : decode c_Mo_cut 20 = .ok (.imul, 1) := by decide +kernel
theorem d_Mo_cut_21 : decode c_Mo_cut 21 = .ok (.invokestatic 57, 3) := by decide +kernel
theorem d_Mo_cut_24 : decode c_Mo_cut 24 = .ok (.istore 8, 2) := by decide +kernel
theorem d_Mo_cut_26 : decode c_Mo_cut 26 = .ok (.iload 6, 2) := by decide +kernel
theorem d_Mo_cut_28 : decode c_Mo_cut 28 = .ok (.iload 5, 2) := by decide +kernel
theorem d_Mo_cut_30 : decode c_Mo_cut 30 = .ok (.imul, 1) := by decide +kernel
theorem d_Mo_cut_31 : decode c_Mo_cut 31 = .ok (.iload_n 2, 1) := by decide +kernel
theorem d_Mo_cut_32 : decode c_Mo_cut 32 = .ok (.iload 7, 2) := by decide +kernel
theorem d_Mo_cut_34 : decode c_Mo_cut 34 = .ok (.imul, 1) := by decide +kernel
theorem d_Mo_cut_35 : decode c_Mo_cut 35 = .ok (.invokestatic 57, 3) := by decide +kernel
theorem d_Mo_cut_38 : decode c_Mo_cut 38 = .ok (.istore 9, 2) := by decide +kernel
theorem d_Mo_cut_40 : decode c_Mo_cut 40 = .ok (.aload_n 0, 1) := by decide +kernel
theorem d_Mo_cut_41 : decode c_Mo_cut 41 = .ok (.getfield 7, 3) := by decide +kernel
theorem d_Mo_cut_44 : decode c_Mo_cut 44 = .ok (.iconst 4, 1) := by decide +kernel
theorem d_Mo_cut_45 : decode c_Mo_cut 45 = .ok (.iaload, 1) := by decide +kernel
theorem d_Mo_cut_46 : decode c_Mo_cut 46 = .ok (.ifCond .eq 20, 3) := by decide +kernel
theorem d_Mo_cut_49 : decode c_Mo_cut 49 = .ok (.aload_n 0, 1) := by decide +kernel
theorem d_Mo_cut_50 : decode c_Mo_cut 50 = .ok (.getfield 7, 3) := by decide +kernel
theorem d_Mo_cut_53 : decode c_Mo_cut 53 = .ok (.iconst 4, 1) := by decide +kernel
theorem d_Mo_cut_54 : decode c_Mo_cut 54 = .ok (.iaload, 1) := by decide +kernel
theorem d_Mo_cut_55 : decode c_Mo_cut 55 = .ok (.iconst 2, 1) := by decide +kernel
theorem d_Mo_cut_56 : decode c_Mo_cut 56 = .ok (.if_icmp .ne 14, 3) := by decide +kernel
theorem d_Mo_cut_59 : decode c_Mo_cut 59 = .ok (.iload 8, 2) := by decide +kernel
theorem d_Mo_cut_61 : decode c_Mo_cut 61 = .ok (.iload 9, 2) := by decide +kernel
theorem d_Mo_cut_63 : decode c_Mo_cut 63 = .ok (.if_icmp .lt 7, 3) := by decide +kernel
theorem d_Mo_cut_66 : decode c_Mo_cut 66 = .ok (.iconst 1, 1) := by decide +kernel
theorem d_Mo_cut_67 : decode c_Mo_cut 67 = .ok (.goto 4, 3) := by decide +kernel
theorem d_Mo_cut_70 : decode c_Mo_cut 70 = .ok (.iconst 0, 1) := by decide +kernel
theorem d_Mo_cut_71 : decode c_Mo_cut 71 = .ok (.istore 10, 2) := by decide +kernel
theorem d_Mo_cut_73 : decode c_Mo_cut 73 = .ok (.aload_n 0, 1) := by decide +kernel
theorem d_Mo_cut_74 : decode c_Mo_cut 74 = .ok (.iload_n 1, 1) := by decide +kernel
theorem d_Mo_cut_75 : decode c_Mo_cut 75 = .ok (.iload 6, 2) := by decide +kernel
theorem d_Mo_cut_77 : decode c_Mo_cut 77 = .ok (.iload 10, 2) := by decide +kernel
theorem d_Mo_cut_79 : decode c_Mo_cut 79 = .ok (.ifCond .eq 7, 3) := by decide +kernel
theorem d_Mo_cut_82 : decode c_Mo_cut 82 = .ok (.iload_n 3, 1) := by decide +kernel
theorem d_Mo_cut_83 : decode c_Mo_cut 83 = .ok (.goto 5, 3) := by decide +kernel
theorem d_Mo_cut_86 : decode c_Mo_cut 86 = .ok (.iload 5, 2) := by decide +kernel
theorem d_Mo_cut_88 : decode c_Mo_cut 88 = .ok (.invokevirtual 61, 3) := by decide +kernel
theorem d_Mo_cut_91 : decode c_Mo_cut 91 = .ok (.istore 11, 2) := by decide +kernel
theorem d_Mo_cut_93 : decode c_Mo_cut 93 = .ok (.iload 11, 2) := by decide +kernel
theorem d_Mo_cut_95 : decode c_Mo_cut 95 = .ok (.ifCond .eq 28, 3) := by decide +kernel
theorem d_Mo_cut_98 : decode c_Mo_cut 98 = .ok (.aload_n 0, 1) := by decide +kernel
theorem d_Mo_cut_99 : decode c_Mo_cut 99 = .ok (.iload_n 1, 1) := by decide +kernel
theorem d_Mo_cut_100 : decode c_Mo_cut 100 = .ok (.iload 10, 2) := by decide +kernel
theorem d_Mo_cut_102 : decode c_Mo_cut 102 = .ok (.ifCond .eq 8, 3) := by decide +kernel
theorem d_Mo_cut_105 : decode c_Mo_cut 105 = .ok (.iload 4, 2) := by decide +kernel
theorem d_Mo_cut_107 : decode c_Mo_cut 107 = .ok (.goto 4, 3) := by decide +kernel
theorem d_Mo_cut_110 : decode c_Mo_cut 110 = .ok (.iload_n 2, 1) := by decide +kernel
theorem d_Mo_cut_111 : decode c_Mo_cut 111 = .ok (.iload 7, 2) := by decide +kernel
theorem d_Mo_cut_113 : decode c_Mo_cut 113 = .ok (.invokevirtual 61, 3) := by decide +kernel
theorem d_Mo_cut_116 : decode c_Mo_cut 116 = .ok (.ifCond .eq 7, 3) := by decide +kernel
theorem d_Mo_cut_119 : decode c_Mo_cut 119 = .ok (.iconst 1, 1) := by decide +kernel
theorem d_Mo_cut_120 : decode c_Mo_cut 120 = .ok (.goto 4, 3) := by decide +kernel
theorem d_Mo_cut_123 : decode c_Mo_cut 123 = .ok (.iconst 0, 1) := by decide +kernel
theorem d_Mo_cut_124 : decode c_Mo_cut 124 = .ok (.istore 11, 2) := by decide +kernel
theorem d_Mo_cut_126 : decode c_Mo_cut 126 = .ok (.iload 11, 2) := by decide +kernel
theorem d_Mo_cut_128 : decode c_Mo_cut 128 = .ok (.ifCond .eq 16, 3) := by decide +kernel
theorem d_Mo_cut_131 : decode c_Mo_cut 131 = .ok (.aload_n 0, 1) := by decide +kernel
theorem d_Mo_cut_132 : decode c_Mo_cut 132 = .ok (.invokevirtual 64, 3) := by decide +kernel
theorem d_Mo_cut_135 : decode c_Mo_cut 135 = .ok (.bipush 60, 2) := by decide +kernel
theorem d_Mo_cut_137 : decode c_Mo_cut 137 = .ok (.if_icmp .gt 7, 3) := by decide +kernel
theorem d_Mo_cut_140 : decode c_Mo_cut 140 = .ok (.iconst 1, 1) := by decide +kernel
theorem d_Mo_cut_141 : decode c_Mo_cut 141 = .ok (.goto 4, 3) := by decide +kernel
theorem d_Mo_cut_144 : decode c_Mo_cut 144 = .ok (.iconst 0, 1) := by decide +kernel
theorem d_Mo_cut_145 : decode c_Mo_cut 145 = .ok (.ireturn, 1) := by decide +kernel
theorem d_Mo_offcutFor_0 : decode c_Mo_offcutFor 0 = .ok (.bipush (-5), 2) := by decide +kernel
theorem d_Mo_offcutFor_2 : decode c_Mo_offcutFor 2 = .ok (.istore 4, 2) := by decide +kernel
theorem d_Mo_offcutFor_4 : decode c_Mo_offcutFor 4 = .ok (.iconst 0, 1) := by decide +kernel
theorem d_Mo_offcutFor_5 : decode c_Mo_offcutFor 5 = .ok (.istore 5, 2) := by decide +kernel
theorem d_Mo_offcutFor_7 : decode c_Mo_offcutFor 7 = .ok (.iload 5, 2) := by decide +kernel
theorem d_Mo_offcutFor_9 : decode c_Mo_offcutFor 9 = .ok (.aload_n 0, 1) := by decide +kernel
theorem d_Mo_offcutFor_10 : decode c_Mo_offcutFor 10 = .ok (.getfield 7, 3) := by decide +kernel
theorem d_Mo_offcutFor_13 : decode c_Mo_offcutFor 13 = .ok (.iconst 1, 1) := by decide +kernel
theorem d_Mo_offcutFor_14 : decode c_Mo_offcutFor 14 = .ok (.iaload, 1) := by decide +kernel
theorem d_Mo_offcutFor_15 : decode c_Mo_offcutFor 15 = .ok (.if_icmp .ge 86, 3) := by decide +kernel
theorem d_Mo_offcutFor_18 : decode c_Mo_offcutFor 18 = .ok (.aload_n 0, 1) := by decide +kernel
theorem d_Mo_offcutFor_19 : decode c_Mo_offcutFor 19 = .ok (.iload 5, 2) := by decide +kernel
theorem d_Mo_offcutFor_21 : decode c_Mo_offcutFor 21 = .ok (.invokevirtual 46, 3) := by decide +kernel
theorem d_Mo_offcutFor_24 : decode c_Mo_offcutFor 24 = .ok (.ifCond .eq 37, 3) := by decide +kernel
theorem d_Mo_offcutFor_27 : decode c_Mo_offcutFor 27 = .ok (.aload_n 0, 1) := by decide +kernel
theorem d_Mo_offcutFor_28 : decode c_Mo_offcutFor 28 = .ok (.iload 5, 2) := by decide +kernel
theorem d_Mo_offcutFor_30 : decode c_Mo_offcutFor 30 = .ok (.invokevirtual 68, 3) := by decide +kernel
theorem d_Mo_offcutFor_33 : decode c_Mo_offcutFor 33 = .ok (.iload_n 1, 1) := by decide +kernel
theorem d_Mo_offcutFor_34 : decode c_Mo_offcutFor 34 = .ok (.if_icmp .ne 27, 3) := by decide +kernel
theorem d_Mo_offcutFor_37 : decode c_Mo_offcutFor 37 = .ok (.aload_n 0, 1) := by decide +kernel
theorem d_Mo_offcutFor_38 : decode c_Mo_offcutFor 38 = .ok (.iload 5, 2) := by decide +kernel
theorem d_Mo_offcutFor_40 : decode c_Mo_offcutFor 40 = .ok (.invokevirtual 39, 3) := by decide +kernel
theorem d_Mo_offcutFor_43 : decode c_Mo_offcutFor 43 = .ok (.iload_n 2, 1) := by decide +kernel
theorem d_Mo_offcutFor_44 : decode c_Mo_offcutFor 44 = .ok (.if_icmp .lt 17, 3) := by decide +kernel
theorem d_Mo_offcutFor_47 : decode c_Mo_offcutFor 47 = .ok (.aload_n 0, 1) := by decide +kernel
theorem d_Mo_offcutFor_48 : decode c_Mo_offcutFor 48 = .ok (.iload 5, 2) := by decide +kernel
theorem d_Mo_offcutFor_50 : decode c_Mo_offcutFor 50 = .ok (.invokevirtual 43, 3) := by decide +kernel
theorem d_Mo_offcutFor_53 : decode c_Mo_offcutFor 53 = .ok (.iload_n 3, 1) := by decide +kernel
theorem d_Mo_offcutFor_54 : decode c_Mo_offcutFor 54 = .ok (.if_icmp .lt 7, 3) := by decide +kernel
theorem d_Mo_offcutFor_57 : decode c_Mo_offcutFor 57 = .ok (.iconst 1, 1) := by decide +kernel
theorem d_Mo_offcutFor_58 : decode c_Mo_offcutFor 58 = .ok (.goto 4, 3) := by decide +kernel
theorem d_Mo_offcutFor_61 : decode c_Mo_offcutFor 61 = .ok (.iconst 0, 1) := by decide +kernel
theorem d_Mo_offcutFor_62 : decode c_Mo_offcutFor 62 = .ok (.istore 6, 2) := by decide +kernel
theorem d_Mo_offcutFor_64 : decode c_Mo_offcutFor 64 = .ok (.iload 6, 2) := by decide +kernel
theorem d_Mo_offcutFor_66 : decode c_Mo_offcutFor 66 = .ok (.ifCond .eq 29, 3) := by decide +kernel
theorem d_Mo_offcutFor_69 : decode c_Mo_offcutFor 69 = .ok (.iload 4, 2) := by decide +kernel
theorem d_Mo_offcutFor_71 : decode c_Mo_offcutFor 71 = .ok (.bipush (-5), 2) := by decide +kernel
theorem d_Mo_offcutFor_73 : decode c_Mo_offcutFor 73 = .ok (.if_icmp .eq 18, 3) := by decide +kernel
theorem d_Mo_offcutFor_76 : decode c_Mo_offcutFor 76 = .ok (.aload_n 0, 1) := by decide +kernel
theorem d_Mo_offcutFor_77 : decode c_Mo_offcutFor 77 = .ok (.iload 5, 2) := by decide +kernel
theorem d_Mo_offcutFor_79 : decode c_Mo_offcutFor 79 = .ok (.invokevirtual 71, 3) := by decide +kernel
theorem d_Mo_offcutFor_82 : decode c_Mo_offcutFor 82 = .ok (.aload_n 0, 1) := by decide +kernel
theorem d_Mo_offcutFor_83 : decode c_Mo_offcutFor 83 = .ok (.iload 4, 2) := by decide +kernel
theorem d_Mo_offcutFor_85 : decode c_Mo_offcutFor 85 = .ok (.invokevirtual 71, 3) := by decide +kernel
theorem d_Mo_offcutFor_88 : decode c_Mo_offcutFor 88 = .ok (.if_icmp .ge 7, 3) := by decide +kernel
theorem d_Mo_offcutFor_91 : decode c_Mo_offcutFor 91 = .ok (.iload 5, 2) := by decide +kernel
theorem d_Mo_offcutFor_93 : decode c_Mo_offcutFor 93 = .ok (.istore 4, 2) := by decide +kernel
theorem d_Mo_offcutFor_95 : decode c_Mo_offcutFor 95 = .ok (.iinc 5 1, 3) := by decide +kernel
theorem d_Mo_offcutFor_98 : decode c_Mo_offcutFor 98 = .ok (.goto (-91), 3) := by decide +kernel
theorem d_Mo_offcutFor_101 : decode c_Mo_offcutFor 101 = .ok (.iload 4, 2) := by decide +kernel
theorem d_Mo_offcutFor_103 : decode c_Mo_offcutFor 103 = .ok (.ireturn, 1) := by decide +kernel
theorem d_Mo_wide_0 : decode c_Mo_wide 0 = .ok (.aload_n 0, 1) := by decide +kernel
theorem d_Mo_wide_1 : decode c_Mo_wide 1 = .ok (.iload_n 1, 1) := by decide +kernel
theorem d_Mo_wide_2 : decode c_Mo_wide 2 = .ok (.iconst 1, 1) := by decide +kernel
theorem d_Mo_wide_3 : decode c_Mo_wide 3 = .ok (.iconst 2, 1) := by decide +kernel
theorem d_Mo_wide_4 : decode c_Mo_wide 4 = .ok (.iload_n 2, 1) := by decide +kernel
theorem d_Mo_wide_5 : decode c_Mo_wide 5 = .ok (.imul, 1) := by decide +kernel
theorem d_Mo_wide_6 : decode c_Mo_wide 6 = .ok (.iadd, 1) := by decide +kernel
theorem d_Mo_wide_7 : decode c_Mo_wide 7 = .ok (.iload_n 3, 1) := by decide +kernel
theorem d_Mo_wide_8 : decode c_Mo_wide 8 = .ok (.iadd, 1) := by decide +kernel
theorem d_Mo_wide_9 : decode c_Mo_wide 9 = .ok (.invokevirtual 74, 3) := by decide +kernel
theorem d_Mo_wide_12 : decode c_Mo_wide 12 = .ok (.ireturn, 1) := by decide +kernel
theorem d_Mo_longs_0 : decode c_Mo_longs 0 = .ok (.aload_n 0, 1) := by decide +kernel
theorem d_Mo_longs_1 : decode c_Mo_longs 1 = .ok (.iload_n 1, 1) := by decide +kernel
theorem d_Mo_longs_2 : decode c_Mo_longs 2 = .ok (.iconst 2, 1) := by decide +kernel
theorem d_Mo_longs_3 : decode c_Mo_longs 3 = .ok (.iconst 2, 1) := by decide +kernel
theorem d_Mo_longs_4 : decode c_Mo_longs 4 = .ok (.iload_n 2, 1) := by decide +kernel
theorem d_Mo_longs_5 : decode c_Mo_longs 5 = .ok (.imul, 1) := by decide +kernel
theorem d_Mo_longs_6 : decode c_Mo_longs 6 = .ok (.iadd, 1) := by decide +kernel
theorem d_Mo_longs_7 : decode c_Mo_longs 7 = .ok (.iload_n 3, 1) := by decide +kernel
theorem d_Mo_longs_8 : decode c_Mo_longs 8 = .ok (.isub, 1) := by decide +kernel
theorem d_Mo_longs_9 : decode c_Mo_longs 9 = .ok (.invokevirtual 74, 3) := by decide +kernel
theorem d_Mo_longs_12 : decode c_Mo_longs 12 = .ok (.ireturn, 1) := by decide +kernel
theorem d_Mo_rounds_0 : decode c_Mo_rounds 0 = .ok (.iload_n 0, 1) := by decide +kernel
theorem d_Mo_rounds_1 : decode c_Mo_rounds 1 = .ok (.iload_n 1, 1) := by decide +kernel
theorem d_Mo_rounds_2 : decode c_Mo_rounds 2 = .ok (.iadd, 1) := by decide +kernel
theorem d_Mo_rounds_3 : decode c_Mo_rounds 3 = .ok (.iconst 1, 1) := by decide +kernel
theorem d_Mo_rounds_4 : decode c_Mo_rounds 4 = .ok (.isub, 1) := by decide +kernel
theorem d_Mo_rounds_5 : decode c_Mo_rounds 5 = .ok (.iload_n 1, 1) := by decide +kernel
theorem d_Mo_rounds_6 : decode c_Mo_rounds 6 = .ok (.idiv, 1) := by decide +kernel
theorem d_Mo_rounds_7 : decode c_Mo_rounds 7 = .ok (.ireturn, 1) := by decide +kernel
theorem d_Mo_stripWidth_0 : decode c_Mo_stripWidth 0 = .ok (.iload_n 0, 1) := by decide +kernel
theorem d_Mo_stripWidth_1 : decode c_Mo_stripWidth 1 = .ok (.iload_n 2, 1) := by decide +kernel
theorem d_Mo_stripWidth_2 : decode c_Mo_stripWidth 2 = .ok (.iload_n 1, 1) := by decide +kernel
theorem d_Mo_stripWidth_3 : decode c_Mo_stripWidth 3 = .ok (.imul, 1) := by decide +kernel
theorem d_Mo_stripWidth_4 : decode c_Mo_stripWidth 4 = .ok (.isub, 1) := by decide +kernel
theorem d_Mo_stripWidth_5 : decode c_Mo_stripWidth 5 = .ok (.istore_n 3, 1) := by decide +kernel
theorem d_Mo_stripWidth_6 : decode c_Mo_stripWidth 6 = .ok (.iload_n 3, 1) := by decide +kernel
theorem d_Mo_stripWidth_7 : decode c_Mo_stripWidth 7 = .ok (.iload_n 1, 1) := by decide +kernel
theorem d_Mo_stripWidth_8 : decode c_Mo_stripWidth 8 = .ok (.if_icmp .ge 7, 3) := by decide +kernel
theorem d_Mo_stripWidth_11 : decode c_Mo_stripWidth 11 = .ok (.iload_n 3, 1) := by decide +kernel
theorem d_Mo_stripWidth_12 : decode c_Mo_stripWidth 12 = .ok (.goto 4, 3) := by decide +kernel
theorem d_Mo_stripWidth_15 : decode c_Mo_stripWidth 15 = .ok (.iload_n 1, 1) := by decide +kernel
theorem d_Mo_stripWidth_16 : decode c_Mo_stripWidth 16 = .ok (.ireturn, 1) := by decide +kernel
theorem d_Mo_isAcross_0 : decode c_Mo_isAcross 0 = .ok (.aload_n 0, 1) := by decide +kernel
theorem d_Mo_isAcross_1 : decode c_Mo_isAcross 1 = .ok (.iload_n 1, 1) := by decide +kernel
theorem d_Mo_isAcross_2 : decode c_Mo_isAcross 2 = .ok (.bipush 7, 2) := by decide +kernel
theorem d_Mo_isAcross_4 : decode c_Mo_isAcross 4 = .ok (.invokevirtual 74, 3) := by decide +kernel
theorem d_Mo_isAcross_7 : decode c_Mo_isAcross 7 = .ok (.iconst 2, 1) := by decide +kernel
theorem d_Mo_isAcross_8 : decode c_Mo_isAcross 8 = .ok (.irem, 1) := by decide +kernel
theorem d_Mo_isAcross_9 : decode c_Mo_isAcross 9 = .ok (.ifCond .ne 7, 3) := by decide +kernel
theorem d_Mo_isAcross_12 : decode c_Mo_isAcross 12 = .ok (.iconst 1, 1) := by decide +kernel
theorem d_Mo_isAcross_13 : decode c_Mo_isAcross 13 = .ok (.goto 4, 3) := by decide +kernel
theorem d_Mo_isAcross_16 : decode c_Mo_isAcross 16 = .ok (.iconst 0, 1) := by decide +kernel
theorem d_Mo_isAcross_17 : decode c_Mo_isAcross 17 = .ok (.iload_n 2, 1) := by decide +kernel
theorem d_Mo_isAcross_18 : decode c_Mo_isAcross 18 = .ok (.iconst 1, 1) := by decide +kernel
theorem d_Mo_isAcross_19 : decode c_Mo_isAcross 19 = .ok (.if_icmp .ne 7, 3) := by decide +kernel
theorem d_Mo_isAcross_22 : decode c_Mo_isAcross 22 = .ok (.iconst 1, 1) := by decide +kernel
theorem d_Mo_isAcross_23 : decode c_Mo_isAcross 23 = .ok (.goto 4, 3) := by decide +kernel
theorem d_Mo_isAcross_26 : decode c_Mo_isAcross 26 = .ok (.iconst 0, 1) := by decide +kernel
theorem d_Mo_isAcross_27 : decode c_Mo_isAcross 27 = .ok (.if_icmp .ne 7, 3) := by decide +kernel
theorem d_Mo_isAcross_30 : decode c_Mo_isAcross 30 = .ok (.iconst 1, 1) := by decide +kernel
theorem d_Mo_isAcross_31 : decode c_Mo_isAcross 31 = .ok (.goto 4, 3) := by decide +kernel
theorem d_Mo_isAcross_34 : decode c_Mo_isAcross 34 = .ok (.iconst 0, 1) := by decide +kernel
theorem d_Mo_isAcross_35 : decode c_Mo_isAcross 35 = .ok (.ireturn, 1) := by decide +kernel
theorem d_Mo_area_0 : decode c_Mo_area 0 = .ok (.iconst 0, 1) := by decide +kernel
theorem d_Mo_area_1 : decode c_Mo_area 1 = .ok (.istore_n 2, 1) := by decide +kernel
theorem d_Mo_area_2 : decode c_Mo_area 2 = .ok (.iconst 0, 1) := by decide +kernel
theorem d_Mo_area_3 : decode c_Mo_area 3 = .ok (.istore_n 3, 1) := by decide +kernel
theorem d_Mo_area_4 : decode c_Mo_area 4 = .ok (.iload_n 3, 1) := by decide +kernel
theorem d_Mo_area_5 : decode c_Mo_area 5 = .ok (.aload_n 0, 1) := by decide +kernel
theorem d_Mo_area_6 : decode c_Mo_area 6 = .ok (.iload_n 1, 1) := by decide +kernel
theorem d_Mo_area_7 : decode c_Mo_area 7 = .ok (.iconst 0, 1) := by decide +kernel
theorem d_Mo_area_8 : decode c_Mo_area 8 = .ok (.invokevirtual 74, 3) := by decide +kernel
theorem d_Mo_area_11 : decode c_Mo_area 11 = .ok (.if_icmp .ge 33, 3) := by decide +kernel
theorem d_Mo_area_14 : decode c_Mo_area 14 = .ok (.iload_n 2, 1) := by decide +kernel
theorem d_Mo_area_15 : decode c_Mo_area 15 = .ok (.aload_n 0, 1) := by decide +kernel
theorem d_Mo_area_16 : decode c_Mo_area 16 = .ok (.iload_n 1, 1) := by decide +kernel
theorem d_Mo_area_17 : decode c_Mo_area 17 = .ok (.iconst 1, 1) := by decide +kernel
theorem d_Mo_area_18 : decode c_Mo_area 18 = .ok (.iconst 2, 1) := by decide +kernel
theorem d_Mo_area_19 : decode c_Mo_area 19 = .ok (.iload_n 3, 1) := by decide +kernel
theorem d_Mo_area_20 : decode c_Mo_area 20 = .ok (.imul, 1) := by decide +kernel
theorem d_Mo_area_21 : decode c_Mo_area 21 = .ok (.iadd, 1) := by decide +kernel
theorem d_Mo_area_22 : decode c_Mo_area 22 = .ok (.invokevirtual 74, 3) := by decide +kernel
theorem d_Mo_area_25 : decode c_Mo_area 25 = .ok (.aload_n 0, 1) := by decide +kernel
theorem d_Mo_area_26 : decode c_Mo_area 26 = .ok (.iload_n 1, 1) := by decide +kernel
theorem d_Mo_area_27 : decode c_Mo_area 27 = .ok (.iconst 2, 1) := by decide +kernel
theorem d_Mo_area_28 : decode c_Mo_area 28 = .ok (.iconst 2, 1) := by decide +kernel
theorem d_Mo_area_29 : decode c_Mo_area 29 = .ok (.iload_n 3, 1) := by decide +kernel
theorem d_Mo_area_30 : decode c_Mo_area 30 = .ok (.imul, 1) := by decide +kernel
theorem d_Mo_area_31 : decode c_Mo_area 31 = .ok (.iadd, 1) := by decide +kernel
theorem d_Mo_area_32 : decode c_Mo_area 32 = .ok (.invokevirtual 74, 3) := by decide +kernel
theorem d_Mo_area_35 : decode c_Mo_area 35 = .ok (.imul, 1) := by decide +kernel
theorem d_Mo_area_36 : decode c_Mo_area 36 = .ok (.iadd, 1) := by decide +kernel
theorem d_Mo_area_37 : decode c_Mo_area 37 = .ok (.istore_n 2, 1) := by decide +kernel
theorem d_Mo_area_38 : decode c_Mo_area 38 = .ok (.iinc 3 1, 3) := by decide +kernel
theorem d_Mo_area_41 : decode c_Mo_area 41 = .ok (.goto (-37), 3) := by decide +kernel
theorem d_Mo_area_44 : decode c_Mo_area 44 = .ok (.iload_n 2, 1) := by decide +kernel
theorem d_Mo_area_45 : decode c_Mo_area 45 = .ok (.ireturn, 1) := by decide +kernel
theorem d_Mo_coverNow_0 : decode c_Mo_coverNow 0 = .ok (.aload_n 0, 1) := by decide +kernel
theorem d_Mo_coverNow_1 : decode c_Mo_coverNow 1 = .ok (.iconst 0, 1) := by decide +kernel
theorem d_Mo_coverNow_2 : decode c_Mo_coverNow 2 = .ok (.putfield 77, 3) := by decide +kernel
theorem d_Mo_coverNow_5 : decode c_Mo_coverNow 5 = .ok (.aload_n 0, 1) := by decide +kernel
theorem d_Mo_coverNow_6 : decode c_Mo_coverNow 6 = .ok (.iconst 0, 1) := by decide +kernel
theorem d_Mo_coverNow_7 : decode c_Mo_coverNow 7 = .ok (.putfield 80, 3) := by decide +kernel
theorem d_Mo_coverNow_10 : decode c_Mo_coverNow 10 = .ok (.aload_n 0, 1) := by decide +kernel
theorem d_Mo_coverNow_11 : decode c_Mo_coverNow 11 = .ok (.iconst 0, 1) := by decide +kernel
theorem d_Mo_coverNow_12 : decode c_Mo_coverNow 12 = .ok (.putfield 83, 3) := by decide +kernel
theorem d_Mo_coverNow_15 : decode c_Mo_coverNow 15 = .ok (.aload_n 0, 1) := by decide +kernel
theorem d_Mo_coverNow_16 : decode c_Mo_coverNow 16 = .ok (.iload_n 1, 1) := by decide +kernel
theorem d_Mo_coverNow_17 : decode c_Mo_coverNow 17 = .ok (.bipush 8, 2) := by decide +kernel
theorem d_Mo_coverNow_19 : decode c_Mo_coverNow 19 = .ok (.invokevirtual 74, 3) := by decide +kernel
theorem d_Mo_coverNow_22 : decode c_Mo_coverNow 22 = .ok (.iconst 1, 1) := by decide +kernel
theorem d_Mo_coverNow_23 : decode c_Mo_coverNow 23 = .ok (.if_icmp .ne 5, 3) := by decide +kernel
theorem d_Mo_coverNow_26 : decode c_Mo_coverNow 26 = .ok (.iconst 1, 1) := by decide +kernel
theorem d_Mo_coverNow_27 : decode c_Mo_coverNow 27 = .ok (.ireturn, 1) := by decide +kernel
theorem d_Mo_coverNow_28 : decode c_Mo_coverNow 28 = .ok (.aload_n 0, 1) := by decide +kernel
theorem d_Mo_coverNow_29 : decode c_Mo_coverNow 29 = .ok (.getfield 7, 3) := by decide +kernel
theorem d_Mo_coverNow_32 : decode c_Mo_coverNow 32 = .ok (.bipush 8, 2) := by decide +kernel
theorem d_Mo_coverNow_34 : decode c_Mo_coverNow 34 = .ok (.iaload, 1) := by decide +kernel
theorem d_Mo_coverNow_35 : decode c_Mo_coverNow 35 = .ok (.iconst 1, 1) := by decide +kernel
theorem d_Mo_coverNow_36 : decode c_Mo_coverNow 36 = .ok (.if_icmp .ne 14, 3) := by decide +kernel
theorem d_Mo_coverNow_39 : decode c_Mo_coverNow 39 = .ok (.aload_n 0, 1) := by decide +kernel
theorem d_Mo_coverNow_40 : decode c_Mo_coverNow 40 = .ok (.iload_n 1, 1) := by decide +kernel
theorem d_Mo_coverNow_41 : decode c_Mo_coverNow 41 = .ok (.iload_n 3, 1) := by decide +kernel
theorem d_Mo_coverNow_42 : decode c_Mo_coverNow 42 = .ok (.invokevirtual 86, 3) := by decide +kernel
theorem d_Mo_coverNow_45 : decode c_Mo_coverNow 45 = .ok (.ifCond .eq 5, 3) := by decide +kernel
theorem d_Mo_coverNow_48 : decode c_Mo_coverNow 48 = .ok (.iconst 2, 1) := by decide +kernel
theorem d_Mo_coverNow_49 : decode c_Mo_coverNow 49 = .ok (.ireturn, 1) := by decide +kernel
theorem d_Mo_coverNow_50 : decode c_Mo_coverNow 50 = .ok (.aload_n 0, 1) := by decide +kernel
theorem d_Mo_coverNow_51 : decode c_Mo_coverNow 51 = .ok (.iload_n 2, 1) := by decide +kernel
theorem d_Mo_coverNow_52 : decode c_Mo_coverNow 52 = .ok (.iconst 1, 1) := by decide +kernel
theorem d_Mo_coverNow_53 : decode c_Mo_coverNow 53 = .ok (.invokevirtual 90, 3) := by decide +kernel
theorem d_Mo_coverNow_56 : decode c_Mo_coverNow 56 = .ok (.istore 4, 2) := by decide +kernel
theorem d_Mo_coverNow_58 : decode c_Mo_coverNow 58 = .ok (.iconst 0, 1) := by decide +kernel
theorem d_Mo_coverNow_59 : decode c_Mo_coverNow 59 = .ok (.istore 5, 2) := by decide +kernel
theorem d_Mo_coverNow_61 : decode c_Mo_coverNow 61 = .ok (.iload 5, 2) := by decide +kernel
theorem d_Mo_coverNow_63 : decode c_Mo_coverNow 63 = .ok (.aload_n 0, 1) := by decide +kernel
theorem d_Mo_coverNow_64 : decode c_Mo_coverNow 64 = .ok (.iload_n 1, 1) := by decide +kernel
theorem d_Mo_coverNow_65 : decode c_Mo_coverNow 65 = .ok (.iconst 0, 1) := by decide +kernel
theorem d_Mo_coverNow_66 : decode c_Mo_coverNow 66 = .ok (.invokevirtual 74, 3) := by decide +kernel
theorem d_Mo_coverNow_69 : decode c_Mo_coverNow 69 = .ok (.if_icmp .ge 246, 3) := by decide +kernel
theorem d_Mo_coverNow_72 : decode c_Mo_coverNow 72 = .ok (.aload_n 0, 1) := by decide +kernel
theorem d_Mo_coverNow_73 : decode c_Mo_coverNow 73 = .ok (.iload_n 1, 1) := by decide +kernel
theorem d_Mo_coverNow_74 : decode c_Mo_coverNow 74 = .ok (.iload 5, 2) := by decide +kernel
theorem d_Mo_coverNow_76 : decode c_Mo_coverNow 76 = .ok (.iload_n 3, 1) := by decide +kernel
theorem d_Mo_coverNow_77 : decode c_Mo_coverNow 77 = .ok (.invokevirtual 93, 3) := by decide +kernel
theorem d_Mo_coverNow_80 : decode c_Mo_coverNow 80 = .ok (.istore 6, 2) := by decide +kernel
theorem d_Mo_coverNow_82 : decode c_Mo_coverNow 82 = .ok (.aload_n 0, 1) := by decide +kernel
theorem d_Mo_coverNow_83 : decode c_Mo_coverNow 83 = .ok (.iload_n 1, 1) := by decide +kernel
theorem d_Mo_coverNow_84 : decode c_Mo_coverNow 84 = .ok (.iload 5, 2) := by decide +kernel
theorem d_Mo_coverNow_86 : decode c_Mo_coverNow 86 = .ok (.iload_n 3, 1) := by decide +kernel
theorem d_Mo_coverNow_87 : decode c_Mo_coverNow 87 = .ok (.invokevirtual 97, 3) := by decide +kernel
theorem d_Mo_coverNow_90 : decode c_Mo_coverNow 90 = .ok (.istore 7, 2) := by decide +kernel
theorem d_Mo_coverNow_92 : decode c_Mo_coverNow 92 = .ok (.iload 6, 2) := by decide +kernel
theorem d_Mo_coverNow_94 : decode c_Mo_coverNow 94 = .ok (.iload 4, 2) := by decide +kernel
theorem d_Mo_coverNow_96 : decode c_Mo_coverNow 96 = .ok (.invokestatic 100, 3) := by decide +kernel
theorem d_Mo_coverNow_99 : decode c_Mo_coverNow 99 = .ok (.istore 8, 2) := by decide +kernel
theorem d_Mo_coverNow_101 : decode c_Mo_coverNow 101 = .ok (.iconst 0, 1) := by decide +kernel
theorem d_Mo_coverNow_102 : decode c_Mo_coverNow 102 = .ok (.istore 9, 2) := by decide +kernel
theorem d_Mo_coverNow_104 : decode c_Mo_coverNow 104 = .ok (.iload 9, 2) := by decide +kernel
theorem d_Mo_coverNow_106 : decode c_Mo_coverNow 106 = .ok (.iload 8, 2) := by decide +kernel
theorem d_Mo_coverNow_108 : decode c_Mo_coverNow 108 = .ok (.if_icmp .ge 185, 3) := by decide +kernel
theorem d_Mo_coverNow_111 : decode c_Mo_coverNow 111 = .ok (.iload 6, 2) := by decide +kernel
theorem d_Mo_coverNow_113 : decode c_Mo_coverNow 113 = .ok (.iload 4, 2) := by decide +kernel
theorem d_Mo_coverNow_115 : decode c_Mo_coverNow 115 = .ok (.iload 9, 2) := by decide +kernel
theorem d_Mo_coverNow_117 : decode c_Mo_coverNow 117 = .ok (.invokestatic 103, 3) := by decide +kernel
theorem d_Mo_coverNow_120 : decode c_Mo_coverNow 120 = .ok (.istore 10, 2) := by decide +kernel
theorem d_Mo_coverNow_122 : decode c_Mo_coverNow 122 = .ok (.aload_n 0, 1) := by decide +kernel
theorem d_Mo_coverNow_123 : decode c_Mo_coverNow 123 = .ok (.iload_n 2, 1) := by decide +kernel
theorem d_Mo_coverNow_124 : decode c_Mo_coverNow 124 = .ok (.iload 10, 2) := by decide +kernel
theorem d_Mo_coverNow_126 : decode c_Mo_coverNow 126 = .ok (.iload 7, 2) := by decide +kernel
theorem d_Mo_coverNow_128 : decode c_Mo_coverNow 128 = .ok (.invokevirtual 106, 3) := by decide +kernel
theorem d_Mo_coverNow_131 : decode c_Mo_coverNow 131 = .ok (.istore 11, 2) := by decide +kernel
theorem d_Mo_coverNow_133 : decode c_Mo_coverNow 133 = .ok (.iload 11, 2) := by decide +kernel
theorem d_Mo_coverNow_135 : decode c_Mo_coverNow 135 = .ok (.bipush (-5), 2) := by decide +kernel
theorem d_Mo_coverNow_137 : decode c_Mo_coverNow 137 = .ok (.if_icmp .ne 16, 3) := by decide +kernel
theorem d_Mo_coverNow_140 : decode c_Mo_coverNow 140 = .ok (.aload_n 0, 1) := by decide +kernel
theorem d_Mo_coverNow_141 : decode c_Mo_coverNow 141 = .ok (.iload_n 2, 1) := by decide +kernel
theorem d_Mo_coverNow_142 : decode c_Mo_coverNow 142 = .ok (.iconst 2, 1) := by decide +kernel
theorem d_Mo_coverNow_143 : decode c_Mo_coverNow 143 = .ok (.invokevirtual 90, 3) := by decide +kernel
theorem d_Mo_coverNow_146 : decode c_Mo_coverNow 146 = .ok (.iload 7, 2) := by decide +kernel
theorem d_Mo_coverNow_148 : decode c_Mo_coverNow 148 = .ok (.if_icmp .ge 5, 3) := by decide +kernel
theorem d_Mo_coverNow_151 : decode c_Mo_coverNow 151 = .ok (.iconst 3, 1) := by decide +kernel
theorem d_Mo_coverNow_152 : decode c_Mo_coverNow 152 = .ok (.ireturn, 1) := by decide +kernel
theorem d_Mo_coverNow_153 : decode c_Mo_coverNow 153 = .ok (.aload_n 0, 1) := by decide +kernel
theorem d_Mo_coverNow_154 : decode c_Mo_coverNow 154 = .ok (.getfield 7, 3) := by decide +kernel
theorem d_Mo_coverNow_157 : decode c_Mo_coverNow 157 = .ok (.sipush 1233, 3) := by decide +kernel
theorem d_Mo_coverNow_160 : decode c_Mo_coverNow 160 = .ok (.bipush 36, 2) := by decide +kernel
theorem d_Mo_coverNow_162 : decode c_Mo_coverNow 162 = .ok (.iload_n 1, 1) := by decide +kernel
theorem d_Mo_coverNow_163 : decode c_Mo_coverNow 163 = .ok (.imul, 1) := by decide +kernel
theorem d_Mo_coverNow_164 : decode c_Mo_coverNow 164 = .ok (.iadd, 1) := by decide +kernel
theorem d_Mo_coverNow_165 : decode c_Mo_coverNow 165 = .ok (.aload_n 0, 1) := by decide +kernel
theorem d_Mo_coverNow_166 : decode c_Mo_coverNow 166 = .ok (.getfield 77, 3) := by decide +kernel
theorem d_Mo_coverNow_169 : decode c_Mo_coverNow 169 = .ok (.iadd, 1) := by decide +kernel
theorem d_Mo_coverNow_170 : decode c_Mo_coverNow 170 = .ok (.iload 11, 2) := by decide +kernel
theorem d_Mo_coverNow_172 : decode c_Mo_coverNow 172 = .ok (.iastore, 1) := by decide +kernel
theorem d_Mo_coverNow_173 : decode c_Mo_coverNow 173 = .ok (.aload_n 0, 1) := by decide +kernel
theorem d_Mo_coverNow_174 : decode c_Mo_coverNow 174 = .ok (.dup, 1) := by decide +kernel
theorem d_Mo_coverNow_175 : decode c_Mo_coverNow 175 = .ok (.getfield 77, 3) := by decide +kernel
theorem d_Mo_coverNow_178 : decode c_Mo_coverNow 178 = .ok (.iconst 1, 1) := by decide +kernel
theorem d_Mo_coverNow_179 : decode c_Mo_coverNow 179 = .ok (.iadd, 1) := by decide +kernel
theorem d_Mo_coverNow_180 : decode c_Mo_coverNow 180 = .ok (.putfield 77, 3) := by decide +kernel
theorem d_Mo_coverNow_183 : decode c_Mo_coverNow 183 = .ok (.aload_n 0, 1) := by decide +kernel
theorem d_Mo_coverNow_184 : decode c_Mo_coverNow 184 = .ok (.dup, 1) := by decide +kernel
theorem d_Mo_coverNow_185 : decode c_Mo_coverNow 185 = .ok (.getfield 83, 3) := by decide +kernel
theorem d_Mo_coverNow_188 : decode c_Mo_coverNow 188 = .ok (.iload 11, 2) := by decide +kernel
theorem d_Mo_coverNow_190 : decode c_Mo_coverNow 190 = .ok (.bipush (-5), 2) := by decide +kernel
theorem d_Mo_coverNow_192 : decode c_Mo_coverNow 192 = .ok (.if_icmp .ne 7, 3) := by decide +kernel
theorem d_Mo_coverNow_195 : decode c_Mo_coverNow 195 = .ok (.iconst 0, 1) := by decide +kernel
theorem d_Mo_coverNow_196 : decode c_Mo_coverNow 196 = .ok (.goto 4, 3) := by decide +kernel
theorem d_Mo_coverNow_199 : decode c_Mo_coverNow 199 = .ok (.iconst 1, 1) := by decide +kernel
theorem d_Mo_coverNow_200 : decode c_Mo_coverNow 200 = .ok (.iadd, 1) := by decide +kernel
theorem d_Mo_coverNow_201 : decode c_Mo_coverNow 201 = .ok (.putfield 83, 3) := by decide +kernel
theorem d_Mo_coverNow_204 : decode c_Mo_coverNow 204 = .ok (.iload 11, 2) := by decide +kernel
theorem d_Mo_coverNow_206 : decode c_Mo_coverNow 206 = .ok (.bipush (-5), 2) := by decide +kernel
theorem d_Mo_coverNow_208 : decode c_Mo_coverNow 208 = .ok (.if_icmp .ne 8, 3) := by decide +kernel
theorem d_Mo_coverNow_211 : decode c_Mo_coverNow 211 = .ok (.iload 4, 2) := by decide +kernel
theorem d_Mo_coverNow_213 : decode c_Mo_coverNow 213 = .ok (.goto 9, 3) := by decide +kernel
theorem d_Mo_coverNow_216 : decode c_Mo_coverNow 216 = .ok (.aload_n 0, 1) := by decide +kernel
theorem d_Mo_coverNow_217 : decode c_Mo_coverNow 217 = .ok (.iload 11, 2) := by decide +kernel
theorem d_Mo_coverNow_219 : decode c_Mo_coverNow 219 = .ok (.invokevirtual 39, 3) := by decide +kernel
theorem d_Mo_coverNow_222 : decode c_Mo_coverNow 222 = .ok (.istore 12, 2) := by decide +kernel
theorem d_Mo_coverNow_224 : decode c_Mo_coverNow 224 = .ok (.iload 11, 2) := by decide +kernel
theorem d_Mo_coverNow_226 : decode c_Mo_coverNow 226 = .ok (.bipush (-5), 2) := by decide +kernel
theorem d_Mo_coverNow_228 : decode c_Mo_coverNow 228 = .ok (.if_icmp .ne 8, 3) := by decide +kernel
theorem d_Mo_coverNow_231 : decode c_Mo_coverNow 231 = .ok (.iload 7, 2) := by decide +kernel
theorem d_Mo_coverNow_233 : decode c_Mo_coverNow 233 = .ok (.goto 9, 3) := by decide +kernel
theorem d_Mo_coverNow_236 : decode c_Mo_coverNow 236 = .ok (.aload_n 0, 1) := by decide +kernel
theorem d_Mo_coverNow_237 : decode c_Mo_coverNow 237 = .ok (.iload 11, 2) := by decide +kernel
theorem d_Mo_coverNow_239 : decode c_Mo_coverNow 239 = .ok (.invokevirtual 43, 3) := by decide +kernel
theorem d_Mo_coverNow_242 : decode c_Mo_coverNow 242 = .ok (.istore 13, 2) := by decide +kernel
theorem d_Mo_coverNow_244 : decode c_Mo_coverNow 244 = .ok (.iload 11, 2) := by decide +kernel
theorem d_Mo_coverNow_246 : decode c_Mo_coverNow 246 = .ok (.bipush (-5), 2) := by decide +kernel
theorem d_Mo_coverNow_248 : decode c_Mo_coverNow 248 = .ok (.if_icmp .ne 15, 3) := by decide +kernel
theorem d_Mo_coverNow_251 : decode c_Mo_coverNow 251 = .ok (.aload_n 0, 1) := by decide +kernel
theorem d_Mo_coverNow_252 : decode c_Mo_coverNow 252 = .ok (.iload_n 2, 1) := by decide +kernel
theorem d_Mo_coverNow_253 : decode c_Mo_coverNow 253 = .ok (.iconst 2, 1) := by decide +kernel
theorem d_Mo_coverNow_254 : decode c_Mo_coverNow 254 = .ok (.iload 7, 2) := by decide +kernel
theorem d_Mo_coverNow_256 : decode c_Mo_coverNow 256 = .ok (.ineg, 1) := by decide +kernel
theorem d_Mo_coverNow_257 : decode c_Mo_coverNow 257 = .ok (.invokevirtual 50, 3) := by decide +kernel
theorem d_Mo_coverNow_260 : decode c_Mo_coverNow 260 = .ok (.goto 9, 3) := by decide +kernel
theorem d_Mo_coverNow_263 : decode c_Mo_coverNow 263 = .ok (.aload_n 0, 1) := by decide +kernel
theorem d_Mo_coverNow_264 : decode c_Mo_coverNow 264 = .ok (.iload 11, 2) := by decide +kernel
theorem d_Mo_coverNow_266 : decode c_Mo_coverNow 266 = .ok (.invokevirtual 109, 3) := by decide +kernel
theorem d_Mo_coverNow_269 : decode c_Mo_coverNow 269 = .ok (.aload_n 0, 1) := by decide +kernel
theorem d_Mo_coverNow_270 : decode c_Mo_coverNow 270 = .ok (.iload_n 2, 1) := by decide +kernel
theorem d_Mo_coverNow_271 : decode c_Mo_coverNow 271 = .ok (.iload 12, 2) := by decide +kernel
theorem d_Mo_coverNow_273 : decode c_Mo_coverNow 273 = .ok (.iload 13, 2) := by decide +kernel
theorem d_Mo_coverNow_275 : decode c_Mo_coverNow 275 = .ok (.iload 10, 2) := by decide +kernel
theorem d_Mo_coverNow_277 : decode c_Mo_coverNow 277 = .ok (.iload 7, 2) := by decide +kernel
theorem d_Mo_coverNow_279 : decode c_Mo_coverNow 279 = .ok (.invokevirtual 113, 3) := by decide +kernel
theorem d_Mo_coverNow_282 : decode c_Mo_coverNow 282 = .ok (.ifCond .ne 5, 3) := by decide +kernel
theorem d_Mo_coverNow_285 : decode c_Mo_coverNow 285 = .ok (.iconst 4, 1) := by decide +kernel
theorem d_Mo_coverNow_286 : decode c_Mo_coverNow 286 = .ok (.ireturn, 1) := by decide +kernel
theorem d_Mo_coverNow_287 : decode c_Mo_coverNow 287 = .ok (.iinc 9 1, 3) := by decide +kernel
theorem d_Mo_coverNow_290 : decode c_Mo_coverNow 290 = .ok (.goto (-186), 3) := by decide +kernel
theorem d_Mo_coverNow_293 : decode c_Mo_coverNow 293 = .ok (.aload_n 0, 1) := by decide +kernel
theorem d_Mo_coverNow_294 : decode c_Mo_coverNow 294 = .ok (.dup, 1) := by decide +kernel
theorem d_Mo_coverNow_295 : decode c_Mo_coverNow 295 = .ok (.getfield 80, 3) := by decide +kernel
theorem d_Mo_coverNow_298 : decode c_Mo_coverNow 298 = .ok (.iload 8, 2) := by decide +kernel
theorem d_Mo_coverNow_300 : decode c_Mo_coverNow 300 = .ok (.iconst 1, 1) := by decide +kernel
theorem d_Mo_coverNow_301 : decode c_Mo_coverNow 301 = .ok (.isub, 1) := by decide +kernel
theorem d_Mo_coverNow_302 : decode c_Mo_coverNow 302 = .ok (.iload 7, 2) := by decide +kernel
theorem d_Mo_coverNow_304 : decode c_Mo_coverNow 304 = .ok (.imul, 1) := by decide +kernel
theorem d_Mo_coverNow_305 : decode c_Mo_coverNow 305 = .ok (.iadd, 1) := by decide +kernel
theorem d_Mo_coverNow_306 : decode c_Mo_coverNow 306 = .ok (.putfield 80, 3) := by decide +kernel
theorem d_Mo_coverNow_309 : decode c_Mo_coverNow 309 = .ok (.iinc 5 1, 3) := by decide +kernel
theorem d_Mo_coverNow_312 : decode c_Mo_coverNow 312 = .ok (.goto (-251), 3) := by decide +kernel
theorem d_Mo_coverNow_315 : decode c_Mo_coverNow 315 = .ok (.aload_n 0, 1) := by decide +kernel
theorem d_Mo_coverNow_316 : decode c_Mo_coverNow 316 = .ok (.aload_n 0, 1) := by decide +kernel
theorem d_Mo_coverNow_317 : decode c_Mo_coverNow 317 = .ok (.iload_n 1, 1) := by decide +kernel
theorem d_Mo_coverNow_318 : decode c_Mo_coverNow 318 = .ok (.invokevirtual 117, 3) := by decide +kernel
theorem d_Mo_coverNow_321 : decode c_Mo_coverNow 321 = .ok (.aload_n 0, 1) := by decide +kernel
theorem d_Mo_coverNow_322 : decode c_Mo_coverNow 322 = .ok (.iload_n 2, 1) := by decide +kernel
theorem d_Mo_coverNow_323 : decode c_Mo_coverNow 323 = .ok (.iconst 3, 1) := by decide +kernel
theorem d_Mo_coverNow_324 : decode c_Mo_coverNow 324 = .ok (.invokevirtual 90, 3) := by decide +kernel
theorem d_Mo_coverNow_327 : decode c_Mo_coverNow 327 = .ok (.imul, 1) := by decide +kernel
theorem d_Mo_coverNow_328 : decode c_Mo_coverNow 328 = .ok (.aload_n 0, 1) := by decide +kernel
theorem d_Mo_coverNow_329 : decode c_Mo_coverNow 329 = .ok (.getfield 80, 3) := by decide +kernel
theorem d_Mo_coverNow_332 : decode c_Mo_coverNow 332 = .ok (.aload_n 0, 1) := by decide +kernel
theorem d_Mo_coverNow_333 : decode c_Mo_coverNow 333 = .ok (.getfield 7, 3) := by decide +kernel
theorem d_Mo_coverNow_336 : decode c_Mo_coverNow 336 = .ok (.bipush 6, 2) := by decide +kernel
theorem d_Mo_coverNow_338 : decode c_Mo_coverNow 338 = .ok (.iaload, 1) := by decide +kernel
theorem d_Mo_coverNow_339 : decode c_Mo_coverNow 339 = .ok (.imul, 1) := by decide +kernel
theorem d_Mo_coverNow_340 : decode c_Mo_coverNow 340 = .ok (.aload_n 0, 1) := by decide +kernel
theorem d_Mo_coverNow_341 : decode c_Mo_coverNow 341 = .ok (.iload_n 1, 1) := by decide +kernel
theorem d_Mo_coverNow_342 : decode c_Mo_coverNow 342 = .ok (.iload_n 3, 1) := by decide +kernel
theorem d_Mo_coverNow_343 : decode c_Mo_coverNow 343 = .ok (.invokevirtual 86, 3) := by decide +kernel
theorem d_Mo_coverNow_346 : decode c_Mo_coverNow 346 = .ok (.ifCond .eq 13, 3) := by decide +kernel
theorem d_Mo_coverNow_349 : decode c_Mo_coverNow 349 = .ok (.aload_n 0, 1) := by decide +kernel
theorem d_Mo_coverNow_350 : decode c_Mo_coverNow 350 = .ok (.getfield 7, 3) := by decide +kernel
theorem d_Mo_coverNow_353 : decode c_Mo_coverNow 353 = .ok (.bipush 7, 2) := by decide +kernel
theorem d_Mo_coverNow_355 : decode c_Mo_coverNow 355 = .ok (.iaload, 1) := by decide +kernel
theorem d_Mo_coverNow_356 : decode c_Mo_coverNow 356 = .ok (.goto 4, 3) := by decide +kernel
theorem d_Mo_coverNow_359 : decode c_Mo_coverNow 359 = .ok (.iconst 1, 1) := by decide +kernel
theorem d_Mo_coverNow_360 : decode c_Mo_coverNow 360 = .ok (.imul, 1) := by decide +kernel
theorem d_Mo_coverNow_361 : decode c_Mo_coverNow 361 = .ok (.iadd, 1) := by decide +kernel
theorem d_Mo_coverNow_362 : decode c_Mo_coverNow 362 = .ok (.putfield 120, 3) := by decide +kernel
theorem d_Mo_coverNow_365 : decode c_Mo_coverNow 365 = .ok (.aload_n 0, 1) := by decide +kernel
theorem d_Mo_coverNow_366 : decode c_Mo_coverNow 366 = .ok (.iload_n 1, 1) := by decide +kernel
theorem d_Mo_coverNow_367 : decode c_Mo_coverNow 367 = .ok (.bipush 8, 2) := by decide +kernel
theorem d_Mo_coverNow_369 : decode c_Mo_coverNow 369 = .ok (.iconst 1, 1) := by decide +kernel
theorem d_Mo_coverNow_370 : decode c_Mo_coverNow 370 = .ok (.invokevirtual 123, 3) := by decide +kernel
theorem d_Mo_coverNow_373 : decode c_Mo_coverNow 373 = .ok (.aload_n 0, 1) := by decide +kernel
theorem d_Mo_coverNow_374 : decode c_Mo_coverNow 374 = .ok (.iload_n 1, 1) := by decide +kernel
theorem d_Mo_coverNow_375 : decode c_Mo_coverNow 375 = .ok (.bipush 9, 2) := by decide +kernel
theorem d_Mo_coverNow_377 : decode c_Mo_coverNow 377 = .ok (.iload_n 2, 1) := by decide +kernel
theorem d_Mo_coverNow_378 : decode c_Mo_coverNow 378 = .ok (.invokevirtual 123, 3) := by decide +kernel
theorem d_Mo_coverNow_381 : decode c_Mo_coverNow 381 = .ok (.aload_n 0, 1) := by decide +kernel
theorem d_Mo_coverNow_382 : decode c_Mo_coverNow 382 = .ok (.iload_n 1, 1) := by decide +kernel
theorem d_Mo_coverNow_383 : decode c_Mo_coverNow 383 = .ok (.bipush 10, 2) := by decide +kernel
theorem d_Mo_coverNow_385 : decode c_Mo_coverNow 385 = .ok (.iload_n 3, 1) := by decide +kernel
theorem d_Mo_coverNow_386 : decode c_Mo_coverNow 386 = .ok (.invokevirtual 123, 3) := by decide +kernel
theorem d_Mo_coverNow_389 : decode c_Mo_coverNow 389 = .ok (.aload_n 0, 1) := by decide +kernel
theorem d_Mo_coverNow_390 : decode c_Mo_coverNow 390 = .ok (.iload_n 1, 1) := by decide +kernel
theorem d_Mo_coverNow_391 : decode c_Mo_coverNow 391 = .ok (.bipush 11, 2) := by decide +kernel
theorem d_Mo_coverNow_393 : decode c_Mo_coverNow 393 = .ok (.aload_n 0, 1) := by decide +kernel
theorem d_Mo_coverNow_394 : decode c_Mo_coverNow 394 = .ok (.getfield 120, 3) := by decide +kernel
theorem d_Mo_coverNow_397 : decode c_Mo_coverNow 397 = .ok (.invokevirtual 123, 3) := by decide +kernel
theorem d_Mo_coverNow_400 : decode c_Mo_coverNow 400 = .ok (.aload_n 0, 1) := by decide +kernel
theorem d_Mo_coverNow_401 : decode c_Mo_coverNow 401 = .ok (.getfield 7, 3) := by decide +kernel
theorem d_Mo_coverNow_404 : decode c_Mo_coverNow 404 = .ok (.iconst 3, 1) := by decide +kernel
theorem d_Mo_coverNow_405 : decode c_Mo_coverNow 405 = .ok (.dup2, 1) := by decide +kernel
theorem d_Mo_coverNow_406 : decode c_Mo_coverNow 406 = .ok (.iaload, 1) := by decide +kernel
theorem d_Mo_coverNow_407 : decode c_Mo_coverNow 407 = .ok (.aload_n 0, 1) := by decide +kernel
theorem d_Mo_coverNow_408 : decode c_Mo_coverNow 408 = .ok (.getfield 120, 3) := by decide +kernel
theorem d_Mo_coverNow_411 : decode c_Mo_coverNow 411 = .ok (.iadd, 1) := by decide +kernel
theorem d_Mo_coverNow_412 : decode c_Mo_coverNow 412 = .ok (.iastore, 1) := by decide +kernel
theorem d_Mo_coverNow_413 : decode c_Mo_coverNow 413 = .ok (.iconst 0, 1) := by decide +kernel
theorem d_Mo_coverNow_414 : decode c_Mo_coverNow 414 = .ok (.ireturn, 1) := by decide +kernel
theorem d_Mo_roll_0 : decode c_Mo_roll 0 = .ok (.iload_n 1, 1) := by decide +kernel
theorem d_Mo_roll_1 : decode c_Mo_roll 1 = .ok (.iconst 0, 1) := by decide +kernel
theorem d_Mo_roll_2 : decode c_Mo_roll 2 = .ok (.bipush 9, 2) := by decide +kernel
theorem d_Mo_roll_4 : decode c_Mo_roll 4 = .ok (.invokestatic 35, 3) := by decide +kernel
theorem d_Mo_roll_7 : decode c_Mo_roll 7 = .ok (.ifCond .eq 35, 3) := by decide +kernel
theorem d_Mo_roll_10 : decode c_Mo_roll 10 = .ok (.iload_n 2, 1) := by decide +kernel
theorem d_Mo_roll_11 : decode c_Mo_roll 11 = .ok (.iconst 5, 1) := by decide +kernel
theorem d_Mo_roll_12 : decode c_Mo_roll 12 = .ok (.bipush 60, 2) := by decide +kernel
theorem d_Mo_roll_14 : decode c_Mo_roll 14 = .ok (.invokestatic 35, 3) := by decide +kernel
theorem d_Mo_roll_17 : decode c_Mo_roll 17 = .ok (.ifCond .eq 25, 3) := by decide +kernel
theorem d_Mo_roll_20 : decode c_Mo_roll 20 = .ok (.iload_n 3, 1) := by decide +kernel
theorem d_Mo_roll_21 : decode c_Mo_roll 21 = .ok (.iconst 1, 1) := by decide +kernel
theorem d_Mo_roll_22 : decode c_Mo_roll 22 = .ok (.sipush 999, 3) := by decide +kernel
theorem d_Mo_roll_25 : decode c_Mo_roll 25 = .ok (.invokestatic 35, 3) := by decide +kernel
theorem d_Mo_roll_28 : decode c_Mo_roll 28 = .ok (.ifCond .eq 14, 3) := by decide +kernel
theorem d_Mo_roll_31 : decode c_Mo_roll 31 = .ok (.iload 4, 2) := by decide +kernel
theorem d_Mo_roll_33 : decode c_Mo_roll 33 = .ok (.iconst 0, 1) := by decide +kernel
theorem d_Mo_roll_34 : decode c_Mo_roll 34 = .ok (.bipush 99, 2) := by decide +kernel
theorem d_Mo_roll_36 : decode c_Mo_roll 36 = .ok (.invokestatic 35, 3) := by decide +kernel
theorem d_Mo_roll_39 : decode c_Mo_roll 39 = .ok (.ifCond .ne 6, 3) := by decide +kernel
theorem d_Mo_roll_42 : decode c_Mo_roll 42 = .ok (.bipush (-2), 2) := by decide +kernel
theorem d_Mo_roll_44 : decode c_Mo_roll 44 = .ok (.ireturn, 1) := by decide +kernel
theorem d_Mo_roll_45 : decode c_Mo_roll 45 = .ok (.aload_n 0, 1) := by decide +kernel
theorem d_Mo_roll_46 : decode c_Mo_roll 46 = .ok (.getfield 7, 3) := by decide +kernel
theorem d_Mo_roll_49 : decode c_Mo_roll 49 = .ok (.iconst 0, 1) := by decide +kernel
theorem d_Mo_roll_50 : decode c_Mo_roll 50 = .ok (.iaload, 1) := by decide +kernel
theorem d_Mo_roll_51 : decode c_Mo_roll 51 = .ok (.bipush 12, 2) := by decide +kernel
theorem d_Mo_roll_53 : decode c_Mo_roll 53 = .ok (.if_icmp .ne 6, 3) := by decide +kernel
theorem d_Mo_roll_56 : decode c_Mo_roll 56 = .ok (.bipush (-3), 2) := by decide +kernel
theorem d_Mo_roll_58 : decode c_Mo_roll 58 = .ok (.ireturn, 1) := by decide +kernel
theorem d_Mo_roll_59 : decode c_Mo_roll 59 = .ok (.aload_n 0, 1) := by decide +kernel
theorem d_Mo_roll_60 : decode c_Mo_roll 60 = .ok (.invokevirtual 126, 3) := by decide +kernel
theorem d_Mo_roll_63 : decode c_Mo_roll 63 = .ok (.aload_n 0, 1) := by decide +kernel
theorem d_Mo_roll_64 : decode c_Mo_roll 64 = .ok (.getfield 7, 3) := by decide +kernel
theorem d_Mo_roll_67 : decode c_Mo_roll 67 = .ok (.iconst 0, 1) := by decide +kernel
theorem d_Mo_roll_68 : decode c_Mo_roll 68 = .ok (.iaload, 1) := by decide +kernel
theorem d_Mo_roll_69 : decode c_Mo_roll 69 = .ok (.istore 5, 2) := by decide +kernel
theorem d_Mo_roll_71 : decode c_Mo_roll 71 = .ok (.aload_n 0, 1) := by decide +kernel
theorem d_Mo_roll_72 : decode c_Mo_roll 72 = .ok (.getfield 7, 3) := by decide +kernel
theorem d_Mo_roll_75 : decode c_Mo_roll 75 = .ok (.iconst 0, 1) := by decide +kernel
theorem d_Mo_roll_76 : decode c_Mo_roll 76 = .ok (.dup2, 1) := by decide +kernel
theorem d_Mo_roll_77 : decode c_Mo_roll 77 = .ok (.iaload, 1) := by decide +kernel
theorem d_Mo_roll_78 : decode c_Mo_roll 78 = .ok (.iconst 1, 1) := by decide +kernel
theorem d_Mo_roll_79 : decode c_Mo_roll 79 = .ok (.iadd, 1) := by decide +kernel
theorem d_Mo_roll_80 : decode c_Mo_roll 80 = .ok (.iastore, 1) := by decide +kernel
theorem d_Mo_roll_81 : decode c_Mo_roll 81 = .ok (.aload_n 0, 1) := by decide +kernel
theorem d_Mo_roll_82 : decode c_Mo_roll 82 = .ok (.iload 5, 2) := by decide +kernel
theorem d_Mo_roll_84 : decode c_Mo_roll 84 = .ok (.iconst 0, 1) := by decide +kernel
theorem d_Mo_roll_85 : decode c_Mo_roll 85 = .ok (.iload_n 1, 1) := by decide +kernel
theorem d_Mo_roll_86 : decode c_Mo_roll 86 = .ok (.invokevirtual 50, 3) := by decide +kernel
theorem d_Mo_roll_89 : decode c_Mo_roll 89 = .ok (.aload_n 0, 1) := by decide +kernel
theorem d_Mo_roll_90 : decode c_Mo_roll 90 = .ok (.iload 5, 2) := by decide +kernel
theorem d_Mo_roll_92 : decode c_Mo_roll 92 = .ok (.iconst 1, 1) := by decide +kernel
theorem d_Mo_roll_93 : decode c_Mo_roll 93 = .ok (.iload_n 2, 1) := by decide +kernel
theorem d_Mo_roll_94 : decode c_Mo_roll 94 = .ok (.invokevirtual 50, 3) := by decide +kernel
theorem d_Mo_roll_97 : decode c_Mo_roll 97 = .ok (.aload_n 0, 1) := by decide +kernel
theorem d_Mo_roll_98 : decode c_Mo_roll 98 = .ok (.iload 5, 2) := by decide +kernel
theorem d_Mo_roll_100 : decode c_Mo_roll 100 = .ok (.iconst 2, 1) := by decide +kernel
theorem d_Mo_roll_101 : decode c_Mo_roll 101 = .ok (.iload_n 3, 1) := by decide +kernel
theorem d_Mo_roll_102 : decode c_Mo_roll 102 = .ok (.invokevirtual 50, 3) := by decide +kernel
theorem d_Mo_roll_105 : decode c_Mo_roll 105 = .ok (.aload_n 0, 1) := by decide +kernel
theorem d_Mo_roll_106 : decode c_Mo_roll 106 = .ok (.iload 5, 2) := by decide +kernel
theorem d_Mo_roll_108 : decode c_Mo_roll 108 = .ok (.iconst 3, 1) := by decide +kernel
theorem d_Mo_roll_109 : decode c_Mo_roll 109 = .ok (.iload 4, 2) := by decide +kernel
theorem d_Mo_roll_111 : decode c_Mo_roll 111 = .ok (.invokevirtual 50, 3) := by decide +kernel
theorem d_Mo_roll_114 : decode c_Mo_roll 114 = .ok (.aload_n 0, 1) := by decide +kernel
theorem d_Mo_roll_115 : decode c_Mo_roll 115 = .ok (.iload 5, 2) := by decide +kernel
theorem d_Mo_roll_117 : decode c_Mo_roll 117 = .ok (.iconst 4, 1) := by decide +kernel
theorem d_Mo_roll_118 : decode c_Mo_roll 118 = .ok (.iload_n 3, 1) := by decide +kernel
theorem d_Mo_roll_119 : decode c_Mo_roll 119 = .ok (.invokevirtual 50, 3) := by decide +kernel
theorem d_Mo_roll_122 : decode c_Mo_roll 122 = .ok (.iload 5, 2) := by decide +kernel
theorem d_Mo_roll_124 : decode c_Mo_roll 124 = .ok (.ireturn, 1) := by decide +kernel
theorem d_Mo_rooms_0 : decode c_Mo_rooms 0 = .ok (.aload_n 0, 1) := by decide +kernel
theorem d_Mo_rooms_1 : decode c_Mo_rooms 1 = .ok (.invokevirtual 129, 3) := by decide +kernel
theorem d_Mo_rooms_4 : decode c_Mo_rooms 4 = .ok (.istore_n 1, 1) := by decide +kernel
theorem d_Mo_rooms_5 : decode c_Mo_rooms 5 = .ok (.iload_n 1, 1) := by decide +kernel
theorem d_Mo_rooms_6 : decode c_Mo_rooms 6 = .ok (.ifCond .ge 5, 3) := by decide +kernel
theorem d_Mo_rooms_9 : decode c_Mo_rooms 9 = .ok (.iload_n 1, 1) := by decide +kernel
theorem d_Mo_rooms_10 : decode c_Mo_rooms 10 = .ok (.ireturn, 1) := by decide +kernel
theorem d_Mo_rooms_11 : decode c_Mo_rooms 11 = .ok (.aload_n 0, 1) := by decide +kernel
theorem d_Mo_rooms_12 : decode c_Mo_rooms 12 = .ok (.getfield 7, 3) := by decide +kernel
theorem d_Mo_rooms_15 : decode c_Mo_rooms 15 = .ok (.iconst 2, 1) := by decide +kernel
theorem d_Mo_rooms_16 : decode c_Mo_rooms 16 = .ok (.iaload, 1) := by decide +kernel
theorem d_Mo_rooms_17 : decode c_Mo_rooms 17 = .ok (.iload_n 1, 1) := by decide +kernel
theorem d_Mo_rooms_18 : decode c_Mo_rooms 18 = .ok (.iadd, 1) := by decide +kernel
theorem d_Mo_rooms_19 : decode c_Mo_rooms 19 = .ok (.bipush 20, 2) := by decide +kernel
theorem d_Mo_rooms_21 : decode c_Mo_rooms 21 = .ok (.if_icmp .le 6, 3) := by decide +kernel
theorem d_Mo_rooms_24 : decode c_Mo_rooms 24 = .ok (.bipush (-3), 2) := by decide +kernel
theorem d_Mo_rooms_26 : decode c_Mo_rooms 26 = .ok (.ireturn, 1) := by decide +kernel
theorem d_Mo_rooms_27 : decode c_Mo_rooms 27 = .ok (.aload_n 0, 1) := by decide +kernel
theorem d_Mo_rooms_28 : decode c_Mo_rooms 28 = .ok (.invokevirtual 126, 3) := by decide +kernel
theorem d_Mo_rooms_31 : decode c_Mo_rooms 31 = .ok (.aload_n 0, 1) := by decide +kernel
theorem d_Mo_rooms_32 : decode c_Mo_rooms 32 = .ok (.iconst 0, 1) := by decide +kernel
theorem d_Mo_rooms_33 : decode c_Mo_rooms 33 = .ok (.putfield 132, 3) := by decide +kernel
theorem d_Mo_rooms_36 : decode c_Mo_rooms 36 = .ok (.iconst 0, 1) := by decide +kernel
theorem d_Mo_rooms_37 : decode c_Mo_rooms 37 = .ok (.istore_n 2, 1) := by decide +kernel
theorem d_Mo_rooms_38 : decode c_Mo_rooms 38 = .ok (.iload_n 2, 1) := by decide +kernel
theorem d_Mo_rooms_39 : decode c_Mo_rooms 39 = .ok (.iload_n 1, 1) := by decide +kernel
theorem d_Mo_rooms_40 : decode c_Mo_rooms 40 = .ok (.if_icmp .ge 65, 3) := by decide +kernel
theorem d_Mo_rooms_43 : decode c_Mo_rooms 43 = .ok (.aload_n 0, 1) := by decide +kernel
theorem d_Mo_rooms_44 : decode c_Mo_rooms 44 = .ok (.invokevirtual 135, 3) := by decide +kernel
theorem d_Mo_rooms_47 : decode c_Mo_rooms 47 = .ok (.pop, 1) := by decide +kernel
theorem d_Mo_rooms_48 : decode c_Mo_rooms 48 = .ok (.iconst 0, 1) := by decide +kernel
theorem d_Mo_rooms_49 : decode c_Mo_rooms 49 = .ok (.istore_n 3, 1) := by decide +kernel
theorem d_Mo_rooms_50 : decode c_Mo_rooms 50 = .ok (.iload_n 3, 1) := by decide +kernel
theorem d_Mo_rooms_51 : decode c_Mo_rooms 51 = .ok (.bipush 8, 2) := by decide +kernel
theorem d_Mo_rooms_53 : decode c_Mo_rooms 53 = .ok (.if_icmp .ge 26, 3) := by decide +kernel
theorem d_Mo_rooms_56 : decode c_Mo_rooms 56 = .ok (.aload_n 0, 1) := by decide +kernel
theorem d_Mo_rooms_57 : decode c_Mo_rooms 57 = .ok (.aload_n 0, 1) := by decide +kernel
theorem d_Mo_rooms_58 : decode c_Mo_rooms 58 = .ok (.getfield 7, 3) := by decide +kernel
theorem d_Mo_rooms_61 : decode c_Mo_rooms 61 = .ok (.iconst 2, 1) := by decide +kernel
theorem d_Mo_rooms_62 : decode c_Mo_rooms 62 = .ok (.iaload, 1) := by decide +kernel
theorem d_Mo_rooms_63 : decode c_Mo_rooms 63 = .ok (.iload_n 3, 1) := by decide +kernel
theorem d_Mo_rooms_64 : decode c_Mo_rooms 64 = .ok (.aload_n 0, 1) := by decide +kernel
theorem d_Mo_rooms_65 : decode c_Mo_rooms 65 = .ok (.getfield 28, 3) := by decide +kernel
theorem d_Mo_rooms_68 : decode c_Mo_rooms 68 = .ok (.iload_n 3, 1) := by decide +kernel
theorem d_Mo_rooms_69 : decode c_Mo_rooms 69 = .ok (.iaload, 1) := by decide +kernel
theorem d_Mo_rooms_70 : decode c_Mo_rooms 70 = .ok (.invokevirtual 123, 3) := by decide +kernel
theorem d_Mo_rooms_73 : decode c_Mo_rooms 73 = .ok (.iinc 3 1, 3) := by decide +kernel
theorem d_Mo_rooms_76 : decode c_Mo_rooms 76 = .ok (.goto (-26), 3) := by decide +kernel
theorem d_Mo_rooms_79 : decode c_Mo_rooms 79 = .ok (.aload_n 0, 1) := by decide +kernel
theorem d_Mo_rooms_80 : decode c_Mo_rooms 80 = .ok (.getfield 7, 3) := by decide +kernel
theorem d_Mo_rooms_83 : decode c_Mo_rooms 83 = .ok (.iconst 2, 1) := by decide +kernel
theorem d_Mo_rooms_84 : decode c_Mo_rooms 84 = .ok (.dup2, 1) := by decide +kernel
theorem d_Mo_rooms_85 : decode c_Mo_rooms 85 = .ok (.iaload, 1) := by decide +kernel
theorem d_Mo_rooms_86 : decode c_Mo_rooms 86 = .ok (.iconst 1, 1) := by decide +kernel
theorem d_Mo_rooms_87 : decode c_Mo_rooms 87 = .ok (.iadd, 1) := by decide +kernel
theorem d_Mo_rooms_88 : decode c_Mo_rooms 88 = .ok (.iastore, 1) := by decide +kernel
theorem d_Mo_rooms_89 : decode c_Mo_rooms 89 = .ok (.aload_n 0, 1) := by decide +kernel
theorem d_Mo_rooms_90 : decode c_Mo_rooms 90 = .ok (.dup, 1) := by decide +kernel
theorem d_Mo_rooms_91 : decode c_Mo_rooms 91 = .ok (.getfield 132, 3) := by decide +kernel
theorem d_Mo_rooms_94 : decode c_Mo_rooms 94 = .ok (.iconst 1, 1) := by decide +kernel
theorem d_Mo_rooms_95 : decode c_Mo_rooms 95 = .ok (.iadd, 1) := by decide +kernel
theorem d_Mo_rooms_96 : decode c_Mo_rooms 96 = .ok (.putfield 132, 3) := by decide +kernel
theorem d_Mo_rooms_99 : decode c_Mo_rooms 99 = .ok (.iinc 2 1, 3) := by decide +kernel
theorem d_Mo_rooms_102 : decode c_Mo_rooms 102 = .ok (.goto (-64), 3) := by decide +kernel
theorem d_Mo_rooms_105 : decode c_Mo_rooms 105 = .ok (.iload_n 1, 1) := by decide +kernel
theorem d_Mo_rooms_106 : decode c_Mo_rooms 106 = .ok (.ireturn, 1) := by decide +kernel
theorem d_Mo_check_0 : decode c_Mo_check 0 = .ok (.aload_n 0, 1) := by decide +kernel
theorem d_Mo_check_1 : decode c_Mo_check 1 = .ok (.iload_n 1, 1) := by decide +kernel
theorem d_Mo_check_2 : decode c_Mo_check 2 = .ok (.invokevirtual 139, 3) := by decide +kernel
theorem d_Mo_check_5 : decode c_Mo_check 5 = .ok (.ifCond .eq 11, 3) := by decide +kernel
theorem d_Mo_check_8 : decode c_Mo_check 8 = .ok (.aload_n 0, 1) := by decide +kernel
theorem d_Mo_check_9 : decode c_Mo_check 9 = .ok (.iload_n 2, 1) := by decide +kernel
theorem d_Mo_check_10 : decode c_Mo_check 10 = .ok (.invokevirtual 142, 3) := by decide +kernel
theorem d_Mo_check_13 : decode c_Mo_check 13 = .ok (.ifCond .ne 7, 3) := by decide +kernel
theorem d_Mo_check_16 : decode c_Mo_check 16 = .ok (.iconst (-1), 1) := by decide +kernel
theorem d_Mo_check_17 : decode c_Mo_check 17 = .ok (.goto 18, 3) := by decide +kernel
theorem d_Mo_check_20 : decode c_Mo_check 20 = .ok (.iload_n 3, 1) := by decide +kernel
theorem d_Mo_check_21 : decode c_Mo_check 21 = .ok (.iconst 0, 1) := by decide +kernel
theorem d_Mo_check_22 : decode c_Mo_check 22 = .ok (.iconst 1, 1) := by decide +kernel
theorem d_Mo_check_23 : decode c_Mo_check 23 = .ok (.invokestatic 35, 3) := by decide +kernel
theorem d_Mo_check_26 : decode c_Mo_check 26 = .ok (.ifCond .eq 7, 3) := by decide +kernel
theorem d_Mo_check_29 : decode c_Mo_check 29 = .ok (.iconst 0, 1) := by decide +kernel
theorem d_Mo_check_30 : decode c_Mo_check 30 = .ok (.goto 5, 3) := by decide +kernel
theorem d_Mo_check_33 : decode c_Mo_check 33 = .ok (.bipush (-2), 2) := by decide +kernel
theorem d_Mo_check_35 : decode c_Mo_check 35 = .ok (.ireturn, 1) := by decide +kernel
theorem d_Mo_cover_0 : decode c_Mo_cover 0 = .ok (.aload_n 0, 1) := by decide +kernel
theorem d_Mo_cover_1 : decode c_Mo_cover 1 = .ok (.iload_n 1, 1) := by decide +kernel
theorem d_Mo_cover_2 : decode c_Mo_cover 2 = .ok (.iload_n 2, 1) := by decide +kernel
theorem d_Mo_cover_3 : decode c_Mo_cover 3 = .ok (.iload_n 3, 1) := by decide +kernel
theorem d_Mo_cover_4 : decode c_Mo_cover 4 = .ok (.invokevirtual 145, 3) := by decide +kernel
theorem d_Mo_cover_7 : decode c_Mo_cover 7 = .ok (.istore 4, 2) := by decide +kernel
theorem d_Mo_cover_9 : decode c_Mo_cover 9 = .ok (.iload 4, 2) := by decide +kernel
theorem d_Mo_cover_11 : decode c_Mo_cover 11 = .ok (.ifCond .ge 6, 3) := by decide +kernel
theorem d_Mo_cover_14 : decode c_Mo_cover 14 = .ok (.iload 4, 2) := by decide +kernel
theorem d_Mo_cover_16 : decode c_Mo_cover 16 = .ok (.ireturn, 1) := by decide +kernel
theorem d_Mo_cover_17 : decode c_Mo_cover 17 = .ok (.aload_n 0, 1) := by decide +kernel
theorem d_Mo_cover_18 : decode c_Mo_cover 18 = .ok (.invokevirtual 148, 3) := by decide +kernel
theorem d_Mo_cover_21 : decode c_Mo_cover 21 = .ok (.aload_n 0, 1) := by decide +kernel
theorem d_Mo_cover_22 : decode c_Mo_cover 22 = .ok (.iload_n 1, 1) := by decide +kernel
theorem d_Mo_cover_23 : decode c_Mo_cover 23 = .ok (.iload_n 2, 1) := by decide +kernel
theorem d_Mo_cover_24 : decode c_Mo_cover 24 = .ok (.iload_n 3, 1) := by decide +kernel
theorem d_Mo_cover_25 : decode c_Mo_cover 25 = .ok (.invokevirtual 151, 3) := by decide +kernel
theorem d_Mo_cover_28 : decode c_Mo_cover 28 = .ok (.istore 5, 2) := by decide +kernel
theorem d_Mo_cover_30 : decode c_Mo_cover 30 = .ok (.aload_n 0, 1) := by decide +kernel
theorem d_Mo_cover_31 : decode c_Mo_cover 31 = .ok (.invokevirtual 154, 3) := by decide +kernel
theorem d_Mo_cover_34 : decode c_Mo_cover 34 = .ok (.iload 5, 2) := by decide +kernel
theorem d_Mo_cover_36 : decode c_Mo_cover 36 = .ok (.ifCond .le 9, 3) := by decide +kernel
theorem d_Mo_cover_39 : decode c_Mo_cover 39 = .ok (.bipush (-10), 2) := by decide +kernel
theorem d_Mo_cover_41 : decode c_Mo_cover 41 = .ok (.iload 5, 2) := by decide +kernel
theorem d_Mo_cover_43 : decode c_Mo_cover 43 = .ok (.isub, 1) := by decide +kernel
theorem d_Mo_cover_44 : decode c_Mo_cover 44 = .ok (.ireturn, 1) := by decide +kernel
theorem d_Mo_cover_45 : decode c_Mo_cover 45 = .ok (.aload_n 0, 1) := by decide +kernel
theorem d_Mo_cover_46 : decode c_Mo_cover 46 = .ok (.invokevirtual 126, 3) := by decide +kernel
theorem d_Mo_cover_49 : decode c_Mo_cover 49 = .ok (.aload_n 0, 1) := by decide +kernel
theorem d_Mo_cover_50 : decode c_Mo_cover 50 = .ok (.iload_n 1, 1) := by decide +kernel
theorem d_Mo_cover_51 : decode c_Mo_cover 51 = .ok (.iload_n 2, 1) := by decide +kernel
theorem d_Mo_cover_52 : decode c_Mo_cover 52 = .ok (.iload_n 3, 1) := by decide +kernel
theorem d_Mo_cover_53 : decode c_Mo_cover 53 = .ok (.invokevirtual 151, 3) := by decide +kernel
theorem d_Mo_cover_56 : decode c_Mo_cover 56 = .ok (.pop, 1) := by decide +kernel
theorem d_Mo_cover_57 : decode c_Mo_cover 57 = .ok (.aload_n 0, 1) := by decide +kernel
theorem d_Mo_cover_58 : decode c_Mo_cover 58 = .ok (.getfield 120, 3) := by decide +kernel
theorem d_Mo_cover_61 : decode c_Mo_cover 61 = .ok (.ireturn, 1) := by decide +kernel
theorem d_Mo_rankOf_0 : decode c_Mo_rankOf 0 = .ok (.iload_n 2, 1) := by decide +kernel
theorem d_Mo_rankOf_1 : decode c_Mo_rankOf 1 = .ok (.istore_n 3, 1) := by decide +kernel
theorem d_Mo_rankOf_2 : decode c_Mo_rankOf 2 = .ok (.iconst 0, 1) := by decide +kernel
theorem d_Mo_rankOf_3 : decode c_Mo_rankOf 3 = .ok (.istore 4, 2) := by decide +kernel
theorem d_Mo_rankOf_5 : decode c_Mo_rankOf 5 = .ok (.iload 4, 2) := by decide +kernel
theorem d_Mo_rankOf_7 : decode c_Mo_rankOf 7 = .ok (.aload_n 0, 1) := by decide +kernel
theorem d_Mo_rankOf_8 : decode c_Mo_rankOf 8 = .ok (.iload_n 1, 1) := by decide +kernel
theorem d_Mo_rankOf_9 : decode c_Mo_rankOf 9 = .ok (.iconst 0, 1) := by decide +kernel
theorem d_Mo_rankOf_10 : decode c_Mo_rankOf 10 = .ok (.invokevirtual 74, 3) := by decide +kernel
theorem d_Mo_rankOf_13 : decode c_Mo_rankOf 13 = .ok (.if_icmp .ge 59, 3) := by decide +kernel
theorem d_Mo_rankOf_16 : decode c_Mo_rankOf 16 = .ok (.aload_n 0, 1) := by decide +kernel
theorem d_Mo_rankOf_17 : decode c_Mo_rankOf 17 = .ok (.iload_n 1, 1) := by decide +kernel
theorem d_Mo_rankOf_18 : decode c_Mo_rankOf 18 = .ok (.iload 4, 2) := by decide +kernel
theorem d_Mo_rankOf_20 : decode c_Mo_rankOf 20 = .ok (.aload_n 0, 1) := by decide +kernel
theorem d_Mo_rankOf_21 : decode c_Mo_rankOf 21 = .ok (.iload_n 1, 1) := by decide +kernel
theorem d_Mo_rankOf_22 : decode c_Mo_rankOf 22 = .ok (.bipush 10, 2) := by decide +kernel
theorem d_Mo_rankOf_24 : decode c_Mo_rankOf 24 = .ok (.invokevirtual 74, 3) := by decide +kernel
theorem d_Mo_rankOf_27 : decode c_Mo_rankOf 27 = .ok (.invokevirtual 93, 3) := by decide +kernel
theorem d_Mo_rankOf_30 : decode c_Mo_rankOf 30 = .ok (.aload_n 0, 1) := by decide +kernel
theorem d_Mo_rankOf_31 : decode c_Mo_rankOf 31 = .ok (.aload_n 0, 1) := by decide +kernel
theorem d_Mo_rankOf_32 : decode c_Mo_rankOf 32 = .ok (.iload_n 1, 1) := by decide +kernel
theorem d_Mo_rankOf_33 : decode c_Mo_rankOf 33 = .ok (.bipush 9, 2) := by decide +kernel
theorem d_Mo_rankOf_35 : decode c_Mo_rankOf 35 = .ok (.invokevirtual 74, 3) := by decide +kernel
theorem d_Mo_rankOf_38 : decode c_Mo_rankOf 38 = .ok (.iconst 1, 1) := by decide +kernel
theorem d_Mo_rankOf_39 : decode c_Mo_rankOf 39 = .ok (.invokevirtual 90, 3) := by decide +kernel
theorem d_Mo_rankOf_42 : decode c_Mo_rankOf 42 = .ok (.invokestatic 100, 3) := by decide +kernel
theorem d_Mo_rankOf_45 : decode c_Mo_rankOf 45 = .ok (.istore 5, 2) := by decide +kernel
theorem d_Mo_rankOf_47 : decode c_Mo_rankOf 47 = .ok (.iload_n 3, 1) := by decide +kernel
theorem d_Mo_rankOf_48 : decode c_Mo_rankOf 48 = .ok (.iload 5, 2) := by decide +kernel
theorem d_Mo_rankOf_50 : decode c_Mo_rankOf 50 = .ok (.if_icmp .ge 11, 3) := by decide +kernel
theorem d_Mo_rankOf_53 : decode c_Mo_rankOf 53 = .ok (.bipush 100, 2) := by decide +kernel
theorem d_Mo_rankOf_55 : decode c_Mo_rankOf 55 = .ok (.iload 4, 2) := by decide +kernel
theorem d_Mo_rankOf_57 : decode c_Mo_rankOf 57 = .ok (.imul, 1) := by decide +kernel
theorem d_Mo_rankOf_58 : decode c_Mo_rankOf 58 = .ok (.iload_n 3, 1) := by decide +kernel
theorem d_Mo_rankOf_59 : decode c_Mo_rankOf 59 = .ok (.iadd, 1) := by decide +kernel
theorem d_Mo_rankOf_60 : decode c_Mo_rankOf 60 = .ok (.ireturn, 1) := by decide +kernel
theorem d_Mo_rankOf_61 : decode c_Mo_rankOf 61 = .ok (.iload_n 3, 1) := by decide +kernel
theorem d_Mo_rankOf_62 : decode c_Mo_rankOf 62 = .ok (.iload 5, 2) := by decide +kernel
theorem d_Mo_rankOf_64 : decode c_Mo_rankOf 64 = .ok (.isub, 1) := by decide +kernel
theorem d_Mo_rankOf_65 : decode c_Mo_rankOf 65 = .ok (.istore_n 3, 1) := by decide +kernel
theorem d_Mo_rankOf_66 : decode c_Mo_rankOf 66 = .ok (.iinc 4 1, 3) := by decide +kernel
theorem d_Mo_rankOf_69 : decode c_Mo_rankOf 69 = .ok (.goto (-64), 3) := by decide +kernel
theorem d_Mo_rankOf_72 : decode c_Mo_rankOf 72 = .ok (.bipush (-5), 2) := by decide +kernel
theorem d_Mo_rankOf_74 : decode c_Mo_rankOf 74 = .ok (.ireturn, 1) := by decide +kernel
theorem d_Mo_stripsOf_0 : decode c_Mo_stripsOf 0 = .ok (.iconst 0, 1) := by decide +kernel
theorem d_Mo_stripsOf_1 : decode c_Mo_stripsOf 1 = .ok (.istore_n 2, 1) := by decide +kernel
theorem d_Mo_stripsOf_2 : decode c_Mo_stripsOf 2 = .ok (.iconst 0, 1) := by decide +kernel
theorem d_Mo_stripsOf_3 : decode c_Mo_stripsOf 3 = .ok (.istore_n 3, 1) := by decide +kernel
theorem d_Mo_stripsOf_4 : decode c_Mo_stripsOf 4 = .ok (.iload_n 3, 1) := by decide +kernel
theorem d_Mo_stripsOf_5 : decode c_Mo_stripsOf 5 = .ok (.aload_n 0, 1) := by decide +kernel
theorem d_Mo_stripsOf_6 : decode c_Mo_stripsOf 6 = .ok (.iload_n 1, 1) := by decide +kernel
end
section
theorem d_Mo_stripsOf_7 : decode c_Mo_stripsOf 7 = .ok (.iconst 0, 1) := by decide +kernel
theorem d_Mo_stripsOf_8 : decode c_Mo_stripsOf 8 = .ok (.invokevirtual 74, 3) := by decide +kernel
theorem d_Mo_stripsOf_11 : decode c_Mo_stripsOf 11 = .ok (.if_icmp .ge 40, 3) := by decide +kernel
theorem d_Mo_stripsOf_14 : decode c_Mo_stripsOf 14 = .ok (.iload_n 2, 1) := by decide +kernel
theorem d_Mo_stripsOf_15 : decode c_Mo_stripsOf 15 = .ok (.aload_n 0, 1) := by decide +kernel
theorem d_Mo_stripsOf_16 : decode c_Mo_stripsOf 16 = .ok (.iload_n 1, 1) := by decide +kernel
theorem d_Mo_stripsOf_17 : decode c_Mo_stripsOf 17 = .ok (.iload_n 3, 1) := by decide +kernel
theorem d_Mo_stripsOf_18 : decode c_Mo_stripsOf 18 = .ok (.aload_n 0, 1) := by decide +kernel
theorem d_Mo_stripsOf_19 : decode c_Mo_stripsOf 19 = .ok (.iload_n 1, 1) := by decide +kernel
theorem d_Mo_stripsOf_20 : decode c_Mo_stripsOf 20 = .ok (.bipush 10, 2) := by decide +kernel
theorem d_Mo_stripsOf_22 : decode c_Mo_stripsOf 22 = .ok (.invokevirtual 74, 3) := by decide +kernel
theorem d_Mo_stripsOf_25 : decode c_Mo_stripsOf 25 = .ok (.invokevirtual 93, 3) := by decide +kernel
theorem d_Mo_stripsOf_28 : decode c_Mo_stripsOf 28 = .ok (.aload_n 0, 1) := by decide +kernel
theorem d_Mo_stripsOf_29 : decode c_Mo_stripsOf 29 = .ok (.aload_n 0, 1) := by decide +kernel
theorem d_Mo_stripsOf_30 : decode c_Mo_stripsOf 30 = .ok (.iload_n 1, 1) := by decide +kernel
theorem d_Mo_stripsOf_31 : decode c_Mo_stripsOf 31 = .ok (.bipush 9, 2) := by decide +kernel
theorem d_Mo_stripsOf_33 : decode c_Mo_stripsOf 33 = .ok (.invokevirtual 74, 3) := by decide +kernel
theorem d_Mo_stripsOf_36 : decode c_Mo_stripsOf 36 = .ok (.iconst 1, 1) := by decide +kernel
theorem d_Mo_stripsOf_37 : decode c_Mo_stripsOf 37 = .ok (.invokevirtual 90, 3) := by decide +kernel
theorem d_Mo_stripsOf_40 : decode c_Mo_stripsOf 40 = .ok (.invokestatic 100, 3) := by decide +kernel
theorem d_Mo_stripsOf_43 : decode c_Mo_stripsOf 43 = .ok (.iadd, 1) := by decide +kernel
theorem d_Mo_stripsOf_44 : decode c_Mo_stripsOf 44 = .ok (.istore_n 2, 1) := by decide +kernel
theorem d_Mo_stripsOf_45 : decode c_Mo_stripsOf 45 = .ok (.iinc 3 1, 3) := by decide +kernel
theorem d_Mo_stripsOf_48 : decode c_Mo_stripsOf 48 = .ok (.goto (-44), 3) := by decide +kernel
theorem d_Mo_stripsOf_51 : decode c_Mo_stripsOf 51 = .ok (.iload_n 2, 1) := by decide +kernel
theorem d_Mo_stripsOf_52 : decode c_Mo_stripsOf 52 = .ok (.ireturn, 1) := by decide +kernel
theorem d_Mo_seamsOf_0 : decode c_Mo_seamsOf 0 = .ok (.iconst 0, 1) := by decide +kernel
theorem d_Mo_seamsOf_1 : decode c_Mo_seamsOf 1 = .ok (.istore_n 2, 1) := by decide +kernel
theorem d_Mo_seamsOf_2 : decode c_Mo_seamsOf 2 = .ok (.iconst 0, 1) := by decide +kernel
theorem d_Mo_seamsOf_3 : decode c_Mo_seamsOf 3 = .ok (.istore_n 3, 1) := by decide +kernel
theorem d_Mo_seamsOf_4 : decode c_Mo_seamsOf 4 = .ok (.iload_n 3, 1) := by decide +kernel
theorem d_Mo_seamsOf_5 : decode c_Mo_seamsOf 5 = .ok (.aload_n 0, 1) := by decide +kernel
theorem d_Mo_seamsOf_6 : decode c_Mo_seamsOf 6 = .ok (.iload_n 1, 1) := by decide +kernel
theorem d_Mo_seamsOf_7 : decode c_Mo_seamsOf 7 = .ok (.iconst 0, 1) := by decide +kernel
theorem d_Mo_seamsOf_8 : decode c_Mo_seamsOf 8 = .ok (.invokevirtual 74, 3) := by decide +kernel
theorem d_Mo_seamsOf_11 : decode c_Mo_seamsOf 11 = .ok (.if_icmp .ge 56, 3) := by decide +kernel
theorem d_Mo_seamsOf_14 : decode c_Mo_seamsOf 14 = .ok (.iload_n 2, 1) := by decide +kernel
theorem d_Mo_seamsOf_15 : decode c_Mo_seamsOf 15 = .ok (.aload_n 0, 1) := by decide +kernel
theorem d_Mo_seamsOf_16 : decode c_Mo_seamsOf 16 = .ok (.iload_n 1, 1) := by decide +kernel
theorem d_Mo_seamsOf_17 : decode c_Mo_seamsOf 17 = .ok (.iload_n 3, 1) := by decide +kernel
theorem d_Mo_seamsOf_18 : decode c_Mo_seamsOf 18 = .ok (.aload_n 0, 1) := by decide +kernel
theorem d_Mo_seamsOf_19 : decode c_Mo_seamsOf 19 = .ok (.iload_n 1, 1) := by decide +kernel
theorem d_Mo_seamsOf_20 : decode c_Mo_seamsOf 20 = .ok (.bipush 10, 2) := by decide +kernel
theorem d_Mo_seamsOf_22 : decode c_Mo_seamsOf 22 = .ok (.invokevirtual 74, 3) := by decide +kernel
theorem d_Mo_seamsOf_25 : decode c_Mo_seamsOf 25 = .ok (.invokevirtual 93, 3) := by decide +kernel
theorem d_Mo_seamsOf_28 : decode c_Mo_seamsOf 28 = .ok (.aload_n 0, 1) := by decide +kernel
theorem d_Mo_seamsOf_29 : decode c_Mo_seamsOf 29 = .ok (.aload_n 0, 1) := by decide +kernel
theorem d_Mo_seamsOf_30 : decode c_Mo_seamsOf 30 = .ok (.iload_n 1, 1) := by decide +kernel
theorem d_Mo_seamsOf_31 : decode c_Mo_seamsOf 31 = .ok (.bipush 9, 2) := by decide +kernel
theorem d_Mo_seamsOf_33 : decode c_Mo_seamsOf 33 = .ok (.invokevirtual 74, 3) := by decide +kernel
theorem d_Mo_seamsOf_36 : decode c_Mo_seamsOf 36 = .ok (.iconst 1, 1) := by decide +kernel
theorem d_Mo_seamsOf_37 : decode c_Mo_seamsOf 37 = .ok (.invokevirtual 90, 3) := by decide +kernel
theorem d_Mo_seamsOf_40 : decode c_Mo_seamsOf 40 = .ok (.invokestatic 100, 3) := by decide +kernel
theorem d_Mo_seamsOf_43 : decode c_Mo_seamsOf 43 = .ok (.iconst 1, 1) := by decide +kernel
theorem d_Mo_seamsOf_44 : decode c_Mo_seamsOf 44 = .ok (.isub, 1) := by decide +kernel
theorem d_Mo_seamsOf_45 : decode c_Mo_seamsOf 45 = .ok (.aload_n 0, 1) := by decide +kernel
theorem d_Mo_seamsOf_46 : decode c_Mo_seamsOf 46 = .ok (.iload_n 1, 1) := by decide +kernel
theorem d_Mo_seamsOf_47 : decode c_Mo_seamsOf 47 = .ok (.iload_n 3, 1) := by decide +kernel
theorem d_Mo_seamsOf_48 : decode c_Mo_seamsOf 48 = .ok (.aload_n 0, 1) := by decide +kernel
theorem d_Mo_seamsOf_49 : decode c_Mo_seamsOf 49 = .ok (.iload_n 1, 1) := by decide +kernel
theorem d_Mo_seamsOf_50 : decode c_Mo_seamsOf 50 = .ok (.bipush 10, 2) := by decide +kernel
theorem d_Mo_seamsOf_52 : decode c_Mo_seamsOf 52 = .ok (.invokevirtual 74, 3) := by decide +kernel
theorem d_Mo_seamsOf_55 : decode c_Mo_seamsOf 55 = .ok (.invokevirtual 97, 3) := by decide +kernel
theorem d_Mo_seamsOf_58 : decode c_Mo_seamsOf 58 = .ok (.imul, 1) := by decide +kernel
theorem d_Mo_seamsOf_59 : decode c_Mo_seamsOf 59 = .ok (.iadd, 1) := by decide +kernel
theorem d_Mo_seamsOf_60 : decode c_Mo_seamsOf 60 = .ok (.istore_n 2, 1) := by decide +kernel
theorem d_Mo_seamsOf_61 : decode c_Mo_seamsOf 61 = .ok (.iinc 3 1, 3) := by decide +kernel
theorem d_Mo_seamsOf_64 : decode c_Mo_seamsOf 64 = .ok (.goto (-60), 3) := by decide +kernel
theorem d_Mo_seamsOf_67 : decode c_Mo_seamsOf 67 = .ok (.iload_n 2, 1) := by decide +kernel
theorem d_Mo_seamsOf_68 : decode c_Mo_seamsOf 68 = .ok (.ireturn, 1) := by decide +kernel
theorem d_Mo_widthOfStrip_0 : decode c_Mo_widthOfStrip 0 = .ok (.aload_n 0, 1) := by decide +kernel
theorem d_Mo_widthOfStrip_1 : decode c_Mo_widthOfStrip 1 = .ok (.iload_n 1, 1) := by decide +kernel
theorem d_Mo_widthOfStrip_2 : decode c_Mo_widthOfStrip 2 = .ok (.iload_n 2, 1) := by decide +kernel
theorem d_Mo_widthOfStrip_3 : decode c_Mo_widthOfStrip 3 = .ok (.invokevirtual 157, 3) := by decide +kernel
theorem d_Mo_widthOfStrip_6 : decode c_Mo_widthOfStrip 6 = .ok (.istore_n 3, 1) := by decide +kernel
theorem d_Mo_widthOfStrip_7 : decode c_Mo_widthOfStrip 7 = .ok (.aload_n 0, 1) := by decide +kernel
theorem d_Mo_widthOfStrip_8 : decode c_Mo_widthOfStrip 8 = .ok (.iload_n 1, 1) := by decide +kernel
theorem d_Mo_widthOfStrip_9 : decode c_Mo_widthOfStrip 9 = .ok (.iload_n 3, 1) := by decide +kernel
theorem d_Mo_widthOfStrip_10 : decode c_Mo_widthOfStrip 10 = .ok (.bipush 100, 2) := by decide +kernel
theorem d_Mo_widthOfStrip_12 : decode c_Mo_widthOfStrip 12 = .ok (.idiv, 1) := by decide +kernel
theorem d_Mo_widthOfStrip_13 : decode c_Mo_widthOfStrip 13 = .ok (.aload_n 0, 1) := by decide +kernel
theorem d_Mo_widthOfStrip_14 : decode c_Mo_widthOfStrip 14 = .ok (.iload_n 1, 1) := by decide +kernel
theorem d_Mo_widthOfStrip_15 : decode c_Mo_widthOfStrip 15 = .ok (.bipush 10, 2) := by decide +kernel
theorem d_Mo_widthOfStrip_17 : decode c_Mo_widthOfStrip 17 = .ok (.invokevirtual 74, 3) := by decide +kernel
theorem d_Mo_widthOfStrip_20 : decode c_Mo_widthOfStrip 20 = .ok (.invokevirtual 93, 3) := by decide +kernel
theorem d_Mo_widthOfStrip_23 : decode c_Mo_widthOfStrip 23 = .ok (.aload_n 0, 1) := by decide +kernel
theorem d_Mo_widthOfStrip_24 : decode c_Mo_widthOfStrip 24 = .ok (.aload_n 0, 1) := by decide +kernel
theorem d_Mo_widthOfStrip_25 : decode c_Mo_widthOfStrip 25 = .ok (.iload_n 1, 1) := by decide +kernel
theorem d_Mo_widthOfStrip_26 : decode c_Mo_widthOfStrip 26 = .ok (.bipush 9, 2) := by decide +kernel
theorem d_Mo_widthOfStrip_28 : decode c_Mo_widthOfStrip 28 = .ok (.invokevirtual 74, 3) := by decide +kernel
theorem d_Mo_widthOfStrip_31 : decode c_Mo_widthOfStrip 31 = .ok (.iconst 1, 1) := by decide +kernel
theorem d_Mo_widthOfStrip_32 : decode c_Mo_widthOfStrip 32 = .ok (.invokevirtual 90, 3) := by decide +kernel
theorem d_Mo_widthOfStrip_35 : decode c_Mo_widthOfStrip 35 = .ok (.iload_n 3, 1) := by decide +kernel
theorem d_Mo_widthOfStrip_36 : decode c_Mo_widthOfStrip 36 = .ok (.bipush 100, 2) := by decide +kernel
theorem d_Mo_widthOfStrip_38 : decode c_Mo_widthOfStrip 38 = .ok (.irem, 1) := by decide +kernel
theorem d_Mo_widthOfStrip_39 : decode c_Mo_widthOfStrip 39 = .ok (.invokestatic 103, 3) := by decide +kernel
theorem d_Mo_widthOfStrip_42 : decode c_Mo_widthOfStrip 42 = .ok (.ireturn, 1) := by decide +kernel
theorem d_Mo_lengthOfStrip_0 : decode c_Mo_lengthOfStrip 0 = .ok (.aload_n 0, 1) := by decide +kernel
theorem d_Mo_lengthOfStrip_1 : decode c_Mo_lengthOfStrip 1 = .ok (.iload_n 1, 1) := by decide +kernel
theorem d_Mo_lengthOfStrip_2 : decode c_Mo_lengthOfStrip 2 = .ok (.aload_n 0, 1) := by decide +kernel
theorem d_Mo_lengthOfStrip_3 : decode c_Mo_lengthOfStrip 3 = .ok (.iload_n 1, 1) := by decide +kernel
theorem d_Mo_lengthOfStrip_4 : decode c_Mo_lengthOfStrip 4 = .ok (.iload_n 2, 1) := by decide +kernel
theorem d_Mo_lengthOfStrip_5 : decode c_Mo_lengthOfStrip 5 = .ok (.invokevirtual 157, 3) := by decide +kernel
theorem d_Mo_lengthOfStrip_8 : decode c_Mo_lengthOfStrip 8 = .ok (.bipush 100, 2) := by decide +kernel
theorem d_Mo_lengthOfStrip_10 : decode c_Mo_lengthOfStrip 10 = .ok (.idiv, 1) := by decide +kernel
theorem d_Mo_lengthOfStrip_11 : decode c_Mo_lengthOfStrip 11 = .ok (.aload_n 0, 1) := by decide +kernel
theorem d_Mo_lengthOfStrip_12 : decode c_Mo_lengthOfStrip 12 = .ok (.iload_n 1, 1) := by decide +kernel
theorem d_Mo_lengthOfStrip_13 : decode c_Mo_lengthOfStrip 13 = .ok (.bipush 10, 2) := by decide +kernel
theorem d_Mo_lengthOfStrip_15 : decode c_Mo_lengthOfStrip 15 = .ok (.invokevirtual 74, 3) := by decide +kernel
theorem d_Mo_lengthOfStrip_18 : decode c_Mo_lengthOfStrip 18 = .ok (.invokevirtual 97, 3) := by decide +kernel
theorem d_Mo_lengthOfStrip_21 : decode c_Mo_lengthOfStrip 21 = .ok (.ireturn, 1) := by decide +kernel
theorem d_Mo_takeUp_0 : decode c_Mo_takeUp 0 = .ok (.aload_n 0, 1) := by decide +kernel
theorem d_Mo_takeUp_1 : decode c_Mo_takeUp 1 = .ok (.iload_n 1, 1) := by decide +kernel
theorem d_Mo_takeUp_2 : decode c_Mo_takeUp 2 = .ok (.invokevirtual 139, 3) := by decide +kernel
theorem d_Mo_takeUp_5 : decode c_Mo_takeUp 5 = .ok (.ifCond .ne 5, 3) := by decide +kernel
theorem d_Mo_takeUp_8 : decode c_Mo_takeUp 8 = .ok (.iconst (-1), 1) := by decide +kernel
theorem d_Mo_takeUp_9 : decode c_Mo_takeUp 9 = .ok (.ireturn, 1) := by decide +kernel
theorem d_Mo_takeUp_10 : decode c_Mo_takeUp 10 = .ok (.aload_n 0, 1) := by decide +kernel
theorem d_Mo_takeUp_11 : decode c_Mo_takeUp 11 = .ok (.iload_n 1, 1) := by decide +kernel
theorem d_Mo_takeUp_12 : decode c_Mo_takeUp 12 = .ok (.bipush 8, 2) := by decide +kernel
theorem d_Mo_takeUp_14 : decode c_Mo_takeUp 14 = .ok (.invokevirtual 74, 3) := by decide +kernel
theorem d_Mo_takeUp_17 : decode c_Mo_takeUp 17 = .ok (.ifCond .ne 6, 3) := by decide +kernel
theorem d_Mo_takeUp_20 : decode c_Mo_takeUp 20 = .ok (.bipush (-5), 2) := by decide +kernel
theorem d_Mo_takeUp_22 : decode c_Mo_takeUp 22 = .ok (.ireturn, 1) := by decide +kernel
theorem d_Mo_takeUp_23 : decode c_Mo_takeUp 23 = .ok (.aload_n 0, 1) := by decide +kernel
theorem d_Mo_takeUp_24 : decode c_Mo_takeUp 24 = .ok (.invokevirtual 126, 3) := by decide +kernel
theorem d_Mo_takeUp_27 : decode c_Mo_takeUp 27 = .ok (.iconst 0, 1) := by decide +kernel
theorem d_Mo_takeUp_28 : decode c_Mo_takeUp 28 = .ok (.istore_n 2, 1) := by decide +kernel
theorem d_Mo_takeUp_29 : decode c_Mo_takeUp 29 = .ok (.aload_n 0, 1) := by decide +kernel
theorem d_Mo_takeUp_30 : decode c_Mo_takeUp 30 = .ok (.iload_n 1, 1) := by decide +kernel
theorem d_Mo_takeUp_31 : decode c_Mo_takeUp 31 = .ok (.invokevirtual 160, 3) := by decide +kernel
theorem d_Mo_takeUp_34 : decode c_Mo_takeUp 34 = .ok (.istore_n 3, 1) := by decide +kernel
theorem d_Mo_takeUp_35 : decode c_Mo_takeUp 35 = .ok (.aload_n 0, 1) := by decide +kernel
theorem d_Mo_takeUp_36 : decode c_Mo_takeUp 36 = .ok (.iload_n 1, 1) := by decide +kernel
theorem d_Mo_takeUp_37 : decode c_Mo_takeUp 37 = .ok (.bipush 9, 2) := by decide +kernel
theorem d_Mo_takeUp_39 : decode c_Mo_takeUp 39 = .ok (.invokevirtual 74, 3) := by decide +kernel
theorem d_Mo_takeUp_42 : decode c_Mo_takeUp 42 = .ok (.istore 4, 2) := by decide +kernel
theorem d_Mo_takeUp_44 : decode c_Mo_takeUp 44 = .ok (.iconst 0, 1) := by decide +kernel
theorem d_Mo_takeUp_45 : decode c_Mo_takeUp 45 = .ok (.istore 5, 2) := by decide +kernel
theorem d_Mo_takeUp_47 : decode c_Mo_takeUp 47 = .ok (.iload 5, 2) := by decide +kernel
theorem d_Mo_takeUp_49 : decode c_Mo_takeUp 49 = .ok (.iload_n 3, 1) := by decide +kernel
theorem d_Mo_takeUp_50 : decode c_Mo_takeUp 50 = .ok (.if_icmp .ge 78, 3) := by decide +kernel
theorem d_Mo_takeUp_53 : decode c_Mo_takeUp 53 = .ok (.aload_n 0, 1) := by decide +kernel
theorem d_Mo_takeUp_54 : decode c_Mo_takeUp 54 = .ok (.invokevirtual 64, 3) := by decide +kernel
theorem d_Mo_takeUp_57 : decode c_Mo_takeUp 57 = .ok (.bipush 60, 2) := by decide +kernel
theorem d_Mo_takeUp_59 : decode c_Mo_takeUp 59 = .ok (.if_icmp .ge 41, 3) := by decide +kernel
theorem d_Mo_takeUp_62 : decode c_Mo_takeUp 62 = .ok (.aload_n 0, 1) := by decide +kernel
theorem d_Mo_takeUp_63 : decode c_Mo_takeUp 63 = .ok (.getfield 7, 3) := by decide +kernel
theorem d_Mo_takeUp_66 : decode c_Mo_takeUp 66 = .ok (.iconst 1, 1) := by decide +kernel
theorem d_Mo_takeUp_67 : decode c_Mo_takeUp 67 = .ok (.iaload, 1) := by decide +kernel
theorem d_Mo_takeUp_68 : decode c_Mo_takeUp 68 = .ok (.sipush 300, 3) := by decide +kernel
theorem d_Mo_takeUp_71 : decode c_Mo_takeUp 71 = .ok (.if_icmp .ge 29, 3) := by decide +kernel
theorem d_Mo_takeUp_74 : decode c_Mo_takeUp 74 = .ok (.aload_n 0, 1) := by decide +kernel
theorem d_Mo_takeUp_75 : decode c_Mo_takeUp 75 = .ok (.iload 4, 2) := by decide +kernel
theorem d_Mo_takeUp_77 : decode c_Mo_takeUp 77 = .ok (.aload_n 0, 1) := by decide +kernel
theorem d_Mo_takeUp_78 : decode c_Mo_takeUp 78 = .ok (.iload_n 1, 1) := by decide +kernel
theorem d_Mo_takeUp_79 : decode c_Mo_takeUp 79 = .ok (.iload 5, 2) := by decide +kernel
theorem d_Mo_takeUp_81 : decode c_Mo_takeUp 81 = .ok (.invokevirtual 163, 3) := by decide +kernel
theorem d_Mo_takeUp_84 : decode c_Mo_takeUp 84 = .ok (.aload_n 0, 1) := by decide +kernel
theorem d_Mo_takeUp_85 : decode c_Mo_takeUp 85 = .ok (.iload_n 1, 1) := by decide +kernel
theorem d_Mo_takeUp_86 : decode c_Mo_takeUp 86 = .ok (.iload 5, 2) := by decide +kernel
theorem d_Mo_takeUp_88 : decode c_Mo_takeUp 88 = .ok (.invokevirtual 166, 3) := by decide +kernel
theorem d_Mo_takeUp_91 : decode c_Mo_takeUp 91 = .ok (.invokevirtual 54, 3) := by decide +kernel
theorem d_Mo_takeUp_94 : decode c_Mo_takeUp 94 = .ok (.iinc 2 1, 3) := by decide +kernel
theorem d_Mo_takeUp_97 : decode c_Mo_takeUp 97 = .ok (.goto 25, 3) := by decide +kernel
theorem d_Mo_takeUp_100 : decode c_Mo_takeUp 100 = .ok (.aload_n 0, 1) := by decide +kernel
theorem d_Mo_takeUp_101 : decode c_Mo_takeUp 101 = .ok (.iload 4, 2) := by decide +kernel
theorem d_Mo_takeUp_103 : decode c_Mo_takeUp 103 = .ok (.iconst 5, 1) := by decide +kernel
theorem d_Mo_takeUp_104 : decode c_Mo_takeUp 104 = .ok (.aload_n 0, 1) := by decide +kernel
theorem d_Mo_takeUp_105 : decode c_Mo_takeUp 105 = .ok (.iload_n 1, 1) := by decide +kernel
theorem d_Mo_takeUp_106 : decode c_Mo_takeUp 106 = .ok (.iload 5, 2) := by decide +kernel
theorem d_Mo_takeUp_108 : decode c_Mo_takeUp 108 = .ok (.invokevirtual 163, 3) := by decide +kernel
theorem d_Mo_takeUp_111 : decode c_Mo_takeUp 111 = .ok (.aload_n 0, 1) := by decide +kernel
theorem d_Mo_takeUp_112 : decode c_Mo_takeUp 112 = .ok (.iload_n 1, 1) := by decide +kernel
theorem d_Mo_takeUp_113 : decode c_Mo_takeUp 113 = .ok (.iload 5, 2) := by decide +kernel
theorem d_Mo_takeUp_115 : decode c_Mo_takeUp 115 = .ok (.invokevirtual 166, 3) := by decide +kernel
theorem d_Mo_takeUp_118 : decode c_Mo_takeUp 118 = .ok (.imul, 1) := by decide +kernel
theorem d_Mo_takeUp_119 : decode c_Mo_takeUp 119 = .ok (.invokevirtual 50, 3) := by decide +kernel
theorem d_Mo_takeUp_122 : decode c_Mo_takeUp 122 = .ok (.iinc 5 1, 3) := by decide +kernel
theorem d_Mo_takeUp_125 : decode c_Mo_takeUp 125 = .ok (.goto (-78), 3) := by decide +kernel
theorem d_Mo_takeUp_128 : decode c_Mo_takeUp 128 = .ok (.aload_n 0, 1) := by decide +kernel
theorem d_Mo_takeUp_129 : decode c_Mo_takeUp 129 = .ok (.iload_n 1, 1) := by decide +kernel
theorem d_Mo_takeUp_130 : decode c_Mo_takeUp 130 = .ok (.bipush 8, 2) := by decide +kernel
theorem d_Mo_takeUp_132 : decode c_Mo_takeUp 132 = .ok (.iconst 0, 1) := by decide +kernel
theorem d_Mo_takeUp_133 : decode c_Mo_takeUp 133 = .ok (.invokevirtual 123, 3) := by decide +kernel
theorem d_Mo_takeUp_136 : decode c_Mo_takeUp 136 = .ok (.iload_n 2, 1) := by decide +kernel
theorem d_Mo_takeUp_137 : decode c_Mo_takeUp 137 = .ok (.ireturn, 1) := by decide +kernel
theorem d_Mo_sell_0 : decode c_Mo_sell 0 = .ok (.aload_n 0, 1) := by decide +kernel
theorem d_Mo_sell_1 : decode c_Mo_sell 1 = .ok (.iload_n 1, 1) := by decide +kernel
theorem d_Mo_sell_2 : decode c_Mo_sell 2 = .ok (.invokevirtual 46, 3) := by decide +kernel
theorem d_Mo_sell_5 : decode c_Mo_sell 5 = .ok (.ifCond .ne 5, 3) := by decide +kernel
theorem d_Mo_sell_8 : decode c_Mo_sell 8 = .ok (.iconst (-1), 1) := by decide +kernel
theorem d_Mo_sell_9 : decode c_Mo_sell 9 = .ok (.ireturn, 1) := by decide +kernel
theorem d_Mo_sell_10 : decode c_Mo_sell 10 = .ok (.aload_n 0, 1) := by decide +kernel
theorem d_Mo_sell_11 : decode c_Mo_sell 11 = .ok (.invokevirtual 126, 3) := by decide +kernel
theorem d_Mo_sell_14 : decode c_Mo_sell 14 = .ok (.aload_n 0, 1) := by decide +kernel
theorem d_Mo_sell_15 : decode c_Mo_sell 15 = .ok (.iload_n 1, 1) := by decide +kernel
theorem d_Mo_sell_16 : decode c_Mo_sell 16 = .ok (.invokevirtual 68, 3) := by decide +kernel
theorem d_Mo_sell_19 : decode c_Mo_sell 19 = .ok (.istore_n 2, 1) := by decide +kernel
theorem d_Mo_sell_20 : decode c_Mo_sell 20 = .ok (.aload_n 0, 1) := by decide +kernel
theorem d_Mo_sell_21 : decode c_Mo_sell 21 = .ok (.iload_n 1, 1) := by decide +kernel
theorem d_Mo_sell_22 : decode c_Mo_sell 22 = .ok (.invokevirtual 71, 3) := by decide +kernel
theorem d_Mo_sell_25 : decode c_Mo_sell 25 = .ok (.aload_n 0, 1) := by decide +kernel
theorem d_Mo_sell_26 : decode c_Mo_sell 26 = .ok (.iload_n 2, 1) := by decide +kernel
theorem d_Mo_sell_27 : decode c_Mo_sell 27 = .ok (.iconst 3, 1) := by decide +kernel
theorem d_Mo_sell_28 : decode c_Mo_sell 28 = .ok (.invokevirtual 90, 3) := by decide +kernel
theorem d_Mo_sell_31 : decode c_Mo_sell 31 = .ok (.imul, 1) := by decide +kernel
theorem d_Mo_sell_32 : decode c_Mo_sell 32 = .ok (.iconst 2, 1) := by decide +kernel
theorem d_Mo_sell_33 : decode c_Mo_sell 33 = .ok (.idiv, 1) := by decide +kernel
theorem d_Mo_sell_34 : decode c_Mo_sell 34 = .ok (.istore_n 3, 1) := by decide +kernel
theorem d_Mo_sell_35 : decode c_Mo_sell 35 = .ok (.aload_n 0, 1) := by decide +kernel
theorem d_Mo_sell_36 : decode c_Mo_sell 36 = .ok (.iload_n 2, 1) := by decide +kernel
theorem d_Mo_sell_37 : decode c_Mo_sell 37 = .ok (.bipush 6, 2) := by decide +kernel
theorem d_Mo_sell_39 : decode c_Mo_sell 39 = .ok (.aload_n 0, 1) := by decide +kernel
theorem d_Mo_sell_40 : decode c_Mo_sell 40 = .ok (.iload_n 1, 1) := by decide +kernel
theorem d_Mo_sell_41 : decode c_Mo_sell 41 = .ok (.invokevirtual 71, 3) := by decide +kernel
theorem d_Mo_sell_44 : decode c_Mo_sell 44 = .ok (.invokevirtual 50, 3) := by decide +kernel
theorem d_Mo_sell_47 : decode c_Mo_sell 47 = .ok (.aload_n 0, 1) := by decide +kernel
theorem d_Mo_sell_48 : decode c_Mo_sell 48 = .ok (.getfield 7, 3) := by decide +kernel
theorem d_Mo_sell_51 : decode c_Mo_sell 51 = .ok (.iconst 3, 1) := by decide +kernel
theorem d_Mo_sell_52 : decode c_Mo_sell 52 = .ok (.dup2, 1) := by decide +kernel
theorem d_Mo_sell_53 : decode c_Mo_sell 53 = .ok (.iaload, 1) := by decide +kernel
theorem d_Mo_sell_54 : decode c_Mo_sell 54 = .ok (.iload_n 3, 1) := by decide +kernel
theorem d_Mo_sell_55 : decode c_Mo_sell 55 = .ok (.iadd, 1) := by decide +kernel
theorem d_Mo_sell_56 : decode c_Mo_sell 56 = .ok (.iastore, 1) := by decide +kernel
theorem d_Mo_sell_57 : decode c_Mo_sell 57 = .ok (.aload_n 0, 1) := by decide +kernel
theorem d_Mo_sell_58 : decode c_Mo_sell 58 = .ok (.iload_n 1, 1) := by decide +kernel
theorem d_Mo_sell_59 : decode c_Mo_sell 59 = .ok (.invokevirtual 109, 3) := by decide +kernel
theorem d_Mo_sell_62 : decode c_Mo_sell 62 = .ok (.iload_n 3, 1) := by decide +kernel
theorem d_Mo_sell_63 : decode c_Mo_sell 63 = .ok (.ireturn, 1) := by decide +kernel
theorem d_Mo_isBelow_0 : decode c_Mo_isBelow 0 = .ok (.aload_n 0, 1) := by decide +kernel
theorem d_Mo_isBelow_1 : decode c_Mo_isBelow 1 = .ok (.iload_n 1, 1) := by decide +kernel
theorem d_Mo_isBelow_2 : decode c_Mo_isBelow 2 = .ok (.invokevirtual 46, 3) := by decide +kernel
theorem d_Mo_isBelow_5 : decode c_Mo_isBelow 5 = .ok (.ifCond .eq 25, 3) := by decide +kernel
theorem d_Mo_isBelow_8 : decode c_Mo_isBelow 8 = .ok (.aload_n 0, 1) := by decide +kernel
theorem d_Mo_isBelow_9 : decode c_Mo_isBelow 9 = .ok (.iload_n 1, 1) := by decide +kernel
theorem d_Mo_isBelow_10 : decode c_Mo_isBelow 10 = .ok (.invokevirtual 68, 3) := by decide +kernel
theorem d_Mo_isBelow_13 : decode c_Mo_isBelow 13 = .ok (.iload_n 2, 1) := by decide +kernel
theorem d_Mo_isBelow_14 : decode c_Mo_isBelow 14 = .ok (.if_icmp .ne 16, 3) := by decide +kernel
theorem d_Mo_isBelow_17 : decode c_Mo_isBelow 17 = .ok (.aload_n 0, 1) := by decide +kernel
theorem d_Mo_isBelow_18 : decode c_Mo_isBelow 18 = .ok (.iload_n 1, 1) := by decide +kernel
theorem d_Mo_isBelow_19 : decode c_Mo_isBelow 19 = .ok (.invokevirtual 71, 3) := by decide +kernel
theorem d_Mo_isBelow_22 : decode c_Mo_isBelow 22 = .ok (.iload_n 3, 1) := by decide +kernel
theorem d_Mo_isBelow_23 : decode c_Mo_isBelow 23 = .ok (.if_icmp .ge 7, 3) := by decide +kernel
theorem d_Mo_isBelow_26 : decode c_Mo_isBelow 26 = .ok (.iconst 1, 1) := by decide +kernel
theorem d_Mo_isBelow_27 : decode c_Mo_isBelow 27 = .ok (.goto 4, 3) := by decide +kernel
theorem d_Mo_isBelow_30 : decode c_Mo_isBelow 30 = .ok (.iconst 0, 1) := by decide +kernel
theorem d_Mo_isBelow_31 : decode c_Mo_isBelow 31 = .ok (.ireturn, 1) := by decide +kernel
theorem d_Mo_clear_0 : decode c_Mo_clear 0 = .ok (.aload_n 0, 1) := by decide +kernel
theorem d_Mo_clear_1 : decode c_Mo_clear 1 = .ok (.iload_n 1, 1) := by decide +kernel
theorem d_Mo_clear_2 : decode c_Mo_clear 2 = .ok (.invokevirtual 142, 3) := by decide +kernel
theorem d_Mo_clear_5 : decode c_Mo_clear 5 = .ok (.ifCond .ne 5, 3) := by decide +kernel
theorem d_Mo_clear_8 : decode c_Mo_clear 8 = .ok (.iconst (-1), 1) := by decide +kernel
theorem d_Mo_clear_9 : decode c_Mo_clear 9 = .ok (.ireturn, 1) := by decide +kernel
theorem d_Mo_clear_10 : decode c_Mo_clear 10 = .ok (.iload_n 2, 1) := by decide +kernel
theorem d_Mo_clear_11 : decode c_Mo_clear 11 = .ok (.iconst 1, 1) := by decide +kernel
theorem d_Mo_clear_12 : decode c_Mo_clear 12 = .ok (.sipush 9999, 3) := by decide +kernel
theorem d_Mo_clear_15 : decode c_Mo_clear 15 = .ok (.invokestatic 35, 3) := by decide +kernel
theorem d_Mo_clear_18 : decode c_Mo_clear 18 = .ok (.ifCond .ne 6, 3) := by decide +kernel
theorem d_Mo_clear_21 : decode c_Mo_clear 21 = .ok (.bipush (-2), 2) := by decide +kernel
theorem d_Mo_clear_23 : decode c_Mo_clear 23 = .ok (.ireturn, 1) := by decide +kernel
theorem d_Mo_clear_24 : decode c_Mo_clear 24 = .ok (.iconst 0, 1) := by decide +kernel
theorem d_Mo_clear_25 : decode c_Mo_clear 25 = .ok (.istore_n 3, 1) := by decide +kernel
theorem d_Mo_clear_26 : decode c_Mo_clear 26 = .ok (.iconst 0, 1) := by decide +kernel
theorem d_Mo_clear_27 : decode c_Mo_clear 27 = .ok (.istore 4, 2) := by decide +kernel
theorem d_Mo_clear_29 : decode c_Mo_clear 29 = .ok (.iload 4, 2) := by decide +kernel
theorem d_Mo_clear_31 : decode c_Mo_clear 31 = .ok (.aload_n 0, 1) := by decide +kernel
theorem d_Mo_clear_32 : decode c_Mo_clear 32 = .ok (.getfield 7, 3) := by decide +kernel
theorem d_Mo_clear_35 : decode c_Mo_clear 35 = .ok (.iconst 1, 1) := by decide +kernel
theorem d_Mo_clear_36 : decode c_Mo_clear 36 = .ok (.iaload, 1) := by decide +kernel
theorem d_Mo_clear_37 : decode c_Mo_clear 37 = .ok (.if_icmp .ge 28, 3) := by decide +kernel
theorem d_Mo_clear_40 : decode c_Mo_clear 40 = .ok (.iload_n 3, 1) := by decide +kernel
theorem d_Mo_clear_41 : decode c_Mo_clear 41 = .ok (.aload_n 0, 1) := by decide +kernel
theorem d_Mo_clear_42 : decode c_Mo_clear 42 = .ok (.iload 4, 2) := by decide +kernel
theorem d_Mo_clear_44 : decode c_Mo_clear 44 = .ok (.iload_n 1, 1) := by decide +kernel
theorem d_Mo_clear_45 : decode c_Mo_clear 45 = .ok (.iload_n 2, 1) := by decide +kernel
theorem d_Mo_clear_46 : decode c_Mo_clear 46 = .ok (.invokevirtual 169, 3) := by decide +kernel
theorem d_Mo_clear_49 : decode c_Mo_clear 49 = .ok (.ifCond .eq 7, 3) := by decide +kernel
theorem d_Mo_clear_52 : decode c_Mo_clear 52 = .ok (.iconst 1, 1) := by decide +kernel
theorem d_Mo_clear_53 : decode c_Mo_clear 53 = .ok (.goto 4, 3) := by decide +kernel
theorem d_Mo_clear_56 : decode c_Mo_clear 56 = .ok (.iconst 0, 1) := by decide +kernel
theorem d_Mo_clear_57 : decode c_Mo_clear 57 = .ok (.iadd, 1) := by decide +kernel
theorem d_Mo_clear_58 : decode c_Mo_clear 58 = .ok (.istore_n 3, 1) := by decide +kernel
theorem d_Mo_clear_59 : decode c_Mo_clear 59 = .ok (.iinc 4 1, 3) := by decide +kernel
theorem d_Mo_clear_62 : decode c_Mo_clear 62 = .ok (.goto (-33), 3) := by decide +kernel
theorem d_Mo_clear_65 : decode c_Mo_clear 65 = .ok (.iload_n 3, 1) := by decide +kernel
theorem d_Mo_clear_66 : decode c_Mo_clear 66 = .ok (.ifCond .ne 6, 3) := by decide +kernel
theorem d_Mo_clear_69 : decode c_Mo_clear 69 = .ok (.bipush (-5), 2) := by decide +kernel
theorem d_Mo_clear_71 : decode c_Mo_clear 71 = .ok (.ireturn, 1) := by decide +kernel
theorem d_Mo_clear_72 : decode c_Mo_clear 72 = .ok (.aload_n 0, 1) := by decide +kernel
theorem d_Mo_clear_73 : decode c_Mo_clear 73 = .ok (.invokevirtual 126, 3) := by decide +kernel
theorem d_Mo_clear_76 : decode c_Mo_clear 76 = .ok (.iconst 0, 1) := by decide +kernel
theorem d_Mo_clear_77 : decode c_Mo_clear 77 = .ok (.istore 4, 2) := by decide +kernel
theorem d_Mo_clear_79 : decode c_Mo_clear 79 = .ok (.iload 4, 2) := by decide +kernel
theorem d_Mo_clear_81 : decode c_Mo_clear 81 = .ok (.aload_n 0, 1) := by decide +kernel
theorem d_Mo_clear_82 : decode c_Mo_clear 82 = .ok (.getfield 7, 3) := by decide +kernel
theorem d_Mo_clear_85 : decode c_Mo_clear 85 = .ok (.iconst 1, 1) := by decide +kernel
theorem d_Mo_clear_86 : decode c_Mo_clear 86 = .ok (.iaload, 1) := by decide +kernel
theorem d_Mo_clear_87 : decode c_Mo_clear 87 = .ok (.if_icmp .ge 38, 3) := by decide +kernel
theorem d_Mo_clear_90 : decode c_Mo_clear 90 = .ok (.aload_n 0, 1) := by decide +kernel
theorem d_Mo_clear_91 : decode c_Mo_clear 91 = .ok (.iload 4, 2) := by decide +kernel
theorem d_Mo_clear_93 : decode c_Mo_clear 93 = .ok (.iload_n 1, 1) := by decide +kernel
theorem d_Mo_clear_94 : decode c_Mo_clear 94 = .ok (.iload_n 2, 1) := by decide +kernel
theorem d_Mo_clear_95 : decode c_Mo_clear 95 = .ok (.invokevirtual 169, 3) := by decide +kernel
theorem d_Mo_clear_98 : decode c_Mo_clear 98 = .ok (.ifCond .eq 21, 3) := by decide +kernel
theorem d_Mo_clear_101 : decode c_Mo_clear 101 = .ok (.aload_n 0, 1) := by decide +kernel
theorem d_Mo_clear_102 : decode c_Mo_clear 102 = .ok (.iload_n 1, 1) := by decide +kernel
theorem d_Mo_clear_103 : decode c_Mo_clear 103 = .ok (.iconst 5, 1) := by decide +kernel
theorem d_Mo_clear_104 : decode c_Mo_clear 104 = .ok (.aload_n 0, 1) := by decide +kernel
theorem d_Mo_clear_105 : decode c_Mo_clear 105 = .ok (.iload 4, 2) := by decide +kernel
theorem d_Mo_clear_107 : decode c_Mo_clear 107 = .ok (.invokevirtual 71, 3) := by decide +kernel
theorem d_Mo_clear_110 : decode c_Mo_clear 110 = .ok (.invokevirtual 50, 3) := by decide +kernel
theorem d_Mo_clear_113 : decode c_Mo_clear 113 = .ok (.aload_n 0, 1) := by decide +kernel
theorem d_Mo_clear_114 : decode c_Mo_clear 114 = .ok (.iload 4, 2) := by decide +kernel
theorem d_Mo_clear_116 : decode c_Mo_clear 116 = .ok (.invokevirtual 109, 3) := by decide +kernel
theorem d_Mo_clear_119 : decode c_Mo_clear 119 = .ok (.iinc 4 1, 3) := by decide +kernel
theorem d_Mo_clear_122 : decode c_Mo_clear 122 = .ok (.goto (-43), 3) := by decide +kernel
theorem d_Mo_clear_125 : decode c_Mo_clear 125 = .ok (.iload_n 3, 1) := by decide +kernel
theorem d_Mo_clear_126 : decode c_Mo_clear 126 = .ok (.ireturn, 1) := by decide +kernel
theorem d_Mo_most_0 : decode c_Mo_most 0 = .ok (.iload_n 0, 1) := by decide +kernel
theorem d_Mo_most_1 : decode c_Mo_most 1 = .ok (.ifCond .ne 7, 3) := by decide +kernel
theorem d_Mo_most_4 : decode c_Mo_most 4 = .ok (.iconst 2, 1) := by decide +kernel
theorem d_Mo_most_5 : decode c_Mo_most 5 = .ok (.goto 34, 3) := by decide +kernel
theorem d_Mo_most_8 : decode c_Mo_most 8 = .ok (.iload_n 0, 1) := by decide +kernel
theorem d_Mo_most_9 : decode c_Mo_most 9 = .ok (.iconst 1, 1) := by decide +kernel
theorem d_Mo_most_10 : decode c_Mo_most 10 = .ok (.if_icmp .ne 8, 3) := by decide +kernel
theorem d_Mo_most_13 : decode c_Mo_most 13 = .ok (.bipush 20, 2) := by decide +kernel
theorem d_Mo_most_15 : decode c_Mo_most 15 = .ok (.goto 24, 3) := by decide +kernel
theorem d_Mo_most_18 : decode c_Mo_most 18 = .ok (.iload_n 0, 1) := by decide +kernel
theorem d_Mo_most_19 : decode c_Mo_most 19 = .ok (.iconst 2, 1) := by decide +kernel
theorem d_Mo_most_20 : decode c_Mo_most 20 = .ok (.if_icmp .ne 8, 3) := by decide +kernel
theorem d_Mo_most_23 : decode c_Mo_most 23 = .ok (.bipush 99, 2) := by decide +kernel
theorem d_Mo_most_25 : decode c_Mo_most 25 = .ok (.goto 14, 3) := by decide +kernel
theorem d_Mo_most_28 : decode c_Mo_most 28 = .ok (.iload_n 0, 1) := by decide +kernel
theorem d_Mo_most_29 : decode c_Mo_most 29 = .ok (.iconst 3, 1) := by decide +kernel
theorem d_Mo_most_30 : decode c_Mo_most 30 = .ok (.if_icmp .ne 8, 3) := by decide +kernel
theorem d_Mo_most_33 : decode c_Mo_most 33 = .ok (.bipush 9, 2) := by decide +kernel
theorem d_Mo_most_35 : decode c_Mo_most 35 = .ok (.goto 4, 3) := by decide +kernel
theorem d_Mo_most_38 : decode c_Mo_most 38 = .ok (.iconst 1, 1) := by decide +kernel
theorem d_Mo_most_39 : decode c_Mo_most 39 = .ok (.ireturn, 1) := by decide +kernel
theorem d_Mo_set_0 : decode c_Mo_set 0 = .ok (.iload_n 1, 1) := by decide +kernel
theorem d_Mo_set_1 : decode c_Mo_set 1 = .ok (.iconst 0, 1) := by decide +kernel
theorem d_Mo_set_2 : decode c_Mo_set 2 = .ok (.iconst 4, 1) := by decide +kernel
theorem d_Mo_set_3 : decode c_Mo_set 3 = .ok (.invokestatic 35, 3) := by decide +kernel
theorem d_Mo_set_6 : decode c_Mo_set 6 = .ok (.ifCond .eq 29, 3) := by decide +kernel
theorem d_Mo_set_9 : decode c_Mo_set 9 = .ok (.iload_n 2, 1) := by decide +kernel
theorem d_Mo_set_10 : decode c_Mo_set 10 = .ok (.iload_n 1, 1) := by decide +kernel
theorem d_Mo_set_11 : decode c_Mo_set 11 = .ok (.iconst 1, 1) := by decide +kernel
theorem d_Mo_set_12 : decode c_Mo_set 12 = .ok (.if_icmp .eq 8, 3) := by decide +kernel
theorem d_Mo_set_15 : decode c_Mo_set 15 = .ok (.iload_n 1, 1) := by decide +kernel
theorem d_Mo_set_16 : decode c_Mo_set 16 = .ok (.iconst 3, 1) := by decide +kernel
theorem d_Mo_set_17 : decode c_Mo_set 17 = .ok (.if_icmp .ne 7, 3) := by decide +kernel
theorem d_Mo_set_20 : decode c_Mo_set 20 = .ok (.iconst 1, 1) := by decide +kernel
theorem d_Mo_set_21 : decode c_Mo_set 21 = .ok (.goto 4, 3) := by decide +kernel
theorem d_Mo_set_24 : decode c_Mo_set 24 = .ok (.iconst 0, 1) := by decide +kernel
theorem d_Mo_set_25 : decode c_Mo_set 25 = .ok (.iload_n 1, 1) := by decide +kernel
theorem d_Mo_set_26 : decode c_Mo_set 26 = .ok (.invokestatic 172, 3) := by decide +kernel
theorem d_Mo_set_29 : decode c_Mo_set 29 = .ok (.invokestatic 35, 3) := by decide +kernel
theorem d_Mo_set_32 : decode c_Mo_set 32 = .ok (.ifCond .ne 6, 3) := by decide +kernel
theorem d_Mo_set_35 : decode c_Mo_set 35 = .ok (.bipush (-2), 2) := by decide +kernel
theorem d_Mo_set_37 : decode c_Mo_set 37 = .ok (.ireturn, 1) := by decide +kernel
theorem d_Mo_set_38 : decode c_Mo_set 38 = .ok (.aload_n 0, 1) := by decide +kernel
theorem d_Mo_set_39 : decode c_Mo_set 39 = .ok (.getfield 7, 3) := by decide +kernel
theorem d_Mo_set_42 : decode c_Mo_set 42 = .ok (.iconst 4, 1) := by decide +kernel
theorem d_Mo_set_43 : decode c_Mo_set 43 = .ok (.iload_n 1, 1) := by decide +kernel
theorem d_Mo_set_44 : decode c_Mo_set 44 = .ok (.iadd, 1) := by decide +kernel
theorem d_Mo_set_45 : decode c_Mo_set 45 = .ok (.iaload, 1) := by decide +kernel
theorem d_Mo_set_46 : decode c_Mo_set 46 = .ok (.istore_n 3, 1) := by decide +kernel
theorem d_Mo_set_47 : decode c_Mo_set 47 = .ok (.iload_n 3, 1) := by decide +kernel
theorem d_Mo_set_48 : decode c_Mo_set 48 = .ok (.iload_n 2, 1) := by decide +kernel
theorem d_Mo_set_49 : decode c_Mo_set 49 = .ok (.if_icmp .ne 6, 3) := by decide +kernel
theorem d_Mo_set_52 : decode c_Mo_set 52 = .ok (.bipush (-5), 2) := by decide +kernel
theorem d_Mo_set_54 : decode c_Mo_set 54 = .ok (.ireturn, 1) := by decide +kernel
theorem d_Mo_set_55 : decode c_Mo_set 55 = .ok (.aload_n 0, 1) := by decide +kernel
theorem d_Mo_set_56 : decode c_Mo_set 56 = .ok (.invokevirtual 126, 3) := by decide +kernel
theorem d_Mo_set_59 : decode c_Mo_set 59 = .ok (.aload_n 0, 1) := by decide +kernel
theorem d_Mo_set_60 : decode c_Mo_set 60 = .ok (.getfield 7, 3) := by decide +kernel
theorem d_Mo_set_63 : decode c_Mo_set 63 = .ok (.iconst 4, 1) := by decide +kernel
theorem d_Mo_set_64 : decode c_Mo_set 64 = .ok (.iload_n 1, 1) := by decide +kernel
theorem d_Mo_set_65 : decode c_Mo_set 65 = .ok (.iadd, 1) := by decide +kernel
theorem d_Mo_set_66 : decode c_Mo_set 66 = .ok (.iload_n 2, 1) := by decide +kernel
theorem d_Mo_set_67 : decode c_Mo_set 67 = .ok (.iastore, 1) := by decide +kernel
theorem d_Mo_set_68 : decode c_Mo_set 68 = .ok (.iload_n 3, 1) := by decide +kernel
theorem d_Mo_set_69 : decode c_Mo_set 69 = .ok (.ireturn, 1) := by decide +kernel
theorem d_Mo_type_0 : decode c_Mo_type 0 = .ok (.aload_n 0, 1) := by decide +kernel
theorem d_Mo_type_1 : decode c_Mo_type 1 = .ok (.getfield 175, 3) := by decide +kernel
theorem d_Mo_type_4 : decode c_Mo_type 4 = .ok (.bipush 60, 2) := by decide +kernel
theorem d_Mo_type_6 : decode c_Mo_type 6 = .ok (.if_icmp .ne 6, 3) := by decide +kernel
theorem d_Mo_type_9 : decode c_Mo_type 9 = .ok (.bipush (-3), 2) := by decide +kernel
theorem d_Mo_type_11 : decode c_Mo_type 11 = .ok (.ireturn, 1) := by decide +kernel
theorem d_Mo_type_12 : decode c_Mo_type 12 = .ok (.aload_n 0, 1) := by decide +kernel
theorem d_Mo_type_13 : decode c_Mo_type 13 = .ok (.getfield 25, 3) := by decide +kernel
theorem d_Mo_type_16 : decode c_Mo_type 16 = .ok (.aload_n 0, 1) := by decide +kernel
theorem d_Mo_type_17 : decode c_Mo_type 17 = .ok (.getfield 175, 3) := by decide +kernel
theorem d_Mo_type_20 : decode c_Mo_type 20 = .ok (.iload_n 1, 1) := by decide +kernel
theorem d_Mo_type_21 : decode c_Mo_type 21 = .ok (.iastore, 1) := by decide +kernel
theorem d_Mo_type_22 : decode c_Mo_type 22 = .ok (.aload_n 0, 1) := by decide +kernel
theorem d_Mo_type_23 : decode c_Mo_type 23 = .ok (.dup, 1) := by decide +kernel
theorem d_Mo_type_24 : decode c_Mo_type 24 = .ok (.getfield 175, 3) := by decide +kernel
theorem d_Mo_type_27 : decode c_Mo_type 27 = .ok (.iconst 1, 1) := by decide +kernel
theorem d_Mo_type_28 : decode c_Mo_type 28 = .ok (.iadd, 1) := by decide +kernel
theorem d_Mo_type_29 : decode c_Mo_type 29 = .ok (.putfield 175, 3) := by decide +kernel
theorem d_Mo_type_32 : decode c_Mo_type 32 = .ok (.aload_n 0, 1) := by decide +kernel
theorem d_Mo_type_33 : decode c_Mo_type 33 = .ok (.getfield 175, 3) := by decide +kernel
theorem d_Mo_type_36 : decode c_Mo_type 36 = .ok (.ireturn, 1) := by decide +kernel
theorem d_Mo_clearText_0 : decode c_Mo_clearText 0 = .ok (.aload_n 0, 1) := by decide +kernel
theorem d_Mo_clearText_1 : decode c_Mo_clearText 1 = .ok (.getfield 175, 3) := by decide +kernel
theorem d_Mo_clearText_4 : decode c_Mo_clearText 4 = .ok (.istore_n 1, 1) := by decide +kernel
theorem d_Mo_clearText_5 : decode c_Mo_clearText 5 = .ok (.aload_n 0, 1) := by decide +kernel
theorem d_Mo_clearText_6 : decode c_Mo_clearText 6 = .ok (.iconst 0, 1) := by decide +kernel
theorem d_Mo_clearText_7 : decode c_Mo_clearText 7 = .ok (.putfield 175, 3) := by decide +kernel
theorem d_Mo_clearText_10 : decode c_Mo_clearText 10 = .ok (.iload_n 1, 1) := by decide +kernel
theorem d_Mo_clearText_11 : decode c_Mo_clearText 11 = .ok (.ireturn, 1) := by decide +kernel
theorem d_Mo_isNext_0 : decode c_Mo_isNext 0 = .ok (.aload_n 0, 1) := by decide +kernel
theorem d_Mo_isNext_1 : decode c_Mo_isNext 1 = .ok (.getfield 132, 3) := by decide +kernel
theorem d_Mo_isNext_4 : decode c_Mo_isNext 4 = .ok (.aload_n 0, 1) := by decide +kernel
theorem d_Mo_isNext_5 : decode c_Mo_isNext 5 = .ok (.getfield 175, 3) := by decide +kernel
theorem d_Mo_isNext_8 : decode c_Mo_isNext 8 = .ok (.if_icmp .ge 24, 3) := by decide +kernel
theorem d_Mo_isNext_11 : decode c_Mo_isNext 11 = .ok (.aload_n 0, 1) := by decide +kernel
theorem d_Mo_isNext_12 : decode c_Mo_isNext 12 = .ok (.getfield 25, 3) := by decide +kernel
theorem d_Mo_isNext_15 : decode c_Mo_isNext 15 = .ok (.aload_n 0, 1) := by decide +kernel
theorem d_Mo_isNext_16 : decode c_Mo_isNext 16 = .ok (.getfield 132, 3) := by decide +kernel
theorem d_Mo_isNext_19 : decode c_Mo_isNext 19 = .ok (.iaload, 1) := by decide +kernel
theorem d_Mo_isNext_20 : decode c_Mo_isNext 20 = .ok (.iload_n 1, 1) := by decide +kernel
theorem d_Mo_isNext_21 : decode c_Mo_isNext 21 = .ok (.iload_n 2, 1) := by decide +kernel
theorem d_Mo_isNext_22 : decode c_Mo_isNext 22 = .ok (.invokestatic 35, 3) := by decide +kernel
theorem d_Mo_isNext_25 : decode c_Mo_isNext 25 = .ok (.ifCond .eq 7, 3) := by decide +kernel
theorem d_Mo_isNext_28 : decode c_Mo_isNext 28 = .ok (.iconst 1, 1) := by decide +kernel
theorem d_Mo_isNext_29 : decode c_Mo_isNext 29 = .ok (.goto 4, 3) := by decide +kernel
theorem d_Mo_isNext_32 : decode c_Mo_isNext 32 = .ok (.iconst 0, 1) := by decide +kernel
theorem d_Mo_isNext_33 : decode c_Mo_isNext 33 = .ok (.ireturn, 1) := by decide +kernel
theorem d_Mo_sign_0 : decode c_Mo_sign 0 = .ok (.aload_n 0, 1) := by decide +kernel
theorem d_Mo_sign_1 : decode c_Mo_sign 1 = .ok (.iload_n 1, 1) := by decide +kernel
theorem d_Mo_sign_2 : decode c_Mo_sign 2 = .ok (.iload_n 1, 1) := by decide +kernel
theorem d_Mo_sign_3 : decode c_Mo_sign 3 = .ok (.invokevirtual 178, 3) := by decide +kernel
theorem d_Mo_sign_6 : decode c_Mo_sign 6 = .ok (.istore_n 2, 1) := by decide +kernel
theorem d_Mo_sign_7 : decode c_Mo_sign 7 = .ok (.aload_n 0, 1) := by decide +kernel
theorem d_Mo_sign_8 : decode c_Mo_sign 8 = .ok (.dup, 1) := by decide +kernel
theorem d_Mo_sign_9 : decode c_Mo_sign 9 = .ok (.getfield 132, 3) := by decide +kernel
theorem d_Mo_sign_12 : decode c_Mo_sign 12 = .ok (.iload_n 2, 1) := by decide +kernel
theorem d_Mo_sign_13 : decode c_Mo_sign 13 = .ok (.ifCond .eq 7, 3) := by decide +kernel
theorem d_Mo_sign_16 : decode c_Mo_sign 16 = .ok (.iconst 1, 1) := by decide +kernel
theorem d_Mo_sign_17 : decode c_Mo_sign 17 = .ok (.goto 4, 3) := by decide +kernel
theorem d_Mo_sign_20 : decode c_Mo_sign 20 = .ok (.iconst 0, 1) := by decide +kernel
theorem d_Mo_sign_21 : decode c_Mo_sign 21 = .ok (.iadd, 1) := by decide +kernel
theorem d_Mo_sign_22 : decode c_Mo_sign 22 = .ok (.putfield 132, 3) := by decide +kernel
theorem d_Mo_sign_25 : decode c_Mo_sign 25 = .ok (.iload_n 2, 1) := by decide +kernel
theorem d_Mo_sign_26 : decode c_Mo_sign 26 = .ok (.ireturn, 1) := by decide +kernel
theorem d_Mo_size_0 : decode c_Mo_size 0 = .ok (.aload_n 0, 1) := by decide +kernel
theorem d_Mo_size_1 : decode c_Mo_size 1 = .ok (.bipush 49, 2) := by decide +kernel
theorem d_Mo_size_3 : decode c_Mo_size 3 = .ok (.bipush 57, 2) := by decide +kernel
theorem d_Mo_size_5 : decode c_Mo_size 5 = .ok (.invokevirtual 178, 3) := by decide +kernel
theorem d_Mo_size_8 : decode c_Mo_size 8 = .ok (.ifCond .ne 5, 3) := by decide +kernel
theorem d_Mo_size_11 : decode c_Mo_size 11 = .ok (.iconst 0, 1) := by decide +kernel
theorem d_Mo_size_12 : decode c_Mo_size 12 = .ok (.ireturn, 1) := by decide +kernel
theorem d_Mo_size_13 : decode c_Mo_size 13 = .ok (.aload_n 0, 1) := by decide +kernel
theorem d_Mo_size_14 : decode c_Mo_size 14 = .ok (.getfield 25, 3) := by decide +kernel
theorem d_Mo_size_17 : decode c_Mo_size 17 = .ok (.aload_n 0, 1) := by decide +kernel
theorem d_Mo_size_18 : decode c_Mo_size 18 = .ok (.getfield 132, 3) := by decide +kernel
theorem d_Mo_size_21 : decode c_Mo_size 21 = .ok (.iaload, 1) := by decide +kernel
theorem d_Mo_size_22 : decode c_Mo_size 22 = .ok (.bipush 48, 2) := by decide +kernel
theorem d_Mo_size_24 : decode c_Mo_size 24 = .ok (.isub, 1) := by decide +kernel
theorem d_Mo_size_25 : decode c_Mo_size 25 = .ok (.istore_n 2, 1) := by decide +kernel
theorem d_Mo_size_26 : decode c_Mo_size 26 = .ok (.aload_n 0, 1) := by decide +kernel
theorem d_Mo_size_27 : decode c_Mo_size 27 = .ok (.dup, 1) := by decide +kernel
theorem d_Mo_size_28 : decode c_Mo_size 28 = .ok (.getfield 132, 3) := by decide +kernel
theorem d_Mo_size_31 : decode c_Mo_size 31 = .ok (.iconst 1, 1) := by decide +kernel
theorem d_Mo_size_32 : decode c_Mo_size 32 = .ok (.iadd, 1) := by decide +kernel
theorem d_Mo_size_33 : decode c_Mo_size 33 = .ok (.putfield 132, 3) := by decide +kernel
theorem d_Mo_size_36 : decode c_Mo_size 36 = .ok (.aload_n 0, 1) := by decide +kernel
theorem d_Mo_size_37 : decode c_Mo_size 37 = .ok (.bipush 48, 2) := by decide +kernel
theorem d_Mo_size_39 : decode c_Mo_size 39 = .ok (.bipush 57, 2) := by decide +kernel
theorem d_Mo_size_41 : decode c_Mo_size 41 = .ok (.invokevirtual 178, 3) := by decide +kernel
theorem d_Mo_size_44 : decode c_Mo_size 44 = .ok (.ifCond .eq 56, 3) := by decide +kernel
theorem d_Mo_size_47 : decode c_Mo_size 47 = .ok (.bipush 10, 2) := by decide +kernel
theorem d_Mo_size_49 : decode c_Mo_size 49 = .ok (.iload_n 2, 1) := by decide +kernel
theorem d_Mo_size_50 : decode c_Mo_size 50 = .ok (.imul, 1) := by decide +kernel
theorem d_Mo_size_51 : decode c_Mo_size 51 = .ok (.aload_n 0, 1) := by decide +kernel
theorem d_Mo_size_52 : decode c_Mo_size 52 = .ok (.getfield 25, 3) := by decide +kernel
theorem d_Mo_size_55 : decode c_Mo_size 55 = .ok (.aload_n 0, 1) := by decide +kernel
theorem d_Mo_size_56 : decode c_Mo_size 56 = .ok (.getfield 132, 3) := by decide +kernel
theorem d_Mo_size_59 : decode c_Mo_size 59 = .ok (.iaload, 1) := by decide +kernel
theorem d_Mo_size_60 : decode c_Mo_size 60 = .ok (.iadd, 1) := by decide +kernel
theorem d_Mo_size_61 : decode c_Mo_size 61 = .ok (.bipush 48, 2) := by decide +kernel
theorem d_Mo_size_63 : decode c_Mo_size 63 = .ok (.isub, 1) := by decide +kernel
theorem d_Mo_size_64 : decode c_Mo_size 64 = .ok (.bipush 60, 2) := by decide +kernel
theorem d_Mo_size_66 : decode c_Mo_size 66 = .ok (.if_icmp .gt 34, 3) := by decide +kernel
theorem d_Mo_size_69 : decode c_Mo_size 69 = .ok (.bipush 10, 2) := by decide +kernel
theorem d_Mo_size_71 : decode c_Mo_size 71 = .ok (.iload_n 2, 1) := by decide +kernel
theorem d_Mo_size_72 : decode c_Mo_size 72 = .ok (.imul, 1) := by decide +kernel
theorem d_Mo_size_73 : decode c_Mo_size 73 = .ok (.aload_n 0, 1) := by decide +kernel
theorem d_Mo_size_74 : decode c_Mo_size 74 = .ok (.getfield 25, 3) := by decide +kernel
theorem d_Mo_size_77 : decode c_Mo_size 77 = .ok (.aload_n 0, 1) := by decide +kernel
theorem d_Mo_size_78 : decode c_Mo_size 78 = .ok (.getfield 132, 3) := by decide +kernel
theorem d_Mo_size_81 : decode c_Mo_size 81 = .ok (.iaload, 1) := by decide +kernel
theorem d_Mo_size_82 : decode c_Mo_size 82 = .ok (.iadd, 1) := by decide +kernel
theorem d_Mo_size_83 : decode c_Mo_size 83 = .ok (.bipush 48, 2) := by decide +kernel
theorem d_Mo_size_85 : decode c_Mo_size 85 = .ok (.isub, 1) := by decide +kernel
theorem d_Mo_size_86 : decode c_Mo_size 86 = .ok (.istore_n 2, 1) := by decide +kernel
theorem d_Mo_size_87 : decode c_Mo_size 87 = .ok (.aload_n 0, 1) := by decide +kernel
theorem d_Mo_size_88 : decode c_Mo_size 88 = .ok (.dup, 1) := by decide +kernel
theorem d_Mo_size_89 : decode c_Mo_size 89 = .ok (.getfield 132, 3) := by decide +kernel
theorem d_Mo_size_92 : decode c_Mo_size 92 = .ok (.iconst 1, 1) := by decide +kernel
theorem d_Mo_size_93 : decode c_Mo_size 93 = .ok (.iadd, 1) := by decide +kernel
theorem d_Mo_size_94 : decode c_Mo_size 94 = .ok (.putfield 132, 3) := by decide +kernel
theorem d_Mo_size_97 : decode c_Mo_size 97 = .ok (.goto (-61), 3) := by decide +kernel
theorem d_Mo_size_100 : decode c_Mo_size 100 = .ok (.aload_n 0, 1) := by decide +kernel
theorem d_Mo_size_101 : decode c_Mo_size 101 = .ok (.getfield 28, 3) := by decide +kernel
theorem d_Mo_size_104 : decode c_Mo_size 104 = .ok (.iload_n 1, 1) := by decide +kernel
theorem d_Mo_size_105 : decode c_Mo_size 105 = .ok (.iload_n 2, 1) := by decide +kernel
theorem d_Mo_size_106 : decode c_Mo_size 106 = .ok (.iastore, 1) := by decide +kernel
theorem d_Mo_size_107 : decode c_Mo_size 107 = .ok (.iconst 1, 1) := by decide +kernel
theorem d_Mo_size_108 : decode c_Mo_size 108 = .ok (.ireturn, 1) := by decide +kernel
theorem d_Mo_readRoom_0 : decode c_Mo_readRoom 0 = .ok (.iconst 1, 1) := by decide +kernel
theorem d_Mo_readRoom_1 : decode c_Mo_readRoom 1 = .ok (.istore_n 1, 1) := by decide +kernel
theorem d_Mo_readRoom_2 : decode c_Mo_readRoom 2 = .ok (.iload_n 1, 1) := by decide +kernel
theorem d_Mo_readRoom_3 : decode c_Mo_readRoom 3 = .ok (.bipush 7, 2) := by decide +kernel
theorem d_Mo_readRoom_5 : decode c_Mo_readRoom 5 = .ok (.if_icmp .ge 16, 3) := by decide +kernel
theorem d_Mo_readRoom_8 : decode c_Mo_readRoom 8 = .ok (.aload_n 0, 1) := by decide +kernel
theorem d_Mo_readRoom_9 : decode c_Mo_readRoom 9 = .ok (.getfield 28, 3) := by decide +kernel
theorem d_Mo_readRoom_12 : decode c_Mo_readRoom 12 = .ok (.iload_n 1, 1) := by decide +kernel
theorem d_Mo_readRoom_13 : decode c_Mo_readRoom 13 = .ok (.iconst 0, 1) := by decide +kernel
theorem d_Mo_readRoom_14 : decode c_Mo_readRoom 14 = .ok (.iastore, 1) := by decide +kernel
theorem d_Mo_readRoom_15 : decode c_Mo_readRoom 15 = .ok (.iinc 1 1, 3) := by decide +kernel
theorem d_Mo_readRoom_18 : decode c_Mo_readRoom 18 = .ok (.goto (-16), 3) := by decide +kernel
theorem d_Mo_readRoom_21 : decode c_Mo_readRoom 21 = .ok (.iconst 0, 1) := by decide +kernel
theorem d_Mo_readRoom_22 : decode c_Mo_readRoom 22 = .ok (.istore_n 1, 1) := by decide +kernel
theorem d_Mo_readRoom_23 : decode c_Mo_readRoom 23 = .ok (.iconst 1, 1) := by decide +kernel
theorem d_Mo_readRoom_24 : decode c_Mo_readRoom 24 = .ok (.istore_n 2, 1) := by decide +kernel
theorem d_Mo_readRoom_25 : decode c_Mo_readRoom 25 = .ok (.iload_n 2, 1) := by decide +kernel
theorem d_Mo_readRoom_26 : decode c_Mo_readRoom 26 = .ok (.ifCond .eq 64, 3) := by decide +kernel
theorem d_Mo_readRoom_29 : decode c_Mo_readRoom 29 = .ok (.aload_n 0, 1) := by decide +kernel
theorem d_Mo_readRoom_30 : decode c_Mo_readRoom 30 = .ok (.iconst 1, 1) := by decide +kernel
theorem d_Mo_readRoom_31 : decode c_Mo_readRoom 31 = .ok (.iconst 2, 1) := by decide +kernel
theorem d_Mo_readRoom_32 : decode c_Mo_readRoom 32 = .ok (.iload_n 1, 1) := by decide +kernel
theorem d_Mo_readRoom_33 : decode c_Mo_readRoom 33 = .ok (.imul, 1) := by decide +kernel
theorem d_Mo_readRoom_34 : decode c_Mo_readRoom 34 = .ok (.iadd, 1) := by decide +kernel
theorem d_Mo_readRoom_35 : decode c_Mo_readRoom 35 = .ok (.invokevirtual 181, 3) := by decide +kernel
theorem d_Mo_readRoom_38 : decode c_Mo_readRoom 38 = .ok (.ifCond .eq 24, 3) := by decide +kernel
theorem d_Mo_readRoom_41 : decode c_Mo_readRoom 41 = .ok (.aload_n 0, 1) := by decide +kernel
theorem d_Mo_readRoom_42 : decode c_Mo_readRoom 42 = .ok (.bipush 120, 2) := by decide +kernel
theorem d_Mo_readRoom_44 : decode c_Mo_readRoom 44 = .ok (.invokevirtual 184, 3) := by decide +kernel
theorem d_Mo_readRoom_47 : decode c_Mo_readRoom 47 = .ok (.ifCond .eq 15, 3) := by decide +kernel
theorem d_Mo_readRoom_50 : decode c_Mo_readRoom 50 = .ok (.aload_n 0, 1) := by decide +kernel
theorem d_Mo_readRoom_51 : decode c_Mo_readRoom 51 = .ok (.iconst 2, 1) := by decide +kernel
theorem d_Mo_readRoom_52 : decode c_Mo_readRoom 52 = .ok (.iconst 2, 1) := by decide +kernel
theorem d_Mo_readRoom_53 : decode c_Mo_readRoom 53 = .ok (.iload_n 1, 1) := by decide +kernel
theorem d_Mo_readRoom_54 : decode c_Mo_readRoom 54 = .ok (.imul, 1) := by decide +kernel
theorem d_Mo_readRoom_55 : decode c_Mo_readRoom 55 = .ok (.iadd, 1) := by decide +kernel
theorem d_Mo_readRoom_56 : decode c_Mo_readRoom 56 = .ok (.invokevirtual 181, 3) := by decide +kernel
theorem d_Mo_readRoom_59 : decode c_Mo_readRoom 59 = .ok (.ifCond .ne 5, 3) := by decide +kernel
theorem d_Mo_readRoom_62 : decode c_Mo_readRoom 62 = .ok (.iconst 0, 1) := by decide +kernel
theorem d_Mo_readRoom_63 : decode c_Mo_readRoom 63 = .ok (.ireturn, 1) := by decide +kernel
theorem d_Mo_readRoom_64 : decode c_Mo_readRoom 64 = .ok (.iinc 1 1, 3) := by decide +kernel
theorem d_Mo_readRoom_67 : decode c_Mo_readRoom 67 = .ok (.iload_n 1, 1) := by decide +kernel
theorem d_Mo_readRoom_68 : decode c_Mo_readRoom 68 = .ok (.iconst 3, 1) := by decide +kernel
theorem d_Mo_readRoom_69 : decode c_Mo_readRoom 69 = .ok (.if_icmp .ge 16, 3) := by decide +kernel
theorem d_Mo_readRoom_72 : decode c_Mo_readRoom 72 = .ok (.aload_n 0, 1) := by decide +kernel
theorem d_Mo_readRoom_73 : decode c_Mo_readRoom 73 = .ok (.bipush 43, 2) := by decide +kernel
theorem d_Mo_readRoom_75 : decode c_Mo_readRoom 75 = .ok (.invokevirtual 184, 3) := by decide +kernel
theorem d_Mo_readRoom_78 : decode c_Mo_readRoom 78 = .ok (.ifCond .eq 7, 3) := by decide +kernel
theorem d_Mo_readRoom_81 : decode c_Mo_readRoom 81 = .ok (.iconst 1, 1) := by decide +kernel
theorem d_Mo_readRoom_82 : decode c_Mo_readRoom 82 = .ok (.goto 4, 3) := by decide +kernel
theorem d_Mo_readRoom_85 : decode c_Mo_readRoom 85 = .ok (.iconst 0, 1) := by decide +kernel
theorem d_Mo_readRoom_86 : decode c_Mo_readRoom 86 = .ok (.istore_n 2, 1) := by decide +kernel
theorem d_Mo_readRoom_87 : decode c_Mo_readRoom 87 = .ok (.goto (-62), 3) := by decide +kernel
theorem d_Mo_readRoom_90 : decode c_Mo_readRoom 90 = .ok (.aload_n 0, 1) := by decide +kernel
theorem d_Mo_readRoom_91 : decode c_Mo_readRoom 91 = .ok (.getfield 28, 3) := by decide +kernel
theorem d_Mo_readRoom_94 : decode c_Mo_readRoom 94 = .ok (.iconst 0, 1) := by decide +kernel
theorem d_Mo_readRoom_95 : decode c_Mo_readRoom 95 = .ok (.iload_n 1, 1) := by decide +kernel
theorem d_Mo_readRoom_96 : decode c_Mo_readRoom 96 = .ok (.iastore, 1) := by decide +kernel
theorem d_Mo_readRoom_97 : decode c_Mo_readRoom 97 = .ok (.aload_n 0, 1) := by decide +kernel
theorem d_Mo_readRoom_98 : decode c_Mo_readRoom 98 = .ok (.bipush 64, 2) := by decide +kernel
theorem d_Mo_readRoom_100 : decode c_Mo_readRoom 100 = .ok (.invokevirtual 184, 3) := by decide +kernel
theorem d_Mo_readRoom_103 : decode c_Mo_readRoom 103 = .ok (.ifCond .eq 14, 3) := by decide +kernel
theorem d_Mo_readRoom_106 : decode c_Mo_readRoom 106 = .ok (.aload_n 0, 1) := by decide +kernel
theorem d_Mo_readRoom_107 : decode c_Mo_readRoom 107 = .ok (.bipush 48, 2) := by decide +kernel
theorem d_Mo_readRoom_109 : decode c_Mo_readRoom 109 = .ok (.bipush 51, 2) := by decide +kernel
theorem d_Mo_readRoom_111 : decode c_Mo_readRoom 111 = .ok (.invokevirtual 178, 3) := by decide +kernel
theorem d_Mo_readRoom_114 : decode c_Mo_readRoom 114 = .ok (.ifCond .ne 5, 3) := by decide +kernel
theorem d_Mo_readRoom_117 : decode c_Mo_readRoom 117 = .ok (.iconst 0, 1) := by decide +kernel
theorem d_Mo_readRoom_118 : decode c_Mo_readRoom 118 = .ok (.ireturn, 1) := by decide +kernel
theorem d_Mo_readRoom_119 : decode c_Mo_readRoom 119 = .ok (.aload_n 0, 1) := by decide +kernel
theorem d_Mo_readRoom_120 : decode c_Mo_readRoom 120 = .ok (.getfield 28, 3) := by decide +kernel
theorem d_Mo_readRoom_123 : decode c_Mo_readRoom 123 = .ok (.bipush 7, 2) := by decide +kernel
theorem d_Mo_readRoom_125 : decode c_Mo_readRoom 125 = .ok (.aload_n 0, 1) := by decide +kernel
theorem d_Mo_readRoom_126 : decode c_Mo_readRoom 126 = .ok (.getfield 25, 3) := by decide +kernel
theorem d_Mo_readRoom_129 : decode c_Mo_readRoom 129 = .ok (.aload_n 0, 1) := by decide +kernel
theorem d_Mo_readRoom_130 : decode c_Mo_readRoom 130 = .ok (.getfield 132, 3) := by decide +kernel
theorem d_Mo_readRoom_133 : decode c_Mo_readRoom 133 = .ok (.iaload, 1) := by decide +kernel
theorem d_Mo_readRoom_134 : decode c_Mo_readRoom 134 = .ok (.bipush 48, 2) := by decide +kernel
theorem d_Mo_readRoom_136 : decode c_Mo_readRoom 136 = .ok (.isub, 1) := by decide +kernel
theorem d_Mo_readRoom_137 : decode c_Mo_readRoom 137 = .ok (.iastore, 1) := by decide +kernel
theorem d_Mo_readRoom_138 : decode c_Mo_readRoom 138 = .ok (.aload_n 0, 1) := by decide +kernel
theorem d_Mo_readRoom_139 : decode c_Mo_readRoom 139 = .ok (.dup, 1) := by decide +kernel
theorem d_Mo_readRoom_140 : decode c_Mo_readRoom 140 = .ok (.getfield 132, 3) := by decide +kernel
theorem d_Mo_readRoom_143 : decode c_Mo_readRoom 143 = .ok (.iconst 1, 1) := by decide +kernel
theorem d_Mo_readRoom_144 : decode c_Mo_readRoom 144 = .ok (.iadd, 1) := by decide +kernel
theorem d_Mo_readRoom_145 : decode c_Mo_readRoom 145 = .ok (.putfield 132, 3) := by decide +kernel
theorem d_Mo_readRoom_148 : decode c_Mo_readRoom 148 = .ok (.iconst 1, 1) := by decide +kernel
theorem d_Mo_readRoom_149 : decode c_Mo_readRoom 149 = .ok (.ireturn, 1) := by decide +kernel
theorem d_Mo_readAll_0 : decode c_Mo_readAll 0 = .ok (.aload_n 0, 1) := by decide +kernel
theorem d_Mo_readAll_1 : decode c_Mo_readAll 1 = .ok (.iconst 0, 1) := by decide +kernel
theorem d_Mo_readAll_2 : decode c_Mo_readAll 2 = .ok (.putfield 132, 3) := by decide +kernel
theorem d_Mo_readAll_5 : decode c_Mo_readAll 5 = .ok (.iconst 0, 1) := by decide +kernel
theorem d_Mo_readAll_6 : decode c_Mo_readAll 6 = .ok (.istore_n 1, 1) := by decide +kernel
theorem d_Mo_readAll_7 : decode c_Mo_readAll 7 = .ok (.iconst 1, 1) := by decide +kernel
theorem d_Mo_readAll_8 : decode c_Mo_readAll 8 = .ok (.istore_n 2, 1) := by decide +kernel
theorem d_Mo_readAll_9 : decode c_Mo_readAll 9 = .ok (.iload_n 2, 1) := by decide +kernel
theorem d_Mo_readAll_10 : decode c_Mo_readAll 10 = .ok (.ifCond .eq 31, 3) := by decide +kernel
theorem d_Mo_readAll_13 : decode c_Mo_readAll 13 = .ok (.aload_n 0, 1) := by decide +kernel
theorem d_Mo_readAll_14 : decode c_Mo_readAll 14 = .ok (.invokevirtual 135, 3) := by decide +kernel
theorem d_Mo_readAll_17 : decode c_Mo_readAll 17 = .ok (.ifCond .ne 11, 3) := by decide +kernel
theorem d_Mo_readAll_20 : decode c_Mo_readAll 20 = .ok (.bipush (-100), 2) := by decide +kernel
theorem d_Mo_readAll_22 : decode c_Mo_readAll 22 = .ok (.aload_n 0, 1) := by decide +kernel
theorem d_Mo_readAll_23 : decode c_Mo_readAll 23 = .ok (.getfield 132, 3) := by decide +kernel
theorem d_Mo_readAll_26 : decode c_Mo_readAll 26 = .ok (.isub, 1) := by decide +kernel
theorem d_Mo_readAll_27 : decode c_Mo_readAll 27 = .ok (.ireturn, 1) := by decide +kernel
theorem d_Mo_readAll_28 : decode c_Mo_readAll 28 = .ok (.iinc 1 1, 3) := by decide +kernel
theorem d_Mo_readAll_31 : decode c_Mo_readAll 31 = .ok (.aload_n 0, 1) := by decide +kernel
theorem d_Mo_readAll_32 : decode c_Mo_readAll 32 = .ok (.bipush 59, 2) := by decide +kernel
theorem d_Mo_readAll_34 : decode c_Mo_readAll 34 = .ok (.invokevirtual 184, 3) := by decide +kernel
theorem d_Mo_readAll_37 : decode c_Mo_readAll 37 = .ok (.istore_n 2, 1) := by decide +kernel
theorem d_Mo_readAll_38 : decode c_Mo_readAll 38 = .ok (.goto (-29), 3) := by decide +kernel
theorem d_Mo_readAll_41 : decode c_Mo_readAll 41 = .ok (.aload_n 0, 1) := by decide +kernel
theorem d_Mo_readAll_42 : decode c_Mo_readAll 42 = .ok (.getfield 132, 3) := by decide +kernel
theorem d_Mo_readAll_45 : decode c_Mo_readAll 45 = .ok (.aload_n 0, 1) := by decide +kernel
theorem d_Mo_readAll_46 : decode c_Mo_readAll 46 = .ok (.getfield 175, 3) := by decide +kernel
theorem d_Mo_readAll_49 : decode c_Mo_readAll 49 = .ok (.if_icmp .ge 13, 3) := by decide +kernel
theorem d_Mo_readAll_52 : decode c_Mo_readAll 52 = .ok (.bipush (-100), 2) := by decide +kernel
theorem d_Mo_readAll_54 : decode c_Mo_readAll 54 = .ok (.aload_n 0, 1) := by decide +kernel
theorem d_Mo_readAll_55 : decode c_Mo_readAll 55 = .ok (.getfield 132, 3) := by decide +kernel
theorem d_Mo_readAll_58 : decode c_Mo_readAll 58 = .ok (.isub, 1) := by decide +kernel
theorem d_Mo_readAll_59 : decode c_Mo_readAll 59 = .ok (.goto 4, 3) := by decide +kernel
theorem d_Mo_readAll_62 : decode c_Mo_readAll 62 = .ok (.iload_n 1, 1) := by decide +kernel
theorem d_Mo_readAll_63 : decode c_Mo_readAll 63 = .ok (.ireturn, 1) := by decide +kernel
theorem d_Mo_fault_0 : decode c_Mo_fault 0 = .ok (.aload_n 0, 1) := by decide +kernel
theorem d_Mo_fault_1 : decode c_Mo_fault 1 = .ok (.invokevirtual 129, 3) := by decide +kernel
theorem d_Mo_fault_4 : decode c_Mo_fault 4 = .ok (.istore_n 1, 1) := by decide +kernel
theorem d_Mo_fault_5 : decode c_Mo_fault 5 = .ok (.iload_n 1, 1) := by decide +kernel
theorem d_Mo_fault_6 : decode c_Mo_fault 6 = .ok (.ifCond .ge 10, 3) := by decide +kernel
theorem d_Mo_fault_9 : decode c_Mo_fault 9 = .ok (.bipush (-100), 2) := by decide +kernel
theorem d_Mo_fault_11 : decode c_Mo_fault 11 = .ok (.iload_n 1, 1) := by decide +kernel
theorem d_Mo_fault_12 : decode c_Mo_fault 12 = .ok (.isub, 1) := by decide +kernel
theorem d_Mo_fault_13 : decode c_Mo_fault 13 = .ok (.goto 5, 3) := by decide +kernel
theorem d_Mo_fault_16 : decode c_Mo_fault 16 = .ok (.bipush (-5), 2) := by decide +kernel
theorem d_Mo_fault_18 : decode c_Mo_fault 18 = .ok (.ireturn, 1) := by decide +kernel
theorem d_Mo_undo_0 : decode c_Mo_undo 0 = .ok (.aload_n 0, 1) := by decide +kernel
theorem d_Mo_undo_1 : decode c_Mo_undo 1 = .ok (.getfield 31, 3) := by decide +kernel
theorem d_Mo_undo_4 : decode c_Mo_undo 4 = .ok (.ifCond .ne 6, 3) := by decide +kernel
theorem d_Mo_undo_7 : decode c_Mo_undo 7 = .ok (.bipush (-5), 2) := by decide +kernel
theorem d_Mo_undo_9 : decode c_Mo_undo 9 = .ok (.ireturn, 1) := by decide +kernel
theorem d_Mo_undo_10 : decode c_Mo_undo 10 = .ok (.aload_n 0, 1) := by decide +kernel
theorem d_Mo_undo_11 : decode c_Mo_undo 11 = .ok (.dup, 1) := by decide +kernel
theorem d_Mo_undo_12 : decode c_Mo_undo 12 = .ok (.getfield 31, 3) := by decide +kernel
theorem d_Mo_undo_15 : decode c_Mo_undo 15 = .ok (.iconst 1, 1) := by decide +kernel
theorem d_Mo_undo_16 : decode c_Mo_undo 16 = .ok (.isub, 1) := by decide +kernel
theorem d_Mo_undo_17 : decode c_Mo_undo 17 = .ok (.putfield 31, 3) := by decide +kernel
theorem d_Mo_undo_20 : decode c_Mo_undo 20 = .ok (.iconst 0, 1) := by decide +kernel
theorem d_Mo_undo_21 : decode c_Mo_undo 21 = .ok (.istore_n 1, 1) := by decide +kernel
theorem d_Mo_undo_22 : decode c_Mo_undo 22 = .ok (.iload_n 1, 1) := by decide +kernel
theorem d_Mo_undo_23 : decode c_Mo_undo 23 = .ok (.sipush 1953, 3) := by decide +kernel
theorem d_Mo_undo_26 : decode c_Mo_undo 26 = .ok (.if_icmp .ge 30, 3) := by decide +kernel
theorem d_Mo_undo_29 : decode c_Mo_undo 29 = .ok (.aload_n 0, 1) := by decide +kernel
theorem d_Mo_undo_30 : decode c_Mo_undo 30 = .ok (.getfield 7, 3) := by decide +kernel
theorem d_Mo_undo_33 : decode c_Mo_undo 33 = .ok (.iload_n 1, 1) := by decide +kernel
theorem d_Mo_undo_34 : decode c_Mo_undo 34 = .ok (.aload_n 0, 1) := by decide +kernel
theorem d_Mo_undo_35 : decode c_Mo_undo 35 = .ok (.getfield 22, 3) := by decide +kernel
theorem d_Mo_undo_38 : decode c_Mo_undo 38 = .ok (.sipush 1953, 3) := by decide +kernel
theorem d_Mo_undo_41 : decode c_Mo_undo 41 = .ok (.aload_n 0, 1) := by decide +kernel
theorem d_Mo_undo_42 : decode c_Mo_undo 42 = .ok (.getfield 31, 3) := by decide +kernel
theorem d_Mo_undo_45 : decode c_Mo_undo 45 = .ok (.imul, 1) := by decide +kernel
theorem d_Mo_undo_46 : decode c_Mo_undo 46 = .ok (.iload_n 1, 1) := by decide +kernel
theorem d_Mo_undo_47 : decode c_Mo_undo 47 = .ok (.iadd, 1) := by decide +kernel
theorem d_Mo_undo_48 : decode c_Mo_undo 48 = .ok (.iaload, 1) := by decide +kernel
theorem d_Mo_undo_49 : decode c_Mo_undo 49 = .ok (.iastore, 1) := by decide +kernel
theorem d_Mo_undo_50 : decode c_Mo_undo 50 = .ok (.iinc 1 1, 3) := by decide +kernel
theorem d_Mo_undo_53 : decode c_Mo_undo 53 = .ok (.goto (-31), 3) := by decide +kernel
theorem d_Mo_undo_56 : decode c_Mo_undo 56 = .ok (.aload_n 0, 1) := by decide +kernel
theorem d_Mo_undo_57 : decode c_Mo_undo 57 = .ok (.getfield 31, 3) := by decide +kernel
theorem d_Mo_undo_60 : decode c_Mo_undo 60 = .ok (.ireturn, 1) := by decide +kernel
theorem d_Mo_keep_0 : decode c_Mo_keep 0 = .ok (.iconst 0, 1) := by decide +kernel
theorem d_Mo_keep_1 : decode c_Mo_keep 1 = .ok (.istore_n 1, 1) := by decide +kernel
theorem d_Mo_keep_2 : decode c_Mo_keep 2 = .ok (.iload_n 1, 1) := by decide +kernel
theorem d_Mo_keep_3 : decode c_Mo_keep 3 = .ok (.sipush 1953, 3) := by decide +kernel
theorem d_Mo_keep_6 : decode c_Mo_keep 6 = .ok (.if_icmp .ge 21, 3) := by decide +kernel
theorem d_Mo_keep_9 : decode c_Mo_keep 9 = .ok (.aload_n 0, 1) := by decide +kernel
theorem d_Mo_keep_10 : decode c_Mo_keep 10 = .ok (.getfield 13, 3) := by decide +kernel
theorem d_Mo_keep_13 : decode c_Mo_keep 13 = .ok (.iload_n 1, 1) := by decide +kernel
theorem d_Mo_keep_14 : decode c_Mo_keep 14 = .ok (.aload_n 0, 1) := by decide +kernel
theorem d_Mo_keep_15 : decode c_Mo_keep 15 = .ok (.getfield 7, 3) := by decide +kernel
theorem d_Mo_keep_18 : decode c_Mo_keep 18 = .ok (.iload_n 1, 1) := by decide +kernel
theorem d_Mo_keep_19 : decode c_Mo_keep 19 = .ok (.iaload, 1) := by decide +kernel
theorem d_Mo_keep_20 : decode c_Mo_keep 20 = .ok (.iastore, 1) := by decide +kernel
theorem d_Mo_keep_21 : decode c_Mo_keep 21 = .ok (.iinc 1 1, 3) := by decide +kernel
theorem d_Mo_keep_24 : decode c_Mo_keep 24 = .ok (.goto (-22), 3) := by decide +kernel
theorem d_Mo_keep_27 : decode c_Mo_keep 27 = .ok (.aload_n 0, 1) := by decide +kernel
theorem d_Mo_keep_28 : decode c_Mo_keep 28 = .ok (.iconst 1, 1) := by decide +kernel
theorem d_Mo_keep_29 : decode c_Mo_keep 29 = .ok (.putfield 187, 3) := by decide +kernel
theorem d_Mo_keep_32 : decode c_Mo_keep 32 = .ok (.aload_n 0, 1) := by decide +kernel
theorem d_Mo_keep_33 : decode c_Mo_keep 33 = .ok (.getfield 7, 3) := by decide +kernel
theorem d_Mo_keep_36 : decode c_Mo_keep 36 = .ok (.iconst 2, 1) := by decide +kernel
theorem d_Mo_keep_37 : decode c_Mo_keep 37 = .ok (.iaload, 1) := by decide +kernel
theorem d_Mo_keep_38 : decode c_Mo_keep 38 = .ok (.ireturn, 1) := by decide +kernel
theorem d_Mo_restore_0 : decode c_Mo_restore 0 = .ok (.aload_n 0, 1) := by decide +kernel
theorem d_Mo_restore_1 : decode c_Mo_restore 1 = .ok (.getfield 187, 3) := by decide +kernel
theorem d_Mo_restore_4 : decode c_Mo_restore 4 = .ok (.ifCond .ne 6, 3) := by decide +kernel
theorem d_Mo_restore_7 : decode c_Mo_restore 7 = .ok (.bipush (-5), 2) := by decide +kernel
theorem d_Mo_restore_9 : decode c_Mo_restore 9 = .ok (.ireturn, 1) := by decide +kernel
theorem d_Mo_restore_10 : decode c_Mo_restore 10 = .ok (.aload_n 0, 1) := by decide +kernel
theorem d_Mo_restore_11 : decode c_Mo_restore 11 = .ok (.invokevirtual 126, 3) := by decide +kernel
theorem d_Mo_restore_14 : decode c_Mo_restore 14 = .ok (.iconst 0, 1) := by decide +kernel
theorem d_Mo_restore_15 : decode c_Mo_restore 15 = .ok (.istore_n 1, 1) := by decide +kernel
theorem d_Mo_restore_16 : decode c_Mo_restore 16 = .ok (.iload_n 1, 1) := by decide +kernel
theorem d_Mo_restore_17 : decode c_Mo_restore 17 = .ok (.sipush 1953, 3) := by decide +kernel
theorem d_Mo_restore_20 : decode c_Mo_restore 20 = .ok (.if_icmp .ge 21, 3) := by decide +kernel
theorem d_Mo_restore_23 : decode c_Mo_restore 23 = .ok (.aload_n 0, 1) := by decide +kernel
theorem d_Mo_restore_24 : decode c_Mo_restore 24 = .ok (.getfield 7, 3) := by decide +kernel
theorem d_Mo_restore_27 : decode c_Mo_restore 27 = .ok (.iload_n 1, 1) := by decide +kernel
theorem d_Mo_restore_28 : decode c_Mo_restore 28 = .ok (.aload_n 0, 1) := by decide +kernel
theorem d_Mo_restore_29 : decode c_Mo_restore 29 = .ok (.getfield 13, 3) := by decide +kernel
theorem d_Mo_restore_32 : decode c_Mo_restore 32 = .ok (.iload_n 1, 1) := by decide +kernel
theorem d_Mo_restore_33 : decode c_Mo_restore 33 = .ok (.iaload, 1) := by decide +kernel
theorem d_Mo_restore_34 : decode c_Mo_restore 34 = .ok (.iastore, 1) := by decide +kernel
theorem d_Mo_restore_35 : decode c_Mo_restore 35 = .ok (.iinc 1 1, 3) := by decide +kernel
theorem d_Mo_restore_38 : decode c_Mo_restore 38 = .ok (.goto (-22), 3) := by decide +kernel
theorem d_Mo_restore_41 : decode c_Mo_restore 41 = .ok (.aload_n 0, 1) := by decide +kernel
theorem d_Mo_restore_42 : decode c_Mo_restore 42 = .ok (.getfield 7, 3) := by decide +kernel
theorem d_Mo_restore_45 : decode c_Mo_restore 45 = .ok (.iconst 2, 1) := by decide +kernel
theorem d_Mo_restore_46 : decode c_Mo_restore 46 = .ok (.iaload, 1) := by decide +kernel
theorem d_Mo_restore_47 : decode c_Mo_restore 47 = .ok (.ireturn, 1) := by decide +kernel
theorem d_Mo_laid_0 : decode c_Mo_laid 0 = .ok (.iconst 0, 1) := by decide +kernel
theorem d_Mo_laid_1 : decode c_Mo_laid 1 = .ok (.istore_n 2, 1) := by decide +kernel
theorem d_Mo_laid_2 : decode c_Mo_laid 2 = .ok (.iconst 0, 1) := by decide +kernel
theorem d_Mo_laid_3 : decode c_Mo_laid 3 = .ok (.istore_n 3, 1) := by decide +kernel
theorem d_Mo_laid_4 : decode c_Mo_laid 4 = .ok (.iload_n 3, 1) := by decide +kernel
theorem d_Mo_laid_5 : decode c_Mo_laid 5 = .ok (.aload_n 0, 1) := by decide +kernel
theorem d_Mo_laid_6 : decode c_Mo_laid 6 = .ok (.getfield 7, 3) := by decide +kernel
theorem d_Mo_laid_9 : decode c_Mo_laid 9 = .ok (.iconst 2, 1) := by decide +kernel
theorem d_Mo_laid_10 : decode c_Mo_laid 10 = .ok (.iaload, 1) := by decide +kernel
theorem d_Mo_laid_11 : decode c_Mo_laid 11 = .ok (.if_icmp .ge 43, 3) := by decide +kernel
theorem d_Mo_laid_14 : decode c_Mo_laid 14 = .ok (.iload_n 2, 1) := by decide +kernel
theorem d_Mo_laid_15 : decode c_Mo_laid 15 = .ok (.aload_n 0, 1) := by decide +kernel
theorem d_Mo_laid_16 : decode c_Mo_laid 16 = .ok (.iload_n 3, 1) := by decide +kernel
theorem d_Mo_laid_17 : decode c_Mo_laid 17 = .ok (.bipush 8, 2) := by decide +kernel
theorem d_Mo_laid_19 : decode c_Mo_laid 19 = .ok (.invokevirtual 74, 3) := by decide +kernel
theorem d_Mo_laid_22 : decode c_Mo_laid 22 = .ok (.iconst 1, 1) := by decide +kernel
theorem d_Mo_laid_23 : decode c_Mo_laid 23 = .ok (.if_icmp .ne 22, 3) := by decide +kernel
theorem d_Mo_laid_26 : decode c_Mo_laid 26 = .ok (.aload_n 0, 1) := by decide +kernel
theorem d_Mo_laid_27 : decode c_Mo_laid 27 = .ok (.iload_n 3, 1) := by decide +kernel
theorem d_Mo_laid_28 : decode c_Mo_laid 28 = .ok (.bipush 9, 2) := by decide +kernel
theorem d_Mo_laid_30 : decode c_Mo_laid 30 = .ok (.invokevirtual 74, 3) := by decide +kernel
theorem d_Mo_laid_33 : decode c_Mo_laid 33 = .ok (.iload_n 1, 1) := by decide +kernel
theorem d_Mo_laid_34 : decode c_Mo_laid 34 = .ok (.if_icmp .ne 11, 3) := by decide +kernel
theorem d_Mo_laid_37 : decode c_Mo_laid 37 = .ok (.aload_n 0, 1) := by decide +kernel
theorem d_Mo_laid_38 : decode c_Mo_laid 38 = .ok (.iload_n 3, 1) := by decide +kernel
theorem d_Mo_laid_39 : decode c_Mo_laid 39 = .ok (.invokevirtual 117, 3) := by decide +kernel
theorem d_Mo_laid_42 : decode c_Mo_laid 42 = .ok (.goto 4, 3) := by decide +kernel
theorem d_Mo_laid_45 : decode c_Mo_laid 45 = .ok (.iconst 0, 1) := by decide +kernel
theorem d_Mo_laid_46 : decode c_Mo_laid 46 = .ok (.iadd, 1) := by decide +kernel
theorem d_Mo_laid_47 : decode c_Mo_laid 47 = .ok (.istore_n 2, 1) := by decide +kernel
theorem d_Mo_laid_48 : decode c_Mo_laid 48 = .ok (.iinc 3 1, 3) := by decide +kernel
theorem d_Mo_laid_51 : decode c_Mo_laid 51 = .ok (.goto (-47), 3) := by decide +kernel
theorem d_Mo_laid_54 : decode c_Mo_laid 54 = .ok (.iload_n 2, 1) := by decide +kernel
theorem d_Mo_laid_55 : decode c_Mo_laid 55 = .ok (.ireturn, 1) := by decide +kernel
theorem d_Mo_rollOf_0 : decode c_Mo_rollOf 0 = .ok (.aload_n 0, 1) := by decide +kernel
theorem d_Mo_rollOf_1 : decode c_Mo_rollOf 1 = .ok (.iload_n 1, 1) := by decide +kernel
theorem d_Mo_rollOf_2 : decode c_Mo_rollOf 2 = .ok (.invokevirtual 142, 3) := by decide +kernel
theorem d_Mo_rollOf_5 : decode c_Mo_rollOf 5 = .ok (.ifCond .ne 5, 3) := by decide +kernel
theorem d_Mo_rollOf_8 : decode c_Mo_rollOf 8 = .ok (.iconst (-1), 1) := by decide +kernel
theorem d_Mo_rollOf_9 : decode c_Mo_rollOf 9 = .ok (.ireturn, 1) := by decide +kernel
theorem d_Mo_rollOf_10 : decode c_Mo_rollOf 10 = .ok (.iconst 0, 1) := by decide +kernel
theorem d_Mo_rollOf_11 : decode c_Mo_rollOf 11 = .ok (.istore_n 3, 1) := by decide +kernel
theorem d_Mo_rollOf_12 : decode c_Mo_rollOf 12 = .ok (.iconst 0, 1) := by decide +kernel
theorem d_Mo_rollOf_13 : decode c_Mo_rollOf 13 = .ok (.istore 4, 2) := by decide +kernel
theorem d_Mo_rollOf_15 : decode c_Mo_rollOf 15 = .ok (.iconst 0, 1) := by decide +kernel
theorem d_Mo_rollOf_16 : decode c_Mo_rollOf 16 = .ok (.istore 5, 2) := by decide +kernel
theorem d_Mo_rollOf_18 : decode c_Mo_rollOf 18 = .ok (.iload 5, 2) := by decide +kernel
theorem d_Mo_rollOf_20 : decode c_Mo_rollOf 20 = .ok (.aload_n 0, 1) := by decide +kernel
theorem d_Mo_rollOf_21 : decode c_Mo_rollOf 21 = .ok (.getfield 7, 3) := by decide +kernel
theorem d_Mo_rollOf_24 : decode c_Mo_rollOf 24 = .ok (.iconst 1, 1) := by decide +kernel
theorem d_Mo_rollOf_25 : decode c_Mo_rollOf 25 = .ok (.iaload, 1) := by decide +kernel
theorem d_Mo_rollOf_26 : decode c_Mo_rollOf 26 = .ok (.if_icmp .ge 68, 3) := by decide +kernel
theorem d_Mo_rollOf_29 : decode c_Mo_rollOf 29 = .ok (.aload_n 0, 1) := by decide +kernel
theorem d_Mo_rollOf_30 : decode c_Mo_rollOf 30 = .ok (.iload 5, 2) := by decide +kernel
theorem d_Mo_rollOf_32 : decode c_Mo_rollOf 32 = .ok (.invokevirtual 46, 3) := by decide +kernel
theorem d_Mo_rollOf_35 : decode c_Mo_rollOf 35 = .ok (.ifCond .eq 17, 3) := by decide +kernel
theorem d_Mo_rollOf_38 : decode c_Mo_rollOf 38 = .ok (.aload_n 0, 1) := by decide +kernel
theorem d_Mo_rollOf_39 : decode c_Mo_rollOf 39 = .ok (.iload 5, 2) := by decide +kernel
theorem d_Mo_rollOf_41 : decode c_Mo_rollOf 41 = .ok (.invokevirtual 68, 3) := by decide +kernel
theorem d_Mo_rollOf_44 : decode c_Mo_rollOf 44 = .ok (.iload_n 1, 1) := by decide +kernel
theorem d_Mo_rollOf_45 : decode c_Mo_rollOf 45 = .ok (.if_icmp .ne 7, 3) := by decide +kernel
theorem d_Mo_rollOf_48 : decode c_Mo_rollOf 48 = .ok (.iconst 1, 1) := by decide +kernel
theorem d_Mo_rollOf_49 : decode c_Mo_rollOf 49 = .ok (.goto 4, 3) := by decide +kernel
theorem d_Mo_rollOf_52 : decode c_Mo_rollOf 52 = .ok (.iconst 0, 1) := by decide +kernel
theorem d_Mo_rollOf_53 : decode c_Mo_rollOf 53 = .ok (.istore 6, 2) := by decide +kernel
theorem d_Mo_rollOf_55 : decode c_Mo_rollOf 55 = .ok (.iload_n 3, 1) := by decide +kernel
theorem d_Mo_rollOf_56 : decode c_Mo_rollOf 56 = .ok (.iload 6, 2) := by decide +kernel
theorem d_Mo_rollOf_58 : decode c_Mo_rollOf 58 = .ok (.ifCond .eq 7, 3) := by decide +kernel
theorem d_Mo_rollOf_61 : decode c_Mo_rollOf 61 = .ok (.iconst 1, 1) := by decide +kernel
theorem d_Mo_rollOf_62 : decode c_Mo_rollOf 62 = .ok (.goto 4, 3) := by decide +kernel
theorem d_Mo_rollOf_65 : decode c_Mo_rollOf 65 = .ok (.iconst 0, 1) := by decide +kernel
theorem d_Mo_rollOf_66 : decode c_Mo_rollOf 66 = .ok (.iadd, 1) := by decide +kernel
theorem d_Mo_rollOf_67 : decode c_Mo_rollOf 67 = .ok (.istore_n 3, 1) := by decide +kernel
theorem d_Mo_rollOf_68 : decode c_Mo_rollOf 68 = .ok (.iload 4, 2) := by decide +kernel
theorem d_Mo_rollOf_70 : decode c_Mo_rollOf 70 = .ok (.iload 6, 2) := by decide +kernel
theorem d_Mo_rollOf_72 : decode c_Mo_rollOf 72 = .ok (.ifCond .eq 12, 3) := by decide +kernel
theorem d_Mo_rollOf_75 : decode c_Mo_rollOf 75 = .ok (.aload_n 0, 1) := by decide +kernel
theorem d_Mo_rollOf_76 : decode c_Mo_rollOf 76 = .ok (.iload 5, 2) := by decide +kernel
theorem d_Mo_rollOf_78 : decode c_Mo_rollOf 78 = .ok (.invokevirtual 71, 3) := by decide +kernel
theorem d_Mo_rollOf_81 : decode c_Mo_rollOf 81 = .ok (.goto 4, 3) := by decide +kernel
theorem d_Mo_rollOf_84 : decode c_Mo_rollOf 84 = .ok (.iconst 0, 1) := by decide +kernel
theorem d_Mo_rollOf_85 : decode c_Mo_rollOf 85 = .ok (.iadd, 1) := by decide +kernel
theorem d_Mo_rollOf_86 : decode c_Mo_rollOf 86 = .ok (.istore 4, 2) := by decide +kernel
theorem d_Mo_rollOf_88 : decode c_Mo_rollOf 88 = .ok (.iinc 5 1, 3) := by decide +kernel
theorem d_Mo_rollOf_91 : decode c_Mo_rollOf 91 = .ok (.goto (-73), 3) := by decide +kernel
theorem d_Mo_rollOf_94 : decode c_Mo_rollOf 94 = .ok (.iload_n 2, 1) := by decide +kernel
theorem d_Mo_rollOf_95 : decode c_Mo_rollOf 95 = .ok (.tableswitch 100 0 9 #[53, 53, 53, 53, 60, 62, 65, 71, 78, 86], 53) := by decide +kernel
theorem d_Mo_rollOf_148 : decode c_Mo_rollOf 148 = .ok (.aload_n 0, 1) := by decide +kernel
theorem d_Mo_rollOf_149 : decode c_Mo_rollOf 149 = .ok (.iload_n 1, 1) := by decide +kernel
theorem d_Mo_rollOf_150 : decode c_Mo_rollOf 150 = .ok (.iload_n 2, 1) := by decide +kernel
theorem d_Mo_rollOf_151 : decode c_Mo_rollOf 151 = .ok (.invokevirtual 90, 3) := by decide +kernel
theorem d_Mo_rollOf_154 : decode c_Mo_rollOf 154 = .ok (.ireturn, 1) := by decide +kernel
theorem d_Mo_rollOf_155 : decode c_Mo_rollOf 155 = .ok (.iload_n 3, 1) := by decide +kernel
theorem d_Mo_rollOf_156 : decode c_Mo_rollOf 156 = .ok (.ireturn, 1) := by decide +kernel
theorem d_Mo_rollOf_157 : decode c_Mo_rollOf 157 = .ok (.iload 4, 2) := by decide +kernel
theorem d_Mo_rollOf_159 : decode c_Mo_rollOf 159 = .ok (.ireturn, 1) := by decide +kernel
theorem d_Mo_rollOf_160 : decode c_Mo_rollOf 160 = .ok (.aload_n 0, 1) := by decide +kernel
theorem d_Mo_rollOf_161 : decode c_Mo_rollOf 161 = .ok (.iload_n 1, 1) := by decide +kernel
theorem d_Mo_rollOf_162 : decode c_Mo_rollOf 162 = .ok (.invokevirtual 191, 3) := by decide +kernel
theorem d_Mo_rollOf_165 : decode c_Mo_rollOf 165 = .ok (.ireturn, 1) := by decide +kernel
theorem d_Mo_rollOf_166 : decode c_Mo_rollOf 166 = .ok (.aload_n 0, 1) := by decide +kernel
theorem d_Mo_rollOf_167 : decode c_Mo_rollOf 167 = .ok (.iload_n 1, 1) := by decide +kernel
theorem d_Mo_rollOf_168 : decode c_Mo_rollOf 168 = .ok (.iconst 5, 1) := by decide +kernel
theorem d_Mo_rollOf_169 : decode c_Mo_rollOf 169 = .ok (.invokevirtual 90, 3) := by decide +kernel
theorem d_Mo_rollOf_172 : decode c_Mo_rollOf 172 = .ok (.ireturn, 1) := by decide +kernel
theorem d_Mo_rollOf_173 : decode c_Mo_rollOf 173 = .ok (.aload_n 0, 1) := by decide +kernel
theorem d_Mo_rollOf_174 : decode c_Mo_rollOf 174 = .ok (.iload_n 1, 1) := by decide +kernel
theorem d_Mo_rollOf_175 : decode c_Mo_rollOf 175 = .ok (.bipush 6, 2) := by decide +kernel
theorem d_Mo_rollOf_177 : decode c_Mo_rollOf 177 = .ok (.invokevirtual 90, 3) := by decide +kernel
theorem d_Mo_rollOf_180 : decode c_Mo_rollOf 180 = .ok (.ireturn, 1) := by decide +kernel
theorem d_Mo_rollOf_181 : decode c_Mo_rollOf 181 = .ok (.aload_n 0, 1) := by decide +kernel
theorem d_Mo_rollOf_182 : decode c_Mo_rollOf 182 = .ok (.iload_n 1, 1) := by decide +kernel
theorem d_Mo_rollOf_183 : decode c_Mo_rollOf 183 = .ok (.iconst 1, 1) := by decide +kernel
theorem d_Mo_rollOf_184 : decode c_Mo_rollOf 184 = .ok (.invokevirtual 90, 3) := by decide +kernel
theorem d_Mo_rollOf_187 : decode c_Mo_rollOf 187 = .ok (.aload_n 0, 1) := by decide +kernel
theorem d_Mo_rollOf_188 : decode c_Mo_rollOf 188 = .ok (.iload_n 1, 1) := by decide +kernel
theorem d_Mo_rollOf_189 : decode c_Mo_rollOf 189 = .ok (.iconst 4, 1) := by decide +kernel
theorem d_Mo_rollOf_190 : decode c_Mo_rollOf 190 = .ok (.invokevirtual 90, 3) := by decide +kernel
theorem d_Mo_rollOf_193 : decode c_Mo_rollOf 193 = .ok (.imul, 1) := by decide +kernel
theorem d_Mo_rollOf_194 : decode c_Mo_rollOf 194 = .ok (.ireturn, 1) := by decide +kernel
theorem d_Mo_rollOf_195 : decode c_Mo_rollOf 195 = .ok (.bipush (-2), 2) := by decide +kernel
theorem d_Mo_rollOf_197 : decode c_Mo_rollOf 197 = .ok (.ireturn, 1) := by decide +kernel
theorem d_Mo_offcut_0 : decode c_Mo_offcut 0 = .ok (.aload_n 0, 1) := by decide +kernel
theorem d_Mo_offcut_1 : decode c_Mo_offcut 1 = .ok (.iload_n 1, 1) := by decide +kernel
theorem d_Mo_offcut_2 : decode c_Mo_offcut 2 = .ok (.invokevirtual 46, 3) := by decide +kernel
theorem d_Mo_offcut_5 : decode c_Mo_offcut 5 = .ok (.ifCond .ne 5, 3) := by decide +kernel
theorem d_Mo_offcut_8 : decode c_Mo_offcut 8 = .ok (.iconst (-1), 1) := by decide +kernel
theorem d_Mo_offcut_9 : decode c_Mo_offcut 9 = .ok (.ireturn, 1) := by decide +kernel
theorem d_Mo_offcut_10 : decode c_Mo_offcut 10 = .ok (.iload_n 2, 1) := by decide +kernel
theorem d_Mo_offcut_11 : decode c_Mo_offcut 11 = .ok (.iconst 0, 1) := by decide +kernel
theorem d_Mo_offcut_12 : decode c_Mo_offcut 12 = .ok (.iconst 2, 1) := by decide +kernel
theorem d_Mo_offcut_13 : decode c_Mo_offcut 13 = .ok (.invokestatic 35, 3) := by decide +kernel
theorem d_Mo_offcut_16 : decode c_Mo_offcut 16 = .ok (.ifCond .ne 6, 3) := by decide +kernel
theorem d_Mo_offcut_19 : decode c_Mo_offcut 19 = .ok (.bipush (-2), 2) := by decide +kernel
theorem d_Mo_offcut_21 : decode c_Mo_offcut 21 = .ok (.ireturn, 1) := by decide +kernel
theorem d_Mo_offcut_22 : decode c_Mo_offcut 22 = .ok (.iload_n 2, 1) := by decide +kernel
theorem d_Mo_offcut_23 : decode c_Mo_offcut 23 = .ok (.ifCond .ne 11, 3) := by decide +kernel
theorem d_Mo_offcut_26 : decode c_Mo_offcut 26 = .ok (.aload_n 0, 1) := by decide +kernel
theorem d_Mo_offcut_27 : decode c_Mo_offcut 27 = .ok (.iload_n 1, 1) := by decide +kernel
theorem d_Mo_offcut_28 : decode c_Mo_offcut 28 = .ok (.invokevirtual 68, 3) := by decide +kernel
theorem d_Mo_offcut_31 : decode c_Mo_offcut 31 = .ok (.goto 16, 3) := by decide +kernel
theorem d_Mo_offcut_34 : decode c_Mo_offcut 34 = .ok (.aload_n 0, 1) := by decide +kernel
theorem d_Mo_offcut_35 : decode c_Mo_offcut 35 = .ok (.getfield 7, 3) := by decide +kernel
theorem d_Mo_offcut_38 : decode c_Mo_offcut 38 = .ok (.bipush 93, 2) := by decide +kernel
theorem d_Mo_offcut_40 : decode c_Mo_offcut 40 = .ok (.iconst 3, 1) := by decide +kernel
theorem d_Mo_offcut_41 : decode c_Mo_offcut 41 = .ok (.iload_n 1, 1) := by decide +kernel
theorem d_Mo_offcut_42 : decode c_Mo_offcut 42 = .ok (.imul, 1) := by decide +kernel
theorem d_Mo_offcut_43 : decode c_Mo_offcut 43 = .ok (.iadd, 1) := by decide +kernel
theorem d_Mo_offcut_44 : decode c_Mo_offcut 44 = .ok (.iload_n 2, 1) := by decide +kernel
theorem d_Mo_offcut_45 : decode c_Mo_offcut 45 = .ok (.iadd, 1) := by decide +kernel
theorem d_Mo_offcut_46 : decode c_Mo_offcut 46 = .ok (.iaload, 1) := by decide +kernel
theorem d_Mo_offcut_47 : decode c_Mo_offcut 47 = .ok (.ireturn, 1) := by decide +kernel
theorem d_Mo_sorted_0 : decode c_Mo_sorted 0 = .ok (.iload_n 1, 1) := by decide +kernel
theorem d_Mo_sorted_1 : decode c_Mo_sorted 1 = .ok (.ifCond .ge 6, 3) := by decide +kernel
theorem d_Mo_sorted_4 : decode c_Mo_sorted 4 = .ok (.bipush (-2), 2) := by decide +kernel
theorem d_Mo_sorted_6 : decode c_Mo_sorted 6 = .ok (.ireturn, 1) := by decide +kernel
theorem d_Mo_sorted_7 : decode c_Mo_sorted 7 = .ok (.iconst 0, 1) := by decide +kernel
theorem d_Mo_sorted_8 : decode c_Mo_sorted 8 = .ok (.istore_n 2, 1) := by decide +kernel
theorem d_Mo_sorted_9 : decode c_Mo_sorted 9 = .ok (.iload_n 2, 1) := by decide +kernel
theorem d_Mo_sorted_10 : decode c_Mo_sorted 10 = .ok (.aload_n 0, 1) := by decide +kernel
theorem d_Mo_sorted_11 : decode c_Mo_sorted 11 = .ok (.getfield 7, 3) := by decide +kernel
theorem d_Mo_sorted_14 : decode c_Mo_sorted 14 = .ok (.iconst 1, 1) := by decide +kernel
theorem d_Mo_sorted_15 : decode c_Mo_sorted 15 = .ok (.iaload, 1) := by decide +kernel
theorem d_Mo_sorted_16 : decode c_Mo_sorted 16 = .ok (.if_icmp .ge 105, 3) := by decide +kernel
theorem d_Mo_sorted_19 : decode c_Mo_sorted 19 = .ok (.iconst 0, 1) := by decide +kernel
theorem d_Mo_sorted_20 : decode c_Mo_sorted 20 = .ok (.istore_n 3, 1) := by decide +kernel
theorem d_Mo_sorted_21 : decode c_Mo_sorted 21 = .ok (.iconst 0, 1) := by decide +kernel
theorem d_Mo_sorted_22 : decode c_Mo_sorted 22 = .ok (.istore 4, 2) := by decide +kernel
theorem d_Mo_sorted_24 : decode c_Mo_sorted 24 = .ok (.iload 4, 2) := by decide +kernel
theorem d_Mo_sorted_26 : decode c_Mo_sorted 26 = .ok (.aload_n 0, 1) := by decide +kernel
theorem d_Mo_sorted_27 : decode c_Mo_sorted 27 = .ok (.getfield 7, 3) := by decide +kernel
theorem d_Mo_sorted_30 : decode c_Mo_sorted 30 = .ok (.iconst 1, 1) := by decide +kernel
theorem d_Mo_sorted_31 : decode c_Mo_sorted 31 = .ok (.iaload, 1) := by decide +kernel
theorem d_Mo_sorted_32 : decode c_Mo_sorted 32 = .ok (.if_icmp .ge 68, 3) := by decide +kernel
theorem d_Mo_sorted_35 : decode c_Mo_sorted 35 = .ok (.aload_n 0, 1) := by decide +kernel
theorem d_Mo_sorted_36 : decode c_Mo_sorted 36 = .ok (.iload_n 2, 1) := by decide +kernel
theorem d_Mo_sorted_37 : decode c_Mo_sorted 37 = .ok (.invokevirtual 46, 3) := by decide +kernel
theorem d_Mo_sorted_40 : decode c_Mo_sorted 40 = .ok (.ifCond .eq 60, 3) := by decide +kernel
theorem d_Mo_sorted_43 : decode c_Mo_sorted 43 = .ok (.iload_n 3, 1) := by decide +kernel
theorem d_Mo_sorted_44 : decode c_Mo_sorted 44 = .ok (.aload_n 0, 1) := by decide +kernel
theorem d_Mo_sorted_45 : decode c_Mo_sorted 45 = .ok (.iload 4, 2) := by decide +kernel
theorem d_Mo_sorted_47 : decode c_Mo_sorted 47 = .ok (.invokevirtual 46, 3) := by decide +kernel
theorem d_Mo_sorted_50 : decode c_Mo_sorted 50 = .ok (.ifCond .eq 41, 3) := by decide +kernel
theorem d_Mo_sorted_53 : decode c_Mo_sorted 53 = .ok (.aload_n 0, 1) := by decide +kernel
theorem d_Mo_sorted_54 : decode c_Mo_sorted 54 = .ok (.iload 4, 2) := by decide +kernel
theorem d_Mo_sorted_56 : decode c_Mo_sorted 56 = .ok (.invokevirtual 71, 3) := by decide +kernel
theorem d_Mo_sorted_59 : decode c_Mo_sorted 59 = .ok (.aload_n 0, 1) := by decide +kernel
theorem d_Mo_sorted_60 : decode c_Mo_sorted 60 = .ok (.iload_n 2, 1) := by decide +kernel
theorem d_Mo_sorted_61 : decode c_Mo_sorted 61 = .ok (.invokevirtual 71, 3) := by decide +kernel
theorem d_Mo_sorted_64 : decode c_Mo_sorted 64 = .ok (.if_icmp .lt 23, 3) := by decide +kernel
theorem d_Mo_sorted_67 : decode c_Mo_sorted 67 = .ok (.aload_n 0, 1) := by decide +kernel
theorem d_Mo_sorted_68 : decode c_Mo_sorted 68 = .ok (.iload 4, 2) := by decide +kernel
theorem d_Mo_sorted_70 : decode c_Mo_sorted 70 = .ok (.invokevirtual 71, 3) := by decide +kernel
theorem d_Mo_sorted_73 : decode c_Mo_sorted 73 = .ok (.aload_n 0, 1) := by decide +kernel
theorem d_Mo_sorted_74 : decode c_Mo_sorted 74 = .ok (.iload_n 2, 1) := by decide +kernel
theorem d_Mo_sorted_75 : decode c_Mo_sorted 75 = .ok (.invokevirtual 71, 3) := by decide +kernel
theorem d_Mo_sorted_78 : decode c_Mo_sorted 78 = .ok (.if_icmp .ne 13, 3) := by decide +kernel
theorem d_Mo_sorted_81 : decode c_Mo_sorted 81 = .ok (.iload 4, 2) := by decide +kernel
theorem d_Mo_sorted_83 : decode c_Mo_sorted 83 = .ok (.iload_n 2, 1) := by decide +kernel
theorem d_Mo_sorted_84 : decode c_Mo_sorted 84 = .ok (.if_icmp .ge 7, 3) := by decide +kernel
theorem d_Mo_sorted_87 : decode c_Mo_sorted 87 = .ok (.iconst 1, 1) := by decide +kernel
theorem d_Mo_sorted_88 : decode c_Mo_sorted 88 = .ok (.goto 4, 3) := by decide +kernel
theorem d_Mo_sorted_91 : decode c_Mo_sorted 91 = .ok (.iconst 0, 1) := by decide +kernel
theorem d_Mo_sorted_92 : decode c_Mo_sorted 92 = .ok (.iadd, 1) := by decide +kernel
theorem d_Mo_sorted_93 : decode c_Mo_sorted 93 = .ok (.istore_n 3, 1) := by decide +kernel
theorem d_Mo_sorted_94 : decode c_Mo_sorted 94 = .ok (.iinc 4 1, 3) := by decide +kernel
theorem d_Mo_sorted_97 : decode c_Mo_sorted 97 = .ok (.goto (-73), 3) := by decide +kernel
theorem d_Mo_sorted_100 : decode c_Mo_sorted 100 = .ok (.aload_n 0, 1) := by decide +kernel
theorem d_Mo_sorted_101 : decode c_Mo_sorted 101 = .ok (.iload_n 2, 1) := by decide +kernel
theorem d_Mo_sorted_102 : decode c_Mo_sorted 102 = .ok (.invokevirtual 46, 3) := by decide +kernel
theorem d_Mo_sorted_105 : decode c_Mo_sorted 105 = .ok (.ifCond .eq 10, 3) := by decide +kernel
theorem d_Mo_sorted_108 : decode c_Mo_sorted 108 = .ok (.iload_n 3, 1) := by decide +kernel
theorem d_Mo_sorted_109 : decode c_Mo_sorted 109 = .ok (.iload_n 1, 1) := by decide +kernel
theorem d_Mo_sorted_110 : decode c_Mo_sorted 110 = .ok (.if_icmp .ne 5, 3) := by decide +kernel
theorem d_Mo_sorted_113 : decode c_Mo_sorted 113 = .ok (.iload_n 2, 1) := by decide +kernel
theorem d_Mo_sorted_114 : decode c_Mo_sorted 114 = .ok (.ireturn, 1) := by decide +kernel
theorem d_Mo_sorted_115 : decode c_Mo_sorted 115 = .ok (.iinc 2 1, 3) := by decide +kernel
theorem d_Mo_sorted_118 : decode c_Mo_sorted 118 = .ok (.goto (-109), 3) := by decide +kernel
theorem d_Mo_sorted_121 : decode c_Mo_sorted 121 = .ok (.bipush (-5), 2) := by decide +kernel
theorem d_Mo_sorted_123 : decode c_Mo_sorted 123 = .ok (.ireturn, 1) := by decide +kernel
theorem d_Mo_room_0 : decode c_Mo_room 0 = .ok (.aload_n 0, 1) := by decide +kernel
theorem d_Mo_room_1 : decode c_Mo_room 1 = .ok (.iload_n 1, 1) := by decide +kernel
theorem d_Mo_room_2 : decode c_Mo_room 2 = .ok (.invokevirtual 139, 3) := by decide +kernel
theorem d_Mo_room_5 : decode c_Mo_room 5 = .ok (.ifCond .ne 5, 3) := by decide +kernel
theorem d_Mo_room_8 : decode c_Mo_room 8 = .ok (.iconst (-1), 1) := by decide +kernel
theorem d_Mo_room_9 : decode c_Mo_room 9 = .ok (.ireturn, 1) := by decide +kernel
theorem d_Mo_room_10 : decode c_Mo_room 10 = .ok (.iload_n 2, 1) := by decide +kernel
theorem d_Mo_room_11 : decode c_Mo_room 11 = .ok (.iconst 0, 1) := by decide +kernel
theorem d_Mo_room_12 : decode c_Mo_room 12 = .ok (.bipush 8, 2) := by decide +kernel
theorem d_Mo_room_14 : decode c_Mo_room 14 = .ok (.invokestatic 35, 3) := by decide +kernel
theorem d_Mo_room_17 : decode c_Mo_room 17 = .ok (.ifCond .ne 6, 3) := by decide +kernel
theorem d_Mo_room_20 : decode c_Mo_room 20 = .ok (.bipush (-2), 2) := by decide +kernel
theorem d_Mo_room_22 : decode c_Mo_room 22 = .ok (.ireturn, 1) := by decide +kernel
theorem d_Mo_room_23 : decode c_Mo_room 23 = .ok (.aload_n 0, 1) := by decide +kernel
theorem d_Mo_room_24 : decode c_Mo_room 24 = .ok (.iload_n 1, 1) := by decide +kernel
theorem d_Mo_room_25 : decode c_Mo_room 25 = .ok (.bipush 8, 2) := by decide +kernel
theorem d_Mo_room_27 : decode c_Mo_room 27 = .ok (.invokevirtual 74, 3) := by decide +kernel
theorem d_Mo_room_30 : decode c_Mo_room 30 = .ok (.iconst 1, 1) := by decide +kernel
theorem d_Mo_room_31 : decode c_Mo_room 31 = .ok (.if_icmp .ne 7, 3) := by decide +kernel
theorem d_Mo_room_34 : decode c_Mo_room 34 = .ok (.iconst 1, 1) := by decide +kernel
theorem d_Mo_room_35 : decode c_Mo_room 35 = .ok (.goto 4, 3) := by decide +kernel
theorem d_Mo_room_38 : decode c_Mo_room 38 = .ok (.iconst 0, 1) := by decide +kernel
theorem d_Mo_room_39 : decode c_Mo_room 39 = .ok (.istore_n 3, 1) := by decide +kernel
theorem d_Mo_room_40 : decode c_Mo_room 40 = .ok (.iload_n 2, 1) := by decide +kernel
theorem d_Mo_room_41 : decode c_Mo_room 41 = .ok (.iconst 3, 1) := by decide +kernel
theorem d_Mo_room_42 : decode c_Mo_room 42 = .ok (.if_icmp .le 10, 3) := by decide +kernel
theorem d_Mo_room_45 : decode c_Mo_room 45 = .ok (.iload_n 3, 1) := by decide +kernel
theorem d_Mo_room_46 : decode c_Mo_room 46 = .ok (.ifCond .ne 6, 3) := by decide +kernel
theorem d_Mo_room_49 : decode c_Mo_room 49 = .ok (.bipush (-5), 2) := by decide +kernel
theorem d_Mo_room_51 : decode c_Mo_room 51 = .ok (.ireturn, 1) := by decide +kernel
theorem d_Mo_room_52 : decode c_Mo_room 52 = .ok (.iload_n 2, 1) := by decide +kernel
theorem d_Mo_room_53 : decode c_Mo_room 53 = .ok (.tableswitch 104 0 7 #[47, 54, 60, 68, 76, 84, 92, 98], 47) := by decide +kernel
theorem d_Mo_room_100 : decode c_Mo_room 100 = .ok (.aload_n 0, 1) := by decide +kernel
theorem d_Mo_room_101 : decode c_Mo_room 101 = .ok (.iload_n 1, 1) := by decide +kernel
theorem d_Mo_room_102 : decode c_Mo_room 102 = .ok (.iconst 0, 1) := by decide +kernel
theorem d_Mo_room_103 : decode c_Mo_room 103 = .ok (.invokevirtual 74, 3) := by decide +kernel
theorem d_Mo_room_106 : decode c_Mo_room 106 = .ok (.ireturn, 1) := by decide +kernel
theorem d_Mo_room_107 : decode c_Mo_room 107 = .ok (.aload_n 0, 1) := by decide +kernel
theorem d_Mo_room_108 : decode c_Mo_room 108 = .ok (.iload_n 1, 1) := by decide +kernel
theorem d_Mo_room_109 : decode c_Mo_room 109 = .ok (.invokevirtual 117, 3) := by decide +kernel
theorem d_Mo_room_112 : decode c_Mo_room 112 = .ok (.ireturn, 1) := by decide +kernel
theorem d_Mo_room_113 : decode c_Mo_room 113 = .ok (.aload_n 0, 1) := by decide +kernel
theorem d_Mo_room_114 : decode c_Mo_room 114 = .ok (.iload_n 1, 1) := by decide +kernel
theorem d_Mo_room_115 : decode c_Mo_room 115 = .ok (.bipush 7, 2) := by decide +kernel
theorem d_Mo_room_117 : decode c_Mo_room 117 = .ok (.invokevirtual 74, 3) := by decide +kernel
theorem d_Mo_room_120 : decode c_Mo_room 120 = .ok (.ireturn, 1) := by decide +kernel
theorem d_Mo_room_121 : decode c_Mo_room 121 = .ok (.aload_n 0, 1) := by decide +kernel
theorem d_Mo_room_122 : decode c_Mo_room 122 = .ok (.iload_n 1, 1) := by decide +kernel
theorem d_Mo_room_123 : decode c_Mo_room 123 = .ok (.bipush 8, 2) := by decide +kernel
theorem d_Mo_room_125 : decode c_Mo_room 125 = .ok (.invokevirtual 74, 3) := by decide +kernel
theorem d_Mo_room_128 : decode c_Mo_room 128 = .ok (.ireturn, 1) := by decide +kernel
theorem d_Mo_room_129 : decode c_Mo_room 129 = .ok (.aload_n 0, 1) := by decide +kernel
theorem d_Mo_room_130 : decode c_Mo_room 130 = .ok (.iload_n 1, 1) := by decide +kernel
theorem d_Mo_room_131 : decode c_Mo_room 131 = .ok (.bipush 9, 2) := by decide +kernel
theorem d_Mo_room_133 : decode c_Mo_room 133 = .ok (.invokevirtual 74, 3) := by decide +kernel
theorem d_Mo_room_136 : decode c_Mo_room 136 = .ok (.ireturn, 1) := by decide +kernel
theorem d_Mo_room_137 : decode c_Mo_room 137 = .ok (.aload_n 0, 1) := by decide +kernel
theorem d_Mo_room_138 : decode c_Mo_room 138 = .ok (.iload_n 1, 1) := by decide +kernel
theorem d_Mo_room_139 : decode c_Mo_room 139 = .ok (.bipush 10, 2) := by decide +kernel
theorem d_Mo_room_141 : decode c_Mo_room 141 = .ok (.invokevirtual 74, 3) := by decide +kernel
theorem d_Mo_room_144 : decode c_Mo_room 144 = .ok (.ireturn, 1) := by decide +kernel
theorem d_Mo_room_145 : decode c_Mo_room 145 = .ok (.aload_n 0, 1) := by decide +kernel
theorem d_Mo_room_146 : decode c_Mo_room 146 = .ok (.iload_n 1, 1) := by decide +kernel
theorem d_Mo_room_147 : decode c_Mo_room 147 = .ok (.invokevirtual 160, 3) := by decide +kernel
theorem d_Mo_room_150 : decode c_Mo_room 150 = .ok (.ireturn, 1) := by decide +kernel
theorem d_Mo_room_151 : decode c_Mo_room 151 = .ok (.aload_n 0, 1) := by decide +kernel
theorem d_Mo_room_152 : decode c_Mo_room 152 = .ok (.iload_n 1, 1) := by decide +kernel
theorem d_Mo_room_153 : decode c_Mo_room 153 = .ok (.invokevirtual 194, 3) := by decide +kernel
theorem d_Mo_room_156 : decode c_Mo_room 156 = .ok (.ireturn, 1) := by decide +kernel
theorem d_Mo_room_157 : decode c_Mo_room 157 = .ok (.aload_n 0, 1) := by decide +kernel
theorem d_Mo_room_158 : decode c_Mo_room 158 = .ok (.iload_n 1, 1) := by decide +kernel
theorem d_Mo_room_159 : decode c_Mo_room 159 = .ok (.bipush 11, 2) := by decide +kernel
theorem d_Mo_room_161 : decode c_Mo_room 161 = .ok (.invokevirtual 74, 3) := by decide +kernel
theorem d_Mo_room_164 : decode c_Mo_room 164 = .ok (.ireturn, 1) := by decide +kernel
theorem d_Mo_strip_0 : decode c_Mo_strip 0 = .ok (.aload_n 0, 1) := by decide +kernel
theorem d_Mo_strip_1 : decode c_Mo_strip 1 = .ok (.iload_n 1, 1) := by decide +kernel
theorem d_Mo_strip_2 : decode c_Mo_strip 2 = .ok (.invokevirtual 139, 3) := by decide +kernel
theorem d_Mo_strip_5 : decode c_Mo_strip 5 = .ok (.ifCond .ne 5, 3) := by decide +kernel
theorem d_Mo_strip_8 : decode c_Mo_strip 8 = .ok (.iconst (-1), 1) := by decide +kernel
theorem d_Mo_strip_9 : decode c_Mo_strip 9 = .ok (.ireturn, 1) := by decide +kernel
theorem d_Mo_strip_10 : decode c_Mo_strip 10 = .ok (.iload_n 2, 1) := by decide +kernel
theorem d_Mo_strip_11 : decode c_Mo_strip 11 = .ok (.ifCond .lt 12, 3) := by decide +kernel
theorem d_Mo_strip_14 : decode c_Mo_strip 14 = .ok (.iload_n 3, 1) := by decide +kernel
theorem d_Mo_strip_15 : decode c_Mo_strip 15 = .ok (.iconst 0, 1) := by decide +kernel
theorem d_Mo_strip_16 : decode c_Mo_strip 16 = .ok (.iconst 2, 1) := by decide +kernel
theorem d_Mo_strip_17 : decode c_Mo_strip 17 = .ok (.invokestatic 35, 3) := by decide +kernel
theorem d_Mo_strip_20 : decode c_Mo_strip 20 = .ok (.ifCond .ne 6, 3) := by decide +kernel
theorem d_Mo_strip_23 : decode c_Mo_strip 23 = .ok (.bipush (-2), 2) := by decide +kernel
theorem d_Mo_strip_25 : decode c_Mo_strip 25 = .ok (.ireturn, 1) := by decide +kernel
theorem d_Mo_strip_26 : decode c_Mo_strip 26 = .ok (.aload_n 0, 1) := by decide +kernel
theorem d_Mo_strip_27 : decode c_Mo_strip 27 = .ok (.iload_n 1, 1) := by decide +kernel
theorem d_Mo_strip_28 : decode c_Mo_strip 28 = .ok (.bipush 8, 2) := by decide +kernel
theorem d_Mo_strip_30 : decode c_Mo_strip 30 = .ok (.invokevirtual 74, 3) := by decide +kernel
theorem d_Mo_strip_33 : decode c_Mo_strip 33 = .ok (.ifCond .eq 12, 3) := by decide +kernel
theorem d_Mo_strip_36 : decode c_Mo_strip 36 = .ok (.iload_n 2, 1) := by decide +kernel
theorem d_Mo_strip_37 : decode c_Mo_strip 37 = .ok (.aload_n 0, 1) := by decide +kernel
theorem d_Mo_strip_38 : decode c_Mo_strip 38 = .ok (.iload_n 1, 1) := by decide +kernel
theorem d_Mo_strip_39 : decode c_Mo_strip 39 = .ok (.invokevirtual 160, 3) := by decide +kernel
theorem d_Mo_strip_42 : decode c_Mo_strip 42 = .ok (.if_icmp .lt 6, 3) := by decide +kernel
theorem d_Mo_strip_45 : decode c_Mo_strip 45 = .ok (.bipush (-5), 2) := by decide +kernel
theorem d_Mo_strip_47 : decode c_Mo_strip 47 = .ok (.ireturn, 1) := by decide +kernel
theorem d_Mo_strip_48 : decode c_Mo_strip 48 = .ok (.iload_n 3, 1) := by decide +kernel
theorem d_Mo_strip_49 : decode c_Mo_strip 49 = .ok (.ifCond .ne 12, 3) := by decide +kernel
theorem d_Mo_strip_52 : decode c_Mo_strip 52 = .ok (.aload_n 0, 1) := by decide +kernel
theorem d_Mo_strip_53 : decode c_Mo_strip 53 = .ok (.iload_n 1, 1) := by decide +kernel
theorem d_Mo_strip_54 : decode c_Mo_strip 54 = .ok (.iload_n 2, 1) := by decide +kernel
theorem d_Mo_strip_55 : decode c_Mo_strip 55 = .ok (.invokevirtual 163, 3) := by decide +kernel
theorem d_Mo_strip_58 : decode c_Mo_strip 58 = .ok (.goto 32, 3) := by decide +kernel
theorem d_Mo_strip_61 : decode c_Mo_strip 61 = .ok (.iload_n 3, 1) := by decide +kernel
theorem d_Mo_strip_62 : decode c_Mo_strip 62 = .ok (.iconst 1, 1) := by decide +kernel
theorem d_Mo_strip_63 : decode c_Mo_strip 63 = .ok (.if_icmp .ne 12, 3) := by decide +kernel
theorem d_Mo_strip_66 : decode c_Mo_strip 66 = .ok (.aload_n 0, 1) := by decide +kernel
theorem d_Mo_strip_67 : decode c_Mo_strip 67 = .ok (.iload_n 1, 1) := by decide +kernel
theorem d_Mo_strip_68 : decode c_Mo_strip 68 = .ok (.iload_n 2, 1) := by decide +kernel
theorem d_Mo_strip_69 : decode c_Mo_strip 69 = .ok (.invokevirtual 166, 3) := by decide +kernel
theorem d_Mo_strip_72 : decode c_Mo_strip 72 = .ok (.goto 18, 3) := by decide +kernel
theorem d_Mo_strip_75 : decode c_Mo_strip 75 = .ok (.aload_n 0, 1) := by decide +kernel
theorem d_Mo_strip_76 : decode c_Mo_strip 76 = .ok (.getfield 7, 3) := by decide +kernel
theorem d_Mo_strip_79 : decode c_Mo_strip 79 = .ok (.sipush 1233, 3) := by decide +kernel
theorem d_Mo_strip_82 : decode c_Mo_strip 82 = .ok (.bipush 36, 2) := by decide +kernel
theorem d_Mo_strip_84 : decode c_Mo_strip 84 = .ok (.iload_n 1, 1) := by decide +kernel
theorem d_Mo_strip_85 : decode c_Mo_strip 85 = .ok (.imul, 1) := by decide +kernel
theorem d_Mo_strip_86 : decode c_Mo_strip 86 = .ok (.iadd, 1) := by decide +kernel
theorem d_Mo_strip_87 : decode c_Mo_strip 87 = .ok (.iload_n 2, 1) := by decide +kernel
theorem d_Mo_strip_88 : decode c_Mo_strip 88 = .ok (.iadd, 1) := by decide +kernel
theorem d_Mo_strip_89 : decode c_Mo_strip 89 = .ok (.iaload, 1) := by decide +kernel
theorem d_Mo_strip_90 : decode c_Mo_strip 90 = .ok (.ireturn, 1) := by decide +kernel
theorem d_Mo_wasteOfAll_0 : decode c_Mo_wasteOfAll 0 = .ok (.iconst 0, 1) := by decide +kernel
theorem d_Mo_wasteOfAll_1 : decode c_Mo_wasteOfAll 1 = .ok (.istore_n 1, 1) := by decide +kernel
theorem d_Mo_wasteOfAll_2 : decode c_Mo_wasteOfAll 2 = .ok (.iconst 0, 1) := by decide +kernel
theorem d_Mo_wasteOfAll_3 : decode c_Mo_wasteOfAll 3 = .ok (.istore_n 2, 1) := by decide +kernel
theorem d_Mo_wasteOfAll_4 : decode c_Mo_wasteOfAll 4 = .ok (.iload_n 2, 1) := by decide +kernel
theorem d_Mo_wasteOfAll_5 : decode c_Mo_wasteOfAll 5 = .ok (.aload_n 0, 1) := by decide +kernel
theorem d_Mo_wasteOfAll_6 : decode c_Mo_wasteOfAll 6 = .ok (.getfield 7, 3) := by decide +kernel
theorem d_Mo_wasteOfAll_9 : decode c_Mo_wasteOfAll 9 = .ok (.iconst 0, 1) := by decide +kernel
theorem d_Mo_wasteOfAll_10 : decode c_Mo_wasteOfAll 10 = .ok (.iaload, 1) := by decide +kernel
theorem d_Mo_wasteOfAll_11 : decode c_Mo_wasteOfAll 11 = .ok (.if_icmp .ge 18, 3) := by decide +kernel
theorem d_Mo_wasteOfAll_14 : decode c_Mo_wasteOfAll 14 = .ok (.iload_n 1, 1) := by decide +kernel
theorem d_Mo_wasteOfAll_15 : decode c_Mo_wasteOfAll 15 = .ok (.aload_n 0, 1) := by decide +kernel
theorem d_Mo_wasteOfAll_16 : decode c_Mo_wasteOfAll 16 = .ok (.iload_n 2, 1) := by decide +kernel
theorem d_Mo_wasteOfAll_17 : decode c_Mo_wasteOfAll 17 = .ok (.iconst 5, 1) := by decide +kernel
theorem d_Mo_wasteOfAll_18 : decode c_Mo_wasteOfAll 18 = .ok (.invokevirtual 90, 3) := by decide +kernel
theorem d_Mo_wasteOfAll_21 : decode c_Mo_wasteOfAll 21 = .ok (.iadd, 1) := by decide +kernel
theorem d_Mo_wasteOfAll_22 : decode c_Mo_wasteOfAll 22 = .ok (.istore_n 1, 1) := by decide +kernel
theorem d_Mo_wasteOfAll_23 : decode c_Mo_wasteOfAll 23 = .ok (.iinc 2 1, 3) := by decide +kernel
theorem d_Mo_wasteOfAll_26 : decode c_Mo_wasteOfAll 26 = .ok (.goto (-22), 3) := by decide +kernel
theorem d_Mo_wasteOfAll_29 : decode c_Mo_wasteOfAll 29 = .ok (.iload_n 1, 1) := by decide +kernel
theorem d_Mo_wasteOfAll_30 : decode c_Mo_wasteOfAll 30 = .ok (.ireturn, 1) := by decide +kernel
theorem d_Mo_count_0 : decode c_Mo_count 0 = .ok (.iload_n 1, 1) := by decide +kernel
theorem d_Mo_count_1 : decode c_Mo_count 1 = .ok (.bipush 11, 2) := by decide +kernel
theorem d_Mo_count_3 : decode c_Mo_count 3 = .ok (.bipush 15, 2) := by decide +kernel
theorem d_Mo_count_5 : decode c_Mo_count 5 = .ok (.invokestatic 35, 3) := by decide +kernel
theorem d_Mo_count_8 : decode c_Mo_count 8 = .ok (.ifCond .eq 15, 3) := by decide +kernel
theorem d_Mo_count_11 : decode c_Mo_count 11 = .ok (.aload_n 0, 1) := by decide +kernel
theorem d_Mo_count_12 : decode c_Mo_count 12 = .ok (.getfield 7, 3) := by decide +kernel
theorem d_Mo_count_15 : decode c_Mo_count 15 = .ok (.iconst 4, 1) := by decide +kernel
theorem d_Mo_count_16 : decode c_Mo_count 16 = .ok (.iload_n 1, 1) := by decide +kernel
theorem d_Mo_count_17 : decode c_Mo_count 17 = .ok (.iadd, 1) := by decide +kernel
theorem d_Mo_count_18 : decode c_Mo_count 18 = .ok (.bipush 11, 2) := by decide +kernel
theorem d_Mo_count_20 : decode c_Mo_count 20 = .ok (.isub, 1) := by decide +kernel
theorem d_Mo_count_21 : decode c_Mo_count 21 = .ok (.iaload, 1) := by decide +kernel
theorem d_Mo_count_22 : decode c_Mo_count 22 = .ok (.ireturn, 1) := by decide +kernel
theorem d_Mo_count_23 : decode c_Mo_count 23 = .ok (.iconst 0, 1) := by decide +kernel
theorem d_Mo_count_24 : decode c_Mo_count 24 = .ok (.istore_n 2, 1) := by decide +kernel
theorem d_Mo_count_25 : decode c_Mo_count 25 = .ok (.iconst 0, 1) := by decide +kernel
theorem d_Mo_count_26 : decode c_Mo_count 26 = .ok (.istore_n 3, 1) := by decide +kernel
theorem d_Mo_count_27 : decode c_Mo_count 27 = .ok (.iconst 0, 1) := by decide +kernel
theorem d_Mo_count_28 : decode c_Mo_count 28 = .ok (.istore 4, 2) := by decide +kernel
theorem d_Mo_count_30 : decode c_Mo_count 30 = .ok (.iconst 0, 1) := by decide +kernel
theorem d_Mo_count_31 : decode c_Mo_count 31 = .ok (.istore 5, 2) := by decide +kernel
theorem d_Mo_count_33 : decode c_Mo_count 33 = .ok (.iload 5, 2) := by decide +kernel
theorem d_Mo_count_35 : decode c_Mo_count 35 = .ok (.aload_n 0, 1) := by decide +kernel
theorem d_Mo_count_36 : decode c_Mo_count 36 = .ok (.getfield 7, 3) := by decide +kernel
theorem d_Mo_count_39 : decode c_Mo_count 39 = .ok (.iconst 2, 1) := by decide +kernel
theorem d_Mo_count_40 : decode c_Mo_count 40 = .ok (.iaload, 1) := by decide +kernel
theorem d_Mo_count_41 : decode c_Mo_count 41 = .ok (.if_icmp .ge 45, 3) := by decide +kernel
theorem d_Mo_count_44 : decode c_Mo_count 44 = .ok (.iload_n 2, 1) := by decide +kernel
theorem d_Mo_count_45 : decode c_Mo_count 45 = .ok (.aload_n 0, 1) := by decide +kernel
theorem d_Mo_count_46 : decode c_Mo_count 46 = .ok (.iload 5, 2) := by decide +kernel
theorem d_Mo_count_48 : decode c_Mo_count 48 = .ok (.bipush 8, 2) := by decide +kernel
theorem d_Mo_count_50 : decode c_Mo_count 50 = .ok (.invokevirtual 74, 3) := by decide +kernel
theorem d_Mo_count_53 : decode c_Mo_count 53 = .ok (.iadd, 1) := by decide +kernel
theorem d_Mo_count_54 : decode c_Mo_count 54 = .ok (.istore_n 2, 1) := by decide +kernel
theorem d_Mo_count_55 : decode c_Mo_count 55 = .ok (.iload_n 3, 1) := by decide +kernel
theorem d_Mo_count_56 : decode c_Mo_count 56 = .ok (.aload_n 0, 1) := by decide +kernel
theorem d_Mo_count_57 : decode c_Mo_count 57 = .ok (.iload 5, 2) := by decide +kernel
theorem d_Mo_count_59 : decode c_Mo_count 59 = .ok (.bipush 8, 2) := by decide +kernel
theorem d_Mo_count_61 : decode c_Mo_count 61 = .ok (.invokevirtual 74, 3) := by decide +kernel
theorem d_Mo_count_64 : decode c_Mo_count 64 = .ok (.iconst 1, 1) := by decide +kernel
theorem d_Mo_count_65 : decode c_Mo_count 65 = .ok (.if_icmp .ne 12, 3) := by decide +kernel
theorem d_Mo_count_68 : decode c_Mo_count 68 = .ok (.aload_n 0, 1) := by decide +kernel
theorem d_Mo_count_69 : decode c_Mo_count 69 = .ok (.iload 5, 2) := by decide +kernel
theorem d_Mo_count_71 : decode c_Mo_count 71 = .ok (.invokevirtual 117, 3) := by decide +kernel
theorem d_Mo_count_74 : decode c_Mo_count 74 = .ok (.goto 4, 3) := by decide +kernel
theorem d_Mo_count_77 : decode c_Mo_count 77 = .ok (.iconst 0, 1) := by decide +kernel
theorem d_Mo_count_78 : decode c_Mo_count 78 = .ok (.iadd, 1) := by decide +kernel
theorem d_Mo_count_79 : decode c_Mo_count 79 = .ok (.istore_n 3, 1) := by decide +kernel
theorem d_Mo_count_80 : decode c_Mo_count 80 = .ok (.iinc 5 1, 3) := by decide +kernel
theorem d_Mo_count_83 : decode c_Mo_count 83 = .ok (.goto (-50), 3) := by decide +kernel
theorem d_Mo_count_86 : decode c_Mo_count 86 = .ok (.iconst 0, 1) := by decide +kernel
theorem d_Mo_count_87 : decode c_Mo_count 87 = .ok (.istore 5, 2) := by decide +kernel
theorem d_Mo_count_89 : decode c_Mo_count 89 = .ok (.iload 5, 2) := by decide +kernel
theorem d_Mo_count_91 : decode c_Mo_count 91 = .ok (.aload_n 0, 1) := by decide +kernel
theorem d_Mo_count_92 : decode c_Mo_count 92 = .ok (.getfield 7, 3) := by decide +kernel
theorem d_Mo_count_95 : decode c_Mo_count 95 = .ok (.iconst 0, 1) := by decide +kernel
theorem d_Mo_count_96 : decode c_Mo_count 96 = .ok (.iaload, 1) := by decide +kernel
theorem d_Mo_count_97 : decode c_Mo_count 97 = .ok (.if_icmp .ge 20, 3) := by decide +kernel
theorem d_Mo_count_100 : decode c_Mo_count 100 = .ok (.iload 4, 2) := by decide +kernel
theorem d_Mo_count_102 : decode c_Mo_count 102 = .ok (.aload_n 0, 1) := by decide +kernel
theorem d_Mo_count_103 : decode c_Mo_count 103 = .ok (.iload 5, 2) := by decide +kernel
theorem d_Mo_count_105 : decode c_Mo_count 105 = .ok (.invokevirtual 191, 3) := by decide +kernel
theorem d_Mo_count_108 : decode c_Mo_count 108 = .ok (.iadd, 1) := by decide +kernel
theorem d_Mo_count_109 : decode c_Mo_count 109 = .ok (.istore 4, 2) := by decide +kernel
theorem d_Mo_count_111 : decode c_Mo_count 111 = .ok (.iinc 5 1, 3) := by decide +kernel
theorem d_Mo_count_114 : decode c_Mo_count 114 = .ok (.goto (-25), 3) := by decide +kernel
theorem d_Mo_count_117 : decode c_Mo_count 117 = .ok (.iload_n 1, 1) := by decide +kernel
theorem d_Mo_count_118 : decode c_Mo_count 118 = .ok (.tableswitch 113 0 10 #[58, 65, 72, 74, 79, 86, 91, 94, 96, 103, 108], 58) := by decide +kernel
theorem d_Mo_count_176 : decode c_Mo_count 176 = .ok (.aload_n 0, 1) := by decide +kernel
theorem d_Mo_count_177 : decode c_Mo_count 177 = .ok (.getfield 7, 3) := by decide +kernel
theorem d_Mo_count_180 : decode c_Mo_count 180 = .ok (.iconst 0, 1) := by decide +kernel
theorem d_Mo_count_181 : decode c_Mo_count 181 = .ok (.iaload, 1) := by decide +kernel
theorem d_Mo_count_182 : decode c_Mo_count 182 = .ok (.ireturn, 1) := by decide +kernel
theorem d_Mo_count_183 : decode c_Mo_count 183 = .ok (.aload_n 0, 1) := by decide +kernel
theorem d_Mo_count_184 : decode c_Mo_count 184 = .ok (.getfield 7, 3) := by decide +kernel
theorem d_Mo_count_187 : decode c_Mo_count 187 = .ok (.iconst 2, 1) := by decide +kernel
theorem d_Mo_count_188 : decode c_Mo_count 188 = .ok (.iaload, 1) := by decide +kernel
theorem d_Mo_count_189 : decode c_Mo_count 189 = .ok (.ireturn, 1) := by decide +kernel
theorem d_Mo_count_190 : decode c_Mo_count 190 = .ok (.iload_n 2, 1) := by decide +kernel
theorem d_Mo_count_191 : decode c_Mo_count 191 = .ok (.ireturn, 1) := by decide +kernel
theorem d_Mo_count_192 : decode c_Mo_count 192 = .ok (.aload_n 0, 1) := by decide +kernel
theorem d_Mo_count_193 : decode c_Mo_count 193 = .ok (.invokevirtual 64, 3) := by decide +kernel
theorem d_Mo_count_196 : decode c_Mo_count 196 = .ok (.ireturn, 1) := by decide +kernel
theorem d_Mo_count_197 : decode c_Mo_count 197 = .ok (.aload_n 0, 1) := by decide +kernel
theorem d_Mo_count_198 : decode c_Mo_count 198 = .ok (.getfield 7, 3) := by decide +kernel
theorem d_Mo_count_201 : decode c_Mo_count 201 = .ok (.iconst 1, 1) := by decide +kernel
theorem d_Mo_count_202 : decode c_Mo_count 202 = .ok (.iaload, 1) := by decide +kernel
theorem d_Mo_count_203 : decode c_Mo_count 203 = .ok (.ireturn, 1) := by decide +kernel
theorem d_Mo_count_204 : decode c_Mo_count 204 = .ok (.aload_n 0, 1) := by decide +kernel
theorem d_Mo_count_205 : decode c_Mo_count 205 = .ok (.invokevirtual 197, 3) := by decide +kernel
theorem d_Mo_count_208 : decode c_Mo_count 208 = .ok (.ireturn, 1) := by decide +kernel
theorem d_Mo_count_209 : decode c_Mo_count 209 = .ok (.iload 4, 2) := by decide +kernel
theorem d_Mo_count_211 : decode c_Mo_count 211 = .ok (.ireturn, 1) := by decide +kernel
theorem d_Mo_count_212 : decode c_Mo_count 212 = .ok (.iload_n 3, 1) := by decide +kernel
theorem d_Mo_count_213 : decode c_Mo_count 213 = .ok (.ireturn, 1) := by decide +kernel
theorem d_Mo_count_214 : decode c_Mo_count 214 = .ok (.aload_n 0, 1) := by decide +kernel
theorem d_Mo_count_215 : decode c_Mo_count 215 = .ok (.getfield 7, 3) := by decide +kernel
theorem d_Mo_count_218 : decode c_Mo_count 218 = .ok (.iconst 3, 1) := by decide +kernel
theorem d_Mo_count_219 : decode c_Mo_count 219 = .ok (.iaload, 1) := by decide +kernel
theorem d_Mo_count_220 : decode c_Mo_count 220 = .ok (.ireturn, 1) := by decide +kernel
theorem d_Mo_count_221 : decode c_Mo_count 221 = .ok (.aload_n 0, 1) := by decide +kernel
theorem d_Mo_count_222 : decode c_Mo_count 222 = .ok (.getfield 31, 3) := by decide +kernel
theorem d_Mo_count_225 : decode c_Mo_count 225 = .ok (.ireturn, 1) := by decide +kernel
theorem d_Mo_count_226 : decode c_Mo_count 226 = .ok (.aload_n 0, 1) := by decide +kernel
theorem d_Mo_count_227 : decode c_Mo_count 227 = .ok (.getfield 175, 3) := by decide +kernel
theorem d_Mo_count_230 : decode c_Mo_count 230 = .ok (.ireturn, 1) := by decide +kernel
theorem d_Mo_count_231 : decode c_Mo_count 231 = .ok (.bipush (-2), 2) := by decide +kernel
theorem d_Mo_count_233 : decode c_Mo_count 233 = .ok (.ireturn, 1) := by decide +kernel
theorem d_Mo_wasted_0 : decode c_Mo_wasted 0 = .ok (.aload_n 0, 1) := by decide +kernel
theorem d_Mo_wasted_1 : decode c_Mo_wasted 1 = .ok (.iload_n 1, 1) := by decide +kernel
theorem d_Mo_wasted_2 : decode c_Mo_wasted 2 = .ok (.invokevirtual 142, 3) := by decide +kernel
theorem d_Mo_wasted_5 : decode c_Mo_wasted 5 = .ok (.ifCond .eq 28, 3) := by decide +kernel
theorem d_Mo_wasted_8 : decode c_Mo_wasted 8 = .ok (.aload_n 0, 1) := by decide +kernel
theorem d_Mo_wasted_9 : decode c_Mo_wasted 9 = .ok (.iload_n 1, 1) := by decide +kernel
theorem d_Mo_wasted_10 : decode c_Mo_wasted 10 = .ok (.iconst 5, 1) := by decide +kernel
theorem d_Mo_wasted_11 : decode c_Mo_wasted 11 = .ok (.invokevirtual 90, 3) := by decide +kernel
theorem d_Mo_wasted_14 : decode c_Mo_wasted 14 = .ok (.i2d, 1) := by decide +kernel
theorem d_Mo_wasted_15 : decode c_Mo_wasted 15 = .ok (.aload_n 0, 1) := by decide +kernel
theorem d_Mo_wasted_16 : decode c_Mo_wasted 16 = .ok (.iload_n 1, 1) := by decide +kernel
theorem d_Mo_wasted_17 : decode c_Mo_wasted 17 = .ok (.iconst 1, 1) := by decide +kernel
theorem d_Mo_wasted_18 : decode c_Mo_wasted 18 = .ok (.invokevirtual 90, 3) := by decide +kernel
theorem d_Mo_wasted_21 : decode c_Mo_wasted 21 = .ok (.aload_n 0, 1) := by decide +kernel
theorem d_Mo_wasted_22 : decode c_Mo_wasted 22 = .ok (.iload_n 1, 1) := by decide +kernel
theorem d_Mo_wasted_23 : decode c_Mo_wasted 23 = .ok (.iconst 4, 1) := by decide +kernel
theorem d_Mo_wasted_24 : decode c_Mo_wasted 24 = .ok (.invokevirtual 90, 3) := by decide +kernel
theorem d_Mo_wasted_27 : decode c_Mo_wasted 27 = .ok (.imul, 1) := by decide +kernel
theorem d_Mo_wasted_28 : decode c_Mo_wasted 28 = .ok (.i2d, 1) := by decide +kernel
theorem d_Mo_wasted_29 : decode c_Mo_wasted 29 = .ok (.ddiv, 1) := by decide +kernel
theorem d_Mo_wasted_30 : decode c_Mo_wasted 30 = .ok (.goto 6, 3) := by decide +kernel
theorem d_Mo_wasted_33 : decode c_Mo_wasted 33 = .ok (.ldc2_w 200, 3) := by decide +kernel
theorem d_Mo_wasted_36 : decode c_Mo_wasted 36 = .ok (.dreturn, 1) := by decide +kernel
theorem d_Mo_ifCovered_0 : decode c_Mo_ifCovered 0 = .ok (.aload_n 0, 1) := by decide +kernel
theorem d_Mo_ifCovered_1 : decode c_Mo_ifCovered 1 = .ok (.iload_n 1, 1) := by decide +kernel
theorem d_Mo_ifCovered_2 : decode c_Mo_ifCovered 2 = .ok (.iload_n 2, 1) := by decide +kernel
theorem d_Mo_ifCovered_3 : decode c_Mo_ifCovered 3 = .ok (.iload_n 3, 1) := by decide +kernel
theorem d_Mo_ifCovered_4 : decode c_Mo_ifCovered 4 = .ok (.invokevirtual 145, 3) := by decide +kernel
theorem d_Mo_ifCovered_7 : decode c_Mo_ifCovered 7 = .ok (.istore 5, 2) := by decide +kernel
theorem d_Mo_ifCovered_9 : decode c_Mo_ifCovered 9 = .ok (.iload 5, 2) := by decide +kernel
theorem d_Mo_ifCovered_11 : decode c_Mo_ifCovered 11 = .ok (.iconst (-1), 1) := by decide +kernel
theorem d_Mo_ifCovered_12 : decode c_Mo_ifCovered 12 = .ok (.if_icmp .ne 5, 3) := by decide +kernel
theorem d_Mo_ifCovered_15 : decode c_Mo_ifCovered 15 = .ok (.iconst (-1), 1) := by decide +kernel
theorem d_Mo_ifCovered_16 : decode c_Mo_ifCovered 16 = .ok (.ireturn, 1) := by decide +kernel
theorem d_Mo_ifCovered_17 : decode c_Mo_ifCovered 17 = .ok (.iload 5, 2) := by decide +kernel
theorem d_Mo_ifCovered_19 : decode c_Mo_ifCovered 19 = .ok (.ifCond .lt 13, 3) := by decide +kernel
theorem d_Mo_ifCovered_22 : decode c_Mo_ifCovered 22 = .ok (.iload 4, 2) := by decide +kernel
theorem d_Mo_ifCovered_24 : decode c_Mo_ifCovered 24 = .ok (.iconst 0, 1) := by decide +kernel
theorem d_Mo_ifCovered_25 : decode c_Mo_ifCovered 25 = .ok (.iconst 5, 1) := by decide +kernel
theorem d_Mo_ifCovered_26 : decode c_Mo_ifCovered 26 = .ok (.invokestatic 35, 3) := by decide +kernel
theorem d_Mo_ifCovered_29 : decode c_Mo_ifCovered 29 = .ok (.ifCond .ne 6, 3) := by decide +kernel
theorem d_Mo_ifCovered_32 : decode c_Mo_ifCovered 32 = .ok (.bipush (-2), 2) := by decide +kernel
theorem d_Mo_ifCovered_34 : decode c_Mo_ifCovered 34 = .ok (.ireturn, 1) := by decide +kernel
theorem d_Mo_ifCovered_35 : decode c_Mo_ifCovered 35 = .ok (.aload_n 0, 1) := by decide +kernel
theorem d_Mo_ifCovered_36 : decode c_Mo_ifCovered 36 = .ok (.iload_n 2, 1) := by decide +kernel
theorem d_Mo_ifCovered_37 : decode c_Mo_ifCovered 37 = .ok (.iconst 5, 1) := by decide +kernel
theorem d_Mo_ifCovered_38 : decode c_Mo_ifCovered 38 = .ok (.invokevirtual 90, 3) := by decide +kernel
theorem d_Mo_ifCovered_41 : decode c_Mo_ifCovered 41 = .ok (.istore 6, 2) := by decide +kernel
theorem d_Mo_ifCovered_43 : decode c_Mo_ifCovered 43 = .ok (.aload_n 0, 1) := by decide +kernel
theorem d_Mo_ifCovered_44 : decode c_Mo_ifCovered 44 = .ok (.iload_n 2, 1) := by decide +kernel
theorem d_Mo_ifCovered_45 : decode c_Mo_ifCovered 45 = .ok (.iconst 2, 1) := by decide +kernel
theorem d_Mo_ifCovered_46 : decode c_Mo_ifCovered 46 = .ok (.invokevirtual 90, 3) := by decide +kernel
theorem d_Mo_ifCovered_49 : decode c_Mo_ifCovered 49 = .ok (.istore 7, 2) := by decide +kernel
theorem d_Mo_ifCovered_51 : decode c_Mo_ifCovered 51 = .ok (.aload_n 0, 1) := by decide +kernel
theorem d_Mo_ifCovered_52 : decode c_Mo_ifCovered 52 = .ok (.invokevirtual 148, 3) := by decide +kernel
theorem d_Mo_ifCovered_55 : decode c_Mo_ifCovered 55 = .ok (.aload_n 0, 1) := by decide +kernel
theorem d_Mo_ifCovered_56 : decode c_Mo_ifCovered 56 = .ok (.iload_n 1, 1) := by decide +kernel
theorem d_Mo_ifCovered_57 : decode c_Mo_ifCovered 57 = .ok (.iload_n 2, 1) := by decide +kernel
theorem d_Mo_ifCovered_58 : decode c_Mo_ifCovered 58 = .ok (.iload_n 3, 1) := by decide +kernel
theorem d_Mo_ifCovered_59 : decode c_Mo_ifCovered 59 = .ok (.invokevirtual 151, 3) := by decide +kernel
theorem d_Mo_ifCovered_62 : decode c_Mo_ifCovered 62 = .ok (.istore 8, 2) := by decide +kernel
theorem d_Mo_ifCovered_64 : decode c_Mo_ifCovered 64 = .ok (.aload_n 0, 1) := by decide +kernel
theorem d_Mo_ifCovered_65 : decode c_Mo_ifCovered 65 = .ok (.iload_n 2, 1) := by decide +kernel
theorem d_Mo_ifCovered_66 : decode c_Mo_ifCovered 66 = .ok (.iconst 5, 1) := by decide +kernel
theorem d_Mo_ifCovered_67 : decode c_Mo_ifCovered 67 = .ok (.invokevirtual 90, 3) := by decide +kernel
theorem d_Mo_ifCovered_70 : decode c_Mo_ifCovered 70 = .ok (.iload 6, 2) := by decide +kernel
theorem d_Mo_ifCovered_72 : decode c_Mo_ifCovered 72 = .ok (.isub, 1) := by decide +kernel
theorem d_Mo_ifCovered_73 : decode c_Mo_ifCovered 73 = .ok (.istore 9, 2) := by decide +kernel
theorem d_Mo_ifCovered_75 : decode c_Mo_ifCovered 75 = .ok (.iload 7, 2) := by decide +kernel
theorem d_Mo_ifCovered_77 : decode c_Mo_ifCovered 77 = .ok (.aload_n 0, 1) := by decide +kernel
theorem d_Mo_ifCovered_78 : decode c_Mo_ifCovered 78 = .ok (.iload_n 2, 1) := by decide +kernel
theorem d_Mo_ifCovered_79 : decode c_Mo_ifCovered 79 = .ok (.iconst 2, 1) := by decide +kernel
theorem d_Mo_ifCovered_80 : decode c_Mo_ifCovered 80 = .ok (.invokevirtual 90, 3) := by decide +kernel
theorem d_Mo_ifCovered_83 : decode c_Mo_ifCovered 83 = .ok (.isub, 1) := by decide +kernel
theorem d_Mo_ifCovered_84 : decode c_Mo_ifCovered 84 = .ok (.istore 10, 2) := by decide +kernel
theorem d_Mo_ifCovered_86 : decode c_Mo_ifCovered 86 = .ok (.aload_n 0, 1) := by decide +kernel
theorem d_Mo_ifCovered_87 : decode c_Mo_ifCovered 87 = .ok (.invokevirtual 154, 3) := by decide +kernel
theorem d_Mo_ifCovered_90 : decode c_Mo_ifCovered 90 = .ok (.iload 8, 2) := by decide +kernel
theorem d_Mo_ifCovered_92 : decode c_Mo_ifCovered 92 = .ok (.ifCond .le 9, 3) := by decide +kernel
theorem d_Mo_ifCovered_95 : decode c_Mo_ifCovered 95 = .ok (.bipush (-10), 2) := by decide +kernel
theorem d_Mo_ifCovered_97 : decode c_Mo_ifCovered 97 = .ok (.iload 8, 2) := by decide +kernel
theorem d_Mo_ifCovered_99 : decode c_Mo_ifCovered 99 = .ok (.isub, 1) := by decide +kernel
theorem d_Mo_ifCovered_100 : decode c_Mo_ifCovered 100 = .ok (.ireturn, 1) := by decide +kernel
theorem d_Mo_ifCovered_101 : decode c_Mo_ifCovered 101 = .ok (.iload 4, 2) := by decide +kernel
theorem d_Mo_ifCovered_103 : decode c_Mo_ifCovered 103 = .ok (.ifCond .ne 10, 3) := by decide +kernel
theorem d_Mo_ifCovered_106 : decode c_Mo_ifCovered 106 = .ok (.aload_n 0, 1) := by decide +kernel
theorem d_Mo_ifCovered_107 : decode c_Mo_ifCovered 107 = .ok (.getfield 120, 3) := by decide +kernel
theorem d_Mo_ifCovered_110 : decode c_Mo_ifCovered 110 = .ok (.goto 55, 3) := by decide +kernel
theorem d_Mo_ifCovered_113 : decode c_Mo_ifCovered 113 = .ok (.iload 4, 2) := by decide +kernel
theorem d_Mo_ifCovered_115 : decode c_Mo_ifCovered 115 = .ok (.iconst 1, 1) := by decide +kernel
theorem d_Mo_ifCovered_116 : decode c_Mo_ifCovered 116 = .ok (.if_icmp .ne 10, 3) := by decide +kernel
theorem d_Mo_ifCovered_119 : decode c_Mo_ifCovered 119 = .ok (.aload_n 0, 1) := by decide +kernel
theorem d_Mo_ifCovered_120 : decode c_Mo_ifCovered 120 = .ok (.getfield 77, 3) := by decide +kernel
theorem d_Mo_ifCovered_123 : decode c_Mo_ifCovered 123 = .ok (.goto 42, 3) := by decide +kernel
theorem d_Mo_ifCovered_126 : decode c_Mo_ifCovered 126 = .ok (.iload 4, 2) := by decide +kernel
theorem d_Mo_ifCovered_128 : decode c_Mo_ifCovered 128 = .ok (.iconst 2, 1) := by decide +kernel
theorem d_Mo_ifCovered_129 : decode c_Mo_ifCovered 129 = .ok (.if_icmp .ne 10, 3) := by decide +kernel
theorem d_Mo_ifCovered_132 : decode c_Mo_ifCovered 132 = .ok (.aload_n 0, 1) := by decide +kernel
theorem d_Mo_ifCovered_133 : decode c_Mo_ifCovered 133 = .ok (.getfield 80, 3) := by decide +kernel
theorem d_Mo_ifCovered_136 : decode c_Mo_ifCovered 136 = .ok (.goto 29, 3) := by decide +kernel
theorem d_Mo_ifCovered_139 : decode c_Mo_ifCovered 139 = .ok (.iload 4, 2) := by decide +kernel
theorem d_Mo_ifCovered_141 : decode c_Mo_ifCovered 141 = .ok (.iconst 3, 1) := by decide +kernel
theorem d_Mo_ifCovered_142 : decode c_Mo_ifCovered 142 = .ok (.if_icmp .ne 8, 3) := by decide +kernel
theorem d_Mo_ifCovered_145 : decode c_Mo_ifCovered 145 = .ok (.iload 9, 2) := by decide +kernel
theorem d_Mo_ifCovered_147 : decode c_Mo_ifCovered 147 = .ok (.goto 18, 3) := by decide +kernel
theorem d_Mo_ifCovered_150 : decode c_Mo_ifCovered 150 = .ok (.iload 4, 2) := by decide +kernel
theorem d_Mo_ifCovered_152 : decode c_Mo_ifCovered 152 = .ok (.iconst 4, 1) := by decide +kernel
theorem d_Mo_ifCovered_153 : decode c_Mo_ifCovered 153 = .ok (.if_icmp .ne 8, 3) := by decide +kernel
theorem d_Mo_ifCovered_156 : decode c_Mo_ifCovered 156 = .ok (.iload 10, 2) := by decide +kernel
theorem d_Mo_ifCovered_158 : decode c_Mo_ifCovered 158 = .ok (.goto 7, 3) := by decide +kernel
theorem d_Mo_ifCovered_161 : decode c_Mo_ifCovered 161 = .ok (.aload_n 0, 1) := by decide +kernel
theorem d_Mo_ifCovered_162 : decode c_Mo_ifCovered 162 = .ok (.getfield 83, 3) := by decide +kernel
theorem d_Mo_ifCovered_165 : decode c_Mo_ifCovered 165 = .ok (.ireturn, 1) := by decide +kernel
theorem d_Mo_bestFor_0 : decode c_Mo_bestFor 0 = .ok (.bipush (-5), 2) := by decide +kernel
theorem d_Mo_bestFor_2 : decode c_Mo_bestFor 2 = .ok (.istore_n 3, 1) := by decide +kernel
theorem d_Mo_bestFor_3 : decode c_Mo_bestFor 3 = .ok (.iconst 0, 1) := by decide +kernel
theorem d_Mo_bestFor_4 : decode c_Mo_bestFor 4 = .ok (.istore 4, 2) := by decide +kernel
theorem d_Mo_bestFor_6 : decode c_Mo_bestFor 6 = .ok (.iconst 0, 1) := by decide +kernel
theorem d_Mo_bestFor_7 : decode c_Mo_bestFor 7 = .ok (.istore 5, 2) := by decide +kernel
theorem d_Mo_bestFor_9 : decode c_Mo_bestFor 9 = .ok (.iconst 0, 1) := by decide +kernel
theorem d_Mo_bestFor_10 : decode c_Mo_bestFor 10 = .ok (.istore 6, 2) := by decide +kernel
theorem d_Mo_bestFor_12 : decode c_Mo_bestFor 12 = .ok (.iload 6, 2) := by decide +kernel
theorem d_Mo_bestFor_14 : decode c_Mo_bestFor 14 = .ok (.iconst 2, 1) := by decide +kernel
theorem d_Mo_bestFor_15 : decode c_Mo_bestFor 15 = .ok (.aload_n 0, 1) := by decide +kernel
theorem d_Mo_bestFor_16 : decode c_Mo_bestFor 16 = .ok (.getfield 7, 3) := by decide +kernel
theorem d_Mo_bestFor_19 : decode c_Mo_bestFor 19 = .ok (.iconst 0, 1) := by decide +kernel
theorem d_Mo_bestFor_20 : decode c_Mo_bestFor 20 = .ok (.iaload, 1) := by decide +kernel
theorem d_Mo_bestFor_21 : decode c_Mo_bestFor 21 = .ok (.imul, 1) := by decide +kernel
theorem d_Mo_bestFor_22 : decode c_Mo_bestFor 22 = .ok (.if_icmp .ge 90, 3) := by decide +kernel
theorem d_Mo_bestFor_25 : decode c_Mo_bestFor 25 = .ok (.aload_n 0, 1) := by decide +kernel
theorem d_Mo_bestFor_26 : decode c_Mo_bestFor 26 = .ok (.iload 6, 2) := by decide +kernel
theorem d_Mo_bestFor_28 : decode c_Mo_bestFor 28 = .ok (.iconst 2, 1) := by decide +kernel
theorem d_Mo_bestFor_29 : decode c_Mo_bestFor 29 = .ok (.idiv, 1) := by decide +kernel
theorem d_Mo_bestFor_30 : decode c_Mo_bestFor 30 = .ok (.iconst 0, 1) := by decide +kernel
theorem d_Mo_bestFor_31 : decode c_Mo_bestFor 31 = .ok (.invokevirtual 90, 3) := by decide +kernel
theorem d_Mo_bestFor_34 : decode c_Mo_bestFor 34 = .ok (.iload_n 2, 1) := by decide +kernel
theorem d_Mo_bestFor_35 : decode c_Mo_bestFor 35 = .ok (.if_icmp .eq 6, 3) := by decide +kernel
theorem d_Mo_bestFor_38 : decode c_Mo_bestFor 38 = .ok (.goto 68, 3) := by decide +kernel
theorem d_Mo_bestFor_41 : decode c_Mo_bestFor 41 = .ok (.aload_n 0, 1) := by decide +kernel
theorem d_Mo_bestFor_42 : decode c_Mo_bestFor 42 = .ok (.iload_n 1, 1) := by decide +kernel
theorem d_Mo_bestFor_43 : decode c_Mo_bestFor 43 = .ok (.iload 6, 2) := by decide +kernel
theorem d_Mo_bestFor_45 : decode c_Mo_bestFor 45 = .ok (.iconst 2, 1) := by decide +kernel
theorem d_Mo_bestFor_46 : decode c_Mo_bestFor 46 = .ok (.idiv, 1) := by decide +kernel
theorem d_Mo_bestFor_47 : decode c_Mo_bestFor 47 = .ok (.iload 6, 2) := by decide +kernel
theorem d_Mo_bestFor_49 : decode c_Mo_bestFor 49 = .ok (.iconst 2, 1) := by decide +kernel
theorem d_Mo_bestFor_50 : decode c_Mo_bestFor 50 = .ok (.irem, 1) := by decide +kernel
theorem d_Mo_bestFor_51 : decode c_Mo_bestFor 51 = .ok (.iconst 3, 1) := by decide +kernel
theorem d_Mo_bestFor_52 : decode c_Mo_bestFor 52 = .ok (.invokevirtual 202, 3) := by decide +kernel
theorem d_Mo_bestFor_55 : decode c_Mo_bestFor 55 = .ok (.istore 7, 2) := by decide +kernel
theorem d_Mo_bestFor_57 : decode c_Mo_bestFor 57 = .ok (.aload_n 0, 1) := by decide +kernel
theorem d_Mo_bestFor_58 : decode c_Mo_bestFor 58 = .ok (.getfield 120, 3) := by decide +kernel
theorem d_Mo_bestFor_61 : decode c_Mo_bestFor 61 = .ok (.istore 8, 2) := by decide +kernel
theorem d_Mo_bestFor_63 : decode c_Mo_bestFor 63 = .ok (.iload 7, 2) := by decide +kernel
theorem d_Mo_bestFor_65 : decode c_Mo_bestFor 65 = .ok (.ifCond .lt 41, 3) := by decide +kernel
theorem d_Mo_bestFor_68 : decode c_Mo_bestFor 68 = .ok (.iload_n 3, 1) := by decide +kernel
theorem d_Mo_bestFor_69 : decode c_Mo_bestFor 69 = .ok (.bipush (-5), 2) := by decide +kernel
theorem d_Mo_bestFor_71 : decode c_Mo_bestFor 71 = .ok (.if_icmp .eq 24, 3) := by decide +kernel
theorem d_Mo_bestFor_74 : decode c_Mo_bestFor 74 = .ok (.iload 7, 2) := by decide +kernel
theorem d_Mo_bestFor_76 : decode c_Mo_bestFor 76 = .ok (.iload 4, 2) := by decide +kernel
theorem d_Mo_bestFor_78 : decode c_Mo_bestFor 78 = .ok (.if_icmp .lt 17, 3) := by decide +kernel
theorem d_Mo_bestFor_81 : decode c_Mo_bestFor 81 = .ok (.iload 7, 2) := by decide +kernel
theorem d_Mo_bestFor_83 : decode c_Mo_bestFor 83 = .ok (.iload 4, 2) := by decide +kernel
theorem d_Mo_bestFor_85 : decode c_Mo_bestFor 85 = .ok (.if_icmp .ne 21, 3) := by decide +kernel
theorem d_Mo_bestFor_88 : decode c_Mo_bestFor 88 = .ok (.iload 8, 2) := by decide +kernel
theorem d_Mo_bestFor_90 : decode c_Mo_bestFor 90 = .ok (.iload 5, 2) := by decide +kernel
theorem d_Mo_bestFor_92 : decode c_Mo_bestFor 92 = .ok (.if_icmp .ge 14, 3) := by decide +kernel
theorem d_Mo_bestFor_95 : decode c_Mo_bestFor 95 = .ok (.iload 6, 2) := by decide +kernel
theorem d_Mo_bestFor_97 : decode c_Mo_bestFor 97 = .ok (.istore_n 3, 1) := by decide +kernel
theorem d_Mo_bestFor_98 : decode c_Mo_bestFor 98 = .ok (.iload 7, 2) := by decide +kernel
theorem d_Mo_bestFor_100 : decode c_Mo_bestFor 100 = .ok (.istore 4, 2) := by decide +kernel
theorem d_Mo_bestFor_102 : decode c_Mo_bestFor 102 = .ok (.iload 8, 2) := by decide +kernel
theorem d_Mo_bestFor_104 : decode c_Mo_bestFor 104 = .ok (.istore 5, 2) := by decide +kernel
theorem d_Mo_bestFor_106 : decode c_Mo_bestFor 106 = .ok (.iinc 6 1, 3) := by decide +kernel
theorem d_Mo_bestFor_109 : decode c_Mo_bestFor 109 = .ok (.goto (-97), 3) := by decide +kernel
theorem d_Mo_bestFor_112 : decode c_Mo_bestFor 112 = .ok (.iload_n 3, 1) := by decide +kernel
theorem d_Mo_bestFor_113 : decode c_Mo_bestFor 113 = .ok (.ireturn, 1) := by decide +kernel
theorem d_Mo_best_0 : decode c_Mo_best 0 = .ok (.aload_n 0, 1) := by decide +kernel
theorem d_Mo_best_1 : decode c_Mo_best 1 = .ok (.iload_n 1, 1) := by decide +kernel
theorem d_Mo_best_2 : decode c_Mo_best 2 = .ok (.invokevirtual 139, 3) := by decide +kernel
theorem d_Mo_best_5 : decode c_Mo_best 5 = .ok (.ifCond .ne 5, 3) := by decide +kernel
theorem d_Mo_best_8 : decode c_Mo_best 8 = .ok (.iconst (-1), 1) := by decide +kernel
theorem d_Mo_best_9 : decode c_Mo_best 9 = .ok (.ireturn, 1) := by decide +kernel
theorem d_Mo_best_10 : decode c_Mo_best 10 = .ok (.iload_n 2, 1) := by decide +kernel
theorem d_Mo_best_11 : decode c_Mo_best 11 = .ok (.iconst 0, 1) := by decide +kernel
theorem d_Mo_best_12 : decode c_Mo_best 12 = .ok (.bipush 9, 2) := by decide +kernel
theorem d_Mo_best_14 : decode c_Mo_best 14 = .ok (.invokestatic 35, 3) := by decide +kernel
theorem d_Mo_best_17 : decode c_Mo_best 17 = .ok (.ifCond .eq 12, 3) := by decide +kernel
theorem d_Mo_best_20 : decode c_Mo_best 20 = .ok (.iload_n 3, 1) := by decide +kernel
theorem d_Mo_best_21 : decode c_Mo_best 21 = .ok (.iconst 0, 1) := by decide +kernel
theorem d_Mo_best_22 : decode c_Mo_best 22 = .ok (.iconst 3, 1) := by decide +kernel
theorem d_Mo_best_23 : decode c_Mo_best 23 = .ok (.invokestatic 35, 3) := by decide +kernel
theorem d_Mo_best_26 : decode c_Mo_best 26 = .ok (.ifCond .ne 6, 3) := by decide +kernel
theorem d_Mo_best_29 : decode c_Mo_best 29 = .ok (.bipush (-2), 2) := by decide +kernel
theorem d_Mo_best_31 : decode c_Mo_best 31 = .ok (.ireturn, 1) := by decide +kernel
theorem d_Mo_best_32 : decode c_Mo_best 32 = .ok (.aload_n 0, 1) := by decide +kernel
theorem d_Mo_best_33 : decode c_Mo_best 33 = .ok (.iload_n 1, 1) := by decide +kernel
theorem d_Mo_best_34 : decode c_Mo_best 34 = .ok (.iload_n 2, 1) := by decide +kernel
theorem d_Mo_best_35 : decode c_Mo_best 35 = .ok (.invokevirtual 206, 3) := by decide +kernel
theorem d_Mo_best_38 : decode c_Mo_best 38 = .ok (.istore 4, 2) := by decide +kernel
theorem d_Mo_best_40 : decode c_Mo_best 40 = .ok (.iload 4, 2) := by decide +kernel
theorem d_Mo_best_42 : decode c_Mo_best 42 = .ok (.bipush (-5), 2) := by decide +kernel
theorem d_Mo_best_44 : decode c_Mo_best 44 = .ok (.if_icmp .eq 8, 3) := by decide +kernel
theorem d_Mo_best_47 : decode c_Mo_best 47 = .ok (.iload_n 3, 1) := by decide +kernel
theorem d_Mo_best_48 : decode c_Mo_best 48 = .ok (.iconst 2, 1) := by decide +kernel
theorem d_Mo_best_49 : decode c_Mo_best 49 = .ok (.if_icmp .ge 31, 3) := by decide +kernel
theorem d_Mo_best_52 : decode c_Mo_best 52 = .ok (.iload 4, 2) := by decide +kernel
theorem d_Mo_best_54 : decode c_Mo_best 54 = .ok (.bipush (-5), 2) := by decide +kernel
theorem d_Mo_best_56 : decode c_Mo_best 56 = .ok (.if_icmp .ne 8, 3) := by decide +kernel
theorem d_Mo_best_59 : decode c_Mo_best 59 = .ok (.bipush (-5), 2) := by decide +kernel
theorem d_Mo_best_61 : decode c_Mo_best 61 = .ok (.goto 18, 3) := by decide +kernel
theorem d_Mo_best_64 : decode c_Mo_best 64 = .ok (.iload_n 3, 1) := by decide +kernel
theorem d_Mo_best_65 : decode c_Mo_best 65 = .ok (.ifCond .ne 10, 3) := by decide +kernel
theorem d_Mo_best_68 : decode c_Mo_best 68 = .ok (.iload 4, 2) := by decide +kernel
theorem d_Mo_best_70 : decode c_Mo_best 70 = .ok (.iconst 2, 1) := by decide +kernel
theorem d_Mo_best_71 : decode c_Mo_best 71 = .ok (.idiv, 1) := by decide +kernel
theorem d_Mo_best_72 : decode c_Mo_best 72 = .ok (.goto 7, 3) := by decide +kernel
theorem d_Mo_best_75 : decode c_Mo_best 75 = .ok (.iload 4, 2) := by decide +kernel
theorem d_Mo_best_77 : decode c_Mo_best 77 = .ok (.iconst 2, 1) := by decide +kernel
theorem d_Mo_best_78 : decode c_Mo_best 78 = .ok (.irem, 1) := by decide +kernel
theorem d_Mo_best_79 : decode c_Mo_best 79 = .ok (.ireturn, 1) := by decide +kernel
theorem d_Mo_best_80 : decode c_Mo_best 80 = .ok (.aload_n 0, 1) := by decide +kernel
theorem d_Mo_best_81 : decode c_Mo_best 81 = .ok (.iload_n 1, 1) := by decide +kernel
theorem d_Mo_best_82 : decode c_Mo_best 82 = .ok (.iload 4, 2) := by decide +kernel
theorem d_Mo_best_84 : decode c_Mo_best 84 = .ok (.iconst 2, 1) := by decide +kernel
theorem d_Mo_best_85 : decode c_Mo_best 85 = .ok (.idiv, 1) := by decide +kernel
theorem d_Mo_best_86 : decode c_Mo_best 86 = .ok (.iload 4, 2) := by decide +kernel
theorem d_Mo_best_88 : decode c_Mo_best 88 = .ok (.iconst 2, 1) := by decide +kernel
theorem d_Mo_best_89 : decode c_Mo_best 89 = .ok (.irem, 1) := by decide +kernel
theorem d_Mo_best_90 : decode c_Mo_best 90 = .ok (.iload_n 3, 1) := by decide +kernel
theorem d_Mo_best_91 : decode c_Mo_best 91 = .ok (.iconst 2, 1) := by decide +kernel
theorem d_Mo_best_92 : decode c_Mo_best 92 = .ok (.if_icmp .ne 7, 3) := by decide +kernel
theorem d_Mo_best_95 : decode c_Mo_best 95 = .ok (.iconst 3, 1) := by decide +kernel
theorem d_Mo_best_96 : decode c_Mo_best 96 = .ok (.goto 4, 3) := by decide +kernel
theorem d_Mo_best_99 : decode c_Mo_best 99 = .ok (.iconst 0, 1) := by decide +kernel
theorem d_Mo_best_100 : decode c_Mo_best 100 = .ok (.invokevirtual 202, 3) := by decide +kernel
theorem d_Mo_best_103 : decode c_Mo_best 103 = .ok (.ireturn, 1) := by decide +kernel
theorem d_Mo_suits_0 : decode c_Mo_suits 0 = .ok (.aload_n 0, 1) := by decide +kernel
theorem d_Mo_suits_1 : decode c_Mo_suits 1 = .ok (.iload_n 1, 1) := by decide +kernel
theorem d_Mo_suits_2 : decode c_Mo_suits 2 = .ok (.invokevirtual 46, 3) := by decide +kernel
theorem d_Mo_suits_5 : decode c_Mo_suits 5 = .ok (.ifCond .ne 5, 3) := by decide +kernel
theorem d_Mo_suits_8 : decode c_Mo_suits 8 = .ok (.iconst (-1), 1) := by decide +kernel
theorem d_Mo_suits_9 : decode c_Mo_suits 9 = .ok (.ireturn, 1) := by decide +kernel
theorem d_Mo_suits_10 : decode c_Mo_suits 10 = .ok (.iconst 0, 1) := by decide +kernel
theorem d_Mo_suits_11 : decode c_Mo_suits 11 = .ok (.istore_n 2, 1) := by decide +kernel
theorem d_Mo_suits_12 : decode c_Mo_suits 12 = .ok (.iload_n 2, 1) := by decide +kernel
theorem d_Mo_suits_13 : decode c_Mo_suits 13 = .ok (.aload_n 0, 1) := by decide +kernel
theorem d_Mo_suits_14 : decode c_Mo_suits 14 = .ok (.getfield 7, 3) := by decide +kernel
theorem d_Mo_suits_17 : decode c_Mo_suits 17 = .ok (.iconst 2, 1) := by decide +kernel
theorem d_Mo_suits_18 : decode c_Mo_suits 18 = .ok (.iaload, 1) := by decide +kernel
theorem d_Mo_suits_19 : decode c_Mo_suits 19 = .ok (.if_icmp .ge 105, 3) := by decide +kernel
theorem d_Mo_suits_22 : decode c_Mo_suits 22 = .ok (.iconst 0, 1) := by decide +kernel
theorem d_Mo_suits_23 : decode c_Mo_suits 23 = .ok (.istore_n 3, 1) := by decide +kernel
theorem d_Mo_suits_24 : decode c_Mo_suits 24 = .ok (.iload_n 3, 1) := by decide +kernel
theorem d_Mo_suits_25 : decode c_Mo_suits 25 = .ok (.iconst 2, 1) := by decide +kernel
theorem d_Mo_suits_26 : decode c_Mo_suits 26 = .ok (.if_icmp .ge 92, 3) := by decide +kernel
theorem d_Mo_suits_29 : decode c_Mo_suits 29 = .ok (.aload_n 0, 1) := by decide +kernel
theorem d_Mo_suits_30 : decode c_Mo_suits 30 = .ok (.iload_n 2, 1) := by decide +kernel
theorem d_Mo_suits_31 : decode c_Mo_suits 31 = .ok (.bipush 8, 2) := by decide +kernel
theorem d_Mo_suits_33 : decode c_Mo_suits 33 = .ok (.invokevirtual 74, 3) := by decide +kernel
theorem d_Mo_suits_36 : decode c_Mo_suits 36 = .ok (.ifCond .ne 36, 3) := by decide +kernel
theorem d_Mo_suits_39 : decode c_Mo_suits 39 = .ok (.aload_n 0, 1) := by decide +kernel
theorem d_Mo_suits_40 : decode c_Mo_suits 40 = .ok (.iload_n 2, 1) := by decide +kernel
theorem d_Mo_suits_41 : decode c_Mo_suits 41 = .ok (.iconst 0, 1) := by decide +kernel
theorem d_Mo_suits_42 : decode c_Mo_suits 42 = .ok (.invokevirtual 74, 3) := by decide +kernel
theorem d_Mo_suits_45 : decode c_Mo_suits 45 = .ok (.iconst 1, 1) := by decide +kernel
theorem d_Mo_suits_46 : decode c_Mo_suits 46 = .ok (.if_icmp .ne 26, 3) := by decide +kernel
theorem d_Mo_suits_49 : decode c_Mo_suits 49 = .ok (.aload_n 0, 1) := by decide +kernel
theorem d_Mo_suits_50 : decode c_Mo_suits 50 = .ok (.getfield 7, 3) := by decide +kernel
theorem d_Mo_suits_53 : decode c_Mo_suits 53 = .ok (.bipush 8, 2) := by decide +kernel
theorem d_Mo_suits_55 : decode c_Mo_suits 55 = .ok (.iaload, 1) := by decide +kernel
theorem d_Mo_suits_56 : decode c_Mo_suits 56 = .ok (.ifCond .eq 12, 3) := by decide +kernel
theorem d_Mo_suits_59 : decode c_Mo_suits 59 = .ok (.aload_n 0, 1) := by decide +kernel
theorem d_Mo_suits_60 : decode c_Mo_suits 60 = .ok (.iload_n 2, 1) := by decide +kernel
theorem d_Mo_suits_61 : decode c_Mo_suits 61 = .ok (.iload_n 3, 1) := by decide +kernel
theorem d_Mo_suits_62 : decode c_Mo_suits 62 = .ok (.invokevirtual 86, 3) := by decide +kernel
theorem d_Mo_suits_65 : decode c_Mo_suits 65 = .ok (.ifCond .ne 7, 3) := by decide +kernel
theorem d_Mo_suits_68 : decode c_Mo_suits 68 = .ok (.iconst 1, 1) := by decide +kernel
theorem d_Mo_suits_69 : decode c_Mo_suits 69 = .ok (.goto 4, 3) := by decide +kernel
theorem d_Mo_suits_72 : decode c_Mo_suits 72 = .ok (.iconst 0, 1) := by decide +kernel
theorem d_Mo_suits_73 : decode c_Mo_suits 73 = .ok (.istore 4, 2) := by decide +kernel
theorem d_Mo_suits_75 : decode c_Mo_suits 75 = .ok (.iload 4, 2) := by decide +kernel
theorem d_Mo_suits_77 : decode c_Mo_suits 77 = .ok (.ifCond .eq 35, 3) := by decide +kernel
theorem d_Mo_suits_80 : decode c_Mo_suits 80 = .ok (.aload_n 0, 1) := by decide +kernel
theorem d_Mo_suits_81 : decode c_Mo_suits 81 = .ok (.iload_n 2, 1) := by decide +kernel
theorem d_Mo_suits_82 : decode c_Mo_suits 82 = .ok (.iconst 0, 1) := by decide +kernel
theorem d_Mo_suits_83 : decode c_Mo_suits 83 = .ok (.iload_n 3, 1) := by decide +kernel
theorem d_Mo_suits_84 : decode c_Mo_suits 84 = .ok (.invokevirtual 93, 3) := by decide +kernel
theorem d_Mo_suits_87 : decode c_Mo_suits 87 = .ok (.aload_n 0, 1) := by decide +kernel
theorem d_Mo_suits_88 : decode c_Mo_suits 88 = .ok (.iload_n 1, 1) := by decide +kernel
theorem d_Mo_suits_89 : decode c_Mo_suits 89 = .ok (.invokevirtual 39, 3) := by decide +kernel
theorem d_Mo_suits_92 : decode c_Mo_suits 92 = .ok (.if_icmp .gt 20, 3) := by decide +kernel
theorem d_Mo_suits_95 : decode c_Mo_suits 95 = .ok (.aload_n 0, 1) := by decide +kernel
theorem d_Mo_suits_96 : decode c_Mo_suits 96 = .ok (.iload_n 2, 1) := by decide +kernel
theorem d_Mo_suits_97 : decode c_Mo_suits 97 = .ok (.iconst 0, 1) := by decide +kernel
theorem d_Mo_suits_98 : decode c_Mo_suits 98 = .ok (.iload_n 3, 1) := by decide +kernel
theorem d_Mo_suits_99 : decode c_Mo_suits 99 = .ok (.invokevirtual 97, 3) := by decide +kernel
theorem d_Mo_suits_102 : decode c_Mo_suits 102 = .ok (.aload_n 0, 1) := by decide +kernel
theorem d_Mo_suits_103 : decode c_Mo_suits 103 = .ok (.iload_n 1, 1) := by decide +kernel
theorem d_Mo_suits_104 : decode c_Mo_suits 104 = .ok (.invokevirtual 43, 3) := by decide +kernel
theorem d_Mo_suits_107 : decode c_Mo_suits 107 = .ok (.if_icmp .gt 5, 3) := by decide +kernel
theorem d_Mo_suits_110 : decode c_Mo_suits 110 = .ok (.iload_n 2, 1) := by decide +kernel
theorem d_Mo_suits_111 : decode c_Mo_suits 111 = .ok (.ireturn, 1) := by decide +kernel
theorem d_Mo_suits_112 : decode c_Mo_suits 112 = .ok (.iinc 3 1, 3) := by decide +kernel
theorem d_Mo_suits_115 : decode c_Mo_suits 115 = .ok (.goto (-91), 3) := by decide +kernel
theorem d_Mo_suits_118 : decode c_Mo_suits 118 = .ok (.iinc 2 1, 3) := by decide +kernel
theorem d_Mo_suits_121 : decode c_Mo_suits 121 = .ok (.goto (-109), 3) := by decide +kernel
theorem d_Mo_suits_124 : decode c_Mo_suits 124 = .ok (.bipush (-5), 2) := by decide +kernel
theorem d_Mo_suits_126 : decode c_Mo_suits 126 = .ok (.ireturn, 1) := by decide +kernel
theorem d_Mo_coverAll_0 : decode c_Mo_coverAll 0 = .ok (.iload_n 1, 1) := by decide +kernel
theorem d_Mo_coverAll_1 : decode c_Mo_coverAll 1 = .ok (.iconst 0, 1) := by decide +kernel
theorem d_Mo_coverAll_2 : decode c_Mo_coverAll 2 = .ok (.bipush 9, 2) := by decide +kernel
theorem d_Mo_coverAll_4 : decode c_Mo_coverAll 4 = .ok (.invokestatic 35, 3) := by decide +kernel
theorem d_Mo_coverAll_7 : decode c_Mo_coverAll 7 = .ok (.ifCond .eq 12, 3) := by decide +kernel
theorem d_Mo_coverAll_10 : decode c_Mo_coverAll 10 = .ok (.iload_n 2, 1) := by decide +kernel
theorem d_Mo_coverAll_11 : decode c_Mo_coverAll 11 = .ok (.iconst 0, 1) := by decide +kernel
theorem d_Mo_coverAll_12 : decode c_Mo_coverAll 12 = .ok (.iconst 1, 1) := by decide +kernel
theorem d_Mo_coverAll_13 : decode c_Mo_coverAll 13 = .ok (.invokestatic 35, 3) := by decide +kernel
theorem d_Mo_coverAll_16 : decode c_Mo_coverAll 16 = .ok (.ifCond .ne 6, 3) := by decide +kernel
theorem d_Mo_coverAll_19 : decode c_Mo_coverAll 19 = .ok (.bipush (-2), 2) := by decide +kernel
theorem d_Mo_coverAll_21 : decode c_Mo_coverAll 21 = .ok (.ireturn, 1) := by decide +kernel
theorem d_Mo_coverAll_22 : decode c_Mo_coverAll 22 = .ok (.iconst 0, 1) := by decide +kernel
theorem d_Mo_coverAll_23 : decode c_Mo_coverAll 23 = .ok (.istore_n 3, 1) := by decide +kernel
theorem d_Mo_coverAll_24 : decode c_Mo_coverAll 24 = .ok (.iload_n 3, 1) := by decide +kernel
theorem d_Mo_coverAll_25 : decode c_Mo_coverAll 25 = .ok (.sipush 1953, 3) := by decide +kernel
theorem d_Mo_coverAll_28 : decode c_Mo_coverAll 28 = .ok (.if_icmp .ge 21, 3) := by decide +kernel
theorem d_Mo_coverAll_31 : decode c_Mo_coverAll 31 = .ok (.aload_n 0, 1) := by decide +kernel
theorem d_Mo_coverAll_32 : decode c_Mo_coverAll 32 = .ok (.getfield 19, 3) := by decide +kernel
theorem d_Mo_coverAll_35 : decode c_Mo_coverAll 35 = .ok (.iload_n 3, 1) := by decide +kernel
theorem d_Mo_coverAll_36 : decode c_Mo_coverAll 36 = .ok (.aload_n 0, 1) := by decide +kernel
theorem d_Mo_coverAll_37 : decode c_Mo_coverAll 37 = .ok (.getfield 7, 3) := by decide +kernel
theorem d_Mo_coverAll_40 : decode c_Mo_coverAll 40 = .ok (.iload_n 3, 1) := by decide +kernel
theorem d_Mo_coverAll_41 : decode c_Mo_coverAll 41 = .ok (.iaload, 1) := by decide +kernel
theorem d_Mo_coverAll_42 : decode c_Mo_coverAll 42 = .ok (.iastore, 1) := by decide +kernel
theorem d_Mo_coverAll_43 : decode c_Mo_coverAll 43 = .ok (.iinc 3 1, 3) := by decide +kernel
theorem d_Mo_coverAll_46 : decode c_Mo_coverAll 46 = .ok (.goto (-22), 3) := by decide +kernel
theorem d_Mo_coverAll_49 : decode c_Mo_coverAll 49 = .ok (.aload_n 0, 1) := by decide +kernel
theorem d_Mo_coverAll_50 : decode c_Mo_coverAll 50 = .ok (.invokevirtual 197, 3) := by decide +kernel
theorem d_Mo_coverAll_53 : decode c_Mo_coverAll 53 = .ok (.istore_n 3, 1) := by decide +kernel
theorem d_Mo_coverAll_54 : decode c_Mo_coverAll 54 = .ok (.iconst 0, 1) := by decide +kernel
theorem d_Mo_coverAll_55 : decode c_Mo_coverAll 55 = .ok (.istore 4, 2) := by decide +kernel
theorem d_Mo_coverAll_57 : decode c_Mo_coverAll 57 = .ok (.iconst 0, 1) := by decide +kernel
theorem d_Mo_coverAll_58 : decode c_Mo_coverAll 58 = .ok (.istore 5, 2) := by decide +kernel
theorem d_Mo_coverAll_60 : decode c_Mo_coverAll 60 = .ok (.iload 5, 2) := by decide +kernel
theorem d_Mo_coverAll_62 : decode c_Mo_coverAll 62 = .ok (.aload_n 0, 1) := by decide +kernel
theorem d_Mo_coverAll_63 : decode c_Mo_coverAll 63 = .ok (.getfield 7, 3) := by decide +kernel
theorem d_Mo_coverAll_66 : decode c_Mo_coverAll 66 = .ok (.iconst 2, 1) := by decide +kernel
theorem d_Mo_coverAll_67 : decode c_Mo_coverAll 67 = .ok (.iaload, 1) := by decide +kernel
theorem d_Mo_coverAll_68 : decode c_Mo_coverAll 68 = .ok (.if_icmp .ge 43, 3) := by decide +kernel
theorem d_Mo_coverAll_71 : decode c_Mo_coverAll 71 = .ok (.aload_n 0, 1) := by decide +kernel
theorem d_Mo_coverAll_72 : decode c_Mo_coverAll 72 = .ok (.iload 5, 2) := by decide +kernel
theorem d_Mo_coverAll_74 : decode c_Mo_coverAll 74 = .ok (.iload_n 1, 1) := by decide +kernel
theorem d_Mo_coverAll_75 : decode c_Mo_coverAll 75 = .ok (.invokevirtual 206, 3) := by decide +kernel
theorem d_Mo_coverAll_78 : decode c_Mo_coverAll 78 = .ok (.istore 6, 2) := by decide +kernel
theorem d_Mo_coverAll_80 : decode c_Mo_coverAll 80 = .ok (.iload 6, 2) := by decide +kernel
theorem d_Mo_coverAll_82 : decode c_Mo_coverAll 82 = .ok (.bipush (-5), 2) := by decide +kernel
theorem d_Mo_coverAll_84 : decode c_Mo_coverAll 84 = .ok (.if_icmp .eq 21, 3) := by decide +kernel
theorem d_Mo_coverAll_87 : decode c_Mo_coverAll 87 = .ok (.aload_n 0, 1) := by decide +kernel
theorem d_Mo_coverAll_88 : decode c_Mo_coverAll 88 = .ok (.iload 5, 2) := by decide +kernel
theorem d_Mo_coverAll_90 : decode c_Mo_coverAll 90 = .ok (.iload 6, 2) := by decide +kernel
theorem d_Mo_coverAll_92 : decode c_Mo_coverAll 92 = .ok (.iconst 2, 1) := by decide +kernel
theorem d_Mo_coverAll_93 : decode c_Mo_coverAll 93 = .ok (.idiv, 1) := by decide +kernel
theorem d_Mo_coverAll_94 : decode c_Mo_coverAll 94 = .ok (.iload 6, 2) := by decide +kernel
theorem d_Mo_coverAll_96 : decode c_Mo_coverAll 96 = .ok (.iconst 2, 1) := by decide +kernel
theorem d_Mo_coverAll_97 : decode c_Mo_coverAll 97 = .ok (.irem, 1) := by decide +kernel
theorem d_Mo_coverAll_98 : decode c_Mo_coverAll 98 = .ok (.invokevirtual 151, 3) := by decide +kernel
theorem d_Mo_coverAll_101 : decode c_Mo_coverAll 101 = .ok (.pop, 1) := by decide +kernel
theorem d_Mo_coverAll_102 : decode c_Mo_coverAll 102 = .ok (.iinc 4 1, 3) := by decide +kernel
theorem d_Mo_coverAll_105 : decode c_Mo_coverAll 105 = .ok (.iinc 5 1, 3) := by decide +kernel
theorem d_Mo_coverAll_108 : decode c_Mo_coverAll 108 = .ok (.goto (-48), 3) := by decide +kernel
theorem d_Mo_coverAll_111 : decode c_Mo_coverAll 111 = .ok (.aload_n 0, 1) := by decide +kernel
theorem d_Mo_coverAll_112 : decode c_Mo_coverAll 112 = .ok (.invokevirtual 197, 3) := by decide +kernel
theorem d_Mo_coverAll_115 : decode c_Mo_coverAll 115 = .ok (.iload_n 3, 1) := by decide +kernel
theorem d_Mo_coverAll_116 : decode c_Mo_coverAll 116 = .ok (.isub, 1) := by decide +kernel
theorem d_Mo_coverAll_117 : decode c_Mo_coverAll 117 = .ok (.istore 5, 2) := by decide +kernel
theorem d_Mo_coverAll_119 : decode c_Mo_coverAll 119 = .ok (.iconst 0, 1) := by decide +kernel
theorem d_Mo_coverAll_120 : decode c_Mo_coverAll 120 = .ok (.istore 6, 2) := by decide +kernel
theorem d_Mo_coverAll_122 : decode c_Mo_coverAll 122 = .ok (.iload 6, 2) := by decide +kernel
theorem d_Mo_coverAll_124 : decode c_Mo_coverAll 124 = .ok (.sipush 1953, 3) := by decide +kernel
theorem d_Mo_coverAll_127 : decode c_Mo_coverAll 127 = .ok (.if_icmp .ge 23, 3) := by decide +kernel
theorem d_Mo_coverAll_130 : decode c_Mo_coverAll 130 = .ok (.aload_n 0, 1) := by decide +kernel
theorem d_Mo_coverAll_131 : decode c_Mo_coverAll 131 = .ok (.getfield 7, 3) := by decide +kernel
theorem d_Mo_coverAll_134 : decode c_Mo_coverAll 134 = .ok (.iload 6, 2) := by decide +kernel
theorem d_Mo_coverAll_136 : decode c_Mo_coverAll 136 = .ok (.aload_n 0, 1) := by decide +kernel
theorem d_Mo_coverAll_137 : decode c_Mo_coverAll 137 = .ok (.getfield 19, 3) := by decide +kernel
theorem d_Mo_coverAll_140 : decode c_Mo_coverAll 140 = .ok (.iload 6, 2) := by decide +kernel
theorem d_Mo_coverAll_142 : decode c_Mo_coverAll 142 = .ok (.iaload, 1) := by decide +kernel
theorem d_Mo_coverAll_143 : decode c_Mo_coverAll 143 = .ok (.iastore, 1) := by decide +kernel
theorem d_Mo_coverAll_144 : decode c_Mo_coverAll 144 = .ok (.iinc 6 1, 3) := by decide +kernel
theorem d_Mo_coverAll_147 : decode c_Mo_coverAll 147 = .ok (.goto (-25), 3) := by decide +kernel
theorem d_Mo_coverAll_150 : decode c_Mo_coverAll 150 = .ok (.iload_n 2, 1) := by decide +kernel
theorem d_Mo_coverAll_151 : decode c_Mo_coverAll 151 = .ok (.ifCond .ne 8, 3) := by decide +kernel
theorem d_Mo_coverAll_154 : decode c_Mo_coverAll 154 = .ok (.iload 4, 2) := by decide +kernel
theorem d_Mo_coverAll_156 : decode c_Mo_coverAll 156 = .ok (.goto 5, 3) := by decide +kernel
theorem d_Mo_coverAll_159 : decode c_Mo_coverAll 159 = .ok (.iload 5, 2) := by decide +kernel
theorem d_Mo_coverAll_161 : decode c_Mo_coverAll 161 = .ok (.ireturn, 1) := by decide +kernel
theorem d_La_law_0 : decode c_La_law 0 = .ok (.new 7, 3) := by decide +kernel
theorem d_La_law_3 : decode c_La_law 3 = .ok (.dup, 1) := by decide +kernel
theorem d_La_law_4 : decode c_La_law 4 = .ok (.invokespecial 9, 3) := by decide +kernel
theorem d_La_law_7 : decode c_La_law 7 = .ok (.astore_n 1, 1) := by decide +kernel
theorem d_La_law_8 : decode c_La_law 8 = .ok (.new 10, 3) := by decide +kernel
theorem d_La_law_11 : decode c_La_law 11 = .ok (.dup, 1) := by decide +kernel
theorem d_La_law_12 : decode c_La_law 12 = .ok (.invokespecial 12, 3) := by decide +kernel
theorem d_La_law_15 : decode c_La_law 15 = .ok (.astore_n 2, 1) := by decide +kernel
theorem d_La_law_16 : decode c_La_law 16 = .ok (.iconst 0, 1) := by decide +kernel
theorem d_La_law_17 : decode c_La_law 17 = .ok (.istore_n 3, 1) := by decide +kernel
theorem d_La_law_18 : decode c_La_law 18 = .ok (.iload_n 3, 1) := by decide +kernel
theorem d_La_law_19 : decode c_La_law 19 = .ok (.aload_n 0, 1) := by decide +kernel
theorem d_La_law_20 : decode c_La_law 20 = .ok (.arraylength, 1) := by decide +kernel
theorem d_La_law_21 : decode c_La_law 21 = .ok (.iconst 5, 1) := by decide +kernel
theorem d_La_law_22 : decode c_La_law 22 = .ok (.isub, 1) := by decide +kernel
theorem d_La_law_23 : decode c_La_law 23 = .ok (.if_icmp .gt 829, 3) := by decide +kernel
theorem d_La_law_26 : decode c_La_law 26 = .ok (.aload_n 0, 1) := by decide +kernel
theorem d_La_law_27 : decode c_La_law 27 = .ok (.iload_n 3, 1) := by decide +kernel
theorem d_La_law_28 : decode c_La_law 28 = .ok (.iaload, 1) := by decide +kernel
theorem d_La_law_29 : decode c_La_law 29 = .ok (.bipush 31, 2) := by decide +kernel
theorem d_La_law_31 : decode c_La_law 31 = .ok (.iand, 1) := by decide +kernel
theorem d_La_law_32 : decode c_La_law 32 = .ok (.tableswitch 814 0 23 #[112, 165, 178, 221, 244, 267, 300, 333, 358, 371, 384, 397, 410, 423, 456, 489, 512, 545, 588, 611, 662, 715, 758, 781], 112) := by decide +kernel
theorem d_La_law_144 : decode c_La_law 144 = .ok (.aload_n 1, 1) := by decide +kernel
theorem d_La_law_145 : decode c_La_law 145 = .ok (.aload_n 0, 1) := by decide +kernel
theorem d_La_law_146 : decode c_La_law 146 = .ok (.iload_n 3, 1) := by decide +kernel
theorem d_La_law_147 : decode c_La_law 147 = .ok (.iconst 1, 1) := by decide +kernel
theorem d_La_law_148 : decode c_La_law 148 = .ok (.iadd, 1) := by decide +kernel
theorem d_La_law_149 : decode c_La_law 149 = .ok (.iaload, 1) := by decide +kernel
theorem d_La_law_150 : decode c_La_law 150 = .ok (.aload_n 0, 1) := by decide +kernel
theorem d_La_law_151 : decode c_La_law 151 = .ok (.iload_n 3, 1) := by decide +kernel
theorem d_La_law_152 : decode c_La_law 152 = .ok (.iconst 2, 1) := by decide +kernel
theorem d_La_law_153 : decode c_La_law 153 = .ok (.iadd, 1) := by decide +kernel
theorem d_La_law_154 : decode c_La_law 154 = .ok (.iaload, 1) := by decide +kernel
theorem d_La_law_155 : decode c_La_law 155 = .ok (.aload_n 0, 1) := by decide +kernel
theorem d_La_law_156 : decode c_La_law 156 = .ok (.iload_n 3, 1) := by decide +kernel
theorem d_La_law_157 : decode c_La_law 157 = .ok (.iconst 3, 1) := by decide +kernel
theorem d_La_law_158 : decode c_La_law 158 = .ok (.iadd, 1) := by decide +kernel
theorem d_La_law_159 : decode c_La_law 159 = .ok (.iaload, 1) := by decide +kernel
theorem d_La_law_160 : decode c_La_law 160 = .ok (.aload_n 0, 1) := by decide +kernel
theorem d_La_law_161 : decode c_La_law 161 = .ok (.iload_n 3, 1) := by decide +kernel
theorem d_La_law_162 : decode c_La_law 162 = .ok (.iconst 4, 1) := by decide +kernel
theorem d_La_law_163 : decode c_La_law 163 = .ok (.iadd, 1) := by decide +kernel
theorem d_La_law_164 : decode c_La_law 164 = .ok (.iaload, 1) := by decide +kernel
theorem d_La_law_165 : decode c_La_law 165 = .ok (.invokevirtual 13, 3) := by decide +kernel
theorem d_La_law_168 : decode c_La_law 168 = .ok (.aload_n 2, 1) := by decide +kernel
theorem d_La_law_169 : decode c_La_law 169 = .ok (.aload_n 0, 1) := by decide +kernel
theorem d_La_law_170 : decode c_La_law 170 = .ok (.iload_n 3, 1) := by decide +kernel
theorem d_La_law_171 : decode c_La_law 171 = .ok (.iconst 1, 1) := by decide +kernel
theorem d_La_law_172 : decode c_La_law 172 = .ok (.iadd, 1) := by decide +kernel
theorem d_La_law_173 : decode c_La_law 173 = .ok (.iaload, 1) := by decide +kernel
theorem d_La_law_174 : decode c_La_law 174 = .ok (.aload_n 0, 1) := by decide +kernel
theorem d_La_law_175 : decode c_La_law 175 = .ok (.iload_n 3, 1) := by decide +kernel
theorem d_La_law_176 : decode c_La_law 176 = .ok (.iconst 2, 1) := by decide +kernel
theorem d_La_law_177 : decode c_La_law 177 = .ok (.iadd, 1) := by decide +kernel
theorem d_La_law_178 : decode c_La_law 178 = .ok (.iaload, 1) := by decide +kernel
theorem d_La_law_179 : decode c_La_law 179 = .ok (.aload_n 0, 1) := by decide +kernel
theorem d_La_law_180 : decode c_La_law 180 = .ok (.iload_n 3, 1) := by decide +kernel
theorem d_La_law_181 : decode c_La_law 181 = .ok (.iconst 3, 1) := by decide +kernel
theorem d_La_law_182 : decode c_La_law 182 = .ok (.iadd, 1) := by decide +kernel
theorem d_La_law_183 : decode c_La_law 183 = .ok (.iaload, 1) := by decide +kernel
theorem d_La_law_184 : decode c_La_law 184 = .ok (.aload_n 0, 1) := by decide +kernel
theorem d_La_law_185 : decode c_La_law 185 = .ok (.iload_n 3, 1) := by decide +kernel
theorem d_La_law_186 : decode c_La_law 186 = .ok (.iconst 4, 1) := by decide +kernel
theorem d_La_law_187 : decode c_La_law 187 = .ok (.iadd, 1) := by decide +kernel
theorem d_La_law_188 : decode c_La_law 188 = .ok (.iaload, 1) := by decide +kernel
theorem d_La_law_189 : decode c_La_law 189 = .ok (.invokevirtual 17, 3) := by decide +kernel
theorem d_La_law_192 : decode c_La_law 192 = .ok (.if_icmp .eq 654, 3) := by decide +kernel
theorem d_La_law_195 : decode c_La_law 195 = .ok (.iconst 0, 1) := by decide +kernel
theorem d_La_law_196 : decode c_La_law 196 = .ok (.ireturn, 1) := by decide +kernel
theorem d_La_law_197 : decode c_La_law 197 = .ok (.aload_n 1, 1) := by decide +kernel
theorem d_La_law_198 : decode c_La_law 198 = .ok (.invokevirtual 18, 3) := by decide +kernel
theorem d_La_law_201 : decode c_La_law 201 = .ok (.aload_n 2, 1) := by decide +kernel
theorem d_La_law_202 : decode c_La_law 202 = .ok (.invokevirtual 22, 3) := by decide +kernel
theorem d_La_law_205 : decode c_La_law 205 = .ok (.if_icmp .eq 641, 3) := by decide +kernel
theorem d_La_law_208 : decode c_La_law 208 = .ok (.iconst 0, 1) := by decide +kernel
theorem d_La_law_209 : decode c_La_law 209 = .ok (.ireturn, 1) := by decide +kernel
theorem d_La_law_210 : decode c_La_law 210 = .ok (.aload_n 1, 1) := by decide +kernel
theorem d_La_law_211 : decode c_La_law 211 = .ok (.aload_n 0, 1) := by decide +kernel
theorem d_La_law_212 : decode c_La_law 212 = .ok (.iload_n 3, 1) := by decide +kernel
theorem d_La_law_213 : decode c_La_law 213 = .ok (.iconst 1, 1) := by decide +kernel
theorem d_La_law_214 : decode c_La_law 214 = .ok (.iadd, 1) := by decide +kernel
theorem d_La_law_215 : decode c_La_law 215 = .ok (.iaload, 1) := by decide +kernel
theorem d_La_law_216 : decode c_La_law 216 = .ok (.aload_n 0, 1) := by decide +kernel
theorem d_La_law_217 : decode c_La_law 217 = .ok (.iload_n 3, 1) := by decide +kernel
theorem d_La_law_218 : decode c_La_law 218 = .ok (.iconst 2, 1) := by decide +kernel
theorem d_La_law_219 : decode c_La_law 219 = .ok (.iadd, 1) := by decide +kernel
theorem d_La_law_220 : decode c_La_law 220 = .ok (.iaload, 1) := by decide +kernel
theorem d_La_law_221 : decode c_La_law 221 = .ok (.aload_n 0, 1) := by decide +kernel
theorem d_La_law_222 : decode c_La_law 222 = .ok (.iload_n 3, 1) := by decide +kernel
theorem d_La_law_223 : decode c_La_law 223 = .ok (.iconst 3, 1) := by decide +kernel
theorem d_La_law_224 : decode c_La_law 224 = .ok (.iadd, 1) := by decide +kernel
theorem d_La_law_225 : decode c_La_law 225 = .ok (.iaload, 1) := by decide +kernel
theorem d_La_law_226 : decode c_La_law 226 = .ok (.invokevirtual 23, 3) := by decide +kernel
theorem d_La_law_229 : decode c_La_law 229 = .ok (.aload_n 2, 1) := by decide +kernel
theorem d_La_law_230 : decode c_La_law 230 = .ok (.aload_n 0, 1) := by decide +kernel
theorem d_La_law_231 : decode c_La_law 231 = .ok (.iload_n 3, 1) := by decide +kernel
theorem d_La_law_232 : decode c_La_law 232 = .ok (.iconst 1, 1) := by decide +kernel
theorem d_La_law_233 : decode c_La_law 233 = .ok (.iadd, 1) := by decide +kernel
theorem d_La_law_234 : decode c_La_law 234 = .ok (.iaload, 1) := by decide +kernel
theorem d_La_law_235 : decode c_La_law 235 = .ok (.aload_n 0, 1) := by decide +kernel
theorem d_La_law_236 : decode c_La_law 236 = .ok (.iload_n 3, 1) := by decide +kernel
theorem d_La_law_237 : decode c_La_law 237 = .ok (.iconst 2, 1) := by decide +kernel
theorem d_La_law_238 : decode c_La_law 238 = .ok (.iadd, 1) := by decide +kernel
theorem d_La_law_239 : decode c_La_law 239 = .ok (.iaload, 1) := by decide +kernel
theorem d_La_law_240 : decode c_La_law 240 = .ok (.aload_n 0, 1) := by decide +kernel
theorem d_La_law_241 : decode c_La_law 241 = .ok (.iload_n 3, 1) := by decide +kernel
theorem d_La_law_242 : decode c_La_law 242 = .ok (.iconst 3, 1) := by decide +kernel
theorem d_La_law_243 : decode c_La_law 243 = .ok (.iadd, 1) := by decide +kernel
theorem d_La_law_244 : decode c_La_law 244 = .ok (.iaload, 1) := by decide +kernel
theorem d_La_law_245 : decode c_La_law 245 = .ok (.invokevirtual 27, 3) := by decide +kernel
theorem d_La_law_248 : decode c_La_law 248 = .ok (.if_icmp .eq 598, 3) := by decide +kernel
theorem d_La_law_251 : decode c_La_law 251 = .ok (.iconst 0, 1) := by decide +kernel
theorem d_La_law_252 : decode c_La_law 252 = .ok (.ireturn, 1) := by decide +kernel
theorem d_La_law_253 : decode c_La_law 253 = .ok (.aload_n 1, 1) := by decide +kernel
theorem d_La_law_254 : decode c_La_law 254 = .ok (.aload_n 0, 1) := by decide +kernel
theorem d_La_law_255 : decode c_La_law 255 = .ok (.iload_n 3, 1) := by decide +kernel
theorem d_La_law_256 : decode c_La_law 256 = .ok (.iconst 1, 1) := by decide +kernel
theorem d_La_law_257 : decode c_La_law 257 = .ok (.iadd, 1) := by decide +kernel
theorem d_La_law_258 : decode c_La_law 258 = .ok (.iaload, 1) := by decide +kernel
theorem d_La_law_259 : decode c_La_law 259 = .ok (.invokevirtual 28, 3) := by decide +kernel
theorem d_La_law_262 : decode c_La_law 262 = .ok (.aload_n 2, 1) := by decide +kernel
theorem d_La_law_263 : decode c_La_law 263 = .ok (.aload_n 0, 1) := by decide +kernel
theorem d_La_law_264 : decode c_La_law 264 = .ok (.iload_n 3, 1) := by decide +kernel
theorem d_La_law_265 : decode c_La_law 265 = .ok (.iconst 1, 1) := by decide +kernel
theorem d_La_law_266 : decode c_La_law 266 = .ok (.iadd, 1) := by decide +kernel
theorem d_La_law_267 : decode c_La_law 267 = .ok (.iaload, 1) := by decide +kernel
theorem d_La_law_268 : decode c_La_law 268 = .ok (.invokevirtual 32, 3) := by decide +kernel
theorem d_La_law_271 : decode c_La_law 271 = .ok (.if_icmp .eq 575, 3) := by decide +kernel
theorem d_La_law_274 : decode c_La_law 274 = .ok (.iconst 0, 1) := by decide +kernel
theorem d_La_law_275 : decode c_La_law 275 = .ok (.ireturn, 1) := by decide +kernel
theorem d_La_law_276 : decode c_La_law 276 = .ok (.aload_n 1, 1) := by decide +kernel
theorem d_La_law_277 : decode c_La_law 277 = .ok (.aload_n 0, 1) := by decide +kernel
theorem d_La_law_278 : decode c_La_law 278 = .ok (.iload_n 3, 1) := by decide +kernel
theorem d_La_law_279 : decode c_La_law 279 = .ok (.iconst 1, 1) := by decide +kernel
theorem d_La_law_280 : decode c_La_law 280 = .ok (.iadd, 1) := by decide +kernel
theorem d_La_law_281 : decode c_La_law 281 = .ok (.iaload, 1) := by decide +kernel
theorem d_La_law_282 : decode c_La_law 282 = .ok (.invokevirtual 33, 3) := by decide +kernel
theorem d_La_law_285 : decode c_La_law 285 = .ok (.aload_n 2, 1) := by decide +kernel
theorem d_La_law_286 : decode c_La_law 286 = .ok (.aload_n 0, 1) := by decide +kernel
theorem d_La_law_287 : decode c_La_law 287 = .ok (.iload_n 3, 1) := by decide +kernel
theorem d_La_law_288 : decode c_La_law 288 = .ok (.iconst 1, 1) := by decide +kernel
theorem d_La_law_289 : decode c_La_law 289 = .ok (.iadd, 1) := by decide +kernel
theorem d_La_law_290 : decode c_La_law 290 = .ok (.iaload, 1) := by decide +kernel
theorem d_La_law_291 : decode c_La_law 291 = .ok (.invokevirtual 36, 3) := by decide +kernel
theorem d_La_law_294 : decode c_La_law 294 = .ok (.if_icmp .eq 552, 3) := by decide +kernel
theorem d_La_law_297 : decode c_La_law 297 = .ok (.iconst 0, 1) := by decide +kernel
theorem d_La_law_298 : decode c_La_law 298 = .ok (.ireturn, 1) := by decide +kernel
theorem d_La_law_299 : decode c_La_law 299 = .ok (.aload_n 1, 1) := by decide +kernel
theorem d_La_law_300 : decode c_La_law 300 = .ok (.aload_n 0, 1) := by decide +kernel
theorem d_La_law_301 : decode c_La_law 301 = .ok (.iload_n 3, 1) := by decide +kernel
theorem d_La_law_302 : decode c_La_law 302 = .ok (.iconst 1, 1) := by decide +kernel
theorem d_La_law_303 : decode c_La_law 303 = .ok (.iadd, 1) := by decide +kernel
theorem d_La_law_304 : decode c_La_law 304 = .ok (.iaload, 1) := by decide +kernel
theorem d_La_law_305 : decode c_La_law 305 = .ok (.aload_n 0, 1) := by decide +kernel
theorem d_La_law_306 : decode c_La_law 306 = .ok (.iload_n 3, 1) := by decide +kernel
theorem d_La_law_307 : decode c_La_law 307 = .ok (.iconst 2, 1) := by decide +kernel
theorem d_La_law_308 : decode c_La_law 308 = .ok (.iadd, 1) := by decide +kernel
theorem d_La_law_309 : decode c_La_law 309 = .ok (.iaload, 1) := by decide +kernel
theorem d_La_law_310 : decode c_La_law 310 = .ok (.invokevirtual 37, 3) := by decide +kernel
theorem d_La_law_313 : decode c_La_law 313 = .ok (.aload_n 2, 1) := by decide +kernel
theorem d_La_law_314 : decode c_La_law 314 = .ok (.aload_n 0, 1) := by decide +kernel
theorem d_La_law_315 : decode c_La_law 315 = .ok (.iload_n 3, 1) := by decide +kernel
theorem d_La_law_316 : decode c_La_law 316 = .ok (.iconst 1, 1) := by decide +kernel
theorem d_La_law_317 : decode c_La_law 317 = .ok (.iadd, 1) := by decide +kernel
theorem d_La_law_318 : decode c_La_law 318 = .ok (.iaload, 1) := by decide +kernel
theorem d_La_law_319 : decode c_La_law 319 = .ok (.aload_n 0, 1) := by decide +kernel
theorem d_La_law_320 : decode c_La_law 320 = .ok (.iload_n 3, 1) := by decide +kernel
theorem d_La_law_321 : decode c_La_law 321 = .ok (.iconst 2, 1) := by decide +kernel
theorem d_La_law_322 : decode c_La_law 322 = .ok (.iadd, 1) := by decide +kernel
theorem d_La_law_323 : decode c_La_law 323 = .ok (.iaload, 1) := by decide +kernel
theorem d_La_law_324 : decode c_La_law 324 = .ok (.invokevirtual 41, 3) := by decide +kernel
theorem d_La_law_327 : decode c_La_law 327 = .ok (.if_icmp .eq 519, 3) := by decide +kernel
theorem d_La_law_330 : decode c_La_law 330 = .ok (.iconst 0, 1) := by decide +kernel
theorem d_La_law_331 : decode c_La_law 331 = .ok (.ireturn, 1) := by decide +kernel
theorem d_La_law_332 : decode c_La_law 332 = .ok (.aload_n 1, 1) := by decide +kernel
theorem d_La_law_333 : decode c_La_law 333 = .ok (.aload_n 0, 1) := by decide +kernel
theorem d_La_law_334 : decode c_La_law 334 = .ok (.iload_n 3, 1) := by decide +kernel
theorem d_La_law_335 : decode c_La_law 335 = .ok (.iconst 1, 1) := by decide +kernel
theorem d_La_law_336 : decode c_La_law 336 = .ok (.iadd, 1) := by decide +kernel
theorem d_La_law_337 : decode c_La_law 337 = .ok (.iaload, 1) := by decide +kernel
theorem d_La_law_338 : decode c_La_law 338 = .ok (.aload_n 0, 1) := by decide +kernel
theorem d_La_law_339 : decode c_La_law 339 = .ok (.iload_n 3, 1) := by decide +kernel
theorem d_La_law_340 : decode c_La_law 340 = .ok (.iconst 2, 1) := by decide +kernel
theorem d_La_law_341 : decode c_La_law 341 = .ok (.iadd, 1) := by decide +kernel
theorem d_La_law_342 : decode c_La_law 342 = .ok (.iaload, 1) := by decide +kernel
theorem d_La_law_343 : decode c_La_law 343 = .ok (.invokevirtual 42, 3) := by decide +kernel
theorem d_La_law_346 : decode c_La_law 346 = .ok (.aload_n 2, 1) := by decide +kernel
theorem d_La_law_347 : decode c_La_law 347 = .ok (.aload_n 0, 1) := by decide +kernel
theorem d_La_law_348 : decode c_La_law 348 = .ok (.iload_n 3, 1) := by decide +kernel
theorem d_La_law_349 : decode c_La_law 349 = .ok (.iconst 1, 1) := by decide +kernel
theorem d_La_law_350 : decode c_La_law 350 = .ok (.iadd, 1) := by decide +kernel
theorem d_La_law_351 : decode c_La_law 351 = .ok (.iaload, 1) := by decide +kernel
theorem d_La_law_352 : decode c_La_law 352 = .ok (.aload_n 0, 1) := by decide +kernel
theorem d_La_law_353 : decode c_La_law 353 = .ok (.iload_n 3, 1) := by decide +kernel
theorem d_La_law_354 : decode c_La_law 354 = .ok (.iconst 2, 1) := by decide +kernel
theorem d_La_law_355 : decode c_La_law 355 = .ok (.iadd, 1) := by decide +kernel
theorem d_La_law_356 : decode c_La_law 356 = .ok (.iaload, 1) := by decide +kernel
theorem d_La_law_357 : decode c_La_law 357 = .ok (.invokevirtual 45, 3) := by decide +kernel
theorem d_La_law_360 : decode c_La_law 360 = .ok (.if_icmp .eq 486, 3) := by decide +kernel
theorem d_La_law_363 : decode c_La_law 363 = .ok (.iconst 0, 1) := by decide +kernel
theorem d_La_law_364 : decode c_La_law 364 = .ok (.ireturn, 1) := by decide +kernel
theorem d_La_law_365 : decode c_La_law 365 = .ok (.aload_n 1, 1) := by decide +kernel
theorem d_La_law_366 : decode c_La_law 366 = .ok (.aload_n 0, 1) := by decide +kernel
theorem d_La_law_367 : decode c_La_law 367 = .ok (.iload_n 3, 1) := by decide +kernel
theorem d_La_law_368 : decode c_La_law 368 = .ok (.iconst 1, 1) := by decide +kernel
theorem d_La_law_369 : decode c_La_law 369 = .ok (.iadd, 1) := by decide +kernel
theorem d_La_law_370 : decode c_La_law 370 = .ok (.iaload, 1) := by decide +kernel
theorem d_La_law_371 : decode c_La_law 371 = .ok (.i2c, 1) := by decide +kernel
theorem d_La_law_372 : decode c_La_law 372 = .ok (.invokevirtual 46, 3) := by decide +kernel
theorem d_La_law_375 : decode c_La_law 375 = .ok (.aload_n 2, 1) := by decide +kernel
theorem d_La_law_376 : decode c_La_law 376 = .ok (.aload_n 0, 1) := by decide +kernel
theorem d_La_law_377 : decode c_La_law 377 = .ok (.iload_n 3, 1) := by decide +kernel
theorem d_La_law_378 : decode c_La_law 378 = .ok (.iconst 1, 1) := by decide +kernel
theorem d_La_law_379 : decode c_La_law 379 = .ok (.iadd, 1) := by decide +kernel
theorem d_La_law_380 : decode c_La_law 380 = .ok (.iaload, 1) := by decide +kernel
theorem d_La_law_381 : decode c_La_law 381 = .ok (.i2c, 1) := by decide +kernel
theorem d_La_law_382 : decode c_La_law 382 = .ok (.invokevirtual 50, 3) := by decide +kernel
theorem d_La_law_385 : decode c_La_law 385 = .ok (.if_icmp .eq 461, 3) := by decide +kernel
theorem d_La_law_388 : decode c_La_law 388 = .ok (.iconst 0, 1) := by decide +kernel
theorem d_La_law_389 : decode c_La_law 389 = .ok (.ireturn, 1) := by decide +kernel
theorem d_La_law_390 : decode c_La_law 390 = .ok (.aload_n 1, 1) := by decide +kernel
theorem d_La_law_391 : decode c_La_law 391 = .ok (.invokevirtual 51, 3) := by decide +kernel
theorem d_La_law_394 : decode c_La_law 394 = .ok (.aload_n 2, 1) := by decide +kernel
theorem d_La_law_395 : decode c_La_law 395 = .ok (.invokevirtual 54, 3) := by decide +kernel
theorem d_La_law_398 : decode c_La_law 398 = .ok (.if_icmp .eq 448, 3) := by decide +kernel
theorem d_La_law_401 : decode c_La_law 401 = .ok (.iconst 0, 1) := by decide +kernel
theorem d_La_law_402 : decode c_La_law 402 = .ok (.ireturn, 1) := by decide +kernel
theorem d_La_law_403 : decode c_La_law 403 = .ok (.aload_n 1, 1) := by decide +kernel
theorem d_La_law_404 : decode c_La_law 404 = .ok (.invokevirtual 55, 3) := by decide +kernel
theorem d_La_law_407 : decode c_La_law 407 = .ok (.aload_n 2, 1) := by decide +kernel
theorem d_La_law_408 : decode c_La_law 408 = .ok (.invokevirtual 58, 3) := by decide +kernel
theorem d_La_law_411 : decode c_La_law 411 = .ok (.if_icmp .eq 435, 3) := by decide +kernel
theorem d_La_law_414 : decode c_La_law 414 = .ok (.iconst 0, 1) := by decide +kernel
theorem d_La_law_415 : decode c_La_law 415 = .ok (.ireturn, 1) := by decide +kernel
theorem d_La_law_416 : decode c_La_law 416 = .ok (.aload_n 1, 1) := by decide +kernel
theorem d_La_law_417 : decode c_La_law 417 = .ok (.invokevirtual 59, 3) := by decide +kernel
theorem d_La_law_420 : decode c_La_law 420 = .ok (.aload_n 2, 1) := by decide +kernel
theorem d_La_law_421 : decode c_La_law 421 = .ok (.invokevirtual 62, 3) := by decide +kernel
theorem d_La_law_424 : decode c_La_law 424 = .ok (.if_icmp .eq 422, 3) := by decide +kernel
theorem d_La_law_427 : decode c_La_law 427 = .ok (.iconst 0, 1) := by decide +kernel
theorem d_La_law_428 : decode c_La_law 428 = .ok (.ireturn, 1) := by decide +kernel
theorem d_La_law_429 : decode c_La_law 429 = .ok (.aload_n 1, 1) := by decide +kernel
theorem d_La_law_430 : decode c_La_law 430 = .ok (.invokevirtual 63, 3) := by decide +kernel
theorem d_La_law_433 : decode c_La_law 433 = .ok (.aload_n 2, 1) := by decide +kernel
theorem d_La_law_434 : decode c_La_law 434 = .ok (.invokevirtual 66, 3) := by decide +kernel
theorem d_La_law_437 : decode c_La_law 437 = .ok (.if_icmp .eq 409, 3) := by decide +kernel
theorem d_La_law_440 : decode c_La_law 440 = .ok (.iconst 0, 1) := by decide +kernel
theorem d_La_law_441 : decode c_La_law 441 = .ok (.ireturn, 1) := by decide +kernel
theorem d_La_law_442 : decode c_La_law 442 = .ok (.aload_n 1, 1) := by decide +kernel
theorem d_La_law_443 : decode c_La_law 443 = .ok (.invokevirtual 67, 3) := by decide +kernel
theorem d_La_law_446 : decode c_La_law 446 = .ok (.aload_n 2, 1) := by decide +kernel
theorem d_La_law_447 : decode c_La_law 447 = .ok (.invokevirtual 70, 3) := by decide +kernel
theorem d_La_law_450 : decode c_La_law 450 = .ok (.if_icmp .eq 396, 3) := by decide +kernel
theorem d_La_law_453 : decode c_La_law 453 = .ok (.iconst 0, 1) := by decide +kernel
theorem d_La_law_454 : decode c_La_law 454 = .ok (.ireturn, 1) := by decide +kernel
theorem d_La_law_455 : decode c_La_law 455 = .ok (.aload_n 1, 1) := by decide +kernel
theorem d_La_law_456 : decode c_La_law 456 = .ok (.aload_n 0, 1) := by decide +kernel
theorem d_La_law_457 : decode c_La_law 457 = .ok (.iload_n 3, 1) := by decide +kernel
theorem d_La_law_458 : decode c_La_law 458 = .ok (.iconst 1, 1) := by decide +kernel
theorem d_La_law_459 : decode c_La_law 459 = .ok (.iadd, 1) := by decide +kernel
theorem d_La_law_460 : decode c_La_law 460 = .ok (.iaload, 1) := by decide +kernel
theorem d_La_law_461 : decode c_La_law 461 = .ok (.aload_n 0, 1) := by decide +kernel
theorem d_La_law_462 : decode c_La_law 462 = .ok (.iload_n 3, 1) := by decide +kernel
theorem d_La_law_463 : decode c_La_law 463 = .ok (.iconst 2, 1) := by decide +kernel
theorem d_La_law_464 : decode c_La_law 464 = .ok (.iadd, 1) := by decide +kernel
theorem d_La_law_465 : decode c_La_law 465 = .ok (.iaload, 1) := by decide +kernel
theorem d_La_law_466 : decode c_La_law 466 = .ok (.invokevirtual 71, 3) := by decide +kernel
theorem d_La_law_469 : decode c_La_law 469 = .ok (.aload_n 2, 1) := by decide +kernel
theorem d_La_law_470 : decode c_La_law 470 = .ok (.aload_n 0, 1) := by decide +kernel
theorem d_La_law_471 : decode c_La_law 471 = .ok (.iload_n 3, 1) := by decide +kernel
theorem d_La_law_472 : decode c_La_law 472 = .ok (.iconst 1, 1) := by decide +kernel
theorem d_La_law_473 : decode c_La_law 473 = .ok (.iadd, 1) := by decide +kernel
theorem d_La_law_474 : decode c_La_law 474 = .ok (.iaload, 1) := by decide +kernel
theorem d_La_law_475 : decode c_La_law 475 = .ok (.aload_n 0, 1) := by decide +kernel
theorem d_La_law_476 : decode c_La_law 476 = .ok (.iload_n 3, 1) := by decide +kernel
theorem d_La_law_477 : decode c_La_law 477 = .ok (.iconst 2, 1) := by decide +kernel
theorem d_La_law_478 : decode c_La_law 478 = .ok (.iadd, 1) := by decide +kernel
theorem d_La_law_479 : decode c_La_law 479 = .ok (.iaload, 1) := by decide +kernel
theorem d_La_law_480 : decode c_La_law 480 = .ok (.invokevirtual 74, 3) := by decide +kernel
theorem d_La_law_483 : decode c_La_law 483 = .ok (.if_icmp .eq 363, 3) := by decide +kernel
theorem d_La_law_486 : decode c_La_law 486 = .ok (.iconst 0, 1) := by decide +kernel
theorem d_La_law_487 : decode c_La_law 487 = .ok (.ireturn, 1) := by decide +kernel
theorem d_La_law_488 : decode c_La_law 488 = .ok (.aload_n 1, 1) := by decide +kernel
theorem d_La_law_489 : decode c_La_law 489 = .ok (.aload_n 0, 1) := by decide +kernel
theorem d_La_law_490 : decode c_La_law 490 = .ok (.iload_n 3, 1) := by decide +kernel
theorem d_La_law_491 : decode c_La_law 491 = .ok (.iconst 1, 1) := by decide +kernel
theorem d_La_law_492 : decode c_La_law 492 = .ok (.iadd, 1) := by decide +kernel
theorem d_La_law_493 : decode c_La_law 493 = .ok (.iaload, 1) := by decide +kernel
theorem d_La_law_494 : decode c_La_law 494 = .ok (.aload_n 0, 1) := by decide +kernel
theorem d_La_law_495 : decode c_La_law 495 = .ok (.iload_n 3, 1) := by decide +kernel
theorem d_La_law_496 : decode c_La_law 496 = .ok (.iconst 2, 1) := by decide +kernel
theorem d_La_law_497 : decode c_La_law 497 = .ok (.iadd, 1) := by decide +kernel
theorem d_La_law_498 : decode c_La_law 498 = .ok (.iaload, 1) := by decide +kernel
theorem d_La_law_499 : decode c_La_law 499 = .ok (.invokevirtual 75, 3) := by decide +kernel
theorem d_La_law_502 : decode c_La_law 502 = .ok (.aload_n 2, 1) := by decide +kernel
theorem d_La_law_503 : decode c_La_law 503 = .ok (.aload_n 0, 1) := by decide +kernel
theorem d_La_law_504 : decode c_La_law 504 = .ok (.iload_n 3, 1) := by decide +kernel
theorem d_La_law_505 : decode c_La_law 505 = .ok (.iconst 1, 1) := by decide +kernel
theorem d_La_law_506 : decode c_La_law 506 = .ok (.iadd, 1) := by decide +kernel
theorem d_La_law_507 : decode c_La_law 507 = .ok (.iaload, 1) := by decide +kernel
theorem d_La_law_508 : decode c_La_law 508 = .ok (.aload_n 0, 1) := by decide +kernel
theorem d_La_law_509 : decode c_La_law 509 = .ok (.iload_n 3, 1) := by decide +kernel
theorem d_La_law_510 : decode c_La_law 510 = .ok (.iconst 2, 1) := by decide +kernel
theorem d_La_law_511 : decode c_La_law 511 = .ok (.iadd, 1) := by decide +kernel
theorem d_La_law_512 : decode c_La_law 512 = .ok (.iaload, 1) := by decide +kernel
theorem d_La_law_513 : decode c_La_law 513 = .ok (.invokevirtual 78, 3) := by decide +kernel
theorem d_La_law_516 : decode c_La_law 516 = .ok (.if_icmp .eq 330, 3) := by decide +kernel
theorem d_La_law_519 : decode c_La_law 519 = .ok (.iconst 0, 1) := by decide +kernel
theorem d_La_law_520 : decode c_La_law 520 = .ok (.ireturn, 1) := by decide +kernel
theorem d_La_law_521 : decode c_La_law 521 = .ok (.aload_n 1, 1) := by decide +kernel
theorem d_La_law_522 : decode c_La_law 522 = .ok (.aload_n 0, 1) := by decide +kernel
theorem d_La_law_523 : decode c_La_law 523 = .ok (.iload_n 3, 1) := by decide +kernel
theorem d_La_law_524 : decode c_La_law 524 = .ok (.iconst 1, 1) := by decide +kernel
theorem d_La_law_525 : decode c_La_law 525 = .ok (.iadd, 1) := by decide +kernel
theorem d_La_law_526 : decode c_La_law 526 = .ok (.iaload, 1) := by decide +kernel
theorem d_La_law_527 : decode c_La_law 527 = .ok (.invokevirtual 79, 3) := by decide +kernel
theorem d_La_law_530 : decode c_La_law 530 = .ok (.aload_n 2, 1) := by decide +kernel
theorem d_La_law_531 : decode c_La_law 531 = .ok (.aload_n 0, 1) := by decide +kernel
theorem d_La_law_532 : decode c_La_law 532 = .ok (.iload_n 3, 1) := by decide +kernel
theorem d_La_law_533 : decode c_La_law 533 = .ok (.iconst 1, 1) := by decide +kernel
theorem d_La_law_534 : decode c_La_law 534 = .ok (.iadd, 1) := by decide +kernel
theorem d_La_law_535 : decode c_La_law 535 = .ok (.iaload, 1) := by decide +kernel
theorem d_La_law_536 : decode c_La_law 536 = .ok (.invokevirtual 82, 3) := by decide +kernel
theorem d_La_law_539 : decode c_La_law 539 = .ok (.if_icmp .eq 307, 3) := by decide +kernel
theorem d_La_law_542 : decode c_La_law 542 = .ok (.iconst 0, 1) := by decide +kernel
theorem d_La_law_543 : decode c_La_law 543 = .ok (.ireturn, 1) := by decide +kernel
theorem d_La_law_544 : decode c_La_law 544 = .ok (.aload_n 1, 1) := by decide +kernel
theorem d_La_law_545 : decode c_La_law 545 = .ok (.aload_n 0, 1) := by decide +kernel
theorem d_La_law_546 : decode c_La_law 546 = .ok (.iload_n 3, 1) := by decide +kernel
theorem d_La_law_547 : decode c_La_law 547 = .ok (.iconst 1, 1) := by decide +kernel
theorem d_La_law_548 : decode c_La_law 548 = .ok (.iadd, 1) := by decide +kernel
theorem d_La_law_549 : decode c_La_law 549 = .ok (.iaload, 1) := by decide +kernel
theorem d_La_law_550 : decode c_La_law 550 = .ok (.aload_n 0, 1) := by decide +kernel
theorem d_La_law_551 : decode c_La_law 551 = .ok (.iload_n 3, 1) := by decide +kernel
theorem d_La_law_552 : decode c_La_law 552 = .ok (.iconst 2, 1) := by decide +kernel
theorem d_La_law_553 : decode c_La_law 553 = .ok (.iadd, 1) := by decide +kernel
theorem d_La_law_554 : decode c_La_law 554 = .ok (.iaload, 1) := by decide +kernel
theorem d_La_law_555 : decode c_La_law 555 = .ok (.invokevirtual 83, 3) := by decide +kernel
theorem d_La_law_558 : decode c_La_law 558 = .ok (.aload_n 2, 1) := by decide +kernel
theorem d_La_law_559 : decode c_La_law 559 = .ok (.aload_n 0, 1) := by decide +kernel
theorem d_La_law_560 : decode c_La_law 560 = .ok (.iload_n 3, 1) := by decide +kernel
theorem d_La_law_561 : decode c_La_law 561 = .ok (.iconst 1, 1) := by decide +kernel
theorem d_La_law_562 : decode c_La_law 562 = .ok (.iadd, 1) := by decide +kernel
theorem d_La_law_563 : decode c_La_law 563 = .ok (.iaload, 1) := by decide +kernel
theorem d_La_law_564 : decode c_La_law 564 = .ok (.aload_n 0, 1) := by decide +kernel
theorem d_La_law_565 : decode c_La_law 565 = .ok (.iload_n 3, 1) := by decide +kernel
theorem d_La_law_566 : decode c_La_law 566 = .ok (.iconst 2, 1) := by decide +kernel
theorem d_La_law_567 : decode c_La_law 567 = .ok (.iadd, 1) := by decide +kernel
theorem d_La_law_568 : decode c_La_law 568 = .ok (.iaload, 1) := by decide +kernel
theorem d_La_law_569 : decode c_La_law 569 = .ok (.invokevirtual 86, 3) := by decide +kernel
theorem d_La_law_572 : decode c_La_law 572 = .ok (.if_icmp .eq 274, 3) := by decide +kernel
theorem d_La_law_575 : decode c_La_law 575 = .ok (.iconst 0, 1) := by decide +kernel
theorem d_La_law_576 : decode c_La_law 576 = .ok (.ireturn, 1) := by decide +kernel
theorem d_La_law_577 : decode c_La_law 577 = .ok (.aload_n 1, 1) := by decide +kernel
theorem d_La_law_578 : decode c_La_law 578 = .ok (.aload_n 0, 1) := by decide +kernel
theorem d_La_law_579 : decode c_La_law 579 = .ok (.iload_n 3, 1) := by decide +kernel
theorem d_La_law_580 : decode c_La_law 580 = .ok (.iconst 1, 1) := by decide +kernel
theorem d_La_law_581 : decode c_La_law 581 = .ok (.iadd, 1) := by decide +kernel
theorem d_La_law_582 : decode c_La_law 582 = .ok (.iaload, 1) := by decide +kernel
theorem d_La_law_583 : decode c_La_law 583 = .ok (.aload_n 0, 1) := by decide +kernel
theorem d_La_law_584 : decode c_La_law 584 = .ok (.iload_n 3, 1) := by decide +kernel
theorem d_La_law_585 : decode c_La_law 585 = .ok (.iconst 2, 1) := by decide +kernel
theorem d_La_law_586 : decode c_La_law 586 = .ok (.iadd, 1) := by decide +kernel
theorem d_La_law_587 : decode c_La_law 587 = .ok (.iaload, 1) := by decide +kernel
theorem d_La_law_588 : decode c_La_law 588 = .ok (.aload_n 0, 1) := by decide +kernel
theorem d_La_law_589 : decode c_La_law 589 = .ok (.iload_n 3, 1) := by decide +kernel
theorem d_La_law_590 : decode c_La_law 590 = .ok (.iconst 3, 1) := by decide +kernel
theorem d_La_law_591 : decode c_La_law 591 = .ok (.iadd, 1) := by decide +kernel
theorem d_La_law_592 : decode c_La_law 592 = .ok (.iaload, 1) := by decide +kernel
theorem d_La_law_593 : decode c_La_law 593 = .ok (.invokevirtual 87, 3) := by decide +kernel
theorem d_La_law_596 : decode c_La_law 596 = .ok (.aload_n 2, 1) := by decide +kernel
theorem d_La_law_597 : decode c_La_law 597 = .ok (.aload_n 0, 1) := by decide +kernel
theorem d_La_law_598 : decode c_La_law 598 = .ok (.iload_n 3, 1) := by decide +kernel
theorem d_La_law_599 : decode c_La_law 599 = .ok (.iconst 1, 1) := by decide +kernel
theorem d_La_law_600 : decode c_La_law 600 = .ok (.iadd, 1) := by decide +kernel
theorem d_La_law_601 : decode c_La_law 601 = .ok (.iaload, 1) := by decide +kernel
theorem d_La_law_602 : decode c_La_law 602 = .ok (.aload_n 0, 1) := by decide +kernel
theorem d_La_law_603 : decode c_La_law 603 = .ok (.iload_n 3, 1) := by decide +kernel
theorem d_La_law_604 : decode c_La_law 604 = .ok (.iconst 2, 1) := by decide +kernel
theorem d_La_law_605 : decode c_La_law 605 = .ok (.iadd, 1) := by decide +kernel
theorem d_La_law_606 : decode c_La_law 606 = .ok (.iaload, 1) := by decide +kernel
theorem d_La_law_607 : decode c_La_law 607 = .ok (.aload_n 0, 1) := by decide +kernel
theorem d_La_law_608 : decode c_La_law 608 = .ok (.iload_n 3, 1) := by decide +kernel
theorem d_La_law_609 : decode c_La_law 609 = .ok (.iconst 3, 1) := by decide +kernel
theorem d_La_law_610 : decode c_La_law 610 = .ok (.iadd, 1) := by decide +kernel
theorem d_La_law_611 : decode c_La_law 611 = .ok (.iaload, 1) := by decide +kernel
theorem d_La_law_612 : decode c_La_law 612 = .ok (.invokevirtual 90, 3) := by decide +kernel
theorem d_La_law_615 : decode c_La_law 615 = .ok (.if_icmp .eq 231, 3) := by decide +kernel
theorem d_La_law_618 : decode c_La_law 618 = .ok (.iconst 0, 1) := by decide +kernel
theorem d_La_law_619 : decode c_La_law 619 = .ok (.ireturn, 1) := by decide +kernel
theorem d_La_law_620 : decode c_La_law 620 = .ok (.aload_n 1, 1) := by decide +kernel
theorem d_La_law_621 : decode c_La_law 621 = .ok (.aload_n 0, 1) := by decide +kernel
theorem d_La_law_622 : decode c_La_law 622 = .ok (.iload_n 3, 1) := by decide +kernel
theorem d_La_law_623 : decode c_La_law 623 = .ok (.iconst 1, 1) := by decide +kernel
theorem d_La_law_624 : decode c_La_law 624 = .ok (.iadd, 1) := by decide +kernel
theorem d_La_law_625 : decode c_La_law 625 = .ok (.iaload, 1) := by decide +kernel
theorem d_La_law_626 : decode c_La_law 626 = .ok (.invokevirtual 91, 3) := by decide +kernel
theorem d_La_law_629 : decode c_La_law 629 = .ok (.aload_n 2, 1) := by decide +kernel
theorem d_La_law_630 : decode c_La_law 630 = .ok (.aload_n 0, 1) := by decide +kernel
theorem d_La_law_631 : decode c_La_law 631 = .ok (.iload_n 3, 1) := by decide +kernel
theorem d_La_law_632 : decode c_La_law 632 = .ok (.iconst 1, 1) := by decide +kernel
theorem d_La_law_633 : decode c_La_law 633 = .ok (.iadd, 1) := by decide +kernel
theorem d_La_law_634 : decode c_La_law 634 = .ok (.iaload, 1) := by decide +kernel
theorem d_La_law_635 : decode c_La_law 635 = .ok (.invokevirtual 94, 3) := by decide +kernel
theorem d_La_law_638 : decode c_La_law 638 = .ok (.if_icmp .eq 208, 3) := by decide +kernel
theorem d_La_law_641 : decode c_La_law 641 = .ok (.iconst 0, 1) := by decide +kernel
theorem d_La_law_642 : decode c_La_law 642 = .ok (.ireturn, 1) := by decide +kernel
theorem d_La_law_643 : decode c_La_law 643 = .ok (.aload_n 1, 1) := by decide +kernel
theorem d_La_law_644 : decode c_La_law 644 = .ok (.aload_n 0, 1) := by decide +kernel
theorem d_La_law_645 : decode c_La_law 645 = .ok (.iload_n 3, 1) := by decide +kernel
theorem d_La_law_646 : decode c_La_law 646 = .ok (.iconst 1, 1) := by decide +kernel
theorem d_La_law_647 : decode c_La_law 647 = .ok (.iadd, 1) := by decide +kernel
theorem d_La_law_648 : decode c_La_law 648 = .ok (.iaload, 1) := by decide +kernel
theorem d_La_law_649 : decode c_La_law 649 = .ok (.invokevirtual 95, 3) := by decide +kernel
theorem d_La_law_652 : decode c_La_law 652 = .ok (.dstore 4, 2) := by decide +kernel
theorem d_La_law_654 : decode c_La_law 654 = .ok (.aload_n 2, 1) := by decide +kernel
theorem d_La_law_655 : decode c_La_law 655 = .ok (.aload_n 0, 1) := by decide +kernel
theorem d_La_law_656 : decode c_La_law 656 = .ok (.iload_n 3, 1) := by decide +kernel
theorem d_La_law_657 : decode c_La_law 657 = .ok (.iconst 1, 1) := by decide +kernel
theorem d_La_law_658 : decode c_La_law 658 = .ok (.iadd, 1) := by decide +kernel
theorem d_La_law_659 : decode c_La_law 659 = .ok (.iaload, 1) := by decide +kernel
theorem d_La_law_660 : decode c_La_law 660 = .ok (.invokevirtual 99, 3) := by decide +kernel
theorem d_La_law_663 : decode c_La_law 663 = .ok (.dstore 6, 2) := by decide +kernel
theorem d_La_law_665 : decode c_La_law 665 = .ok (.dload 4, 2) := by decide +kernel
theorem d_La_law_667 : decode c_La_law 667 = .ok (.dload 6, 2) := by decide +kernel
theorem d_La_law_669 : decode c_La_law 669 = .ok (.dcmp .l, 1) := by decide +kernel
theorem d_La_law_670 : decode c_La_law 670 = .ok (.ifCond .eq 21, 3) := by decide +kernel
theorem d_La_law_673 : decode c_La_law 673 = .ok (.dload 4, 2) := by decide +kernel
theorem d_La_law_675 : decode c_La_law 675 = .ok (.dload 4, 2) := by decide +kernel
theorem d_La_law_677 : decode c_La_law 677 = .ok (.dcmp .l, 1) := by decide +kernel
theorem d_La_law_678 : decode c_La_law 678 = .ok (.ifCond .eq 11, 3) := by decide +kernel
theorem d_La_law_681 : decode c_La_law 681 = .ok (.dload 6, 2) := by decide +kernel
theorem d_La_law_683 : decode c_La_law 683 = .ok (.dload 6, 2) := by decide +kernel
theorem d_La_law_685 : decode c_La_law 685 = .ok (.dcmp .l, 1) := by decide +kernel
theorem d_La_law_686 : decode c_La_law 686 = .ok (.ifCond .ne 5, 3) := by decide +kernel
theorem d_La_law_689 : decode c_La_law 689 = .ok (.iconst 0, 1) := by decide +kernel
theorem d_La_law_690 : decode c_La_law 690 = .ok (.ireturn, 1) := by decide +kernel
theorem d_La_law_691 : decode c_La_law 691 = .ok (.goto 155, 3) := by decide +kernel
theorem d_La_law_694 : decode c_La_law 694 = .ok (.aload_n 1, 1) := by decide +kernel
theorem d_La_law_695 : decode c_La_law 695 = .ok (.aload_n 0, 1) := by decide +kernel
theorem d_La_law_696 : decode c_La_law 696 = .ok (.iload_n 3, 1) := by decide +kernel
theorem d_La_law_697 : decode c_La_law 697 = .ok (.iconst 1, 1) := by decide +kernel
theorem d_La_law_698 : decode c_La_law 698 = .ok (.iadd, 1) := by decide +kernel
theorem d_La_law_699 : decode c_La_law 699 = .ok (.iaload, 1) := by decide +kernel
theorem d_La_law_700 : decode c_La_law 700 = .ok (.aload_n 0, 1) := by decide +kernel
theorem d_La_law_701 : decode c_La_law 701 = .ok (.iload_n 3, 1) := by decide +kernel
theorem d_La_law_702 : decode c_La_law 702 = .ok (.iconst 2, 1) := by decide +kernel
theorem d_La_law_703 : decode c_La_law 703 = .ok (.iadd, 1) := by decide +kernel
theorem d_La_law_704 : decode c_La_law 704 = .ok (.iaload, 1) := by decide +kernel
theorem d_La_law_705 : decode c_La_law 705 = .ok (.aload_n 0, 1) := by decide +kernel
theorem d_La_law_706 : decode c_La_law 706 = .ok (.iload_n 3, 1) := by decide +kernel
theorem d_La_law_707 : decode c_La_law 707 = .ok (.iconst 3, 1) := by decide +kernel
theorem d_La_law_708 : decode c_La_law 708 = .ok (.iadd, 1) := by decide +kernel
theorem d_La_law_709 : decode c_La_law 709 = .ok (.iaload, 1) := by decide +kernel
theorem d_La_law_710 : decode c_La_law 710 = .ok (.aload_n 0, 1) := by decide +kernel
theorem d_La_law_711 : decode c_La_law 711 = .ok (.iload_n 3, 1) := by decide +kernel
theorem d_La_law_712 : decode c_La_law 712 = .ok (.iconst 4, 1) := by decide +kernel
theorem d_La_law_713 : decode c_La_law 713 = .ok (.iadd, 1) := by decide +kernel
theorem d_La_law_714 : decode c_La_law 714 = .ok (.iaload, 1) := by decide +kernel
theorem d_La_law_715 : decode c_La_law 715 = .ok (.invokevirtual 100, 3) := by decide +kernel
theorem d_La_law_718 : decode c_La_law 718 = .ok (.aload_n 2, 1) := by decide +kernel
theorem d_La_law_719 : decode c_La_law 719 = .ok (.aload_n 0, 1) := by decide +kernel
theorem d_La_law_720 : decode c_La_law 720 = .ok (.iload_n 3, 1) := by decide +kernel
theorem d_La_law_721 : decode c_La_law 721 = .ok (.iconst 1, 1) := by decide +kernel
theorem d_La_law_722 : decode c_La_law 722 = .ok (.iadd, 1) := by decide +kernel
theorem d_La_law_723 : decode c_La_law 723 = .ok (.iaload, 1) := by decide +kernel
theorem d_La_law_724 : decode c_La_law 724 = .ok (.aload_n 0, 1) := by decide +kernel
theorem d_La_law_725 : decode c_La_law 725 = .ok (.iload_n 3, 1) := by decide +kernel
theorem d_La_law_726 : decode c_La_law 726 = .ok (.iconst 2, 1) := by decide +kernel
theorem d_La_law_727 : decode c_La_law 727 = .ok (.iadd, 1) := by decide +kernel
theorem d_La_law_728 : decode c_La_law 728 = .ok (.iaload, 1) := by decide +kernel
theorem d_La_law_729 : decode c_La_law 729 = .ok (.aload_n 0, 1) := by decide +kernel
theorem d_La_law_730 : decode c_La_law 730 = .ok (.iload_n 3, 1) := by decide +kernel
theorem d_La_law_731 : decode c_La_law 731 = .ok (.iconst 3, 1) := by decide +kernel
theorem d_La_law_732 : decode c_La_law 732 = .ok (.iadd, 1) := by decide +kernel
theorem d_La_law_733 : decode c_La_law 733 = .ok (.iaload, 1) := by decide +kernel
theorem d_La_law_734 : decode c_La_law 734 = .ok (.aload_n 0, 1) := by decide +kernel
theorem d_La_law_735 : decode c_La_law 735 = .ok (.iload_n 3, 1) := by decide +kernel
theorem d_La_law_736 : decode c_La_law 736 = .ok (.iconst 4, 1) := by decide +kernel
theorem d_La_law_737 : decode c_La_law 737 = .ok (.iadd, 1) := by decide +kernel
theorem d_La_law_738 : decode c_La_law 738 = .ok (.iaload, 1) := by decide +kernel
theorem d_La_law_739 : decode c_La_law 739 = .ok (.invokevirtual 103, 3) := by decide +kernel
theorem d_La_law_742 : decode c_La_law 742 = .ok (.if_icmp .eq 104, 3) := by decide +kernel
theorem d_La_law_745 : decode c_La_law 745 = .ok (.iconst 0, 1) := by decide +kernel
theorem d_La_law_746 : decode c_La_law 746 = .ok (.ireturn, 1) := by decide +kernel
theorem d_La_law_747 : decode c_La_law 747 = .ok (.aload_n 1, 1) := by decide +kernel
theorem d_La_law_748 : decode c_La_law 748 = .ok (.aload_n 0, 1) := by decide +kernel
theorem d_La_law_749 : decode c_La_law 749 = .ok (.iload_n 3, 1) := by decide +kernel
theorem d_La_law_750 : decode c_La_law 750 = .ok (.iconst 1, 1) := by decide +kernel
theorem d_La_law_751 : decode c_La_law 751 = .ok (.iadd, 1) := by decide +kernel
theorem d_La_law_752 : decode c_La_law 752 = .ok (.iaload, 1) := by decide +kernel
theorem d_La_law_753 : decode c_La_law 753 = .ok (.aload_n 0, 1) := by decide +kernel
theorem d_La_law_754 : decode c_La_law 754 = .ok (.iload_n 3, 1) := by decide +kernel
theorem d_La_law_755 : decode c_La_law 755 = .ok (.iconst 2, 1) := by decide +kernel
theorem d_La_law_756 : decode c_La_law 756 = .ok (.iadd, 1) := by decide +kernel
theorem d_La_law_757 : decode c_La_law 757 = .ok (.iaload, 1) := by decide +kernel
theorem d_La_law_758 : decode c_La_law 758 = .ok (.aload_n 0, 1) := by decide +kernel
theorem d_La_law_759 : decode c_La_law 759 = .ok (.iload_n 3, 1) := by decide +kernel
theorem d_La_law_760 : decode c_La_law 760 = .ok (.iconst 3, 1) := by decide +kernel
theorem d_La_law_761 : decode c_La_law 761 = .ok (.iadd, 1) := by decide +kernel
theorem d_La_law_762 : decode c_La_law 762 = .ok (.iaload, 1) := by decide +kernel
theorem d_La_law_763 : decode c_La_law 763 = .ok (.invokevirtual 104, 3) := by decide +kernel
theorem d_La_law_766 : decode c_La_law 766 = .ok (.aload_n 2, 1) := by decide +kernel
theorem d_La_law_767 : decode c_La_law 767 = .ok (.aload_n 0, 1) := by decide +kernel
theorem d_La_law_768 : decode c_La_law 768 = .ok (.iload_n 3, 1) := by decide +kernel
theorem d_La_law_769 : decode c_La_law 769 = .ok (.iconst 1, 1) := by decide +kernel
theorem d_La_law_770 : decode c_La_law 770 = .ok (.iadd, 1) := by decide +kernel
theorem d_La_law_771 : decode c_La_law 771 = .ok (.iaload, 1) := by decide +kernel
theorem d_La_law_772 : decode c_La_law 772 = .ok (.aload_n 0, 1) := by decide +kernel
theorem d_La_law_773 : decode c_La_law 773 = .ok (.iload_n 3, 1) := by decide +kernel
theorem d_La_law_774 : decode c_La_law 774 = .ok (.iconst 2, 1) := by decide +kernel
theorem d_La_law_775 : decode c_La_law 775 = .ok (.iadd, 1) := by decide +kernel
theorem d_La_law_776 : decode c_La_law 776 = .ok (.iaload, 1) := by decide +kernel
theorem d_La_law_777 : decode c_La_law 777 = .ok (.aload_n 0, 1) := by decide +kernel
theorem d_La_law_778 : decode c_La_law 778 = .ok (.iload_n 3, 1) := by decide +kernel
theorem d_La_law_779 : decode c_La_law 779 = .ok (.iconst 3, 1) := by decide +kernel
theorem d_La_law_780 : decode c_La_law 780 = .ok (.iadd, 1) := by decide +kernel
theorem d_La_law_781 : decode c_La_law 781 = .ok (.iaload, 1) := by decide +kernel
theorem d_La_law_782 : decode c_La_law 782 = .ok (.invokevirtual 107, 3) := by decide +kernel
theorem d_La_law_785 : decode c_La_law 785 = .ok (.if_icmp .eq 61, 3) := by decide +kernel
theorem d_La_law_788 : decode c_La_law 788 = .ok (.iconst 0, 1) := by decide +kernel
theorem d_La_law_789 : decode c_La_law 789 = .ok (.ireturn, 1) := by decide +kernel
theorem d_La_law_790 : decode c_La_law 790 = .ok (.aload_n 1, 1) := by decide +kernel
theorem d_La_law_791 : decode c_La_law 791 = .ok (.aload_n 0, 1) := by decide +kernel
theorem d_La_law_792 : decode c_La_law 792 = .ok (.iload_n 3, 1) := by decide +kernel
theorem d_La_law_793 : decode c_La_law 793 = .ok (.iconst 1, 1) := by decide +kernel
theorem d_La_law_794 : decode c_La_law 794 = .ok (.iadd, 1) := by decide +kernel
theorem d_La_law_795 : decode c_La_law 795 = .ok (.iaload, 1) := by decide +kernel
theorem d_La_law_796 : decode c_La_law 796 = .ok (.invokevirtual 108, 3) := by decide +kernel
theorem d_La_law_799 : decode c_La_law 799 = .ok (.aload_n 2, 1) := by decide +kernel
theorem d_La_law_800 : decode c_La_law 800 = .ok (.aload_n 0, 1) := by decide +kernel
theorem d_La_law_801 : decode c_La_law 801 = .ok (.iload_n 3, 1) := by decide +kernel
theorem d_La_law_802 : decode c_La_law 802 = .ok (.iconst 1, 1) := by decide +kernel
theorem d_La_law_803 : decode c_La_law 803 = .ok (.iadd, 1) := by decide +kernel
theorem d_La_law_804 : decode c_La_law 804 = .ok (.iaload, 1) := by decide +kernel
theorem d_La_law_805 : decode c_La_law 805 = .ok (.invokevirtual 111, 3) := by decide +kernel
theorem d_La_law_808 : decode c_La_law 808 = .ok (.if_icmp .eq 38, 3) := by decide +kernel
theorem d_La_law_811 : decode c_La_law 811 = .ok (.iconst 0, 1) := by decide +kernel
theorem d_La_law_812 : decode c_La_law 812 = .ok (.ireturn, 1) := by decide +kernel
theorem d_La_law_813 : decode c_La_law 813 = .ok (.aload_n 1, 1) := by decide +kernel
theorem d_La_law_814 : decode c_La_law 814 = .ok (.aload_n 0, 1) := by decide +kernel
theorem d_La_law_815 : decode c_La_law 815 = .ok (.iload_n 3, 1) := by decide +kernel
theorem d_La_law_816 : decode c_La_law 816 = .ok (.iconst 1, 1) := by decide +kernel
theorem d_La_law_817 : decode c_La_law 817 = .ok (.iadd, 1) := by decide +kernel
theorem d_La_law_818 : decode c_La_law 818 = .ok (.iaload, 1) := by decide +kernel
theorem d_La_law_819 : decode c_La_law 819 = .ok (.aload_n 0, 1) := by decide +kernel
theorem d_La_law_820 : decode c_La_law 820 = .ok (.iload_n 3, 1) := by decide +kernel
theorem d_La_law_821 : decode c_La_law 821 = .ok (.iconst 2, 1) := by decide +kernel
theorem d_La_law_822 : decode c_La_law 822 = .ok (.iadd, 1) := by decide +kernel
theorem d_La_law_823 : decode c_La_law 823 = .ok (.iaload, 1) := by decide +kernel
theorem d_La_law_824 : decode c_La_law 824 = .ok (.invokevirtual 112, 3) := by decide +kernel
theorem d_La_law_827 : decode c_La_law 827 = .ok (.aload_n 2, 1) := by decide +kernel
theorem d_La_law_828 : decode c_La_law 828 = .ok (.aload_n 0, 1) := by decide +kernel
theorem d_La_law_829 : decode c_La_law 829 = .ok (.iload_n 3, 1) := by decide +kernel
theorem d_La_law_830 : decode c_La_law 830 = .ok (.iconst 1, 1) := by decide +kernel
theorem d_La_law_831 : decode c_La_law 831 = .ok (.iadd, 1) := by decide +kernel
theorem d_La_law_832 : decode c_La_law 832 = .ok (.iaload, 1) := by decide +kernel
theorem d_La_law_833 : decode c_La_law 833 = .ok (.aload_n 0, 1) := by decide +kernel
theorem d_La_law_834 : decode c_La_law 834 = .ok (.iload_n 3, 1) := by decide +kernel
theorem d_La_law_835 : decode c_La_law 835 = .ok (.iconst 2, 1) := by decide +kernel
theorem d_La_law_836 : decode c_La_law 836 = .ok (.iadd, 1) := by decide +kernel
theorem d_La_law_837 : decode c_La_law 837 = .ok (.iaload, 1) := by decide +kernel
theorem d_La_law_838 : decode c_La_law 838 = .ok (.invokevirtual 115, 3) := by decide +kernel
theorem d_La_law_841 : decode c_La_law 841 = .ok (.if_icmp .eq 5, 3) := by decide +kernel
theorem d_La_law_844 : decode c_La_law 844 = .ok (.iconst 0, 1) := by decide +kernel
theorem d_La_law_845 : decode c_La_law 845 = .ok (.ireturn, 1) := by decide +kernel
theorem d_La_law_846 : decode c_La_law 846 = .ok (.iinc 3 5, 3) := by decide +kernel
theorem d_La_law_849 : decode c_La_law 849 = .ok (.goto (-831), 3) := by decide +kernel
theorem d_La_law_852 : decode c_La_law 852 = .ok (.iconst 1, 1) := by decide +kernel
theorem d_La_law_853 : decode c_La_law 853 = .ok (.ireturn, 1) := by decide +kernel
end
section
/-! THE X LAYER: a judgement over cells by position. A heap is: how many cells (where it is counted), their shapes, their ints. -/
abbrev XG : Type := va_G × Nat × ClassId × ClassId
abbrev Sh : Type := (Nat × List (Option (Option Nat))) ⊕ (Nat ⊕ (Nat × (Nat → Option Nat)))
abbrev Mem : Type := Nat → Nat → Int32
abbrev Mt : Type := String × MethodName × ByteArray × Nat × Option FieldType × Room
abbrev XP : Type := Option Value → Option Nat → (Nat → Sh) → Mem → Prop
def sh0 : Sh := .inl (0, [])
def rf (g : XG) (o : Nat) : Value := .ref (g.2.1 + o)
def fv (g : XG) (f : Nat → Int32) (k : Nat) (x : Option (Option Nat)) : Value := match x with
  | none => .int (f k)
  | some none => .null
  | some (some r) => .ref (g.2.1 + r)
def ent (g : XG) (x : Sh) (f : Nat → Int32) : va_E := match x with
  | .inl (ci, fs) => .inr (ci, fs.mapIdx (fv g f))
  | .inr (.inl n) => .inl (g.2.2.1, n, .inl f)
  | .inr (.inr (n, q)) => .inl (g.2.2.2, n, .inr (.inr (.inr (.inr (fun j => (q j).map (fun r => g.2.1 + r))))))
def xA (g : XG) : Nat → Prop := fun q => g.2.1 ≤ q
def Wd (g : XG) (N : Option Nat) (sh : Nat → Sh) (mem : Mem) (H : Heap) : Prop := (∀ n, N = some n → H.size = g.2.1 + n) ∧ ∀ o, sh o ≠ sh0 → va_at g.1 vwCl (g.2.1 + o, ent g (sh o) (mem o)) H
def nestK (U : State) : Prop := va_Nw (.methodLinkNest "CarpetCounter" 34 ⟨"CarpetCounter$RoomText", "<init>", "()V"⟩ "CarpetCounter") U ∧ va_Nw (.methodLinkNest "CarpetCounter" 41 ⟨"CarpetCounter$Choice", "<init>", "()V"⟩ "CarpetCounter") U ∧ va_Nw (.methodLinkNest "CarpetCounter$Book" 22 ⟨"CarpetCounter$Rolls", "<init>", "()V"⟩ "CarpetCounter") U ∧ va_Nw (.methodLinkNest "CarpetCounter$Book" 29 ⟨"CarpetCounter$Offcuts", "<init>", "()V"⟩ "CarpetCounter") U ∧ va_Nw (.methodLinkNest "CarpetCounter$Book" 36 ⟨"CarpetCounter$Rooms", "<init>", "()V"⟩ "CarpetCounter") U ∧ va_Nw (.methodLinkNest "CarpetCounter$RoomText" 22 ⟨"CarpetCounter$Rooms", "<init>", "()V"⟩ "CarpetCounter") U
theorem nestK.warm {s U : State} (hW : s.WarmedH U.vm) (h : nestK s) : nestK U := ⟨va_Nw.warmM hW h.1, va_Nw.warmM hW h.2.1, va_Nw.warmM hW h.2.2.1, va_Nw.warmM hW h.2.2.2.1, va_Nw.warmM hW h.2.2.2.2.1, va_Nw.warmM hW h.2.2.2.2.2⟩
theorem nestK.same {u U : State} (hv : u.vm = U.vm) (h : nestK u) : nestK U := ⟨va_Nw.same rfl hv h.1, va_Nw.same rfl hv h.2.1, va_Nw.same rfl hv h.2.2.1, va_Nw.same rfl hv h.2.2.2.1, va_Nw.same rfl hv h.2.2.2.2.1, va_Nw.same rfl hv h.2.2.2.2.2⟩
def Kd (g : XG) (U : State) : Prop := va_K g.1 vwCl [(g.2.2.1, .int), (g.2.2.2, .object "CarpetCounter$Book")] U ∧ va_AO "CarpetCounter$Book" U ∧ nestK U
theorem Kd.warm {g : XG} {s U : State} (hW : s.WarmedH U.vm) (h : Kd g s) : Kd g U := ⟨va_K.moved hW.alike h.1, va_AO.moved hW.alike h.2.1, nestK.warm hW h.2.2⟩
theorem Kd.same {g : XG} {u U : State} (hv : u.vm = U.vm) (h : Kd g u) : Kd g U := ⟨va_K.moved (by rw [hv]; exact Vm.Alike.refl U.vm) h.1, va_AO.moved (by rw [hv]; exact Vm.Alike.refl U.vm) h.2.1, nestK.same hv h.2.2⟩
def QQ (g : XG) (Q : XP) : Array Value → State → Outcome → State → Prop := fun _ st oc t => (∃ (v : Option Value) (N : Option Nat) (sh : Nat → Sh) (mem : Mem), oc = .returned v ∧ Q v N sh mem ∧ Wd g N sh mem t.heap) ∧ va_F (xA g) st t
def xPre (g : XG) (N : Option Nat) (sh : Nat → Sh) (mem : Mem) (U : State) : Prop := Wd g N sh mem U.heap ∧ Kd g U ∧ g.2.1 ≤ U.heap.size
def Ct (l : Launch) (g : XG) (M : Mt) (as : List Value) (N : Option Nat) (sh : Nat → Sh) (mem : Mem) (Q : XP) : Prop := Met l M.2.1 (Cond.code M.2.1 M.2.2.1 M.2.2.2.1 M.2.2.2.2.1 :: tbG) M.2.2.2.2.2 (va_Pc as (xPre g N sh mem)) (QQ g Q) M.2.2.2.2.2.cells M.2.2.2.2.2.slots (xA g)
def Cx (g : XG) (M : Mt) (p : Program) (s : State) (m : MethodId) (args : Array Value) (meth : Method) (c : Code) : Prop := p.tables.exec = Jvm.exec ∧ c.code = M.2.2.1 ∧ c.maxLocals = M.2.2.2.1 ∧ s.vm.findClass M.1 = some m.cls ∧ meth.sig.returnType = M.2.2.2.2.1 ∧ meth.locks = false ∧ meth.name = M.2.1.name ∧ (∀ w ∈ tbG, w.before args s = true) ∧ Kd g s ∧ g.2.1 ≤ s.heap.size
def Lh (nL : Nat) (ls : Array Slot) (L : List (Option Value)) : Prop := ls.size = nL ∧ lv_wf ls ∧ ∀ (i : Nat) (v : Value), L[i]? = some (some v) → ls[i]? = some (.val v) ∧ v.category = 1
abbrev XFin : Type := List Frame → Array Value → State → State → Prop
def XF (g : XG) (Q : XP) (M : Mt) : XFin := fun below args s => MQ below (QQ g Q) args s M.2.2.2.2.2.cells M.2.2.2.2.2.slots (xA g)
def X (l : Launch) (g : XG) (M : Mt) (F : XFin) (pc : Nat) (L : List (Option Value)) (st : List Value) (N : Option Nat) (sh : Nat → Sh) (mem : Mem) (k n : Nat) : Prop :=
  ∀ (p : Program) (e : Env) (s : State) (m : MethodId) (args : Array Value) (below : List Frame) (meth : Method) (c : Code) (H : Heap) (locs : List Loc) (ls : Array Slot), Cx g M p s m args meth c → Wd g N sh mem H → va_S (xA g) s.heap H locs → Lh M.2.2.2.1 ls L → W p l e M.2.2.2.2.2 s m args below meth c H locs k n (F below args s) (F0 m pc ls st)
-- locals
def Lp (L : List (Option Value)) : List (Nat × Value) := (List.range L.length).filterMap (fun i => match L[i]? with | some (some v) => some (i, v) | _ => none)
theorem Lp_mem {L : List (Option Value)} {i : Nat} {v : Value} : (i, v) ∈ Lp L ↔ L[i]? = some (some v) := by
  unfold Lp
  rw [List.mem_filterMap]
  constructor
  · rintro ⟨j, -, hj⟩
    split at hj
    · rename_i w hw
      simp only [Option.some.injEq, Prod.mk.injEq] at hj
      rw [← hj.1, hw, hj.2]
    · cases hj
  · intro h
    refine ⟨i, List.mem_range.mpr (List.getElem?_eq_some_iff.mp h).1, ?_⟩
    rw [h]
theorem Lh.has {nL : Nat} {ls : Array Slot} {L : List (Option Value)} (h : Lh nL ls L) : lv_has ls nL (Lp L) := ⟨h.1, h.2.1, fun q hq => (h.2.2 q.1 q.2 (Lp_mem.mp hq)).1⟩
theorem Lh.put {nL i : Nat} {ls ls' : Array Slot} {L : List (Option Value)} {v : Value} (h : Lh nL ls L) (hc : v.category = 1) (h' : lv_has ls' nL ((i, v) :: (Lp L).filter (fun q => !(q.1 == i) && !(q.1 + 1 == i && q.2.category == 2)))) : Lh nL ls' (L.set i (some v)) := by
  refine ⟨h'.1, h'.2.1, fun j w hj => ?_⟩
  rw [List.getElem?_set] at hj
  by_cases hij : i = j
  · subst hij
    by_cases hl : i < L.length
    · rw [if_pos rfl, if_pos hl] at hj
      cases hj
      exact ⟨h'.2.2 _ List.mem_cons_self, hc⟩
    · rw [if_pos rfl, if_neg hl] at hj
      cases hj
  · rw [if_neg hij] at hj
    have hw := (h.2.2 j w hj).2
    refine ⟨h'.2.2 (j, w) (List.mem_cons_of_mem _ (List.mem_filter.mpr ⟨Lp_mem.mpr hj, ?_⟩)), hw⟩
    have h1 : (j == i) = false := by simpa using fun q => hij q.symm
    have h2 : (w.category == 2) = false := by rw [hw]; rfl
    simp [h1, h2]
section XR
variable {l : Launch} {g : XG} {M : Mt} {F : XFin} {pc : Nat} {L : List (Option Value)} {st : List Value} {N : Option Nat} {sh : Nat → Sh} {mem : Mem} {c n : Nat}
theorem x_iload_n {k : Fin 4} {x : Int32} (hdg : decode M.2.2.1 pc = .ok (.iload_n k, 1)) (hl : L[(k : Nat)]? = some (some (.int x))) (kk : X l g M F (pc + 1) L (.int x :: st) N sh mem c n) : X l g M F pc L st N sh mem c n :=
  fun p e s m args below meth cd H locs ls C hW hS hL => lv_iload_n C.1 C.2.1 hdg rfl (hL.2.2 _ _ hl).1 (kk _ _ _ _ _ _ _ _ _ _ _ C hW hS hL)
theorem x_iload {i : Nat} {x : Int32} (hdg : decode M.2.2.1 pc = .ok (.iload i, 2)) (hl : L[i]? = some (some (.int x))) (kk : X l g M F (pc + 2) L (.int x :: st) N sh mem c n) : X l g M F pc L st N sh mem c n :=
  fun p e s m args below meth cd H locs ls C hW hS hL => lv_iload C.1 C.2.1 hdg (hL.2.2 _ _ hl).1 (kk _ _ _ _ _ _ _ _ _ _ _ C hW hS hL)
theorem x_aload_n {k : Fin 4} {o : Nat} (hdg : decode M.2.2.1 pc = .ok (.aload_n k, 1)) (hl : L[(k : Nat)]? = some (some (rf g o))) (kk : X l g M F (pc + 1) L (rf g o :: st) N sh mem c n) : X l g M F pc L st N sh mem c n :=
  fun p e s m args below meth cd H locs ls C hW hS hL => lv_aload_n C.1 C.2.1 hdg rfl (hL.2.2 _ _ hl).1 (kk _ _ _ _ _ _ _ _ _ _ _ C hW hS hL)
theorem x_aload {i : Nat} {o : Nat} (hdg : decode M.2.2.1 pc = .ok (.aload i, 2)) (hl : L[i]? = some (some (rf g o))) (kk : X l g M F (pc + 2) L (rf g o :: st) N sh mem c n) : X l g M F pc L st N sh mem c n :=
  fun p e s m args below meth cd H locs ls C hW hS hL => lv_aload C.1 C.2.1 hdg (hL.2.2 _ _ hl).1 (kk _ _ _ _ _ _ _ _ _ _ _ C hW hS hL)
theorem x_iconst {k : Int} {v : Int32} (hdg : decode M.2.2.1 pc = .ok (.iconst k, 1)) (hv : Int32.ofInt k = v) (kk : X l g M F (pc + 1) L (.int v :: st) N sh mem c n) : X l g M F pc L st N sh mem c n :=
  fun p e s m args below meth cd H locs ls C hW hS hL => lv_iconst C.1 C.2.1 hdg hv (kk _ _ _ _ _ _ _ _ _ _ _ C hW hS hL)
theorem x_istore_n {k : Fin 4} {x : Int32} (hdg : decode M.2.2.1 pc = .ok (.istore_n k, 1)) (hn : (k : Nat) < M.2.2.2.1) (kk : X l g M F (pc + 1) (L.set k (some (.int x))) st N sh mem c n) : X l g M F pc L (.int x :: st) N sh mem c n :=
  fun p e s m args below meth cd H locs ls C hW hS hL => lv_istore_n C.1 C.2.1 hdg rfl hL.has hn rfl (fun ls' h => kk _ _ _ _ _ _ _ _ _ _ _ C hW hS (hL.put rfl h))
theorem x_istore {i : Nat} {x : Int32} (hdg : decode M.2.2.1 pc = .ok (.istore i, 2)) (hn : i < M.2.2.2.1) (kk : X l g M F (pc + 2) (L.set i (some (.int x))) st N sh mem c n) : X l g M F pc L (.int x :: st) N sh mem c n :=
  fun p e s m args below meth cd H locs ls C hW hS hL => lv_istore C.1 C.2.1 hdg hL.has hn rfl (fun ls' h => kk _ _ _ _ _ _ _ _ _ _ _ C hW hS (hL.put rfl h))
theorem x_astore_n {k : Fin 4} {o : Nat} (hdg : decode M.2.2.1 pc = .ok (.astore_n k, 1)) (hn : (k : Nat) < M.2.2.2.1) (kk : X l g M F (pc + 1) (L.set k (some (rf g o))) st N sh mem c n) : X l g M F pc L (rf g o :: st) N sh mem c n :=
  fun p e s m args below meth cd H locs ls C hW hS hL => lv_astore_n C.1 C.2.1 hdg rfl hL.has hn rfl (fun ls' h => kk _ _ _ _ _ _ _ _ _ _ _ C hW hS (hL.put rfl h))
theorem x_astore {i : Nat} {o : Nat} (hdg : decode M.2.2.1 pc = .ok (.astore i, 2)) (hn : i < M.2.2.2.1) (kk : X l g M F (pc + 2) (L.set i (some (rf g o))) st N sh mem c n) : X l g M F pc L (rf g o :: st) N sh mem c n :=
  fun p e s m args below meth cd H locs ls C hW hS hL => lv_astore C.1 C.2.1 hdg hL.has hn rfl (fun ls' h => kk _ _ _ _ _ _ _ _ _ _ _ C hW hS (hL.put rfl h))
theorem x_iinc {i : Nat} {k : Int} {x v : Int32} (hdg : decode M.2.2.1 pc = .ok (.iinc i k, 3)) (hl : L[i]? = some (some (.int x))) (hv : x + Int32.ofInt k = v) (hn : i < M.2.2.2.1) (kk : X l g M F (pc + 3) (L.set i (some (.int v))) st N sh mem c n) : X l g M F pc L st N sh mem c n := by
  intro p e s m args below meth cd H locs ls C hW hS hL
  obtain ⟨j, hj⟩ := List.getElem?_of_mem (Lp_mem.mpr hl)
  exact lv_iinc C.1 C.2.1 hdg hL.has hj hv hn rfl (fun ls' h => kk _ _ _ _ _ _ _ _ _ _ _ C hW hS (hL.put rfl h))
end XR
section XR2
variable {l : Launch} {g : XG} {M : Mt} {F : XFin} {pc : Nat} {L : List (Option Value)} {st : List Value} {N : Option Nat} {sh : Nat → Sh} {mem : Mem} {c n : Nat}
theorem x_iadd {x y : Int32} (hdg : decode M.2.2.1 pc = .ok (.iadd, 1)) (kk : X l g M F (pc + 1) L (.int (x + y) :: st) N sh mem c n) : X l g M F pc L (.int y :: .int x :: st) N sh mem c n :=
  fun p e s m args below meth cd H locs ls C hW hS hL => lv_iadd C.1 C.2.1 hdg (kk _ _ _ _ _ _ _ _ _ _ _ C hW hS hL)
theorem x_isub {x y : Int32} (hdg : decode M.2.2.1 pc = .ok (.isub, 1)) (kk : X l g M F (pc + 1) L (.int (x - y) :: st) N sh mem c n) : X l g M F pc L (.int y :: .int x :: st) N sh mem c n :=
  fun p e s m args below meth cd H locs ls C hW hS hL => lv_isub C.1 C.2.1 hdg (kk _ _ _ _ _ _ _ _ _ _ _ C hW hS hL)
theorem x_imul {x y : Int32} (hdg : decode M.2.2.1 pc = .ok (.imul, 1)) (kk : X l g M F (pc + 1) L (.int (x * y) :: st) N sh mem c n) : X l g M F pc L (.int y :: .int x :: st) N sh mem c n :=
  fun p e s m args below meth cd H locs ls C hW hS hL => lv_imul C.1 C.2.1 hdg (kk _ _ _ _ _ _ _ _ _ _ _ C hW hS hL)
theorem x_iand {x y : Int32} (hdg : decode M.2.2.1 pc = .ok (.iand, 1)) (kk : X l g M F (pc + 1) L (.int (x &&& y) :: st) N sh mem c n) : X l g M F pc L (.int y :: .int x :: st) N sh mem c n :=
  fun p e s m args below meth cd H locs ls C hW hS hL => lv_iand C.1 C.2.1 hdg (kk _ _ _ _ _ _ _ _ _ _ _ C hW hS hL)
theorem x_ixor {x y : Int32} (hdg : decode M.2.2.1 pc = .ok (.ixor, 1)) (kk : X l g M F (pc + 1) L (.int (x ^^^ y) :: st) N sh mem c n) : X l g M F pc L (.int y :: .int x :: st) N sh mem c n :=
  fun p e s m args below meth cd H locs ls C hW hS hL => lv_ixor C.1 C.2.1 hdg (kk _ _ _ _ _ _ _ _ _ _ _ C hW hS hL)
theorem x_idiv {x y : Int32} (hdg : decode M.2.2.1 pc = .ok (.idiv, 1)) (hne : ¬ y = 0) (kk : X l g M F (pc + 1) L (.int (x / y) :: st) N sh mem c n) : X l g M F pc L (.int y :: .int x :: st) N sh mem c n :=
  fun p e s m args below meth cd H locs ls C hW hS hL => lv_idiv C.1 C.2.1 hdg hne (kk _ _ _ _ _ _ _ _ _ _ _ C hW hS hL)
theorem x_irem {x y : Int32} (hdg : decode M.2.2.1 pc = .ok (.irem, 1)) (hne : ¬ y = 0) (kk : X l g M F (pc + 1) L (.int (x - x / y * y) :: st) N sh mem c n) : X l g M F pc L (.int y :: .int x :: st) N sh mem c n :=
  fun p e s m args below meth cd H locs ls C hW hS hL => lv_irem C.1 C.2.1 hdg hne (kk _ _ _ _ _ _ _ _ _ _ _ C hW hS hL)
theorem x_ineg {x : Int32} (hdg : decode M.2.2.1 pc = .ok (.ineg, 1)) (kk : X l g M F (pc + 1) L (.int (-x) :: st) N sh mem c n) : X l g M F pc L (.int x :: st) N sh mem c n :=
  fun p e s m args below meth cd H locs ls C hW hS hL => lv_ineg C.1 C.2.1 hdg (kk _ _ _ _ _ _ _ _ _ _ _ C hW hS hL)
theorem x_i2c {x v : Int32} (hdg : decode M.2.2.1 pc = .ok (.i2c, 1)) (hv : (x.toUInt32 % 65536).toInt32 = v) (kk : X l g M F (pc + 1) L (.int v :: st) N sh mem c n) : X l g M F pc L (.int x :: st) N sh mem c n :=
  fun p e s m args below meth cd H locs ls C hW hS hL => lv_i2c C.1 C.2.1 hdg hv (kk _ _ _ _ _ _ _ _ _ _ _ C hW hS hL)
theorem x_i2d {x : Int32} (hdg : decode M.2.2.1 pc = .ok (.i2d, 1)) (kk : X l g M F (pc + 1) L (.double (FP.i2d x) :: st) N sh mem c n) : X l g M F pc L (.int x :: st) N sh mem c n :=
  fun p e s m args below meth cd H locs ls C hW hS hL => lv_i2d C.1 C.2.1 hdg (kk _ _ _ _ _ _ _ _ _ _ _ C hW hS hL)
theorem x_ddiv {x y : UInt64} (hdg : decode M.2.2.1 pc = .ok (.ddiv, 1)) (hne : vf_n64 (FP.ddiv x y)) (kk : X l g M F (pc + 1) L (.double (FP.ddiv x y) :: st) N sh mem c n) : X l g M F pc L (.double y :: .double x :: st) N sh mem c n :=
  fun p e s m args below meth cd H locs ls C hW hS hL => lv_ddiv C.1 C.2.1 hdg hne (kk _ _ _ _ _ _ _ _ _ _ _ C hW hS hL)
theorem x_bipush {k : Int} {v : Int32} (hdg : decode M.2.2.1 pc = .ok (.bipush k, 2)) (hv : (Int8.ofInt k).toInt32 = v) (kk : X l g M F (pc + 2) L (.int v :: st) N sh mem c n) : X l g M F pc L st N sh mem c n :=
  fun p e s m args below meth cd H locs ls C hW hS hL => lv_bipush C.1 C.2.1 hdg hv (kk _ _ _ _ _ _ _ _ _ _ _ C hW hS hL)
theorem x_sipush {k : Int} {v : Int32} (hdg : decode M.2.2.1 pc = .ok (.sipush k, 3)) (hv : (Int16.ofInt k).toInt32 = v) (kk : X l g M F (pc + 3) L (.int v :: st) N sh mem c n) : X l g M F pc L st N sh mem c n :=
  fun p e s m args below meth cd H locs ls C hW hS hL => lv_sipush C.1 C.2.1 hdg hv (kk _ _ _ _ _ _ _ _ _ _ _ C hW hS hL)
theorem x_dup {v : Value} (hdg : decode M.2.2.1 pc = .ok (.dup, 1)) (hv : v.category = 1) (kk : X l g M F (pc + 1) L (v :: v :: st) N sh mem c n) : X l g M F pc L (v :: st) N sh mem c n :=
  fun p e s m args below meth cd H locs ls C hW hS hL => lv_dup C.1 C.2.1 hdg hv (kk _ _ _ _ _ _ _ _ _ _ _ C hW hS hL)
theorem x_pop {v : Value} (hdg : decode M.2.2.1 pc = .ok (.pop, 1)) (hv : v.category = 1) (kk : X l g M F (pc + 1) L st N sh mem c n) : X l g M F pc L (v :: st) N sh mem c n :=
  fun p e s m args below meth cd H locs ls C hW hS hL => lv_pop C.1 C.2.1 hdg hv (kk _ _ _ _ _ _ _ _ _ _ _ C hW hS hL)
theorem x_dup2 {v w : Value} (hdg : decode M.2.2.1 pc = .ok (.dup2, 1)) (hv : v.category = 1) (hw : w.category = 1) (kk : X l g M F (pc + 1) L (v :: w :: v :: w :: st) N sh mem c n) : X l g M F pc L (v :: w :: st) N sh mem c n :=
  fun p e s m args below meth cd H locs ls C hW hS hL => lv_dup2_11 C.1 C.2.1 hdg hv hw (kk _ _ _ _ _ _ _ _ _ _ _ C hW hS hL)
theorem x_goto {off : Int} {tgt : Nat} (hdg : decode M.2.2.1 pc = .ok (.goto off, 3)) (ht : (pc : Int) + off = (tgt : Int)) (kk : X l g M F tgt L st N sh mem c n) : X l g M F pc L st N sh mem c n :=
  fun p e s m args below meth cd H locs ls C hW hS hL => lv_goto C.1 C.2.1 hdg ht (kk _ _ _ _ _ _ _ _ _ _ _ C hW hS hL)
theorem x_if_eq {x : Int32} {off : Int} {tgt : Nat} (hdg : decode M.2.2.1 pc = .ok (.ifCond .eq off, 3)) (ht : (pc : Int) + off = (tgt : Int)) (kt : x = 0 → X l g M F tgt L st N sh mem c n) (kf : ¬ (x = 0) → X l g M F (pc + 3) L st N sh mem c n) : X l g M F pc L (.int x :: st) N sh mem c n :=
  fun p e s m args below meth cd H locs ls C hW hS hL => lv_if_eq C.1 C.2.1 hdg ht (fun h => kt h _ _ _ _ _ _ _ _ _ _ _ C hW hS hL) (fun h => kf h _ _ _ _ _ _ _ _ _ _ _ C hW hS hL)
theorem x_icmp_eq {x y : Int32} {off : Int} {tgt : Nat} (hdg : decode M.2.2.1 pc = .ok (.if_icmp .eq off, 3)) (ht : (pc : Int) + off = (tgt : Int)) (kt : x = y → X l g M F tgt L st N sh mem c n) (kf : ¬ (x = y) → X l g M F (pc + 3) L st N sh mem c n) : X l g M F pc L (.int y :: .int x :: st) N sh mem c n :=
  fun p e s m args below meth cd H locs ls C hW hS hL => lv_icmp_eq C.1 C.2.1 hdg ht (fun h => kt h _ _ _ _ _ _ _ _ _ _ _ C hW hS hL) (fun h => kf h _ _ _ _ _ _ _ _ _ _ _ C hW hS hL)
theorem x_if_ne {x : Int32} {off : Int} {tgt : Nat} (hdg : decode M.2.2.1 pc = .ok (.ifCond .ne off, 3)) (ht : (pc : Int) + off = (tgt : Int)) (kt : ¬ x = 0 → X l g M F tgt L st N sh mem c n) (kf : x = 0 → X l g M F (pc + 3) L st N sh mem c n) : X l g M F pc L (.int x :: st) N sh mem c n :=
  fun p e s m args below meth cd H locs ls C hW hS hL => lv_if_ne C.1 C.2.1 hdg ht (fun h => kt h _ _ _ _ _ _ _ _ _ _ _ C hW hS hL) (fun h => kf h _ _ _ _ _ _ _ _ _ _ _ C hW hS hL)
theorem x_icmp_ne {x y : Int32} {off : Int} {tgt : Nat} (hdg : decode M.2.2.1 pc = .ok (.if_icmp .ne off, 3)) (ht : (pc : Int) + off = (tgt : Int)) (kt : ¬ x = y → X l g M F tgt L st N sh mem c n) (kf : x = y → X l g M F (pc + 3) L st N sh mem c n) : X l g M F pc L (.int y :: .int x :: st) N sh mem c n :=
  fun p e s m args below meth cd H locs ls C hW hS hL => lv_icmp_ne C.1 C.2.1 hdg ht (fun h => kt h _ _ _ _ _ _ _ _ _ _ _ C hW hS hL) (fun h => kf h _ _ _ _ _ _ _ _ _ _ _ C hW hS hL)
theorem x_if_lt {x : Int32} {off : Int} {tgt : Nat} (hdg : decode M.2.2.1 pc = .ok (.ifCond .lt off, 3)) (ht : (pc : Int) + off = (tgt : Int)) (kt : x < 0 → X l g M F tgt L st N sh mem c n) (kf : ¬ (x < 0) → X l g M F (pc + 3) L st N sh mem c n) : X l g M F pc L (.int x :: st) N sh mem c n :=
  fun p e s m args below meth cd H locs ls C hW hS hL => lv_if_lt C.1 C.2.1 hdg ht (fun h => kt h _ _ _ _ _ _ _ _ _ _ _ C hW hS hL) (fun h => kf h _ _ _ _ _ _ _ _ _ _ _ C hW hS hL)
theorem x_icmp_lt {x y : Int32} {off : Int} {tgt : Nat} (hdg : decode M.2.2.1 pc = .ok (.if_icmp .lt off, 3)) (ht : (pc : Int) + off = (tgt : Int)) (kt : x < y → X l g M F tgt L st N sh mem c n) (kf : ¬ (x < y) → X l g M F (pc + 3) L st N sh mem c n) : X l g M F pc L (.int y :: .int x :: st) N sh mem c n :=
  fun p e s m args below meth cd H locs ls C hW hS hL => lv_icmp_lt C.1 C.2.1 hdg ht (fun h => kt h _ _ _ _ _ _ _ _ _ _ _ C hW hS hL) (fun h => kf h _ _ _ _ _ _ _ _ _ _ _ C hW hS hL)
theorem x_if_ge {x : Int32} {off : Int} {tgt : Nat} (hdg : decode M.2.2.1 pc = .ok (.ifCond .ge off, 3)) (ht : (pc : Int) + off = (tgt : Int)) (kt : 0 ≤ x → X l g M F tgt L st N sh mem c n) (kf : ¬ (0 ≤ x) → X l g M F (pc + 3) L st N sh mem c n) : X l g M F pc L (.int x :: st) N sh mem c n :=
  fun p e s m args below meth cd H locs ls C hW hS hL => lv_if_ge C.1 C.2.1 hdg ht (fun h => kt h _ _ _ _ _ _ _ _ _ _ _ C hW hS hL) (fun h => kf h _ _ _ _ _ _ _ _ _ _ _ C hW hS hL)
theorem x_icmp_ge {x y : Int32} {off : Int} {tgt : Nat} (hdg : decode M.2.2.1 pc = .ok (.if_icmp .ge off, 3)) (ht : (pc : Int) + off = (tgt : Int)) (kt : y ≤ x → X l g M F tgt L st N sh mem c n) (kf : ¬ (y ≤ x) → X l g M F (pc + 3) L st N sh mem c n) : X l g M F pc L (.int y :: .int x :: st) N sh mem c n :=
  fun p e s m args below meth cd H locs ls C hW hS hL => lv_icmp_ge C.1 C.2.1 hdg ht (fun h => kt h _ _ _ _ _ _ _ _ _ _ _ C hW hS hL) (fun h => kf h _ _ _ _ _ _ _ _ _ _ _ C hW hS hL)
theorem x_if_gt {x : Int32} {off : Int} {tgt : Nat} (hdg : decode M.2.2.1 pc = .ok (.ifCond .gt off, 3)) (ht : (pc : Int) + off = (tgt : Int)) (kt : 0 < x → X l g M F tgt L st N sh mem c n) (kf : ¬ (0 < x) → X l g M F (pc + 3) L st N sh mem c n) : X l g M F pc L (.int x :: st) N sh mem c n :=
  fun p e s m args below meth cd H locs ls C hW hS hL => lv_if_gt C.1 C.2.1 hdg ht (fun h => kt h _ _ _ _ _ _ _ _ _ _ _ C hW hS hL) (fun h => kf h _ _ _ _ _ _ _ _ _ _ _ C hW hS hL)
theorem x_icmp_gt {x y : Int32} {off : Int} {tgt : Nat} (hdg : decode M.2.2.1 pc = .ok (.if_icmp .gt off, 3)) (ht : (pc : Int) + off = (tgt : Int)) (kt : y < x → X l g M F tgt L st N sh mem c n) (kf : ¬ (y < x) → X l g M F (pc + 3) L st N sh mem c n) : X l g M F pc L (.int y :: .int x :: st) N sh mem c n :=
  fun p e s m args below meth cd H locs ls C hW hS hL => lv_icmp_gt C.1 C.2.1 hdg ht (fun h => kt h _ _ _ _ _ _ _ _ _ _ _ C hW hS hL) (fun h => kf h _ _ _ _ _ _ _ _ _ _ _ C hW hS hL)
theorem x_if_le {x : Int32} {off : Int} {tgt : Nat} (hdg : decode M.2.2.1 pc = .ok (.ifCond .le off, 3)) (ht : (pc : Int) + off = (tgt : Int)) (kt : x ≤ 0 → X l g M F tgt L st N sh mem c n) (kf : ¬ (x ≤ 0) → X l g M F (pc + 3) L st N sh mem c n) : X l g M F pc L (.int x :: st) N sh mem c n :=
  fun p e s m args below meth cd H locs ls C hW hS hL => lv_if_le C.1 C.2.1 hdg ht (fun h => kt h _ _ _ _ _ _ _ _ _ _ _ C hW hS hL) (fun h => kf h _ _ _ _ _ _ _ _ _ _ _ C hW hS hL)
theorem x_icmp_le {x y : Int32} {off : Int} {tgt : Nat} (hdg : decode M.2.2.1 pc = .ok (.if_icmp .le off, 3)) (ht : (pc : Int) + off = (tgt : Int)) (kt : x ≤ y → X l g M F tgt L st N sh mem c n) (kf : ¬ (x ≤ y) → X l g M F (pc + 3) L st N sh mem c n) : X l g M F pc L (.int y :: .int x :: st) N sh mem c n :=
  fun p e s m args below meth cd H locs ls C hW hS hL => lv_icmp_le C.1 C.2.1 hdg ht (fun h => kt h _ _ _ _ _ _ _ _ _ _ _ C hW hS hL) (fun h => kf h _ _ _ _ _ _ _ _ _ _ _ C hW hS hL)
theorem x_tableIn {dflt lo hi : Int} {offs : Array Int} {len : Nat} {x : Int32} {off : Int} {tgt : Nat} (hdg : decode M.2.2.1 pc = .ok (.tableswitch dflt lo hi offs, len)) (h1 : ¬ x.toInt < lo) (h2 : ¬ hi < x.toInt) (ho : offs[(x.toInt - lo).toNat]? = some off) (ht : (pc : Int) + off = (tgt : Int)) (kk : X l g M F tgt L st N sh mem c n) : X l g M F pc L (.int x :: st) N sh mem c n :=
  fun p e s m args below meth cd H locs ls C hW hS hL => lv_tableIn C.1 C.2.1 hdg h1 h2 ho ht (kk _ _ _ _ _ _ _ _ _ _ _ C hW hS hL)
theorem x_tableOut {dflt lo hi : Int} {offs : Array Int} {len : Nat} {x : Int32} {tgt : Nat} (hdg : decode M.2.2.1 pc = .ok (.tableswitch dflt lo hi offs, len)) (h : x.toInt < lo ∨ hi < x.toInt) (ht : (pc : Int) + dflt = (tgt : Int)) (kk : X l g M F tgt L st N sh mem c n) : X l g M F pc L (.int x :: st) N sh mem c n :=
  fun p e s m args below meth cd H locs ls C hW hS hL => lv_tableOut C.1 C.2.1 hdg h ht (kk _ _ _ _ _ _ _ _ _ _ _ C hW hS hL)
theorem x_lookup {dflt : Int} {ps : Array (Int × Int)} {len : Nat} {x : Int32} {off : Int} {tgt : Nat} (hdg : decode M.2.2.1 pc = .ok (.lookupswitch dflt ps, len)) (hp : (ps.toList.zip (ps.toList.drop 1)).all (fun (a, next) => a.1 < next.1) = true) (ho : Op.lookupswitch.offset ps.toList dflt x.toInt = off) (ht : (pc : Int) + off = (tgt : Int)) (kk : X l g M F tgt L st N sh mem c n) : X l g M F pc L (.int x :: st) N sh mem c n :=
  fun p e s m args below meth cd H locs ls C hW hS hL => lv_lookup C.1 C.2.1 hdg hp ho ht (kk _ _ _ _ _ _ _ _ _ _ _ C hW hS hL)
theorem x_null (hdg : decode M.2.2.1 pc = .ok (.aconst_null, 1)) (kk : X l g M F (pc + 1) L (.null :: st) N sh mem c n) : X l g M F pc L st N sh mem c n :=
  fun p e s m args below meth cd H locs ls C hW hS hL => lv_null C.1 C.2.1 hdg (kk _ _ _ _ _ _ _ _ _ _ _ C hW hS hL)
theorem x_ifnonnull {o : Nat} {off : Int} {tgt : Nat} (hdg : decode M.2.2.1 pc = .ok (.ifnonnull off, 3)) (ht : (pc : Int) + off = (tgt : Int)) (kk : X l g M F tgt L st N sh mem c n) : X l g M F pc L (rf g o :: st) N sh mem c n :=
  fun p e s m args below meth cd H locs ls C hW hS hL => lv_ifnonnull C.1 C.2.1 hdg ht (kk _ _ _ _ _ _ _ _ _ _ _ C hW hS hL)
theorem x_ifnull {o : Nat} {off : Int} (hdg : decode M.2.2.1 pc = .ok (.ifnull off, 3)) (kk : X l g M F (pc + 3) L st N sh mem c n) : X l g M F pc L (rf g o :: st) N sh mem c n :=
  fun p e s m args below meth cd H locs ls C hW hS hL => lv_ifnull C.1 C.2.1 hdg (kk _ _ _ _ _ _ _ _ _ _ _ C hW hS hL)
end XR2
end
section
/-! fields, arrays, what is new -/
def um (mem : Mem) (o k : Nat) (x : Int32) : Mem := fun o' k' => if o' = o then (if k' = k then x else mem o' k') else mem o' k'
def us (sh : Nat → Sh) (o : Nat) (x : Sh) : Nat → Sh := fun o' => if o' = o then x else sh o'
def zm (mem : Mem) (o : Nat) : Mem := fun o' k' => if o' = o then 0 else mem o' k'
theorem um_at (mem : Mem) (o k : Nat) (x : Int32) : um mem o k x o = upd (mem o) k x := by funext j; simp only [um, upd, if_true]
theorem um_ne (mem : Mem) {o o' : Nat} (k : Nat) (x : Int32) (h : o' ≠ o) : um mem o k x o' = mem o' := by funext j; simp only [um, if_neg h]
theorem us_at (sh : Nat → Sh) (o : Nat) (x : Sh) : us sh o x o = x := if_pos rfl
theorem us_ne (sh : Nat → Sh) {o o' : Nat} (x : Sh) (h : o' ≠ o) : us sh o x o' = sh o' := if_neg h
theorem zm_at (mem : Mem) (o : Nat) : zm mem o o = fun _ => 0 := by funext j; simp only [zm, if_true]
theorem zm_ne (mem : Mem) {o o' : Nat} (h : o' ≠ o) : zm mem o o' = mem o' := by funext j; simp only [zm, if_neg h]
theorem va_P1 {D : va_G} {cl : List vw_C} {a : Nat} {e : va_E} {H : Heap} (h : va_at D cl (a, e) H) : va_P D cl [(a, e)] H := by
  intro k q hk
  match k, hk with
  | 0, hk => cases hk; exact h
  | k + 1, hk => simp at hk
theorem obj_ne {sh : Nat → Sh} {o ci : Nat} {fs : List (Option (Option Nat))} (hs : sh o = .inl (ci, fs)) (hf : fs ≠ []) : sh o ≠ sh0 := by
  rw [hs]
  intro h
  have h1 := Sum.inl.inj h
  exact hf (congrArg Prod.snd h1)
theorem fs_ne {α : Type} {fs : List α} {k : Nat} {x : α} (h : fs[k]? = some x) : fs ≠ [] := fun e => by rw [e] at h; simp at h
theorem arr_ne {sh : Nat → Sh} {o : Nat} {y : Nat ⊕ (Nat × (Nat → Option Nat))} (hs : sh o = .inr y) : sh o ≠ sh0 := by
  rw [hs]
  intro h
  cases h
def FS (own : String) (idx ci k : Nat) : Prop := ∃ (C : String) (T : u_T) (nf : Nat), vwCl[ci]? = some (C, T, nf) ∧ (∀ w ∈ u_ws C T nf, w ∈ tbG) ∧ k < nf ∧ Cond.fieldLink own idx (T k).1 (T k).2.1 (T k).2.2.1 ∈ tbG
def PS (own : String) (idx ci k : Nat) (ty : FieldType) (fin : Bool) : Prop := ∃ (C : String) (T : u_T) (nf : Nat) (ty0 : Nat → FieldType), vwCl[ci]? = some (C, T, nf) ∧ (∀ w ∈ u_ws C T nf, w ∈ tbG) ∧ k < nf ∧ Cond.fieldLink own idx (T k).1 (T k).2.1 (T k).2.2.1 ∈ tbG ∧ (∀ k, k < nf → parseFieldDescriptor (T k).2.2.1 = some (ty0 k)) ∧ (∀ a, a < nf → ∀ b, b < nf → a ≠ b → (T a).2.1 ≠ (T b).2.1) ∧ (T k).2.2.2 = fin ∧ ty0 k = ty ∧ (fin = true → (T k).1 = own)
def NS (own : String) (idx ci : Nat) (fs : List (Option (Option Nat))) : Prop := ∃ (C : String) (T : u_T) (nf : Nat) (ty0 : Nat → FieldType), vwCl[ci]? = some (C, T, nf) ∧ (∀ w ∈ u_ws C T nf, w ∈ tbG) ∧ (∀ k, k < nf → parseFieldDescriptor (T k).2.2.1 = some (ty0 k)) ∧ Cond.classLink own idx C ∈ tbG ∧ Cond.instantiable C nf ∈ tbG ∧ Cond.initialized C ∈ tbG ∧ fs.length = nf ∧ ∀ j, j < nf → (fs[j]? = some none ∧ defaultValue (ty0 j) = .int 0) ∨ (fs[j]? = some (some none) ∧ defaultValue (ty0 j) = .null)
theorem vp_mapIdx (g : XG) (f : Nat → Int32) (fs : List (Option (Option Nat))) {j : Nat} {x : Option (Option Nat)} (h : fs[j]? = some x) : vp_V (fs.mapIdx (fv g f)) j = fv g f j x := by
  show (fs.mapIdx (fv g f)).getD j .null = _
  rw [List.getD_eq_getElem?_getD, List.getElem?_mapIdx, h]
  rfl
theorem vp_mapIdx_none (g : XG) (f : Nat → Int32) (fs : List (Option (Option Nat))) {j : Nat} (h : fs[j]? = none) : vp_V (fs.mapIdx (fv g f)) j = .null := by
  show (fs.mapIdx (fv g f)).getD j .null = _
  rw [List.getD_eq_getElem?_getD, List.getElem?_mapIdx, h]
  rfl
section XH
variable {l : Launch} {g : XG} {M : Mt} {F : XFin} {pc : Nat} {L : List (Option Value)} {st : List Value} {N : Option Nat} {sh : Nat → Sh} {mem : Mem} {c n : Nat}
theorem x_getV {o ci k idx : Nat} {fs : List (Option (Option Nat))} {x : Option (Option Nat)} (hs : sh o = .inl (ci, fs)) (hx : fs[k]? = some x) (hf : FS M.1 idx ci k) (hdg : decode M.2.2.1 pc = .ok (.getfield idx, 3)) (kk : X l g M F (pc + 3) L (fv g (mem o) k x :: st) N sh mem c n) : X l g M F pc L (rf g o :: st) N sh mem c n := by
  intro p e s m args below meth cd H locs ls C hW hS hL
  obtain ⟨Cn, T, nf, hc, hin, hk, hlk⟩ := hf
  have hat := hW.2 o (obj_ne hs (fs_ne hx))
  rw [hs] at hat
  have hts := C.2.2.2.2.2.2.2.1
  refine va_get C.1 C.2.1 hts hin C.2.2.2.1 C.2.2.2.2.2.2.2.2.1.1 (va_P1 hat) 0 rfl hc k hk (hts _ hlk) (fun _ h => h) ?_ hdg (kk _ _ _ _ _ _ _ _ _ _ _ C hW hS hL)
  rw [List.getElem?_mapIdx, hx]
  rfl
theorem x_getI {o ci k idx : Nat} {fs : List (Option (Option Nat))} (hs : sh o = .inl (ci, fs)) (hx : fs[k]? = some none) (hf : FS M.1 idx ci k) (hdg : decode M.2.2.1 pc = .ok (.getfield idx, 3)) (kk : X l g M F (pc + 3) L (.int (mem o k) :: st) N sh mem c n) : X l g M F pc L (rf g o :: st) N sh mem c n := x_getV hs hx hf hdg kk
theorem x_getR {o ci k idx r : Nat} {fs : List (Option (Option Nat))} (hs : sh o = .inl (ci, fs)) (hx : fs[k]? = some (some (some r))) (hf : FS M.1 idx ci k) (hdg : decode M.2.2.1 pc = .ok (.getfield idx, 3)) (kk : X l g M F (pc + 3) L (rf g r :: st) N sh mem c n) : X l g M F pc L (rf g o :: st) N sh mem c n := x_getV hs hx hf hdg kk
theorem x_putI {o ci k idx : Nat} {fs : List (Option (Option Nat))} {ty : FieldType} {v : Int32} (hs : sh o = .inl (ci, fs)) (hx : fs[k]? = some none) (hf : PS M.1 idx ci k ty false) (hn : narrow ty (.int v) = .int v) (hfit : fits ty (.int v) = true) (hdg : decode M.2.2.1 pc = .ok (.putfield idx, 3)) (kk : X l g M F (pc + 3) L st N sh (um mem o k v) c n) : X l g M F pc L (.int v :: rf g o :: st) N sh mem c n := by
  intro p e s m args below meth cd H locs ls C hW hS hL
  obtain ⟨Cn, T, nf, ty0, hc, hin, hk, hlk, hty, hnm, hfin, hty0, -⟩ := hf
  have hts := C.2.2.2.2.2.2.2.1
  have hK := C.2.2.2.2.2.2.2.2.1.1
  have hown := C.2.2.2.1
  have hap := va_apart (own := M.1) hts hin ty0 hty hnm hK hc
  have hat := hW.2 o (obj_ne hs (fs_ne hx))
  rw [hs] at hat
  obtain ⟨r, h1, cell, q1, q2, q3, q4⟩ := hat
  have hr : r = (Cn, T, nf) := Option.some.inj (h1.symm.trans hc)
  subst hr
  obtain ⟨hSl, hfc, kC, hkC, hkind⟩ := hK.1 ci _ hc
  obtain ⟨cf, kf, fi, f, hi, hsl⟩ := hSl k hk
  have hlay := hts _ (hin _ (u_in_lay hk))
  unfold u_lay at hlay
  rw [if_neg (by rw [hfin]; decide)] at hlay
  have hst := (u_facts hfc hkC (u_lays hts hin hk) hi).1
  have h6 := u_store hfc hkC hkind hlay hi (by rw [hty k hk, hty0]) hn hfit
  refine W.putK C.1 C.2.1 (f := f) ⟨hown, hts _ hlk, ⟨_, _, _, hi⟩, hst⟩ (by rw [q2]; exact h6) q1 q3 (by rw [hsl]; exact k2_hasslot (q4 k hk)) rfl rfl hdg fun H' e1 e2 e3 => ?_
  rw [hsl] at e1 ⊢
  refine kk _ _ _ _ _ _ _ _ _ _ _ C ⟨fun n hn => by rw [e2]; exact hW.1 n hn, fun o' ho' => ?_⟩ (hS.put e2 e3 (Nat.le_add_right _ _)) hL
  by_cases ho : o' = o
  · subst ho
    rw [hs]
    refine ⟨_, hc, t_OB.to (V := updV (vp_V (fs.mapIdx (fv g (mem o')))) k (.int v)) ⟨_, e1, q2, q3, t_set q4 hap hk (.int v)⟩ (fun j hj => ?_)⟩
    by_cases hjk : j = k
    · subst hjk
      rw [vp_mapIdx g _ fs hx]
      simp [updV, fv, um]
    · show updV _ k _ j = _
      simp only [updV, if_neg hjk]
      cases hfj : fs[j]? with
      | none => rw [vp_mapIdx_none g _ fs hfj, vp_mapIdx_none g _ fs hfj]
      | some x =>
        rw [vp_mapIdx g _ fs hfj, vp_mapIdx g _ fs hfj]
        cases x with
        | none => simp [fv, um, hjk]
        | some y => cases y <;> rfl
  · rw [um_ne mem k v ho]
    exact (hW.2 o' ho').kept (e3 _ (by show g.2.1 + o' ≠ g.2.1 + o; omega))
theorem x_putR {o ci k idx r : Nat} {fs : List (Option (Option Nat))} {ty : FieldType} {x0 : Option (Option Nat)} (hs : sh o = .inl (ci, fs)) (hx : fs[k]? = some x0) (hf : PS M.1 idx ci k ty true) (hn : ∀ a : Nat, narrow ty (.ref a) = .ref a) (hfit : ∀ a : Nat, fits ty (.ref a) = true) (hin2 : M.2.1.name = "<init>") (hdg : decode M.2.2.1 pc = .ok (.putfield idx, 3)) (kk : X l g M F (pc + 3) L st N (us sh o (.inl (ci, fs.set k (some (some r))))) mem c n) : X l g M F pc L (rf g r :: rf g o :: st) N sh mem c n := by
  intro p e s m args below meth cd H locs ls C hW hS hL
  obtain ⟨Cn, T, nf, ty0, hc, hin, hk, hlk, hty, hnm, hfin, hty0, hdecl⟩ := hf
  have hts := C.2.2.2.2.2.2.2.1
  have hK := C.2.2.2.2.2.2.2.2.1.1
  have hown := C.2.2.2.1
  have hap := va_apart (own := M.1) hts hin ty0 hty hnm hK hc
  have hat := hW.2 o (obj_ne hs (fs_ne hx))
  rw [hs] at hat
  obtain ⟨r1, h1, cell, q1, q2, q3, q4⟩ := hat
  have hr : r1 = (Cn, T, nf) := Option.some.inj (h1.symm.trans hc)
  subst hr
  obtain ⟨hSl, hfc, kC, hkC, hkind⟩ := hK.1 ci _ hc
  obtain ⟨cf, kf, fi, f, hi, hsl⟩ := hSl k hk
  have hlay := hts _ (hin _ (u_in_lay hk))
  unfold u_lay at hlay
  rw [if_pos hfin] at hlay
  have hst := (u_facts hfc hkC (u_lays hts hin hk) hi).1
  have hcf : m.cls = cf := by
    obtain ⟨_, _, c', _, _, _, -, -, hf', -, -, -, hown2, -⟩ := Cond.laysFinal_spec hlay
    have e1 : c' = cf := by have := hi.symm.trans hf'; simp at this; exact this.1.symm
    rw [hdecl rfl] at hown2
    rw [← e1]; exact Option.some.inj (hown.symm.trans hown2)
  have h6 := u_fits hfc hkC hkind (Or.inr hlay) hi (by rw [hty k hk, hty0]) (hn (g.2.1 + r)) (hfit (g.2.1 + r))
  refine W.putFinK C.1 C.2.1 hown (hts _ hlk) hi hst hcf (C.2.2.2.2.2.2.1.trans hin2) (by rw [q2]; exact h6) q1 q3 (by rw [hsl]; exact k2_hasslot (q4 k hk)) rfl rfl hdg fun H' e1 e2 e3 => ?_
  rw [hsl] at e1 ⊢
  refine kk _ _ _ _ _ _ _ _ _ _ _ C ⟨fun n hn => by rw [e2]; exact hW.1 n hn, fun o' ho' => ?_⟩ (hS.put e2 e3 (Nat.le_add_right _ _)) hL
  by_cases ho : o' = o
  · subst ho
    rw [us_at]
    refine ⟨_, hc, t_OB.to (V := updV (vp_V (fs.mapIdx (fv g (mem o')))) k (.ref (g.2.1 + r))) ⟨_, e1, q2, q3, t_set q4 hap hk (.ref (g.2.1 + r))⟩ (fun j hj => ?_)⟩
    by_cases hjk : j = k
    · subst hjk
      have h9 : (fs.set j (some (some r)))[j]? = some (some (some r)) := by rw [List.getElem?_set_self (List.getElem?_eq_some_iff.mp hx).1]
      rw [vp_mapIdx g _ _ h9]
      simp [updV, fv]
    · have h9 : (fs.set k (some (some r)))[j]? = fs[j]? := by rw [List.getElem?_set_ne (fun q => hjk q.symm)]
      show updV _ k _ j = _
      simp only [updV, if_neg hjk]
      cases hfj : fs[j]? with
      | none => rw [vp_mapIdx_none g _ fs hfj, vp_mapIdx_none g _ _ (h9.trans hfj)]
      | some x => rw [vp_mapIdx g _ fs hfj, vp_mapIdx g _ _ (h9.trans hfj)]
  · rw [us_ne sh _ ho] at ho' ⊢
    exact (hW.2 o' ho').kept (e3 _ (by show g.2.1 + o' ≠ g.2.1 + o; omega))
theorem x_iald {o na : Nat} {i : Int32} (hs : sh o = .inr (.inl na)) (hi : vp_in i na) (hdg : decode M.2.2.1 pc = .ok (.iaload, 1)) (kk : X l g M F (pc + 1) L (.int (mem o i.toNatClampNeg) :: st) N sh mem c n) : X l g M F pc L (.int i :: rf g o :: st) N sh mem c n := by
  intro p e s m args below meth cd H locs ls C hW hS hL
  have hat := hW.2 o (arr_ne hs)
  rw [hs] at hat
  exact va_iald C.1 C.2.1 C.2.2.2.2.2.2.2.2.1.1 (va_P1 hat) 0 0 rfl rfl hi hdg (kk _ _ _ _ _ _ _ _ _ _ _ C hW hS hL)
theorem x_alen {o na : Nat} (hs : sh o = .inr (.inl na)) (hdg : decode M.2.2.1 pc = .ok (.arraylength, 1)) (kk : X l g M F (pc + 1) L (.int (nI na) :: st) N sh mem c n) : X l g M F pc L (rf g o :: st) N sh mem c n := by
  intro p e s m args below meth cd H locs ls C hW hS hL
  have hat := hW.2 o (arr_ne hs)
  rw [hs] at hat
  exact va_alen C.1 C.2.1 C.2.2.2.2.2.2.2.2.1.1 (va_P1 hat) 0 0 rfl rfl rfl hdg (kk _ _ _ _ _ _ _ _ _ _ _ C hW hS hL)
theorem x_alenR {o na : Nat} {q : Nat → Option Nat} (hs : sh o = .inr (.inr (na, q))) (hdg : decode M.2.2.1 pc = .ok (.arraylength, 1)) (kk : X l g M F (pc + 1) L (.int (nI na) :: st) N sh mem c n) : X l g M F pc L (rf g o :: st) N sh mem c n := by
  intro p e s m args below meth cd H locs ls C hW hS hL
  have hat := hW.2 o (arr_ne hs)
  rw [hs] at hat
  exact va_alen C.1 C.2.1 C.2.2.2.2.2.2.2.2.1.1 (va_P1 hat) 0 1 rfl rfl rfl hdg (kk _ _ _ _ _ _ _ _ _ _ _ C hW hS hL)
theorem x_aald {o na r : Nat} {q : Nat → Option Nat} {i : Int32} (hs : sh o = .inr (.inr (na, q))) (hi : vp_in i na) (hq : q i.toNatClampNeg = some r) (hdg : decode M.2.2.1 pc = .ok (.aaload, 1)) (kk : X l g M F (pc + 1) L (rf g r :: st) N sh mem c n) : X l g M F pc L (.int i :: rf g o :: st) N sh mem c n := by
  intro p e s m args below meth cd H locs ls C hW hS hL
  have hat := hW.2 o (arr_ne hs)
  rw [hs] at hat
  refine va_aldq C.1 C.2.1 C.2.2.2.2.2.2.2.2.1.1 (va_P1 hat) 0 1 rfl rfl hi hdg ?_
  rw [hq]
  exact kk _ _ _ _ _ _ _ _ _ _ _ C hW hS hL
theorem x_iast {o na : Nat} {i x : Int32} (hs : sh o = .inr (.inl na)) (hi : vp_in i na) (hdg : decode M.2.2.1 pc = .ok (.iastore, 1)) (kk : X l g M F (pc + 1) L st N sh (um mem o i.toNatClampNeg x) c n) : X l g M F pc L (.int x :: .int i :: rf g o :: st) N sh mem c n := by
  intro p e s m args below meth cd H locs ls C hW hS hL
  have hat := hW.2 o (arr_ne hs)
  rw [hs] at hat
  have hK := C.2.2.2.2.2.2.2.2.1.1
  refine W.iast C.1 C.2.1 hat ((hK.2 0 _ rfl).1 na (fun j => .int (mem o j))) (fun q => by cases q) (by show ¬ (i < 0 ∨ (arrV _ _ _).slots.size ≤ _); rw [arrV_size]; exact hi) rfl rfl hdg fun H1 e1 z oq => ?_
  refine kk _ _ _ _ _ _ _ _ _ _ _ C ⟨fun n hn => by rw [z]; exact hW.1 n hn, fun o' ho' => ?_⟩ (hS.put z oq (Nat.le_add_right _ _)) hL
  by_cases ho : o' = o
  · subst ho
    rw [hs, um_at]
    show H1[g.2.1 + o']? = some (vp_cell _ _)
    rw [e1]
    have hlt : i.toNatClampNeg < na := Nat.not_le.mp fun q => hi (Or.inr q)
    show some ((arrV g.2.2.1 na (fun j => .int (mem o' j))).setSlot i.toNatClampNeg (.int x)) = some (arrV g.2.2.1 na (fun j => .int (upd (mem o') i.toNatClampNeg x j)))
    rw [arrV_store]
    congr 2
    funext q
    by_cases hq : q = i.toNatClampNeg
    · subst hq; simp [updV, upd]
    · simp [updV, upd, hq]
  · rw [um_ne mem _ x ho]
    exact (hW.2 o' ho').kept (oq _ (by show g.2.1 + o' ≠ g.2.1 + o; omega))
end XH
end
section
/-! what is made; calls; a method's start and end -/
section XN
variable {l : Launch} {g : XG} {M : Mt} {F : XFin} {pc : Nat} {L : List (Option Value)} {st : List Value} {N0 : Nat} {sh : Nat → Sh} {mem : Mem} {c n : Nat}
theorem x_new {ci idx : Nat} {fs : List (Option (Option Nat))} (hf : NS M.1 idx ci fs) (hne : fs ≠ []) (hdg : decode M.2.2.1 pc = .ok (.new idx, 3)) (hcl : c + 1 ≤ M.2.2.2.2.2.cells) (hsl : n + fs.length ≤ M.2.2.2.2.2.slots) (kk : X l g M F (pc + 3) L (rf g N0 :: st) (some (N0 + 1)) (us sh N0 (.inl (ci, fs))) (zm mem N0) (c + 1) (n + fs.length)) : X l g M F pc L st (some N0) sh mem c n := by
  intro p e s m args below meth cd H locs ls C hW hS hL
  obtain ⟨Cn, T, nf, ty0, hc, hin, hty, hcl2, hins, hini, hlen, hfs⟩ := hf
  have hts := C.2.2.2.2.2.2.2.1
  have hK := C.2.2.2.2.2.2.2.2.1.1
  have hKn := hK.1 ci _ hc
  have hz := hW.1 N0 rfl
  rw [hlen] at hsl kk
  refine W.newcK C.1 C.2.1 C.2.2.2.1 (hts _ hcl2) (hts _ hins) (hts _ hini) rfl hdg hcl hsl hKn.2.1 hz fun H1 kC hkC e1 z1 o1 => ?_
  refine kk _ _ _ _ _ _ _ _ _ _ _ C ⟨fun n hn => ?_, fun o' ho' => ?_⟩ ⟨?_, fun x h1 h2 => ?_, hS.2.2⟩ hL
  · cases hn
    rw [z1]
    omega
  · by_cases ho : o' = N0
    · subst ho
      rw [us_at, zm_at]
      refine ⟨_, hc, (u_born ty0 hts hin hKn hkC e1 hty).to fun j hj => ?_⟩
      rcases hfs j hj with ⟨h1, h2⟩ | ⟨h1, h2⟩
      · rw [vp_mapIdx g _ _ h1]
        exact h2
      · rw [vp_mapIdx g _ _ h1]
        exact h2
    · rw [us_ne sh _ ho] at ho' ⊢
      rw [zm_ne mem ho]
      have h9 := (hW.2 o' ho').lt
      exact (hW.2 o' ho').kept (o1 _ (by rw [← hz]; exact h9))
  · have := hS.1
    omega
  · have h3 := hS.1
    exact (o1 x (by omega)).trans (hS.2.1 x h1 h2)
theorem x_newa {k : Int32} {na : Nat} (ha : Cond.arrayClass .int ∈ tbG) (hn : ¬ k < 0) (hN : k.toNatClampNeg = na) (hb : na * 4 ≤ 536870912) (hdg : decode M.2.2.1 pc = .ok (.newarray .int, 2)) (hcl : c + 1 ≤ M.2.2.2.2.2.cells) (hsl : n + na ≤ M.2.2.2.2.2.slots) (kk : X l g M F (pc + 2) L (rf g N0 :: st) (some (N0 + 1)) (us sh N0 (.inr (.inl na))) (zm mem N0) (c + 1) (n + na)) : X l g M F pc L (.int k :: st) (some N0) sh mem c n := by
  intro p e s m args below meth cd H locs ls C hW hS hL
  have hts := C.2.2.2.2.2.2.2.1
  have hK := C.2.2.2.2.2.2.2.2.1.1
  have hz := hW.1 N0 rfl
  refine va_newaK (atype := .int) C.1 C.2.1 (hts _ ha) rfl hdg rfl hn hN hb hcl hsl hz fun H1 cA e1 z1 o1 hAr hNm => ?_
  have hcA : cA = g.2.2.1 := Option.some.inj (hNm.symm.trans (hK.2 0 (g.2.2.1, .int) rfl).2)
  subst hcA
  refine kk _ _ _ _ _ _ _ _ _ _ _ C ⟨fun n hn => ?_, fun o' ho' => ?_⟩ ⟨?_, fun x h1 h2 => ?_, hS.2.2⟩ hL
  · cases hn
    rw [z1]
    omega
  · by_cases ho : o' = N0
    · subst ho
      rw [us_at, zm_at]
      exact e1
    · rw [us_ne sh _ ho] at ho' ⊢
      rw [zm_ne mem ho]
      have h9 := (hW.2 o' ho').lt
      exact (hW.2 o' ho').kept (o1 _ (by rw [← hz]; exact h9))
  · have := hS.1
    omega
  · have h3 := hS.1
    exact (o1 x (by omega)).trans (hS.2.1 x h1 h2)
theorem x_anew {k : Int32} {na idx : Nat} (hcl2 : Cond.classLink M.1 idx "CarpetCounter$Book" ∈ tbG) (hn : ¬ k < 0) (hN : k.toNatClampNeg = na) (hb : na * 4 ≤ 536870912) (hdg : decode M.2.2.1 pc = .ok (.anewarray idx, 3)) (hcl : c + 1 ≤ M.2.2.2.2.2.cells) (hsl : n + na ≤ M.2.2.2.2.2.slots) (kk : X l g M F (pc + 3) L (rf g N0 :: st) (some (N0 + 1)) (us sh N0 (.inr (.inr (na, fun _ => none)))) (zm mem N0) (c + 1) (n + na)) : X l g M F pc L (.int k :: st) (some N0) sh mem c n := by
  intro p e s m args below meth cd H locs ls C hW hS hL
  have hts := C.2.2.2.2.2.2.2.1
  have hK := C.2.2.2.2.2.2.2.2.1
  have hz := hW.1 N0 rfl
  subst hN
  refine W.anew C.1 C.2.1 C.2.2.2.1 (hts _ hcl2) (va_AO.use hK.2.1) rfl hdg rfl hn hb hcl hsl fun cA kA comp f1 f2 f3 f4 => ?_
  obtain ⟨kA', comp', k1, k2, k3, k4⟩ := (hK.1.2 1 (g.2.2.2, .object "CarpetCounter$Book") rfl).2
  have hcA : cA = g.2.2.2 := Option.some.inj (f1.symm.trans k4)
  subst hcA
  generalize hH1 : H.push ({ cls := g.2.2.2, slots := Array.replicate k.toNatClampNeg .null, vm := .none } : Cell) = H1
  have z1 : H1.size = H.size + 1 := by rw [← hH1, Array.size_push]
  have e1 : H1[H.size]? = some (arrV g.2.2.2 k.toNatClampNeg (fun _ => .null)) := by rw [← hH1, Array.getElem?_push_size, ← arrV_new]
  have o1 : ∀ q : Nat, q < H.size → H1[q]? = H[q]? := fun q hq => by rw [← hH1, Array.getElem?_push, if_neg (Nat.ne_of_lt hq)]
  rw [hz] at e1 ⊢
  refine kk _ _ _ _ _ _ _ _ _ _ _ C ⟨fun n hn => ?_, fun o' ho' => ?_⟩ ⟨?_, fun x h1 h2 => ?_, hS.2.2⟩ hL
  · cases hn
    omega
  · by_cases ho : o' = N0
    · subst ho
      rw [us_at, zm_at]
      exact e1
    · rw [us_ne sh _ ho] at ho' ⊢
      rw [zm_ne mem ho]
      exact (hW.2 o' ho').kept (o1 _ (hW.2 o' ho').lt)
  · have := hS.1
    omega
  · have h3 := hS.1
    exact (o1 x (by omega)).trans (hS.2.1 x h1 h2)
end XN
section XC
variable {l : Launch} {g : XG} {M : Mt} {F : XFin} {pc : Nat} {L : List (Option Value)} {st : List Value} {N : Option Nat} {sh : Nat → Sh} {mem : Mem} {c n : Nat}
theorem x_aast {o na r ci : Nat} {q : Nat → Option Nat} {fs : List (Option (Option Nat))} {i : Int32} (hs : sh o = .inr (.inr (na, q))) (hr : sh r = .inl (0, fs)) (hfs : fs ≠ []) (hi : vp_in i na) (hdg : decode M.2.2.1 pc = .ok (.aastore, 1)) (kk : X l g M F (pc + 1) L st N (us sh o (.inr (.inr (na, fun j => if j = i.toNatClampNeg then some r else q j)))) mem c n) : X l g M F pc L (rf g r :: .int i :: rf g o :: st) N sh mem c n := by
  intro p e s m args below meth cd H locs ls C hW hS hL
  have hK := C.2.2.2.2.2.2.2.2.1.1
  have hlt : i.toNatClampNeg < na := Nat.not_le.mp fun q => hi (Or.inr q)
  have h0 : ¬ i < 0 := fun q => hi (Or.inl q)
  have hat := hW.2 o (arr_ne hs)
  rw [hs] at hat
  have hat2 := hW.2 r (obj_ne hr hfs)
  rw [hr] at hat2
  obtain ⟨r', hr', cellV, g1, g2, g3, -⟩ := hat2
  have hr2 : r' = (R_Bk, T_Bk, 7) := Option.some.inj (hr'.symm.trans rfl)
  subst hr2
  have hcls := (hK.1 0 (R_Bk, T_Bk, 7) rfl).2
  obtain ⟨kA, comp, k1, k2, k3, -⟩ := (hK.2 1 (g.2.2.2, .object "CarpetCounter$Book") rfl).2
  have hcomp : comp = g.1.1 0 := Option.some.inj (k3.symm.trans hcls.1)
  subst hcomp
  obtain ⟨kC, hkC, -⟩ := hcls.2
  refine W.aast C.1 C.2.1 hat (fun q h => by cases h) (fun h => by cases h) k1 k2 rfl hkC ⟨h0, by show _ < (arrV _ _ _).slots.size; rw [arrV_size]; exact hlt⟩ g1 (fun q h => by rw [g3] at h; cases h) (by rw [g2]; exact hkC) (by rw [g2]; exact va_assign hcls) rfl rfl hdg fun H1 e1 z oq => ?_
  refine kk _ _ _ _ _ _ _ _ _ _ _ C ⟨fun n hn => by rw [z]; exact hW.1 n hn, fun o' ho' => ?_⟩ (hS.put z oq (Nat.le_add_right _ _)) hL
  by_cases ho : o' = o
  · subst ho
    rw [us_at]
    show H1[g.2.1 + o']? = some (vp_cell _ _)
    rw [e1]
    rw [vp_cell_q, vp_cell_q, arrV_store]
    congr 2
    funext q
    by_cases hq : q = i.toNatClampNeg
    · subst hq; simp [updV, va_rf]
    · simp [updV, hq]
  · rw [us_ne sh _ ho] at ho' ⊢
    exact (hW.2 o' ho').kept (oq _ (by show g.2.1 + o' ≠ g.2.1 + o; omega))
theorem x_objInit {idx o : Nat} (h1 : Cond.methodLink M.1 idx Lib.objectInit ∈ tbG) (h2 : Cond.instanceMethod Lib.objectInit ∈ tbG) (h3 : Cond.code Lib.objectInit ⟨#[0xb1]⟩ 1 none ∈ tbG) (hdg : decode M.2.2.1 pc = .ok (.invokespecial idx, 3)) (hfr : 1 ≤ M.2.2.2.2.2.frames) (hlo : (st.map fun v => v.category).sum + 12 ≤ M.2.2.2.2.2.locals) (kk : X l g M F (pc + 3) L st N sh mem c n) : X l g M F pc L (rf g o :: st) N sh mem c n := by
  intro p e s m args below meth cd H locs ls C hW hS hL
  have hts := C.2.2.2.2.2.2.2.1
  refine W.objInit C.1 C.2.1 C.2.2.2.1 (hts _ h1) (hts _ h2) (hts _ h3) rfl (by rw [C.2.2.1]; exact hL.1) rfl hdg hfr (by show 2 * 0 + _ + _ ≤ _; omega) ?_
  exact W.eq (g2 := F0 m (pc + 3) ls st) rfl (kk _ _ _ _ _ _ _ _ _ _ _ C hW hS hL)
theorem x_max {idx : Nat} {x y : Int32} (h1 : Cond.methodLink M.1 idx Lib.Math.max.name ∈ tbG) (h2 : Cond.static Lib.Math.max.name ∈ tbG) (h3 : Cond.initialized "java/lang/Math" ∈ tbG) (h4 : Cond.code Lib.Math.max.name Lib.Math.max.code 2 (some .int) ∈ tbG) (hdg : decode M.2.2.1 pc = .ok (.invokestatic idx, 3)) (hfr : 1 ≤ M.2.2.2.2.2.frames) (hlo : (st.map fun v => v.category).sum + 13 ≤ M.2.2.2.2.2.locals) (hcl : c ≤ M.2.2.2.2.2.cells) (hsl : n ≤ M.2.2.2.2.2.slots) (kk : X l g M F (pc + 3) L (.int (if x < y then y else x) :: st) N sh mem c n) : X l g M F pc L (.int y :: .int x :: st) N sh mem c n := by
  intro p e s m args below meth cd H locs ls C hW hS hL
  have hts := C.2.2.2.2.2.2.2.1
  exact va_mmax C.1 C.2.1 (by rw [C.2.2.1]; exact hL.1.symm) C.2.2.2.1 (hts _ h1) (hts _ h2) (hts _ h3) (hts _ h4) hfr hlo hcl hsl hdg (kk _ _ _ _ _ _ _ _ _ _ _ C hW hS hL)
theorem x_min {idx : Nat} {x y : Int32} (h1 : Cond.methodLink M.1 idx Lib.Math.min.name ∈ tbG) (h2 : Cond.static Lib.Math.min.name ∈ tbG) (h3 : Cond.initialized "java/lang/Math" ∈ tbG) (h4 : Cond.code Lib.Math.min.name Lib.Math.min.code 2 (some .int) ∈ tbG) (hdg : decode M.2.2.1 pc = .ok (.invokestatic idx, 3)) (hfr : 1 ≤ M.2.2.2.2.2.frames) (hlo : (st.map fun v => v.category).sum + 13 ≤ M.2.2.2.2.2.locals) (hcl : c ≤ M.2.2.2.2.2.cells) (hsl : n ≤ M.2.2.2.2.2.slots) (kk : X l g M F (pc + 3) L (.int (if y < x then y else x) :: st) N sh mem c n) : X l g M F pc L (.int y :: .int x :: st) N sh mem c n := by
  intro p e s m args below meth cd H locs ls C hW hS hL
  have hts := C.2.2.2.2.2.2.2.1
  exact va_mmin C.1 C.2.1 (by rw [C.2.2.1]; exact hL.1.symm) C.2.2.2.1 (hts _ h1) (hts _ h2) (hts _ h3) (hts _ h4) hfr hlo hcl hsl hdg (kk _ _ _ _ _ _ _ _ _ _ _ C hW hS hL)
end XC
end
section
/-! calls, a method's start and end -/
def VI (y : MethodName) (b : ByteArray) (mL : Nat) (ret : Option FieldType) (na : Nat) : Prop := (y.cls ≠ "java/lang/invoke/MethodHandle" ∧ y.cls ≠ "java/lang/invoke/VarHandle" ∧ (parseMethodDescriptor y.desc).map (fun d => d.parameters.length) = some na) ∧ Cond.instanceMethod y ∈ tbG ∧ Cond.selects y.cls y y ∈ tbG ∧ Cond.initialized y.cls ∈ tbG ∧ Cond.code y b mL ret ∈ tbG
def VS (y : MethodName) (b : ByteArray) (mL : Nat) (ret : Option FieldType) (na : Nat) : Prop := (y.cls ≠ "java/lang/invoke/MethodHandle" ∧ y.cls ≠ "java/lang/invoke/VarHandle" ∧ (parseMethodDescriptor y.desc).map (fun d => d.parameters.length) = some na) ∧ Cond.static y ∈ tbG ∧ Cond.initialized y.cls ∈ tbG ∧ Cond.code y b mL ret ∈ tbG
def VC (y : MethodName) (b : ByteArray) (mL : Nat) (na : Nat) : Prop := (y.cls ≠ "java/lang/invoke/MethodHandle" ∧ y.cls ≠ "java/lang/invoke/VarHandle" ∧ (parseMethodDescriptor y.desc).map (fun d => d.parameters.length) = some na) ∧ Cond.instanceMethod y ∈ tbG ∧ Cond.initialized y.cls ∈ tbG ∧ Cond.code y b mL none ∈ tbG ∧ y.name = "<init>"
theorem w_call {p : Program} {l : Launch} {e : Env} {R : Room} {s : State} {m : MethodId} {args : Array Value} {below : List Frame} {meth : Method} {c : Code} {H : Heap} {locs : List Loc} {cells slots mc ms pc : Nat} {ls : Array Slot} {st0 rest : List Value} {a : Array Value} {g : XG} {Q : XP} {Qf : State → Prop}
    (hr : va_Run p l e R s m args below meth c H locs cells slots mc ms (F0 m pc ls st0) rest (QQ g Q a) (xA g)) (hS : va_S (xA g) s.heap H locs)
    (kk : ∀ (v : Option Value) (N : Option Nat) (sh : Nat → Sh) (mem : Mem) (H1 : Heap) (locs1 : List Loc), Q v N sh mem → Wd g N sh mem H1 → va_S (xA g) s.heap H1 locs1 → W p l e R s m args below meth c H1 locs1 (cells + mc) (slots + ms) Qf (F0 m (pc + 3) ls (v.toList ++ rest))) : W p l e R s m args below meth c H locs cells slots Qf (F0 m pc ls st0) := by
  intro T hT X
  obtain ⟨v, st₀, t, T', L, h0, X', hL, e1, e2, ⟨⟨v', N, sh, mem, hv, hq, hw⟩, hz, hk⟩, st⟩ := hr T hT X
  cases hv
  rw [h0] at hz hk
  obtain ⟨t2, a1, b1⟩ := kk v N sh mem T'.heap (locs ++ L) hq (by rw [e1]; exact hw)
    ⟨Nat.le_trans hS.1 (by rw [e1]; exact hz), fun q h1 h2 => by rw [e1, hk q (Nat.lt_of_lt_of_le h1 hS.1) h2]; exact hS.2.1 q h1 h2, fun q hq => by
      rcases List.mem_append.mp hq with h | h
      · exact hS.2.2 q h
      · exact hL q h⟩ T' rfl X'
  exact ⟨t2, st t2 a1, b1⟩
theorem xPre_blind (g : XG) (as : List Value) (N : Option Nat) (sh : Nat → Sh) (mem : Mem) : FrameBlind (va_Pc as (xPre g N sh mem)) := fun a U g1 mk h => ⟨h.1, h.2.1, Kd.same (u := U) (U := U.calling g1 mk a) rfl h.2.2.1, h.2.2.2⟩
theorem good_ws {y : MethodName} {b : ByteArray} {mL : Nat} {ret : Option FieldType} {own : String} {idx : Nat} (pre : List Cond) (hp : ∀ w ∈ pre, w ∈ tbG) (hc : Cond.code y b mL ret ∈ tbG) : GoodIn tbG (pre ++ (Cond.code y b mL ret :: tbG)) := fun w hw => by
  have h1 : w ∈ tbG := by
    rcases List.mem_append.mp hw with h | h
    · exact hp w h
    · rcases List.mem_cons.mp h with h | h
      · rw [h]; exact hc
      · exact h
  exact ⟨h1, tbG_good w h1⟩
section XCL
variable {l : Launch} {g : XG} {M M' : Mt} {F : XFin} {pc : Nat} {L : List (Option Value)} {st rest : List Value} {N : Option Nat} {sh : Nat → Sh} {mem : Mem} {c n idx : Nat} {Q' : XP} {As : List Value}
def roomOk (M M' : Mt) (c n : Nat) : Prop := (M'.2.2.2.2.2.frames + 1 ≤ M.2.2.2.2.2.frames ∧ 8 + (M'.2.2.2.1 + 11) + M'.2.2.2.2.2.locals ≤ M.2.2.2.2.2.locals) ∧ c + M'.2.2.2.2.2.cells ≤ M.2.2.2.2.2.cells ∧ n + M'.2.2.2.2.2.slots ≤ M.2.2.2.2.2.slots
def roomB (M M' : Mt) (c n : Nat) : Bool := (Nat.ble (M'.2.2.2.2.2.frames + 1) M.2.2.2.2.2.frames && Nat.ble (8 + (M'.2.2.2.1 + 11) + M'.2.2.2.2.2.locals) M.2.2.2.2.2.locals) && (Nat.ble (c + M'.2.2.2.2.2.cells) M.2.2.2.2.2.cells && Nat.ble (n + M'.2.2.2.2.2.slots) M.2.2.2.2.2.slots)
theorem roomB_ok {M M' : Mt} {c n : Nat} (h : roomB M M' c n = true) : roomOk M M' c n := by
  unfold roomB at h
  simp only [Bool.and_eq_true] at h
  exact ⟨⟨Nat.le_of_ble_eq_true h.1.1, Nat.le_of_ble_eq_true h.1.2⟩, Nat.le_of_ble_eq_true h.2.1, Nat.le_of_ble_eq_true h.2.2⟩
theorem x_callV {o ci : Nat} {fs : List (Option (Option Nat))} (hdg : decode M.2.2.1 pc = .ok (.invokevirtual idx, 3)) (hl : Cond.methodLink M.1 idx M'.2.1 ∈ tbG) (hv : VI M'.2.1 M'.2.2.1 M'.2.2.2.1 M'.2.2.2.2.1 As.length) (hR : roomB M M' c n = true) (hs : sh o = .inl (ci, fs)) (hne : fs ≠ []) (hcl : (vwCl[ci]?).map (fun q => q.1) = some M'.2.1.cls) (hst : st = As.reverse ++ rf g o :: rest) (hw : (rest.map fun v => v.category).sum ≤ 8) (hc : Ct l g M' (rf g o :: As) N sh mem Q')
    (kk : ∀ (v : Option Value) (N' : Option Nat) (sh' : Nat → Sh) (mem' : Mem), Q' v N' sh' mem' → X l g M F (pc + 3) L (v.toList ++ rest) N' sh' mem' (c + M'.2.2.2.2.2.cells) (n + M'.2.2.2.2.2.slots)) : X l g M F pc L st N sh mem c n := by
  intro p e s m args below meth cd H locs ls C hW hS hL
  have hts := C.2.2.2.2.2.2.2.1
  have hK := C.2.2.2.2.2.2.2.2.1
  obtain ⟨hd, hv1, hv2, hv3, hv4⟩ := hv
  obtain ⟨hR1, hR2⟩ := roomB_ok hR
  have hat := hW.2 o (obj_ne hs hne)
  rw [hs] at hat
  subst hst
  obtain ⟨q, hq⟩ : ∃ q, vwCl[ci]? = some q := by
    cases h : vwCl[ci]? with
    | none => rw [h] at hcl; cases hcl
    | some q => exact ⟨q, rfl⟩
  have hq1 : q.1 = M'.2.1.cls := by rw [hq] at hcl; exact Option.some.inj hcl
  have hrv := va_recv hK.1 (va_P1 hat) hq (q0 := 0) rfl
  rw [hq1] at hrv
  refine w_call (va_runV (S := ⟨C.1, C.2.1, rfl, C.2.2.2.1, hts⟩) (hM := hc) (As := As) (rest := rest) (b := g.2.1 + o) (C := M'.2.1.cls) (cwV As.length hts (good_ws (own := M.1) (idx := idx) [.methodLink M.1 idx M'.2.1, .instanceMethod M'.2.1, .selects M'.2.1.cls M'.2.1 M'.2.1, .initialized M'.2.1.cls] (fun w hw => by
      simp only [List.mem_cons, List.not_mem_nil, or_false] at hw
      rcases hw with h | h | h | h <;> rw [h]
      · exact hl
      · exact hv1
      · exact hv2
      · exact hv3) hv4) rfl rfl rfl ⟨rfl, hd⟩ hR1) ⟨xPre_blind g _ N sh mem, hrv, fun U hU hW1 => ⟨rfl, by rw [hU]; exact hW, hK.warm hW1, by rw [hU]; exact Nat.le_trans C.2.2.2.2.2.2.2.2.2 hS.1⟩⟩ rfl rfl (by rw [C.2.2.1]; exact hL.1) rfl (by show 2 * 0 + _ ≤ 8; omega) hdg hR2) hS fun v N' sh' mem' H1 locs1 hQ hW1 hS1 => ?_
  exact kk v N' sh' mem' hQ _ _ _ _ _ _ _ _ _ _ _ C hW1 hS1 hL
theorem x_callS (hdg : decode M.2.2.1 pc = .ok (.invokestatic idx, 3)) (hl : Cond.methodLink M.1 idx M'.2.1 ∈ tbG) (hv : VS M'.2.1 M'.2.2.1 M'.2.2.2.1 M'.2.2.2.2.1 As.length) (hR : roomB M M' c n = true) (hown : M'.2.1.cls = M.1) (hst : st = As.reverse ++ rest) (hw : (rest.map fun v => v.category).sum ≤ 8) (hc : Ct l g M' As N sh mem Q')
    (kk : ∀ (v : Option Value) (N' : Option Nat) (sh' : Nat → Sh) (mem' : Mem), Q' v N' sh' mem' → X l g M F (pc + 3) L (v.toList ++ rest) N' sh' mem' (c + M'.2.2.2.2.2.cells) (n + M'.2.2.2.2.2.slots)) : X l g M F pc L st N sh mem c n := by
  intro p e s m args below meth cd H locs ls C hW hS hL
  have hts := C.2.2.2.2.2.2.2.1
  have hK := C.2.2.2.2.2.2.2.2.1
  obtain ⟨hd, hv1, hv3, hv4⟩ := hv
  obtain ⟨hR1, hR2⟩ := roomB_ok hR
  subst hst
  rw [hown] at hv3
  refine w_call (va_runS (S := ⟨C.1, C.2.1, rfl, C.2.2.2.1, hts⟩) (hM := hc) (As := As) (rest := rest) (cwS As.length hts (good_ws (own := M.1) (idx := idx) [.methodLink M.1 idx M'.2.1, .static M'.2.1, .initialized M.1] (fun w hw => by
      simp only [List.mem_cons, List.not_mem_nil, or_false] at hw
      rcases hw with h | h | h <;> rw [h]
      · exact hl
      · exact hv1
      · exact hv3) hv4) rfl rfl rfl ⟨hown, hd⟩ hR1) ⟨xPre_blind g _ N sh mem, fun U hU hW1 => ⟨rfl, by rw [hU]; exact hW, hK.warm hW1, by rw [hU]; exact Nat.le_trans C.2.2.2.2.2.2.2.2.2 hS.1⟩⟩ rfl rfl (by rw [C.2.2.1]; exact hL.1) rfl (by show 2 * 0 + _ ≤ 8; omega) hdg hR2) hS fun v N' sh' mem' H1 locs1 hQ hW1 hS1 => ?_
  exact kk v N' sh' mem' hQ _ _ _ _ _ _ _ _ _ _ _ C hW1 hS1 hL
theorem x_callI {o : Nat} (hdg : decode M.2.2.1 pc = .ok (.invokespecial idx, 3)) (hl : Cond.methodLink M.1 idx M'.2.1 ∈ tbG) (hv : VC M'.2.1 M'.2.2.1 M'.2.2.2.1 As.length) (hret : M'.2.2.2.2.1 = none) (hR : roomB M M' c n = true) (hst : st = As.reverse ++ rf g o :: rest) (hw : (rest.map fun v => v.category).sum ≤ 8) (hc : Ct l g M' (rf g o :: As) N sh mem Q')
    (kk : ∀ (v : Option Value) (N' : Option Nat) (sh' : Nat → Sh) (mem' : Mem), Q' v N' sh' mem' → X l g M F (pc + 3) L (v.toList ++ rest) N' sh' mem' (c + M'.2.2.2.2.2.cells) (n + M'.2.2.2.2.2.slots)) : X l g M F pc L st N sh mem c n := by
  intro p e s m args below meth cd H locs ls C hW hS hL
  have hts := C.2.2.2.2.2.2.2.1
  have hK := C.2.2.2.2.2.2.2.2.1
  obtain ⟨hd, hv1, hv3, hv4, hv5⟩ := hv
  obtain ⟨hR1, hR2⟩ := roomB_ok hR
  subst hst
  unfold Ct at hc
  rw [hret] at hc
  refine w_call (va_runI (S := ⟨C.1, C.2.1, rfl, C.2.2.2.1, hts⟩) (hM := hc) (As := As) (rest := rest) (b := g.2.1 + o) (cwI As.length hts (good_ws (own := M.1) (idx := idx) [] (fun w hw => by cases hw) hv4) rfl rfl rfl (hts _ hv3) (hts _ hl) (hts _ hv1) hv5 hd hR1) ⟨xPre_blind g _ N sh mem, fun U hU hW1 => ⟨rfl, by rw [hU]; exact hW, hK.warm hW1, by rw [hU]; exact Nat.le_trans C.2.2.2.2.2.2.2.2.2 hS.1⟩⟩ rfl rfl (by rw [C.2.2.1]; exact hL.1) rfl (by show 2 * 0 + _ ≤ 8; omega) hdg hR2) hS fun v N' sh' mem' H1 locs1 hQ hW1 hS1 => ?_
  exact kk v N' sh' mem' hQ _ _ _ _ _ _ _ _ _ _ _ C hW1 hS1 hL
theorem x_callIN {o : Nat} {host : String} (hdg : decode M.2.2.1 pc = .ok (.invokespecial idx, 3)) (hl : ∀ U : State, nestK U → va_Nw (.methodLinkNest M.1 idx M'.2.1 host) U) (hv : VC M'.2.1 M'.2.2.1 M'.2.2.2.1 As.length) (hret : M'.2.2.2.2.1 = none) (hR : roomB M M' c n = true) (hst : st = As.reverse ++ rf g o :: rest) (hw : (rest.map fun v => v.category).sum ≤ 8) (hc : Ct l g M' (rf g o :: As) N sh mem Q')
    (kk : ∀ (v : Option Value) (N' : Option Nat) (sh' : Nat → Sh) (mem' : Mem), Q' v N' sh' mem' → X l g M F (pc + 3) L (v.toList ++ rest) N' sh' mem' (c + M'.2.2.2.2.2.cells) (n + M'.2.2.2.2.2.slots)) : X l g M F pc L st N sh mem c n := by
  intro p e s m args below meth cd H locs ls C hW hS hL
  have hts := C.2.2.2.2.2.2.2.1
  have hK := C.2.2.2.2.2.2.2.2.1
  obtain ⟨hd, hv1, hv3, hv4, hv5⟩ := hv
  obtain ⟨hR1, hR2⟩ := roomB_ok hR
  subst hst
  unfold Ct at hc
  rw [hret] at hc
  refine w_call (va_runIN (S := ⟨C.1, C.2.1, rfl, C.2.2.2.1, hts⟩) (hM := hc) (As := As) (rest := rest) (b := g.2.1 + o) ⟨va_cnB As.length hts (good_ws (own := M.1) (idx := idx) [] (fun w hw => by cases hw) hv4) rfl rfl rfl (hl s hK.2.2) (hts _ hv3) hd hR1, hv5, hts _ hv1⟩ ⟨xPre_blind g _ N sh mem, fun U hU hW1 => ⟨rfl, by rw [hU]; exact hW, hK.warm hW1, by rw [hU]; exact Nat.le_trans C.2.2.2.2.2.2.2.2.2 hS.1⟩⟩ rfl rfl (by rw [C.2.2.1]; exact hL.1) rfl (by show 2 * 0 + _ ≤ 8; omega) hdg hR2) hS fun v N' sh' mem' H1 locs1 hQ hW1 hS1 => ?_
  exact kk v N' sh' mem' hQ _ _ _ _ _ _ _ _ _ _ _ C hW1 hS1 hL
end XCL
section XE
variable {l : Launch} {g : XG} {M : Mt} {pc : Nat} {L : List (Option Value)} {N : Option Nat} {sh : Nat → Sh} {mem : Mem} {c n : Nat} {Q : XP}
theorem x_iret {v : Int32} {ty : FieldType} (hr : M.2.2.2.2.1 = some ty) (hn : narrow ty (.int v) = .int v) (hdg : decode M.2.2.1 pc = .ok (.ireturn, 1)) (hc : c ≤ M.2.2.2.2.2.cells) (hs : n ≤ M.2.2.2.2.2.slots) (hQ : Q (some (.int v)) N sh mem) : X l g M (XF g Q M) pc L [.int v] N sh mem c n := by
  intro p e s m args below meth cd H locs ls C hW hS hL
  refine W.widen hc hs ?_
  exact W.zret C.1 C.2.1 (by rw [C.2.2.2.2.1]; exact hr) hn (fun t ht hW1 => ⟨⟨_, _, _, _, rfl, hQ, by rw [ht]; exact hW⟩, hS.F ht⟩) hS.2.2 hdg C.2.2.2.2.2.1
theorem x_vret (hr : M.2.2.2.2.1 = none) (hdg : decode M.2.2.1 pc = .ok (.return_, 1)) (hc : c ≤ M.2.2.2.2.2.cells) (hs : n ≤ M.2.2.2.2.2.slots) (hQ : Q none N sh mem) : X l g M (XF g Q M) pc L [] N sh mem c n := by
  intro p e s m args below meth cd H locs ls C hW hS hL
  refine W.widen hc hs ?_
  exact W.vret C.1 C.2.1 (by rw [C.2.2.2.2.1]; exact hr) (fun t ht hW1 => ⟨⟨_, _, _, _, rfl, hQ, by rw [ht]; exact hW⟩, hS.F ht⟩) hS.2.2 hdg C.2.2.2.2.2.1
theorem x_aret {o : Nat} {C0 : String} (hr : M.2.2.2.2.1 = some (.object C0)) (hdg : decode M.2.2.1 pc = .ok (.areturn, 1)) (hc : c ≤ M.2.2.2.2.2.cells) (hs : n ≤ M.2.2.2.2.2.slots) (hQ : Q (some (rf g o)) N sh mem) : X l g M (XF g Q M) pc L [rf g o] N sh mem c n := by
  intro p e s m args below meth cd H locs ls C hW hS hL
  refine W.widen hc hs ?_
  exact W.aret C.1 C.2.1 (by rw [C.2.2.2.2.1]; exact hr) (Or.inl ⟨_, rfl⟩) (Or.inr ⟨_, rfl⟩) (fun t ht hW1 => ⟨⟨_, _, _, _, rfl, hQ, by rw [ht]; exact hW⟩, hS.F ht⟩) hS.2.2 hdg C.2.2.2.2.2.1
theorem x_dret {v : UInt64} (hr : M.2.2.2.2.1 = some .double) (hdg : decode M.2.2.1 pc = .ok (.dreturn, 1)) (hc : c ≤ M.2.2.2.2.2.cells) (hs : n ≤ M.2.2.2.2.2.slots) (hQ : Q (some (.double v)) N sh mem) : X l g M (XF g Q M) pc L [.double v] N sh mem c n := by
  intro p e s m args below meth cd H locs ls C hW hS hL
  refine W.widen hc hs ?_
  exact W.dret C.1 C.2.1 (by rw [C.2.2.2.2.1]; exact hr) (fun t ht hW1 => ⟨⟨_, _, _, _, rfl, hQ, by rw [ht]; exact hW⟩, hS.F ht⟩) hS.2.2 hdg C.2.2.2.2.2.1
theorem lv_args1 : ∀ (as : List Value) (i0 : Nat), (∀ v ∈ as, v.category = 1) → ∀ (i : Nat) (v : Value), as[i]? = some v → (i0 + i, v) ∈ lv_args i0 as
  | [], _, _, i, v, h => by simp at h
  | a :: as, i0, hc, i, v, h => by
    have ha : a.category = 1 := hc a List.mem_cons_self
    rw [lv_args]
    match i, h with
    | 0, h => simp at h; rw [h]; exact List.mem_cons_self
    | i + 1, h =>
      have h1 := lv_args1 as (i0 + 1) (fun v hv => hc v (List.mem_cons_of_mem _ hv)) i v (by simpa using h)
      rw [if_neg (by rw [ha]; decide), show i0 + (i + 1) = i0 + 1 + i by omega]
      exact List.mem_cons_of_mem _ h1
theorem lg_sl1 : ∀ (as : List Value), (∀ v ∈ as, v.category = 1) → (lg_sl as).length = as.length
  | [], _ => rfl
  | a :: as, hc => by
    have ha : a.category = 1 := hc a List.mem_cons_self
    have h1 := lg_sl1 as (fun v hv => hc v (List.mem_cons_of_mem _ hv))
    simp only [lg_sl, List.flatMap_cons, ha, List.length_append, List.length_cons] at h1 ⊢
    simp only [show ¬ (1 = 2) by decide, if_false, List.length_cons, List.length_nil]
    omega
theorem x_enter {as : List Value} {L0 : List (Option Value)} (hL0 : as.map some ++ List.replicate (M.2.2.2.1 - as.length) none = L0) (hcat : ∀ v ∈ as, v.category = 1) (hlen : as.length ≤ M.2.2.2.1) (hy : plainName M.2.1.cls = true) (hown : M.1 = M.2.1.cls) (h : X l g M (XF g Q M) 0 L0 [] N sh mem 0 0) : Ct l g M as N sh mem Q := by
  refine Met.ofW (cc := M.2.2.1) (maxL := M.2.2.2.1) (ret := M.2.2.2.2.1) hy rfl ?_
  intro p e s m args below meth c s₁ B hml hv
  obtain ⟨rfl, hWd, hK, hz⟩ := hv
  have hts := atoms_spec (ws := Cond.code M.2.1 M.2.2.1 M.2.2.2.1 M.2.2.2.2.1 :: tbG) B.pre
  have hl := lv_entry as (n := M.2.2.2.1) (by rw [lg_sl1 as hcat]; exact hlen)
  rw [lg_entry_eq]
  generalize (lg_sl as ++ List.replicate (M.2.2.2.1 - (lg_sl as).length) Slot.unset).toArray = ls at hl ⊢
  have hf : s.vm.findClass M.2.1.cls = some m.cls := findClass_of_methodNamed B.named
  refine h p e s m as.toArray below meth c s.heap [] ls ⟨B.exec, B.bytes, hml, by rw [hown]; exact hf, B.returns, B.notSynchronized, (name_of_methodNamed B.named B.method).1, fun w hw => hts w (List.mem_cons_of_mem _ hw), hK, hz⟩ hWd va_S.rf ⟨hl.1, hl.2.1, fun i v hi => ?_⟩
  · subst hL0
    by_cases hia : i < as.length
    · have h1 : (as.map some ++ List.replicate (M.2.2.2.1 - as.length) none)[i]? = (as.map some)[i]? := List.getElem?_append_left (by simpa using hia)
      rw [h1, List.getElem?_map] at hi
      cases ha : as[i]? with
      | none => rw [ha] at hi; cases hi
      | some w =>
        rw [ha] at hi
        have hw : w = v := Option.some.inj (Option.some.inj hi)
        subst hw
        have h2 := lv_args1 as 0 hcat i w ha
        rw [Nat.zero_add] at h2
        exact ⟨hl.2.2 _ h2, hcat w (List.mem_of_getElem? ha)⟩
    · rw [List.getElem?_append_right (by simpa using hia), List.getElem?_replicate] at hi
      split at hi <;> cases hi
end XE
end
section
theorem tg_p {y : MethodName} {k : Nat} (j : Nat) (h : lw_privs[j]? = some (y, k)) : Cond.selects y.cls y y ∈ tbG := tg_s (q := (y, k)) (List.mem_of_getElem? h)
theorem in_Bk : ∀ w ∈ u_ws R_Bk T_Bk 7, w ∈ tbG := by
  intro w hw
  obtain ⟨k, hk, rfl⟩ := List.mem_map.mp hw
  have hk := List.mem_range.mp hk
  rcases (show k = 0 ∨ k = 1 ∨ k = 2 ∨ k = 3 ∨ k = 4 ∨ k = 5 ∨ k = 6 by omega) with rfl | rfl | rfl | rfl | rfl | rfl | rfl
  · exact tg1 193 (by decide +kernel) (by decide +kernel)
  · exact tg1 195 (by decide +kernel) (by decide +kernel)
  · exact tg1 197 (by decide +kernel) (by decide +kernel)
  · exact tg1 199 (by decide +kernel) (by decide +kernel)
  · exact tg1 201 (by decide +kernel) (by decide +kernel)
  · exact tg1 203 (by decide +kernel) (by decide +kernel)
  · exact tg1 205 (by decide +kernel) (by decide +kernel)
theorem in_Ch : ∀ w ∈ u_ws R_Ch T_Ch 5, w ∈ tbG := by
  intro w hw
  obtain ⟨k, hk, rfl⟩ := List.mem_map.mp hw
  have hk := List.mem_range.mp hk
  rcases (show k = 0 ∨ k = 1 ∨ k = 2 ∨ k = 3 ∨ k = 4 by omega) with rfl | rfl | rfl | rfl | rfl
  · exact tg2 35 (by decide +kernel) (by decide +kernel)
  · exact tg2 37 (by decide +kernel) (by decide +kernel)
  · exact tg2 39 (by decide +kernel) (by decide +kernel)
  · exact tg2 41 (by decide +kernel) (by decide +kernel)
  · exact tg2 43 (by decide +kernel) (by decide +kernel)
theorem in_Hi : ∀ w ∈ u_ws R_Hi T_Hi 3, w ∈ tbG := by
  intro w hw
  obtain ⟨k, hk, rfl⟩ := List.mem_map.mp hw
  have hk := List.mem_range.mp hk
  rcases (show k = 0 ∨ k = 1 ∨ k = 2 by omega) with rfl | rfl | rfl
  · exact tg1 221 (by decide +kernel) (by decide +kernel)
  · exact tg1 223 (by decide +kernel) (by decide +kernel)
  · exact tg1 225 (by decide +kernel) (by decide +kernel)
theorem in_Of : ∀ w ∈ u_ws R_Of T_Of 6, w ∈ tbG := by
  intro w hw
  obtain ⟨k, hk, rfl⟩ := List.mem_map.mp hw
  have hk := List.mem_range.mp hk
  rcases (show k = 0 ∨ k = 1 ∨ k = 2 ∨ k = 3 ∨ k = 4 ∨ k = 5 by omega) with rfl | rfl | rfl | rfl | rfl | rfl
  · exact tg1 114 (by decide +kernel) (by decide +kernel)
  · exact tg1 116 (by decide +kernel) (by decide +kernel)
  · exact tg1 118 (by decide +kernel) (by decide +kernel)
  · exact tg1 120 (by decide +kernel) (by decide +kernel)
  · exact tg1 122 (by decide +kernel) (by decide +kernel)
  · exact tg1 124 (by decide +kernel) (by decide +kernel)
theorem in_Ro : ∀ w ∈ u_ws R_Ro T_Ro 9, w ∈ tbG := by
  intro w hw
  obtain ⟨k, hk, rfl⟩ := List.mem_map.mp hw
  have hk := List.mem_range.mp hk
  rcases (show k = 0 ∨ k = 1 ∨ k = 2 ∨ k = 3 ∨ k = 4 ∨ k = 5 ∨ k = 6 ∨ k = 7 ∨ k = 8 by omega) with rfl | rfl | rfl | rfl | rfl | rfl | rfl | rfl | rfl
  · exact tg1 70 (by decide +kernel) (by decide +kernel)
  · exact tg1 72 (by decide +kernel) (by decide +kernel)
  · exact tg1 74 (by decide +kernel) (by decide +kernel)
  · exact tg1 76 (by decide +kernel) (by decide +kernel)
  · exact tg1 78 (by decide +kernel) (by decide +kernel)
  · exact tg1 80 (by decide +kernel) (by decide +kernel)
  · exact tg1 82 (by decide +kernel) (by decide +kernel)
  · exact tg1 84 (by decide +kernel) (by decide +kernel)
  · exact tg1 86 (by decide +kernel) (by decide +kernel)
theorem in_Te : ∀ w ∈ u_ws R_Te T_Te 6, w ∈ tbG := by
  intro w hw
  obtain ⟨k, hk, rfl⟩ := List.mem_map.mp hw
  have hk := List.mem_range.mp hk
  rcases (show k = 0 ∨ k = 1 ∨ k = 2 ∨ k = 3 ∨ k = 4 ∨ k = 5 by omega) with rfl | rfl | rfl | rfl | rfl | rfl
  · exact tg2 6 (by decide +kernel) (by decide +kernel)
  · exact tg2 8 (by decide +kernel) (by decide +kernel)
  · exact tg2 10 (by decide +kernel) (by decide +kernel)
  · exact tg2 12 (by decide +kernel) (by decide +kernel)
  · exact tg2 14 (by decide +kernel) (by decide +kernel)
  · exact tg2 16 (by decide +kernel) (by decide +kernel)
theorem in_Rm : ∀ w ∈ u_ws R_Rm T_Rm 10, w ∈ tbG := by
  intro w hw
  obtain ⟨k, hk, rfl⟩ := List.mem_map.mp hw
  have hk := List.mem_range.mp hk
  rcases (show k = 0 ∨ k = 1 ∨ k = 2 ∨ k = 3 ∨ k = 4 ∨ k = 5 ∨ k = 6 ∨ k = 7 ∨ k = 8 ∨ k = 9 by omega) with rfl | rfl | rfl | rfl | rfl | rfl | rfl | rfl | rfl | rfl
  · exact tg1 156 (by decide +kernel) (by decide +kernel)
  · exact tg1 158 (by decide +kernel) (by decide +kernel)
  · exact tg1 160 (by decide +kernel) (by decide +kernel)
  · exact tg1 162 (by decide +kernel) (by decide +kernel)
  · exact tg1 164 (by decide +kernel) (by decide +kernel)
  · exact tg1 166 (by decide +kernel) (by decide +kernel)
  · exact tg1 168 (by decide +kernel) (by decide +kernel)
  · exact tg1 170 (by decide +kernel) (by decide +kernel)
  · exact tg1 172 (by decide +kernel) (by decide +kernel)
  · exact tg1 174 (by decide +kernel) (by decide +kernel)
theorem in_Rw : ∀ w ∈ u_ws R_Rw T_Rw 1, w ∈ tbG := by
  intro w hw
  obtain ⟨k, hk, rfl⟩ := List.mem_map.mp hw
  have hk := List.mem_range.mp hk
  rcases (show k = 0 by omega) with rfl
  · exact tg1 34 (by decide +kernel) (by decide +kernel)
theorem in_Cc : ∀ w ∈ u_ws R_Cc T_Cc 8, w ∈ tbG := by
  intro w hw
  obtain ⟨k, hk, rfl⟩ := List.mem_map.mp hw
  have hk := List.mem_range.mp hk
  rcases (show k = 0 ∨ k = 1 ∨ k = 2 ∨ k = 3 ∨ k = 4 ∨ k = 5 ∨ k = 6 ∨ k = 7 by omega) with rfl | rfl | rfl | rfl | rfl | rfl | rfl | rfl
  · exact tg2 54 (by decide +kernel) (by decide +kernel)
  · exact tg2 56 (by decide +kernel) (by decide +kernel)
  · exact tg2 58 (by decide +kernel) (by decide +kernel)
  · exact tg2 60 (by decide +kernel) (by decide +kernel)
  · exact tg2 62 (by decide +kernel) (by decide +kernel)
  · exact tg2 64 (by decide +kernel) (by decide +kernel)
  · exact tg2 66 (by decide +kernel) (by decide +kernel)
  · exact tg2 68 (by decide +kernel) (by decide +kernel)
theorem in_Mo : ∀ w ∈ u_ws R_Mo T_Mo 15, w ∈ tbG := by
  intro w hw
  obtain ⟨k, hk, rfl⟩ := List.mem_map.mp hw
  have hk := List.mem_range.mp hk
  rcases (show k = 0 ∨ k = 1 ∨ k = 2 ∨ k = 3 ∨ k = 4 ∨ k = 5 ∨ k = 6 ∨ k = 7 ∨ k = 8 ∨ k = 9 ∨ k = 10 ∨ k = 11 ∨ k = 12 ∨ k = 13 ∨ k = 14 by omega) with rfl | rfl | rfl | rfl | rfl | rfl | rfl | rfl | rfl | rfl | rfl | rfl | rfl | rfl | rfl
  · exact tg4 55 (by decide +kernel) (by decide +kernel)
  · exact tg4 57 (by decide +kernel) (by decide +kernel)
  · exact tg4 59 (by decide +kernel) (by decide +kernel)
  · exact tg4 61 (by decide +kernel) (by decide +kernel)
  · exact tg4 63 (by decide +kernel) (by decide +kernel)
  · exact tg4 65 (by decide +kernel) (by decide +kernel)
  · exact tg4 67 (by decide +kernel) (by decide +kernel)
  · exact tg4 69 (by decide +kernel) (by decide +kernel)
  · exact tg4 71 (by decide +kernel) (by decide +kernel)
  · exact tg4 73 (by decide +kernel) (by decide +kernel)
  · exact tg4 75 (by decide +kernel) (by decide +kernel)
  · exact tg4 77 (by decide +kernel) (by decide +kernel)
  · exact tg4 79 (by decide +kernel) (by decide +kernel)
  · exact tg4 81 (by decide +kernel) (by decide +kernel)
  · exact tg4 83 (by decide +kernel) (by decide +kernel)
theorem fs_Cc_10 : FS R_Cc 10 8 0 := ⟨_, _, _, rfl, in_Cc, by decide, tg2 46 (by decide +kernel) rfl⟩
theorem ps_Cc_10 : PS R_Cc 10 8 0 (ty_Cc 0) true := ⟨_, _, _, ty_Cc, rfl, in_Cc, by decide, tg2 46 (by decide +kernel) rfl, ty_Cc_ok, nm_Cc, rfl, rfl, fun h => by first | rfl | cases h⟩
theorem fs_Cc_16 : FS R_Cc 16 8 1 := ⟨_, _, _, rfl, in_Cc, by decide, tg2 47 (by decide +kernel) rfl⟩
theorem ps_Cc_16 : PS R_Cc 16 8 1 (ty_Cc 1) true := ⟨_, _, _, ty_Cc, rfl, in_Cc, by decide, tg2 47 (by decide +kernel) rfl, ty_Cc_ok, nm_Cc, rfl, rfl, fun h => by first | rfl | cases h⟩
theorem fs_Cc_19 : FS R_Cc 19 8 2 := ⟨_, _, _, rfl, in_Cc, by decide, tg2 48 (by decide +kernel) rfl⟩
theorem ps_Cc_19 : PS R_Cc 19 8 2 (ty_Cc 2) true := ⟨_, _, _, ty_Cc, rfl, in_Cc, by decide, tg2 48 (by decide +kernel) rfl, ty_Cc_ok, nm_Cc, rfl, rfl, fun h => by first | rfl | cases h⟩
theorem fs_Cc_22 : FS R_Cc 22 8 3 := ⟨_, _, _, rfl, in_Cc, by decide, tg2 49 (by decide +kernel) rfl⟩
theorem ps_Cc_22 : PS R_Cc 22 8 3 (ty_Cc 3) true := ⟨_, _, _, ty_Cc, rfl, in_Cc, by decide, tg2 49 (by decide +kernel) rfl, ty_Cc_ok, nm_Cc, rfl, rfl, fun h => by first | rfl | cases h⟩
theorem fs_Cc_28 : FS R_Cc 28 8 4 := ⟨_, _, _, rfl, in_Cc, by decide, tg2 50 (by decide +kernel) rfl⟩
theorem ps_Cc_28 : PS R_Cc 28 8 4 (ty_Cc 4) true := ⟨_, _, _, ty_Cc, rfl, in_Cc, by decide, tg2 50 (by decide +kernel) rfl, ty_Cc_ok, nm_Cc, rfl, rfl, fun h => by first | rfl | cases h⟩
theorem fs_Cc_35 : FS R_Cc 35 8 5 := ⟨_, _, _, rfl, in_Cc, by decide, tg2 51 (by decide +kernel) rfl⟩
theorem ps_Cc_35 : PS R_Cc 35 8 5 (ty_Cc 5) true := ⟨_, _, _, ty_Cc, rfl, in_Cc, by decide, tg2 51 (by decide +kernel) rfl, ty_Cc_ok, nm_Cc, rfl, rfl, fun h => by first | rfl | cases h⟩
theorem fs_Cc_42 : FS R_Cc 42 8 6 := ⟨_, _, _, rfl, in_Cc, by decide, tg2 52 (by decide +kernel) rfl⟩
theorem ps_Cc_42 : PS R_Cc 42 8 6 (ty_Cc 6) true := ⟨_, _, _, ty_Cc, rfl, in_Cc, by decide, tg2 52 (by decide +kernel) rfl, ty_Cc_ok, nm_Cc, rfl, rfl, fun h => by first | rfl | cases h⟩
theorem fs_Cc_50 : FS R_Cc 50 0 1 := ⟨_, _, _, rfl, in_Bk, by decide, tg1 184 (by decide +kernel) rfl⟩
theorem fs_Cc_54 : FS R_Cc 54 4 0 := ⟨_, _, _, rfl, in_Ro, by decide, tg1 47 (by decide +kernel) rfl⟩
theorem fs_Cc_72 : FS R_Cc 72 5 2 := ⟨_, _, _, rfl, in_Te, by decide, tg2 2 (by decide +kernel) rfl⟩
theorem fs_Cc_76 : FS R_Cc 76 6 0 := ⟨_, _, _, rfl, in_Rm, by decide, tg1 137 (by decide +kernel) rfl⟩
theorem fs_Cc_79 : FS R_Cc 79 0 3 := ⟨_, _, _, rfl, in_Bk, by decide, tg1 188 (by decide +kernel) rfl⟩
theorem fs_Cc_107 : FS R_Cc 107 0 2 := ⟨_, _, _, rfl, in_Bk, by decide, tg1 186 (by decide +kernel) rfl⟩
theorem fs_Cc_130 : FS R_Cc 130 0 0 := ⟨_, _, _, rfl, in_Bk, by decide, tg1 182 (by decide +kernel) rfl⟩
theorem fs_Cc_146 : FS R_Cc 146 5 1 := ⟨_, _, _, rfl, in_Te, by decide, tg2 0 (by decide +kernel) rfl⟩
theorem ps_Cc_146 : PS R_Cc 146 5 1 (ty_Te 1) false := ⟨_, _, _, ty_Te, rfl, in_Te, by decide, tg2 0 (by decide +kernel) rfl, ty_Te_ok, nm_Te, rfl, rfl, fun h => by first | rfl | cases h⟩
theorem fs_Cc_149 : FS R_Cc 149 2 2 := ⟨_, _, _, rfl, in_Hi, by decide, tg1 220 (by decide +kernel) rfl⟩
theorem fs_Cc_153 : FS R_Cc 153 8 7 := ⟨_, _, _, rfl, in_Cc, by decide, tg2 53 (by decide +kernel) rfl⟩
theorem ps_Cc_153 : PS R_Cc 153 8 7 (ty_Cc 7) false := ⟨_, _, _, ty_Cc, rfl, in_Cc, by decide, tg2 53 (by decide +kernel) rfl, ty_Cc_ok, nm_Cc, rfl, rfl, fun h => by first | rfl | cases h⟩
theorem fs_Cc_157 : FS R_Cc 157 4 1 := ⟨_, _, _, rfl, in_Ro, by decide, tg1 49 (by decide +kernel) rfl⟩
theorem fs_Cc_160 : FS R_Cc 160 4 2 := ⟨_, _, _, rfl, in_Ro, by decide, tg1 52 (by decide +kernel) rfl⟩
theorem fs_Cc_163 : FS R_Cc 163 4 3 := ⟨_, _, _, rfl, in_Ro, by decide, tg1 55 (by decide +kernel) rfl⟩
theorem fs_Cc_166 : FS R_Cc 166 4 4 := ⟨_, _, _, rfl, in_Ro, by decide, tg1 58 (by decide +kernel) rfl⟩
theorem fs_Cc_175 : FS R_Cc 175 4 6 := ⟨_, _, _, rfl, in_Ro, by decide, tg1 63 (by decide +kernel) rfl⟩
theorem fs_Cc_178 : FS R_Cc 178 4 7 := ⟨_, _, _, rfl, in_Ro, by decide, tg1 66 (by decide +kernel) rfl⟩
theorem fs_Cc_181 : FS R_Cc 181 4 8 := ⟨_, _, _, rfl, in_Ro, by decide, tg1 69 (by decide +kernel) rfl⟩
theorem fs_Cc_184 : FS R_Cc 184 4 5 := ⟨_, _, _, rfl, in_Ro, by decide, tg1 60 (by decide +kernel) rfl⟩
theorem fs_Cc_187 : FS R_Cc 187 3 3 := ⟨_, _, _, rfl, in_Of, by decide, tg1 107 (by decide +kernel) rfl⟩
theorem fs_Cc_190 : FS R_Cc 190 3 4 := ⟨_, _, _, rfl, in_Of, by decide, tg1 110 (by decide +kernel) rfl⟩
theorem fs_Cc_191 : FS R_Cc 191 3 5 := ⟨_, _, _, rfl, in_Of, by decide, tg1 113 (by decide +kernel) rfl⟩
theorem fs_Cc_196 : FS R_Cc 196 3 2 := ⟨_, _, _, rfl, in_Of, by decide, tg1 104 (by decide +kernel) rfl⟩
theorem fs_Cc_199 : FS R_Cc 199 6 1 := ⟨_, _, _, rfl, in_Rm, by decide, tg1 141 (by decide +kernel) rfl⟩
theorem fs_Cc_205 : FS R_Cc 205 6 4 := ⟨_, _, _, rfl, in_Rm, by decide, tg1 145 (by decide +kernel) rfl⟩
theorem fs_Cc_211 : FS R_Cc 211 6 5 := ⟨_, _, _, rfl, in_Rm, by decide, tg1 148 (by decide +kernel) rfl⟩
theorem fs_Cc_212 : FS R_Cc 212 6 7 := ⟨_, _, _, rfl, in_Rm, by decide, tg1 151 (by decide +kernel) rfl⟩
theorem fs_Cc_221 : FS R_Cc 221 6 8 := ⟨_, _, _, rfl, in_Rm, by decide, tg1 154 (by decide +kernel) rfl⟩
theorem fs_Cc_234 : FS R_Cc 234 3 0 := ⟨_, _, _, rfl, in_Of, by decide, tg1 99 (by decide +kernel) rfl⟩
theorem fs_Cc_237 : FS R_Cc 237 3 1 := ⟨_, _, _, rfl, in_Of, by decide, tg1 101 (by decide +kernel) rfl⟩
theorem fs_Cc_244 : FS R_Cc 244 0 4 := ⟨_, _, _, rfl, in_Bk, by decide, tg1 190 (by decide +kernel) rfl⟩
theorem fs_Cc_259 : FS R_Cc 259 1 0 := ⟨_, _, _, rfl, in_Ch, by decide, tg2 26 (by decide +kernel) rfl⟩
theorem ps_Cc_259 : PS R_Cc 259 1 0 (ty_Ch 0) false := ⟨_, _, _, ty_Ch, rfl, in_Ch, by decide, tg2 26 (by decide +kernel) rfl, ty_Ch_ok, nm_Ch, rfl, rfl, fun h => by first | rfl | cases h⟩
theorem fs_Cc_262 : FS R_Cc 262 1 1 := ⟨_, _, _, rfl, in_Ch, by decide, tg2 28 (by decide +kernel) rfl⟩
theorem fs_Cc_264 : FS R_Cc 264 1 2 := ⟨_, _, _, rfl, in_Ch, by decide, tg2 30 (by decide +kernel) rfl⟩
theorem fs_Cc_266 : FS R_Cc 266 1 3 := ⟨_, _, _, rfl, in_Ch, by decide, tg2 32 (by decide +kernel) rfl⟩
theorem fs_Cc_268 : FS R_Cc 268 1 4 := ⟨_, _, _, rfl, in_Ch, by decide, tg2 34 (by decide +kernel) rfl⟩
theorem fs_Bk_14 : FS R_Bk 14 0 0 := ⟨_, _, _, rfl, in_Bk, by decide, tg1 181 (by decide +kernel) rfl⟩
theorem ps_Bk_14 : PS R_Bk 14 0 0 (ty_Bk 0) true := ⟨_, _, _, ty_Bk, rfl, in_Bk, by decide, tg1 181 (by decide +kernel) rfl, ty_Bk_ok, nm_Bk, rfl, rfl, fun h => by first | rfl | cases h⟩
theorem fs_Bk_23 : FS R_Bk 23 0 1 := ⟨_, _, _, rfl, in_Bk, by decide, tg1 183 (by decide +kernel) rfl⟩
theorem ps_Bk_23 : PS R_Bk 23 0 1 (ty_Bk 1) true := ⟨_, _, _, ty_Bk, rfl, in_Bk, by decide, tg1 183 (by decide +kernel) rfl, ty_Bk_ok, nm_Bk, rfl, rfl, fun h => by first | rfl | cases h⟩
theorem fs_Bk_30 : FS R_Bk 30 0 2 := ⟨_, _, _, rfl, in_Bk, by decide, tg1 185 (by decide +kernel) rfl⟩
theorem ps_Bk_30 : PS R_Bk 30 0 2 (ty_Bk 2) true := ⟨_, _, _, ty_Bk, rfl, in_Bk, by decide, tg1 185 (by decide +kernel) rfl, ty_Bk_ok, nm_Bk, rfl, rfl, fun h => by first | rfl | cases h⟩
theorem fs_Bk_37 : FS R_Bk 37 0 3 := ⟨_, _, _, rfl, in_Bk, by decide, tg1 187 (by decide +kernel) rfl⟩
theorem ps_Bk_37 : PS R_Bk 37 0 3 (ty_Bk 3) true := ⟨_, _, _, ty_Bk, rfl, in_Bk, by decide, tg1 187 (by decide +kernel) rfl, ty_Bk_ok, nm_Bk, rfl, rfl, fun h => by first | rfl | cases h⟩
theorem fs_Bk_58 : FS R_Bk 58 0 4 := ⟨_, _, _, rfl, in_Bk, by decide, tg1 189 (by decide +kernel) rfl⟩
theorem ps_Bk_58 : PS R_Bk 58 0 4 (ty_Bk 4) false := ⟨_, _, _, ty_Bk, rfl, in_Bk, by decide, tg1 189 (by decide +kernel) rfl, ty_Bk_ok, nm_Bk, rfl, rfl, fun h => by first | rfl | cases h⟩
theorem fs_Bk_74 : FS R_Bk 74 4 2 := ⟨_, _, _, rfl, in_Ro, by decide, tg1 51 (by decide +kernel) rfl⟩
theorem fs_Bk_95 : FS R_Bk 95 4 6 := ⟨_, _, _, rfl, in_Ro, by decide, tg1 62 (by decide +kernel) rfl⟩
theorem fs_Bk_108 : FS R_Bk 108 4 4 := ⟨_, _, _, rfl, in_Ro, by decide, tg1 57 (by decide +kernel) rfl⟩
theorem fs_Bk_117 : FS R_Bk 117 6 8 := ⟨_, _, _, rfl, in_Rm, by decide, tg1 153 (by decide +kernel) rfl⟩
theorem fs_Bk_122 : FS R_Bk 122 3 4 := ⟨_, _, _, rfl, in_Of, by decide, tg1 109 (by decide +kernel) rfl⟩
theorem fs_Bk_123 : FS R_Bk 123 0 5 := ⟨_, _, _, rfl, in_Bk, by decide, tg1 191 (by decide +kernel) rfl⟩
theorem ps_Bk_123 : PS R_Bk 123 0 5 (ty_Bk 5) false := ⟨_, _, _, ty_Bk, rfl, in_Bk, by decide, tg1 191 (by decide +kernel) rfl, ty_Bk_ok, nm_Bk, rfl, rfl, fun h => by first | rfl | cases h⟩
theorem fs_Bk_126 : FS R_Bk 126 3 5 := ⟨_, _, _, rfl, in_Of, by decide, tg1 112 (by decide +kernel) rfl⟩
theorem fs_Bk_129 : FS R_Bk 129 0 6 := ⟨_, _, _, rfl, in_Bk, by decide, tg1 192 (by decide +kernel) rfl⟩
theorem ps_Bk_129 : PS R_Bk 129 0 6 (ty_Bk 6) false := ⟨_, _, _, ty_Bk, rfl, in_Bk, by decide, tg1 192 (by decide +kernel) rfl, ty_Bk_ok, nm_Bk, rfl, rfl, fun h => by first | rfl | cases h⟩
theorem fs_Bk_132 : FS R_Bk 132 3 2 := ⟨_, _, _, rfl, in_Of, by decide, tg1 103 (by decide +kernel) rfl⟩
theorem fs_Bk_142 : FS R_Bk 142 4 3 := ⟨_, _, _, rfl, in_Ro, by decide, tg1 54 (by decide +kernel) rfl⟩
theorem fs_Bk_156 : FS R_Bk 156 4 7 := ⟨_, _, _, rfl, in_Ro, by decide, tg1 65 (by decide +kernel) rfl⟩
theorem fs_Bk_162 : FS R_Bk 162 6 5 := ⟨_, _, _, rfl, in_Rm, by decide, tg1 147 (by decide +kernel) rfl⟩
theorem fs_Bk_168 : FS R_Bk 168 3 3 := ⟨_, _, _, rfl, in_Of, by decide, tg1 106 (by decide +kernel) rfl⟩
theorem fs_Bk_170 : FS R_Bk 170 4 8 := ⟨_, _, _, rfl, in_Ro, by decide, tg1 68 (by decide +kernel) rfl⟩
theorem fs_Bk_173 : FS R_Bk 173 3 0 := ⟨_, _, _, rfl, in_Of, by decide, tg1 98 (by decide +kernel) rfl⟩
theorem fs_Bk_179 : FS R_Bk 179 6 1 := ⟨_, _, _, rfl, in_Rm, by decide, tg1 140 (by decide +kernel) rfl⟩
theorem fs_Ch_7 : FS R_Ch 7 1 0 := ⟨_, _, _, rfl, in_Ch, by decide, tg2 25 (by decide +kernel) rfl⟩
theorem ps_Ch_7 : PS R_Ch 7 1 0 (ty_Ch 0) false := ⟨_, _, _, ty_Ch, rfl, in_Ch, by decide, tg2 25 (by decide +kernel) rfl, ty_Ch_ok, nm_Ch, rfl, rfl, fun h => by first | rfl | cases h⟩
theorem fs_Ch_13 : FS R_Ch 13 1 3 := ⟨_, _, _, rfl, in_Ch, by decide, tg2 31 (by decide +kernel) rfl⟩
theorem ps_Ch_13 : PS R_Ch 13 1 3 (ty_Ch 3) false := ⟨_, _, _, ty_Ch, rfl, in_Ch, by decide, tg2 31 (by decide +kernel) rfl, ty_Ch_ok, nm_Ch, rfl, rfl, fun h => by first | rfl | cases h⟩
theorem fs_Ch_17 : FS R_Ch 17 1 4 := ⟨_, _, _, rfl, in_Ch, by decide, tg2 33 (by decide +kernel) rfl⟩
theorem ps_Ch_17 : PS R_Ch 17 1 4 (ty_Ch 4) false := ⟨_, _, _, ty_Ch, rfl, in_Ch, by decide, tg2 33 (by decide +kernel) rfl, ty_Ch_ok, nm_Ch, rfl, rfl, fun h => by first | rfl | cases h⟩
theorem fs_Ch_20 : FS R_Ch 20 1 1 := ⟨_, _, _, rfl, in_Ch, by decide, tg2 27 (by decide +kernel) rfl⟩
theorem ps_Ch_20 : PS R_Ch 20 1 1 (ty_Ch 1) false := ⟨_, _, _, ty_Ch, rfl, in_Ch, by decide, tg2 27 (by decide +kernel) rfl, ty_Ch_ok, nm_Ch, rfl, rfl, fun h => by first | rfl | cases h⟩
theorem fs_Ch_23 : FS R_Ch 23 1 2 := ⟨_, _, _, rfl, in_Ch, by decide, tg2 29 (by decide +kernel) rfl⟩
theorem ps_Ch_23 : PS R_Ch 23 1 2 (ty_Ch 2) false := ⟨_, _, _, ty_Ch, rfl, in_Ch, by decide, tg2 29 (by decide +kernel) rfl, ty_Ch_ok, nm_Ch, rfl, rfl, fun h => by first | rfl | cases h⟩
theorem fs_Hi_11 : FS R_Hi 11 2 0 := ⟨_, _, _, rfl, in_Hi, by decide, tg1 217 (by decide +kernel) rfl⟩
theorem ps_Hi_11 : PS R_Hi 11 2 0 (ty_Hi 0) true := ⟨_, _, _, ty_Hi, rfl, in_Hi, by decide, tg1 217 (by decide +kernel) rfl, ty_Hi_ok, nm_Hi, rfl, rfl, fun h => by first | rfl | cases h⟩
theorem fs_Hi_18 : FS R_Hi 18 2 1 := ⟨_, _, _, rfl, in_Hi, by decide, tg1 218 (by decide +kernel) rfl⟩
theorem ps_Hi_18 : PS R_Hi 18 2 1 (ty_Hi 1) false := ⟨_, _, _, ty_Hi, rfl, in_Hi, by decide, tg1 218 (by decide +kernel) rfl, ty_Hi_ok, nm_Hi, rfl, rfl, fun h => by first | rfl | cases h⟩
theorem fs_Hi_22 : FS R_Hi 22 2 2 := ⟨_, _, _, rfl, in_Hi, by decide, tg1 219 (by decide +kernel) rfl⟩
theorem ps_Hi_22 : PS R_Hi 22 2 2 (ty_Hi 2) false := ⟨_, _, _, ty_Hi, rfl, in_Hi, by decide, tg1 219 (by decide +kernel) rfl, ty_Hi_ok, nm_Hi, rfl, rfl, fun h => by first | rfl | cases h⟩
theorem fs_Of_14 : FS R_Of 14 3 2 := ⟨_, _, _, rfl, in_Of, by decide, tg1 102 (by decide +kernel) rfl⟩
theorem ps_Of_14 : PS R_Of 14 3 2 (ty_Of 2) true := ⟨_, _, _, ty_Of, rfl, in_Of, by decide, tg1 102 (by decide +kernel) rfl, ty_Of_ok, nm_Of, rfl, rfl, fun h => by first | rfl | cases h⟩
theorem fs_Of_20 : FS R_Of 20 3 3 := ⟨_, _, _, rfl, in_Of, by decide, tg1 105 (by decide +kernel) rfl⟩
theorem ps_Of_20 : PS R_Of 20 3 3 (ty_Of 3) true := ⟨_, _, _, ty_Of, rfl, in_Of, by decide, tg1 105 (by decide +kernel) rfl, ty_Of_ok, nm_Of, rfl, rfl, fun h => by first | rfl | cases h⟩
theorem fs_Of_23 : FS R_Of 23 3 4 := ⟨_, _, _, rfl, in_Of, by decide, tg1 108 (by decide +kernel) rfl⟩
theorem ps_Of_23 : PS R_Of 23 3 4 (ty_Of 4) true := ⟨_, _, _, ty_Of, rfl, in_Of, by decide, tg1 108 (by decide +kernel) rfl, ty_Of_ok, nm_Of, rfl, rfl, fun h => by first | rfl | cases h⟩
theorem fs_Of_26 : FS R_Of 26 3 5 := ⟨_, _, _, rfl, in_Of, by decide, tg1 111 (by decide +kernel) rfl⟩
theorem ps_Of_26 : PS R_Of 26 3 5 (ty_Of 5) true := ⟨_, _, _, ty_Of, rfl, in_Of, by decide, tg1 111 (by decide +kernel) rfl, ty_Of_ok, nm_Of, rfl, rfl, fun h => by first | rfl | cases h⟩
theorem fs_Of_29 : FS R_Of 29 3 0 := ⟨_, _, _, rfl, in_Of, by decide, tg1 97 (by decide +kernel) rfl⟩
theorem ps_Of_29 : PS R_Of 29 3 0 (ty_Of 0) false := ⟨_, _, _, ty_Of, rfl, in_Of, by decide, tg1 97 (by decide +kernel) rfl, ty_Of_ok, nm_Of, rfl, rfl, fun h => by first | rfl | cases h⟩
theorem fs_Of_33 : FS R_Of 33 3 1 := ⟨_, _, _, rfl, in_Of, by decide, tg1 100 (by decide +kernel) rfl⟩
theorem ps_Of_33 : PS R_Of 33 3 1 (ty_Of 1) false := ⟨_, _, _, ty_Of, rfl, in_Of, by decide, tg1 100 (by decide +kernel) rfl, ty_Of_ok, nm_Of, rfl, rfl, fun h => by first | rfl | cases h⟩
theorem fs_Ro_14 : FS R_Ro 14 4 1 := ⟨_, _, _, rfl, in_Ro, by decide, tg1 48 (by decide +kernel) rfl⟩
theorem ps_Ro_14 : PS R_Ro 14 4 1 (ty_Ro 1) true := ⟨_, _, _, ty_Ro, rfl, in_Ro, by decide, tg1 48 (by decide +kernel) rfl, ty_Ro_ok, nm_Ro, rfl, rfl, fun h => by first | rfl | cases h⟩
theorem fs_Ro_20 : FS R_Ro 20 4 2 := ⟨_, _, _, rfl, in_Ro, by decide, tg1 50 (by decide +kernel) rfl⟩
theorem ps_Ro_20 : PS R_Ro 20 4 2 (ty_Ro 2) true := ⟨_, _, _, ty_Ro, rfl, in_Ro, by decide, tg1 50 (by decide +kernel) rfl, ty_Ro_ok, nm_Ro, rfl, rfl, fun h => by first | rfl | cases h⟩
theorem fs_Ro_23 : FS R_Ro 23 4 3 := ⟨_, _, _, rfl, in_Ro, by decide, tg1 53 (by decide +kernel) rfl⟩
theorem ps_Ro_23 : PS R_Ro 23 4 3 (ty_Ro 3) true := ⟨_, _, _, ty_Ro, rfl, in_Ro, by decide, tg1 53 (by decide +kernel) rfl, ty_Ro_ok, nm_Ro, rfl, rfl, fun h => by first | rfl | cases h⟩
theorem fs_Ro_26 : FS R_Ro 26 4 4 := ⟨_, _, _, rfl, in_Ro, by decide, tg1 56 (by decide +kernel) rfl⟩
theorem ps_Ro_26 : PS R_Ro 26 4 4 (ty_Ro 4) true := ⟨_, _, _, ty_Ro, rfl, in_Ro, by decide, tg1 56 (by decide +kernel) rfl, ty_Ro_ok, nm_Ro, rfl, rfl, fun h => by first | rfl | cases h⟩
theorem fs_Ro_29 : FS R_Ro 29 4 5 := ⟨_, _, _, rfl, in_Ro, by decide, tg1 59 (by decide +kernel) rfl⟩
theorem ps_Ro_29 : PS R_Ro 29 4 5 (ty_Ro 5) true := ⟨_, _, _, ty_Ro, rfl, in_Ro, by decide, tg1 59 (by decide +kernel) rfl, ty_Ro_ok, nm_Ro, rfl, rfl, fun h => by first | rfl | cases h⟩
theorem fs_Ro_32 : FS R_Ro 32 4 6 := ⟨_, _, _, rfl, in_Ro, by decide, tg1 61 (by decide +kernel) rfl⟩
theorem ps_Ro_32 : PS R_Ro 32 4 6 (ty_Ro 6) true := ⟨_, _, _, ty_Ro, rfl, in_Ro, by decide, tg1 61 (by decide +kernel) rfl, ty_Ro_ok, nm_Ro, rfl, rfl, fun h => by first | rfl | cases h⟩
theorem fs_Ro_35 : FS R_Ro 35 4 7 := ⟨_, _, _, rfl, in_Ro, by decide, tg1 64 (by decide +kernel) rfl⟩
theorem ps_Ro_35 : PS R_Ro 35 4 7 (ty_Ro 7) true := ⟨_, _, _, ty_Ro, rfl, in_Ro, by decide, tg1 64 (by decide +kernel) rfl, ty_Ro_ok, nm_Ro, rfl, rfl, fun h => by first | rfl | cases h⟩
theorem fs_Ro_38 : FS R_Ro 38 4 8 := ⟨_, _, _, rfl, in_Ro, by decide, tg1 67 (by decide +kernel) rfl⟩
theorem ps_Ro_38 : PS R_Ro 38 4 8 (ty_Ro 8) true := ⟨_, _, _, ty_Ro, rfl, in_Ro, by decide, tg1 67 (by decide +kernel) rfl, ty_Ro_ok, nm_Ro, rfl, rfl, fun h => by first | rfl | cases h⟩
theorem fs_Ro_41 : FS R_Ro 41 4 0 := ⟨_, _, _, rfl, in_Ro, by decide, tg1 46 (by decide +kernel) rfl⟩
theorem ps_Ro_41 : PS R_Ro 41 4 0 (ty_Ro 0) false := ⟨_, _, _, ty_Ro, rfl, in_Ro, by decide, tg1 46 (by decide +kernel) rfl, ty_Ro_ok, nm_Ro, rfl, rfl, fun h => by first | rfl | cases h⟩
theorem fs_Te_14 : FS R_Te 14 5 0 := ⟨_, _, _, rfl, in_Te, by decide, tg1 238 (by decide +kernel) rfl⟩
theorem ps_Te_14 : PS R_Te 14 5 0 (ty_Te 0) true := ⟨_, _, _, ty_Te, rfl, in_Te, by decide, tg1 238 (by decide +kernel) rfl, ty_Te_ok, nm_Te, rfl, rfl, fun h => by first | rfl | cases h⟩
theorem fs_Te_23 : FS R_Te 23 5 2 := ⟨_, _, _, rfl, in_Te, by decide, tg2 1 (by decide +kernel) rfl⟩
theorem ps_Te_23 : PS R_Te 23 5 2 (ty_Te 2) true := ⟨_, _, _, ty_Te, rfl, in_Te, by decide, tg2 1 (by decide +kernel) rfl, ty_Te_ok, nm_Te, rfl, rfl, fun h => by first | rfl | cases h⟩
theorem fs_Te_27 : FS R_Te 27 5 1 := ⟨_, _, _, rfl, in_Te, by decide, tg1 239 (by decide +kernel) rfl⟩
theorem ps_Te_27 : PS R_Te 27 5 1 (ty_Te 1) false := ⟨_, _, _, ty_Te, rfl, in_Te, by decide, tg1 239 (by decide +kernel) rfl, ty_Te_ok, nm_Te, rfl, rfl, fun h => by first | rfl | cases h⟩
theorem fs_Te_35 : FS R_Te 35 6 0 := ⟨_, _, _, rfl, in_Rm, by decide, tg1 136 (by decide +kernel) rfl⟩
theorem ps_Te_35 : PS R_Te 35 6 0 (ty_Rm 0) false := ⟨_, _, _, ty_Rm, rfl, in_Rm, by decide, tg1 136 (by decide +kernel) rfl, ty_Rm_ok, nm_Rm, rfl, rfl, fun h => by first | rfl | cases h⟩
theorem fs_Te_49 : FS R_Te 49 5 3 := ⟨_, _, _, rfl, in_Te, by decide, tg2 3 (by decide +kernel) rfl⟩
theorem ps_Te_49 : PS R_Te 49 5 3 (ty_Te 3) false := ⟨_, _, _, ty_Te, rfl, in_Te, by decide, tg2 3 (by decide +kernel) rfl, ty_Te_ok, nm_Te, rfl, rfl, fun h => by first | rfl | cases h⟩
theorem fs_Te_55 : FS R_Te 55 5 4 := ⟨_, _, _, rfl, in_Te, by decide, tg2 4 (by decide +kernel) rfl⟩
theorem ps_Te_55 : PS R_Te 55 5 4 (ty_Te 4) false := ⟨_, _, _, ty_Te, rfl, in_Te, by decide, tg2 4 (by decide +kernel) rfl, ty_Te_ok, nm_Te, rfl, rfl, fun h => by first | rfl | cases h⟩
theorem fs_Te_73 : FS R_Te 73 5 5 := ⟨_, _, _, rfl, in_Te, by decide, tg2 5 (by decide +kernel) rfl⟩
theorem ps_Te_73 : PS R_Te 73 5 5 (ty_Te 5) false := ⟨_, _, _, ty_Te, rfl, in_Te, by decide, tg2 5 (by decide +kernel) rfl, ty_Te_ok, nm_Te, rfl, rfl, fun h => by first | rfl | cases h⟩
theorem fs_Te_76 : FS R_Te 76 6 1 := ⟨_, _, _, rfl, in_Rm, by decide, tg1 139 (by decide +kernel) rfl⟩
theorem fs_Rm_14 : FS R_Rm 14 6 1 := ⟨_, _, _, rfl, in_Rm, by decide, tg1 138 (by decide +kernel) rfl⟩
theorem ps_Rm_14 : PS R_Rm 14 6 1 (ty_Rm 1) true := ⟨_, _, _, ty_Rm, rfl, in_Rm, by decide, tg1 138 (by decide +kernel) rfl, ty_Rm_ok, nm_Rm, rfl, rfl, fun h => by first | rfl | cases h⟩
theorem fs_Rm_20 : FS R_Rm 20 6 2 := ⟨_, _, _, rfl, in_Rm, by decide, tg1 142 (by decide +kernel) rfl⟩
theorem ps_Rm_20 : PS R_Rm 20 6 2 (ty_Rm 2) true := ⟨_, _, _, ty_Rm, rfl, in_Rm, by decide, tg1 142 (by decide +kernel) rfl, ty_Rm_ok, nm_Rm, rfl, rfl, fun h => by first | rfl | cases h⟩
theorem fs_Rm_23 : FS R_Rm 23 6 3 := ⟨_, _, _, rfl, in_Rm, by decide, tg1 143 (by decide +kernel) rfl⟩
theorem ps_Rm_23 : PS R_Rm 23 6 3 (ty_Rm 3) true := ⟨_, _, _, ty_Rm, rfl, in_Rm, by decide, tg1 143 (by decide +kernel) rfl, ty_Rm_ok, nm_Rm, rfl, rfl, fun h => by first | rfl | cases h⟩
theorem fs_Rm_26 : FS R_Rm 26 6 4 := ⟨_, _, _, rfl, in_Rm, by decide, tg1 144 (by decide +kernel) rfl⟩
theorem ps_Rm_26 : PS R_Rm 26 6 4 (ty_Rm 4) true := ⟨_, _, _, ty_Rm, rfl, in_Rm, by decide, tg1 144 (by decide +kernel) rfl, ty_Rm_ok, nm_Rm, rfl, rfl, fun h => by first | rfl | cases h⟩
theorem fs_Rm_29 : FS R_Rm 29 6 5 := ⟨_, _, _, rfl, in_Rm, by decide, tg1 146 (by decide +kernel) rfl⟩
theorem ps_Rm_29 : PS R_Rm 29 6 5 (ty_Rm 5) true := ⟨_, _, _, ty_Rm, rfl, in_Rm, by decide, tg1 146 (by decide +kernel) rfl, ty_Rm_ok, nm_Rm, rfl, rfl, fun h => by first | rfl | cases h⟩
theorem fs_Rm_32 : FS R_Rm 32 6 6 := ⟨_, _, _, rfl, in_Rm, by decide, tg1 149 (by decide +kernel) rfl⟩
theorem ps_Rm_32 : PS R_Rm 32 6 6 (ty_Rm 6) true := ⟨_, _, _, ty_Rm, rfl, in_Rm, by decide, tg1 149 (by decide +kernel) rfl, ty_Rm_ok, nm_Rm, rfl, rfl, fun h => by first | rfl | cases h⟩
theorem fs_Rm_35 : FS R_Rm 35 6 7 := ⟨_, _, _, rfl, in_Rm, by decide, tg1 150 (by decide +kernel) rfl⟩
theorem ps_Rm_35 : PS R_Rm 35 6 7 (ty_Rm 7) true := ⟨_, _, _, ty_Rm, rfl, in_Rm, by decide, tg1 150 (by decide +kernel) rfl, ty_Rm_ok, nm_Rm, rfl, rfl, fun h => by first | rfl | cases h⟩
theorem fs_Rm_38 : FS R_Rm 38 6 8 := ⟨_, _, _, rfl, in_Rm, by decide, tg1 152 (by decide +kernel) rfl⟩
theorem ps_Rm_38 : PS R_Rm 38 6 8 (ty_Rm 8) true := ⟨_, _, _, ty_Rm, rfl, in_Rm, by decide, tg1 152 (by decide +kernel) rfl, ty_Rm_ok, nm_Rm, rfl, rfl, fun h => by first | rfl | cases h⟩
theorem fs_Rm_41 : FS R_Rm 41 6 9 := ⟨_, _, _, rfl, in_Rm, by decide, tg1 155 (by decide +kernel) rfl⟩
theorem ps_Rm_41 : PS R_Rm 41 6 9 (ty_Rm 9) true := ⟨_, _, _, ty_Rm, rfl, in_Rm, by decide, tg1 155 (by decide +kernel) rfl, ty_Rm_ok, nm_Rm, rfl, rfl, fun h => by first | rfl | cases h⟩
theorem fs_Rm_44 : FS R_Rm 44 6 0 := ⟨_, _, _, rfl, in_Rm, by decide, tg1 135 (by decide +kernel) rfl⟩
theorem ps_Rm_44 : PS R_Rm 44 6 0 (ty_Rm 0) false := ⟨_, _, _, ty_Rm, rfl, in_Rm, by decide, tg1 135 (by decide +kernel) rfl, ty_Rm_ok, nm_Rm, rfl, rfl, fun h => by first | rfl | cases h⟩
theorem fs_Rw_7 : FS R_Rw 7 7 0 := ⟨_, _, _, rfl, in_Rw, by decide, tg1 33 (by decide +kernel) rfl⟩
theorem ps_Rw_7 : PS R_Rw 7 7 0 (ty_Rw 0) true := ⟨_, _, _, ty_Rw, rfl, in_Rw, by decide, tg1 33 (by decide +kernel) rfl, ty_Rw_ok, nm_Rw, rfl, rfl, fun h => by first | rfl | cases h⟩
theorem fs_Mo_7 : FS R_Mo 7 9 0 := ⟨_, _, _, rfl, in_Mo, by decide, tg4 40 (by decide +kernel) rfl⟩
theorem ps_Mo_7 : PS R_Mo 7 9 0 (ty_Mo 0) true := ⟨_, _, _, ty_Mo, rfl, in_Mo, by decide, tg4 40 (by decide +kernel) rfl, ty_Mo_ok, nm_Mo, rfl, rfl, fun h => by first | rfl | cases h⟩
theorem fs_Mo_13 : FS R_Mo 13 9 1 := ⟨_, _, _, rfl, in_Mo, by decide, tg4 41 (by decide +kernel) rfl⟩
theorem ps_Mo_13 : PS R_Mo 13 9 1 (ty_Mo 1) true := ⟨_, _, _, ty_Mo, rfl, in_Mo, by decide, tg4 41 (by decide +kernel) rfl, ty_Mo_ok, nm_Mo, rfl, rfl, fun h => by first | rfl | cases h⟩
theorem fs_Mo_16 : FS R_Mo 16 9 2 := ⟨_, _, _, rfl, in_Mo, by decide, tg4 42 (by decide +kernel) rfl⟩
theorem ps_Mo_16 : PS R_Mo 16 9 2 (ty_Mo 2) true := ⟨_, _, _, ty_Mo, rfl, in_Mo, by decide, tg4 42 (by decide +kernel) rfl, ty_Mo_ok, nm_Mo, rfl, rfl, fun h => by first | rfl | cases h⟩
theorem fs_Mo_19 : FS R_Mo 19 9 3 := ⟨_, _, _, rfl, in_Mo, by decide, tg4 43 (by decide +kernel) rfl⟩
theorem ps_Mo_19 : PS R_Mo 19 9 3 (ty_Mo 3) true := ⟨_, _, _, ty_Mo, rfl, in_Mo, by decide, tg4 43 (by decide +kernel) rfl, ty_Mo_ok, nm_Mo, rfl, rfl, fun h => by first | rfl | cases h⟩
theorem fs_Mo_22 : FS R_Mo 22 9 4 := ⟨_, _, _, rfl, in_Mo, by decide, tg4 44 (by decide +kernel) rfl⟩
theorem ps_Mo_22 : PS R_Mo 22 9 4 (ty_Mo 4) true := ⟨_, _, _, ty_Mo, rfl, in_Mo, by decide, tg4 44 (by decide +kernel) rfl, ty_Mo_ok, nm_Mo, rfl, rfl, fun h => by first | rfl | cases h⟩
theorem fs_Mo_25 : FS R_Mo 25 9 5 := ⟨_, _, _, rfl, in_Mo, by decide, tg4 45 (by decide +kernel) rfl⟩
theorem ps_Mo_25 : PS R_Mo 25 9 5 (ty_Mo 5) true := ⟨_, _, _, ty_Mo, rfl, in_Mo, by decide, tg4 45 (by decide +kernel) rfl, ty_Mo_ok, nm_Mo, rfl, rfl, fun h => by first | rfl | cases h⟩
theorem fs_Mo_28 : FS R_Mo 28 9 6 := ⟨_, _, _, rfl, in_Mo, by decide, tg4 46 (by decide +kernel) rfl⟩
theorem ps_Mo_28 : PS R_Mo 28 9 6 (ty_Mo 6) true := ⟨_, _, _, ty_Mo, rfl, in_Mo, by decide, tg4 46 (by decide +kernel) rfl, ty_Mo_ok, nm_Mo, rfl, rfl, fun h => by first | rfl | cases h⟩
theorem fs_Mo_31 : FS R_Mo 31 9 8 := ⟨_, _, _, rfl, in_Mo, by decide, tg4 48 (by decide +kernel) rfl⟩
theorem ps_Mo_31 : PS R_Mo 31 9 8 (ty_Mo 8) false := ⟨_, _, _, ty_Mo, rfl, in_Mo, by decide, tg4 48 (by decide +kernel) rfl, ty_Mo_ok, nm_Mo, rfl, rfl, fun h => by first | rfl | cases h⟩
theorem fs_Mo_77 : FS R_Mo 77 9 11 := ⟨_, _, _, rfl, in_Mo, by decide, tg4 51 (by decide +kernel) rfl⟩
theorem ps_Mo_77 : PS R_Mo 77 9 11 (ty_Mo 11) false := ⟨_, _, _, ty_Mo, rfl, in_Mo, by decide, tg4 51 (by decide +kernel) rfl, ty_Mo_ok, nm_Mo, rfl, rfl, fun h => by first | rfl | cases h⟩
theorem fs_Mo_80 : FS R_Mo 80 9 12 := ⟨_, _, _, rfl, in_Mo, by decide, tg4 52 (by decide +kernel) rfl⟩
theorem ps_Mo_80 : PS R_Mo 80 9 12 (ty_Mo 12) false := ⟨_, _, _, ty_Mo, rfl, in_Mo, by decide, tg4 52 (by decide +kernel) rfl, ty_Mo_ok, nm_Mo, rfl, rfl, fun h => by first | rfl | cases h⟩
theorem fs_Mo_83 : FS R_Mo 83 9 13 := ⟨_, _, _, rfl, in_Mo, by decide, tg4 53 (by decide +kernel) rfl⟩
theorem ps_Mo_83 : PS R_Mo 83 9 13 (ty_Mo 13) false := ⟨_, _, _, ty_Mo, rfl, in_Mo, by decide, tg4 53 (by decide +kernel) rfl, ty_Mo_ok, nm_Mo, rfl, rfl, fun h => by first | rfl | cases h⟩
theorem fs_Mo_120 : FS R_Mo 120 9 14 := ⟨_, _, _, rfl, in_Mo, by decide, tg4 54 (by decide +kernel) rfl⟩
theorem ps_Mo_120 : PS R_Mo 120 9 14 (ty_Mo 14) false := ⟨_, _, _, ty_Mo, rfl, in_Mo, by decide, tg4 54 (by decide +kernel) rfl, ty_Mo_ok, nm_Mo, rfl, rfl, fun h => by first | rfl | cases h⟩
theorem fs_Mo_132 : FS R_Mo 132 9 7 := ⟨_, _, _, rfl, in_Mo, by decide, tg4 47 (by decide +kernel) rfl⟩
theorem ps_Mo_132 : PS R_Mo 132 9 7 (ty_Mo 7) false := ⟨_, _, _, ty_Mo, rfl, in_Mo, by decide, tg4 47 (by decide +kernel) rfl, ty_Mo_ok, nm_Mo, rfl, rfl, fun h => by first | rfl | cases h⟩
theorem fs_Mo_175 : FS R_Mo 175 9 9 := ⟨_, _, _, rfl, in_Mo, by decide, tg4 49 (by decide +kernel) rfl⟩
theorem ps_Mo_175 : PS R_Mo 175 9 9 (ty_Mo 9) false := ⟨_, _, _, ty_Mo, rfl, in_Mo, by decide, tg4 49 (by decide +kernel) rfl, ty_Mo_ok, nm_Mo, rfl, rfl, fun h => by first | rfl | cases h⟩
theorem fs_Mo_187 : FS R_Mo 187 9 10 := ⟨_, _, _, rfl, in_Mo, by decide, tg4 50 (by decide +kernel) rfl⟩
theorem ps_Mo_187 : PS R_Mo 187 9 10 (ty_Mo 10) false := ⟨_, _, _, ty_Mo, rfl, in_Mo, by decide, tg4 50 (by decide +kernel) rfl, ty_Mo_ok, nm_Mo, rfl, rfl, fun h => by first | rfl | cases h⟩
theorem ns_Cc_7 : NS R_Cc 7 0 [some none, some none, some none, some none, none, none, none] := ⟨_, _, _, ty_Bk, rfl, in_Bk, ty_Bk_ok, tg1 21 (by decide +kernel) rfl, tg1 22 (by decide +kernel) rfl, tg1 2 (by decide +kernel) rfl, rfl, fun j hj => by
  rcases (show j = 0 ∨ j = 1 ∨ j = 2 ∨ j = 3 ∨ j = 4 ∨ j = 5 ∨ j = 6 by omega) with rfl | rfl | rfl | rfl | rfl | rfl | rfl
  · first | exact Or.inl ⟨rfl, rfl⟩ | exact Or.inr ⟨rfl, rfl⟩
  · first | exact Or.inl ⟨rfl, rfl⟩ | exact Or.inr ⟨rfl, rfl⟩
  · first | exact Or.inl ⟨rfl, rfl⟩ | exact Or.inr ⟨rfl, rfl⟩
  · first | exact Or.inl ⟨rfl, rfl⟩ | exact Or.inr ⟨rfl, rfl⟩
  · first | exact Or.inl ⟨rfl, rfl⟩ | exact Or.inr ⟨rfl, rfl⟩
  · first | exact Or.inl ⟨rfl, rfl⟩ | exact Or.inr ⟨rfl, rfl⟩
  · first | exact Or.inl ⟨rfl, rfl⟩ | exact Or.inr ⟨rfl, rfl⟩⟩
theorem ns_Cc_25 : NS R_Cc 25 2 [some none, none, none] := ⟨_, _, _, ty_Hi, rfl, in_Hi, ty_Hi_ok, tg1 208 (by decide +kernel) rfl, tg1 209 (by decide +kernel) rfl, tg1 7 (by decide +kernel) rfl, rfl, fun j hj => by
  rcases (show j = 0 ∨ j = 1 ∨ j = 2 by omega) with rfl | rfl | rfl
  · first | exact Or.inl ⟨rfl, rfl⟩ | exact Or.inr ⟨rfl, rfl⟩
  · first | exact Or.inl ⟨rfl, rfl⟩ | exact Or.inr ⟨rfl, rfl⟩
  · first | exact Or.inl ⟨rfl, rfl⟩ | exact Or.inr ⟨rfl, rfl⟩⟩
theorem ns_Cc_32 : NS R_Cc 32 5 [some none, none, some none, none, none, none] := ⟨_, _, _, ty_Te, rfl, in_Te, ty_Te_ok, tg1 228 (by decide +kernel) rfl, tg1 229 (by decide +kernel) rfl, tg1 8 (by decide +kernel) rfl, rfl, fun j hj => by
  rcases (show j = 0 ∨ j = 1 ∨ j = 2 ∨ j = 3 ∨ j = 4 ∨ j = 5 by omega) with rfl | rfl | rfl | rfl | rfl | rfl
  · first | exact Or.inl ⟨rfl, rfl⟩ | exact Or.inr ⟨rfl, rfl⟩
  · first | exact Or.inl ⟨rfl, rfl⟩ | exact Or.inr ⟨rfl, rfl⟩
  · first | exact Or.inl ⟨rfl, rfl⟩ | exact Or.inr ⟨rfl, rfl⟩
  · first | exact Or.inl ⟨rfl, rfl⟩ | exact Or.inr ⟨rfl, rfl⟩
  · first | exact Or.inl ⟨rfl, rfl⟩ | exact Or.inr ⟨rfl, rfl⟩
  · first | exact Or.inl ⟨rfl, rfl⟩ | exact Or.inr ⟨rfl, rfl⟩⟩
theorem ns_Cc_39 : NS R_Cc 39 1 [none, none, none, none, none] := ⟨_, _, _, ty_Ch, rfl, in_Ch, ty_Ch_ok, tg2 19 (by decide +kernel) rfl, tg2 20 (by decide +kernel) rfl, tg1 9 (by decide +kernel) rfl, rfl, fun j hj => by
  rcases (show j = 0 ∨ j = 1 ∨ j = 2 ∨ j = 3 ∨ j = 4 by omega) with rfl | rfl | rfl | rfl | rfl
  · first | exact Or.inl ⟨rfl, rfl⟩ | exact Or.inr ⟨rfl, rfl⟩
  · first | exact Or.inl ⟨rfl, rfl⟩ | exact Or.inr ⟨rfl, rfl⟩
  · first | exact Or.inl ⟨rfl, rfl⟩ | exact Or.inr ⟨rfl, rfl⟩
  · first | exact Or.inl ⟨rfl, rfl⟩ | exact Or.inr ⟨rfl, rfl⟩
  · first | exact Or.inl ⟨rfl, rfl⟩ | exact Or.inr ⟨rfl, rfl⟩⟩
theorem ns_Bk_9 : NS R_Bk 9 7 [some none] := ⟨_, _, _, ty_Rw, rfl, in_Rw, ty_Rw_ok, tg1 27 (by decide +kernel) rfl, tg1 28 (by decide +kernel) rfl, tg1 3 (by decide +kernel) rfl, rfl, fun j hj => by
  rcases (show j = 0 by omega) with rfl
  · first | exact Or.inl ⟨rfl, rfl⟩ | exact Or.inr ⟨rfl, rfl⟩⟩
theorem ns_Bk_20 : NS R_Bk 20 4 [none, some none, some none, some none, some none, some none, some none, some none, some none] := ⟨_, _, _, ty_Ro, rfl, in_Ro, ty_Ro_ok, tg1 38 (by decide +kernel) rfl, tg1 39 (by decide +kernel) rfl, tg1 4 (by decide +kernel) rfl, rfl, fun j hj => by
  rcases (show j = 0 ∨ j = 1 ∨ j = 2 ∨ j = 3 ∨ j = 4 ∨ j = 5 ∨ j = 6 ∨ j = 7 ∨ j = 8 by omega) with rfl | rfl | rfl | rfl | rfl | rfl | rfl | rfl | rfl
  · first | exact Or.inl ⟨rfl, rfl⟩ | exact Or.inr ⟨rfl, rfl⟩
  · first | exact Or.inl ⟨rfl, rfl⟩ | exact Or.inr ⟨rfl, rfl⟩
  · first | exact Or.inl ⟨rfl, rfl⟩ | exact Or.inr ⟨rfl, rfl⟩
  · first | exact Or.inl ⟨rfl, rfl⟩ | exact Or.inr ⟨rfl, rfl⟩
  · first | exact Or.inl ⟨rfl, rfl⟩ | exact Or.inr ⟨rfl, rfl⟩
  · first | exact Or.inl ⟨rfl, rfl⟩ | exact Or.inr ⟨rfl, rfl⟩
  · first | exact Or.inl ⟨rfl, rfl⟩ | exact Or.inr ⟨rfl, rfl⟩
  · first | exact Or.inl ⟨rfl, rfl⟩ | exact Or.inr ⟨rfl, rfl⟩
  · first | exact Or.inl ⟨rfl, rfl⟩ | exact Or.inr ⟨rfl, rfl⟩⟩
theorem ns_Bk_27 : NS R_Bk 27 3 [none, none, some none, some none, some none, some none] := ⟨_, _, _, ty_Of, rfl, in_Of, ty_Of_ok, tg1 89 (by decide +kernel) rfl, tg1 90 (by decide +kernel) rfl, tg1 5 (by decide +kernel) rfl, rfl, fun j hj => by
  rcases (show j = 0 ∨ j = 1 ∨ j = 2 ∨ j = 3 ∨ j = 4 ∨ j = 5 by omega) with rfl | rfl | rfl | rfl | rfl | rfl
  · first | exact Or.inl ⟨rfl, rfl⟩ | exact Or.inr ⟨rfl, rfl⟩
  · first | exact Or.inl ⟨rfl, rfl⟩ | exact Or.inr ⟨rfl, rfl⟩
  · first | exact Or.inl ⟨rfl, rfl⟩ | exact Or.inr ⟨rfl, rfl⟩
  · first | exact Or.inl ⟨rfl, rfl⟩ | exact Or.inr ⟨rfl, rfl⟩
  · first | exact Or.inl ⟨rfl, rfl⟩ | exact Or.inr ⟨rfl, rfl⟩
  · first | exact Or.inl ⟨rfl, rfl⟩ | exact Or.inr ⟨rfl, rfl⟩⟩
theorem ns_Bk_34 : NS R_Bk 34 6 [none, some none, some none, some none, some none, some none, some none, some none, some none, some none] := ⟨_, _, _, ty_Rm, rfl, in_Rm, ty_Rm_ok, tg1 127 (by decide +kernel) rfl, tg1 128 (by decide +kernel) rfl, tg1 6 (by decide +kernel) rfl, rfl, fun j hj => by
  rcases (show j = 0 ∨ j = 1 ∨ j = 2 ∨ j = 3 ∨ j = 4 ∨ j = 5 ∨ j = 6 ∨ j = 7 ∨ j = 8 ∨ j = 9 by omega) with rfl | rfl | rfl | rfl | rfl | rfl | rfl | rfl | rfl | rfl
  · first | exact Or.inl ⟨rfl, rfl⟩ | exact Or.inr ⟨rfl, rfl⟩
  · first | exact Or.inl ⟨rfl, rfl⟩ | exact Or.inr ⟨rfl, rfl⟩
  · first | exact Or.inl ⟨rfl, rfl⟩ | exact Or.inr ⟨rfl, rfl⟩
  · first | exact Or.inl ⟨rfl, rfl⟩ | exact Or.inr ⟨rfl, rfl⟩
  · first | exact Or.inl ⟨rfl, rfl⟩ | exact Or.inr ⟨rfl, rfl⟩
  · first | exact Or.inl ⟨rfl, rfl⟩ | exact Or.inr ⟨rfl, rfl⟩
  · first | exact Or.inl ⟨rfl, rfl⟩ | exact Or.inr ⟨rfl, rfl⟩
  · first | exact Or.inl ⟨rfl, rfl⟩ | exact Or.inr ⟨rfl, rfl⟩
  · first | exact Or.inl ⟨rfl, rfl⟩ | exact Or.inr ⟨rfl, rfl⟩
  · first | exact Or.inl ⟨rfl, rfl⟩ | exact Or.inr ⟨rfl, rfl⟩⟩
theorem ns_Hi_9 : NS R_Hi 9 0 [some none, some none, some none, some none, none, none, none] := ⟨_, _, _, ty_Bk, rfl, in_Bk, ty_Bk_ok, tg1 214 (by decide +kernel) rfl, tg1 22 (by decide +kernel) rfl, tg1 2 (by decide +kernel) rfl, rfl, fun j hj => by
  rcases (show j = 0 ∨ j = 1 ∨ j = 2 ∨ j = 3 ∨ j = 4 ∨ j = 5 ∨ j = 6 by omega) with rfl | rfl | rfl | rfl | rfl | rfl | rfl
  · first | exact Or.inl ⟨rfl, rfl⟩ | exact Or.inr ⟨rfl, rfl⟩
  · first | exact Or.inl ⟨rfl, rfl⟩ | exact Or.inr ⟨rfl, rfl⟩
  · first | exact Or.inl ⟨rfl, rfl⟩ | exact Or.inr ⟨rfl, rfl⟩
  · first | exact Or.inl ⟨rfl, rfl⟩ | exact Or.inr ⟨rfl, rfl⟩
  · first | exact Or.inl ⟨rfl, rfl⟩ | exact Or.inr ⟨rfl, rfl⟩
  · first | exact Or.inl ⟨rfl, rfl⟩ | exact Or.inr ⟨rfl, rfl⟩
  · first | exact Or.inl ⟨rfl, rfl⟩ | exact Or.inr ⟨rfl, rfl⟩⟩
theorem ns_Of_9 : NS R_Of 9 7 [some none] := ⟨_, _, _, ty_Rw, rfl, in_Rw, ty_Rw_ok, tg1 95 (by decide +kernel) rfl, tg1 28 (by decide +kernel) rfl, tg1 3 (by decide +kernel) rfl, rfl, fun j hj => by
  rcases (show j = 0 by omega) with rfl
  · first | exact Or.inl ⟨rfl, rfl⟩ | exact Or.inr ⟨rfl, rfl⟩⟩
theorem ns_Ro_9 : NS R_Ro 9 7 [some none] := ⟨_, _, _, ty_Rw, rfl, in_Rw, ty_Rw_ok, tg1 44 (by decide +kernel) rfl, tg1 28 (by decide +kernel) rfl, tg1 3 (by decide +kernel) rfl, rfl, fun j hj => by
  rcases (show j = 0 by omega) with rfl
  · first | exact Or.inl ⟨rfl, rfl⟩ | exact Or.inr ⟨rfl, rfl⟩⟩
theorem ns_Te_9 : NS R_Te 9 7 [some none] := ⟨_, _, _, ty_Rw, rfl, in_Rw, ty_Rw_ok, tg1 234 (by decide +kernel) rfl, tg1 28 (by decide +kernel) rfl, tg1 3 (by decide +kernel) rfl, rfl, fun j hj => by
  rcases (show j = 0 by omega) with rfl
  · first | exact Or.inl ⟨rfl, rfl⟩ | exact Or.inr ⟨rfl, rfl⟩⟩
theorem ns_Te_20 : NS R_Te 20 6 [none, some none, some none, some none, some none, some none, some none, some none, some none, some none] := ⟨_, _, _, ty_Rm, rfl, in_Rm, ty_Rm_ok, tg1 236 (by decide +kernel) rfl, tg1 128 (by decide +kernel) rfl, tg1 6 (by decide +kernel) rfl, rfl, fun j hj => by
  rcases (show j = 0 ∨ j = 1 ∨ j = 2 ∨ j = 3 ∨ j = 4 ∨ j = 5 ∨ j = 6 ∨ j = 7 ∨ j = 8 ∨ j = 9 by omega) with rfl | rfl | rfl | rfl | rfl | rfl | rfl | rfl | rfl | rfl
  · first | exact Or.inl ⟨rfl, rfl⟩ | exact Or.inr ⟨rfl, rfl⟩
  · first | exact Or.inl ⟨rfl, rfl⟩ | exact Or.inr ⟨rfl, rfl⟩
  · first | exact Or.inl ⟨rfl, rfl⟩ | exact Or.inr ⟨rfl, rfl⟩
  · first | exact Or.inl ⟨rfl, rfl⟩ | exact Or.inr ⟨rfl, rfl⟩
  · first | exact Or.inl ⟨rfl, rfl⟩ | exact Or.inr ⟨rfl, rfl⟩
  · first | exact Or.inl ⟨rfl, rfl⟩ | exact Or.inr ⟨rfl, rfl⟩
  · first | exact Or.inl ⟨rfl, rfl⟩ | exact Or.inr ⟨rfl, rfl⟩
  · first | exact Or.inl ⟨rfl, rfl⟩ | exact Or.inr ⟨rfl, rfl⟩
  · first | exact Or.inl ⟨rfl, rfl⟩ | exact Or.inr ⟨rfl, rfl⟩
  · first | exact Or.inl ⟨rfl, rfl⟩ | exact Or.inr ⟨rfl, rfl⟩⟩
theorem ns_Rm_9 : NS R_Rm 9 7 [some none] := ⟨_, _, _, ty_Rw, rfl, in_Rw, ty_Rw_ok, tg1 133 (by decide +kernel) rfl, tg1 28 (by decide +kernel) rfl, tg1 3 (by decide +kernel) rfl, rfl, fun j hj => by
  rcases (show j = 0 by omega) with rfl
  · first | exact Or.inl ⟨rfl, rfl⟩ | exact Or.inr ⟨rfl, rfl⟩⟩
theorem ns_La_7 : NS R_La 7 8 [some none, some none, some none, some none, some none, some none, some none, none] := ⟨_, _, _, ty_Cc, rfl, in_Cc, ty_Cc_ok, tg1 13 (by decide +kernel) rfl, tg1 14 (by decide +kernel) rfl, tg1 1 (by decide +kernel) rfl, rfl, fun j hj => by
  rcases (show j = 0 ∨ j = 1 ∨ j = 2 ∨ j = 3 ∨ j = 4 ∨ j = 5 ∨ j = 6 ∨ j = 7 by omega) with rfl | rfl | rfl | rfl | rfl | rfl | rfl | rfl
  · first | exact Or.inl ⟨rfl, rfl⟩ | exact Or.inr ⟨rfl, rfl⟩
  · first | exact Or.inl ⟨rfl, rfl⟩ | exact Or.inr ⟨rfl, rfl⟩
  · first | exact Or.inl ⟨rfl, rfl⟩ | exact Or.inr ⟨rfl, rfl⟩
  · first | exact Or.inl ⟨rfl, rfl⟩ | exact Or.inr ⟨rfl, rfl⟩
  · first | exact Or.inl ⟨rfl, rfl⟩ | exact Or.inr ⟨rfl, rfl⟩
  · first | exact Or.inl ⟨rfl, rfl⟩ | exact Or.inr ⟨rfl, rfl⟩
  · first | exact Or.inl ⟨rfl, rfl⟩ | exact Or.inr ⟨rfl, rfl⟩
  · first | exact Or.inl ⟨rfl, rfl⟩ | exact Or.inr ⟨rfl, rfl⟩⟩
theorem ns_La_10 : NS R_La 10 9 [some none, some none, some none, some none, some none, some none, some none, none, none, none, none, none, none, none, none] := ⟨_, _, _, ty_Mo, rfl, in_Mo, ty_Mo_ok, tg4 34 (by decide +kernel) rfl, tg4 35 (by decide +kernel) rfl, tg1 10 (by decide +kernel) rfl, rfl, fun j hj => by
  rcases (show j = 0 ∨ j = 1 ∨ j = 2 ∨ j = 3 ∨ j = 4 ∨ j = 5 ∨ j = 6 ∨ j = 7 ∨ j = 8 ∨ j = 9 ∨ j = 10 ∨ j = 11 ∨ j = 12 ∨ j = 13 ∨ j = 14 by omega) with rfl | rfl | rfl | rfl | rfl | rfl | rfl | rfl | rfl | rfl | rfl | rfl | rfl | rfl | rfl
  · first | exact Or.inl ⟨rfl, rfl⟩ | exact Or.inr ⟨rfl, rfl⟩
  · first | exact Or.inl ⟨rfl, rfl⟩ | exact Or.inr ⟨rfl, rfl⟩
  · first | exact Or.inl ⟨rfl, rfl⟩ | exact Or.inr ⟨rfl, rfl⟩
  · first | exact Or.inl ⟨rfl, rfl⟩ | exact Or.inr ⟨rfl, rfl⟩
  · first | exact Or.inl ⟨rfl, rfl⟩ | exact Or.inr ⟨rfl, rfl⟩
  · first | exact Or.inl ⟨rfl, rfl⟩ | exact Or.inr ⟨rfl, rfl⟩
  · first | exact Or.inl ⟨rfl, rfl⟩ | exact Or.inr ⟨rfl, rfl⟩
  · first | exact Or.inl ⟨rfl, rfl⟩ | exact Or.inr ⟨rfl, rfl⟩
  · first | exact Or.inl ⟨rfl, rfl⟩ | exact Or.inr ⟨rfl, rfl⟩
  · first | exact Or.inl ⟨rfl, rfl⟩ | exact Or.inr ⟨rfl, rfl⟩
  · first | exact Or.inl ⟨rfl, rfl⟩ | exact Or.inr ⟨rfl, rfl⟩
  · first | exact Or.inl ⟨rfl, rfl⟩ | exact Or.inr ⟨rfl, rfl⟩
  · first | exact Or.inl ⟨rfl, rfl⟩ | exact Or.inr ⟨rfl, rfl⟩
  · first | exact Or.inl ⟨rfl, rfl⟩ | exact Or.inr ⟨rfl, rfl⟩
  · first | exact Or.inl ⟨rfl, rfl⟩ | exact Or.inr ⟨rfl, rfl⟩⟩
theorem ml_Cc_1 : Cond.methodLink R_Cc 1 Lib.objectInit ∈ tbG := tg1 18 (by decide +kernel) rfl
theorem ml_Cc_9 : Cond.methodLink R_Cc 9 y_Bk_init ∈ tbG := tg1 23 (by decide +kernel) rfl
theorem ml_Cc_27 : Cond.methodLink R_Cc 27 y_Hi_init ∈ tbG := tg1 210 (by decide +kernel) rfl
theorem ml_Cc_46 : Cond.methodLink R_Cc 46 y_Cc_isKind ∈ tbG := tg2 75 (by decide +kernel) rfl
theorem ml_Cc_60 : Cond.methodLink R_Cc 60 y_Hi_record ∈ tbG := tg2 78 (by decide +kernel) rfl
theorem ml_Cc_64 : Cond.methodLink R_Cc 64 y_Ro_append ∈ tbG := tg2 118 (by decide +kernel) rfl
theorem ml_Cc_68 : Cond.methodLink R_Cc 68 y_Te_read ∈ tbG := tg2 127 (by decide +kernel) rfl
theorem ml_Cc_82 : Cond.methodLink R_Cc 82 y_Rm_appendAll ∈ tbG := tg2 185 (by decide +kernel) rfl
theorem ml_Cc_86 : Cond.methodLink R_Cc 86 y_Rm_has ∈ tbG := tg2 196 (by decide +kernel) rfl
theorem ml_Cc_89 : Cond.methodLink R_Cc 89 y_Ro_has ∈ tbG := tg2 200 (by decide +kernel) rfl
theorem ml_Cc_90 : Cond.methodLink R_Cc 90 y_Cc_isWay ∈ tbG := tg2 204 (by decide +kernel) rfl
theorem ml_Cc_93 : Cond.methodLink R_Cc 93 y_Bk_copyFrom ∈ tbG := tg2 207 (by decide +kernel) rfl
theorem ml_Cc_96 : Cond.methodLink R_Cc 96 y_Bk_lay ∈ tbG := tg2 208 (by decide +kernel) rfl
theorem ml_Cc_100 : Cond.methodLink R_Cc 100 y_Rm_isCovered ∈ tbG := tg3 76 (by decide +kernel) rfl
theorem ml_Cc_103 : Cond.methodLink R_Cc 103 y_Bk_lift ∈ tbG := tg3 77 (by decide +kernel) rfl
theorem ml_Cc_111 : Cond.methodLink R_Cc 111 y_Of_placeOf ∈ tbG := tg3 89 (by decide +kernel) rfl
theorem ml_Cc_116 : Cond.methodLink R_Cc 116 y_Bk_sellAt ∈ tbG := tg3 93 (by decide +kernel) rfl
theorem ml_Cc_119 : Cond.methodLink R_Cc 119 y_Of_smallOnes ∈ tbG := tg3 102 (by decide +kernel) rfl
theorem ml_Cc_123 : Cond.methodLink R_Cc 123 y_Bk_throwSmallOnes ∈ tbG := tg3 110 (by decide +kernel) rfl
theorem ml_Cc_126 : Cond.methodLink R_Cc 126 y_Cc_isSetting ∈ tbG := tg3 119 (by decide +kernel) rfl
theorem ml_Cc_134 : Cond.methodLink R_Cc 134 y_Rw_at ∈ tbG := tg3 122 (by decide +kernel) rfl
theorem ml_Cc_139 : Cond.methodLink R_Cc 139 y_Rw_put ∈ tbG := tg3 123 (by decide +kernel) rfl
theorem ml_Cc_143 : Cond.methodLink R_Cc 143 y_Te_append ∈ tbG := tg3 128 (by decide +kernel) rfl
theorem ml_Cc_150 : Cond.methodLink R_Cc 150 y_Hi_moveLatestTo ∈ tbG := tg3 145 (by decide +kernel) rfl
theorem ml_Cc_169 : Cond.methodLink R_Cc 169 y_Of_keptOf ∈ tbG := tg3 161 (by decide +kernel) rfl
theorem ml_Cc_172 : Cond.methodLink R_Cc 172 y_Of_areaOf ∈ tbG := tg3 165 (by decide +kernel) rfl
theorem ml_Cc_193 : Cond.methodLink R_Cc 193 y_Of_placeByArea ∈ tbG := tg3 177 (by decide +kernel) rfl
theorem ml_Cc_202 : Cond.methodLink R_Cc 202 y_Rm_area ∈ tbG := tg3 189 (by decide +kernel) rfl
theorem ml_Cc_208 : Cond.methodLink R_Cc 208 y_Cc_covering ∈ tbG := tg3 190 (by decide +kernel) rfl
theorem ml_Cc_215 : Cond.methodLink R_Cc 215 y_Rm_strips ∈ tbG := tg3 194 (by decide +kernel) rfl
theorem ml_Cc_218 : Cond.methodLink R_Cc 218 y_Rm_seams ∈ tbG := tg3 195 (by decide +kernel) rfl
theorem ml_Cc_222 : Cond.methodLink R_Cc 222 y_Rm_stripWidth ∈ tbG := tg3 200 (by decide +kernel) rfl
theorem ml_Cc_225 : Cond.methodLink R_Cc 225 y_Rm_stripLength ∈ tbG := tg3 201 (by decide +kernel) rfl
theorem ml_Cc_228 : Cond.methodLink R_Cc 228 y_Rm_source ∈ tbG := tg3 202 (by decide +kernel) rfl
theorem ml_Cc_231 : Cond.methodLink R_Cc 231 y_Rm_covered ∈ tbG := tg3 210 (by decide +kernel) rfl
theorem ml_Cc_238 : Cond.methodLink R_Cc 238 y_Rw_sum ∈ tbG := tg3 215 (by decide +kernel) rfl
theorem ml_Cc_241 : Cond.methodLink R_Cc 241 y_Rm_coveredArea ∈ tbG := tg3 219 (by decide +kernel) rfl
theorem ml_Cc_247 : Cond.methodLink R_Cc 247 y_Cc_setting ∈ tbG := tg3 224 (by decide +kernel) rfl
theorem ml_Cc_252 : Cond.methodLink R_Cc 252 y_Rm_stripsFromOffcuts ∈ tbG := tg3 237 (by decide +kernel) rfl
theorem ml_Cc_255 : Cond.methodLink R_Cc 255 y_Cc_choose ∈ tbG := tg4 7 (by decide +kernel) rfl
theorem ml_Cc_270 : Cond.methodLink R_Cc 270 y_Bk_sufficesFor ∈ tbG := tg4 19 (by decide +kernel) rfl
theorem ml_Cc_273 : Cond.methodLink R_Cc 273 y_Ch_offer ∈ tbG := tg4 11 (by decide +kernel) rfl
theorem ml_Bk_3 : Cond.methodLink R_Bk 3 Lib.objectInit ∈ tbG := tg1 26 (by decide +kernel) rfl
theorem ml_Bk_11 : Cond.methodLink R_Bk 11 y_Rw_init ∈ tbG := tg1 29 (by decide +kernel) rfl
theorem ml_Bk_41 : Cond.methodLink R_Bk 41 y_Rw_put ∈ tbG := tg1 177 (by decide +kernel) rfl
theorem ml_Bk_45 : Cond.methodLink R_Bk 45 y_Rw_copyFrom ∈ tbG := tg2 93 (by decide +kernel) rfl
theorem ml_Bk_49 : Cond.methodLink R_Bk 49 y_Ro_copyFrom ∈ tbG := tg2 103 (by decide +kernel) rfl
theorem ml_Bk_52 : Cond.methodLink R_Bk 52 y_Of_copyFrom ∈ tbG := tg2 108 (by decide +kernel) rfl
theorem ml_Bk_55 : Cond.methodLink R_Bk 55 y_Rm_copyFrom ∈ tbG := tg2 113 (by decide +kernel) rfl
theorem ml_Bk_62 : Cond.methodLink R_Bk 62 y_Rm_isCovered ∈ tbG := tg2 212 (by decide +kernel) rfl
theorem ml_Bk_66 : Cond.methodLink R_Bk 66 y_Rw_at ∈ tbG := tg2 216 (by decide +kernel) rfl
theorem ml_Bk_70 : Cond.methodLink R_Bk 70 y_Rm_isAcross ∈ tbG := tg2 217 (by decide +kernel) rfl
theorem ml_Bk_77 : Cond.methodLink R_Bk 77 y_Rm_putCovering ∈ tbG := tg2 221 (by decide +kernel) rfl
theorem ml_Bk_81 : Cond.methodLink R_Bk 81 y_Rm_strips ∈ tbG := tg2 225 (by decide +kernel) rfl
theorem ml_Bk_84 : Cond.methodLink R_Bk 84 y_Rm_stripWidth ∈ tbG := tg2 237 (by decide +kernel) rfl
theorem ml_Bk_88 : Cond.methodLink R_Bk 88 y_Rm_stripLength ∈ tbG := tg3 2 (by decide +kernel) rfl
theorem ml_Bk_91 : Cond.methodLink R_Bk 91 y_Bk_takePiece ∈ tbG := tg3 10 (by decide +kernel) rfl
theorem ml_Bk_98 : Cond.methodLink R_Bk 98 y_Rw_add ∈ tbG := tg3 39 (by decide +kernel) rfl
theorem ml_Bk_101 : Cond.methodLink R_Bk 101 y_Bk_leaveRests ∈ tbG := tg3 40 (by decide +kernel) rfl
theorem ml_Bk_105 : Cond.methodLink R_Bk 105 y_Rm_area ∈ tbG := tg3 60 (by decide +kernel) rfl
theorem ml_Bk_111 : Cond.methodLink R_Bk 111 y_Rm_seams ∈ tbG := tg3 64 (by decide +kernel) rfl
theorem ml_Bk_114 : Cond.methodLink R_Bk 114 y_Bk_seamPrice ∈ tbG := tg3 68 (by decide +kernel) rfl
theorem ml_Bk_118 : Cond.methodLink R_Bk 118 y_Of_placeFor ∈ tbG := tg3 14 (by decide +kernel) rfl
theorem ml_Bk_135 : Cond.methodLink R_Bk 135 y_Rm_putSource ∈ tbG := tg3 27 (by decide +kernel) rfl
theorem ml_Bk_139 : Cond.methodLink R_Bk 139 y_Of_removeAt ∈ tbG := tg3 31 (by decide +kernel) rfl
theorem ml_Bk_145 : Cond.methodLink R_Bk 145 y_Bk_isLongBeside ∈ tbG := tg3 44 (by decide +kernel) rfl
theorem ml_Bk_148 : Cond.methodLink R_Bk 148 y_Bk_leaveRest ∈ tbG := tg3 51 (by decide +kernel) rfl
theorem ml_Bk_151 : Cond.methodLink R_Bk 151 Lib.Math.max.name ∈ tbG := tg3 48 (by decide +kernel) rfl
theorem ml_Bk_159 : Cond.methodLink R_Bk 159 y_Of_append ∈ tbG := tg3 55 (by decide +kernel) rfl
theorem ml_Bk_165 : Cond.methodLink R_Bk 165 y_Rm_putBare ∈ tbG := tg3 81 (by decide +kernel) rfl
theorem ml_Bk_169 : Cond.methodLink R_Bk 169 y_Of_area ∈ tbG := tg3 97 (by decide +kernel) rfl
theorem ml_Bk_176 : Cond.methodLink R_Bk 176 y_Of_isSmall ∈ tbG := tg3 114 (by decide +kernel) rfl
theorem ml_Bk_182 : Cond.methodLink R_Bk 182 y_Bk_sufficesByWay ∈ tbG := tg4 23 (by decide +kernel) rfl
theorem ml_Bk_185 : Cond.methodLink R_Bk 185 y_Rm_rectangleWidth ∈ tbG := tg4 27 (by decide +kernel) rfl
theorem ml_Bk_188 : Cond.methodLink R_Bk 188 y_Rm_rectangleLength ∈ tbG := tg4 28 (by decide +kernel) rfl
theorem ml_Bk_191 : Cond.methodLink R_Bk 191 y_Of_holds ∈ tbG := tg4 29 (by decide +kernel) rfl
theorem ml_Ch_1 : Cond.methodLink R_Ch 1 Lib.objectInit ∈ tbG := tg2 24 (by decide +kernel) rfl
theorem ml_Hi_3 : Cond.methodLink R_Hi 3 Lib.objectInit ∈ tbG := tg1 213 (by decide +kernel) rfl
theorem ml_Hi_17 : Cond.methodLink R_Hi 17 y_Bk_init ∈ tbG := tg1 216 (by decide +kernel) rfl
theorem ml_Hi_25 : Cond.methodLink R_Hi 25 y_Hi_slotAt ∈ tbG := tg2 82 (by decide +kernel) rfl
theorem ml_Hi_29 : Cond.methodLink R_Hi 29 y_Bk_copyFrom ∈ tbG := tg2 89 (by decide +kernel) rfl
theorem ml_Hi_33 : Cond.methodLink R_Hi 33 ⟨"java/lang/Math", "floorMod", "(II)I"⟩ ∈ tbG := tg2 86 (by decide +kernel) rfl
theorem ml_Of_3 : Cond.methodLink R_Of 3 Lib.objectInit ∈ tbG := tg1 94 (by decide +kernel) rfl
theorem ml_Of_11 : Cond.methodLink R_Of 11 y_Rw_init ∈ tbG := tg1 96 (by decide +kernel) rfl
theorem ml_Of_36 : Cond.methodLink R_Of 36 y_Rw_put ∈ tbG := tg3 59 (by decide +kernel) rfl
theorem ml_Of_40 : Cond.methodLink R_Of 40 y_Rw_removeAt ∈ tbG := tg3 35 (by decide +kernel) rfl
theorem ml_Of_43 : Cond.methodLink R_Of 43 y_Rw_at ∈ tbG := tg3 18 (by decide +kernel) rfl
theorem ml_Of_47 : Cond.methodLink R_Of 47 y_Of_area ∈ tbG := tg3 23 (by decide +kernel) rfl
theorem ml_Of_50 : Cond.methodLink R_Of 50 y_Of_isSmall ∈ tbG := tg3 106 (by decide +kernel) rfl
theorem ml_Of_54 : Cond.methodLink R_Of 54 y_Of_holds ∈ tbG := tg3 19 (by decide +kernel) rfl
theorem ml_Of_57 : Cond.methodLink R_Of 57 y_Of_rankOf ∈ tbG := tg3 181 (by decide +kernel) rfl
theorem ml_Of_60 : Cond.methodLink R_Of 60 y_Rw_copyFrom ∈ tbG := tg2 112 (by decide +kernel) rfl
theorem ml_Ro_3 : Cond.methodLink R_Ro 3 Lib.objectInit ∈ tbG := tg1 43 (by decide +kernel) rfl
theorem ml_Ro_11 : Cond.methodLink R_Ro 11 y_Rw_init ∈ tbG := tg1 45 (by decide +kernel) rfl
theorem ml_Ro_45 : Cond.methodLink R_Ro 45 y_Rw_put ∈ tbG := tg2 122 (by decide +kernel) rfl
theorem ml_Ro_49 : Cond.methodLink R_Ro 49 y_Rw_copyFrom ∈ tbG := tg2 107 (by decide +kernel) rfl
theorem ml_Te_3 : Cond.methodLink R_Te 3 Lib.objectInit ∈ tbG := tg1 233 (by decide +kernel) rfl
theorem ml_Te_11 : Cond.methodLink R_Te 11 y_Rw_init ∈ tbG := tg1 235 (by decide +kernel) rfl
theorem ml_Te_31 : Cond.methodLink R_Te 31 y_Rw_put ∈ tbG := tg3 132 (by decide +kernel) rfl
theorem ml_Te_38 : Cond.methodLink R_Te 38 y_Te_beginRoom ∈ tbG := tg2 131 (by decide +kernel) rfl
theorem ml_Te_41 : Cond.methodLink R_Te 41 y_Rw_at ∈ tbG := tg2 140 (by decide +kernel) rfl
theorem ml_Te_45 : Cond.methodLink R_Te 45 y_Te_takes ∈ tbG := tg2 144 (by decide +kernel) rfl
theorem ml_Te_52 : Cond.methodLink R_Te 52 y_Rm_begin ∈ tbG := tg2 135 (by decide +kernel) rfl
theorem ml_Te_58 : Cond.methodLink R_Te 58 y_Te_takesDigit ∈ tbG := tg2 148 (by decide +kernel) rfl
theorem ml_Te_61 : Cond.methodLink R_Te 61 y_Te_takesBetweenSizes ∈ tbG := tg2 152 (by decide +kernel) rfl
theorem ml_Te_64 : Cond.methodLink R_Te 64 y_Te_takesBehindSizes ∈ tbG := tg2 156 (by decide +kernel) rfl
theorem ml_Te_67 : Cond.methodLink R_Te 67 y_Te_takesLight ∈ tbG := tg2 173 (by decide +kernel) rfl
theorem ml_Te_70 : Cond.methodLink R_Te 70 y_Te_takesBetweenRooms ∈ tbG := tg2 181 (by decide +kernel) rfl
theorem ml_Te_79 : Cond.methodLink R_Te 79 y_Rm_addRectangle ∈ tbG := tg2 160 (by decide +kernel) rfl
theorem ml_Te_82 : Cond.methodLink R_Te 82 y_Rm_finish ∈ tbG := tg2 177 (by decide +kernel) rfl
theorem ml_Rm_3 : Cond.methodLink R_Rm 3 Lib.objectInit ∈ tbG := tg1 132 (by decide +kernel) rfl
theorem ml_Rm_11 : Cond.methodLink R_Rm 11 y_Rw_init ∈ tbG := tg1 134 (by decide +kernel) rfl
theorem ml_Rm_48 : Cond.methodLink R_Rm 48 y_Rw_at ∈ tbG := tg2 164 (by decide +kernel) rfl
theorem ml_Rm_52 : Cond.methodLink R_Rm 52 y_Rw_put ∈ tbG := tg2 139 (by decide +kernel) rfl
theorem ml_Rm_56 : Cond.methodLink R_Rm 56 y_Rm_cell ∈ tbG := tg2 165 (by decide +kernel) rfl
theorem ml_Rm_60 : Cond.methodLink R_Rm 60 y_Rw_add ∈ tbG := tg2 169 (by decide +kernel) rfl
theorem ml_Rm_63 : Cond.methodLink R_Rm 63 y_Rm_begin ∈ tbG := tg2 189 (by decide +kernel) rfl
theorem ml_Rm_66 : Cond.methodLink R_Rm 66 y_Rm_addRectangle ∈ tbG := tg2 190 (by decide +kernel) rfl
theorem ml_Rm_69 : Cond.methodLink R_Rm 69 y_Rm_finish ∈ tbG := tg2 191 (by decide +kernel) rfl
theorem ml_Rm_72 : Cond.methodLink R_Rm 72 y_Rm_isCovered ∈ tbG := tg3 214 (by decide +kernel) rfl
theorem ml_Rm_76 : Cond.methodLink R_Rm 76 y_Rm_area ∈ tbG := tg3 223 (by decide +kernel) rfl
theorem ml_Rm_79 : Cond.methodLink R_Rm 79 y_Rm_rectangleWidth ∈ tbG := tg2 233 (by decide +kernel) rfl
theorem ml_Rm_83 : Cond.methodLink R_Rm 83 y_Rm_stripsIn ∈ tbG := tg2 229 (by decide +kernel) rfl
theorem ml_Rm_86 : Cond.methodLink R_Rm 86 y_Rm_rectangleLength ∈ tbG := tg3 6 (by decide +kernel) rfl
theorem ml_Rm_89 : Cond.methodLink R_Rm 89 Lib.Math.min.name ∈ tbG := tg3 1 (by decide +kernel) rfl
theorem ml_Rm_94 : Cond.methodLink R_Rm 94 y_Rm_strips ∈ tbG := tg4 1 (by decide +kernel) rfl
theorem ml_Rm_97 : Cond.methodLink R_Rm 97 y_Rm_source ∈ tbG := tg4 2 (by decide +kernel) rfl
theorem ml_Rm_100 : Cond.methodLink R_Rm 100 y_Rw_copyFrom ∈ tbG := tg2 117 (by decide +kernel) rfl
theorem ml_Rw_1 : Cond.methodLink R_Rw 1 Lib.objectInit ∈ tbG := tg1 32 (by decide +kernel) rfl
theorem ml_Rw_13 : Cond.methodLink R_Rw 13 Lib.Math.min.name ∈ tbG := tg2 97 (by decide +kernel) rfl
theorem ml_Rw_19 : Cond.methodLink R_Rw 19 arraycopyName ∈ tbG := tg2 100 (by decide +kernel) rfl
theorem ml_La_9 : Cond.methodLink R_La 9 y_Cc_init ∈ tbG := tg1 15 (by decide +kernel) rfl
theorem ml_La_12 : Cond.methodLink R_La 12 y_Mo_init ∈ tbG := tg4 36 (by decide +kernel) rfl
theorem ml_La_13 : Cond.methodLink R_La 13 y_Cc_roll ∈ tbG := tg2 71 (by decide +kernel) rfl
theorem ml_La_17 : Cond.methodLink R_La 17 y_Mo_roll ∈ tbG := tg4 86 (by decide +kernel) rfl
theorem ml_La_18 : Cond.methodLink R_La 18 y_Cc_rooms ∈ tbG := tg2 123 (by decide +kernel) rfl
theorem ml_La_22 : Cond.methodLink R_La 22 y_Mo_rooms ∈ tbG := tg4 101 (by decide +kernel) rfl
theorem ml_La_23 : Cond.methodLink R_La 23 y_Cc_cover ∈ tbG := tg2 192 (by decide +kernel) rfl
theorem ml_La_27 : Cond.methodLink R_La 27 y_Mo_cover ∈ tbG := tg4 129 (by decide +kernel) rfl
theorem ml_La_28 : Cond.methodLink R_La 28 y_Cc_takeUp ∈ tbG := tg3 72 (by decide +kernel) rfl
theorem ml_La_32 : Cond.methodLink R_La 32 y_Mo_takeUp ∈ tbG := tg4 234 (by decide +kernel) rfl
theorem ml_La_33 : Cond.methodLink R_La 33 y_Cc_sell ∈ tbG := tg3 85 (by decide +kernel) rfl
theorem ml_La_36 : Cond.methodLink R_La 36 y_Mo_sell ∈ tbG := tg5 14 (by decide +kernel) rfl
theorem ml_La_37 : Cond.methodLink R_La 37 y_Cc_clear ∈ tbG := tg3 98 (by decide +kernel) rfl
theorem ml_La_41 : Cond.methodLink R_La 41 y_Mo_clear ∈ tbG := tg5 18 (by decide +kernel) rfl
theorem ml_La_42 : Cond.methodLink R_La 42 y_Cc_set ∈ tbG := tg3 115 (by decide +kernel) rfl
theorem ml_La_45 : Cond.methodLink R_La 45 y_Mo_set ∈ tbG := tg5 26 (by decide +kernel) rfl
theorem ml_La_46 : Cond.methodLink R_La 46 y_Cc_type ∈ tbG := tg3 124 (by decide +kernel) rfl
theorem ml_La_50 : Cond.methodLink R_La 50 y_Mo_type ∈ tbG := tg5 33 (by decide +kernel) rfl
theorem ml_La_51 : Cond.methodLink R_La 51 y_Cc_clearText ∈ tbG := tg3 133 (by decide +kernel) rfl
theorem ml_La_54 : Cond.methodLink R_La 54 y_Mo_clearText ∈ tbG := tg5 37 (by decide +kernel) rfl
theorem ml_La_55 : Cond.methodLink R_La 55 y_Cc_fault ∈ tbG := tg3 137 (by decide +kernel) rfl
theorem ml_La_58 : Cond.methodLink R_La 58 y_Mo_fault ∈ tbG := tg5 41 (by decide +kernel) rfl
theorem ml_La_59 : Cond.methodLink R_La 59 y_Cc_undo ∈ tbG := tg3 141 (by decide +kernel) rfl
theorem ml_La_62 : Cond.methodLink R_La 62 y_Mo_undo ∈ tbG := tg5 45 (by decide +kernel) rfl
theorem ml_La_63 : Cond.methodLink R_La 63 y_Cc_keep ∈ tbG := tg3 149 (by decide +kernel) rfl
theorem ml_La_66 : Cond.methodLink R_La 66 y_Mo_keep ∈ tbG := tg5 49 (by decide +kernel) rfl
theorem ml_La_67 : Cond.methodLink R_La 67 y_Cc_restore ∈ tbG := tg3 153 (by decide +kernel) rfl
theorem ml_La_70 : Cond.methodLink R_La 70 y_Mo_restore ∈ tbG := tg5 53 (by decide +kernel) rfl
theorem ml_La_71 : Cond.methodLink R_La 71 y_Cc_rollOf ∈ tbG := tg3 157 (by decide +kernel) rfl
theorem ml_La_74 : Cond.methodLink R_La 74 y_Mo_rollOf ∈ tbG := tg5 57 (by decide +kernel) rfl
theorem ml_La_75 : Cond.methodLink R_La 75 y_Cc_offcut ∈ tbG := tg3 169 (by decide +kernel) rfl
theorem ml_La_78 : Cond.methodLink R_La 78 y_Mo_offcut ∈ tbG := tg5 65 (by decide +kernel) rfl
theorem ml_La_79 : Cond.methodLink R_La 79 y_Cc_sorted ∈ tbG := tg3 173 (by decide +kernel) rfl
theorem ml_La_82 : Cond.methodLink R_La 82 y_Mo_sorted ∈ tbG := tg5 69 (by decide +kernel) rfl
theorem ml_La_83 : Cond.methodLink R_La 83 y_Cc_room ∈ tbG := tg3 185 (by decide +kernel) rfl
theorem ml_La_86 : Cond.methodLink R_La 86 y_Mo_room ∈ tbG := tg5 73 (by decide +kernel) rfl
theorem ml_La_87 : Cond.methodLink R_La 87 y_Cc_strip ∈ tbG := tg3 196 (by decide +kernel) rfl
theorem ml_La_90 : Cond.methodLink R_La 90 y_Mo_strip ∈ tbG := tg5 81 (by decide +kernel) rfl
theorem ml_La_91 : Cond.methodLink R_La 91 y_Cc_count ∈ tbG := tg3 206 (by decide +kernel) rfl
theorem ml_La_94 : Cond.methodLink R_La 94 y_Mo_count ∈ tbG := tg5 85 (by decide +kernel) rfl
theorem ml_La_95 : Cond.methodLink R_La 95 y_Cc_wasted ∈ tbG := tg3 228 (by decide +kernel) rfl
theorem ml_La_99 : Cond.methodLink R_La 99 y_Mo_wasted ∈ tbG := tg5 93 (by decide +kernel) rfl
theorem ml_La_100 : Cond.methodLink R_La 100 y_Cc_ifCovered ∈ tbG := tg3 233 (by decide +kernel) rfl
theorem ml_La_103 : Cond.methodLink R_La 103 y_Mo_ifCovered ∈ tbG := tg5 98 (by decide +kernel) rfl
theorem ml_La_104 : Cond.methodLink R_La 104 y_Cc_best ∈ tbG := tg4 3 (by decide +kernel) rfl
theorem ml_La_107 : Cond.methodLink R_La 107 y_Mo_best ∈ tbG := tg5 102 (by decide +kernel) rfl
theorem ml_La_108 : Cond.methodLink R_La 108 y_Cc_suits ∈ tbG := tg4 15 (by decide +kernel) rfl
theorem ml_La_111 : Cond.methodLink R_La 111 y_Mo_suits ∈ tbG := tg5 111 (by decide +kernel) rfl
theorem ml_La_112 : Cond.methodLink R_La 112 y_Cc_coverAll ∈ tbG := tg4 30 (by decide +kernel) rfl
theorem ml_La_115 : Cond.methodLink R_La 115 y_Mo_coverAll ∈ tbG := tg5 115 (by decide +kernel) rfl
theorem ml_Mo_1 : Cond.methodLink R_Mo 1 Lib.objectInit ∈ tbG := tg4 39 (by decide +kernel) rfl
theorem ml_Mo_35 : Cond.methodLink R_Mo 35 y_Mo_in ∈ tbG := tg4 90 (by decide +kernel) rfl
theorem ml_Mo_39 : Cond.methodLink R_Mo 39 y_Mo_widthOf ∈ tbG := tg4 191 (by decide +kernel) rfl
theorem ml_Mo_43 : Cond.methodLink R_Mo 43 y_Mo_lengthOf ∈ tbG := tg4 195 (by decide +kernel) rfl
theorem ml_Mo_46 : Cond.methodLink R_Mo 46 y_Mo_isKept ∈ tbG := tg4 183 (by decide +kernel) rfl
theorem ml_Mo_50 : Cond.methodLink R_Mo 50 y_Mo_add ∈ tbG := tg4 97 (by decide +kernel) rfl
theorem ml_Mo_54 : Cond.methodLink R_Mo 54 y_Mo_addOffcut ∈ tbG := tg4 218 (by decide +kernel) rfl
theorem ml_Mo_57 : Cond.methodLink R_Mo 57 y_Mo_greater ∈ tbG := tg4 211 (by decide +kernel) rfl
theorem ml_Mo_61 : Cond.methodLink R_Mo 61 y_Mo_rest ∈ tbG := tg4 214 (by decide +kernel) rfl
theorem ml_Mo_64 : Cond.methodLink R_Mo 64 y_Mo_keptOnes ∈ tbG := tg4 222 (by decide +kernel) rfl
theorem ml_Mo_68 : Cond.methodLink R_Mo 68 y_Mo_rollOfOffcut ∈ tbG := tg4 187 (by decide +kernel) rfl
theorem ml_Mo_71 : Cond.methodLink R_Mo 71 y_Mo_areaOf ∈ tbG := tg4 199 (by decide +kernel) rfl
theorem ml_Mo_74 : Cond.methodLink R_Mo 74 y_Mo_at ∈ tbG := tg4 153 (by decide +kernel) rfl
theorem ml_Mo_86 : Cond.methodLink R_Mo 86 y_Mo_isAcross ∈ tbG := tg4 157 (by decide +kernel) rfl
theorem ml_Mo_90 : Cond.methodLink R_Mo 90 y_Mo_of ∈ tbG := tg4 161 (by decide +kernel) rfl
theorem ml_Mo_93 : Cond.methodLink R_Mo 93 y_Mo_wide ∈ tbG := tg4 165 (by decide +kernel) rfl
theorem ml_Mo_97 : Cond.methodLink R_Mo 97 y_Mo_longs ∈ tbG := tg4 169 (by decide +kernel) rfl
theorem ml_Mo_100 : Cond.methodLink R_Mo 100 y_Mo_rounds ∈ tbG := tg4 173 (by decide +kernel) rfl
theorem ml_Mo_103 : Cond.methodLink R_Mo 103 y_Mo_stripWidth ∈ tbG := tg4 176 (by decide +kernel) rfl
theorem ml_Mo_106 : Cond.methodLink R_Mo 106 y_Mo_offcutFor ∈ tbG := tg4 179 (by decide +kernel) rfl
theorem ml_Mo_109 : Cond.methodLink R_Mo 109 y_Mo_drop ∈ tbG := tg4 203 (by decide +kernel) rfl
theorem ml_Mo_113 : Cond.methodLink R_Mo 113 y_Mo_cut ∈ tbG := tg4 207 (by decide +kernel) rfl
theorem ml_Mo_117 : Cond.methodLink R_Mo 117 y_Mo_area ∈ tbG := tg4 226 (by decide +kernel) rfl
theorem ml_Mo_123 : Cond.methodLink R_Mo 123 y_Mo_put ∈ tbG := tg4 125 (by decide +kernel) rfl
theorem ml_Mo_126 : Cond.methodLink R_Mo 126 y_Mo_record ∈ tbG := tg4 93 (by decide +kernel) rfl
theorem ml_Mo_129 : Cond.methodLink R_Mo 129 y_Mo_readAll ∈ tbG := tg4 105 (by decide +kernel) rfl
theorem ml_Mo_135 : Cond.methodLink R_Mo 135 y_Mo_readRoom ∈ tbG := tg4 109 (by decide +kernel) rfl
theorem ml_Mo_139 : Cond.methodLink R_Mo 139 y_Mo_isRoom ∈ tbG := tg4 137 (by decide +kernel) rfl
theorem ml_Mo_142 : Cond.methodLink R_Mo 142 y_Mo_isRoll ∈ tbG := tg4 141 (by decide +kernel) rfl
theorem ml_Mo_145 : Cond.methodLink R_Mo 145 y_Mo_check ∈ tbG := tg4 133 (by decide +kernel) rfl
theorem ml_Mo_148 : Cond.methodLink R_Mo 148 y_Mo_lay ∈ tbG := tg4 145 (by decide +kernel) rfl
theorem ml_Mo_151 : Cond.methodLink R_Mo 151 y_Mo_coverNow ∈ tbG := tg4 149 (by decide +kernel) rfl
theorem ml_Mo_154 : Cond.methodLink R_Mo 154 y_Mo_takeBack ∈ tbG := tg4 230 (by decide +kernel) rfl
theorem ml_Mo_157 : Cond.methodLink R_Mo 157 y_Mo_rankOf ∈ tbG := tg5 6 (by decide +kernel) rfl
theorem ml_Mo_160 : Cond.methodLink R_Mo 160 y_Mo_stripsOf ∈ tbG := tg4 238 (by decide +kernel) rfl
theorem ml_Mo_163 : Cond.methodLink R_Mo 163 y_Mo_widthOfStrip ∈ tbG := tg5 2 (by decide +kernel) rfl
theorem ml_Mo_166 : Cond.methodLink R_Mo 166 y_Mo_lengthOfStrip ∈ tbG := tg5 10 (by decide +kernel) rfl
theorem ml_Mo_169 : Cond.methodLink R_Mo 169 y_Mo_isBelow ∈ tbG := tg5 22 (by decide +kernel) rfl
theorem ml_Mo_172 : Cond.methodLink R_Mo 172 y_Mo_most ∈ tbG := tg5 30 (by decide +kernel) rfl
theorem ml_Mo_178 : Cond.methodLink R_Mo 178 y_Mo_isNext ∈ tbG := tg4 117 (by decide +kernel) rfl
theorem ml_Mo_181 : Cond.methodLink R_Mo 181 y_Mo_size ∈ tbG := tg4 113 (by decide +kernel) rfl
theorem ml_Mo_184 : Cond.methodLink R_Mo 184 y_Mo_sign ∈ tbG := tg4 121 (by decide +kernel) rfl
theorem ml_Mo_191 : Cond.methodLink R_Mo 191 y_Mo_laid ∈ tbG := tg5 61 (by decide +kernel) rfl
theorem ml_Mo_194 : Cond.methodLink R_Mo 194 y_Mo_seamsOf ∈ tbG := tg5 77 (by decide +kernel) rfl
theorem ml_Mo_197 : Cond.methodLink R_Mo 197 y_Mo_wasteOfAll ∈ tbG := tg5 89 (by decide +kernel) rfl
theorem ml_Mo_202 : Cond.methodLink R_Mo 202 y_Mo_ifCovered ∈ tbG := tg5 110 (by decide +kernel) rfl
theorem ml_Mo_206 : Cond.methodLink R_Mo 206 y_Mo_bestFor ∈ tbG := tg5 106 (by decide +kernel) rfl
theorem mn_Cc_34 : ∀ U : State, nestK U → va_Nw (.methodLinkNest R_Cc 34 y_Te_init "CarpetCounter") U := fun U h => h.1
theorem mn_Cc_41 : ∀ U : State, nestK U → va_Nw (.methodLinkNest R_Cc 41 y_Ch_init "CarpetCounter") U := fun U h => h.2.1
theorem mn_Bk_22 : ∀ U : State, nestK U → va_Nw (.methodLinkNest R_Bk 22 y_Ro_init "CarpetCounter") U := fun U h => h.2.2.1
theorem mn_Bk_29 : ∀ U : State, nestK U → va_Nw (.methodLinkNest R_Bk 29 y_Of_init "CarpetCounter") U := fun U h => h.2.2.2.1
theorem mn_Bk_36 : ∀ U : State, nestK U → va_Nw (.methodLinkNest R_Bk 36 y_Rm_init "CarpetCounter") U := fun U h => h.2.2.2.2.1
theorem mn_Te_22 : ∀ U : State, nestK U → va_Nw (.methodLinkNest R_Te 22 y_Rm_init "CarpetCounter") U := fun U h => h.2.2.2.2.2
theorem ac_int : Cond.arrayClass .int ∈ tbG := tg1 37 (by decide +kernel) rfl
theorem v_Bk_copyFrom : VI y_Bk_copyFrom c_Bk_copyFrom 2 none 1 := ⟨⟨by decide +kernel, by decide +kernel, by decide +kernel⟩, tg2 90 (by decide +kernel) rfl, tg2 91 (by decide +kernel) rfl, tg1 2 (by decide +kernel) rfl, tg2 92 (by decide +kernel) rfl⟩
abbrev M_Bk_copyFrom : Mt := (R_Bk, y_Bk_copyFrom, c_Bk_copyFrom, 2, none, { frames := 3, cells := 0, slots := 0, locals := 68 })
theorem v_Bk_init : VC y_Bk_init c_Bk_init 1 0 := ⟨⟨by decide +kernel, by decide +kernel, by decide +kernel⟩, tg1 24 (by decide +kernel) rfl, tg1 2 (by decide +kernel) rfl, tg1 25 (by decide +kernel) rfl, rfl⟩
abbrev M_Bk_init : Mt := (R_Bk, y_Bk_init, c_Bk_init, 1, none, { frames := 3, cells := 47, slots := 15887, locals := 61 })
theorem v_Bk_isLongBeside : VI y_Bk_isLongBeside c_Bk_isLongBeside 8 (some FieldType.boolean) 2 := ⟨⟨by decide +kernel, by decide +kernel, by decide +kernel⟩, tg3 46 (by decide +kernel) rfl, tg_p (k := 7) 11 (by decide +kernel), tg1 2 (by decide +kernel) rfl, tg3 47 (by decide +kernel) rfl⟩
abbrev M_Bk_isLongBeside : Mt := (R_Bk, y_Bk_isLongBeside, c_Bk_isLongBeside, 8, (some FieldType.boolean), { frames := 1, cells := 0, slots := 0, locals := 21 })
theorem v_Bk_lay : VI y_Bk_lay c_Bk_lay 8 (some FieldType.int) 3 := ⟨⟨by decide +kernel, by decide +kernel, by decide +kernel⟩, tg2 209 (by decide +kernel) rfl, tg2 210 (by decide +kernel) rfl, tg1 2 (by decide +kernel) rfl, tg2 211 (by decide +kernel) rfl⟩
abbrev M_Bk_lay : Mt := (R_Bk, y_Bk_lay, c_Bk_lay, 8, (some FieldType.int), { frames := 4, cells := 0, slots := 0, locals := 95 })
theorem v_Bk_leaveRest : VI y_Bk_leaveRest c_Bk_leaveRest 5 (some FieldType.boolean) 3 := ⟨⟨by decide +kernel, by decide +kernel, by decide +kernel⟩, tg3 53 (by decide +kernel) rfl, tg_p (k := 7) 12 (by decide +kernel), tg1 2 (by decide +kernel) rfl, tg3 54 (by decide +kernel) rfl⟩
abbrev M_Bk_leaveRest : Mt := (R_Bk, y_Bk_leaveRest, c_Bk_leaveRest, 5, (some FieldType.boolean), { frames := 2, cells := 0, slots := 0, locals := 45 })
theorem v_Bk_leaveRests : VI y_Bk_leaveRests c_Bk_leaveRests 7 (some FieldType.boolean) 3 := ⟨⟨by decide +kernel, by decide +kernel, by decide +kernel⟩, tg3 42 (by decide +kernel) rfl, tg_p (k := 7) 10 (by decide +kernel), tg1 2 (by decide +kernel) rfl, tg3 43 (by decide +kernel) rfl⟩
abbrev M_Bk_leaveRests : Mt := (R_Bk, y_Bk_leaveRests, c_Bk_leaveRests, 7, (some FieldType.boolean), { frames := 3, cells := 0, slots := 0, locals := 69 })
theorem v_Bk_lift : VI y_Bk_lift c_Bk_lift 8 (some FieldType.int) 1 := ⟨⟨by decide +kernel, by decide +kernel, by decide +kernel⟩, tg3 78 (by decide +kernel) rfl, tg3 79 (by decide +kernel) rfl, tg1 2 (by decide +kernel) rfl, tg3 80 (by decide +kernel) rfl⟩
abbrev M_Bk_lift : Mt := (R_Bk, y_Bk_lift, c_Bk_lift, 8, (some FieldType.int), { frames := 4, cells := 0, slots := 0, locals := 95 })
theorem v_Bk_seamPrice : VI y_Bk_seamPrice c_Bk_seamPrice 4 (some FieldType.int) 2 := ⟨⟨by decide +kernel, by decide +kernel, by decide +kernel⟩, tg3 70 (by decide +kernel) rfl, tg_p (k := 7) 13 (by decide +kernel), tg1 2 (by decide +kernel) rfl, tg3 71 (by decide +kernel) rfl⟩
abbrev M_Bk_seamPrice : Mt := (R_Bk, y_Bk_seamPrice, c_Bk_seamPrice, 4, (some FieldType.int), { frames := 2, cells := 0, slots := 0, locals := 44 })
theorem v_Bk_sellAt : VI y_Bk_sellAt c_Bk_sellAt 5 (some FieldType.int) 1 := ⟨⟨by decide +kernel, by decide +kernel, by decide +kernel⟩, tg3 94 (by decide +kernel) rfl, tg3 95 (by decide +kernel) rfl, tg1 2 (by decide +kernel) rfl, tg3 96 (by decide +kernel) rfl⟩
abbrev M_Bk_sellAt : Mt := (R_Bk, y_Bk_sellAt, c_Bk_sellAt, 5, (some FieldType.int), { frames := 2, cells := 0, slots := 0, locals := 43 })
theorem v_Bk_sufficesByWay : VI y_Bk_sufficesByWay c_Bk_sufficesByWay 4 (some FieldType.boolean) 3 := ⟨⟨by decide +kernel, by decide +kernel, by decide +kernel⟩, tg4 25 (by decide +kernel) rfl, tg_p (k := 7) 18 (by decide +kernel), tg1 2 (by decide +kernel) rfl, tg4 26 (by decide +kernel) rfl⟩
abbrev M_Bk_sufficesByWay : Mt := (R_Bk, y_Bk_sufficesByWay, c_Bk_sufficesByWay, 4, (some FieldType.boolean), { frames := 2, cells := 0, slots := 0, locals := 46 })
theorem v_Bk_sufficesFor : VI y_Bk_sufficesFor c_Bk_sufficesFor 3 (some FieldType.boolean) 2 := ⟨⟨by decide +kernel, by decide +kernel, by decide +kernel⟩, tg4 20 (by decide +kernel) rfl, tg4 21 (by decide +kernel) rfl, tg1 2 (by decide +kernel) rfl, tg4 22 (by decide +kernel) rfl⟩
abbrev M_Bk_sufficesFor : Mt := (R_Bk, y_Bk_sufficesFor, c_Bk_sufficesFor, 3, (some FieldType.boolean), { frames := 3, cells := 0, slots := 0, locals := 69 })
theorem v_Bk_takePiece : VI y_Bk_takePiece c_Bk_takePiece 7 (some FieldType.boolean) 5 := ⟨⟨by decide +kernel, by decide +kernel, by decide +kernel⟩, tg3 12 (by decide +kernel) rfl, tg_p (k := 7) 9 (by decide +kernel), tg1 2 (by decide +kernel) rfl, tg3 13 (by decide +kernel) rfl⟩
abbrev M_Bk_takePiece : Mt := (R_Bk, y_Bk_takePiece, c_Bk_takePiece, 7, (some FieldType.boolean), { frames := 3, cells := 0, slots := 0, locals := 69 })
theorem v_Bk_throwSmallOnes : VI y_Bk_throwSmallOnes c_Bk_throwSmallOnes 5 (some FieldType.int) 2 := ⟨⟨by decide +kernel, by decide +kernel, by decide +kernel⟩, tg3 111 (by decide +kernel) rfl, tg3 112 (by decide +kernel) rfl, tg1 2 (by decide +kernel) rfl, tg3 113 (by decide +kernel) rfl⟩
abbrev M_Bk_throwSmallOnes : Mt := (R_Bk, y_Bk_throwSmallOnes, c_Bk_throwSmallOnes, 5, (some FieldType.int), { frames := 3, cells := 0, slots := 0, locals := 65 })
theorem v_Cc_best : VI y_Cc_best c_Cc_best 4 (some FieldType.int) 3 := ⟨⟨by decide +kernel, by decide +kernel, by decide +kernel⟩, tg4 4 (by decide +kernel) rfl, tg4 5 (by decide +kernel) rfl, tg1 1 (by decide +kernel) rfl, tg4 6 (by decide +kernel) rfl⟩
abbrev M_Cc_best : Mt := (R_Cc, y_Cc_best, c_Cc_best, 4, (some FieldType.int), { frames := 6, cells := 0, slots := 0, locals := 150 })
theorem v_Cc_choose : VI y_Cc_choose c_Cc_choose 9 none 3 := ⟨⟨by decide +kernel, by decide +kernel, by decide +kernel⟩, tg4 9 (by decide +kernel) rfl, tg_p (k := 8) 17 (by decide +kernel), tg1 1 (by decide +kernel) rfl, tg4 10 (by decide +kernel) rfl⟩
abbrev M_Cc_choose : Mt := (R_Cc, y_Cc_choose, c_Cc_choose, 9, none, { frames := 5, cells := 0, slots := 0, locals := 122 })
theorem v_Cc_clear : VI y_Cc_clear c_Cc_clear 3 (some FieldType.int) 2 := ⟨⟨by decide +kernel, by decide +kernel, by decide +kernel⟩, tg3 99 (by decide +kernel) rfl, tg3 100 (by decide +kernel) rfl, tg1 1 (by decide +kernel) rfl, tg3 101 (by decide +kernel) rfl⟩
abbrev M_Cc_clear : Mt := (R_Cc, y_Cc_clear, c_Cc_clear, 3, (some FieldType.int), { frames := 5, cells := 0, slots := 0, locals := 111 })
theorem v_Cc_clearText : VI y_Cc_clearText c_Cc_clearText 2 (some FieldType.int) 0 := ⟨⟨by decide +kernel, by decide +kernel, by decide +kernel⟩, tg3 134 (by decide +kernel) rfl, tg3 135 (by decide +kernel) rfl, tg1 1 (by decide +kernel) rfl, tg3 136 (by decide +kernel) rfl⟩
abbrev M_Cc_clearText : Mt := (R_Cc, y_Cc_clearText, c_Cc_clearText, 2, (some FieldType.int), { frames := 0, cells := 0, slots := 0, locals := 0 })
theorem v_Cc_count : VI y_Cc_count c_Cc_count 2 (some FieldType.int) 1 := ⟨⟨by decide +kernel, by decide +kernel, by decide +kernel⟩, tg3 207 (by decide +kernel) rfl, tg3 208 (by decide +kernel) rfl, tg1 1 (by decide +kernel) rfl, tg3 209 (by decide +kernel) rfl⟩
abbrev M_Cc_count : Mt := (R_Cc, y_Cc_count, c_Cc_count, 2, (some FieldType.int), { frames := 3, cells := 0, slots := 0, locals := 68 })
theorem v_Cc_cover : VI y_Cc_cover c_Cc_cover 5 (some FieldType.int) 3 := ⟨⟨by decide +kernel, by decide +kernel, by decide +kernel⟩, tg2 193 (by decide +kernel) rfl, tg2 194 (by decide +kernel) rfl, tg1 1 (by decide +kernel) rfl, tg2 195 (by decide +kernel) rfl⟩
abbrev M_Cc_cover : Mt := (R_Cc, y_Cc_cover, c_Cc_cover, 5, (some FieldType.int), { frames := 5, cells := 0, slots := 0, locals := 122 })
theorem v_Cc_coverAll : VI y_Cc_coverAll c_Cc_coverAll 7 (some FieldType.int) 2 := ⟨⟨by decide +kernel, by decide +kernel, by decide +kernel⟩, tg4 31 (by decide +kernel) rfl, tg4 32 (by decide +kernel) rfl, tg1 1 (by decide +kernel) rfl, tg4 33 (by decide +kernel) rfl⟩
abbrev M_Cc_coverAll : Mt := (R_Cc, y_Cc_coverAll, c_Cc_coverAll, 7, (some FieldType.int), { frames := 6, cells := 0, slots := 0, locals := 150 })
theorem v_Cc_covering : VI y_Cc_covering c_Cc_covering 3 (some FieldType.int) 2 := ⟨⟨by decide +kernel, by decide +kernel, by decide +kernel⟩, tg3 192 (by decide +kernel) rfl, tg_p (k := 8) 15 (by decide +kernel), tg1 1 (by decide +kernel) rfl, tg3 193 (by decide +kernel) rfl⟩
abbrev M_Cc_covering : Mt := (R_Cc, y_Cc_covering, c_Cc_covering, 3, (some FieldType.int), { frames := 4, cells := 0, slots := 0, locals := 92 })
theorem v_Cc_fault : VI y_Cc_fault c_Cc_fault 1 (some FieldType.int) 0 := ⟨⟨by decide +kernel, by decide +kernel, by decide +kernel⟩, tg3 138 (by decide +kernel) rfl, tg3 139 (by decide +kernel) rfl, tg1 1 (by decide +kernel) rfl, tg3 140 (by decide +kernel) rfl⟩
abbrev M_Cc_fault : Mt := (R_Cc, y_Cc_fault, c_Cc_fault, 1, (some FieldType.int), { frames := 6, cells := 0, slots := 0, locals := 125 })
theorem v_Cc_ifCovered : VI y_Cc_ifCovered c_Cc_ifCovered 6 (some FieldType.int) 4 := ⟨⟨by decide +kernel, by decide +kernel, by decide +kernel⟩, tg3 234 (by decide +kernel) rfl, tg3 235 (by decide +kernel) rfl, tg1 1 (by decide +kernel) rfl, tg3 236 (by decide +kernel) rfl⟩
abbrev M_Cc_ifCovered : Mt := (R_Cc, y_Cc_ifCovered, c_Cc_ifCovered, 6, (some FieldType.int), { frames := 5, cells := 0, slots := 0, locals := 122 })
theorem v_Cc_init : VC y_Cc_init c_Cc_init 1 0 := ⟨⟨by decide +kernel, by decide +kernel, by decide +kernel⟩, tg1 16 (by decide +kernel) rfl, tg1 1 (by decide +kernel) rfl, tg1 17 (by decide +kernel) rfl, rfl⟩
abbrev M_Cc_init : Mt := (R_Cc, y_Cc_init, c_Cc_init, 1, none, { frames := 5, cells := 409, slots := 134390, locals := 102 })
theorem v_Cc_isKind : VS y_Cc_isKind c_Cc_isKind 1 (some FieldType.boolean) 1 := ⟨⟨by decide +kernel, by decide +kernel, by decide +kernel⟩, tg2 76 (by decide +kernel) rfl, tg1 1 (by decide +kernel) rfl, tg2 77 (by decide +kernel) rfl⟩
abbrev M_Cc_isKind : Mt := (R_Cc, y_Cc_isKind, c_Cc_isKind, 1, (some FieldType.boolean), { frames := 0, cells := 0, slots := 0, locals := 0 })
theorem v_Cc_isSetting : VS y_Cc_isSetting c_Cc_isSetting 2 (some FieldType.boolean) 2 := ⟨⟨by decide +kernel, by decide +kernel, by decide +kernel⟩, tg3 120 (by decide +kernel) rfl, tg1 1 (by decide +kernel) rfl, tg3 121 (by decide +kernel) rfl⟩
abbrev M_Cc_isSetting : Mt := (R_Cc, y_Cc_isSetting, c_Cc_isSetting, 2, (some FieldType.boolean), { frames := 0, cells := 0, slots := 0, locals := 0 })
theorem v_Cc_isWay : VS y_Cc_isWay c_Cc_isWay 1 (some FieldType.boolean) 1 := ⟨⟨by decide +kernel, by decide +kernel, by decide +kernel⟩, tg2 205 (by decide +kernel) rfl, tg1 1 (by decide +kernel) rfl, tg2 206 (by decide +kernel) rfl⟩
abbrev M_Cc_isWay : Mt := (R_Cc, y_Cc_isWay, c_Cc_isWay, 1, (some FieldType.boolean), { frames := 0, cells := 0, slots := 0, locals := 0 })
theorem v_Cc_keep : VI y_Cc_keep c_Cc_keep 1 (some FieldType.int) 0 := ⟨⟨by decide +kernel, by decide +kernel, by decide +kernel⟩, tg3 150 (by decide +kernel) rfl, tg3 151 (by decide +kernel) rfl, tg1 1 (by decide +kernel) rfl, tg3 152 (by decide +kernel) rfl⟩
abbrev M_Cc_keep : Mt := (R_Cc, y_Cc_keep, c_Cc_keep, 1, (some FieldType.int), { frames := 4, cells := 0, slots := 0, locals := 89 })
theorem v_Cc_offcut : VI y_Cc_offcut c_Cc_offcut 4 (some FieldType.int) 2 := ⟨⟨by decide +kernel, by decide +kernel, by decide +kernel⟩, tg3 170 (by decide +kernel) rfl, tg3 171 (by decide +kernel) rfl, tg1 1 (by decide +kernel) rfl, tg3 172 (by decide +kernel) rfl⟩
abbrev M_Cc_offcut : Mt := (R_Cc, y_Cc_offcut, c_Cc_offcut, 4, (some FieldType.int), { frames := 2, cells := 0, slots := 0, locals := 43 })
theorem v_Cc_restore : VI y_Cc_restore c_Cc_restore 1 (some FieldType.int) 0 := ⟨⟨by decide +kernel, by decide +kernel, by decide +kernel⟩, tg3 154 (by decide +kernel) rfl, tg3 155 (by decide +kernel) rfl, tg1 1 (by decide +kernel) rfl, tg3 156 (by decide +kernel) rfl⟩
abbrev M_Cc_restore : Mt := (R_Cc, y_Cc_restore, c_Cc_restore, 1, (some FieldType.int), { frames := 5, cells := 0, slots := 0, locals := 111 })
theorem v_Cc_roll : VI y_Cc_roll c_Cc_roll 5 (some FieldType.int) 4 := ⟨⟨by decide +kernel, by decide +kernel, by decide +kernel⟩, tg2 72 (by decide +kernel) rfl, tg2 73 (by decide +kernel) rfl, tg1 1 (by decide +kernel) rfl, tg2 74 (by decide +kernel) rfl⟩
abbrev M_Cc_roll : Mt := (R_Cc, y_Cc_roll, c_Cc_roll, 5, (some FieldType.int), { frames := 5, cells := 0, slots := 0, locals := 111 })
theorem v_Cc_rollOf : VI y_Cc_rollOf c_Cc_rollOf 3 (some FieldType.int) 2 := ⟨⟨by decide +kernel, by decide +kernel, by decide +kernel⟩, tg3 158 (by decide +kernel) rfl, tg3 159 (by decide +kernel) rfl, tg1 1 (by decide +kernel) rfl, tg3 160 (by decide +kernel) rfl⟩
abbrev M_Cc_rollOf : Mt := (R_Cc, y_Cc_rollOf, c_Cc_rollOf, 3, (some FieldType.int), { frames := 3, cells := 0, slots := 0, locals := 65 })
theorem v_Cc_room : VI y_Cc_room c_Cc_room 4 (some FieldType.int) 2 := ⟨⟨by decide +kernel, by decide +kernel, by decide +kernel⟩, tg3 186 (by decide +kernel) rfl, tg3 187 (by decide +kernel) rfl, tg1 1 (by decide +kernel) rfl, tg3 188 (by decide +kernel) rfl⟩
abbrev M_Cc_room : Mt := (R_Cc, y_Cc_room, c_Cc_room, 4, (some FieldType.int), { frames := 5, cells := 0, slots := 0, locals := 114 })
theorem v_Cc_rooms : VI y_Cc_rooms c_Cc_rooms 3 (some FieldType.int) 0 := ⟨⟨by decide +kernel, by decide +kernel, by decide +kernel⟩, tg2 124 (by decide +kernel) rfl, tg2 125 (by decide +kernel) rfl, tg1 1 (by decide +kernel) rfl, tg2 126 (by decide +kernel) rfl⟩
abbrev M_Cc_rooms : Mt := (R_Cc, y_Cc_rooms, c_Cc_rooms, 3, (some FieldType.int), { frames := 6, cells := 0, slots := 0, locals := 125 })
theorem v_Cc_sell : VI y_Cc_sell c_Cc_sell 3 (some FieldType.int) 1 := ⟨⟨by decide +kernel, by decide +kernel, by decide +kernel⟩, tg3 86 (by decide +kernel) rfl, tg3 87 (by decide +kernel) rfl, tg1 1 (by decide +kernel) rfl, tg3 88 (by decide +kernel) rfl⟩
abbrev M_Cc_sell : Mt := (R_Cc, y_Cc_sell, c_Cc_sell, 3, (some FieldType.int), { frames := 5, cells := 0, slots := 0, locals := 111 })
theorem v_Cc_set : VI y_Cc_set c_Cc_set 4 (some FieldType.int) 2 := ⟨⟨by decide +kernel, by decide +kernel, by decide +kernel⟩, tg3 116 (by decide +kernel) rfl, tg3 117 (by decide +kernel) rfl, tg1 1 (by decide +kernel) rfl, tg3 118 (by decide +kernel) rfl⟩
abbrev M_Cc_set : Mt := (R_Cc, y_Cc_set, c_Cc_set, 4, (some FieldType.int), { frames := 5, cells := 0, slots := 0, locals := 111 })
theorem v_Cc_setting : VI y_Cc_setting c_Cc_setting 2 (some FieldType.int) 1 := ⟨⟨by decide +kernel, by decide +kernel, by decide +kernel⟩, tg3 226 (by decide +kernel) rfl, tg_p (k := 8) 16 (by decide +kernel), tg1 1 (by decide +kernel) rfl, tg3 227 (by decide +kernel) rfl⟩
abbrev M_Cc_setting : Mt := (R_Cc, y_Cc_setting, c_Cc_setting, 2, (some FieldType.int), { frames := 1, cells := 0, slots := 0, locals := 21 })
theorem v_Cc_sorted : VI y_Cc_sorted c_Cc_sorted 3 (some FieldType.int) 1 := ⟨⟨by decide +kernel, by decide +kernel, by decide +kernel⟩, tg3 174 (by decide +kernel) rfl, tg3 175 (by decide +kernel) rfl, tg1 1 (by decide +kernel) rfl, tg3 176 (by decide +kernel) rfl⟩
abbrev M_Cc_sorted : Mt := (R_Cc, y_Cc_sorted, c_Cc_sorted, 3, (some FieldType.int), { frames := 4, cells := 0, slots := 0, locals := 89 })
theorem v_Cc_strip : VI y_Cc_strip c_Cc_strip 4 (some FieldType.int) 3 := ⟨⟨by decide +kernel, by decide +kernel, by decide +kernel⟩, tg3 197 (by decide +kernel) rfl, tg3 198 (by decide +kernel) rfl, tg1 1 (by decide +kernel) rfl, tg3 199 (by decide +kernel) rfl⟩
abbrev M_Cc_strip : Mt := (R_Cc, y_Cc_strip, c_Cc_strip, 4, (some FieldType.int), { frames := 4, cells := 0, slots := 0, locals := 95 })
theorem v_Cc_suits : VI y_Cc_suits c_Cc_suits 4 (some FieldType.int) 1 := ⟨⟨by decide +kernel, by decide +kernel, by decide +kernel⟩, tg4 16 (by decide +kernel) rfl, tg4 17 (by decide +kernel) rfl, tg1 1 (by decide +kernel) rfl, tg4 18 (by decide +kernel) rfl⟩
abbrev M_Cc_suits : Mt := (R_Cc, y_Cc_suits, c_Cc_suits, 4, (some FieldType.int), { frames := 4, cells := 0, slots := 0, locals := 91 })
theorem v_Cc_takeUp : VI y_Cc_takeUp c_Cc_takeUp 2 (some FieldType.int) 1 := ⟨⟨by decide +kernel, by decide +kernel, by decide +kernel⟩, tg3 73 (by decide +kernel) rfl, tg3 74 (by decide +kernel) rfl, tg1 1 (by decide +kernel) rfl, tg3 75 (by decide +kernel) rfl⟩
abbrev M_Cc_takeUp : Mt := (R_Cc, y_Cc_takeUp, c_Cc_takeUp, 2, (some FieldType.int), { frames := 5, cells := 0, slots := 0, locals := 122 })
theorem v_Cc_type : VI y_Cc_type c_Cc_type 2 (some FieldType.int) 1 := ⟨⟨by decide +kernel, by decide +kernel, by decide +kernel⟩, tg3 125 (by decide +kernel) rfl, tg3 126 (by decide +kernel) rfl, tg1 1 (by decide +kernel) rfl, tg3 127 (by decide +kernel) rfl⟩
abbrev M_Cc_type : Mt := (R_Cc, y_Cc_type, c_Cc_type, 2, (some FieldType.int), { frames := 2, cells := 0, slots := 0, locals := 43 })
theorem v_Cc_undo : VI y_Cc_undo c_Cc_undo 1 (some FieldType.int) 0 := ⟨⟨by decide +kernel, by decide +kernel, by decide +kernel⟩, tg3 142 (by decide +kernel) rfl, tg3 143 (by decide +kernel) rfl, tg1 1 (by decide +kernel) rfl, tg3 144 (by decide +kernel) rfl⟩
abbrev M_Cc_undo : Mt := (R_Cc, y_Cc_undo, c_Cc_undo, 1, (some FieldType.int), { frames := 5, cells := 0, slots := 0, locals := 111 })
theorem v_Cc_wasted : VI y_Cc_wasted c_Cc_wasted 3 (some FieldType.double) 1 := ⟨⟨by decide +kernel, by decide +kernel, by decide +kernel⟩, tg3 229 (by decide +kernel) rfl, tg3 230 (by decide +kernel) rfl, tg1 1 (by decide +kernel) rfl, tg3 231 (by decide +kernel) rfl⟩
abbrev M_Cc_wasted : Mt := (R_Cc, y_Cc_wasted, c_Cc_wasted, 3, (some FieldType.double), { frames := 1, cells := 0, slots := 0, locals := 21 })
theorem v_Ch_init : VC y_Ch_init c_Ch_init 1 0 := ⟨⟨by decide +kernel, by decide +kernel, by decide +kernel⟩, tg2 22 (by decide +kernel) rfl, tg1 9 (by decide +kernel) rfl, tg2 23 (by decide +kernel) rfl, rfl⟩
abbrev M_Ch_init : Mt := (R_Ch, y_Ch_init, c_Ch_init, 1, none, { frames := 1, cells := 0, slots := 0, locals := 20 })
theorem v_Ch_offer : VI y_Ch_offer c_Ch_offer 5 none 4 := ⟨⟨by decide +kernel, by decide +kernel, by decide +kernel⟩, tg4 12 (by decide +kernel) rfl, tg4 13 (by decide +kernel) rfl, tg1 9 (by decide +kernel) rfl, tg4 14 (by decide +kernel) rfl⟩
abbrev M_Ch_offer : Mt := (R_Ch, y_Ch_offer, c_Ch_offer, 5, none, { frames := 0, cells := 0, slots := 0, locals := 0 })
theorem v_Hi_init : VC y_Hi_init c_Hi_init 2 0 := ⟨⟨by decide +kernel, by decide +kernel, by decide +kernel⟩, tg1 211 (by decide +kernel) rfl, tg1 7 (by decide +kernel) rfl, tg1 212 (by decide +kernel) rfl, rfl⟩
abbrev M_Hi_init : Mt := (R_Hi, y_Hi_init, c_Hi_init, 2, none, { frames := 4, cells := 193, slots := 63580, locals := 81 })
theorem v_Hi_moveLatestTo : VI y_Hi_moveLatestTo c_Hi_moveLatestTo 3 none 1 := ⟨⟨by decide +kernel, by decide +kernel, by decide +kernel⟩, tg3 146 (by decide +kernel) rfl, tg3 147 (by decide +kernel) rfl, tg1 7 (by decide +kernel) rfl, tg3 148 (by decide +kernel) rfl⟩
abbrev M_Hi_moveLatestTo : Mt := (R_Hi, y_Hi_moveLatestTo, c_Hi_moveLatestTo, 3, none, { frames := 4, cells := 0, slots := 0, locals := 89 })
theorem v_Hi_record : VI y_Hi_record c_Hi_record 3 none 1 := ⟨⟨by decide +kernel, by decide +kernel, by decide +kernel⟩, tg2 79 (by decide +kernel) rfl, tg2 80 (by decide +kernel) rfl, tg1 7 (by decide +kernel) rfl, tg2 81 (by decide +kernel) rfl⟩
abbrev M_Hi_record : Mt := (R_Hi, y_Hi_record, c_Hi_record, 3, none, { frames := 4, cells := 0, slots := 0, locals := 89 })
theorem v_Hi_slotAt : VI y_Hi_slotAt c_Hi_slotAt 3 (some (FieldType.object "CarpetCounter$Book")) 1 := ⟨⟨by decide +kernel, by decide +kernel, by decide +kernel⟩, tg2 84 (by decide +kernel) rfl, tg_p (k := 3) 0 (by decide +kernel), tg1 7 (by decide +kernel) rfl, tg2 85 (by decide +kernel) rfl⟩
abbrev M_Hi_slotAt : Mt := (R_Hi, y_Hi_slotAt, c_Hi_slotAt, 3, (some (FieldType.object "CarpetCounter$Book")), { frames := 1, cells := 0, slots := 0, locals := 30 })
theorem v_Mo_add : VI y_Mo_add c_Mo_add 4 none 3 := ⟨⟨by decide +kernel, by decide +kernel, by decide +kernel⟩, tg4 99 (by decide +kernel) rfl, tg_p (k := 15) 20 (by decide +kernel), tg1 10 (by decide +kernel) rfl, tg4 100 (by decide +kernel) rfl⟩
abbrev M_Mo_add : Mt := (R_Mo, y_Mo_add, c_Mo_add, 4, none, { frames := 0, cells := 0, slots := 0, locals := 0 })
theorem v_Mo_addOffcut : VI y_Mo_addOffcut c_Mo_addOffcut 5 none 3 := ⟨⟨by decide +kernel, by decide +kernel, by decide +kernel⟩, tg4 220 (by decide +kernel) rfl, tg_p (k := 15) 46 (by decide +kernel), tg1 10 (by decide +kernel) rfl, tg4 221 (by decide +kernel) rfl⟩
abbrev M_Mo_addOffcut : Mt := (R_Mo, y_Mo_addOffcut, c_Mo_addOffcut, 5, none, { frames := 0, cells := 0, slots := 0, locals := 0 })
theorem v_Mo_area : VI y_Mo_area c_Mo_area 4 (some FieldType.int) 1 := ⟨⟨by decide +kernel, by decide +kernel, by decide +kernel⟩, tg4 228 (by decide +kernel) rfl, tg_p (k := 15) 48 (by decide +kernel), tg1 10 (by decide +kernel) rfl, tg4 229 (by decide +kernel) rfl⟩
abbrev M_Mo_area : Mt := (R_Mo, y_Mo_area, c_Mo_area, 4, (some FieldType.int), { frames := 1, cells := 0, slots := 0, locals := 22 })
theorem v_Mo_areaOf : VI y_Mo_areaOf c_Mo_areaOf 2 (some FieldType.int) 1 := ⟨⟨by decide +kernel, by decide +kernel, by decide +kernel⟩, tg4 201 (by decide +kernel) rfl, tg_p (k := 15) 42 (by decide +kernel), tg1 10 (by decide +kernel) rfl, tg4 202 (by decide +kernel) rfl⟩
abbrev M_Mo_areaOf : Mt := (R_Mo, y_Mo_areaOf, c_Mo_areaOf, 2, (some FieldType.int), { frames := 1, cells := 0, slots := 0, locals := 21 })
theorem v_Mo_at : VI y_Mo_at c_Mo_at 3 (some FieldType.int) 2 := ⟨⟨by decide +kernel, by decide +kernel, by decide +kernel⟩, tg4 155 (by decide +kernel) rfl, tg_p (k := 15) 32 (by decide +kernel), tg1 10 (by decide +kernel) rfl, tg4 156 (by decide +kernel) rfl⟩
abbrev M_Mo_at : Mt := (R_Mo, y_Mo_at, c_Mo_at, 3, (some FieldType.int), { frames := 0, cells := 0, slots := 0, locals := 0 })
theorem v_Mo_best : VI y_Mo_best c_Mo_best 5 (some FieldType.int) 3 := ⟨⟨by decide +kernel, by decide +kernel, by decide +kernel⟩, tg5 103 (by decide +kernel) rfl, tg5 104 (by decide +kernel) rfl, tg1 10 (by decide +kernel) rfl, tg5 105 (by decide +kernel) rfl⟩
abbrev M_Mo_best : Mt := (R_Mo, y_Mo_best, c_Mo_best, 5, (some FieldType.int), { frames := 7, cells := 0, slots := 0, locals := 187 })
theorem v_Mo_bestFor : VI y_Mo_bestFor c_Mo_bestFor 9 (some FieldType.int) 2 := ⟨⟨by decide +kernel, by decide +kernel, by decide +kernel⟩, tg5 108 (by decide +kernel) rfl, tg_p (k := 15) 58 (by decide +kernel), tg1 10 (by decide +kernel) rfl, tg5 109 (by decide +kernel) rfl⟩
abbrev M_Mo_bestFor : Mt := (R_Mo, y_Mo_bestFor, c_Mo_bestFor, 9, (some FieldType.int), { frames := 6, cells := 0, slots := 0, locals := 159 })
theorem v_Mo_check : VI y_Mo_check c_Mo_check 4 (some FieldType.int) 3 := ⟨⟨by decide +kernel, by decide +kernel, by decide +kernel⟩, tg4 135 (by decide +kernel) rfl, tg_p (k := 15) 27 (by decide +kernel), tg1 10 (by decide +kernel) rfl, tg4 136 (by decide +kernel) rfl⟩
abbrev M_Mo_check : Mt := (R_Mo, y_Mo_check, c_Mo_check, 4, (some FieldType.int), { frames := 2, cells := 0, slots := 0, locals := 43 })
theorem v_Mo_clear : VI y_Mo_clear c_Mo_clear 5 (some FieldType.int) 2 := ⟨⟨by decide +kernel, by decide +kernel, by decide +kernel⟩, tg5 19 (by decide +kernel) rfl, tg5 20 (by decide +kernel) rfl, tg1 10 (by decide +kernel) rfl, tg5 21 (by decide +kernel) rfl⟩
abbrev M_Mo_clear : Mt := (R_Mo, y_Mo_clear, c_Mo_clear, 5, (some FieldType.int), { frames := 3, cells := 0, slots := 0, locals := 66 })
theorem v_Mo_clearText : VI y_Mo_clearText c_Mo_clearText 2 (some FieldType.int) 0 := ⟨⟨by decide +kernel, by decide +kernel, by decide +kernel⟩, tg5 38 (by decide +kernel) rfl, tg5 39 (by decide +kernel) rfl, tg1 10 (by decide +kernel) rfl, tg5 40 (by decide +kernel) rfl⟩
abbrev M_Mo_clearText : Mt := (R_Mo, y_Mo_clearText, c_Mo_clearText, 2, (some FieldType.int), { frames := 0, cells := 0, slots := 0, locals := 0 })
theorem v_Mo_count : VI y_Mo_count c_Mo_count 6 (some FieldType.int) 1 := ⟨⟨by decide +kernel, by decide +kernel, by decide +kernel⟩, tg5 86 (by decide +kernel) rfl, tg5 87 (by decide +kernel) rfl, tg1 10 (by decide +kernel) rfl, tg5 88 (by decide +kernel) rfl⟩
abbrev M_Mo_count : Mt := (R_Mo, y_Mo_count, c_Mo_count, 6, (some FieldType.int), { frames := 3, cells := 0, slots := 0, locals := 68 })
theorem v_Mo_cover : VI y_Mo_cover c_Mo_cover 6 (some FieldType.int) 3 := ⟨⟨by decide +kernel, by decide +kernel, by decide +kernel⟩, tg4 130 (by decide +kernel) rfl, tg4 131 (by decide +kernel) rfl, tg1 10 (by decide +kernel) rfl, tg4 132 (by decide +kernel) rfl⟩
abbrev M_Mo_cover : Mt := (R_Mo, y_Mo_cover, c_Mo_cover, 6, (some FieldType.int), { frames := 5, cells := 0, slots := 0, locals := 129 })
theorem v_Mo_coverAll : VI y_Mo_coverAll c_Mo_coverAll 7 (some FieldType.int) 2 := ⟨⟨by decide +kernel, by decide +kernel, by decide +kernel⟩, tg5 116 (by decide +kernel) rfl, tg5 117 (by decide +kernel) rfl, tg1 10 (by decide +kernel) rfl, tg5 118 (by decide +kernel) rfl⟩
abbrev M_Mo_coverAll : Mt := (R_Mo, y_Mo_coverAll, c_Mo_coverAll, 7, (some FieldType.int), { frames := 7, cells := 0, slots := 0, locals := 187 })
theorem v_Mo_coverNow : VI y_Mo_coverNow c_Mo_coverNow 14 (some FieldType.int) 3 := ⟨⟨by decide +kernel, by decide +kernel, by decide +kernel⟩, tg4 151 (by decide +kernel) rfl, tg_p (k := 15) 31 (by decide +kernel), tg1 10 (by decide +kernel) rfl, tg4 152 (by decide +kernel) rfl⟩
abbrev M_Mo_coverNow : Mt := (R_Mo, y_Mo_coverNow, c_Mo_coverNow, 14, (some FieldType.int), { frames := 4, cells := 0, slots := 0, locals := 96 })
theorem v_Mo_cut : VI y_Mo_cut c_Mo_cut 12 (some FieldType.boolean) 5 := ⟨⟨by decide +kernel, by decide +kernel, by decide +kernel⟩, tg4 209 (by decide +kernel) rfl, tg_p (k := 15) 44 (by decide +kernel), tg1 10 (by decide +kernel) rfl, tg4 210 (by decide +kernel) rfl⟩
abbrev M_Mo_cut : Mt := (R_Mo, y_Mo_cut, c_Mo_cut, 12, (some FieldType.boolean), { frames := 3, cells := 0, slots := 0, locals := 65 })
theorem v_Mo_drop : VI y_Mo_drop c_Mo_drop 2 none 1 := ⟨⟨by decide +kernel, by decide +kernel, by decide +kernel⟩, tg4 205 (by decide +kernel) rfl, tg_p (k := 15) 43 (by decide +kernel), tg1 10 (by decide +kernel) rfl, tg4 206 (by decide +kernel) rfl⟩
abbrev M_Mo_drop : Mt := (R_Mo, y_Mo_drop, c_Mo_drop, 2, none, { frames := 0, cells := 0, slots := 0, locals := 0 })
theorem v_Mo_fault : VI y_Mo_fault c_Mo_fault 2 (some FieldType.int) 0 := ⟨⟨by decide +kernel, by decide +kernel, by decide +kernel⟩, tg5 42 (by decide +kernel) rfl, tg5 43 (by decide +kernel) rfl, tg1 10 (by decide +kernel) rfl, tg5 44 (by decide +kernel) rfl⟩
abbrev M_Mo_fault : Mt := (R_Mo, y_Mo_fault, c_Mo_fault, 2, (some FieldType.int), { frames := 5, cells := 0, slots := 0, locals := 110 })
theorem v_Mo_greater : VS y_Mo_greater c_Mo_greater 2 (some FieldType.int) 2 := ⟨⟨by decide +kernel, by decide +kernel, by decide +kernel⟩, tg4 212 (by decide +kernel) rfl, tg1 10 (by decide +kernel) rfl, tg4 213 (by decide +kernel) rfl⟩
abbrev M_Mo_greater : Mt := (R_Mo, y_Mo_greater, c_Mo_greater, 2, (some FieldType.int), { frames := 0, cells := 0, slots := 0, locals := 0 })
theorem v_Mo_ifCovered : VI y_Mo_ifCovered c_Mo_ifCovered 11 (some FieldType.int) 4 := ⟨⟨by decide +kernel, by decide +kernel, by decide +kernel⟩, tg5 99 (by decide +kernel) rfl, tg5 100 (by decide +kernel) rfl, tg1 10 (by decide +kernel) rfl, tg5 101 (by decide +kernel) rfl⟩
abbrev M_Mo_ifCovered : Mt := (R_Mo, y_Mo_ifCovered, c_Mo_ifCovered, 11, (some FieldType.int), { frames := 5, cells := 0, slots := 0, locals := 129 })
theorem v_Mo_in : VS y_Mo_in c_Mo_in 3 (some FieldType.boolean) 3 := ⟨⟨by decide +kernel, by decide +kernel, by decide +kernel⟩, tg4 91 (by decide +kernel) rfl, tg1 10 (by decide +kernel) rfl, tg4 92 (by decide +kernel) rfl⟩
abbrev M_Mo_in : Mt := (R_Mo, y_Mo_in, c_Mo_in, 3, (some FieldType.boolean), { frames := 0, cells := 0, slots := 0, locals := 0 })
theorem v_Mo_init : VC y_Mo_init c_Mo_init 1 0 := ⟨⟨by decide +kernel, by decide +kernel, by decide +kernel⟩, tg4 37 (by decide +kernel) rfl, tg1 10 (by decide +kernel) rfl, tg4 38 (by decide +kernel) rfl, rfl⟩
abbrev M_Mo_init : Mt := (R_Mo, y_Mo_init, c_Mo_init, 1, none, { frames := 1, cells := 7, slots := 54684, locals := 20 })
theorem v_Mo_isAcross : VI y_Mo_isAcross c_Mo_isAcross 3 (some FieldType.boolean) 2 := ⟨⟨by decide +kernel, by decide +kernel, by decide +kernel⟩, tg4 159 (by decide +kernel) rfl, tg_p (k := 15) 33 (by decide +kernel), tg1 10 (by decide +kernel) rfl, tg4 160 (by decide +kernel) rfl⟩
abbrev M_Mo_isAcross : Mt := (R_Mo, y_Mo_isAcross, c_Mo_isAcross, 3, (some FieldType.boolean), { frames := 1, cells := 0, slots := 0, locals := 22 })
theorem v_Mo_isBelow : VI y_Mo_isBelow c_Mo_isBelow 4 (some FieldType.boolean) 3 := ⟨⟨by decide +kernel, by decide +kernel, by decide +kernel⟩, tg5 24 (by decide +kernel) rfl, tg_p (k := 15) 54 (by decide +kernel), tg1 10 (by decide +kernel) rfl, tg5 25 (by decide +kernel) rfl⟩
abbrev M_Mo_isBelow : Mt := (R_Mo, y_Mo_isBelow, c_Mo_isBelow, 4, (some FieldType.boolean), { frames := 2, cells := 0, slots := 0, locals := 43 })
theorem v_Mo_isKept : VI y_Mo_isKept c_Mo_isKept 2 (some FieldType.boolean) 1 := ⟨⟨by decide +kernel, by decide +kernel, by decide +kernel⟩, tg4 185 (by decide +kernel) rfl, tg_p (k := 15) 38 (by decide +kernel), tg1 10 (by decide +kernel) rfl, tg4 186 (by decide +kernel) rfl⟩
abbrev M_Mo_isKept : Mt := (R_Mo, y_Mo_isKept, c_Mo_isKept, 2, (some FieldType.boolean), { frames := 1, cells := 0, slots := 0, locals := 22 })
theorem v_Mo_isNext : VI y_Mo_isNext c_Mo_isNext 3 (some FieldType.boolean) 2 := ⟨⟨by decide +kernel, by decide +kernel, by decide +kernel⟩, tg4 119 (by decide +kernel) rfl, tg_p (k := 15) 24 (by decide +kernel), tg1 10 (by decide +kernel) rfl, tg4 120 (by decide +kernel) rfl⟩
abbrev M_Mo_isNext : Mt := (R_Mo, y_Mo_isNext, c_Mo_isNext, 3, (some FieldType.boolean), { frames := 1, cells := 0, slots := 0, locals := 22 })
theorem v_Mo_isRoll : VI y_Mo_isRoll c_Mo_isRoll 2 (some FieldType.boolean) 1 := ⟨⟨by decide +kernel, by decide +kernel, by decide +kernel⟩, tg4 143 (by decide +kernel) rfl, tg_p (k := 15) 29 (by decide +kernel), tg1 10 (by decide +kernel) rfl, tg4 144 (by decide +kernel) rfl⟩
abbrev M_Mo_isRoll : Mt := (R_Mo, y_Mo_isRoll, c_Mo_isRoll, 2, (some FieldType.boolean), { frames := 1, cells := 0, slots := 0, locals := 22 })
theorem v_Mo_isRoom : VI y_Mo_isRoom c_Mo_isRoom 2 (some FieldType.boolean) 1 := ⟨⟨by decide +kernel, by decide +kernel, by decide +kernel⟩, tg4 139 (by decide +kernel) rfl, tg_p (k := 15) 28 (by decide +kernel), tg1 10 (by decide +kernel) rfl, tg4 140 (by decide +kernel) rfl⟩
abbrev M_Mo_isRoom : Mt := (R_Mo, y_Mo_isRoom, c_Mo_isRoom, 2, (some FieldType.boolean), { frames := 1, cells := 0, slots := 0, locals := 22 })
theorem v_Mo_keep : VI y_Mo_keep c_Mo_keep 2 (some FieldType.int) 0 := ⟨⟨by decide +kernel, by decide +kernel, by decide +kernel⟩, tg5 50 (by decide +kernel) rfl, tg5 51 (by decide +kernel) rfl, tg1 10 (by decide +kernel) rfl, tg5 52 (by decide +kernel) rfl⟩
abbrev M_Mo_keep : Mt := (R_Mo, y_Mo_keep, c_Mo_keep, 2, (some FieldType.int), { frames := 0, cells := 0, slots := 0, locals := 0 })
theorem v_Mo_keptOnes : VI y_Mo_keptOnes c_Mo_keptOnes 3 (some FieldType.int) 0 := ⟨⟨by decide +kernel, by decide +kernel, by decide +kernel⟩, tg4 224 (by decide +kernel) rfl, tg_p (k := 15) 47 (by decide +kernel), tg1 10 (by decide +kernel) rfl, tg4 225 (by decide +kernel) rfl⟩
abbrev M_Mo_keptOnes : Mt := (R_Mo, y_Mo_keptOnes, c_Mo_keptOnes, 3, (some FieldType.int), { frames := 2, cells := 0, slots := 0, locals := 43 })
theorem v_Mo_laid : VI y_Mo_laid c_Mo_laid 4 (some FieldType.int) 1 := ⟨⟨by decide +kernel, by decide +kernel, by decide +kernel⟩, tg5 63 (by decide +kernel) rfl, tg_p (k := 15) 55 (by decide +kernel), tg1 10 (by decide +kernel) rfl, tg5 64 (by decide +kernel) rfl⟩
abbrev M_Mo_laid : Mt := (R_Mo, y_Mo_laid, c_Mo_laid, 4, (some FieldType.int), { frames := 2, cells := 0, slots := 0, locals := 45 })
theorem v_Mo_lay : VI y_Mo_lay c_Mo_lay 2 none 0 := ⟨⟨by decide +kernel, by decide +kernel, by decide +kernel⟩, tg4 147 (by decide +kernel) rfl, tg_p (k := 15) 30 (by decide +kernel), tg1 10 (by decide +kernel) rfl, tg4 148 (by decide +kernel) rfl⟩
abbrev M_Mo_lay : Mt := (R_Mo, y_Mo_lay, c_Mo_lay, 2, none, { frames := 0, cells := 0, slots := 0, locals := 0 })
theorem v_Mo_lengthOf : VI y_Mo_lengthOf c_Mo_lengthOf 2 (some FieldType.int) 1 := ⟨⟨by decide +kernel, by decide +kernel, by decide +kernel⟩, tg4 197 (by decide +kernel) rfl, tg_p (k := 15) 41 (by decide +kernel), tg1 10 (by decide +kernel) rfl, tg4 198 (by decide +kernel) rfl⟩
abbrev M_Mo_lengthOf : Mt := (R_Mo, y_Mo_lengthOf, c_Mo_lengthOf, 2, (some FieldType.int), { frames := 0, cells := 0, slots := 0, locals := 0 })
theorem v_Mo_lengthOfStrip : VI y_Mo_lengthOfStrip c_Mo_lengthOfStrip 3 (some FieldType.int) 2 := ⟨⟨by decide +kernel, by decide +kernel, by decide +kernel⟩, tg5 12 (by decide +kernel) rfl, tg_p (k := 15) 53 (by decide +kernel), tg1 10 (by decide +kernel) rfl, tg5 13 (by decide +kernel) rfl⟩
abbrev M_Mo_lengthOfStrip : Mt := (R_Mo, y_Mo_lengthOfStrip, c_Mo_lengthOfStrip, 3, (some FieldType.int), { frames := 3, cells := 0, slots := 0, locals := 70 })
theorem v_Mo_longs : VI y_Mo_longs c_Mo_longs 4 (some FieldType.int) 3 := ⟨⟨by decide +kernel, by decide +kernel, by decide +kernel⟩, tg4 171 (by decide +kernel) rfl, tg_p (k := 15) 36 (by decide +kernel), tg1 10 (by decide +kernel) rfl, tg4 172 (by decide +kernel) rfl⟩
abbrev M_Mo_longs : Mt := (R_Mo, y_Mo_longs, c_Mo_longs, 4, (some FieldType.int), { frames := 1, cells := 0, slots := 0, locals := 22 })
theorem v_Mo_most : VS y_Mo_most c_Mo_most 1 (some FieldType.int) 1 := ⟨⟨by decide +kernel, by decide +kernel, by decide +kernel⟩, tg5 31 (by decide +kernel) rfl, tg1 10 (by decide +kernel) rfl, tg5 32 (by decide +kernel) rfl⟩
abbrev M_Mo_most : Mt := (R_Mo, y_Mo_most, c_Mo_most, 1, (some FieldType.int), { frames := 0, cells := 0, slots := 0, locals := 0 })
theorem v_Mo_of : VI y_Mo_of c_Mo_of 3 (some FieldType.int) 2 := ⟨⟨by decide +kernel, by decide +kernel, by decide +kernel⟩, tg4 163 (by decide +kernel) rfl, tg_p (k := 15) 34 (by decide +kernel), tg1 10 (by decide +kernel) rfl, tg4 164 (by decide +kernel) rfl⟩
abbrev M_Mo_of : Mt := (R_Mo, y_Mo_of, c_Mo_of, 3, (some FieldType.int), { frames := 0, cells := 0, slots := 0, locals := 0 })
theorem v_Mo_offcut : VI y_Mo_offcut c_Mo_offcut 3 (some FieldType.int) 2 := ⟨⟨by decide +kernel, by decide +kernel, by decide +kernel⟩, tg5 66 (by decide +kernel) rfl, tg5 67 (by decide +kernel) rfl, tg1 10 (by decide +kernel) rfl, tg5 68 (by decide +kernel) rfl⟩
abbrev M_Mo_offcut : Mt := (R_Mo, y_Mo_offcut, c_Mo_offcut, 3, (some FieldType.int), { frames := 2, cells := 0, slots := 0, locals := 43 })
theorem v_Mo_offcutFor : VI y_Mo_offcutFor c_Mo_offcutFor 7 (some FieldType.int) 3 := ⟨⟨by decide +kernel, by decide +kernel, by decide +kernel⟩, tg4 181 (by decide +kernel) rfl, tg_p (k := 15) 37 (by decide +kernel), tg1 10 (by decide +kernel) rfl, tg4 182 (by decide +kernel) rfl⟩
abbrev M_Mo_offcutFor : Mt := (R_Mo, y_Mo_offcutFor, c_Mo_offcutFor, 7, (some FieldType.int), { frames := 2, cells := 0, slots := 0, locals := 43 })
theorem v_Mo_put : VI y_Mo_put c_Mo_put 4 none 3 := ⟨⟨by decide +kernel, by decide +kernel, by decide +kernel⟩, tg4 127 (by decide +kernel) rfl, tg_p (k := 15) 26 (by decide +kernel), tg1 10 (by decide +kernel) rfl, tg4 128 (by decide +kernel) rfl⟩
abbrev M_Mo_put : Mt := (R_Mo, y_Mo_put, c_Mo_put, 4, none, { frames := 0, cells := 0, slots := 0, locals := 0 })
theorem v_Mo_rankOf : VI y_Mo_rankOf c_Mo_rankOf 6 (some FieldType.int) 2 := ⟨⟨by decide +kernel, by decide +kernel, by decide +kernel⟩, tg5 8 (by decide +kernel) rfl, tg_p (k := 15) 52 (by decide +kernel), tg1 10 (by decide +kernel) rfl, tg5 9 (by decide +kernel) rfl⟩
abbrev M_Mo_rankOf : Mt := (R_Mo, y_Mo_rankOf, c_Mo_rankOf, 6, (some FieldType.int), { frames := 2, cells := 0, slots := 0, locals := 45 })
theorem v_Mo_readAll : VI y_Mo_readAll c_Mo_readAll 3 (some FieldType.int) 0 := ⟨⟨by decide +kernel, by decide +kernel, by decide +kernel⟩, tg4 107 (by decide +kernel) rfl, tg_p (k := 15) 21 (by decide +kernel), tg1 10 (by decide +kernel) rfl, tg4 108 (by decide +kernel) rfl⟩
abbrev M_Mo_readAll : Mt := (R_Mo, y_Mo_readAll, c_Mo_readAll, 3, (some FieldType.int), { frames := 4, cells := 0, slots := 0, locals := 88 })
theorem v_Mo_readRoom : VI y_Mo_readRoom c_Mo_readRoom 3 (some FieldType.boolean) 0 := ⟨⟨by decide +kernel, by decide +kernel, by decide +kernel⟩, tg4 111 (by decide +kernel) rfl, tg_p (k := 15) 22 (by decide +kernel), tg1 10 (by decide +kernel) rfl, tg4 112 (by decide +kernel) rfl⟩
abbrev M_Mo_readRoom : Mt := (R_Mo, y_Mo_readRoom, c_Mo_readRoom, 3, (some FieldType.boolean), { frames := 3, cells := 0, slots := 0, locals := 66 })
theorem v_Mo_record : VI y_Mo_record c_Mo_record 2 none 0 := ⟨⟨by decide +kernel, by decide +kernel, by decide +kernel⟩, tg4 95 (by decide +kernel) rfl, tg_p (k := 15) 19 (by decide +kernel), tg1 10 (by decide +kernel) rfl, tg4 96 (by decide +kernel) rfl⟩
abbrev M_Mo_record : Mt := (R_Mo, y_Mo_record, c_Mo_record, 2, none, { frames := 0, cells := 0, slots := 0, locals := 0 })
theorem v_Mo_rest : VI y_Mo_rest c_Mo_rest 4 (some FieldType.boolean) 3 := ⟨⟨by decide +kernel, by decide +kernel, by decide +kernel⟩, tg4 216 (by decide +kernel) rfl, tg_p (k := 15) 45 (by decide +kernel), tg1 10 (by decide +kernel) rfl, tg4 217 (by decide +kernel) rfl⟩
abbrev M_Mo_rest : Mt := (R_Mo, y_Mo_rest, c_Mo_rest, 4, (some FieldType.boolean), { frames := 1, cells := 0, slots := 0, locals := 24 })
theorem v_Mo_restore : VI y_Mo_restore c_Mo_restore 2 (some FieldType.int) 0 := ⟨⟨by decide +kernel, by decide +kernel, by decide +kernel⟩, tg5 54 (by decide +kernel) rfl, tg5 55 (by decide +kernel) rfl, tg1 10 (by decide +kernel) rfl, tg5 56 (by decide +kernel) rfl⟩
abbrev M_Mo_restore : Mt := (R_Mo, y_Mo_restore, c_Mo_restore, 2, (some FieldType.int), { frames := 1, cells := 0, slots := 0, locals := 21 })
theorem v_Mo_roll : VI y_Mo_roll c_Mo_roll 6 (some FieldType.int) 4 := ⟨⟨by decide +kernel, by decide +kernel, by decide +kernel⟩, tg4 87 (by decide +kernel) rfl, tg4 88 (by decide +kernel) rfl, tg1 10 (by decide +kernel) rfl, tg4 89 (by decide +kernel) rfl⟩
abbrev M_Mo_roll : Mt := (R_Mo, y_Mo_roll, c_Mo_roll, 6, (some FieldType.int), { frames := 1, cells := 0, slots := 0, locals := 23 })
theorem v_Mo_rollOf : VI y_Mo_rollOf c_Mo_rollOf 7 (some FieldType.int) 2 := ⟨⟨by decide +kernel, by decide +kernel, by decide +kernel⟩, tg5 58 (by decide +kernel) rfl, tg5 59 (by decide +kernel) rfl, tg1 10 (by decide +kernel) rfl, tg5 60 (by decide +kernel) rfl⟩
abbrev M_Mo_rollOf : Mt := (R_Mo, y_Mo_rollOf, c_Mo_rollOf, 7, (some FieldType.int), { frames := 3, cells := 0, slots := 0, locals := 68 })
theorem v_Mo_rollOfOffcut : VI y_Mo_rollOfOffcut c_Mo_rollOfOffcut 2 (some FieldType.int) 1 := ⟨⟨by decide +kernel, by decide +kernel, by decide +kernel⟩, tg4 189 (by decide +kernel) rfl, tg_p (k := 15) 39 (by decide +kernel), tg1 10 (by decide +kernel) rfl, tg4 190 (by decide +kernel) rfl⟩
abbrev M_Mo_rollOfOffcut : Mt := (R_Mo, y_Mo_rollOfOffcut, c_Mo_rollOfOffcut, 2, (some FieldType.int), { frames := 0, cells := 0, slots := 0, locals := 0 })
theorem v_Mo_room : VI y_Mo_room c_Mo_room 4 (some FieldType.int) 2 := ⟨⟨by decide +kernel, by decide +kernel, by decide +kernel⟩, tg5 74 (by decide +kernel) rfl, tg5 75 (by decide +kernel) rfl, tg1 10 (by decide +kernel) rfl, tg5 76 (by decide +kernel) rfl⟩
abbrev M_Mo_room : Mt := (R_Mo, y_Mo_room, c_Mo_room, 4, (some FieldType.int), { frames := 3, cells := 0, slots := 0, locals := 68 })
theorem v_Mo_rooms : VI y_Mo_rooms c_Mo_rooms 4 (some FieldType.int) 0 := ⟨⟨by decide +kernel, by decide +kernel, by decide +kernel⟩, tg4 102 (by decide +kernel) rfl, tg4 103 (by decide +kernel) rfl, tg1 10 (by decide +kernel) rfl, tg4 104 (by decide +kernel) rfl⟩
abbrev M_Mo_rooms : Mt := (R_Mo, y_Mo_rooms, c_Mo_rooms, 4, (some FieldType.int), { frames := 5, cells := 0, slots := 0, locals := 110 })
theorem v_Mo_rounds : VS y_Mo_rounds c_Mo_rounds 2 (some FieldType.int) 2 := ⟨⟨by decide +kernel, by decide +kernel, by decide +kernel⟩, tg4 174 (by decide +kernel) rfl, tg1 10 (by decide +kernel) rfl, tg4 175 (by decide +kernel) rfl⟩
abbrev M_Mo_rounds : Mt := (R_Mo, y_Mo_rounds, c_Mo_rounds, 2, (some FieldType.int), { frames := 0, cells := 0, slots := 0, locals := 0 })
theorem v_Mo_seamsOf : VI y_Mo_seamsOf c_Mo_seamsOf 4 (some FieldType.int) 1 := ⟨⟨by decide +kernel, by decide +kernel, by decide +kernel⟩, tg5 79 (by decide +kernel) rfl, tg_p (k := 15) 56 (by decide +kernel), tg1 10 (by decide +kernel) rfl, tg5 80 (by decide +kernel) rfl⟩
abbrev M_Mo_seamsOf : Mt := (R_Mo, y_Mo_seamsOf, c_Mo_seamsOf, 4, (some FieldType.int), { frames := 2, cells := 0, slots := 0, locals := 45 })
theorem v_Mo_sell : VI y_Mo_sell c_Mo_sell 4 (some FieldType.int) 1 := ⟨⟨by decide +kernel, by decide +kernel, by decide +kernel⟩, tg5 15 (by decide +kernel) rfl, tg5 16 (by decide +kernel) rfl, tg1 10 (by decide +kernel) rfl, tg5 17 (by decide +kernel) rfl⟩
abbrev M_Mo_sell : Mt := (R_Mo, y_Mo_sell, c_Mo_sell, 4, (some FieldType.int), { frames := 2, cells := 0, slots := 0, locals := 43 })
theorem v_Mo_set : VI y_Mo_set c_Mo_set 4 (some FieldType.int) 2 := ⟨⟨by decide +kernel, by decide +kernel, by decide +kernel⟩, tg5 27 (by decide +kernel) rfl, tg5 28 (by decide +kernel) rfl, tg1 10 (by decide +kernel) rfl, tg5 29 (by decide +kernel) rfl⟩
abbrev M_Mo_set : Mt := (R_Mo, y_Mo_set, c_Mo_set, 4, (some FieldType.int), { frames := 1, cells := 0, slots := 0, locals := 22 })
theorem v_Mo_sign : VI y_Mo_sign c_Mo_sign 3 (some FieldType.boolean) 1 := ⟨⟨by decide +kernel, by decide +kernel, by decide +kernel⟩, tg4 123 (by decide +kernel) rfl, tg_p (k := 15) 25 (by decide +kernel), tg1 10 (by decide +kernel) rfl, tg4 124 (by decide +kernel) rfl⟩
abbrev M_Mo_sign : Mt := (R_Mo, y_Mo_sign, c_Mo_sign, 3, (some FieldType.boolean), { frames := 2, cells := 0, slots := 0, locals := 44 })
theorem v_Mo_size : VI y_Mo_size c_Mo_size 3 (some FieldType.boolean) 1 := ⟨⟨by decide +kernel, by decide +kernel, by decide +kernel⟩, tg4 115 (by decide +kernel) rfl, tg_p (k := 15) 23 (by decide +kernel), tg1 10 (by decide +kernel) rfl, tg4 116 (by decide +kernel) rfl⟩
abbrev M_Mo_size : Mt := (R_Mo, y_Mo_size, c_Mo_size, 3, (some FieldType.boolean), { frames := 2, cells := 0, slots := 0, locals := 44 })
theorem v_Mo_sorted : VI y_Mo_sorted c_Mo_sorted 5 (some FieldType.int) 1 := ⟨⟨by decide +kernel, by decide +kernel, by decide +kernel⟩, tg5 70 (by decide +kernel) rfl, tg5 71 (by decide +kernel) rfl, tg1 10 (by decide +kernel) rfl, tg5 72 (by decide +kernel) rfl⟩
abbrev M_Mo_sorted : Mt := (R_Mo, y_Mo_sorted, c_Mo_sorted, 5, (some FieldType.int), { frames := 2, cells := 0, slots := 0, locals := 43 })
theorem v_Mo_strip : VI y_Mo_strip c_Mo_strip 4 (some FieldType.int) 3 := ⟨⟨by decide +kernel, by decide +kernel, by decide +kernel⟩, tg5 82 (by decide +kernel) rfl, tg5 83 (by decide +kernel) rfl, tg1 10 (by decide +kernel) rfl, tg5 84 (by decide +kernel) rfl⟩
abbrev M_Mo_strip : Mt := (R_Mo, y_Mo_strip, c_Mo_strip, 4, (some FieldType.int), { frames := 4, cells := 0, slots := 0, locals := 93 })
theorem v_Mo_stripWidth : VS y_Mo_stripWidth c_Mo_stripWidth 4 (some FieldType.int) 3 := ⟨⟨by decide +kernel, by decide +kernel, by decide +kernel⟩, tg4 177 (by decide +kernel) rfl, tg1 10 (by decide +kernel) rfl, tg4 178 (by decide +kernel) rfl⟩
abbrev M_Mo_stripWidth : Mt := (R_Mo, y_Mo_stripWidth, c_Mo_stripWidth, 4, (some FieldType.int), { frames := 0, cells := 0, slots := 0, locals := 0 })
theorem v_Mo_stripsOf : VI y_Mo_stripsOf c_Mo_stripsOf 4 (some FieldType.int) 1 := ⟨⟨by decide +kernel, by decide +kernel, by decide +kernel⟩, tg5 0 (by decide +kernel) rfl, tg_p (k := 15) 50 (by decide +kernel), tg1 10 (by decide +kernel) rfl, tg5 1 (by decide +kernel) rfl⟩
abbrev M_Mo_stripsOf : Mt := (R_Mo, y_Mo_stripsOf, c_Mo_stripsOf, 4, (some FieldType.int), { frames := 2, cells := 0, slots := 0, locals := 45 })
theorem v_Mo_suits : VI y_Mo_suits c_Mo_suits 5 (some FieldType.int) 1 := ⟨⟨by decide +kernel, by decide +kernel, by decide +kernel⟩, tg5 112 (by decide +kernel) rfl, tg5 113 (by decide +kernel) rfl, tg1 10 (by decide +kernel) rfl, tg5 114 (by decide +kernel) rfl⟩
abbrev M_Mo_suits : Mt := (R_Mo, y_Mo_suits, c_Mo_suits, 5, (some FieldType.int), { frames := 2, cells := 0, slots := 0, locals := 45 })
theorem v_Mo_takeBack : VI y_Mo_takeBack c_Mo_takeBack 2 none 0 := ⟨⟨by decide +kernel, by decide +kernel, by decide +kernel⟩, tg4 232 (by decide +kernel) rfl, tg_p (k := 15) 49 (by decide +kernel), tg1 10 (by decide +kernel) rfl, tg4 233 (by decide +kernel) rfl⟩
abbrev M_Mo_takeBack : Mt := (R_Mo, y_Mo_takeBack, c_Mo_takeBack, 2, none, { frames := 0, cells := 0, slots := 0, locals := 0 })
theorem v_Mo_takeUp : VI y_Mo_takeUp c_Mo_takeUp 6 (some FieldType.int) 1 := ⟨⟨by decide +kernel, by decide +kernel, by decide +kernel⟩, tg4 235 (by decide +kernel) rfl, tg4 236 (by decide +kernel) rfl, tg1 10 (by decide +kernel) rfl, tg4 237 (by decide +kernel) rfl⟩
abbrev M_Mo_takeUp : Mt := (R_Mo, y_Mo_takeUp, c_Mo_takeUp, 6, (some FieldType.int), { frames := 4, cells := 0, slots := 0, locals := 93 })
theorem v_Mo_type : VI y_Mo_type c_Mo_type 2 (some FieldType.int) 1 := ⟨⟨by decide +kernel, by decide +kernel, by decide +kernel⟩, tg5 34 (by decide +kernel) rfl, tg5 35 (by decide +kernel) rfl, tg1 10 (by decide +kernel) rfl, tg5 36 (by decide +kernel) rfl⟩
abbrev M_Mo_type : Mt := (R_Mo, y_Mo_type, c_Mo_type, 2, (some FieldType.int), { frames := 0, cells := 0, slots := 0, locals := 0 })
theorem v_Mo_undo : VI y_Mo_undo c_Mo_undo 2 (some FieldType.int) 0 := ⟨⟨by decide +kernel, by decide +kernel, by decide +kernel⟩, tg5 46 (by decide +kernel) rfl, tg5 47 (by decide +kernel) rfl, tg1 10 (by decide +kernel) rfl, tg5 48 (by decide +kernel) rfl⟩
abbrev M_Mo_undo : Mt := (R_Mo, y_Mo_undo, c_Mo_undo, 2, (some FieldType.int), { frames := 0, cells := 0, slots := 0, locals := 0 })
theorem v_Mo_wasteOfAll : VI y_Mo_wasteOfAll c_Mo_wasteOfAll 3 (some FieldType.int) 0 := ⟨⟨by decide +kernel, by decide +kernel, by decide +kernel⟩, tg5 91 (by decide +kernel) rfl, tg_p (k := 15) 57 (by decide +kernel), tg1 10 (by decide +kernel) rfl, tg5 92 (by decide +kernel) rfl⟩
abbrev M_Mo_wasteOfAll : Mt := (R_Mo, y_Mo_wasteOfAll, c_Mo_wasteOfAll, 3, (some FieldType.int), { frames := 1, cells := 0, slots := 0, locals := 22 })
theorem v_Mo_wasted : VI y_Mo_wasted c_Mo_wasted 2 (some FieldType.double) 1 := ⟨⟨by decide +kernel, by decide +kernel, by decide +kernel⟩, tg5 94 (by decide +kernel) rfl, tg5 95 (by decide +kernel) rfl, tg1 10 (by decide +kernel) rfl, tg5 96 (by decide +kernel) rfl⟩
abbrev M_Mo_wasted : Mt := (R_Mo, y_Mo_wasted, c_Mo_wasted, 2, (some FieldType.double), { frames := 2, cells := 0, slots := 0, locals := 43 })
theorem v_Mo_wide : VI y_Mo_wide c_Mo_wide 4 (some FieldType.int) 3 := ⟨⟨by decide +kernel, by decide +kernel, by decide +kernel⟩, tg4 167 (by decide +kernel) rfl, tg_p (k := 15) 35 (by decide +kernel), tg1 10 (by decide +kernel) rfl, tg4 168 (by decide +kernel) rfl⟩
abbrev M_Mo_wide : Mt := (R_Mo, y_Mo_wide, c_Mo_wide, 4, (some FieldType.int), { frames := 1, cells := 0, slots := 0, locals := 22 })
theorem v_Mo_widthOf : VI y_Mo_widthOf c_Mo_widthOf 2 (some FieldType.int) 1 := ⟨⟨by decide +kernel, by decide +kernel, by decide +kernel⟩, tg4 193 (by decide +kernel) rfl, tg_p (k := 15) 40 (by decide +kernel), tg1 10 (by decide +kernel) rfl, tg4 194 (by decide +kernel) rfl⟩
abbrev M_Mo_widthOf : Mt := (R_Mo, y_Mo_widthOf, c_Mo_widthOf, 2, (some FieldType.int), { frames := 0, cells := 0, slots := 0, locals := 0 })
theorem v_Mo_widthOfStrip : VI y_Mo_widthOfStrip c_Mo_widthOfStrip 4 (some FieldType.int) 2 := ⟨⟨by decide +kernel, by decide +kernel, by decide +kernel⟩, tg5 4 (by decide +kernel) rfl, tg_p (k := 15) 51 (by decide +kernel), tg1 10 (by decide +kernel) rfl, tg5 5 (by decide +kernel) rfl⟩
abbrev M_Mo_widthOfStrip : Mt := (R_Mo, y_Mo_widthOfStrip, c_Mo_widthOfStrip, 4, (some FieldType.int), { frames := 3, cells := 0, slots := 0, locals := 70 })
theorem v_Of_append : VI y_Of_append c_Of_append 4 (some FieldType.boolean) 3 := ⟨⟨by decide +kernel, by decide +kernel, by decide +kernel⟩, tg3 56 (by decide +kernel) rfl, tg3 57 (by decide +kernel) rfl, tg1 5 (by decide +kernel) rfl, tg3 58 (by decide +kernel) rfl⟩
abbrev M_Of_append : Mt := (R_Of, y_Of_append, c_Of_append, 4, (some FieldType.boolean), { frames := 1, cells := 0, slots := 0, locals := 22 })
theorem v_Of_area : VI y_Of_area c_Of_area 2 (some FieldType.int) 1 := ⟨⟨by decide +kernel, by decide +kernel, by decide +kernel⟩, tg3 24 (by decide +kernel) rfl, tg3 25 (by decide +kernel) rfl, tg1 5 (by decide +kernel) rfl, tg3 26 (by decide +kernel) rfl⟩
abbrev M_Of_area : Mt := (R_Of, y_Of_area, c_Of_area, 2, (some FieldType.int), { frames := 1, cells := 0, slots := 0, locals := 21 })
theorem v_Of_areaOf : VI y_Of_areaOf c_Of_areaOf 4 (some FieldType.int) 1 := ⟨⟨by decide +kernel, by decide +kernel, by decide +kernel⟩, tg3 166 (by decide +kernel) rfl, tg3 167 (by decide +kernel) rfl, tg1 5 (by decide +kernel) rfl, tg3 168 (by decide +kernel) rfl⟩
abbrev M_Of_areaOf : Mt := (R_Of, y_Of_areaOf, c_Of_areaOf, 4, (some FieldType.int), { frames := 2, cells := 0, slots := 0, locals := 42 })
theorem v_Of_copyFrom : VI y_Of_copyFrom c_Of_copyFrom 2 none 1 := ⟨⟨by decide +kernel, by decide +kernel, by decide +kernel⟩, tg2 109 (by decide +kernel) rfl, tg2 110 (by decide +kernel) rfl, tg1 5 (by decide +kernel) rfl, tg2 111 (by decide +kernel) rfl⟩
abbrev M_Of_copyFrom : Mt := (R_Of, y_Of_copyFrom, c_Of_copyFrom, 2, none, { frames := 2, cells := 0, slots := 0, locals := 47 })
theorem v_Of_holds : VI y_Of_holds c_Of_holds 4 (some FieldType.boolean) 3 := ⟨⟨by decide +kernel, by decide +kernel, by decide +kernel⟩, tg3 20 (by decide +kernel) rfl, tg3 21 (by decide +kernel) rfl, tg1 5 (by decide +kernel) rfl, tg3 22 (by decide +kernel) rfl⟩
abbrev M_Of_holds : Mt := (R_Of, y_Of_holds, c_Of_holds, 4, (some FieldType.boolean), { frames := 1, cells := 0, slots := 0, locals := 21 })
theorem v_Of_init : VC y_Of_init c_Of_init 1 0 := ⟨⟨by decide +kernel, by decide +kernel, by decide +kernel⟩, tg1 92 (by decide +kernel) rfl, tg1 5 (by decide +kernel) rfl, tg1 93 (by decide +kernel) rfl, rfl⟩
abbrev M_Of_init : Mt := (R_Of, y_Of_init, c_Of_init, 1, none, { frames := 2, cells := 8, slots := 2884, locals := 41 })
theorem v_Of_isSmall : VI y_Of_isSmall c_Of_isSmall 4 (some FieldType.boolean) 3 := ⟨⟨by decide +kernel, by decide +kernel, by decide +kernel⟩, tg3 107 (by decide +kernel) rfl, tg3 108 (by decide +kernel) rfl, tg1 5 (by decide +kernel) rfl, tg3 109 (by decide +kernel) rfl⟩
abbrev M_Of_isSmall : Mt := (R_Of, y_Of_isSmall, c_Of_isSmall, 4, (some FieldType.boolean), { frames := 2, cells := 0, slots := 0, locals := 42 })
theorem v_Of_keptOf : VI y_Of_keptOf c_Of_keptOf 4 (some FieldType.int) 1 := ⟨⟨by decide +kernel, by decide +kernel, by decide +kernel⟩, tg3 162 (by decide +kernel) rfl, tg3 163 (by decide +kernel) rfl, tg1 5 (by decide +kernel) rfl, tg3 164 (by decide +kernel) rfl⟩
abbrev M_Of_keptOf : Mt := (R_Of, y_Of_keptOf, c_Of_keptOf, 4, (some FieldType.int), { frames := 1, cells := 0, slots := 0, locals := 21 })
theorem v_Of_placeByArea : VI y_Of_placeByArea c_Of_placeByArea 3 (some FieldType.int) 1 := ⟨⟨by decide +kernel, by decide +kernel, by decide +kernel⟩, tg3 178 (by decide +kernel) rfl, tg3 179 (by decide +kernel) rfl, tg1 5 (by decide +kernel) rfl, tg3 180 (by decide +kernel) rfl⟩
abbrev M_Of_placeByArea : Mt := (R_Of, y_Of_placeByArea, c_Of_placeByArea, 3, (some FieldType.int), { frames := 3, cells := 0, slots := 0, locals := 67 })
theorem v_Of_placeFor : VI y_Of_placeFor c_Of_placeFor 6 (some FieldType.int) 3 := ⟨⟨by decide +kernel, by decide +kernel, by decide +kernel⟩, tg3 15 (by decide +kernel) rfl, tg3 16 (by decide +kernel) rfl, tg1 5 (by decide +kernel) rfl, tg3 17 (by decide +kernel) rfl⟩
abbrev M_Of_placeFor : Mt := (R_Of, y_Of_placeFor, c_Of_placeFor, 6, (some FieldType.int), { frames := 2, cells := 0, slots := 0, locals := 44 })
theorem v_Of_placeOf : VI y_Of_placeOf c_Of_placeOf 3 (some FieldType.int) 1 := ⟨⟨by decide +kernel, by decide +kernel, by decide +kernel⟩, tg3 90 (by decide +kernel) rfl, tg3 91 (by decide +kernel) rfl, tg1 5 (by decide +kernel) rfl, tg3 92 (by decide +kernel) rfl⟩
abbrev M_Of_placeOf : Mt := (R_Of, y_Of_placeOf, c_Of_placeOf, 3, (some FieldType.int), { frames := 1, cells := 0, slots := 0, locals := 21 })
theorem v_Of_rankOf : VI y_Of_rankOf c_Of_rankOf 6 (some FieldType.int) 1 := ⟨⟨by decide +kernel, by decide +kernel, by decide +kernel⟩, tg3 183 (by decide +kernel) rfl, tg_p (k := 6) 14 (by decide +kernel), tg1 5 (by decide +kernel) rfl, tg3 184 (by decide +kernel) rfl⟩
abbrev M_Of_rankOf : Mt := (R_Of, y_Of_rankOf, c_Of_rankOf, 6, (some FieldType.int), { frames := 2, cells := 0, slots := 0, locals := 42 })
theorem v_Of_removeAt : VI y_Of_removeAt c_Of_removeAt 2 none 1 := ⟨⟨by decide +kernel, by decide +kernel, by decide +kernel⟩, tg3 32 (by decide +kernel) rfl, tg3 33 (by decide +kernel) rfl, tg1 5 (by decide +kernel) rfl, tg3 34 (by decide +kernel) rfl⟩
abbrev M_Of_removeAt : Mt := (R_Of, y_Of_removeAt, c_Of_removeAt, 2, none, { frames := 1, cells := 0, slots := 0, locals := 22 })
theorem v_Of_smallOnes : VI y_Of_smallOnes c_Of_smallOnes 5 (some FieldType.int) 2 := ⟨⟨by decide +kernel, by decide +kernel, by decide +kernel⟩, tg3 103 (by decide +kernel) rfl, tg3 104 (by decide +kernel) rfl, tg1 5 (by decide +kernel) rfl, tg3 105 (by decide +kernel) rfl⟩
abbrev M_Of_smallOnes : Mt := (R_Of, y_Of_smallOnes, c_Of_smallOnes, 5, (some FieldType.int), { frames := 3, cells := 0, slots := 0, locals := 65 })
theorem v_Rm_addRectangle : VI y_Rm_addRectangle c_Rm_addRectangle 4 none 2 := ⟨⟨by decide +kernel, by decide +kernel, by decide +kernel⟩, tg2 161 (by decide +kernel) rfl, tg2 162 (by decide +kernel) rfl, tg1 6 (by decide +kernel) rfl, tg2 163 (by decide +kernel) rfl⟩
abbrev M_Rm_addRectangle : Mt := (R_Rm, y_Rm_addRectangle, c_Rm_addRectangle, 4, none, { frames := 1, cells := 0, slots := 0, locals := 22 })
theorem v_Rm_appendAll : VI y_Rm_appendAll c_Rm_appendAll 7 none 1 := ⟨⟨by decide +kernel, by decide +kernel, by decide +kernel⟩, tg2 186 (by decide +kernel) rfl, tg2 187 (by decide +kernel) rfl, tg1 6 (by decide +kernel) rfl, tg2 188 (by decide +kernel) rfl⟩
abbrev M_Rm_appendAll : Mt := (R_Rm, y_Rm_appendAll, c_Rm_appendAll, 7, none, { frames := 2, cells := 0, slots := 0, locals := 45 })
theorem v_Rm_area : VI y_Rm_area c_Rm_area 5 (some FieldType.int) 1 := ⟨⟨by decide +kernel, by decide +kernel, by decide +kernel⟩, tg3 61 (by decide +kernel) rfl, tg3 62 (by decide +kernel) rfl, tg1 6 (by decide +kernel) rfl, tg3 63 (by decide +kernel) rfl⟩
abbrev M_Rm_area : Mt := (R_Rm, y_Rm_area, c_Rm_area, 5, (some FieldType.int), { frames := 1, cells := 0, slots := 0, locals := 22 })
theorem v_Rm_begin : VI y_Rm_begin c_Rm_begin 1 none 0 := ⟨⟨by decide +kernel, by decide +kernel, by decide +kernel⟩, tg2 136 (by decide +kernel) rfl, tg2 137 (by decide +kernel) rfl, tg1 6 (by decide +kernel) rfl, tg2 138 (by decide +kernel) rfl⟩
abbrev M_Rm_begin : Mt := (R_Rm, y_Rm_begin, c_Rm_begin, 1, none, { frames := 1, cells := 0, slots := 0, locals := 22 })
theorem v_Rm_cell : VI y_Rm_cell c_Rm_cell 3 (some FieldType.int) 2 := ⟨⟨by decide +kernel, by decide +kernel, by decide +kernel⟩, tg2 166 (by decide +kernel) rfl, tg2 167 (by decide +kernel) rfl, tg1 6 (by decide +kernel) rfl, tg2 168 (by decide +kernel) rfl⟩
abbrev M_Rm_cell : Mt := (R_Rm, y_Rm_cell, c_Rm_cell, 3, (some FieldType.int), { frames := 0, cells := 0, slots := 0, locals := 0 })
theorem v_Rm_copyFrom : VI y_Rm_copyFrom c_Rm_copyFrom 2 none 1 := ⟨⟨by decide +kernel, by decide +kernel, by decide +kernel⟩, tg2 114 (by decide +kernel) rfl, tg2 115 (by decide +kernel) rfl, tg1 6 (by decide +kernel) rfl, tg2 116 (by decide +kernel) rfl⟩
abbrev M_Rm_copyFrom : Mt := (R_Rm, y_Rm_copyFrom, c_Rm_copyFrom, 2, none, { frames := 2, cells := 0, slots := 0, locals := 47 })
theorem v_Rm_covered : VI y_Rm_covered c_Rm_covered 3 (some FieldType.int) 0 := ⟨⟨by decide +kernel, by decide +kernel, by decide +kernel⟩, tg3 211 (by decide +kernel) rfl, tg3 212 (by decide +kernel) rfl, tg1 6 (by decide +kernel) rfl, tg3 213 (by decide +kernel) rfl⟩
abbrev M_Rm_covered : Mt := (R_Rm, y_Rm_covered, c_Rm_covered, 3, (some FieldType.int), { frames := 2, cells := 0, slots := 0, locals := 42 })
theorem v_Rm_coveredArea : VI y_Rm_coveredArea c_Rm_coveredArea 3 (some FieldType.int) 0 := ⟨⟨by decide +kernel, by decide +kernel, by decide +kernel⟩, tg3 220 (by decide +kernel) rfl, tg3 221 (by decide +kernel) rfl, tg1 6 (by decide +kernel) rfl, tg3 222 (by decide +kernel) rfl⟩
abbrev M_Rm_coveredArea : Mt := (R_Rm, y_Rm_coveredArea, c_Rm_coveredArea, 3, (some FieldType.int), { frames := 2, cells := 0, slots := 0, locals := 46 })
theorem v_Rm_finish : VI y_Rm_finish c_Rm_finish 2 none 1 := ⟨⟨by decide +kernel, by decide +kernel, by decide +kernel⟩, tg2 178 (by decide +kernel) rfl, tg2 179 (by decide +kernel) rfl, tg1 6 (by decide +kernel) rfl, tg2 180 (by decide +kernel) rfl⟩
abbrev M_Rm_finish : Mt := (R_Rm, y_Rm_finish, c_Rm_finish, 2, none, { frames := 1, cells := 0, slots := 0, locals := 22 })
theorem v_Rm_has : VI y_Rm_has c_Rm_has 2 (some FieldType.boolean) 1 := ⟨⟨by decide +kernel, by decide +kernel, by decide +kernel⟩, tg2 197 (by decide +kernel) rfl, tg2 198 (by decide +kernel) rfl, tg1 6 (by decide +kernel) rfl, tg2 199 (by decide +kernel) rfl⟩
abbrev M_Rm_has : Mt := (R_Rm, y_Rm_has, c_Rm_has, 2, (some FieldType.boolean), { frames := 0, cells := 0, slots := 0, locals := 0 })
theorem v_Rm_init : VC y_Rm_init c_Rm_init 1 0 := ⟨⟨by decide +kernel, by decide +kernel, by decide +kernel⟩, tg1 130 (by decide +kernel) rfl, tg1 6 (by decide +kernel) rfl, tg1 131 (by decide +kernel) rfl, rfl⟩
abbrev M_Rm_init : Mt := (R_Rm, y_Rm_init, c_Rm_init, 1, none, { frames := 2, cells := 18, slots := 6489, locals := 41 })
theorem v_Rm_isAcross : VI y_Rm_isAcross c_Rm_isAcross 4 (some FieldType.boolean) 2 := ⟨⟨by decide +kernel, by decide +kernel, by decide +kernel⟩, tg2 218 (by decide +kernel) rfl, tg2 219 (by decide +kernel) rfl, tg1 6 (by decide +kernel) rfl, tg2 220 (by decide +kernel) rfl⟩
abbrev M_Rm_isAcross : Mt := (R_Rm, y_Rm_isAcross, c_Rm_isAcross, 4, (some FieldType.boolean), { frames := 1, cells := 0, slots := 0, locals := 21 })
theorem v_Rm_isCovered : VI y_Rm_isCovered c_Rm_isCovered 2 (some FieldType.boolean) 1 := ⟨⟨by decide +kernel, by decide +kernel, by decide +kernel⟩, tg2 213 (by decide +kernel) rfl, tg2 214 (by decide +kernel) rfl, tg1 6 (by decide +kernel) rfl, tg2 215 (by decide +kernel) rfl⟩
abbrev M_Rm_isCovered : Mt := (R_Rm, y_Rm_isCovered, c_Rm_isCovered, 2, (some FieldType.boolean), { frames := 1, cells := 0, slots := 0, locals := 21 })
theorem v_Rm_putBare : VI y_Rm_putBare c_Rm_putBare 2 none 1 := ⟨⟨by decide +kernel, by decide +kernel, by decide +kernel⟩, tg3 82 (by decide +kernel) rfl, tg3 83 (by decide +kernel) rfl, tg1 6 (by decide +kernel) rfl, tg3 84 (by decide +kernel) rfl⟩
abbrev M_Rm_putBare : Mt := (R_Rm, y_Rm_putBare, c_Rm_putBare, 2, none, { frames := 1, cells := 0, slots := 0, locals := 22 })
theorem v_Rm_putCovering : VI y_Rm_putCovering c_Rm_putCovering 5 none 4 := ⟨⟨by decide +kernel, by decide +kernel, by decide +kernel⟩, tg2 222 (by decide +kernel) rfl, tg2 223 (by decide +kernel) rfl, tg1 6 (by decide +kernel) rfl, tg2 224 (by decide +kernel) rfl⟩
abbrev M_Rm_putCovering : Mt := (R_Rm, y_Rm_putCovering, c_Rm_putCovering, 5, none, { frames := 1, cells := 0, slots := 0, locals := 22 })
theorem v_Rm_putSource : VI y_Rm_putSource c_Rm_putSource 4 none 3 := ⟨⟨by decide +kernel, by decide +kernel, by decide +kernel⟩, tg3 28 (by decide +kernel) rfl, tg3 29 (by decide +kernel) rfl, tg1 6 (by decide +kernel) rfl, tg3 30 (by decide +kernel) rfl⟩
abbrev M_Rm_putSource : Mt := (R_Rm, y_Rm_putSource, c_Rm_putSource, 4, none, { frames := 1, cells := 0, slots := 0, locals := 22 })
theorem v_Rm_rectangleLength : VI y_Rm_rectangleLength c_Rm_rectangleLength 5 (some FieldType.int) 3 := ⟨⟨by decide +kernel, by decide +kernel, by decide +kernel⟩, tg3 7 (by decide +kernel) rfl, tg3 8 (by decide +kernel) rfl, tg1 6 (by decide +kernel) rfl, tg3 9 (by decide +kernel) rfl⟩
abbrev M_Rm_rectangleLength : Mt := (R_Rm, y_Rm_rectangleLength, c_Rm_rectangleLength, 5, (some FieldType.int), { frames := 1, cells := 0, slots := 0, locals := 22 })
theorem v_Rm_rectangleWidth : VI y_Rm_rectangleWidth c_Rm_rectangleWidth 5 (some FieldType.int) 3 := ⟨⟨by decide +kernel, by decide +kernel, by decide +kernel⟩, tg2 234 (by decide +kernel) rfl, tg2 235 (by decide +kernel) rfl, tg1 6 (by decide +kernel) rfl, tg2 236 (by decide +kernel) rfl⟩
abbrev M_Rm_rectangleWidth : Mt := (R_Rm, y_Rm_rectangleWidth, c_Rm_rectangleWidth, 5, (some FieldType.int), { frames := 1, cells := 0, slots := 0, locals := 22 })
theorem v_Rm_seams : VI y_Rm_seams c_Rm_seams 4 (some FieldType.int) 1 := ⟨⟨by decide +kernel, by decide +kernel, by decide +kernel⟩, tg3 65 (by decide +kernel) rfl, tg3 66 (by decide +kernel) rfl, tg1 6 (by decide +kernel) rfl, tg3 67 (by decide +kernel) rfl⟩
abbrev M_Rm_seams : Mt := (R_Rm, y_Rm_seams, c_Rm_seams, 4, (some FieldType.int), { frames := 3, cells := 0, slots := 0, locals := 69 })
theorem v_Rm_source : VI y_Rm_source c_Rm_source 3 (some FieldType.int) 2 := ⟨⟨by decide +kernel, by decide +kernel, by decide +kernel⟩, tg3 203 (by decide +kernel) rfl, tg3 204 (by decide +kernel) rfl, tg1 6 (by decide +kernel) rfl, tg3 205 (by decide +kernel) rfl⟩
abbrev M_Rm_source : Mt := (R_Rm, y_Rm_source, c_Rm_source, 3, (some FieldType.int), { frames := 1, cells := 0, slots := 0, locals := 21 })
theorem v_Rm_stripLength : VI y_Rm_stripLength c_Rm_stripLength 6 (some FieldType.int) 2 := ⟨⟨by decide +kernel, by decide +kernel, by decide +kernel⟩, tg3 3 (by decide +kernel) rfl, tg3 4 (by decide +kernel) rfl, tg1 6 (by decide +kernel) rfl, tg3 5 (by decide +kernel) rfl⟩
abbrev M_Rm_stripLength : Mt := (R_Rm, y_Rm_stripLength, c_Rm_stripLength, 6, (some FieldType.int), { frames := 3, cells := 0, slots := 0, locals := 69 })
theorem v_Rm_stripWidth : VI y_Rm_stripWidth c_Rm_stripWidth 7 (some FieldType.int) 2 := ⟨⟨by decide +kernel, by decide +kernel, by decide +kernel⟩, tg2 238 (by decide +kernel) rfl, tg2 239 (by decide +kernel) rfl, tg1 6 (by decide +kernel) rfl, tg3 0 (by decide +kernel) rfl⟩
abbrev M_Rm_stripWidth : Mt := (R_Rm, y_Rm_stripWidth, c_Rm_stripWidth, 7, (some FieldType.int), { frames := 3, cells := 0, slots := 0, locals := 69 })
theorem v_Rm_strips : VI y_Rm_strips c_Rm_strips 4 (some FieldType.int) 1 := ⟨⟨by decide +kernel, by decide +kernel, by decide +kernel⟩, tg2 226 (by decide +kernel) rfl, tg2 227 (by decide +kernel) rfl, tg1 6 (by decide +kernel) rfl, tg2 228 (by decide +kernel) rfl⟩
abbrev M_Rm_strips : Mt := (R_Rm, y_Rm_strips, c_Rm_strips, 4, (some FieldType.int), { frames := 3, cells := 0, slots := 0, locals := 69 })
theorem v_Rm_stripsFromOffcuts : VI y_Rm_stripsFromOffcuts c_Rm_stripsFromOffcuts 5 (some FieldType.int) 1 := ⟨⟨by decide +kernel, by decide +kernel, by decide +kernel⟩, tg3 238 (by decide +kernel) rfl, tg3 239 (by decide +kernel) rfl, tg1 6 (by decide +kernel) rfl, tg4 0 (by decide +kernel) rfl⟩
abbrev M_Rm_stripsFromOffcuts : Mt := (R_Rm, y_Rm_stripsFromOffcuts, c_Rm_stripsFromOffcuts, 5, (some FieldType.int), { frames := 4, cells := 0, slots := 0, locals := 92 })
theorem v_Rm_stripsIn : VI y_Rm_stripsIn c_Rm_stripsIn 4 (some FieldType.int) 2 := ⟨⟨by decide +kernel, by decide +kernel, by decide +kernel⟩, tg2 231 (by decide +kernel) rfl, tg_p (k := 10) 8 (by decide +kernel), tg1 6 (by decide +kernel) rfl, tg2 232 (by decide +kernel) rfl⟩
abbrev M_Rm_stripsIn : Mt := (R_Rm, y_Rm_stripsIn, c_Rm_stripsIn, 4, (some FieldType.int), { frames := 2, cells := 0, slots := 0, locals := 46 })
theorem v_Ro_append : VI y_Ro_append c_Ro_append 6 (some FieldType.int) 4 := ⟨⟨by decide +kernel, by decide +kernel, by decide +kernel⟩, tg2 119 (by decide +kernel) rfl, tg2 120 (by decide +kernel) rfl, tg1 4 (by decide +kernel) rfl, tg2 121 (by decide +kernel) rfl⟩
abbrev M_Ro_append : Mt := (R_Ro, y_Ro_append, c_Ro_append, 6, (some FieldType.int), { frames := 1, cells := 0, slots := 0, locals := 22 })
theorem v_Ro_copyFrom : VI y_Ro_copyFrom c_Ro_copyFrom 2 none 1 := ⟨⟨by decide +kernel, by decide +kernel, by decide +kernel⟩, tg2 104 (by decide +kernel) rfl, tg2 105 (by decide +kernel) rfl, tg1 4 (by decide +kernel) rfl, tg2 106 (by decide +kernel) rfl⟩
abbrev M_Ro_copyFrom : Mt := (R_Ro, y_Ro_copyFrom, c_Ro_copyFrom, 2, none, { frames := 2, cells := 0, slots := 0, locals := 47 })
theorem v_Ro_has : VI y_Ro_has c_Ro_has 2 (some FieldType.boolean) 1 := ⟨⟨by decide +kernel, by decide +kernel, by decide +kernel⟩, tg2 201 (by decide +kernel) rfl, tg2 202 (by decide +kernel) rfl, tg1 4 (by decide +kernel) rfl, tg2 203 (by decide +kernel) rfl⟩
abbrev M_Ro_has : Mt := (R_Ro, y_Ro_has, c_Ro_has, 2, (some FieldType.boolean), { frames := 0, cells := 0, slots := 0, locals := 0 })
theorem v_Ro_init : VC y_Ro_init c_Ro_init 1 0 := ⟨⟨by decide +kernel, by decide +kernel, by decide +kernel⟩, tg1 41 (by decide +kernel) rfl, tg1 4 (by decide +kernel) rfl, tg1 42 (by decide +kernel) rfl, rfl⟩
abbrev M_Ro_init : Mt := (R_Ro, y_Ro_init, c_Ro_init, 1, none, { frames := 2, cells := 16, slots := 5768, locals := 41 })
theorem v_Rw_add : VI y_Rw_add c_Rw_add 3 none 2 := ⟨⟨by decide +kernel, by decide +kernel, by decide +kernel⟩, tg2 170 (by decide +kernel) rfl, tg2 171 (by decide +kernel) rfl, tg1 3 (by decide +kernel) rfl, tg2 172 (by decide +kernel) rfl⟩
abbrev M_Rw_add : Mt := (R_Rw, y_Rw_add, c_Rw_add, 3, none, { frames := 0, cells := 0, slots := 0, locals := 0 })
theorem v_Rw_at : VI y_Rw_at c_Rw_at 2 (some FieldType.int) 1 := ⟨⟨by decide +kernel, by decide +kernel, by decide +kernel⟩, tg2 141 (by decide +kernel) rfl, tg2 142 (by decide +kernel) rfl, tg1 3 (by decide +kernel) rfl, tg2 143 (by decide +kernel) rfl⟩
abbrev M_Rw_at : Mt := (R_Rw, y_Rw_at, c_Rw_at, 2, (some FieldType.int), { frames := 0, cells := 0, slots := 0, locals := 0 })
theorem v_Rw_copyFrom : VI y_Rw_copyFrom c_Rw_copyFrom 2 none 1 := ⟨⟨by decide +kernel, by decide +kernel, by decide +kernel⟩, tg2 94 (by decide +kernel) rfl, tg2 95 (by decide +kernel) rfl, tg1 3 (by decide +kernel) rfl, tg2 96 (by decide +kernel) rfl⟩
abbrev M_Rw_copyFrom : Mt := (R_Rw, y_Rw_copyFrom, c_Rw_copyFrom, 2, none, { frames := 1, cells := 0, slots := 0, locals := 26 })
theorem v_Rw_init : VC y_Rw_init c_Rw_init 2 1 := ⟨⟨by decide +kernel, by decide +kernel, by decide +kernel⟩, tg1 30 (by decide +kernel) rfl, tg1 3 (by decide +kernel) rfl, tg1 31 (by decide +kernel) rfl, rfl⟩
abbrev M_Rw_init : Mt := (R_Rw, y_Rw_init, c_Rw_init, 2, none, { frames := 1, cells := 1, slots := 720, locals := 20 })
theorem v_Rw_put : VI y_Rw_put c_Rw_put 3 none 2 := ⟨⟨by decide +kernel, by decide +kernel, by decide +kernel⟩, tg1 178 (by decide +kernel) rfl, tg1 179 (by decide +kernel) rfl, tg1 3 (by decide +kernel) rfl, tg1 180 (by decide +kernel) rfl⟩
abbrev M_Rw_put : Mt := (R_Rw, y_Rw_put, c_Rw_put, 3, none, { frames := 0, cells := 0, slots := 0, locals := 0 })
theorem v_Rw_removeAt : VI y_Rw_removeAt c_Rw_removeAt 3 none 1 := ⟨⟨by decide +kernel, by decide +kernel, by decide +kernel⟩, tg3 36 (by decide +kernel) rfl, tg3 37 (by decide +kernel) rfl, tg1 3 (by decide +kernel) rfl, tg3 38 (by decide +kernel) rfl⟩
abbrev M_Rw_removeAt : Mt := (R_Rw, y_Rw_removeAt, c_Rw_removeAt, 3, none, { frames := 0, cells := 0, slots := 0, locals := 0 })
theorem v_Rw_sum : VI y_Rw_sum c_Rw_sum 3 (some FieldType.int) 0 := ⟨⟨by decide +kernel, by decide +kernel, by decide +kernel⟩, tg3 216 (by decide +kernel) rfl, tg3 217 (by decide +kernel) rfl, tg1 3 (by decide +kernel) rfl, tg3 218 (by decide +kernel) rfl⟩
abbrev M_Rw_sum : Mt := (R_Rw, y_Rw_sum, c_Rw_sum, 3, (some FieldType.int), { frames := 0, cells := 0, slots := 0, locals := 0 })
theorem v_Te_append : VI y_Te_append c_Te_append 2 (some FieldType.boolean) 1 := ⟨⟨by decide +kernel, by decide +kernel, by decide +kernel⟩, tg3 129 (by decide +kernel) rfl, tg3 130 (by decide +kernel) rfl, tg1 8 (by decide +kernel) rfl, tg3 131 (by decide +kernel) rfl⟩
abbrev M_Te_append : Mt := (R_Te, y_Te_append, c_Te_append, 2, (some FieldType.boolean), { frames := 1, cells := 0, slots := 0, locals := 22 })
theorem v_Te_beginRoom : VI y_Te_beginRoom c_Te_beginRoom 1 none 0 := ⟨⟨by decide +kernel, by decide +kernel, by decide +kernel⟩, tg2 133 (by decide +kernel) rfl, tg_p (k := 6) 1 (by decide +kernel), tg1 8 (by decide +kernel) rfl, tg2 134 (by decide +kernel) rfl⟩
abbrev M_Te_beginRoom : Mt := (R_Te, y_Te_beginRoom, c_Te_beginRoom, 1, none, { frames := 2, cells := 0, slots := 0, locals := 42 })
theorem v_Te_init : VC y_Te_init c_Te_init 1 0 := ⟨⟨by decide +kernel, by decide +kernel, by decide +kernel⟩, tg1 231 (by decide +kernel) rfl, tg1 8 (by decide +kernel) rfl, tg1 232 (by decide +kernel) rfl, rfl⟩
abbrev M_Te_init : Mt := (R_Te, y_Te_init, c_Te_init, 1, none, { frames := 3, cells := 21, slots := 7220, locals := 61 })
theorem v_Te_read : VI y_Te_read c_Te_read 2 (some FieldType.int) 0 := ⟨⟨by decide +kernel, by decide +kernel, by decide +kernel⟩, tg2 128 (by decide +kernel) rfl, tg2 129 (by decide +kernel) rfl, tg1 8 (by decide +kernel) rfl, tg2 130 (by decide +kernel) rfl⟩
abbrev M_Te_read : Mt := (R_Te, y_Te_read, c_Te_read, 2, (some FieldType.int), { frames := 5, cells := 0, slots := 0, locals := 104 })
theorem v_Te_takes : VI y_Te_takes c_Te_takes 2 (some FieldType.boolean) 1 := ⟨⟨by decide +kernel, by decide +kernel, by decide +kernel⟩, tg2 146 (by decide +kernel) rfl, tg_p (k := 6) 2 (by decide +kernel), tg1 8 (by decide +kernel) rfl, tg2 147 (by decide +kernel) rfl⟩
abbrev M_Te_takes : Mt := (R_Te, y_Te_takes, c_Te_takes, 2, (some FieldType.boolean), { frames := 4, cells := 0, slots := 0, locals := 83 })
theorem v_Te_takesBehindSizes : VI y_Te_takesBehindSizes c_Te_takesBehindSizes 2 (some FieldType.boolean) 1 := ⟨⟨by decide +kernel, by decide +kernel, by decide +kernel⟩, tg2 158 (by decide +kernel) rfl, tg_p (k := 6) 5 (by decide +kernel), tg1 8 (by decide +kernel) rfl, tg2 159 (by decide +kernel) rfl⟩
abbrev M_Te_takesBehindSizes : Mt := (R_Te, y_Te_takesBehindSizes, c_Te_takesBehindSizes, 2, (some FieldType.boolean), { frames := 2, cells := 0, slots := 0, locals := 45 })
theorem v_Te_takesBetweenRooms : VI y_Te_takesBetweenRooms c_Te_takesBetweenRooms 2 (some FieldType.boolean) 1 := ⟨⟨by decide +kernel, by decide +kernel, by decide +kernel⟩, tg2 183 (by decide +kernel) rfl, tg_p (k := 6) 7 (by decide +kernel), tg1 8 (by decide +kernel) rfl, tg2 184 (by decide +kernel) rfl⟩
abbrev M_Te_takesBetweenRooms : Mt := (R_Te, y_Te_takesBetweenRooms, c_Te_takesBetweenRooms, 2, (some FieldType.boolean), { frames := 3, cells := 0, slots := 0, locals := 62 })
theorem v_Te_takesBetweenSizes : VI y_Te_takesBetweenSizes c_Te_takesBetweenSizes 2 (some FieldType.boolean) 1 := ⟨⟨by decide +kernel, by decide +kernel, by decide +kernel⟩, tg2 154 (by decide +kernel) rfl, tg_p (k := 6) 4 (by decide +kernel), tg1 8 (by decide +kernel) rfl, tg2 155 (by decide +kernel) rfl⟩
abbrev M_Te_takesBetweenSizes : Mt := (R_Te, y_Te_takesBetweenSizes, c_Te_takesBetweenSizes, 2, (some FieldType.boolean), { frames := 0, cells := 0, slots := 0, locals := 0 })
theorem v_Te_takesDigit : VI y_Te_takesDigit c_Te_takesDigit 3 (some FieldType.boolean) 1 := ⟨⟨by decide +kernel, by decide +kernel, by decide +kernel⟩, tg2 150 (by decide +kernel) rfl, tg_p (k := 6) 3 (by decide +kernel), tg1 8 (by decide +kernel) rfl, tg2 151 (by decide +kernel) rfl⟩
abbrev M_Te_takesDigit : Mt := (R_Te, y_Te_takesDigit, c_Te_takesDigit, 3, (some FieldType.boolean), { frames := 0, cells := 0, slots := 0, locals := 0 })
theorem v_Te_takesLight : VI y_Te_takesLight c_Te_takesLight 2 (some FieldType.boolean) 1 := ⟨⟨by decide +kernel, by decide +kernel, by decide +kernel⟩, tg2 175 (by decide +kernel) rfl, tg_p (k := 6) 6 (by decide +kernel), tg1 8 (by decide +kernel) rfl, tg2 176 (by decide +kernel) rfl⟩
abbrev M_Te_takesLight : Mt := (R_Te, y_Te_takesLight, c_Te_takesLight, 2, (some FieldType.boolean), { frames := 2, cells := 0, slots := 0, locals := 43 })
abbrev M_La_law : Mt := (R_La, y_La_law, c_La_law, 8, ret, room_1)
theorem j_max1 : Cond.static Lib.Math.max.name ∈ tbG := tg3 49 (by decide +kernel) rfl
theorem j_max2 : Cond.code Lib.Math.max.name Lib.Math.max.code 2 (some .int) ∈ tbG := tg3 50 (by decide +kernel) rfl
theorem j_min1 : Cond.static Lib.Math.min.name ∈ tbG := tg2 98 (by decide +kernel) rfl
theorem j_min2 : Cond.code Lib.Math.min.name Lib.Math.min.code 2 (some .int) ∈ tbG := tg2 99 (by decide +kernel) rfl
theorem j_math : Cond.initialized "java/lang/Math" ∈ tbG := tg1 11 (by decide +kernel) rfl
theorem j_sys : Cond.initialized "java/lang/System" ∈ tbG := tg1 12 (by decide +kernel) rfl
theorem j_copy1 : Cond.static arraycopyName ∈ tbG := tg2 101 (by decide +kernel) rfl
theorem j_copy2 : Cond.native arraycopyName ∈ tbG := tg2 102 (by decide +kernel) rfl
theorem j_obj1 : Cond.instanceMethod Lib.objectInit ∈ tbG := tg1 19 (by decide +kernel) rfl
theorem j_obj2 : Cond.code Lib.objectInit ⟨#[0xb1]⟩ 1 none ∈ tbG := tg1 20 (by decide +kernel) rfl
end
section
/-! calls by number of arguments and kind of end; copying a row; counting up -/
def IsObj (sh : Nat → Sh) (o : Nat) (C : String) : Prop := ∃ (ci : Nat) (fs : List (Option (Option Nat))), sh o = .inl (ci, fs) ∧ fs ≠ [] ∧ (vwCl[ci]?).map (fun q => q.1) = some C
def Pq (w : Value) (N : Option Nat) (sh : Nat → Sh) (mem : Mem) : XP := fun v N' sh' mem' => v = some w ∧ N' = N ∧ sh' = sh ∧ mem' = mem
def Rv (N : Option Nat) (sh : Nat → Sh) (P : Mem → Prop) : XP := fun v N' sh' mem' => v = none ∧ N' = N ∧ sh' = sh ∧ P mem'
def Ri (N : Option Nat) (sh : Nat → Sh) (P : Int32 → Mem → Prop) : XP := fun v N' sh' mem' => ∃ r : Int32, v = some (.int r) ∧ N' = N ∧ sh' = sh ∧ P r mem'
theorem up_ind {P : Nat → Prop} (K : Nat) (h : ∀ i, i ≤ K → (i < K → P (i + 1)) → P i) : ∀ i, i ≤ K → P i := by
  have key : ∀ k i, i + k = K → P i := by
    intro k
    induction k with
    | zero => intro i hi; exact h i (by omega) (fun q => absurd q (by omega))
    | succ k ih => intro i hi; exact h i (by omega) (fun _ => ih (i + 1) (by omega))
  intro i hi
  exact key (K - i) i (by omega)
section XK
variable {l : Launch} {g : XG} {M M' : Mt} {F : XFin} {pc : Nat} {L : List (Option Value)} {rest : List Value} {N : Option Nat} {sh : Nat → Sh} {mem : Mem} {c n idx : Nat}
theorem x_v0p {o : Nat} {w : Value} (hdg : decode M.2.2.1 pc = .ok (.invokevirtual idx, 3)) (hl : Cond.methodLink M.1 idx M'.2.1 ∈ tbG) (hv : VI M'.2.1 M'.2.2.1 M'.2.2.2.1 M'.2.2.2.2.1 0) (hR : roomB M M' c n = true) (h0 : M'.2.2.2.2.2.cells = 0 ∧ M'.2.2.2.2.2.slots = 0) (ho : IsObj sh o M'.2.1.cls) (hw : (rest.map fun v => v.category).sum ≤ 8) (hc : Ct l g M' [rf g o] N sh mem (Pq w N sh mem)) (kk : X l g M F (pc + 3) L (w :: rest) N sh mem c n) : X l g M F pc L (rf g o :: rest) N sh mem c n := by
  obtain ⟨ci, fs, h1, h2, h3⟩ := ho
  refine x_callV (As := []) hdg hl hv hR h1 h2 h3 rfl hw hc ?_
  intro v N' sh' mem' hq
  obtain ⟨rfl, rfl, rfl, rfl⟩ := hq
  rw [h0.1, h0.2]
  exact kk
theorem x_v0i {o : Nat} {P : Int32 → Mem → Prop} (hdg : decode M.2.2.1 pc = .ok (.invokevirtual idx, 3)) (hl : Cond.methodLink M.1 idx M'.2.1 ∈ tbG) (hv : VI M'.2.1 M'.2.2.1 M'.2.2.2.1 M'.2.2.2.2.1 0) (hR : roomB M M' c n = true) (h0 : M'.2.2.2.2.2.cells = 0 ∧ M'.2.2.2.2.2.slots = 0) (ho : IsObj sh o M'.2.1.cls) (hw : (rest.map fun v => v.category).sum ≤ 8) (hc : Ct l g M' [rf g o] N sh mem (Ri N sh P)) (kk : ∀ (r : Int32) (mem' : Mem), P r mem' → X l g M F (pc + 3) L (.int r :: rest) N sh mem' c n) : X l g M F pc L (rf g o :: rest) N sh mem c n := by
  obtain ⟨ci, fs, h1, h2, h3⟩ := ho
  refine x_callV (As := []) hdg hl hv hR h1 h2 h3 rfl hw hc ?_
  intro v N' sh' mem' hq
  obtain ⟨r, rfl, rfl, rfl, hq⟩ := hq
  rw [h0.1, h0.2]
  exact kk r mem' hq
theorem x_v0v {o : Nat} {P : Mem → Prop} (hdg : decode M.2.2.1 pc = .ok (.invokevirtual idx, 3)) (hl : Cond.methodLink M.1 idx M'.2.1 ∈ tbG) (hv : VI M'.2.1 M'.2.2.1 M'.2.2.2.1 M'.2.2.2.2.1 0) (hR : roomB M M' c n = true) (h0 : M'.2.2.2.2.2.cells = 0 ∧ M'.2.2.2.2.2.slots = 0) (ho : IsObj sh o M'.2.1.cls) (hw : (rest.map fun v => v.category).sum ≤ 8) (hc : Ct l g M' [rf g o] N sh mem (Rv N sh P)) (kk : ∀ mem' : Mem, P mem' → X l g M F (pc + 3) L rest N sh mem' c n) : X l g M F pc L (rf g o :: rest) N sh mem c n := by
  obtain ⟨ci, fs, h1, h2, h3⟩ := ho
  refine x_callV (As := []) hdg hl hv hR h1 h2 h3 rfl hw hc ?_
  intro v N' sh' mem' hq
  obtain ⟨rfl, rfl, rfl, hq⟩ := hq
  rw [h0.1, h0.2]
  exact kk mem' hq
theorem x_v1p {o : Nat} {a1 : Value} {w : Value} (hdg : decode M.2.2.1 pc = .ok (.invokevirtual idx, 3)) (hl : Cond.methodLink M.1 idx M'.2.1 ∈ tbG) (hv : VI M'.2.1 M'.2.2.1 M'.2.2.2.1 M'.2.2.2.2.1 1) (hR : roomB M M' c n = true) (h0 : M'.2.2.2.2.2.cells = 0 ∧ M'.2.2.2.2.2.slots = 0) (ho : IsObj sh o M'.2.1.cls) (hw : (rest.map fun v => v.category).sum ≤ 8) (hc : Ct l g M' [rf g o, a1] N sh mem (Pq w N sh mem)) (kk : X l g M F (pc + 3) L (w :: rest) N sh mem c n) : X l g M F pc L (a1 :: rf g o :: rest) N sh mem c n := by
  obtain ⟨ci, fs, h1, h2, h3⟩ := ho
  refine x_callV (As := [a1]) hdg hl hv hR h1 h2 h3 rfl hw hc ?_
  intro v N' sh' mem' hq
  obtain ⟨rfl, rfl, rfl, rfl⟩ := hq
  rw [h0.1, h0.2]
  exact kk
theorem x_s1p {a1 : Value} {w : Value} (hdg : decode M.2.2.1 pc = .ok (.invokestatic idx, 3)) (hl : Cond.methodLink M.1 idx M'.2.1 ∈ tbG) (hv : VS M'.2.1 M'.2.2.1 M'.2.2.2.1 M'.2.2.2.2.1 1) (hR : roomB M M' c n = true) (h0 : M'.2.2.2.2.2.cells = 0 ∧ M'.2.2.2.2.2.slots = 0) (hown : M'.2.1.cls = M.1) (hw : (rest.map fun v => v.category).sum ≤ 8) (hc : Ct l g M' [a1] N sh mem (Pq w N sh mem)) (kk : X l g M F (pc + 3) L (w :: rest) N sh mem c n) : X l g M F pc L (a1 :: rest) N sh mem c n := by
  refine x_callS (As := [a1]) hdg hl hv hR hown rfl hw hc ?_
  intro v N' sh' mem' hq
  obtain ⟨rfl, rfl, rfl, rfl⟩ := hq
  rw [h0.1, h0.2]
  exact kk
theorem x_v1i {o : Nat} {a1 : Value} {P : Int32 → Mem → Prop} (hdg : decode M.2.2.1 pc = .ok (.invokevirtual idx, 3)) (hl : Cond.methodLink M.1 idx M'.2.1 ∈ tbG) (hv : VI M'.2.1 M'.2.2.1 M'.2.2.2.1 M'.2.2.2.2.1 1) (hR : roomB M M' c n = true) (h0 : M'.2.2.2.2.2.cells = 0 ∧ M'.2.2.2.2.2.slots = 0) (ho : IsObj sh o M'.2.1.cls) (hw : (rest.map fun v => v.category).sum ≤ 8) (hc : Ct l g M' [rf g o, a1] N sh mem (Ri N sh P)) (kk : ∀ (r : Int32) (mem' : Mem), P r mem' → X l g M F (pc + 3) L (.int r :: rest) N sh mem' c n) : X l g M F pc L (a1 :: rf g o :: rest) N sh mem c n := by
  obtain ⟨ci, fs, h1, h2, h3⟩ := ho
  refine x_callV (As := [a1]) hdg hl hv hR h1 h2 h3 rfl hw hc ?_
  intro v N' sh' mem' hq
  obtain ⟨r, rfl, rfl, rfl, hq⟩ := hq
  rw [h0.1, h0.2]
  exact kk r mem' hq
theorem x_s1i {a1 : Value} {P : Int32 → Mem → Prop} (hdg : decode M.2.2.1 pc = .ok (.invokestatic idx, 3)) (hl : Cond.methodLink M.1 idx M'.2.1 ∈ tbG) (hv : VS M'.2.1 M'.2.2.1 M'.2.2.2.1 M'.2.2.2.2.1 1) (hR : roomB M M' c n = true) (h0 : M'.2.2.2.2.2.cells = 0 ∧ M'.2.2.2.2.2.slots = 0) (hown : M'.2.1.cls = M.1) (hw : (rest.map fun v => v.category).sum ≤ 8) (hc : Ct l g M' [a1] N sh mem (Ri N sh P)) (kk : ∀ (r : Int32) (mem' : Mem), P r mem' → X l g M F (pc + 3) L (.int r :: rest) N sh mem' c n) : X l g M F pc L (a1 :: rest) N sh mem c n := by
  refine x_callS (As := [a1]) hdg hl hv hR hown rfl hw hc ?_
  intro v N' sh' mem' hq
  obtain ⟨r, rfl, rfl, rfl, hq⟩ := hq
  rw [h0.1, h0.2]
  exact kk r mem' hq
theorem x_v1v {o : Nat} {a1 : Value} {P : Mem → Prop} (hdg : decode M.2.2.1 pc = .ok (.invokevirtual idx, 3)) (hl : Cond.methodLink M.1 idx M'.2.1 ∈ tbG) (hv : VI M'.2.1 M'.2.2.1 M'.2.2.2.1 M'.2.2.2.2.1 1) (hR : roomB M M' c n = true) (h0 : M'.2.2.2.2.2.cells = 0 ∧ M'.2.2.2.2.2.slots = 0) (ho : IsObj sh o M'.2.1.cls) (hw : (rest.map fun v => v.category).sum ≤ 8) (hc : Ct l g M' [rf g o, a1] N sh mem (Rv N sh P)) (kk : ∀ mem' : Mem, P mem' → X l g M F (pc + 3) L rest N sh mem' c n) : X l g M F pc L (a1 :: rf g o :: rest) N sh mem c n := by
  obtain ⟨ci, fs, h1, h2, h3⟩ := ho
  refine x_callV (As := [a1]) hdg hl hv hR h1 h2 h3 rfl hw hc ?_
  intro v N' sh' mem' hq
  obtain ⟨rfl, rfl, rfl, hq⟩ := hq
  rw [h0.1, h0.2]
  exact kk mem' hq
theorem x_s1v {a1 : Value} {P : Mem → Prop} (hdg : decode M.2.2.1 pc = .ok (.invokestatic idx, 3)) (hl : Cond.methodLink M.1 idx M'.2.1 ∈ tbG) (hv : VS M'.2.1 M'.2.2.1 M'.2.2.2.1 M'.2.2.2.2.1 1) (hR : roomB M M' c n = true) (h0 : M'.2.2.2.2.2.cells = 0 ∧ M'.2.2.2.2.2.slots = 0) (hown : M'.2.1.cls = M.1) (hw : (rest.map fun v => v.category).sum ≤ 8) (hc : Ct l g M' [a1] N sh mem (Rv N sh P)) (kk : ∀ mem' : Mem, P mem' → X l g M F (pc + 3) L rest N sh mem' c n) : X l g M F pc L (a1 :: rest) N sh mem c n := by
  refine x_callS (As := [a1]) hdg hl hv hR hown rfl hw hc ?_
  intro v N' sh' mem' hq
  obtain ⟨rfl, rfl, rfl, hq⟩ := hq
  rw [h0.1, h0.2]
  exact kk mem' hq
theorem x_v2p {o : Nat} {a1 a2 : Value} {w : Value} (hdg : decode M.2.2.1 pc = .ok (.invokevirtual idx, 3)) (hl : Cond.methodLink M.1 idx M'.2.1 ∈ tbG) (hv : VI M'.2.1 M'.2.2.1 M'.2.2.2.1 M'.2.2.2.2.1 2) (hR : roomB M M' c n = true) (h0 : M'.2.2.2.2.2.cells = 0 ∧ M'.2.2.2.2.2.slots = 0) (ho : IsObj sh o M'.2.1.cls) (hw : (rest.map fun v => v.category).sum ≤ 8) (hc : Ct l g M' [rf g o, a1, a2] N sh mem (Pq w N sh mem)) (kk : X l g M F (pc + 3) L (w :: rest) N sh mem c n) : X l g M F pc L (a2 :: a1 :: rf g o :: rest) N sh mem c n := by
  obtain ⟨ci, fs, h1, h2, h3⟩ := ho
  refine x_callV (As := [a1, a2]) hdg hl hv hR h1 h2 h3 rfl hw hc ?_
  intro v N' sh' mem' hq
  obtain ⟨rfl, rfl, rfl, rfl⟩ := hq
  rw [h0.1, h0.2]
  exact kk
theorem x_s2p {a1 a2 : Value} {w : Value} (hdg : decode M.2.2.1 pc = .ok (.invokestatic idx, 3)) (hl : Cond.methodLink M.1 idx M'.2.1 ∈ tbG) (hv : VS M'.2.1 M'.2.2.1 M'.2.2.2.1 M'.2.2.2.2.1 2) (hR : roomB M M' c n = true) (h0 : M'.2.2.2.2.2.cells = 0 ∧ M'.2.2.2.2.2.slots = 0) (hown : M'.2.1.cls = M.1) (hw : (rest.map fun v => v.category).sum ≤ 8) (hc : Ct l g M' [a1, a2] N sh mem (Pq w N sh mem)) (kk : X l g M F (pc + 3) L (w :: rest) N sh mem c n) : X l g M F pc L (a2 :: a1 :: rest) N sh mem c n := by
  refine x_callS (As := [a1, a2]) hdg hl hv hR hown rfl hw hc ?_
  intro v N' sh' mem' hq
  obtain ⟨rfl, rfl, rfl, rfl⟩ := hq
  rw [h0.1, h0.2]
  exact kk
theorem x_v2i {o : Nat} {a1 a2 : Value} {P : Int32 → Mem → Prop} (hdg : decode M.2.2.1 pc = .ok (.invokevirtual idx, 3)) (hl : Cond.methodLink M.1 idx M'.2.1 ∈ tbG) (hv : VI M'.2.1 M'.2.2.1 M'.2.2.2.1 M'.2.2.2.2.1 2) (hR : roomB M M' c n = true) (h0 : M'.2.2.2.2.2.cells = 0 ∧ M'.2.2.2.2.2.slots = 0) (ho : IsObj sh o M'.2.1.cls) (hw : (rest.map fun v => v.category).sum ≤ 8) (hc : Ct l g M' [rf g o, a1, a2] N sh mem (Ri N sh P)) (kk : ∀ (r : Int32) (mem' : Mem), P r mem' → X l g M F (pc + 3) L (.int r :: rest) N sh mem' c n) : X l g M F pc L (a2 :: a1 :: rf g o :: rest) N sh mem c n := by
  obtain ⟨ci, fs, h1, h2, h3⟩ := ho
  refine x_callV (As := [a1, a2]) hdg hl hv hR h1 h2 h3 rfl hw hc ?_
  intro v N' sh' mem' hq
  obtain ⟨r, rfl, rfl, rfl, hq⟩ := hq
  rw [h0.1, h0.2]
  exact kk r mem' hq
theorem x_s2i {a1 a2 : Value} {P : Int32 → Mem → Prop} (hdg : decode M.2.2.1 pc = .ok (.invokestatic idx, 3)) (hl : Cond.methodLink M.1 idx M'.2.1 ∈ tbG) (hv : VS M'.2.1 M'.2.2.1 M'.2.2.2.1 M'.2.2.2.2.1 2) (hR : roomB M M' c n = true) (h0 : M'.2.2.2.2.2.cells = 0 ∧ M'.2.2.2.2.2.slots = 0) (hown : M'.2.1.cls = M.1) (hw : (rest.map fun v => v.category).sum ≤ 8) (hc : Ct l g M' [a1, a2] N sh mem (Ri N sh P)) (kk : ∀ (r : Int32) (mem' : Mem), P r mem' → X l g M F (pc + 3) L (.int r :: rest) N sh mem' c n) : X l g M F pc L (a2 :: a1 :: rest) N sh mem c n := by
  refine x_callS (As := [a1, a2]) hdg hl hv hR hown rfl hw hc ?_
  intro v N' sh' mem' hq
  obtain ⟨r, rfl, rfl, rfl, hq⟩ := hq
  rw [h0.1, h0.2]
  exact kk r mem' hq
theorem x_v2v {o : Nat} {a1 a2 : Value} {P : Mem → Prop} (hdg : decode M.2.2.1 pc = .ok (.invokevirtual idx, 3)) (hl : Cond.methodLink M.1 idx M'.2.1 ∈ tbG) (hv : VI M'.2.1 M'.2.2.1 M'.2.2.2.1 M'.2.2.2.2.1 2) (hR : roomB M M' c n = true) (h0 : M'.2.2.2.2.2.cells = 0 ∧ M'.2.2.2.2.2.slots = 0) (ho : IsObj sh o M'.2.1.cls) (hw : (rest.map fun v => v.category).sum ≤ 8) (hc : Ct l g M' [rf g o, a1, a2] N sh mem (Rv N sh P)) (kk : ∀ mem' : Mem, P mem' → X l g M F (pc + 3) L rest N sh mem' c n) : X l g M F pc L (a2 :: a1 :: rf g o :: rest) N sh mem c n := by
  obtain ⟨ci, fs, h1, h2, h3⟩ := ho
  refine x_callV (As := [a1, a2]) hdg hl hv hR h1 h2 h3 rfl hw hc ?_
  intro v N' sh' mem' hq
  obtain ⟨rfl, rfl, rfl, hq⟩ := hq
  rw [h0.1, h0.2]
  exact kk mem' hq
theorem x_s2v {a1 a2 : Value} {P : Mem → Prop} (hdg : decode M.2.2.1 pc = .ok (.invokestatic idx, 3)) (hl : Cond.methodLink M.1 idx M'.2.1 ∈ tbG) (hv : VS M'.2.1 M'.2.2.1 M'.2.2.2.1 M'.2.2.2.2.1 2) (hR : roomB M M' c n = true) (h0 : M'.2.2.2.2.2.cells = 0 ∧ M'.2.2.2.2.2.slots = 0) (hown : M'.2.1.cls = M.1) (hw : (rest.map fun v => v.category).sum ≤ 8) (hc : Ct l g M' [a1, a2] N sh mem (Rv N sh P)) (kk : ∀ mem' : Mem, P mem' → X l g M F (pc + 3) L rest N sh mem' c n) : X l g M F pc L (a2 :: a1 :: rest) N sh mem c n := by
  refine x_callS (As := [a1, a2]) hdg hl hv hR hown rfl hw hc ?_
  intro v N' sh' mem' hq
  obtain ⟨rfl, rfl, rfl, hq⟩ := hq
  rw [h0.1, h0.2]
  exact kk mem' hq
theorem x_v3p {o : Nat} {a1 a2 a3 : Value} {w : Value} (hdg : decode M.2.2.1 pc = .ok (.invokevirtual idx, 3)) (hl : Cond.methodLink M.1 idx M'.2.1 ∈ tbG) (hv : VI M'.2.1 M'.2.2.1 M'.2.2.2.1 M'.2.2.2.2.1 3) (hR : roomB M M' c n = true) (h0 : M'.2.2.2.2.2.cells = 0 ∧ M'.2.2.2.2.2.slots = 0) (ho : IsObj sh o M'.2.1.cls) (hw : (rest.map fun v => v.category).sum ≤ 8) (hc : Ct l g M' [rf g o, a1, a2, a3] N sh mem (Pq w N sh mem)) (kk : X l g M F (pc + 3) L (w :: rest) N sh mem c n) : X l g M F pc L (a3 :: a2 :: a1 :: rf g o :: rest) N sh mem c n := by
  obtain ⟨ci, fs, h1, h2, h3⟩ := ho
  refine x_callV (As := [a1, a2, a3]) hdg hl hv hR h1 h2 h3 rfl hw hc ?_
  intro v N' sh' mem' hq
  obtain ⟨rfl, rfl, rfl, rfl⟩ := hq
  rw [h0.1, h0.2]
  exact kk
theorem x_s3p {a1 a2 a3 : Value} {w : Value} (hdg : decode M.2.2.1 pc = .ok (.invokestatic idx, 3)) (hl : Cond.methodLink M.1 idx M'.2.1 ∈ tbG) (hv : VS M'.2.1 M'.2.2.1 M'.2.2.2.1 M'.2.2.2.2.1 3) (hR : roomB M M' c n = true) (h0 : M'.2.2.2.2.2.cells = 0 ∧ M'.2.2.2.2.2.slots = 0) (hown : M'.2.1.cls = M.1) (hw : (rest.map fun v => v.category).sum ≤ 8) (hc : Ct l g M' [a1, a2, a3] N sh mem (Pq w N sh mem)) (kk : X l g M F (pc + 3) L (w :: rest) N sh mem c n) : X l g M F pc L (a3 :: a2 :: a1 :: rest) N sh mem c n := by
  refine x_callS (As := [a1, a2, a3]) hdg hl hv hR hown rfl hw hc ?_
  intro v N' sh' mem' hq
  obtain ⟨rfl, rfl, rfl, rfl⟩ := hq
  rw [h0.1, h0.2]
  exact kk
theorem x_v3i {o : Nat} {a1 a2 a3 : Value} {P : Int32 → Mem → Prop} (hdg : decode M.2.2.1 pc = .ok (.invokevirtual idx, 3)) (hl : Cond.methodLink M.1 idx M'.2.1 ∈ tbG) (hv : VI M'.2.1 M'.2.2.1 M'.2.2.2.1 M'.2.2.2.2.1 3) (hR : roomB M M' c n = true) (h0 : M'.2.2.2.2.2.cells = 0 ∧ M'.2.2.2.2.2.slots = 0) (ho : IsObj sh o M'.2.1.cls) (hw : (rest.map fun v => v.category).sum ≤ 8) (hc : Ct l g M' [rf g o, a1, a2, a3] N sh mem (Ri N sh P)) (kk : ∀ (r : Int32) (mem' : Mem), P r mem' → X l g M F (pc + 3) L (.int r :: rest) N sh mem' c n) : X l g M F pc L (a3 :: a2 :: a1 :: rf g o :: rest) N sh mem c n := by
  obtain ⟨ci, fs, h1, h2, h3⟩ := ho
  refine x_callV (As := [a1, a2, a3]) hdg hl hv hR h1 h2 h3 rfl hw hc ?_
  intro v N' sh' mem' hq
  obtain ⟨r, rfl, rfl, rfl, hq⟩ := hq
  rw [h0.1, h0.2]
  exact kk r mem' hq
theorem x_s3i {a1 a2 a3 : Value} {P : Int32 → Mem → Prop} (hdg : decode M.2.2.1 pc = .ok (.invokestatic idx, 3)) (hl : Cond.methodLink M.1 idx M'.2.1 ∈ tbG) (hv : VS M'.2.1 M'.2.2.1 M'.2.2.2.1 M'.2.2.2.2.1 3) (hR : roomB M M' c n = true) (h0 : M'.2.2.2.2.2.cells = 0 ∧ M'.2.2.2.2.2.slots = 0) (hown : M'.2.1.cls = M.1) (hw : (rest.map fun v => v.category).sum ≤ 8) (hc : Ct l g M' [a1, a2, a3] N sh mem (Ri N sh P)) (kk : ∀ (r : Int32) (mem' : Mem), P r mem' → X l g M F (pc + 3) L (.int r :: rest) N sh mem' c n) : X l g M F pc L (a3 :: a2 :: a1 :: rest) N sh mem c n := by
  refine x_callS (As := [a1, a2, a3]) hdg hl hv hR hown rfl hw hc ?_
  intro v N' sh' mem' hq
  obtain ⟨r, rfl, rfl, rfl, hq⟩ := hq
  rw [h0.1, h0.2]
  exact kk r mem' hq
theorem x_v3v {o : Nat} {a1 a2 a3 : Value} {P : Mem → Prop} (hdg : decode M.2.2.1 pc = .ok (.invokevirtual idx, 3)) (hl : Cond.methodLink M.1 idx M'.2.1 ∈ tbG) (hv : VI M'.2.1 M'.2.2.1 M'.2.2.2.1 M'.2.2.2.2.1 3) (hR : roomB M M' c n = true) (h0 : M'.2.2.2.2.2.cells = 0 ∧ M'.2.2.2.2.2.slots = 0) (ho : IsObj sh o M'.2.1.cls) (hw : (rest.map fun v => v.category).sum ≤ 8) (hc : Ct l g M' [rf g o, a1, a2, a3] N sh mem (Rv N sh P)) (kk : ∀ mem' : Mem, P mem' → X l g M F (pc + 3) L rest N sh mem' c n) : X l g M F pc L (a3 :: a2 :: a1 :: rf g o :: rest) N sh mem c n := by
  obtain ⟨ci, fs, h1, h2, h3⟩ := ho
  refine x_callV (As := [a1, a2, a3]) hdg hl hv hR h1 h2 h3 rfl hw hc ?_
  intro v N' sh' mem' hq
  obtain ⟨rfl, rfl, rfl, hq⟩ := hq
  rw [h0.1, h0.2]
  exact kk mem' hq
theorem x_s3v {a1 a2 a3 : Value} {P : Mem → Prop} (hdg : decode M.2.2.1 pc = .ok (.invokestatic idx, 3)) (hl : Cond.methodLink M.1 idx M'.2.1 ∈ tbG) (hv : VS M'.2.1 M'.2.2.1 M'.2.2.2.1 M'.2.2.2.2.1 3) (hR : roomB M M' c n = true) (h0 : M'.2.2.2.2.2.cells = 0 ∧ M'.2.2.2.2.2.slots = 0) (hown : M'.2.1.cls = M.1) (hw : (rest.map fun v => v.category).sum ≤ 8) (hc : Ct l g M' [a1, a2, a3] N sh mem (Rv N sh P)) (kk : ∀ mem' : Mem, P mem' → X l g M F (pc + 3) L rest N sh mem' c n) : X l g M F pc L (a3 :: a2 :: a1 :: rest) N sh mem c n := by
  refine x_callS (As := [a1, a2, a3]) hdg hl hv hR hown rfl hw hc ?_
  intro v N' sh' mem' hq
  obtain ⟨rfl, rfl, rfl, hq⟩ := hq
  rw [h0.1, h0.2]
  exact kk mem' hq
theorem x_v4p {o : Nat} {a1 a2 a3 a4 : Value} {w : Value} (hdg : decode M.2.2.1 pc = .ok (.invokevirtual idx, 3)) (hl : Cond.methodLink M.1 idx M'.2.1 ∈ tbG) (hv : VI M'.2.1 M'.2.2.1 M'.2.2.2.1 M'.2.2.2.2.1 4) (hR : roomB M M' c n = true) (h0 : M'.2.2.2.2.2.cells = 0 ∧ M'.2.2.2.2.2.slots = 0) (ho : IsObj sh o M'.2.1.cls) (hw : (rest.map fun v => v.category).sum ≤ 8) (hc : Ct l g M' [rf g o, a1, a2, a3, a4] N sh mem (Pq w N sh mem)) (kk : X l g M F (pc + 3) L (w :: rest) N sh mem c n) : X l g M F pc L (a4 :: a3 :: a2 :: a1 :: rf g o :: rest) N sh mem c n := by
  obtain ⟨ci, fs, h1, h2, h3⟩ := ho
  refine x_callV (As := [a1, a2, a3, a4]) hdg hl hv hR h1 h2 h3 rfl hw hc ?_
  intro v N' sh' mem' hq
  obtain ⟨rfl, rfl, rfl, rfl⟩ := hq
  rw [h0.1, h0.2]
  exact kk
theorem x_s4p {a1 a2 a3 a4 : Value} {w : Value} (hdg : decode M.2.2.1 pc = .ok (.invokestatic idx, 3)) (hl : Cond.methodLink M.1 idx M'.2.1 ∈ tbG) (hv : VS M'.2.1 M'.2.2.1 M'.2.2.2.1 M'.2.2.2.2.1 4) (hR : roomB M M' c n = true) (h0 : M'.2.2.2.2.2.cells = 0 ∧ M'.2.2.2.2.2.slots = 0) (hown : M'.2.1.cls = M.1) (hw : (rest.map fun v => v.category).sum ≤ 8) (hc : Ct l g M' [a1, a2, a3, a4] N sh mem (Pq w N sh mem)) (kk : X l g M F (pc + 3) L (w :: rest) N sh mem c n) : X l g M F pc L (a4 :: a3 :: a2 :: a1 :: rest) N sh mem c n := by
  refine x_callS (As := [a1, a2, a3, a4]) hdg hl hv hR hown rfl hw hc ?_
  intro v N' sh' mem' hq
  obtain ⟨rfl, rfl, rfl, rfl⟩ := hq
  rw [h0.1, h0.2]
  exact kk
theorem x_v4i {o : Nat} {a1 a2 a3 a4 : Value} {P : Int32 → Mem → Prop} (hdg : decode M.2.2.1 pc = .ok (.invokevirtual idx, 3)) (hl : Cond.methodLink M.1 idx M'.2.1 ∈ tbG) (hv : VI M'.2.1 M'.2.2.1 M'.2.2.2.1 M'.2.2.2.2.1 4) (hR : roomB M M' c n = true) (h0 : M'.2.2.2.2.2.cells = 0 ∧ M'.2.2.2.2.2.slots = 0) (ho : IsObj sh o M'.2.1.cls) (hw : (rest.map fun v => v.category).sum ≤ 8) (hc : Ct l g M' [rf g o, a1, a2, a3, a4] N sh mem (Ri N sh P)) (kk : ∀ (r : Int32) (mem' : Mem), P r mem' → X l g M F (pc + 3) L (.int r :: rest) N sh mem' c n) : X l g M F pc L (a4 :: a3 :: a2 :: a1 :: rf g o :: rest) N sh mem c n := by
  obtain ⟨ci, fs, h1, h2, h3⟩ := ho
  refine x_callV (As := [a1, a2, a3, a4]) hdg hl hv hR h1 h2 h3 rfl hw hc ?_
  intro v N' sh' mem' hq
  obtain ⟨r, rfl, rfl, rfl, hq⟩ := hq
  rw [h0.1, h0.2]
  exact kk r mem' hq
theorem x_s4i {a1 a2 a3 a4 : Value} {P : Int32 → Mem → Prop} (hdg : decode M.2.2.1 pc = .ok (.invokestatic idx, 3)) (hl : Cond.methodLink M.1 idx M'.2.1 ∈ tbG) (hv : VS M'.2.1 M'.2.2.1 M'.2.2.2.1 M'.2.2.2.2.1 4) (hR : roomB M M' c n = true) (h0 : M'.2.2.2.2.2.cells = 0 ∧ M'.2.2.2.2.2.slots = 0) (hown : M'.2.1.cls = M.1) (hw : (rest.map fun v => v.category).sum ≤ 8) (hc : Ct l g M' [a1, a2, a3, a4] N sh mem (Ri N sh P)) (kk : ∀ (r : Int32) (mem' : Mem), P r mem' → X l g M F (pc + 3) L (.int r :: rest) N sh mem' c n) : X l g M F pc L (a4 :: a3 :: a2 :: a1 :: rest) N sh mem c n := by
  refine x_callS (As := [a1, a2, a3, a4]) hdg hl hv hR hown rfl hw hc ?_
  intro v N' sh' mem' hq
  obtain ⟨r, rfl, rfl, rfl, hq⟩ := hq
  rw [h0.1, h0.2]
  exact kk r mem' hq
theorem x_v4v {o : Nat} {a1 a2 a3 a4 : Value} {P : Mem → Prop} (hdg : decode M.2.2.1 pc = .ok (.invokevirtual idx, 3)) (hl : Cond.methodLink M.1 idx M'.2.1 ∈ tbG) (hv : VI M'.2.1 M'.2.2.1 M'.2.2.2.1 M'.2.2.2.2.1 4) (hR : roomB M M' c n = true) (h0 : M'.2.2.2.2.2.cells = 0 ∧ M'.2.2.2.2.2.slots = 0) (ho : IsObj sh o M'.2.1.cls) (hw : (rest.map fun v => v.category).sum ≤ 8) (hc : Ct l g M' [rf g o, a1, a2, a3, a4] N sh mem (Rv N sh P)) (kk : ∀ mem' : Mem, P mem' → X l g M F (pc + 3) L rest N sh mem' c n) : X l g M F pc L (a4 :: a3 :: a2 :: a1 :: rf g o :: rest) N sh mem c n := by
  obtain ⟨ci, fs, h1, h2, h3⟩ := ho
  refine x_callV (As := [a1, a2, a3, a4]) hdg hl hv hR h1 h2 h3 rfl hw hc ?_
  intro v N' sh' mem' hq
  obtain ⟨rfl, rfl, rfl, hq⟩ := hq
  rw [h0.1, h0.2]
  exact kk mem' hq
theorem x_s4v {a1 a2 a3 a4 : Value} {P : Mem → Prop} (hdg : decode M.2.2.1 pc = .ok (.invokestatic idx, 3)) (hl : Cond.methodLink M.1 idx M'.2.1 ∈ tbG) (hv : VS M'.2.1 M'.2.2.1 M'.2.2.2.1 M'.2.2.2.2.1 4) (hR : roomB M M' c n = true) (h0 : M'.2.2.2.2.2.cells = 0 ∧ M'.2.2.2.2.2.slots = 0) (hown : M'.2.1.cls = M.1) (hw : (rest.map fun v => v.category).sum ≤ 8) (hc : Ct l g M' [a1, a2, a3, a4] N sh mem (Rv N sh P)) (kk : ∀ mem' : Mem, P mem' → X l g M F (pc + 3) L rest N sh mem' c n) : X l g M F pc L (a4 :: a3 :: a2 :: a1 :: rest) N sh mem c n := by
  refine x_callS (As := [a1, a2, a3, a4]) hdg hl hv hR hown rfl hw hc ?_
  intro v N' sh' mem' hq
  obtain ⟨rfl, rfl, rfl, hq⟩ := hq
  rw [h0.1, h0.2]
  exact kk mem' hq
theorem x_v5p {o : Nat} {a1 a2 a3 a4 a5 : Value} {w : Value} (hdg : decode M.2.2.1 pc = .ok (.invokevirtual idx, 3)) (hl : Cond.methodLink M.1 idx M'.2.1 ∈ tbG) (hv : VI M'.2.1 M'.2.2.1 M'.2.2.2.1 M'.2.2.2.2.1 5) (hR : roomB M M' c n = true) (h0 : M'.2.2.2.2.2.cells = 0 ∧ M'.2.2.2.2.2.slots = 0) (ho : IsObj sh o M'.2.1.cls) (hw : (rest.map fun v => v.category).sum ≤ 8) (hc : Ct l g M' [rf g o, a1, a2, a3, a4, a5] N sh mem (Pq w N sh mem)) (kk : X l g M F (pc + 3) L (w :: rest) N sh mem c n) : X l g M F pc L (a5 :: a4 :: a3 :: a2 :: a1 :: rf g o :: rest) N sh mem c n := by
  obtain ⟨ci, fs, h1, h2, h3⟩ := ho
  refine x_callV (As := [a1, a2, a3, a4, a5]) hdg hl hv hR h1 h2 h3 rfl hw hc ?_
  intro v N' sh' mem' hq
  obtain ⟨rfl, rfl, rfl, rfl⟩ := hq
  rw [h0.1, h0.2]
  exact kk
theorem x_s5p {a1 a2 a3 a4 a5 : Value} {w : Value} (hdg : decode M.2.2.1 pc = .ok (.invokestatic idx, 3)) (hl : Cond.methodLink M.1 idx M'.2.1 ∈ tbG) (hv : VS M'.2.1 M'.2.2.1 M'.2.2.2.1 M'.2.2.2.2.1 5) (hR : roomB M M' c n = true) (h0 : M'.2.2.2.2.2.cells = 0 ∧ M'.2.2.2.2.2.slots = 0) (hown : M'.2.1.cls = M.1) (hw : (rest.map fun v => v.category).sum ≤ 8) (hc : Ct l g M' [a1, a2, a3, a4, a5] N sh mem (Pq w N sh mem)) (kk : X l g M F (pc + 3) L (w :: rest) N sh mem c n) : X l g M F pc L (a5 :: a4 :: a3 :: a2 :: a1 :: rest) N sh mem c n := by
  refine x_callS (As := [a1, a2, a3, a4, a5]) hdg hl hv hR hown rfl hw hc ?_
  intro v N' sh' mem' hq
  obtain ⟨rfl, rfl, rfl, rfl⟩ := hq
  rw [h0.1, h0.2]
  exact kk
theorem x_v5i {o : Nat} {a1 a2 a3 a4 a5 : Value} {P : Int32 → Mem → Prop} (hdg : decode M.2.2.1 pc = .ok (.invokevirtual idx, 3)) (hl : Cond.methodLink M.1 idx M'.2.1 ∈ tbG) (hv : VI M'.2.1 M'.2.2.1 M'.2.2.2.1 M'.2.2.2.2.1 5) (hR : roomB M M' c n = true) (h0 : M'.2.2.2.2.2.cells = 0 ∧ M'.2.2.2.2.2.slots = 0) (ho : IsObj sh o M'.2.1.cls) (hw : (rest.map fun v => v.category).sum ≤ 8) (hc : Ct l g M' [rf g o, a1, a2, a3, a4, a5] N sh mem (Ri N sh P)) (kk : ∀ (r : Int32) (mem' : Mem), P r mem' → X l g M F (pc + 3) L (.int r :: rest) N sh mem' c n) : X l g M F pc L (a5 :: a4 :: a3 :: a2 :: a1 :: rf g o :: rest) N sh mem c n := by
  obtain ⟨ci, fs, h1, h2, h3⟩ := ho
  refine x_callV (As := [a1, a2, a3, a4, a5]) hdg hl hv hR h1 h2 h3 rfl hw hc ?_
  intro v N' sh' mem' hq
  obtain ⟨r, rfl, rfl, rfl, hq⟩ := hq
  rw [h0.1, h0.2]
  exact kk r mem' hq
theorem x_s5i {a1 a2 a3 a4 a5 : Value} {P : Int32 → Mem → Prop} (hdg : decode M.2.2.1 pc = .ok (.invokestatic idx, 3)) (hl : Cond.methodLink M.1 idx M'.2.1 ∈ tbG) (hv : VS M'.2.1 M'.2.2.1 M'.2.2.2.1 M'.2.2.2.2.1 5) (hR : roomB M M' c n = true) (h0 : M'.2.2.2.2.2.cells = 0 ∧ M'.2.2.2.2.2.slots = 0) (hown : M'.2.1.cls = M.1) (hw : (rest.map fun v => v.category).sum ≤ 8) (hc : Ct l g M' [a1, a2, a3, a4, a5] N sh mem (Ri N sh P)) (kk : ∀ (r : Int32) (mem' : Mem), P r mem' → X l g M F (pc + 3) L (.int r :: rest) N sh mem' c n) : X l g M F pc L (a5 :: a4 :: a3 :: a2 :: a1 :: rest) N sh mem c n := by
  refine x_callS (As := [a1, a2, a3, a4, a5]) hdg hl hv hR hown rfl hw hc ?_
  intro v N' sh' mem' hq
  obtain ⟨r, rfl, rfl, rfl, hq⟩ := hq
  rw [h0.1, h0.2]
  exact kk r mem' hq
theorem x_v5v {o : Nat} {a1 a2 a3 a4 a5 : Value} {P : Mem → Prop} (hdg : decode M.2.2.1 pc = .ok (.invokevirtual idx, 3)) (hl : Cond.methodLink M.1 idx M'.2.1 ∈ tbG) (hv : VI M'.2.1 M'.2.2.1 M'.2.2.2.1 M'.2.2.2.2.1 5) (hR : roomB M M' c n = true) (h0 : M'.2.2.2.2.2.cells = 0 ∧ M'.2.2.2.2.2.slots = 0) (ho : IsObj sh o M'.2.1.cls) (hw : (rest.map fun v => v.category).sum ≤ 8) (hc : Ct l g M' [rf g o, a1, a2, a3, a4, a5] N sh mem (Rv N sh P)) (kk : ∀ mem' : Mem, P mem' → X l g M F (pc + 3) L rest N sh mem' c n) : X l g M F pc L (a5 :: a4 :: a3 :: a2 :: a1 :: rf g o :: rest) N sh mem c n := by
  obtain ⟨ci, fs, h1, h2, h3⟩ := ho
  refine x_callV (As := [a1, a2, a3, a4, a5]) hdg hl hv hR h1 h2 h3 rfl hw hc ?_
  intro v N' sh' mem' hq
  obtain ⟨rfl, rfl, rfl, hq⟩ := hq
  rw [h0.1, h0.2]
  exact kk mem' hq
theorem x_s5v {a1 a2 a3 a4 a5 : Value} {P : Mem → Prop} (hdg : decode M.2.2.1 pc = .ok (.invokestatic idx, 3)) (hl : Cond.methodLink M.1 idx M'.2.1 ∈ tbG) (hv : VS M'.2.1 M'.2.2.1 M'.2.2.2.1 M'.2.2.2.2.1 5) (hR : roomB M M' c n = true) (h0 : M'.2.2.2.2.2.cells = 0 ∧ M'.2.2.2.2.2.slots = 0) (hown : M'.2.1.cls = M.1) (hw : (rest.map fun v => v.category).sum ≤ 8) (hc : Ct l g M' [a1, a2, a3, a4, a5] N sh mem (Rv N sh P)) (kk : ∀ mem' : Mem, P mem' → X l g M F (pc + 3) L rest N sh mem' c n) : X l g M F pc L (a5 :: a4 :: a3 :: a2 :: a1 :: rest) N sh mem c n := by
  refine x_callS (As := [a1, a2, a3, a4, a5]) hdg hl hv hR hown rfl hw hc ?_
  intro v N' sh' mem' hq
  obtain ⟨rfl, rfl, rfl, hq⟩ := hq
  rw [h0.1, h0.2]
  exact kk mem' hq
end XK
def cpm (mem : Mem) (a b k : Nat) : Mem := fun o => if o = b then va_cpy (mem a) (mem b) 0 0 k else mem o
theorem all_ws {g : XG} {N : Option Nat} {sh : Nat → Sh} {mem : Mem} {H : Heap} (hW : Wd g N sh mem H) : ∃ ws : va_W, va_P g.1 vwCl ws H ∧ va_D (xA g) ws ∧ ∀ o, sh o ≠ sh0 → ∃ k : Nat, ws[k]? = some (g.2.1 + o, ent g (sh o) (mem o)) := by
  classical
  obtain ⟨f, hf⟩ : ∃ f : Nat → Option (Nat × va_E), ∀ o, f o = if sh o ≠ sh0 then some (g.2.1 + o, ent g (sh o) (mem o)) else none := ⟨_, fun _ => rfl⟩
  have h1 : ∀ (o : Nat) (q : Nat × va_E), f o = some q → sh o ≠ sh0 ∧ q = (g.2.1 + o, ent g (sh o) (mem o)) := by
    intro o q h
    rw [hf o] at h
    split at h
    · rename_i h2
      exact ⟨h2, (Option.some.inj h).symm⟩
    · cases h
  have hp : ((List.range H.size).filterMap f).Pairwise (fun a b => a.1 < b.1) := by
    refine List.Pairwise.filterMap (R := fun (a b : Nat) => a < b) f (fun a a' ha b hb b' hb' => ?_) List.pairwise_lt_range
    rw [(h1 a b hb).2, (h1 a' b' hb').2]
    show g.2.1 + a < g.2.1 + a'
    omega
  have hq := List.pairwise_iff_getElem.mp hp
  refine ⟨(List.range H.size).filterMap f, fun k q hk => ?_, ⟨fun i j p q hi hj hpq => ?_, fun k q hk => ?_⟩, fun o ho => ?_⟩
  · obtain ⟨o, -, hfo⟩ := List.mem_filterMap.mp (List.mem_of_getElem? hk)
    obtain ⟨h2, rfl⟩ := h1 o q hfo
    exact hW.2 o h2
  · obtain ⟨hi1, hi2⟩ := List.getElem?_eq_some_iff.mp hi
    obtain ⟨hj1, hj2⟩ := List.getElem?_eq_some_iff.mp hj
    rcases Nat.lt_trichotomy i j with h | h | h
    · have h3 := hq i j hi1 hj1 h
      rw [hi2, hj2, hpq] at h3
      exact absurd h3 (Nat.lt_irrefl _)
    · exact h
    · have h3 := hq j i hj1 hi1 h
      rw [hi2, hj2, hpq] at h3
      exact absurd h3 (Nat.lt_irrefl _)
  · obtain ⟨o, -, hfo⟩ := List.mem_filterMap.mp (List.mem_of_getElem? hk)
    obtain ⟨h2, rfl⟩ := h1 o q hfo
    exact Nat.le_add_right _ _
  · have h2 := (hW.2 o ho).lt
    have h3 : (g.2.1 + o, ent g (sh o) (mem o)) ∈ (List.range H.size).filterMap f := List.mem_filterMap.mpr ⟨o, List.mem_range.mpr (by have h4 : g.2.1 + o < H.size := h2; omega), by rw [hf o, if_pos ho]⟩
    exact List.getElem?_of_mem h3
theorem x_copy0 {l : Launch} {g : XG} {M : Mt} {F : XFin} {pc : Nat} {L : List (Option Value)} {rest : List Value} {sh : Nat → Sh} {mem : Mem} {c n idx : Nat} {a b na nb : Nat} {k : Int32} (hl : Cond.methodLink M.1 idx arraycopyName ∈ tbG) (ha : sh a = .inr (.inl na)) (hb : sh b = .inr (.inl nb)) (hk : ¬ k < 0) (h1 : k.toNatClampNeg ≤ na) (h2 : k.toNatClampNeg ≤ nb) (hdg : decode M.2.2.1 pc = .ok (.invokestatic idx, 3)) (hfr : 1 ≤ M.2.2.2.2.2.frames) (hlo : (rest.map fun v => v.category).sum + 18 ≤ M.2.2.2.2.2.locals) (kk : X l g M F (pc + 3) L rest none sh (cpm mem a b k.toNatClampNeg) c n) : X l g M F pc L (.int k :: .int 0 :: rf g b :: .int 0 :: rf g a :: rest) none sh mem c n := by
  intro p e s m args below meth cd H locs ls C hW hS hL
  have hts := C.2.2.2.2.2.2.2.1
  have hK := C.2.2.2.2.2.2.2.2.1.1
  obtain ⟨ws, hP, hD, hI⟩ := all_ws hW
  obtain ⟨ka, hka⟩ := hI a (arr_ne ha)
  obtain ⟨kb, hkb⟩ := hI b (arr_ne hb)
  rw [ha] at hka
  rw [hb] at hkb
  have z0 : (0 : Int32).toNatClampNeg = 0 := by decide
  refine va_copyi (H0 := s.heap) (A := xA g) C.1 C.2.1 (by rw [C.2.2.1]; exact hL.1.symm) C.2.2.2.1 (hts _ hl) (hts _ j_copy2) (hts _ j_copy1) (hts _ j_sys) hK hP hD hS ka kb 0 0 (ty := .int) hka hkb rfl rfl rfl (by decide) (by decide) hk (by rw [z0]; omega) (by rw [z0]; omega) (fun _ _ => rfl) hfr hlo hdg fun H1 locs1 hP1 hD1 hS1 => ?_
  rw [z0] at hP1
  refine kk _ _ _ _ _ _ _ _ _ _ _ C ⟨fun n hn => (by cases hn), fun o ho => ?_⟩ hS1 hL
  by_cases hob : o = b
  · subst hob
    have h5 := hP1 kb _ (List.getElem?_set_self (List.getElem?_eq_some_iff.mp hkb).1)
    rw [hb]
    have e5 : cpm mem a o k.toNatClampNeg o = va_cpy (mem a) (mem o) 0 0 k.toNatClampNeg := if_pos rfl
    rw [e5]
    exact h5
  · obtain ⟨ko, hko⟩ := hI o ho
    have hne : kb ≠ ko := by
      intro h6
      rw [h6, hko] at hkb
      have h7 := congrArg Prod.fst (Option.some.inj hkb)
      have h8 : g.2.1 + o = g.2.1 + b := h7
      omega
    have h5 := hP1 ko _ ((List.getElem?_set_ne hne).trans hko)
    have e5 : cpm mem a b k.toNatClampNeg o = mem o := if_neg hob
    rw [e5]
    exact h5
end
section
def lay_Ro (ρ i : Nat) : Sh :=
  if i = 0 then .inl (4, [none, some (some (ρ + 1)), some (some (ρ + 3)), some (some (ρ + 5)), some (some (ρ + 7)), some (some (ρ + 9)), some (some (ρ + 11)), some (some (ρ + 13)), some (some (ρ + 15))]) else
  if i = 1 then .inl (7, [some (some (ρ + 2))]) else
  if i = 2 then .inr (.inl 12) else
  if i = 3 then .inl (7, [some (some (ρ + 4))]) else
  if i = 4 then .inr (.inl 12) else
  if i = 5 then .inl (7, [some (some (ρ + 6))]) else
  if i = 6 then .inr (.inl 12) else
  if i = 7 then .inl (7, [some (some (ρ + 8))]) else
  if i = 8 then .inr (.inl 12) else
  if i = 9 then .inl (7, [some (some (ρ + 10))]) else
  if i = 10 then .inr (.inl 12) else
  if i = 11 then .inl (7, [some (some (ρ + 12))]) else
  if i = 12 then .inr (.inl 12) else
  if i = 13 then .inl (7, [some (some (ρ + 14))]) else
  if i = 14 then .inr (.inl 12) else
  if i = 15 then .inl (7, [some (some (ρ + 16))]) else
  if i = 16 then .inr (.inl 12) else
  sh0
def LayRo (sh : Nat → Sh) (ρ : Nat) : Prop := ∀ i, i < 17 → sh (ρ + i) = lay_Ro ρ i
theorem LayRo.f0 {sh : Nat → Sh} {ρ : Nat} (h : LayRo sh ρ) : sh ρ = .inl (4, [none, some (some (ρ + 1)), some (some (ρ + 3)), some (some (ρ + 5)), some (some (ρ + 7)), some (some (ρ + 9)), some (some (ρ + 11)), some (some (ρ + 13)), some (some (ρ + 15))]) := h 0 (by decide)
theorem LayRo.f1 {sh : Nat → Sh} {ρ : Nat} (h : LayRo sh ρ) : sh (ρ + 1) = .inl (7, [some (some (ρ + 2))]) := h 1 (by decide)
theorem LayRo.f2 {sh : Nat → Sh} {ρ : Nat} (h : LayRo sh ρ) : sh (ρ + 2) = .inr (.inl 12) := h 2 (by decide)
theorem LayRo.f3 {sh : Nat → Sh} {ρ : Nat} (h : LayRo sh ρ) : sh (ρ + 3) = .inl (7, [some (some (ρ + 4))]) := h 3 (by decide)
theorem LayRo.f4 {sh : Nat → Sh} {ρ : Nat} (h : LayRo sh ρ) : sh (ρ + 4) = .inr (.inl 12) := h 4 (by decide)
theorem LayRo.f5 {sh : Nat → Sh} {ρ : Nat} (h : LayRo sh ρ) : sh (ρ + 5) = .inl (7, [some (some (ρ + 6))]) := h 5 (by decide)
theorem LayRo.f6 {sh : Nat → Sh} {ρ : Nat} (h : LayRo sh ρ) : sh (ρ + 6) = .inr (.inl 12) := h 6 (by decide)
theorem LayRo.f7 {sh : Nat → Sh} {ρ : Nat} (h : LayRo sh ρ) : sh (ρ + 7) = .inl (7, [some (some (ρ + 8))]) := h 7 (by decide)
theorem LayRo.f8 {sh : Nat → Sh} {ρ : Nat} (h : LayRo sh ρ) : sh (ρ + 8) = .inr (.inl 12) := h 8 (by decide)
theorem LayRo.f9 {sh : Nat → Sh} {ρ : Nat} (h : LayRo sh ρ) : sh (ρ + 9) = .inl (7, [some (some (ρ + 10))]) := h 9 (by decide)
theorem LayRo.f10 {sh : Nat → Sh} {ρ : Nat} (h : LayRo sh ρ) : sh (ρ + 10) = .inr (.inl 12) := h 10 (by decide)
theorem LayRo.f11 {sh : Nat → Sh} {ρ : Nat} (h : LayRo sh ρ) : sh (ρ + 11) = .inl (7, [some (some (ρ + 12))]) := h 11 (by decide)
theorem LayRo.f12 {sh : Nat → Sh} {ρ : Nat} (h : LayRo sh ρ) : sh (ρ + 12) = .inr (.inl 12) := h 12 (by decide)
theorem LayRo.f13 {sh : Nat → Sh} {ρ : Nat} (h : LayRo sh ρ) : sh (ρ + 13) = .inl (7, [some (some (ρ + 14))]) := h 13 (by decide)
theorem LayRo.f14 {sh : Nat → Sh} {ρ : Nat} (h : LayRo sh ρ) : sh (ρ + 14) = .inr (.inl 12) := h 14 (by decide)
theorem LayRo.f15 {sh : Nat → Sh} {ρ : Nat} (h : LayRo sh ρ) : sh (ρ + 15) = .inl (7, [some (some (ρ + 16))]) := h 15 (by decide)
theorem LayRo.f16 {sh : Nat → Sh} {ρ : Nat} (h : LayRo sh ρ) : sh (ρ + 16) = .inr (.inl 12) := h 16 (by decide)
theorem LayRo.io {sh : Nat → Sh} {ρ : Nat} (h : LayRo sh ρ) : IsObj sh ρ "CarpetCounter$Rolls" := ⟨_, _, h.f0, List.cons_ne_nil _ _, rfl⟩
def lay_Of (ρ i : Nat) : Sh :=
  if i = 0 then .inl (3, [none, none, some (some (ρ + 1)), some (some (ρ + 3)), some (some (ρ + 5)), some (some (ρ + 7))]) else
  if i = 1 then .inl (7, [some (some (ρ + 2))]) else
  if i = 2 then .inr (.inl 60) else
  if i = 3 then .inl (7, [some (some (ρ + 4))]) else
  if i = 4 then .inr (.inl 60) else
  if i = 5 then .inl (7, [some (some (ρ + 6))]) else
  if i = 6 then .inr (.inl 60) else
  if i = 7 then .inl (7, [some (some (ρ + 8))]) else
  if i = 8 then .inr (.inl 60) else
  sh0
def LayOf (sh : Nat → Sh) (ρ : Nat) : Prop := ∀ i, i < 9 → sh (ρ + i) = lay_Of ρ i
theorem LayOf.f0 {sh : Nat → Sh} {ρ : Nat} (h : LayOf sh ρ) : sh ρ = .inl (3, [none, none, some (some (ρ + 1)), some (some (ρ + 3)), some (some (ρ + 5)), some (some (ρ + 7))]) := h 0 (by decide)
theorem LayOf.f1 {sh : Nat → Sh} {ρ : Nat} (h : LayOf sh ρ) : sh (ρ + 1) = .inl (7, [some (some (ρ + 2))]) := h 1 (by decide)
theorem LayOf.f2 {sh : Nat → Sh} {ρ : Nat} (h : LayOf sh ρ) : sh (ρ + 2) = .inr (.inl 60) := h 2 (by decide)
theorem LayOf.f3 {sh : Nat → Sh} {ρ : Nat} (h : LayOf sh ρ) : sh (ρ + 3) = .inl (7, [some (some (ρ + 4))]) := h 3 (by decide)
theorem LayOf.f4 {sh : Nat → Sh} {ρ : Nat} (h : LayOf sh ρ) : sh (ρ + 4) = .inr (.inl 60) := h 4 (by decide)
theorem LayOf.f5 {sh : Nat → Sh} {ρ : Nat} (h : LayOf sh ρ) : sh (ρ + 5) = .inl (7, [some (some (ρ + 6))]) := h 5 (by decide)
theorem LayOf.f6 {sh : Nat → Sh} {ρ : Nat} (h : LayOf sh ρ) : sh (ρ + 6) = .inr (.inl 60) := h 6 (by decide)
theorem LayOf.f7 {sh : Nat → Sh} {ρ : Nat} (h : LayOf sh ρ) : sh (ρ + 7) = .inl (7, [some (some (ρ + 8))]) := h 7 (by decide)
theorem LayOf.f8 {sh : Nat → Sh} {ρ : Nat} (h : LayOf sh ρ) : sh (ρ + 8) = .inr (.inl 60) := h 8 (by decide)
theorem LayOf.io {sh : Nat → Sh} {ρ : Nat} (h : LayOf sh ρ) : IsObj sh ρ "CarpetCounter$Offcuts" := ⟨_, _, h.f0, List.cons_ne_nil _ _, rfl⟩
def lay_Rm (ρ i : Nat) : Sh :=
  if i = 0 then .inl (6, [none, some (some (ρ + 1)), some (some (ρ + 3)), some (some (ρ + 5)), some (some (ρ + 7)), some (some (ρ + 9)), some (some (ρ + 11)), some (some (ρ + 13)), some (some (ρ + 15)), some (some (ρ + 17))]) else
  if i = 1 then .inl (7, [some (some (ρ + 2))]) else
  if i = 2 then .inr (.inl 20) else
  if i = 3 then .inl (7, [some (some (ρ + 4))]) else
  if i = 4 then .inr (.inl 60) else
  if i = 5 then .inl (7, [some (some (ρ + 6))]) else
  if i = 6 then .inr (.inl 60) else
  if i = 7 then .inl (7, [some (some (ρ + 8))]) else
  if i = 8 then .inr (.inl 20) else
  if i = 9 then .inl (7, [some (some (ρ + 10))]) else
  if i = 10 then .inr (.inl 20) else
  if i = 11 then .inl (7, [some (some (ρ + 12))]) else
  if i = 12 then .inr (.inl 20) else
  if i = 13 then .inl (7, [some (some (ρ + 14))]) else
  if i = 14 then .inr (.inl 20) else
  if i = 15 then .inl (7, [some (some (ρ + 16))]) else
  if i = 16 then .inr (.inl 20) else
  if i = 17 then .inl (7, [some (some (ρ + 18))]) else
  if i = 18 then .inr (.inl 720) else
  sh0
def LayRm (sh : Nat → Sh) (ρ : Nat) : Prop := ∀ i, i < 19 → sh (ρ + i) = lay_Rm ρ i
theorem LayRm.f0 {sh : Nat → Sh} {ρ : Nat} (h : LayRm sh ρ) : sh ρ = .inl (6, [none, some (some (ρ + 1)), some (some (ρ + 3)), some (some (ρ + 5)), some (some (ρ + 7)), some (some (ρ + 9)), some (some (ρ + 11)), some (some (ρ + 13)), some (some (ρ + 15)), some (some (ρ + 17))]) := h 0 (by decide)
theorem LayRm.f1 {sh : Nat → Sh} {ρ : Nat} (h : LayRm sh ρ) : sh (ρ + 1) = .inl (7, [some (some (ρ + 2))]) := h 1 (by decide)
theorem LayRm.f2 {sh : Nat → Sh} {ρ : Nat} (h : LayRm sh ρ) : sh (ρ + 2) = .inr (.inl 20) := h 2 (by decide)
theorem LayRm.f3 {sh : Nat → Sh} {ρ : Nat} (h : LayRm sh ρ) : sh (ρ + 3) = .inl (7, [some (some (ρ + 4))]) := h 3 (by decide)
theorem LayRm.f4 {sh : Nat → Sh} {ρ : Nat} (h : LayRm sh ρ) : sh (ρ + 4) = .inr (.inl 60) := h 4 (by decide)
theorem LayRm.f5 {sh : Nat → Sh} {ρ : Nat} (h : LayRm sh ρ) : sh (ρ + 5) = .inl (7, [some (some (ρ + 6))]) := h 5 (by decide)
theorem LayRm.f6 {sh : Nat → Sh} {ρ : Nat} (h : LayRm sh ρ) : sh (ρ + 6) = .inr (.inl 60) := h 6 (by decide)
theorem LayRm.f7 {sh : Nat → Sh} {ρ : Nat} (h : LayRm sh ρ) : sh (ρ + 7) = .inl (7, [some (some (ρ + 8))]) := h 7 (by decide)
theorem LayRm.f8 {sh : Nat → Sh} {ρ : Nat} (h : LayRm sh ρ) : sh (ρ + 8) = .inr (.inl 20) := h 8 (by decide)
theorem LayRm.f9 {sh : Nat → Sh} {ρ : Nat} (h : LayRm sh ρ) : sh (ρ + 9) = .inl (7, [some (some (ρ + 10))]) := h 9 (by decide)
theorem LayRm.f10 {sh : Nat → Sh} {ρ : Nat} (h : LayRm sh ρ) : sh (ρ + 10) = .inr (.inl 20) := h 10 (by decide)
theorem LayRm.f11 {sh : Nat → Sh} {ρ : Nat} (h : LayRm sh ρ) : sh (ρ + 11) = .inl (7, [some (some (ρ + 12))]) := h 11 (by decide)
theorem LayRm.f12 {sh : Nat → Sh} {ρ : Nat} (h : LayRm sh ρ) : sh (ρ + 12) = .inr (.inl 20) := h 12 (by decide)
theorem LayRm.f13 {sh : Nat → Sh} {ρ : Nat} (h : LayRm sh ρ) : sh (ρ + 13) = .inl (7, [some (some (ρ + 14))]) := h 13 (by decide)
theorem LayRm.f14 {sh : Nat → Sh} {ρ : Nat} (h : LayRm sh ρ) : sh (ρ + 14) = .inr (.inl 20) := h 14 (by decide)
theorem LayRm.f15 {sh : Nat → Sh} {ρ : Nat} (h : LayRm sh ρ) : sh (ρ + 15) = .inl (7, [some (some (ρ + 16))]) := h 15 (by decide)
theorem LayRm.f16 {sh : Nat → Sh} {ρ : Nat} (h : LayRm sh ρ) : sh (ρ + 16) = .inr (.inl 20) := h 16 (by decide)
theorem LayRm.f17 {sh : Nat → Sh} {ρ : Nat} (h : LayRm sh ρ) : sh (ρ + 17) = .inl (7, [some (some (ρ + 18))]) := h 17 (by decide)
theorem LayRm.f18 {sh : Nat → Sh} {ρ : Nat} (h : LayRm sh ρ) : sh (ρ + 18) = .inr (.inl 720) := h 18 (by decide)
theorem LayRm.io {sh : Nat → Sh} {ρ : Nat} (h : LayRm sh ρ) : IsObj sh ρ "CarpetCounter$Rooms" := ⟨_, _, h.f0, List.cons_ne_nil _ _, rfl⟩
def lay_Bk (ρ i : Nat) : Sh :=
  if i = 0 then .inl (0, [some (some (ρ + 1)), some (some (ρ + 3)), some (some (ρ + 20)), some (some (ρ + 29)), none, none, none]) else
  if i = 1 then .inl (7, [some (some (ρ + 2))]) else
  if i = 2 then .inr (.inl 5) else
  if i < 20 then lay_Ro (ρ + 3) (i - 3) else
  if i < 29 then lay_Of (ρ + 20) (i - 20) else
  if i < 48 then lay_Rm (ρ + 29) (i - 29) else
  sh0
def LayBk (sh : Nat → Sh) (ρ : Nat) : Prop := ∀ i, i < 48 → sh (ρ + i) = lay_Bk ρ i
theorem LayBk.f0 {sh : Nat → Sh} {ρ : Nat} (h : LayBk sh ρ) : sh ρ = .inl (0, [some (some (ρ + 1)), some (some (ρ + 3)), some (some (ρ + 20)), some (some (ρ + 29)), none, none, none]) := h 0 (by decide)
theorem LayBk.f1 {sh : Nat → Sh} {ρ : Nat} (h : LayBk sh ρ) : sh (ρ + 1) = .inl (7, [some (some (ρ + 2))]) := h 1 (by decide)
theorem LayBk.f2 {sh : Nat → Sh} {ρ : Nat} (h : LayBk sh ρ) : sh (ρ + 2) = .inr (.inl 5) := h 2 (by decide)
theorem LayBk.s3 {sh : Nat → Sh} {ρ : Nat} (h : LayBk sh ρ) : LayRo sh (ρ + 3) := by
  intro i hi
  have h1 := h (3 + i) (by omega)
  rw [show ρ + (3 + i) = ρ + 3 + i by omega] at h1
  rw [h1]
  unfold lay_Bk
  rw [if_neg (show ¬ 3 + i = 0 by omega), if_neg (show ¬ 3 + i = 1 by omega), if_neg (show ¬ 3 + i = 2 by omega), if_pos (show 3 + i < 20 by omega), show 3 + i - 3 = i by omega]
theorem LayBk.s20 {sh : Nat → Sh} {ρ : Nat} (h : LayBk sh ρ) : LayOf sh (ρ + 20) := by
  intro i hi
  have h1 := h (20 + i) (by omega)
  rw [show ρ + (20 + i) = ρ + 20 + i by omega] at h1
  rw [h1]
  unfold lay_Bk
  rw [if_neg (show ¬ 20 + i = 0 by omega), if_neg (show ¬ 20 + i = 1 by omega), if_neg (show ¬ 20 + i = 2 by omega), if_neg (show ¬ 20 + i < 20 by omega), if_pos (show 20 + i < 29 by omega), show 20 + i - 20 = i by omega]
theorem LayBk.s29 {sh : Nat → Sh} {ρ : Nat} (h : LayBk sh ρ) : LayRm sh (ρ + 29) := by
  intro i hi
  have h1 := h (29 + i) (by omega)
  rw [show ρ + (29 + i) = ρ + 29 + i by omega] at h1
  rw [h1]
  unfold lay_Bk
  rw [if_neg (show ¬ 29 + i = 0 by omega), if_neg (show ¬ 29 + i = 1 by omega), if_neg (show ¬ 29 + i = 2 by omega), if_neg (show ¬ 29 + i < 20 by omega), if_neg (show ¬ 29 + i < 29 by omega), if_pos (show 29 + i < 48 by omega), show 29 + i - 29 = i by omega]
theorem LayBk.io {sh : Nat → Sh} {ρ : Nat} (h : LayBk sh ρ) : IsObj sh ρ "CarpetCounter$Book" := ⟨_, _, h.f0, List.cons_ne_nil _ _, rfl⟩
def lay_Hi (ρ i : Nat) : Sh :=
  if i = 0 then .inl (2, [some (some (ρ + 1)), none, none]) else
  if i = 1 then .inr (.inr (4, fun j => if j < 4 then some (ρ + 2 + 48 * j) else none)) else
  if i < 194 then lay_Bk (ρ + 2 + 48 * ((i - 2) / 48)) ((i - 2) % 48) else
  sh0
def LayHi (sh : Nat → Sh) (ρ : Nat) : Prop := ∀ i, i < 194 → sh (ρ + i) = lay_Hi ρ i
theorem LayHi.f0 {sh : Nat → Sh} {ρ : Nat} (h : LayHi sh ρ) : sh ρ = .inl (2, [some (some (ρ + 1)), none, none]) := h 0 (by decide)
theorem LayHi.f1 {sh : Nat → Sh} {ρ : Nat} (h : LayHi sh ρ) : sh (ρ + 1) = .inr (.inr (4, fun j => if j < 4 then some (ρ + 2 + 48 * j) else none)) := h 1 (by decide)
theorem LayHi.bk {sh : Nat → Sh} {ρ : Nat} (h : LayHi sh ρ) (j : Nat) (hj : j < 4) : LayBk sh (ρ + 2 + 48 * j) := by
  intro i hi
  have h1 := h (2 + 48 * j + i) (by omega)
  rw [show ρ + (2 + 48 * j + i) = ρ + 2 + 48 * j + i by omega] at h1
  rw [h1]
  unfold lay_Hi
  rw [if_neg (show ¬ 2 + 48 * j + i = 0 by omega), if_neg (show ¬ 2 + 48 * j + i = 1 by omega), if_pos (show 2 + 48 * j + i < 194 by omega), show (2 + 48 * j + i - 2) / 48 = j by omega, show (2 + 48 * j + i - 2) % 48 = i by omega]
theorem LayHi.io {sh : Nat → Sh} {ρ : Nat} (h : LayHi sh ρ) : IsObj sh ρ "CarpetCounter$History" := ⟨_, _, h.f0, List.cons_ne_nil _ _, rfl⟩
def lay_Te (ρ i : Nat) : Sh :=
  if i = 0 then .inl (5, [some (some (ρ + 1)), none, some (some (ρ + 3)), none, none, none]) else
  if i = 1 then .inl (7, [some (some (ρ + 2))]) else
  if i = 2 then .inr (.inl 60) else
  if i < 22 then lay_Rm (ρ + 3) (i - 3) else
  sh0
def LayTe (sh : Nat → Sh) (ρ : Nat) : Prop := ∀ i, i < 22 → sh (ρ + i) = lay_Te ρ i
theorem LayTe.f0 {sh : Nat → Sh} {ρ : Nat} (h : LayTe sh ρ) : sh ρ = .inl (5, [some (some (ρ + 1)), none, some (some (ρ + 3)), none, none, none]) := h 0 (by decide)
theorem LayTe.f1 {sh : Nat → Sh} {ρ : Nat} (h : LayTe sh ρ) : sh (ρ + 1) = .inl (7, [some (some (ρ + 2))]) := h 1 (by decide)
theorem LayTe.f2 {sh : Nat → Sh} {ρ : Nat} (h : LayTe sh ρ) : sh (ρ + 2) = .inr (.inl 60) := h 2 (by decide)
theorem LayTe.s3 {sh : Nat → Sh} {ρ : Nat} (h : LayTe sh ρ) : LayRm sh (ρ + 3) := by
  intro i hi
  have h1 := h (3 + i) (by omega)
  rw [show ρ + (3 + i) = ρ + 3 + i by omega] at h1
  rw [h1]
  unfold lay_Te
  rw [if_neg (show ¬ 3 + i = 0 by omega), if_neg (show ¬ 3 + i = 1 by omega), if_neg (show ¬ 3 + i = 2 by omega), if_pos (show 3 + i < 22 by omega), show 3 + i - 3 = i by omega]
theorem LayTe.io {sh : Nat → Sh} {ρ : Nat} (h : LayTe sh ρ) : IsObj sh ρ "CarpetCounter$RoomText" := ⟨_, _, h.f0, List.cons_ne_nil _ _, rfl⟩
def lay_Ch (ρ i : Nat) : Sh :=
  if i = 0 then .inl (1, [none, none, none, none, none]) else
  sh0
def LayCh (sh : Nat → Sh) (ρ : Nat) : Prop := ∀ i, i < 1 → sh (ρ + i) = lay_Ch ρ i
theorem LayCh.f0 {sh : Nat → Sh} {ρ : Nat} (h : LayCh sh ρ) : sh ρ = .inl (1, [none, none, none, none, none]) := h 0 (by decide)
theorem LayCh.io {sh : Nat → Sh} {ρ : Nat} (h : LayCh sh ρ) : IsObj sh ρ "CarpetCounter$Choice" := ⟨_, _, h.f0, List.cons_ne_nil _ _, rfl⟩
def lay_Cc (ρ i : Nat) : Sh :=
  if i = 0 then .inl (8, [some (some (ρ + 1)), some (some (ρ + 49)), some (some (ρ + 97)), some (some (ρ + 145)), some (some (ρ + 193)), some (some (ρ + 387)), some (some (ρ + 409)), none]) else
  if i < 49 then lay_Bk (ρ + 1) (i - 1) else
  if i < 97 then lay_Bk (ρ + 49) (i - 49) else
  if i < 145 then lay_Bk (ρ + 97) (i - 97) else
  if i < 193 then lay_Bk (ρ + 145) (i - 145) else
  if i < 387 then lay_Hi (ρ + 193) (i - 193) else
  if i < 409 then lay_Te (ρ + 387) (i - 387) else
  if i < 410 then lay_Ch (ρ + 409) (i - 409) else
  sh0
def LayCc (sh : Nat → Sh) (ρ : Nat) : Prop := ∀ i, i < 410 → sh (ρ + i) = lay_Cc ρ i
theorem LayCc.f0 {sh : Nat → Sh} {ρ : Nat} (h : LayCc sh ρ) : sh ρ = .inl (8, [some (some (ρ + 1)), some (some (ρ + 49)), some (some (ρ + 97)), some (some (ρ + 145)), some (some (ρ + 193)), some (some (ρ + 387)), some (some (ρ + 409)), none]) := h 0 (by decide)
theorem LayCc.s1 {sh : Nat → Sh} {ρ : Nat} (h : LayCc sh ρ) : LayBk sh (ρ + 1) := by
  intro i hi
  have h1 := h (1 + i) (by omega)
  rw [show ρ + (1 + i) = ρ + 1 + i by omega] at h1
  rw [h1]
  unfold lay_Cc
  rw [if_neg (show ¬ 1 + i = 0 by omega), if_pos (show 1 + i < 49 by omega), show 1 + i - 1 = i by omega]
theorem LayCc.s49 {sh : Nat → Sh} {ρ : Nat} (h : LayCc sh ρ) : LayBk sh (ρ + 49) := by
  intro i hi
  have h1 := h (49 + i) (by omega)
  rw [show ρ + (49 + i) = ρ + 49 + i by omega] at h1
  rw [h1]
  unfold lay_Cc
  rw [if_neg (show ¬ 49 + i = 0 by omega), if_neg (show ¬ 49 + i < 49 by omega), if_pos (show 49 + i < 97 by omega), show 49 + i - 49 = i by omega]
theorem LayCc.s97 {sh : Nat → Sh} {ρ : Nat} (h : LayCc sh ρ) : LayBk sh (ρ + 97) := by
  intro i hi
  have h1 := h (97 + i) (by omega)
  rw [show ρ + (97 + i) = ρ + 97 + i by omega] at h1
  rw [h1]
  unfold lay_Cc
  rw [if_neg (show ¬ 97 + i = 0 by omega), if_neg (show ¬ 97 + i < 49 by omega), if_neg (show ¬ 97 + i < 97 by omega), if_pos (show 97 + i < 145 by omega), show 97 + i - 97 = i by omega]
theorem LayCc.s145 {sh : Nat → Sh} {ρ : Nat} (h : LayCc sh ρ) : LayBk sh (ρ + 145) := by
  intro i hi
  have h1 := h (145 + i) (by omega)
  rw [show ρ + (145 + i) = ρ + 145 + i by omega] at h1
  rw [h1]
  unfold lay_Cc
  rw [if_neg (show ¬ 145 + i = 0 by omega), if_neg (show ¬ 145 + i < 49 by omega), if_neg (show ¬ 145 + i < 97 by omega), if_neg (show ¬ 145 + i < 145 by omega), if_pos (show 145 + i < 193 by omega), show 145 + i - 145 = i by omega]
theorem LayCc.s193 {sh : Nat → Sh} {ρ : Nat} (h : LayCc sh ρ) : LayHi sh (ρ + 193) := by
  intro i hi
  have h1 := h (193 + i) (by omega)
  rw [show ρ + (193 + i) = ρ + 193 + i by omega] at h1
  rw [h1]
  unfold lay_Cc
  rw [if_neg (show ¬ 193 + i = 0 by omega), if_neg (show ¬ 193 + i < 49 by omega), if_neg (show ¬ 193 + i < 97 by omega), if_neg (show ¬ 193 + i < 145 by omega), if_neg (show ¬ 193 + i < 193 by omega), if_pos (show 193 + i < 387 by omega), show 193 + i - 193 = i by omega]
theorem LayCc.s387 {sh : Nat → Sh} {ρ : Nat} (h : LayCc sh ρ) : LayTe sh (ρ + 387) := by
  intro i hi
  have h1 := h (387 + i) (by omega)
  rw [show ρ + (387 + i) = ρ + 387 + i by omega] at h1
  rw [h1]
  unfold lay_Cc
  rw [if_neg (show ¬ 387 + i = 0 by omega), if_neg (show ¬ 387 + i < 49 by omega), if_neg (show ¬ 387 + i < 97 by omega), if_neg (show ¬ 387 + i < 145 by omega), if_neg (show ¬ 387 + i < 193 by omega), if_neg (show ¬ 387 + i < 387 by omega), if_pos (show 387 + i < 409 by omega), show 387 + i - 387 = i by omega]
theorem LayCc.s409 {sh : Nat → Sh} {ρ : Nat} (h : LayCc sh ρ) : LayCh sh (ρ + 409) := by
  intro i hi
  have h1 := h (409 + i) (by omega)
  rw [show ρ + (409 + i) = ρ + 409 + i by omega] at h1
  rw [h1]
  unfold lay_Cc
  rw [if_neg (show ¬ 409 + i = 0 by omega), if_neg (show ¬ 409 + i < 49 by omega), if_neg (show ¬ 409 + i < 97 by omega), if_neg (show ¬ 409 + i < 145 by omega), if_neg (show ¬ 409 + i < 193 by omega), if_neg (show ¬ 409 + i < 387 by omega), if_neg (show ¬ 409 + i < 409 by omega), if_pos (show 409 + i < 410 by omega), show 409 + i - 409 = i by omega]
theorem LayCc.io {sh : Nat → Sh} {ρ : Nat} (h : LayCc sh ρ) : IsObj sh ρ "CarpetCounter" := ⟨_, _, h.f0, List.cons_ne_nil _ _, rfl⟩
def lay_Mo (ρ i : Nat) : Sh :=
  if i = 0 then .inl (9, [some (some (ρ + 1)), some (some (ρ + 2)), some (some (ρ + 3)), some (some (ρ + 4)), some (some (ρ + 5)), some (some (ρ + 6)), some (some (ρ + 7)), none, none, none, none, none, none, none, none]) else
  if i = 1 then .inr (.inl 1953) else
  if i = 2 then .inr (.inl 1953) else
  if i = 3 then .inr (.inl 1953) else
  if i = 4 then .inr (.inl 1953) else
  if i = 5 then .inr (.inl 7812) else
  if i = 6 then .inr (.inl 60) else
  if i = 7 then .inr (.inl 8) else
  sh0
def LayMo (sh : Nat → Sh) (ρ : Nat) : Prop := ∀ i, i < 8 → sh (ρ + i) = lay_Mo ρ i
theorem LayMo.f0 {sh : Nat → Sh} {ρ : Nat} (h : LayMo sh ρ) : sh ρ = .inl (9, [some (some (ρ + 1)), some (some (ρ + 2)), some (some (ρ + 3)), some (some (ρ + 4)), some (some (ρ + 5)), some (some (ρ + 6)), some (some (ρ + 7)), none, none, none, none, none, none, none, none]) := h 0 (by decide)
theorem LayMo.f1 {sh : Nat → Sh} {ρ : Nat} (h : LayMo sh ρ) : sh (ρ + 1) = .inr (.inl 1953) := h 1 (by decide)
theorem LayMo.f2 {sh : Nat → Sh} {ρ : Nat} (h : LayMo sh ρ) : sh (ρ + 2) = .inr (.inl 1953) := h 2 (by decide)
theorem LayMo.f3 {sh : Nat → Sh} {ρ : Nat} (h : LayMo sh ρ) : sh (ρ + 3) = .inr (.inl 1953) := h 3 (by decide)
theorem LayMo.f4 {sh : Nat → Sh} {ρ : Nat} (h : LayMo sh ρ) : sh (ρ + 4) = .inr (.inl 1953) := h 4 (by decide)
theorem LayMo.f5 {sh : Nat → Sh} {ρ : Nat} (h : LayMo sh ρ) : sh (ρ + 5) = .inr (.inl 7812) := h 5 (by decide)
theorem LayMo.f6 {sh : Nat → Sh} {ρ : Nat} (h : LayMo sh ρ) : sh (ρ + 6) = .inr (.inl 60) := h 6 (by decide)
theorem LayMo.f7 {sh : Nat → Sh} {ρ : Nat} (h : LayMo sh ρ) : sh (ρ + 7) = .inr (.inl 8) := h 7 (by decide)
theorem LayMo.io {sh : Nat → Sh} {ρ : Nat} (h : LayMo sh ρ) : IsObj sh ρ "CarpetCounterModel" := ⟨_, _, h.f0, List.cons_ne_nil _ _, rfl⟩
theorem row_io {sh : Nat → Sh} {o a : Nat} (h : sh o = .inl (7, [some (some a)])) : IsObj sh o "CarpetCounter$Row" := ⟨_, _, h, List.cons_ne_nil _ _, rfl⟩
end
section
/-! numbers; Row -/
theorem inc1 (a : Nat) : nI a + Int32.ofInt 1 = nI (a + 1) := nI_1 a
theorem nz {a : Nat} : (nI a < nI 0) = (nI a < 0) := rfl
theorem z0nI : (0 : Int32) = nI 0 := rfl
def rAt (f : Nat → Int32) (n : Nat) (p : Int32) : Int32 := if p < 0 ∨ n ≤ p.toNatClampNeg then nI 0 else f p.toNatClampNeg
theorem rAt_in {f : Nat → Int32} {n i : Nat} (h : i < n ∧ n ≤ 7812) : rAt f n (nI i) = f i := by
  unfold rAt
  rw [if_neg (vp_in_nI h.1 (by omega)), nI_clamp (by omega)]
theorem vp_of {p : Int32} {n : Nat} (hn : n ≤ 7812) (h0 : ¬ p < 0) (h1 : ¬ nI n ≤ p) : vp_in p n := by
  rcases pk_ix p (n := n) (by omega) with h | h | ⟨j, hj, rfl⟩
  · exact absurd h h0
  · exact absurd h h1
  · exact vp_in_nI hj (by omega)
theorem vp_out {p : Int32} {n : Nat} (hn : n ≤ 7812) (h1 : nI n ≤ p) : p < 0 ∨ n ≤ p.toNatClampNeg := by
  by_cases h : p < 0 ∨ n ≤ p.toNatClampNeg
  · exact h
  · exfalso
    have h2 := (vp_in_iff (x := p) (n := n)).mp h
    have h3 := Int32.le_iff_toInt_le.mp h1
    rw [nI_toInt (by omega)] at h3
    omega
theorem x_begin {l : Launch} {g : XG} {M : Mt} {N : Option Nat} {sh : Nat → Sh} {mem : Mem} {Q : XP} {as : List Value} {L0 : List (Option Value)} (hL0 : as.map some ++ List.replicate (M.2.2.2.1 - as.length) none = L0) (hcat : as.all (fun v => Nat.beq v.category 1) = true) (hlen : Nat.ble as.length M.2.2.2.1 = true) (hy : plainName M.2.1.cls = true) (hown : M.1 = M.2.1.cls) (h : X l g M (XF g Q M) 0 L0 [] N sh mem 0 0) : Ct l g M as N sh mem Q :=
  x_enter hL0 (fun v hv => Nat.eq_of_beq_eq_true (List.all_eq_true.mp hcat v hv)) (Nat.le_of_ble_eq_true hlen) hy hown h
def shl (mem : Mem) (a i n : Nat) : Mem := fun o j => if o = a then (if i ≤ j ∧ j + 1 < n then mem a (j + 1) else mem o j) else mem o j
def sm (f : Nat → Int32) : Nat → Int32
  | 0 => nI 0
  | n + 1 => sm f n + f n
section
variable {l : Launch} {g : XG} {N : Option Nat} {sh : Nat → Sh} {mem : Mem} {o a n : Nat}
theorem ct_Rw_atg (h1 : sh o = .inl (7, [some (some a)])) (h2 : sh a = .inr (.inl n)) (hn : n ≤ 7812) {p : Int32} : Ct l g M_Rw_at [rf g o, .int p] N sh mem (Pq (.int (rAt (mem a) n p)) N sh mem) := by
  refine x_begin rfl rfl rfl (by decide) rfl ?_
  refine x_iload_n d_Rw_at_0 rfl ?_
  refine x_if_lt (tgt := 22) d_Rw_at_1 (by decide) (fun c1 => ?_) (fun c1 => ?_)
  · refine x_iconst (v := nI 0) d_Rw_at_22 (by decide) ?_
    refine x_iret rfl rfl d_Rw_at_23 (Nat.zero_le _) (Nat.zero_le _) ?_
    exact ⟨by first | (rw [rAt, if_neg (vp_of hn c1 c10)]; done) | (rw [rAt, if_pos (Or.inl c1)]; done) | (rw [rAt, if_pos (vp_out hn c10)]; done), rfl, rfl, rfl⟩
  · refine x_iload_n d_Rw_at_4 rfl ?_
    refine x_aload_n d_Rw_at_5 rfl ?_
    refine x_getR h1 rfl fs_Rw_7 d_Rw_at_6 ?_
    refine x_alen h2 d_Rw_at_9 ?_
    refine x_icmp_ge (tgt := 22) d_Rw_at_10 (by decide) (fun c10 => ?_) (fun c10 => ?_)
    · refine x_iconst (v := nI 0) d_Rw_at_22 (by decide) ?_
      refine x_iret rfl rfl d_Rw_at_23 (Nat.zero_le _) (Nat.zero_le _) ?_
      exact ⟨by first | (rw [rAt, if_neg (vp_of hn c1 c10)]; done) | (rw [rAt, if_pos (Or.inl c1)]; done) | (rw [rAt, if_pos (vp_out hn c10)]; done), rfl, rfl, rfl⟩
    · refine x_aload_n d_Rw_at_13 rfl ?_
      refine x_getR h1 rfl fs_Rw_7 d_Rw_at_14 ?_
      refine x_iload_n d_Rw_at_17 rfl ?_
      refine x_iald h2 (vp_of hn c1 c10) d_Rw_at_18 ?_
      refine x_goto (tgt := 23) d_Rw_at_19 (by decide) ?_
      refine x_iret rfl rfl d_Rw_at_23 (Nat.zero_le _) (Nat.zero_le _) ?_
      exact ⟨by first | (rw [rAt, if_neg (vp_of hn c1 c10)]; done) | (rw [rAt, if_pos (Or.inl c1)]; done) | (rw [rAt, if_pos (vp_out hn c10)]; done), rfl, rfl, rfl⟩
theorem ct_Rw_at (h1 : sh o = .inl (7, [some (some a)])) (h2 : sh a = .inr (.inl n)) {i : Nat} (hi : i < n ∧ n ≤ 7812) : Ct l g M_Rw_at [rf g o, .int (nI i)] N sh mem (Pq (.int (mem a i)) N sh mem) := by
  have h := ct_Rw_atg (l := l) (g := g) (N := N) (mem := mem) h1 h2 hi.2 (p := nI i)
  rw [rAt_in hi] at h
  exact h
theorem ct_Rw_put (h1 : sh o = .inl (7, [some (some a)])) (h2 : sh a = .inr (.inl n)) {i : Nat} {v : Int32} (hi : i < n ∧ n ≤ 7812) : Ct l g M_Rw_put [rf g o, .int (nI i), .int v] N sh mem (Rv N sh (fun m => m = um mem a i v)) := by
  refine x_begin rfl rfl rfl (by decide) rfl ?_
  refine x_iload_n d_Rw_put_0 rfl ?_
  refine x_if_lt (tgt := 20) d_Rw_put_1 (by decide) (fun c1 => ?_) (fun c1 => ?_)
  · exact absurd c1 (nI_pos (by omega))
  · refine x_iload_n d_Rw_put_4 rfl ?_
    refine x_aload_n d_Rw_put_5 rfl ?_
    refine x_getR h1 rfl fs_Rw_7 d_Rw_put_6 ?_
    refine x_alen h2 d_Rw_put_9 ?_
    refine x_icmp_ge (tgt := 20) d_Rw_put_10 (by decide) (fun c10 => ?_) (fun c10 => ?_)
    · exact absurd c10 (nI_ge hi.1 (by omega))
    · refine x_aload_n d_Rw_put_13 rfl ?_
      refine x_getR h1 rfl fs_Rw_7 d_Rw_put_14 ?_
      refine x_iload_n d_Rw_put_17 rfl ?_
      refine x_iload_n d_Rw_put_18 rfl ?_
      refine x_iast h2 (vp_of hi.2 c1 c10) d_Rw_put_19 ?_
      refine x_vret rfl d_Rw_put_20 (Nat.zero_le _) (Nat.zero_le _) ?_
      exact ⟨rfl, rfl, rfl, by rw [nI_clamp (by omega)]⟩
theorem ct_Rw_add (h1 : sh o = .inl (7, [some (some a)])) (h2 : sh a = .inr (.inl n)) {i : Nat} {v : Int32} (hi : i < n ∧ n ≤ 7812) : Ct l g M_Rw_add [rf g o, .int (nI i), .int v] N sh mem (Rv N sh (fun m => m = um mem a i (mem a i + v))) := by
  refine x_begin rfl rfl rfl (by decide) rfl ?_
  refine x_iload_n d_Rw_add_0 rfl ?_
  refine x_if_lt (tgt := 23) d_Rw_add_1 (by decide) (fun c1 => ?_) (fun c1 => ?_)
  · exact absurd c1 (nI_pos (by omega))
  · refine x_iload_n d_Rw_add_4 rfl ?_
    refine x_aload_n d_Rw_add_5 rfl ?_
    refine x_getR h1 rfl fs_Rw_7 d_Rw_add_6 ?_
    refine x_alen h2 d_Rw_add_9 ?_
    refine x_icmp_ge (tgt := 23) d_Rw_add_10 (by decide) (fun c10 => ?_) (fun c10 => ?_)
    · exact absurd c10 (nI_ge hi.1 (by omega))
    · refine x_aload_n d_Rw_add_13 rfl ?_
      refine x_getR h1 rfl fs_Rw_7 d_Rw_add_14 ?_
      refine x_iload_n d_Rw_add_17 rfl ?_
      refine x_dup2 d_Rw_add_18 rfl rfl ?_
      refine x_iald h2 (vp_of hi.2 c1 c10) d_Rw_add_19 ?_
      refine x_iload_n d_Rw_add_20 rfl ?_
      refine x_iadd d_Rw_add_21 ?_
      refine x_iast h2 (vp_of hi.2 c1 c10) d_Rw_add_22 ?_
      refine x_vret rfl d_Rw_add_23 (Nat.zero_le _) (Nat.zero_le _) ?_
      exact ⟨rfl, rfl, rfl, by rw [nI_clamp (by omega)]⟩
theorem shl_step (mem : Mem) {a i j : Nat} (hj : i ≤ j) : um (shl mem a i (j + 1)) a j (shl mem a i (j + 1) a (j + 1)) = shl mem a i (j + 2) := by
  funext o k
  unfold um shl
  by_cases ho : o = a
  · subst ho
    by_cases hk : k = j
    · subst hk
      simp only [if_true]
      rw [if_neg (by omega), if_pos (by omega)]
    · simp only [if_true, if_neg hk]
      by_cases h2 : i ≤ k ∧ k + 1 < j + 1
      · rw [if_pos h2, if_pos (by omega)]
      · rw [if_neg h2, if_neg (by omega)]
  · simp only [if_neg ho]
theorem shl_0 (mem : Mem) (a i : Nat) : shl mem a i (i + 1) = mem := by
  funext o k
  unfold shl
  by_cases ho : o = a
  · rw [if_pos ho, if_neg (by omega)]
  · rw [if_neg ho]
theorem ct_Rw_removeAt (h1 : sh o = .inl (7, [some (some a)])) (h2 : sh a = .inr (.inl n)) {i : Nat} (hi : i < n ∧ n ≤ 7812) : Ct l g M_Rw_removeAt [rf g o, .int (nI i)] N sh mem (Rv N sh (fun m => m = shl mem a i n)) := by
  refine x_begin rfl rfl rfl (by decide) rfl ?_
  refine x_iload_n d_Rw_removeAt_0 rfl ?_
  refine x_if_ge (tgt := 8) d_Rw_removeAt_1 (by decide) (fun c1 => ?_) (fun c1 => ?_)
  · refine x_iload_n d_Rw_removeAt_8 rfl ?_
    refine x_istore_n d_Rw_removeAt_9 (by decide) ?_
    have lp := up_ind (n - 1) (P := fun j => i ≤ j → X l g M_Rw_removeAt (XF g (Rv N sh (fun m => m = shl mem a i n)) M_Rw_removeAt) 10 [some (rf g o), some (.int (nI i)), some (.int (nI j))] [] N sh (shl mem a i (j + 1)) 0 0) (fun j hj ih hij => ?_)
    · have h := lp i (by omega) (Nat.le_refl i)
      rw [shl_0] at h
      exact h
    · refine x_iload_n d_Rw_removeAt_10 rfl ?_
      refine x_aload_n d_Rw_removeAt_11 rfl ?_
      refine x_getR h1 rfl fs_Rw_7 d_Rw_removeAt_12 ?_
      refine x_alen h2 d_Rw_removeAt_15 ?_
      refine x_iconst (v := nI 1) d_Rw_removeAt_16 (by decide) ?_
      refine x_isub d_Rw_removeAt_17 ?_
      rw [show nI n - nI 1 = nI (n - 1) from pk_sub (by omega)]
      refine x_icmp_ge (tgt := 41) d_Rw_removeAt_18 (by decide) (fun c18 => ?_) (fun c18 => ?_)
      · have hjn : j + 1 = n := by
          rcases Nat.lt_or_ge j (n - 1) with h | h
          · exact absurd c18 (nI_ge h (by omega))
          · omega
        refine x_vret rfl d_Rw_removeAt_41 (Nat.zero_le _) (Nat.zero_le _) ?_
        exact ⟨rfl, rfl, rfl, by rw [hjn]⟩
      · have hjn : j < n - 1 := Nat.lt_of_not_le fun h => c18 (nI_le h (by omega))
        refine x_aload_n d_Rw_removeAt_21 rfl ?_
        refine x_getR h1 rfl fs_Rw_7 d_Rw_removeAt_22 ?_
        refine x_iload_n d_Rw_removeAt_25 rfl ?_
        refine x_aload_n d_Rw_removeAt_26 rfl ?_
        refine x_getR h1 rfl fs_Rw_7 d_Rw_removeAt_27 ?_
        refine x_iload_n d_Rw_removeAt_30 rfl ?_
        refine x_iconst (v := nI 1) d_Rw_removeAt_31 (by decide) ?_
        refine x_iadd d_Rw_removeAt_32 ?_
        rw [nI_add]
        refine x_iald h2 (vp_in_nI (by omega) (by omega)) d_Rw_removeAt_33 ?_
        rw [nI_clamp (by omega)]
        refine x_iast h2 (vp_in_nI (by omega) (by omega)) d_Rw_removeAt_34 ?_
        rw [nI_clamp (by omega), shl_step mem hij]
        refine x_iinc d_Rw_removeAt_35 rfl (by first | exact inc1 _ | rfl) (by decide) ?_
        refine x_goto (tgt := 10) d_Rw_removeAt_38 (by decide) ?_
        exact ih (by omega) (by omega)
  · exact absurd (nI_pos' (by omega)) c1
theorem ct_Rw_sum (h1 : sh o = .inl (7, [some (some a)])) (h2 : sh a = .inr (.inl n)) (hn : n ≤ 7812) : Ct l g M_Rw_sum [rf g o] N sh mem (Pq (.int (sm (mem a) n)) N sh mem) := by
  refine x_begin rfl rfl rfl (by decide) rfl ?_
  refine x_iconst (v := nI 0) d_Rw_sum_0 (by decide) ?_
  refine x_istore_n d_Rw_sum_1 (by decide) ?_
  refine x_iconst (v := nI 0) d_Rw_sum_2 (by decide) ?_
  refine x_istore_n d_Rw_sum_3 (by decide) ?_
  have lp := up_ind n (P := fun j => X l g M_Rw_sum (XF g (Pq (.int (sm (mem a) n)) N sh mem) M_Rw_sum) 4 [some (rf g o), some (.int (sm (mem a) j)), some (.int (nI j))] [] N sh mem 0 0) (fun j hj ih => ?_)
  · exact lp 0 (Nat.zero_le _)
  · refine x_iload_n d_Rw_sum_4 rfl ?_
    refine x_aload_n d_Rw_sum_5 rfl ?_
    refine x_getR h1 rfl fs_Rw_7 d_Rw_sum_6 ?_
    refine x_alen h2 d_Rw_sum_9 ?_
    refine x_icmp_ge (tgt := 28) d_Rw_sum_10 (by decide) (fun c10 => ?_) (fun c10 => ?_)
    · have hjn : j = n := by
        rcases Nat.lt_or_ge j n with h | h
        · exact absurd c10 (nI_ge h (by omega))
        · omega
      refine x_iload_n d_Rw_sum_28 rfl ?_
      refine x_iret rfl rfl d_Rw_sum_29 (Nat.zero_le _) (Nat.zero_le _) ?_
      exact ⟨by rw [hjn], rfl, rfl, rfl⟩
    · have hjn : j < n := Nat.lt_of_not_le fun h => c10 (nI_le h (by omega))
      refine x_iload_n d_Rw_sum_13 rfl ?_
      refine x_aload_n d_Rw_sum_14 rfl ?_
      refine x_getR h1 rfl fs_Rw_7 d_Rw_sum_15 ?_
      refine x_iload_n d_Rw_sum_18 rfl ?_
      refine x_iald h2 (vp_in_nI hjn (by omega)) d_Rw_sum_19 ?_
      rw [nI_clamp (by omega)]
      refine x_iadd d_Rw_sum_20 ?_
      refine x_istore_n d_Rw_sum_21 (by decide) ?_
      refine x_iinc d_Rw_sum_22 rfl (by first | exact inc1 _ | rfl) (by decide) ?_
      refine x_goto (tgt := 4) d_Rw_sum_25 (by decide) ?_
      exact ih (by omega)
theorem ct_Rw_copyFrom {o2 a2 : Nat} (h1 : sh o = .inl (7, [some (some a)])) (h2 : sh a = .inr (.inl n)) (k1 : sh o2 = .inl (7, [some (some a2)])) (k2 : sh a2 = .inr (.inl n)) (hn : n ≤ 7812) : Ct l g M_Rw_copyFrom [rf g o, rf g o2] none sh mem (Rv none sh (fun m => m = cpm mem a2 a n)) := by
  refine x_begin rfl rfl rfl (by decide) rfl ?_
  refine x_aload_n d_Rw_copyFrom_0 rfl ?_
  refine x_getR k1 rfl fs_Rw_7 d_Rw_copyFrom_1 ?_
  refine x_iconst (v := nI 0) d_Rw_copyFrom_4 (by decide) ?_
  refine x_aload_n d_Rw_copyFrom_5 rfl ?_
  refine x_getR h1 rfl fs_Rw_7 d_Rw_copyFrom_6 ?_
  refine x_iconst (v := nI 0) d_Rw_copyFrom_9 (by decide) ?_
  refine x_aload_n d_Rw_copyFrom_10 rfl ?_
  refine x_getR k1 rfl fs_Rw_7 d_Rw_copyFrom_11 ?_
  refine x_alen k2 d_Rw_copyFrom_14 ?_
  refine x_aload_n d_Rw_copyFrom_15 rfl ?_
  refine x_getR h1 rfl fs_Rw_7 d_Rw_copyFrom_16 ?_
  refine x_alen h2 d_Rw_copyFrom_19 ?_
  refine x_min ml_Rw_13 j_min1 j_math j_min2 d_Rw_copyFrom_20 (Nat.le_of_ble_eq_true rfl) (Nat.le_of_ble_eq_true rfl) (Nat.zero_le _) (Nat.zero_le _) ?_
  rw [show (if nI n < nI n then nI n else nI n) = nI n from ite_self _]
  refine x_copy0 ml_Rw_19 k2 h2 (nI_pos (by omega)) (by rw [nI_clamp (by omega)]; exact Nat.le_refl n) (by rw [nI_clamp (by omega)]; exact Nat.le_refl n) d_Rw_copyFrom_23 (Nat.le_of_ble_eq_true rfl) (Nat.le_of_ble_eq_true rfl) ?_
  rw [nI_clamp (by omega)]
  refine x_vret rfl d_Rw_copyFrom_26 (Nat.zero_le _) (Nat.zero_le _) ?_
  exact ⟨rfl, rfl, rfl, rfl⟩
end
end
section
/-! truth as a number; small numbers; frames -/
def bI (c : Prop) [Decidable c] : Int32 := if c then nI 1 else nI 0
theorem bI_t {c : Prop} [Decidable c] (h : c) : bI c = nI 1 := if_pos h
theorem bI_f {c : Prop} [Decidable c] (h : ¬ c) : bI c = nI 0 := if_neg h
theorem bI_0 {c : Prop} [Decidable c] : bI c = 0 ↔ ¬ c := by
  unfold bI
  split
  · rename_i h
    exact ⟨fun q => absurd q (by decide), fun q => absurd h q⟩
  · rename_i h
    exact ⟨fun _ => h, fun _ => rfl⟩
theorem bI_n {c : Prop} [Decidable c] : ¬ bI c = 0 ↔ c := by
  rw [bI_0]
  exact Decidable.not_not
theorem bI_c {c d : Prop} [Decidable c] [Decidable d] (h : c ↔ d) : bI c = bI d := by
  unfold bI
  by_cases hc : c
  · rw [if_pos hc, if_pos (h.mp hc)]
  · rw [if_neg hc, if_neg (fun q => hc (h.mpr q))]
theorem bI_nar {c : Prop} [Decidable c] : narrow .boolean (.int (bI c)) = .int (bI c) := by
  unfold bI
  split <;> decide
def oI (o : Option Nat) : Int32 := match o with
  | some i => nI i
  | none => -5
theorem oI_neg {i : Nat} (h : i < 2 ^ 31) : ¬ (oI (some i) < 0) := nI_pos h
theorem oI_none : oI none < 0 := by decide
theorem shl_o0 (m : Mem) {a o i n j : Nat} (h : o ≠ a) : shl m a i n o j = m o j := by simp only [shl, if_neg h]
def Fr (lo hi : Nat) (mem mem' : Mem) : Prop := ∀ o, (o < lo ∨ hi ≤ o) → mem' o = mem o
theorem Fr.rf {lo hi : Nat} {mem : Mem} : Fr lo hi mem mem := fun _ _ => rfl
theorem Fr.tr {lo hi : Nat} {m1 m2 m3 : Mem} (h : Fr lo hi m1 m2) (k : Fr lo hi m2 m3) : Fr lo hi m1 m3 := fun o ho => (k o ho).trans (h o ho)
theorem Fr.up {lo hi lo' hi' : Nat} {m1 m2 : Mem} (h : Fr lo hi m1 m2) (h1 : lo' ≤ lo) (h2 : hi ≤ hi') : Fr lo' hi' m1 m2 := fun o ho => h o (by omega)
theorem Fr.um {lo hi a k : Nat} {m : Mem} {x : Int32} (h1 : lo ≤ a) (h2 : a < hi) : Fr lo hi m (um m a k x) := fun o ho => um_ne m k x (by omega)
theorem Fr.shl {lo hi a i n : Nat} {m : Mem} (h1 : lo ≤ a) (h2 : a < hi) : Fr lo hi m (shl m a i n) := fun o ho => by
  funext j
  have h3 : o ≠ a := by omega
  exact shl_o0 m h3
theorem Fr.cpm {lo hi a b n : Nat} {m : Mem} (h1 : lo ≤ b) (h2 : b < hi) : Fr lo hi m (cpm m a b n) := fun o ho => if_neg (by omega)
theorem um_eq (m : Mem) (a k : Nat) (x : Int32) : um m a k x a k = x := by simp only [um, if_true]
theorem um_k (m : Mem) {a k j : Nat} (x : Int32) (h : j ≠ k) : um m a k x a j = m a j := by simp only [um, if_true, if_neg h]
theorem um_o (m : Mem) {a o k j : Nat} (x : Int32) (h : o ≠ a) : um m a k x o j = m o j := by simp only [um, if_neg h]
theorem shl_ge (m : Mem) {a i n j : Nat} (h : i ≤ j) (h2 : j + 1 < n) : shl m a i n a j = m a (j + 1) := by simp only [shl, if_true, if_pos (And.intro h h2)]
theorem shl_lt (m : Mem) {a i n j : Nat} (h : j < i) : shl m a i n a j = m a j := by simp only [shl, if_true, if_neg (show ¬ (i ≤ j ∧ j + 1 < n) by omega)]
theorem shl_o (m : Mem) {a o i n j : Nat} (h : o ≠ a) : shl m a i n o j = m o j := by simp only [shl, if_neg h]
theorem cpm_in (m : Mem) {a b n j : Nat} (h : j < n) : cpm m a b n b j = m a j := by
  simp only [cpm, if_true]
  rw [pk_cpy_in (Nat.zero_le j) (by omega)]
  simp
theorem cpm_o (m : Mem) {a b o n : Nat} (h : o ≠ b) : cpm m a b n o = m o := if_neg h
theorem nI_le' {a b : Nat} (ha : a < 2 ^ 31) (hb : b < 2 ^ 31) (h : nI a ≤ nI b) : a ≤ b := (nI_leI ha hb).mp h
theorem nI_nle' {a b : Nat} (ha : a < 2 ^ 31) (hb : b < 2 ^ 31) (h : ¬ nI a ≤ nI b) : b < a := Nat.lt_of_not_le fun q => h ((nI_leI ha hb).mpr q)
theorem nI_lt' {a b : Nat} (ha : a < 2 ^ 31) (hb : b < 2 ^ 31) (h : nI a < nI b) : a < b := (nI_ltI ha hb).mp h
theorem nI_nlt' {a b : Nat} (ha : a < 2 ^ 31) (hb : b < 2 ^ 31) (h : ¬ nI a < nI b) : b ≤ a := Nat.le_of_not_lt fun q => h ((nI_ltI ha hb).mpr q)
theorem nI_eq' {a b : Nat} (ha : a < 2 ^ 31) (hb : b < 2 ^ 31) (h : nI a = nI b) : a = b := (nI_eq ha hb).mp h
theorem nI_ne' {a b : Nat} (h : ¬ nI a = nI b) : a ≠ b := fun q => h (by rw [q])
theorem mul_b {a b A B : Nat} (h : a ≤ A) (k : b ≤ B) : a * b ≤ A * B := Nat.mul_le_mul h k
end
section
/-! Offcuts: a list of (number, roll, width, length) -/
abbrev OE : Type := Nat × Nat × Nat × Nat
def eN (E : List OE) (i : Nat) : Nat := ((E[i]?).getD (0, 0, 0, 0)).1
def eR (E : List OE) (i : Nat) : Nat := ((E[i]?).getD (0, 0, 0, 0)).2.1
def eW (E : List OE) (i : Nat) : Nat := ((E[i]?).getD (0, 0, 0, 0)).2.2.1
def eL (E : List OE) (i : Nat) : Nat := ((E[i]?).getD (0, 0, 0, 0)).2.2.2
def eA (E : List OE) (i : Nat) : Nat := eW E i * eL E i
def OfRep (mem : Mem) (ρ : Nat) (E : List OE) (cut : Nat) : Prop := E.length ≤ 60 ∧ cut ≤ 300 ∧ mem ρ 0 = nI E.length ∧ mem ρ 1 = nI cut ∧ ∀ i, i < E.length → (eN E i < 300 ∧ eR E i < 12 ∧ eW E i ≤ 60 ∧ eL E i ≤ 60) ∧ mem (ρ + 2) i = nI (eN E i) ∧ mem (ρ + 4) i = nI (eR E i) ∧ mem (ρ + 6) i = nI (eW E i) ∧ mem (ρ + 8) i = nI (eL E i)
def cnt (p : Nat → Bool) : Nat → Nat
  | 0 => 0
  | j + 1 => cnt p j + (if p j then 1 else 0)
def sN (f : Nat → Nat) : Nat → Nat
  | 0 => 0
  | j + 1 => sN f j + f j
def ff (p : Nat → Bool) : Nat → Nat → Option Nat
  | 0, _ => none
  | n + 1, i => if p i then some i else ff p n (i + 1)
theorem ff_t {p : Nat → Bool} {n i : Nat} (hi : i < n) (h : p i = true) : ff p (n - i) i = some i := by
  obtain ⟨k, hk⟩ : ∃ k, n - i = k + 1 := ⟨n - i - 1, by omega⟩
  rw [hk]
  simp only [ff, h, if_true]
theorem ff_f {p : Nat → Bool} {n i : Nat} (hi : i < n) (h : p i = false) : ff p (n - i) i = ff p (n - (i + 1)) (i + 1) := by
  obtain ⟨k, hk⟩ : ∃ k, n - i = k + 1 := ⟨n - i - 1, by omega⟩
  rw [hk, show n - (i + 1) = k by omega]
  simp only [ff, h]
  rfl
theorem ff_e {p : Nat → Bool} {n i : Nat} (hi : n ≤ i) : ff p (n - i) i = none := by
  rw [show n - i = 0 by omega]
  rfl
theorem ff_lt {p : Nat → Bool} : ∀ (n i j : Nat), ff p n i = some j → i ≤ j ∧ j < i + n ∧ p j = true
  | 0, i, j, h => by cases h
  | n + 1, i, j, h => by
    unfold ff at h
    split at h
    · rename_i h1
      cases h
      exact ⟨Nat.le_refl _, by omega, h1⟩
    · obtain ⟨h1, h2, h3⟩ := ff_lt n (i + 1) j h
      exact ⟨by omega, by omega, h3⟩
def fit (E : List OE) (r w l i : Nat) : Bool := decide (eR E i = r) && (decide (w ≤ eW E i) && decide (l ≤ eL E i))
def pfo (E : List OE) (r w l : Nat) : Nat → Option Nat
  | 0 => none
  | j + 1 => if fit E r w l j then (match pfo E r w l j with
    | none => some j
    | some b => if eA E j < eA E b then some j else some b) else pfo E r w l j
theorem pfo_lt {E : List OE} {r w l : Nat} : ∀ (j b : Nat), pfo E r w l j = some b → b < j ∧ fit E r w l b = true
  | 0, b, h => by cases h
  | j + 1, b, h => by
    unfold pfo at h
    split at h
    · rename_i h1
      cases h2 : pfo E r w l j with
      | none => rw [h2] at h; cases h; exact ⟨by omega, h1⟩
      | some q =>
        rw [h2] at h
        have h3 := pfo_lt j q h2
        dsimp only at h
        split at h <;> cases h
        · exact ⟨by omega, h1⟩
        · exact ⟨by omega, h3.2⟩
    · have := pfo_lt j b h
      exact ⟨by omega, this.2⟩
def rkp (E : List OE) (p j : Nat) : Bool := decide (eA E j < eA E p) || (decide (eA E j = eA E p) && decide (j < p))
def rnk (E : List OE) (p : Nat) : Nat := cnt (rkp E p) E.length
theorem OfRep.ar {mem : Mem} {ρ : Nat} {E : List OE} {cut : Nat} (h : OfRep mem ρ E cut) {i : Nat} (hi : i < E.length) : eA E i ≤ 3600 := mul_b (h.2.2.2.2 i hi).1.2.2.1 (h.2.2.2.2 i hi).1.2.2.2
theorem cnt_t {p : Nat → Bool} {j : Nat} (h : p j = true) : cnt p (j + 1) = cnt p j + 1 := by simp only [cnt, h, if_true]
theorem cnt_f {p : Nat → Bool} {j : Nat} (h : p j = false) : cnt p (j + 1) = cnt p j := by simp [cnt, h]
theorem cnt_le (p : Nat → Bool) : ∀ j, cnt p j ≤ j
  | 0 => Nat.le_refl 0
  | j + 1 => by have := cnt_le p j; unfold cnt; split <;> omega
section
variable {l : Launch} {g : XG} {sh : Nat → Sh} {mem : Mem} {ρ : Nat} {E : List OE} {cut : Nat}
theorem ct_Of_area (hO : LayOf sh ρ) (hR : OfRep mem ρ E cut) {i : Nat} (hi : i < E.length) : Ct l g M_Of_area [rf g ρ, .int (nI i)] none sh mem (Pq (.int (nI (eA E i))) none sh mem) := by
  obtain ⟨hlen, hcut, hk, hc, hE⟩ := hR
  obtain ⟨hb, h1, h2, h3, h4⟩ := hE i hi
  refine x_begin rfl rfl rfl (by decide) rfl ?_
  refine x_aload_n d_Of_area_0 rfl ?_
  refine x_getR hO.f0 rfl fs_Of_23 d_Of_area_1 ?_
  refine x_iload_n d_Of_area_4 rfl ?_
  refine x_v1p d_Of_area_5 ml_Of_43 v_Rw_at rfl ⟨rfl, rfl⟩ (row_io hO.f5) (Nat.le_of_ble_eq_true rfl) (ct_Rw_at hO.f5 hO.f6 (by omega)) ?_
  rw [h3]
  refine x_aload_n d_Of_area_8 rfl ?_
  refine x_getR hO.f0 rfl fs_Of_26 d_Of_area_9 ?_
  refine x_iload_n d_Of_area_12 rfl ?_
  refine x_v1p d_Of_area_13 ml_Of_43 v_Rw_at rfl ⟨rfl, rfl⟩ (row_io hO.f7) (Nat.le_of_ble_eq_true rfl) (ct_Rw_at hO.f7 hO.f8 (by omega)) ?_
  rw [h4]
  refine x_imul d_Of_area_16 ?_
  rw [pk_mul]
  refine x_iret rfl rfl d_Of_area_17 (Nat.zero_le _) (Nat.zero_le _) ?_
  exact ⟨rfl, rfl, rfl, rfl⟩
theorem ct_Of_holds (hO : LayOf sh ρ) (hR : OfRep mem ρ E cut) {i w k : Nat} (hi : i < E.length) (hw : w < 2 ^ 31) (hk2 : k < 2 ^ 31) : Ct l g M_Of_holds [rf g ρ, .int (nI i), .int (nI w), .int (nI k)] none sh mem (Pq (.int (bI (w ≤ eW E i ∧ k ≤ eL E i))) none sh mem) := by
  obtain ⟨hlen, hcut, hk, hc, hE⟩ := hR
  obtain ⟨hb, h1, h2, h3, h4⟩ := hE i hi
  refine x_begin rfl rfl rfl (by decide) rfl ?_
  refine x_aload_n d_Of_holds_0 rfl ?_
  refine x_getR hO.f0 rfl fs_Of_23 d_Of_holds_1 ?_
  refine x_iload_n d_Of_holds_4 rfl ?_
  refine x_v1p d_Of_holds_5 ml_Of_43 v_Rw_at rfl ⟨rfl, rfl⟩ (row_io hO.f5) (Nat.le_of_ble_eq_true rfl) (ct_Rw_at hO.f5 hO.f6 (by omega)) ?_
  rw [h3]
  refine x_iload_n d_Of_holds_8 rfl ?_
  refine x_icmp_lt (tgt := 28) d_Of_holds_9 (by decide) (fun c9 => ?_) (fun c9 => ?_)
  · have c9 := nI_lt' (by omega) (by omega) c9
    refine x_iconst (v := nI 0) d_Of_holds_28 (by decide) ?_
    refine x_iret rfl (by decide) d_Of_holds_29 (Nat.zero_le _) (Nat.zero_le _) ?_
    exact ⟨by first | (rw [bI_t (by omega)]; done) | (rw [bI_f (by omega)]; done), rfl, rfl, rfl⟩
  · have c9 := nI_nlt' (by omega) (by omega) c9
    refine x_aload_n d_Of_holds_12 rfl ?_
    refine x_getR hO.f0 rfl fs_Of_26 d_Of_holds_13 ?_
    refine x_iload_n d_Of_holds_16 rfl ?_
    refine x_v1p d_Of_holds_17 ml_Of_43 v_Rw_at rfl ⟨rfl, rfl⟩ (row_io hO.f7) (Nat.le_of_ble_eq_true rfl) (ct_Rw_at hO.f7 hO.f8 (by omega)) ?_
    rw [h4]
    refine x_iload_n d_Of_holds_20 rfl ?_
    refine x_icmp_lt (tgt := 28) d_Of_holds_21 (by decide) (fun c21 => ?_) (fun c21 => ?_)
    · have c21 := nI_lt' (by omega) (by omega) c21
      refine x_iconst (v := nI 0) d_Of_holds_28 (by decide) ?_
      refine x_iret rfl (by decide) d_Of_holds_29 (Nat.zero_le _) (Nat.zero_le _) ?_
      exact ⟨by first | (rw [bI_t (by omega)]; done) | (rw [bI_f (by omega)]; done), rfl, rfl, rfl⟩
    · have c21 := nI_nlt' (by omega) (by omega) c21
      refine x_iconst (v := nI 1) d_Of_holds_24 (by decide) ?_
      refine x_goto (tgt := 29) d_Of_holds_25 (by decide) ?_
      refine x_iret rfl (by decide) d_Of_holds_29 (Nat.zero_le _) (Nat.zero_le _) ?_
      exact ⟨by first | (rw [bI_t (by omega)]; done) | (rw [bI_f (by omega)]; done), rfl, rfl, rfl⟩
theorem ct_Of_keptOf (hO : LayOf sh ρ) (hR : OfRep mem ρ E cut) {r : Int32} : Ct l g M_Of_keptOf [rf g ρ, .int r] none sh mem (Pq (.int (nI (cnt (fun i => decide (nI (eR E i) = r)) E.length))) none sh mem) := by
  obtain ⟨hlen, hcut, hk, hc, hE⟩ := hR
  refine x_begin rfl rfl rfl (by decide) rfl ?_
  refine x_iconst (v := nI 0) d_Of_keptOf_0 (by decide) ?_
  refine x_istore_n d_Of_keptOf_1 (by decide) ?_
  refine x_iconst (v := nI 0) d_Of_keptOf_2 (by decide) ?_
  refine x_istore_n d_Of_keptOf_3 (by decide) ?_
  refine up_ind E.length (P := fun j => X l g M_Of_keptOf (XF g (Pq (.int (nI (cnt (fun i => decide (nI (eR E i) = r)) E.length))) none sh mem) M_Of_keptOf) 4 [some (rf g ρ), some (.int r), some (.int (nI (cnt (fun i => decide (nI (eR E i) = r)) j))), some (.int (nI j))] [] none sh mem 0 0) (fun j hj ih => ?_) 0 (Nat.zero_le _)
  refine x_iload_n d_Of_keptOf_4 rfl ?_
  refine x_aload_n d_Of_keptOf_5 rfl ?_
  refine x_getI hO.f0 rfl fs_Of_29 d_Of_keptOf_6 ?_
  rw [hk]
  refine x_icmp_ge (tgt := 33) d_Of_keptOf_9 (by decide) (fun c9 => ?_) (fun c9 => ?_)
  · have hj2 : j = E.length := by have := nI_le' (by omega) (by omega) c9; omega
    refine x_iload_n d_Of_keptOf_33 rfl ?_
    refine x_iret rfl rfl d_Of_keptOf_34 (Nat.zero_le _) (Nat.zero_le _) ?_
    exact ⟨by rw [hj2], rfl, rfl, rfl⟩
  · have hj3 := nI_nle' (by omega) (by omega) c9
    obtain ⟨hb, h1, h2, h3, h4⟩ := hE j hj3
    refine x_aload_n d_Of_keptOf_12 rfl ?_
    refine x_getR hO.f0 rfl fs_Of_20 d_Of_keptOf_13 ?_
    refine x_iload_n d_Of_keptOf_16 rfl ?_
    refine x_v1p d_Of_keptOf_17 ml_Of_43 v_Rw_at rfl ⟨rfl, rfl⟩ (row_io hO.f3) (Nat.le_of_ble_eq_true rfl) (ct_Rw_at hO.f3 hO.f4 (by omega)) ?_
    rw [h2]
    refine x_iload_n d_Of_keptOf_20 rfl ?_
    refine x_icmp_ne (tgt := 27) d_Of_keptOf_21 (by decide) (fun c21 => ?_) (fun c21 => ?_)
    · refine x_iinc d_Of_keptOf_27 rfl (by first | exact inc1 _ | rfl) (by decide) ?_
      refine x_goto (tgt := 4) d_Of_keptOf_30 (by decide) ?_
      have h9 := ih hj3
      first | (rw [cnt_t (by simpa using c21)] at h9; exact h9) | (rw [cnt_f (by simpa using c21)] at h9; exact h9)
    · refine x_iinc d_Of_keptOf_24 rfl (by first | exact inc1 _ | rfl) (by decide) ?_
      refine x_iinc d_Of_keptOf_27 rfl (by first | exact inc1 _ | rfl) (by decide) ?_
      refine x_goto (tgt := 4) d_Of_keptOf_30 (by decide) ?_
      have h9 := ih hj3
      first | (rw [cnt_t (by simpa using c21)] at h9; exact h9) | (rw [cnt_f (by simpa using c21)] at h9; exact h9)
theorem ct_Of_areaOf (hO : LayOf sh ρ) (hR : OfRep mem ρ E cut) {r : Int32} : Ct l g M_Of_areaOf [rf g ρ, .int r] none sh mem (Pq (.int (nI (sN (fun i => if nI (eR E i) = r then eA E i else 0) E.length))) none sh mem) := by
  have hR0 := hR
  obtain ⟨hlen, hcut, hk, hc, hE⟩ := hR
  refine x_begin rfl rfl rfl (by decide) rfl ?_
  refine x_iconst (v := nI 0) d_Of_areaOf_0 (by decide) ?_
  refine x_istore_n d_Of_areaOf_1 (by decide) ?_
  refine x_iconst (v := nI 0) d_Of_areaOf_2 (by decide) ?_
  refine x_istore_n d_Of_areaOf_3 (by decide) ?_
  refine up_ind E.length (P := fun j => X l g M_Of_areaOf (XF g (Pq (.int (nI (sN (fun i => if nI (eR E i) = r then eA E i else 0) E.length))) none sh mem) M_Of_areaOf) 4 [some (rf g ρ), some (.int r), some (.int (nI (sN (fun i => if nI (eR E i) = r then eA E i else 0) j))), some (.int (nI j))] [] none sh mem 0 0) (fun j hj ih => ?_) 0 (Nat.zero_le _)
  refine x_iload_n d_Of_areaOf_4 rfl ?_
  refine x_aload_n d_Of_areaOf_5 rfl ?_
  refine x_getI hO.f0 rfl fs_Of_29 d_Of_areaOf_6 ?_
  rw [hk]
  refine x_icmp_ge (tgt := 38) d_Of_areaOf_9 (by decide) (fun c9 => ?_) (fun c9 => ?_)
  · have hj2 : j = E.length := by have := nI_le' (by omega) (by omega) c9; omega
    refine x_iload_n d_Of_areaOf_38 rfl ?_
    refine x_iret rfl rfl d_Of_areaOf_39 (Nat.zero_le _) (Nat.zero_le _) ?_
    exact ⟨by rw [hj2], rfl, rfl, rfl⟩
  · have hj3 := nI_nle' (by omega) (by omega) c9
    obtain ⟨hb, h1, h2, h3, h4⟩ := hE j hj3
    refine x_aload_n d_Of_areaOf_12 rfl ?_
    refine x_getR hO.f0 rfl fs_Of_20 d_Of_areaOf_13 ?_
    refine x_iload_n d_Of_areaOf_16 rfl ?_
    refine x_v1p d_Of_areaOf_17 ml_Of_43 v_Rw_at rfl ⟨rfl, rfl⟩ (row_io hO.f3) (Nat.le_of_ble_eq_true rfl) (ct_Rw_at hO.f3 hO.f4 (by omega)) ?_
    rw [h2]
    refine x_iload_n d_Of_areaOf_20 rfl ?_
    refine x_icmp_ne (tgt := 32) d_Of_areaOf_21 (by decide) (fun c21 => ?_) (fun c21 => ?_)
    · refine x_iinc d_Of_areaOf_32 rfl (by first | exact inc1 _ | rfl) (by decide) ?_
      refine x_goto (tgt := 4) d_Of_areaOf_35 (by decide) ?_
      have h9 := ih hj3
      first | (rw [sN, if_pos c21] at h9; exact h9) | (rw [sN, if_neg c21] at h9; exact h9)
    · refine x_iload_n d_Of_areaOf_24 rfl ?_
      refine x_aload_n d_Of_areaOf_25 rfl ?_
      refine x_iload_n d_Of_areaOf_26 rfl ?_
      refine x_v1p d_Of_areaOf_27 ml_Of_47 v_Of_area rfl ⟨rfl, rfl⟩ hO.io (Nat.le_of_ble_eq_true rfl) (ct_Of_area hO hR0 hj3) ?_
      refine x_iadd d_Of_areaOf_30 ?_
      rw [nI_add]
      refine x_istore_n d_Of_areaOf_31 (by decide) ?_
      refine x_iinc d_Of_areaOf_32 rfl (by first | exact inc1 _ | rfl) (by decide) ?_
      refine x_goto (tgt := 4) d_Of_areaOf_35 (by decide) ?_
      have h9 := ih hj3
      first | (rw [sN, if_pos c21] at h9; exact h9) | (rw [sN, if_neg c21] at h9; exact h9)
theorem ct_Of_isSmall (hO : LayOf sh ρ) (hR : OfRep mem ρ E cut) {i : Nat} {r m : Int32} (hi : i < E.length) : Ct l g M_Of_isSmall [rf g ρ, .int (nI i), .int r, .int m] none sh mem (Pq (.int (bI (nI (eR E i) = r ∧ nI (eA E i) < m))) none sh mem) := by
  have hR0 := hR
  obtain ⟨hlen, hcut, hk, hc, hE⟩ := hR
  obtain ⟨hb, h1, h2, h3, h4⟩ := hE i hi
  refine x_begin rfl rfl rfl (by decide) rfl ?_
  refine x_aload_n d_Of_isSmall_0 rfl ?_
  refine x_getR hO.f0 rfl fs_Of_20 d_Of_isSmall_1 ?_
  refine x_iload_n d_Of_isSmall_4 rfl ?_
  refine x_v1p d_Of_isSmall_5 ml_Of_43 v_Rw_at rfl ⟨rfl, rfl⟩ (row_io hO.f3) (Nat.le_of_ble_eq_true rfl) (ct_Rw_at hO.f3 hO.f4 (by omega)) ?_
  rw [h2]
  refine x_iload_n d_Of_isSmall_8 rfl ?_
  refine x_icmp_ne (tgt := 25) d_Of_isSmall_9 (by decide) (fun c9 => ?_) (fun c9 => ?_)
  · refine x_iconst (v := nI 0) d_Of_isSmall_25 (by decide) ?_
    refine x_iret rfl (by decide) d_Of_isSmall_26 (Nat.zero_le _) (Nat.zero_le _) ?_
    exact ⟨by first | (rw [bI_t ⟨c9, Int32.not_le.mp c18⟩]; done) | (rw [bI_f (fun q => c9 q.1)]; done) | (rw [bI_f (fun q => absurd q.2 (Int32.not_lt.mpr c18))]; done), rfl, rfl, rfl⟩
  · refine x_aload_n d_Of_isSmall_12 rfl ?_
    refine x_iload_n d_Of_isSmall_13 rfl ?_
    refine x_v1p d_Of_isSmall_14 ml_Of_47 v_Of_area rfl ⟨rfl, rfl⟩ hO.io (Nat.le_of_ble_eq_true rfl) (ct_Of_area hO hR0 hi) ?_
    refine x_iload_n d_Of_isSmall_17 rfl ?_
    refine x_icmp_ge (tgt := 25) d_Of_isSmall_18 (by decide) (fun c18 => ?_) (fun c18 => ?_)
    · refine x_iconst (v := nI 0) d_Of_isSmall_25 (by decide) ?_
      refine x_iret rfl (by decide) d_Of_isSmall_26 (Nat.zero_le _) (Nat.zero_le _) ?_
      exact ⟨by first | (rw [bI_t ⟨c9, Int32.not_le.mp c18⟩]; done) | (rw [bI_f (fun q => c9 q.1)]; done) | (rw [bI_f (fun q => absurd q.2 (Int32.not_lt.mpr c18))]; done), rfl, rfl, rfl⟩
    · refine x_iconst (v := nI 1) d_Of_isSmall_21 (by decide) ?_
      refine x_goto (tgt := 26) d_Of_isSmall_22 (by decide) ?_
      refine x_iret rfl (by decide) d_Of_isSmall_26 (Nat.zero_le _) (Nat.zero_le _) ?_
      exact ⟨by first | (rw [bI_t ⟨c9, Int32.not_le.mp c18⟩]; done) | (rw [bI_f (fun q => c9 q.1)]; done) | (rw [bI_f (fun q => absurd q.2 (Int32.not_lt.mpr c18))]; done), rfl, rfl, rfl⟩
theorem ct_Of_smallOnes (hO : LayOf sh ρ) (hR : OfRep mem ρ E cut) {r m : Int32} : Ct l g M_Of_smallOnes [rf g ρ, .int r, .int m] none sh mem (Pq (.int (nI (cnt (fun i => decide (nI (eR E i) = r ∧ nI (eA E i) < m)) E.length))) none sh mem) := by
  have hR0 := hR
  obtain ⟨hlen, hcut, hk, hc, hE⟩ := hR
  refine x_begin rfl rfl rfl (by decide) rfl ?_
  refine x_iconst (v := nI 0) d_Of_smallOnes_0 (by decide) ?_
  refine x_istore_n d_Of_smallOnes_1 (by decide) ?_
  refine x_iconst (v := nI 0) d_Of_smallOnes_2 (by decide) ?_
  refine x_istore d_Of_smallOnes_3 (by decide) ?_
  refine up_ind E.length (P := fun j => X l g M_Of_smallOnes (XF g (Pq (.int (nI (cnt (fun i => decide (nI (eR E i) = r ∧ nI (eA E i) < m)) E.length))) none sh mem) M_Of_smallOnes) 5 [some (rf g ρ), some (.int r), some (.int m), some (.int (nI (cnt (fun i => decide (nI (eR E i) = r ∧ nI (eA E i) < m)) j))), some (.int (nI j))] [] none sh mem 0 0) (fun j hj ih => ?_) 0 (Nat.zero_le _)
  refine x_iload d_Of_smallOnes_5 rfl ?_
  refine x_aload_n d_Of_smallOnes_7 rfl ?_
  refine x_getI hO.f0 rfl fs_Of_29 d_Of_smallOnes_8 ?_
  rw [hk]
  refine x_icmp_ge (tgt := 34) d_Of_smallOnes_11 (by decide) (fun c11 => ?_) (fun c11 => ?_)
  · have hj2 : j = E.length := by have := nI_le' (by omega) (by omega) c11; omega
    refine x_iload_n d_Of_smallOnes_34 rfl ?_
    refine x_iret rfl rfl d_Of_smallOnes_35 (Nat.zero_le _) (Nat.zero_le _) ?_
    exact ⟨by rw [hj2], rfl, rfl, rfl⟩
  · have hj3 := nI_nle' (by omega) (by omega) c11
    refine x_aload_n d_Of_smallOnes_14 rfl ?_
    refine x_iload d_Of_smallOnes_15 rfl ?_
    refine x_iload_n d_Of_smallOnes_17 rfl ?_
    refine x_iload_n d_Of_smallOnes_18 rfl ?_
    refine x_v3p d_Of_smallOnes_19 ml_Of_50 v_Of_isSmall rfl ⟨rfl, rfl⟩ hO.io (Nat.le_of_ble_eq_true rfl) (ct_Of_isSmall hO hR0 hj3) ?_
    refine x_if_eq (tgt := 28) d_Of_smallOnes_22 (by decide) (fun c22 => ?_) (fun c22 => ?_)
    · refine x_iinc d_Of_smallOnes_28 rfl (by first | exact inc1 _ | rfl) (by decide) ?_
      refine x_goto (tgt := 5) d_Of_smallOnes_31 (by decide) ?_
      have h9 := ih hj3
      first | (rw [cnt_f (by simpa using bI_0.mp c22)] at h9; exact h9) | (rw [cnt_t (by simpa using bI_n.mp c22)] at h9; exact h9)
    · refine x_iinc d_Of_smallOnes_25 rfl (by first | exact inc1 _ | rfl) (by decide) ?_
      refine x_iinc d_Of_smallOnes_28 rfl (by first | exact inc1 _ | rfl) (by decide) ?_
      refine x_goto (tgt := 5) d_Of_smallOnes_31 (by decide) ?_
      have h9 := ih hj3
      first | (rw [cnt_f (by simpa using bI_0.mp c22)] at h9; exact h9) | (rw [cnt_t (by simpa using bI_n.mp c22)] at h9; exact h9)
theorem ct_Of_placeOf (hO : LayOf sh ρ) (hR : OfRep mem ρ E cut) {x : Int32} : Ct l g M_Of_placeOf [rf g ρ, .int x] none sh mem (Pq (.int (oI (ff (fun i => decide (nI (eN E i) = x)) E.length 0))) none sh mem) := by
  obtain ⟨hlen, hcut, hk, hc, hE⟩ := hR
  refine x_begin rfl rfl rfl (by decide) rfl ?_
  refine x_iconst (v := nI 0) d_Of_placeOf_0 (by decide) ?_
  refine x_istore_n d_Of_placeOf_1 (by decide) ?_
  refine up_ind E.length (P := fun j => ff (fun i => decide (nI (eN E i) = x)) E.length 0 = ff (fun i => decide (nI (eN E i) = x)) (E.length - j) j → X l g M_Of_placeOf (XF g (Pq (.int (oI (ff (fun i => decide (nI (eN E i) = x)) E.length 0))) none sh mem) M_Of_placeOf) 2 [some (rf g ρ), some (.int x), some (.int (nI j))] [] none sh mem 0 0) (fun j hj ih hf => ?_) 0 (Nat.zero_le _) rfl
  refine x_iload_n d_Of_placeOf_2 rfl ?_
  refine x_aload_n d_Of_placeOf_3 rfl ?_
  refine x_getI hO.f0 rfl fs_Of_29 d_Of_placeOf_4 ?_
  rw [hk]
  refine x_icmp_ge (tgt := 30) d_Of_placeOf_7 (by decide) (fun c7 => ?_) (fun c7 => ?_)
  · have hj2 := nI_le' (by omega) (by omega) c7
    rw [ff_e hj2] at hf
    refine x_bipush (v := -5) d_Of_placeOf_30 (by decide) ?_
    refine x_iret rfl rfl d_Of_placeOf_32 (Nat.zero_le _) (Nat.zero_le _) ?_
    exact ⟨by rw [hf]; rfl, rfl, rfl, rfl⟩
  · have hj3 := nI_nle' (by omega) (by omega) c7
    obtain ⟨hb, h1, h2, h3, h4⟩ := hE j hj3
    refine x_aload_n d_Of_placeOf_10 rfl ?_
    refine x_getR hO.f0 rfl fs_Of_14 d_Of_placeOf_11 ?_
    refine x_iload_n d_Of_placeOf_14 rfl ?_
    refine x_v1p d_Of_placeOf_15 ml_Of_43 v_Rw_at rfl ⟨rfl, rfl⟩ (row_io hO.f1) (Nat.le_of_ble_eq_true rfl) (ct_Rw_at hO.f1 hO.f2 (by omega)) ?_
    rw [h1]
    refine x_iload_n d_Of_placeOf_18 rfl ?_
    refine x_icmp_ne (tgt := 24) d_Of_placeOf_19 (by decide) (fun c19 => ?_) (fun c19 => ?_)
    · refine x_iinc d_Of_placeOf_24 rfl (by first | exact inc1 _ | rfl) (by decide) ?_
      refine x_goto (tgt := 2) d_Of_placeOf_27 (by decide) ?_
      exact ih hj3 (by rw [hf, ff_f hj3 (by simpa using c19)])
    · refine x_iload_n d_Of_placeOf_22 rfl ?_
      refine x_iret rfl rfl d_Of_placeOf_23 (Nat.zero_le _) (Nat.zero_le _) ?_
      exact ⟨by rw [hf, ff_t hj3 (by simpa using c19)]; rfl, rfl, rfl, rfl⟩
theorem ct_Of_placeFor (hO : LayOf sh ρ) (hR : OfRep mem ρ E cut) {r w k : Nat} (hr : r < 12) (hw : w < 2 ^ 31) (hk2 : k < 2 ^ 31) : Ct l g M_Of_placeFor [rf g ρ, .int (nI r), .int (nI w), .int (nI k)] none sh mem (Pq (.int (oI (pfo E r w k E.length))) none sh mem) := by
  have hR0 := hR
  obtain ⟨hlen, hcut, hk, hc, hE⟩ := hR
  refine x_begin rfl rfl rfl (by decide) rfl ?_
  refine x_bipush (v := -5) d_Of_placeFor_0 (by decide) ?_
  refine x_istore d_Of_placeFor_2 (by decide) ?_
  refine x_iconst (v := nI 0) d_Of_placeFor_4 (by decide) ?_
  refine x_istore d_Of_placeFor_5 (by decide) ?_
  refine up_ind E.length (P := fun j => X l g M_Of_placeFor (XF g (Pq (.int (oI (pfo E r w k E.length))) none sh mem) M_Of_placeFor) 7 [some (rf g ρ), some (.int (nI r)), some (.int (nI w)), some (.int (nI k)), some (.int (oI (pfo E r w k j))), some (.int (nI j))] [] none sh mem 0 0) (fun j hj ih => ?_) 0 (Nat.zero_le _)
  refine x_iload d_Of_placeFor_7 rfl ?_
  refine x_aload_n d_Of_placeFor_9 rfl ?_
  refine x_getI hO.f0 rfl fs_Of_29 d_Of_placeFor_10 ?_
  rw [hk]
  refine x_icmp_ge (tgt := 70) d_Of_placeFor_13 (by decide) (fun c13 => ?_) (fun c13 => ?_)
  · have hj2 : j = E.length := by have := nI_le' (by omega) (by omega) c13; omega
    refine x_iload d_Of_placeFor_70 rfl ?_
    refine x_iret rfl rfl d_Of_placeFor_72 (Nat.zero_le _) (Nat.zero_le _) ?_
    exact ⟨by rw [hj2], rfl, rfl, rfl⟩
  · have hj3 := nI_nle' (by omega) (by omega) c13
    obtain ⟨hb, h1, h2, h3, h4⟩ := hE j hj3
    have h9 := ih hj3
    refine x_aload_n d_Of_placeFor_16 rfl ?_
    refine x_getR hO.f0 rfl fs_Of_20 d_Of_placeFor_17 ?_
    refine x_iload d_Of_placeFor_20 rfl ?_
    refine x_v1p d_Of_placeFor_22 ml_Of_43 v_Rw_at rfl ⟨rfl, rfl⟩ (row_io hO.f3) (Nat.le_of_ble_eq_true rfl) (ct_Rw_at hO.f3 hO.f4 (by omega)) ?_
    rw [h2]
    refine x_iload_n d_Of_placeFor_25 rfl ?_
    refine x_icmp_ne (tgt := 64) d_Of_placeFor_26 (by decide) (fun c26 => ?_) (fun c26 => ?_)
    · have h10 : fit E r w k j = false := by
        have := nI_ne' c26
        simp [fit, this]
      rw [pfo, h10] at h9
      refine x_iinc d_Of_placeFor_64 rfl (by first | exact inc1 _ | rfl) (by decide) ?_
      refine x_goto (tgt := 7) d_Of_placeFor_67 (by decide) ?_
      exact h9
    · have c26 := nI_eq' (by omega) (by omega) c26
      refine x_aload_n d_Of_placeFor_29 rfl ?_
      refine x_iload d_Of_placeFor_30 rfl ?_
      refine x_iload_n d_Of_placeFor_32 rfl ?_
      refine x_iload_n d_Of_placeFor_33 rfl ?_
      refine x_v3p d_Of_placeFor_34 ml_Of_54 v_Of_holds rfl ⟨rfl, rfl⟩ hO.io (Nat.le_of_ble_eq_true rfl) (ct_Of_holds hO hR0 hj3 hw hk2) ?_
      refine x_if_eq (tgt := 64) d_Of_placeFor_37 (by decide) (fun c37 => ?_) (fun c37 => ?_)
      · have h10 : fit E r w k j = false := by
          have h11 := bI_0.mp c37
          simp only [fit, c26, decide_true, Bool.true_and, Bool.and_eq_false_iff, decide_eq_false_iff_not]
          omega
        rw [pfo, h10] at h9
        refine x_iinc d_Of_placeFor_64 rfl (by first | exact inc1 _ | rfl) (by decide) ?_
        refine x_goto (tgt := 7) d_Of_placeFor_67 (by decide) ?_
        exact h9
      · have h10 : fit E r w k j = true := by
          have h11 := bI_n.mp c37
          simp only [fit, c26, decide_true, Bool.true_and, Bool.and_eq_true, decide_eq_true_eq]
          exact h11
        rw [pfo, if_pos h10] at h9
        cases hq : pfo E r w k j with
        | none =>
          rw [hq] at h9
          refine x_iload d_Of_placeFor_40 rfl ?_
          refine x_if_lt (tgt := 60) d_Of_placeFor_42 (by decide) (fun c42 => ?_) (fun c42 => ?_)
          · refine x_iload d_Of_placeFor_60 rfl ?_
            refine x_istore d_Of_placeFor_62 (by decide) ?_
            refine x_iinc d_Of_placeFor_64 rfl (by first | exact inc1 _ | rfl) (by decide) ?_
            refine x_goto (tgt := 7) d_Of_placeFor_67 (by decide) ?_
            exact h9
          · exact absurd oI_none c42
        | some b =>
          rw [hq] at h9
          have hbj := (pfo_lt j b hq).1
          have hA1 := hR0.ar hj3
          have hA2 := hR0.ar (i := b) (by omega)
          refine x_iload d_Of_placeFor_40 rfl ?_
          refine x_if_lt (tgt := 60) d_Of_placeFor_42 (by decide) (fun c42 => ?_) (fun c42 => ?_)
          · exact absurd c42 (oI_neg (by omega))
          · refine x_aload_n d_Of_placeFor_45 rfl ?_
            refine x_iload d_Of_placeFor_46 rfl ?_
            refine x_v1p d_Of_placeFor_48 ml_Of_47 v_Of_area rfl ⟨rfl, rfl⟩ hO.io (Nat.le_of_ble_eq_true rfl) (ct_Of_area hO hR0 hj3) ?_
            refine x_aload_n d_Of_placeFor_51 rfl ?_
            refine x_iload d_Of_placeFor_52 rfl ?_
            refine x_v1p d_Of_placeFor_54 ml_Of_47 v_Of_area rfl ⟨rfl, rfl⟩ hO.io (Nat.le_of_ble_eq_true rfl) (ct_Of_area hO hR0 (i := b) (by omega)) ?_
            refine x_icmp_ge (tgt := 64) d_Of_placeFor_57 (by decide) (fun c57 => ?_) (fun c57 => ?_)
            · have c57 := nI_le' (by omega) (by omega) c57
              dsimp only at h9
              rw [if_neg (by omega)] at h9
              refine x_iinc d_Of_placeFor_64 rfl (by first | exact inc1 _ | rfl) (by decide) ?_
              refine x_goto (tgt := 7) d_Of_placeFor_67 (by decide) ?_
              exact h9
            · have c57 := nI_nle' (by omega) (by omega) c57
              dsimp only at h9
              rw [if_pos c57] at h9
              refine x_iload d_Of_placeFor_60 rfl ?_
              refine x_istore d_Of_placeFor_62 (by decide) ?_
              refine x_iinc d_Of_placeFor_64 rfl (by first | exact inc1 _ | rfl) (by decide) ?_
              refine x_goto (tgt := 7) d_Of_placeFor_67 (by decide) ?_
              exact h9
theorem e_app (E : List OE) (e : OE) {i : Nat} (h : i < E.length) : eN (E ++ [e]) i = eN E i ∧ eR (E ++ [e]) i = eR E i ∧ eW (E ++ [e]) i = eW E i ∧ eL (E ++ [e]) i = eL E i := by
  have h1 : (E ++ [e])[i]? = E[i]? := List.getElem?_append_left h
  simp only [eN, eR, eW, eL, h1, and_self]
theorem e_last (E : List OE) (e : OE) : eN (E ++ [e]) E.length = e.1 ∧ eR (E ++ [e]) E.length = e.2.1 ∧ eW (E ++ [e]) E.length = e.2.2.1 ∧ eL (E ++ [e]) E.length = e.2.2.2 := by
  have h1 : (E ++ [e])[E.length]? = some e := by rw [List.getElem?_append_right (Nat.le_refl _)]; simp
  simp only [eN, eR, eW, eL, h1, Option.getD_some, and_self]
theorem e_del (E : List OE) (p i : Nat) : eN (E.eraseIdx p) i = eN E (if i < p then i else i + 1) ∧ eR (E.eraseIdx p) i = eR E (if i < p then i else i + 1) ∧ eW (E.eraseIdx p) i = eW E (if i < p then i else i + 1) ∧ eL (E.eraseIdx p) i = eL E (if i < p then i else i + 1) := by
  have h1 : (E.eraseIdx p)[i]? = E[if i < p then i else i + 1]? := by
    rw [List.getElem?_eraseIdx]
    split <;> rfl
  simp only [eN, eR, eW, eL, h1, and_self]
theorem ct_Of_append (hO : LayOf sh ρ) (hR : OfRep mem ρ E cut) {r w k : Nat} (hr : r < 12) (hw : w ≤ 60) (hk2 : k ≤ 60) : Ct l g M_Of_append [rf g ρ, .int (nI r), .int (nI w), .int (nI k)] none sh mem (Ri none sh (fun x m => ((60 ≤ E.length ∨ 300 ≤ cut) ∧ x = nI 0 ∧ m = mem) ∨ (¬ (60 ≤ E.length ∨ 300 ≤ cut) ∧ x = nI 1 ∧ OfRep m ρ (E ++ [(cut, r, w, k)]) (cut + 1) ∧ Fr ρ (ρ + 9) mem m))) := by
  obtain ⟨hlen, hcut, hk, hc, hE⟩ := hR
  refine x_begin rfl rfl rfl (by decide) rfl ?_
  refine x_aload_n d_Of_append_0 rfl ?_
  refine x_getI hO.f0 rfl fs_Of_29 d_Of_append_1 ?_
  rw [hk]
  refine x_bipush (v := nI 60) d_Of_append_4 (by decide) ?_
  refine x_icmp_ge (tgt := 19) d_Of_append_6 (by decide) (fun c6 => ?_) (fun c6 => ?_)
  · have c6 := nI_le' (by omega) (by omega) c6
    refine x_iconst (v := nI 0) d_Of_append_19 (by decide) ?_
    refine x_iret rfl (by decide) d_Of_append_20 (Nat.zero_le _) (Nat.zero_le _) ?_
    exact ⟨_, rfl, rfl, rfl, Or.inl ⟨by omega, rfl, rfl⟩⟩
  · have c6 := nI_nle' (by omega) (by omega) c6
    refine x_aload_n d_Of_append_9 rfl ?_
    refine x_getI hO.f0 rfl fs_Of_33 d_Of_append_10 ?_
    rw [hc]
    refine x_sipush (v := nI 300) d_Of_append_13 (by decide) ?_
    refine x_icmp_lt (tgt := 21) d_Of_append_16 (by decide) (fun c16 => ?_) (fun c16 => ?_)
    · have c16 := nI_lt' (by omega) (by omega) c16
      refine x_aload_n d_Of_append_21 rfl ?_
      refine x_getR hO.f0 rfl fs_Of_14 d_Of_append_22 ?_
      refine x_aload_n d_Of_append_25 rfl ?_
      refine x_getI hO.f0 rfl fs_Of_29 d_Of_append_26 ?_
      rw [hk]
      refine x_aload_n d_Of_append_29 rfl ?_
      refine x_getI hO.f0 rfl fs_Of_33 d_Of_append_30 ?_
      rw [hc]
      refine x_v2v d_Of_append_33 ml_Of_36 v_Rw_put rfl ⟨rfl, rfl⟩ (row_io hO.f1) (Nat.le_of_ble_eq_true rfl) (ct_Rw_put hO.f1 hO.f2 (by omega)) (fun mem33 h33 => ?_)
      have hk33 : mem33 ρ 0 = nI E.length := by rw [h33, um_o _ _ (by omega)]; exact hk
      have hc33 : mem33 ρ 1 = nI cut := by rw [h33, um_o _ _ (by omega)]; exact hc
      refine x_aload_n d_Of_append_36 rfl ?_
      refine x_getR hO.f0 rfl fs_Of_20 d_Of_append_37 ?_
      refine x_aload_n d_Of_append_40 rfl ?_
      refine x_getI hO.f0 rfl fs_Of_29 d_Of_append_41 ?_
      rw [hk33]
      refine x_iload_n d_Of_append_44 rfl ?_
      refine x_v2v d_Of_append_45 ml_Of_36 v_Rw_put rfl ⟨rfl, rfl⟩ (row_io hO.f3) (Nat.le_of_ble_eq_true rfl) (ct_Rw_put hO.f3 hO.f4 (by omega)) (fun mem45 h45 => ?_)
      have hk45 : mem45 ρ 0 = nI E.length := by rw [h45, um_o _ _ (by omega)]; exact hk33
      have hc45 : mem45 ρ 1 = nI cut := by rw [h45, um_o _ _ (by omega)]; exact hc33
      refine x_aload_n d_Of_append_48 rfl ?_
      refine x_getR hO.f0 rfl fs_Of_23 d_Of_append_49 ?_
      refine x_aload_n d_Of_append_52 rfl ?_
      refine x_getI hO.f0 rfl fs_Of_29 d_Of_append_53 ?_
      rw [hk45]
      refine x_iload_n d_Of_append_56 rfl ?_
      refine x_v2v d_Of_append_57 ml_Of_36 v_Rw_put rfl ⟨rfl, rfl⟩ (row_io hO.f5) (Nat.le_of_ble_eq_true rfl) (ct_Rw_put hO.f5 hO.f6 (by omega)) (fun mem57 h57 => ?_)
      have hk57 : mem57 ρ 0 = nI E.length := by rw [h57, um_o _ _ (by omega)]; exact hk45
      have hc57 : mem57 ρ 1 = nI cut := by rw [h57, um_o _ _ (by omega)]; exact hc45
      refine x_aload_n d_Of_append_60 rfl ?_
      refine x_getR hO.f0 rfl fs_Of_26 d_Of_append_61 ?_
      refine x_aload_n d_Of_append_64 rfl ?_
      refine x_getI hO.f0 rfl fs_Of_29 d_Of_append_65 ?_
      rw [hk57]
      refine x_iload_n d_Of_append_68 rfl ?_
      refine x_v2v d_Of_append_69 ml_Of_36 v_Rw_put rfl ⟨rfl, rfl⟩ (row_io hO.f7) (Nat.le_of_ble_eq_true rfl) (ct_Rw_put hO.f7 hO.f8 (by omega)) (fun mem69 h69 => ?_)
      have hk69 : mem69 ρ 0 = nI E.length := by rw [h69, um_o _ _ (by omega)]; exact hk57
      have hc69 : mem69 ρ 1 = nI cut := by rw [h69, um_o _ _ (by omega)]; exact hc57
      refine x_aload_n d_Of_append_72 rfl ?_
      refine x_dup d_Of_append_73 rfl ?_
      refine x_getI hO.f0 rfl fs_Of_29 d_Of_append_74 ?_
      rw [hk69]
      refine x_iconst (v := nI 1) d_Of_append_77 (by decide) ?_
      refine x_iadd d_Of_append_78 ?_
      rw [nI_add]
      refine x_putI hO.f0 rfl ps_Of_29 rfl rfl d_Of_append_79 ?_
      refine x_aload_n d_Of_append_82 rfl ?_
      refine x_dup d_Of_append_83 rfl ?_
      refine x_getI hO.f0 rfl fs_Of_33 d_Of_append_84 ?_
      rw [um_k _ _ (show (1 : Nat) ≠ 0 by decide), hc69]
      refine x_iconst (v := nI 1) d_Of_append_87 (by decide) ?_
      refine x_iadd d_Of_append_88 ?_
      rw [nI_add]
      refine x_putI hO.f0 rfl ps_Of_33 rfl rfl d_Of_append_89 ?_
      refine x_iconst (v := nI 1) d_Of_append_92 (by decide) ?_
      refine x_iret rfl (by decide) d_Of_append_93 (Nat.zero_le _) (Nat.zero_le _) ?_
      subst h33 h45 h57 h69
      refine ⟨_, rfl, rfl, rfl, Or.inr ⟨by omega, rfl, ⟨by simp; omega, by omega, ?_, ?_, fun i hi => ?_⟩, ?_⟩⟩
      · simp [um]
      · simp [um]
      · rw [List.length_append, List.length_singleton] at hi
        by_cases hil : i < E.length
        · obtain ⟨q1, q2, q3, q4⟩ := e_app E (cut, r, w, k) hil
          rw [q1, q2, q3, q4]
          obtain ⟨hb, h1, h2, h3, h4⟩ := hE i hil
          have h9 : i ≠ E.length := by omega
          refine ⟨hb, ?_, ?_, ?_, ?_⟩ <;> simp [um, h9, h1, h2, h3, h4]
        · have hie : i = E.length := by omega
          subst hie
          obtain ⟨q1, q2, q3, q4⟩ := e_last E (cut, r, w, k)
          rw [q1, q2, q3, q4]
          refine ⟨⟨by show cut < 300; omega, hr, hw, hk2⟩, ?_, ?_, ?_, ?_⟩ <;> simp [um]
      · intro o ho
        rw [um_ne _ _ _ (by omega), um_ne _ _ _ (by omega), um_ne _ _ _ (by omega), um_ne _ _ _ (by omega), um_ne _ _ _ (by omega), um_ne _ _ _ (by omega)]
    · have c16 := nI_nlt' (by omega) (by omega) c16
      refine x_iconst (v := nI 0) d_Of_append_19 (by decide) ?_
      refine x_iret rfl (by decide) d_Of_append_20 (Nat.zero_le _) (Nat.zero_le _) ?_
      exact ⟨_, rfl, rfl, rfl, Or.inl ⟨by omega, rfl, rfl⟩⟩
theorem ct_Of_removeAt (hO : LayOf sh ρ) (hR : OfRep mem ρ E cut) {p : Nat} (hp : p < E.length) : Ct l g M_Of_removeAt [rf g ρ, .int (nI p)] none sh mem (Rv none sh (fun m => OfRep m ρ (E.eraseIdx p) cut ∧ Fr ρ (ρ + 9) mem m)) := by
  obtain ⟨hlen, hcut, hk, hc, hE⟩ := hR
  refine x_begin rfl rfl rfl (by decide) rfl ?_
  refine x_iload_n d_Of_removeAt_0 rfl ?_
  refine x_if_lt (tgt := 12) d_Of_removeAt_1 (by decide) (fun c1 => ?_) (fun c1 => ?_)
  · exact absurd c1 (nI_pos (by omega))
  · refine x_iload_n d_Of_removeAt_4 rfl ?_
    refine x_aload_n d_Of_removeAt_5 rfl ?_
    refine x_getI hO.f0 rfl fs_Of_29 d_Of_removeAt_6 ?_
    rw [hk]
    refine x_icmp_lt (tgt := 13) d_Of_removeAt_9 (by decide) (fun c9 => ?_) (fun c9 => ?_)
    · refine x_aload_n d_Of_removeAt_13 rfl ?_
      refine x_getR hO.f0 rfl fs_Of_14 d_Of_removeAt_14 ?_
      refine x_iload_n d_Of_removeAt_17 rfl ?_
      refine x_v1v d_Of_removeAt_18 ml_Of_40 v_Rw_removeAt rfl ⟨rfl, rfl⟩ (row_io hO.f1) (Nat.le_of_ble_eq_true rfl) (ct_Rw_removeAt hO.f1 hO.f2 (by omega)) (fun _ hE => ?_)
      subst hE
      refine x_aload_n d_Of_removeAt_21 rfl ?_
      refine x_getR hO.f0 rfl fs_Of_20 d_Of_removeAt_22 ?_
      refine x_iload_n d_Of_removeAt_25 rfl ?_
      refine x_v1v d_Of_removeAt_26 ml_Of_40 v_Rw_removeAt rfl ⟨rfl, rfl⟩ (row_io hO.f3) (Nat.le_of_ble_eq_true rfl) (ct_Rw_removeAt hO.f3 hO.f4 (by omega)) (fun _ hE => ?_)
      subst hE
      refine x_aload_n d_Of_removeAt_29 rfl ?_
      refine x_getR hO.f0 rfl fs_Of_23 d_Of_removeAt_30 ?_
      refine x_iload_n d_Of_removeAt_33 rfl ?_
      refine x_v1v d_Of_removeAt_34 ml_Of_40 v_Rw_removeAt rfl ⟨rfl, rfl⟩ (row_io hO.f5) (Nat.le_of_ble_eq_true rfl) (ct_Rw_removeAt hO.f5 hO.f6 (by omega)) (fun _ hE => ?_)
      subst hE
      refine x_aload_n d_Of_removeAt_37 rfl ?_
      refine x_getR hO.f0 rfl fs_Of_26 d_Of_removeAt_38 ?_
      refine x_iload_n d_Of_removeAt_41 rfl ?_
      refine x_v1v d_Of_removeAt_42 ml_Of_40 v_Rw_removeAt rfl ⟨rfl, rfl⟩ (row_io hO.f7) (Nat.le_of_ble_eq_true rfl) (ct_Rw_removeAt hO.f7 hO.f8 (by omega)) (fun _ hE => ?_)
      subst hE
      refine x_aload_n d_Of_removeAt_45 rfl ?_
      refine x_dup d_Of_removeAt_46 rfl ?_
      refine x_getI hO.f0 rfl fs_Of_29 d_Of_removeAt_47 ?_
      rw [shl_o _ (show ρ ≠ ρ + 8 by omega), shl_o _ (show ρ ≠ ρ + 6 by omega), shl_o _ (show ρ ≠ ρ + 4 by omega), shl_o _ (show ρ ≠ ρ + 2 by omega), hk]
      refine x_iconst (v := nI 1) d_Of_removeAt_50 (by decide) ?_
      refine x_isub d_Of_removeAt_51 ?_
      rw [pk_sub (by omega)]
      refine x_putI hO.f0 rfl ps_Of_29 rfl rfl d_Of_removeAt_52 ?_
      refine x_vret rfl d_Of_removeAt_55 (Nat.zero_le _) (Nat.zero_le _) ?_
      have hl2 : (E.eraseIdx p).length = E.length - 1 := List.length_eraseIdx_of_lt hp
      refine ⟨rfl, rfl, rfl, ⟨by omega, hcut, ?_, ?_, fun i hi => ?_⟩, ?_⟩
      · rw [hl2]
        simp [um]
      · simp [um, shl, hc]
      · rw [hl2] at hi
        obtain ⟨q1, q2, q3, q4⟩ := e_del E p i
        rw [q1, q2, q3, q4]
        by_cases hip : i < p
        · rw [if_pos hip]
          obtain ⟨hb, h1, h2, h3, h4⟩ := hE i (by omega)
          refine ⟨hb, ?_, ?_, ?_, ?_⟩
          · simp [um, shl, show ¬ p ≤ i by omega, h1]
          · simp [um, shl, show ¬ p ≤ i by omega, h2]
          · simp [um, shl, show ¬ p ≤ i by omega, h3]
          · simp [um, shl, show ¬ p ≤ i by omega, h4]
        · rw [if_neg hip]
          obtain ⟨hb, h1, h2, h3, h4⟩ := hE (i + 1) (by omega)
          refine ⟨hb, ?_, ?_, ?_, ?_⟩
          · simp [um, shl, show p ≤ i by omega, show i + 1 < 60 by omega, h1]
          · simp [um, shl, show p ≤ i by omega, show i + 1 < 60 by omega, h2]
          · simp [um, shl, show p ≤ i by omega, show i + 1 < 60 by omega, h3]
          · simp [um, shl, show p ≤ i by omega, show i + 1 < 60 by omega, h4]
      · intro o ho
        rw [um_ne _ _ _ (by omega)]
        funext j
        rw [shl_o _ (by omega), shl_o _ (by omega), shl_o _ (by omega), shl_o _ (by omega)]
    · exact absurd (nI_lt hp (by omega)) c9
theorem ct_Of_rankOf (hO : LayOf sh ρ) (hR : OfRep mem ρ E cut) {p : Nat} (hp : p < E.length) : Ct l g M_Of_rankOf [rf g ρ, .int (nI p)] none sh mem (Pq (.int (nI (rnk E p))) none sh mem) := by
  have hR0 := hR
  obtain ⟨hlen, hcut, hk, hc, hE⟩ := hR
  refine x_begin rfl rfl rfl (by decide) rfl ?_
  refine x_aload_n d_Of_rankOf_0 rfl ?_
  refine x_iload_n d_Of_rankOf_1 rfl ?_
  refine x_v1p d_Of_rankOf_2 ml_Of_47 v_Of_area rfl ⟨rfl, rfl⟩ hO.io (Nat.le_of_ble_eq_true rfl) (ct_Of_area hO hR0 hp) ?_
  refine x_istore_n d_Of_rankOf_5 (by decide) ?_
  refine x_iconst (v := nI 0) d_Of_rankOf_6 (by decide) ?_
  refine x_istore_n d_Of_rankOf_7 (by decide) ?_
  refine x_iconst (v := nI 0) d_Of_rankOf_8 (by decide) ?_
  refine x_istore d_Of_rankOf_9 (by decide) ?_
  have hA0 := hR0.ar hp
  refine up_ind E.length (P := fun j => ∀ v5 : Option Value, X l g M_Of_rankOf (XF g (Pq (.int (nI (rnk E p))) none sh mem) M_Of_rankOf) 11 [some (rf g ρ), some (.int (nI p)), some (.int (nI (eA E p))), some (.int (nI (cnt (rkp E p) j))), some (.int (nI j)), v5] [] none sh mem 0 0) (fun j hj ih v5 => ?_) 0 (Nat.zero_le _) _
  refine x_iload d_Of_rankOf_11 rfl ?_
  refine x_aload_n d_Of_rankOf_13 rfl ?_
  refine x_getI hO.f0 rfl fs_Of_29 d_Of_rankOf_14 ?_
  rw [hk]
  refine x_icmp_ge (tgt := 55) d_Of_rankOf_17 (by decide) (fun c17 => ?_) (fun c17 => ?_)
  · have hj2 : j = E.length := by have := nI_le' (by omega) (by omega) c17; omega
    refine x_iload_n d_Of_rankOf_55 rfl ?_
    refine x_iret rfl rfl d_Of_rankOf_56 (Nat.zero_le _) (Nat.zero_le _) ?_
    exact ⟨by rw [hj2]; rfl, rfl, rfl, rfl⟩
  · have hj3 := nI_nle' (by omega) (by omega) c17
    have hA1 := hR0.ar hj3
    have h9 := ih hj3 (some (.int (nI (eA E j))))
    refine x_aload_n d_Of_rankOf_20 rfl ?_
    refine x_iload d_Of_rankOf_21 rfl ?_
    refine x_v1p d_Of_rankOf_23 ml_Of_47 v_Of_area rfl ⟨rfl, rfl⟩ hO.io (Nat.le_of_ble_eq_true rfl) (ct_Of_area hO hR0 hj3) ?_
    refine x_istore d_Of_rankOf_26 (by decide) ?_
    refine x_iload d_Of_rankOf_28 rfl ?_
    refine x_iload_n d_Of_rankOf_30 rfl ?_
    refine x_icmp_lt (tgt := 46) d_Of_rankOf_31 (by decide) (fun c31 => ?_) (fun c31 => ?_)
    · have c31 := nI_lt' (by omega) (by omega) c31
      rw [cnt_t (show rkp E p j = true by simp [rkp, c31])] at h9
      refine x_iinc d_Of_rankOf_46 rfl (by first | exact inc1 _ | rfl) (by decide) ?_
      refine x_iinc d_Of_rankOf_49 rfl (by first | exact inc1 _ | rfl) (by decide) ?_
      refine x_goto (tgt := 11) d_Of_rankOf_52 (by decide) ?_
      exact h9
    · have c31 := nI_nlt' (by omega) (by omega) c31
      refine x_iload d_Of_rankOf_34 rfl ?_
      refine x_iload_n d_Of_rankOf_36 rfl ?_
      refine x_icmp_ne (tgt := 49) d_Of_rankOf_37 (by decide) (fun c37 => ?_) (fun c37 => ?_)
      · have c37 := nI_ne' c37
        rw [cnt_f (show rkp E p j = false by simp [rkp, c37]; omega)] at h9
        refine x_iinc d_Of_rankOf_49 rfl (by first | exact inc1 _ | rfl) (by decide) ?_
        refine x_goto (tgt := 11) d_Of_rankOf_52 (by decide) ?_
        exact h9
      · have c37 := nI_eq' (by omega) (by omega) c37
        refine x_iload d_Of_rankOf_40 rfl ?_
        refine x_iload_n d_Of_rankOf_42 rfl ?_
        refine x_icmp_ge (tgt := 49) d_Of_rankOf_43 (by decide) (fun c43 => ?_) (fun c43 => ?_)
        · have c43 := nI_le' (by omega) (by omega) c43
          rw [cnt_f (show rkp E p j = false by simp [rkp, c37]; omega)] at h9
          refine x_iinc d_Of_rankOf_49 rfl (by first | exact inc1 _ | rfl) (by decide) ?_
          refine x_goto (tgt := 11) d_Of_rankOf_52 (by decide) ?_
          exact h9
        · have c43 := nI_nle' (by omega) (by omega) c43
          rw [cnt_t (show rkp E p j = true by simp [rkp, c37, c43])] at h9
          refine x_iinc d_Of_rankOf_46 rfl (by first | exact inc1 _ | rfl) (by decide) ?_
          refine x_iinc d_Of_rankOf_49 rfl (by first | exact inc1 _ | rfl) (by decide) ?_
          refine x_goto (tgt := 11) d_Of_rankOf_52 (by decide) ?_
          exact h9
theorem ct_Of_placeByArea (hO : LayOf sh ρ) (hR : OfRep mem ρ E cut) {x : Int32} : Ct l g M_Of_placeByArea [rf g ρ, .int x] none sh mem (Pq (.int (oI (ff (fun i => decide (nI (rnk E i) = x)) E.length 0))) none sh mem) := by
  have hR0 := hR
  obtain ⟨hlen, hcut, hk, hc, hE⟩ := hR
  refine x_begin rfl rfl rfl (by decide) rfl ?_
  refine x_iconst (v := nI 0) d_Of_placeByArea_0 (by decide) ?_
  refine x_istore_n d_Of_placeByArea_1 (by decide) ?_
  refine up_ind E.length (P := fun j => ff (fun i => decide (nI (rnk E i) = x)) E.length 0 = ff (fun i => decide (nI (rnk E i) = x)) (E.length - j) j → X l g M_Of_placeByArea (XF g (Pq (.int (oI (ff (fun i => decide (nI (rnk E i) = x)) E.length 0))) none sh mem) M_Of_placeByArea) 2 [some (rf g ρ), some (.int x), some (.int (nI j))] [] none sh mem 0 0) (fun j hj ih hf => ?_) 0 (Nat.zero_le _) rfl
  refine x_iload_n d_Of_placeByArea_2 rfl ?_
  refine x_aload_n d_Of_placeByArea_3 rfl ?_
  refine x_getI hO.f0 rfl fs_Of_29 d_Of_placeByArea_4 ?_
  rw [hk]
  refine x_icmp_ge (tgt := 27) d_Of_placeByArea_7 (by decide) (fun c7 => ?_) (fun c7 => ?_)
  · have hj2 := nI_le' (by omega) (by omega) c7
    rw [ff_e hj2] at hf
    refine x_bipush (v := -5) d_Of_placeByArea_27 (by decide) ?_
    refine x_iret rfl rfl d_Of_placeByArea_29 (Nat.zero_le _) (Nat.zero_le _) ?_
    exact ⟨by rw [hf]; rfl, rfl, rfl, rfl⟩
  · have hj3 := nI_nle' (by omega) (by omega) c7
    refine x_aload_n d_Of_placeByArea_10 rfl ?_
    refine x_iload_n d_Of_placeByArea_11 rfl ?_
    refine x_v1p d_Of_placeByArea_12 ml_Of_57 v_Of_rankOf rfl ⟨rfl, rfl⟩ hO.io (Nat.le_of_ble_eq_true rfl) (ct_Of_rankOf hO hR0 hj3) ?_
    refine x_iload_n d_Of_placeByArea_15 rfl ?_
    refine x_icmp_ne (tgt := 21) d_Of_placeByArea_16 (by decide) (fun c16 => ?_) (fun c16 => ?_)
    · refine x_iinc d_Of_placeByArea_21 rfl (by first | exact inc1 _ | rfl) (by decide) ?_
      refine x_goto (tgt := 2) d_Of_placeByArea_24 (by decide) ?_
      exact ih hj3 (by rw [hf, ff_f hj3 (by simpa using c16)])
    · refine x_iload_n d_Of_placeByArea_19 rfl ?_
      refine x_iret rfl rfl d_Of_placeByArea_20 (Nat.zero_le _) (Nat.zero_le _) ?_
      exact ⟨by rw [hf, ff_t hj3 (by simpa using c16)]; rfl, rfl, rfl, rfl⟩
/-- what a copy of Offcuts is, cell by cell -/
def cpOf (mem : Mem) (a b : Nat) : Mem := cpm (cpm (cpm (cpm (um (um mem b 0 (mem a 0)) b 1 (mem a 1)) (a + 2) (b + 2) 60) (a + 4) (b + 4) 60) (a + 6) (b + 6) 60) (a + 8) (b + 8) 60
theorem ct_Of_copyFrom {α : Nat} (hO : LayOf sh ρ) (hA : LayOf sh α) (hd : α + 9 ≤ ρ ∨ ρ + 9 ≤ α) : Ct l g M_Of_copyFrom [rf g ρ, rf g α] none sh mem (Rv none sh (fun m => m = cpOf mem α ρ)) := by
  refine x_begin rfl rfl rfl (by decide) rfl ?_
  refine x_aload_n d_Of_copyFrom_0 rfl ?_
  refine x_aload_n d_Of_copyFrom_1 rfl ?_
  refine x_getI hA.f0 rfl fs_Of_29 d_Of_copyFrom_2 ?_
  refine x_putI hO.f0 rfl ps_Of_29 rfl rfl d_Of_copyFrom_5 ?_
  refine x_aload_n d_Of_copyFrom_8 rfl ?_
  refine x_aload_n d_Of_copyFrom_9 rfl ?_
  refine x_getI hA.f0 rfl fs_Of_33 d_Of_copyFrom_10 ?_
  rw [um_o _ _ (show α ≠ ρ by omega)]
  refine x_putI hO.f0 rfl ps_Of_33 rfl rfl d_Of_copyFrom_13 ?_
  refine x_aload_n d_Of_copyFrom_16 rfl ?_
  refine x_getR hO.f0 rfl fs_Of_14 d_Of_copyFrom_17 ?_
  refine x_aload_n d_Of_copyFrom_20 rfl ?_
  refine x_getR hA.f0 rfl fs_Of_14 d_Of_copyFrom_21 ?_
  refine x_v1v d_Of_copyFrom_24 ml_Of_60 v_Rw_copyFrom rfl ⟨rfl, rfl⟩ (row_io hO.f1) (Nat.le_of_ble_eq_true rfl) (ct_Rw_copyFrom hO.f1 hO.f2 hA.f1 hA.f2 (by omega)) (fun _ hE => ?_)
  subst hE
  refine x_aload_n d_Of_copyFrom_27 rfl ?_
  refine x_getR hO.f0 rfl fs_Of_20 d_Of_copyFrom_28 ?_
  refine x_aload_n d_Of_copyFrom_31 rfl ?_
  refine x_getR hA.f0 rfl fs_Of_20 d_Of_copyFrom_32 ?_
  refine x_v1v d_Of_copyFrom_35 ml_Of_60 v_Rw_copyFrom rfl ⟨rfl, rfl⟩ (row_io hO.f3) (Nat.le_of_ble_eq_true rfl) (ct_Rw_copyFrom hO.f3 hO.f4 hA.f3 hA.f4 (by omega)) (fun _ hE => ?_)
  subst hE
  refine x_aload_n d_Of_copyFrom_38 rfl ?_
  refine x_getR hO.f0 rfl fs_Of_23 d_Of_copyFrom_39 ?_
  refine x_aload_n d_Of_copyFrom_42 rfl ?_
  refine x_getR hA.f0 rfl fs_Of_23 d_Of_copyFrom_43 ?_
  refine x_v1v d_Of_copyFrom_46 ml_Of_60 v_Rw_copyFrom rfl ⟨rfl, rfl⟩ (row_io hO.f5) (Nat.le_of_ble_eq_true rfl) (ct_Rw_copyFrom hO.f5 hO.f6 hA.f5 hA.f6 (by omega)) (fun _ hE => ?_)
  subst hE
  refine x_aload_n d_Of_copyFrom_49 rfl ?_
  refine x_getR hO.f0 rfl fs_Of_26 d_Of_copyFrom_50 ?_
  refine x_aload_n d_Of_copyFrom_53 rfl ?_
  refine x_getR hA.f0 rfl fs_Of_26 d_Of_copyFrom_54 ?_
  refine x_v1v d_Of_copyFrom_57 ml_Of_60 v_Rw_copyFrom rfl ⟨rfl, rfl⟩ (row_io hO.f7) (Nat.le_of_ble_eq_true rfl) (ct_Rw_copyFrom hO.f7 hO.f8 hA.f7 hA.f8 (by omega)) (fun _ hE => ?_)
  subst hE
  refine x_vret rfl d_Of_copyFrom_60 (Nat.zero_le _) (Nat.zero_le _) ?_
  exact ⟨rfl, rfl, rfl, rfl⟩
end
end
