-- ===== PART A: goes FIRST, ahead of the names: the tables' words, and 'selects' of the private methods out of them =====
/-- a private method of a class that the tables say can be made, by its rows of tables_1 -/
def lw_okq (q : MethodName × Nat) : Prop := (q.1.cls ≠ "java/lang/invoke/MethodHandle" ∧ q.1.cls ≠ "java/lang/invoke/VarHandle") ∧ Cond.instantiable q.1.cls q.2 ∈ tables_1 ∧ Cond.privateMethod q.1 ∈ tables_1 ∧ Cond.instanceMethod q.1 ∈ tables_1
theorem lw_p0 : lw_okq (⟨"CarpetCounter$History", "slotAt", "(I)LCarpetCounter$Book;"⟩, 3) := ⟨⟨by decide +kernel, by decide +kernel⟩, List.mem_of_getElem? (i := 206) (by decide +kernel), List.mem_of_getElem? (i := 314) (by decide +kernel), List.mem_of_getElem? (i := 315) (by decide +kernel)⟩
theorem lw_p1 : lw_okq (⟨"CarpetCounter", "setting", "(I)I"⟩, 8) := ⟨⟨by decide +kernel, by decide +kernel⟩, List.mem_of_getElem? (i := 13) (by decide +kernel), List.mem_of_getElem? (i := 413) (by decide +kernel), List.mem_of_getElem? (i := 414) (by decide +kernel)⟩
theorem lw_p2 : lw_okq (⟨"CarpetCounter", "covering", "(II)I"⟩, 8) := ⟨⟨by decide +kernel, by decide +kernel⟩, List.mem_of_getElem? (i := 13) (by decide +kernel), List.mem_of_getElem? (i := 460) (by decide +kernel), List.mem_of_getElem? (i := 461) (by decide +kernel)⟩
theorem lw_p3 : lw_okq (⟨"CarpetCounter$Rooms", "stripsIn", "(II)I"⟩, 10) := ⟨⟨by decide +kernel, by decide +kernel⟩, List.mem_of_getElem? (i := 126) (by decide +kernel), List.mem_of_getElem? (i := 468) (by decide +kernel), List.mem_of_getElem? (i := 469) (by decide +kernel)⟩
theorem lw_p4 : lw_okq (⟨"CarpetCounter$RoomText", "beginRoom", "()V"⟩, 6) := ⟨⟨by decide +kernel, by decide +kernel⟩, List.mem_of_getElem? (i := 226) (by decide +kernel), List.mem_of_getElem? (i := 552) (by decide +kernel), List.mem_of_getElem? (i := 553) (by decide +kernel)⟩
theorem lw_p5 : lw_okq (⟨"CarpetCounter$RoomText", "takes", "(I)Z"⟩, 6) := ⟨⟨by decide +kernel, by decide +kernel⟩, List.mem_of_getElem? (i := 226) (by decide +kernel), List.mem_of_getElem? (i := 562) (by decide +kernel), List.mem_of_getElem? (i := 563) (by decide +kernel)⟩
theorem lw_p6 : lw_okq (⟨"CarpetCounter$RoomText", "takesDigit", "(I)Z"⟩, 6) := ⟨⟨by decide +kernel, by decide +kernel⟩, List.mem_of_getElem? (i := 226) (by decide +kernel), List.mem_of_getElem? (i := 566) (by decide +kernel), List.mem_of_getElem? (i := 567) (by decide +kernel)⟩
theorem lw_p7 : lw_okq (⟨"CarpetCounter$RoomText", "takesBetweenSizes", "(I)Z"⟩, 6) := ⟨⟨by decide +kernel, by decide +kernel⟩, List.mem_of_getElem? (i := 226) (by decide +kernel), List.mem_of_getElem? (i := 570) (by decide +kernel), List.mem_of_getElem? (i := 571) (by decide +kernel)⟩
theorem lw_p8 : lw_okq (⟨"CarpetCounter$RoomText", "takesBehindSizes", "(I)Z"⟩, 6) := ⟨⟨by decide +kernel, by decide +kernel⟩, List.mem_of_getElem? (i := 226) (by decide +kernel), List.mem_of_getElem? (i := 574) (by decide +kernel), List.mem_of_getElem? (i := 575) (by decide +kernel)⟩
theorem lw_p9 : lw_okq (⟨"CarpetCounter$RoomText", "takesLight", "(I)Z"⟩, 6) := ⟨⟨by decide +kernel, by decide +kernel⟩, List.mem_of_getElem? (i := 226) (by decide +kernel), List.mem_of_getElem? (i := 583) (by decide +kernel), List.mem_of_getElem? (i := 584) (by decide +kernel)⟩
theorem lw_p10 : lw_okq (⟨"CarpetCounter$RoomText", "takesBetweenRooms", "(I)Z"⟩, 6) := ⟨⟨by decide +kernel, by decide +kernel⟩, List.mem_of_getElem? (i := 226) (by decide +kernel), List.mem_of_getElem? (i := 591) (by decide +kernel), List.mem_of_getElem? (i := 592) (by decide +kernel)⟩
theorem lw_p11 : lw_okq (⟨"CarpetCounter$Book", "takePiece", "(IIIII)Z"⟩, 7) := ⟨⟨by decide +kernel, by decide +kernel⟩, List.mem_of_getElem? (i := 21) (by decide +kernel), List.mem_of_getElem? (i := 626) (by decide +kernel), List.mem_of_getElem? (i := 627) (by decide +kernel)⟩
theorem lw_p12 : lw_okq (⟨"CarpetCounter$Book", "leaveRests", "(III)Z"⟩, 7) := ⟨⟨by decide +kernel, by decide +kernel⟩, List.mem_of_getElem? (i := 21) (by decide +kernel), List.mem_of_getElem? (i := 642) (by decide +kernel), List.mem_of_getElem? (i := 643) (by decide +kernel)⟩
theorem lw_p13 : lw_okq (⟨"CarpetCounter$Book", "isLongBeside", "(II)Z"⟩, 7) := ⟨⟨by decide +kernel, by decide +kernel⟩, List.mem_of_getElem? (i := 21) (by decide +kernel), List.mem_of_getElem? (i := 646) (by decide +kernel), List.mem_of_getElem? (i := 647) (by decide +kernel)⟩
theorem lw_p14 : lw_okq (⟨"CarpetCounter$Book", "leaveRest", "(III)Z"⟩, 7) := ⟨⟨by decide +kernel, by decide +kernel⟩, List.mem_of_getElem? (i := 21) (by decide +kernel), List.mem_of_getElem? (i := 653) (by decide +kernel), List.mem_of_getElem? (i := 654) (by decide +kernel)⟩
theorem lw_p15 : lw_okq (⟨"CarpetCounter$Book", "seamPrice", "(II)I"⟩, 7) := ⟨⟨by decide +kernel, by decide +kernel⟩, List.mem_of_getElem? (i := 21) (by decide +kernel), List.mem_of_getElem? (i := 664) (by decide +kernel), List.mem_of_getElem? (i := 665) (by decide +kernel)⟩
def lw_privs_1 : List (MethodName × Nat) := [(⟨"CarpetCounter$History", "slotAt", "(I)LCarpetCounter$Book;"⟩, 3), (⟨"CarpetCounter", "setting", "(I)I"⟩, 8), (⟨"CarpetCounter", "covering", "(II)I"⟩, 8), (⟨"CarpetCounter$Rooms", "stripsIn", "(II)I"⟩, 10), (⟨"CarpetCounter$RoomText", "beginRoom", "()V"⟩, 6), (⟨"CarpetCounter$RoomText", "takes", "(I)Z"⟩, 6), (⟨"CarpetCounter$RoomText", "takesDigit", "(I)Z"⟩, 6), (⟨"CarpetCounter$RoomText", "takesBetweenSizes", "(I)Z"⟩, 6), (⟨"CarpetCounter$RoomText", "takesBehindSizes", "(I)Z"⟩, 6), (⟨"CarpetCounter$RoomText", "takesLight", "(I)Z"⟩, 6), (⟨"CarpetCounter$RoomText", "takesBetweenRooms", "(I)Z"⟩, 6), (⟨"CarpetCounter$Book", "takePiece", "(IIIII)Z"⟩, 7), (⟨"CarpetCounter$Book", "leaveRests", "(III)Z"⟩, 7), (⟨"CarpetCounter$Book", "isLongBeside", "(II)Z"⟩, 7), (⟨"CarpetCounter$Book", "leaveRest", "(III)Z"⟩, 7), (⟨"CarpetCounter$Book", "seamPrice", "(II)I"⟩, 7)]
theorem lw_r1 : ∀ q ∈ lw_privs_1, lw_okq q := List.forall_mem_cons.mpr ⟨lw_p0, List.forall_mem_cons.mpr ⟨lw_p1, List.forall_mem_cons.mpr ⟨lw_p2, List.forall_mem_cons.mpr ⟨lw_p3, List.forall_mem_cons.mpr ⟨lw_p4, List.forall_mem_cons.mpr ⟨lw_p5, List.forall_mem_cons.mpr ⟨lw_p6, List.forall_mem_cons.mpr ⟨lw_p7, List.forall_mem_cons.mpr ⟨lw_p8, List.forall_mem_cons.mpr ⟨lw_p9, List.forall_mem_cons.mpr ⟨lw_p10, List.forall_mem_cons.mpr ⟨lw_p11, List.forall_mem_cons.mpr ⟨lw_p12, List.forall_mem_cons.mpr ⟨lw_p13, List.forall_mem_cons.mpr ⟨lw_p14, List.forall_mem_cons.mpr ⟨lw_p15, fun _ h => absurd h List.not_mem_nil⟩⟩⟩⟩⟩⟩⟩⟩⟩⟩⟩⟩⟩⟩⟩⟩
def lw_privs : List (MethodName × Nat) := lw_privs_1
def lw_tbl : List Cond := k2_sels lw_privs ++ tables_1
theorem lw_privs_ok : ∀ q ∈ lw_privs, lw_okq q := lw_r1
/-- the streams that the claim lets the run draw from -/
abbrev lw_cs : List Choice := [Jvm.Choice.named "NaN.bits"]
theorem lw_bits : nanBits ∈ lw_cs := by first | decide | exact List.mem_cons_self | simp [lw_cs, nanBits]

-- words that stay true through a run
def tbG : List Cond := lw_tbl.filter goodWord
theorem tbG_hts {args : Array Value} {s : State} (h : ∀ w ∈ lw_tbl, w.before args s = true) : ∀ w ∈ tbG, w.before args s = true := fun w hw => h w (List.mem_filter.mp hw).1
theorem tbG_good : ∀ w ∈ tbG, (w.onTables && w.keeps) = true ∨ ∃ ty, w = .arrayClass ty := fun w hw => good_of_word (List.mem_filter.mp hw).2
theorem tg_t {w : Cond} (h : w ∈ tables_1) (hg : goodWord w = true) : w ∈ tbG := List.mem_filter.mpr ⟨List.mem_append_right _ h, hg⟩
theorem tg_s {q : MethodName × Nat} (h : q ∈ lw_privs) : Cond.selects q.1.cls q.1 q.1 ∈ tbG := List.mem_filter.mpr ⟨List.mem_append_left _ (List.mem_map.mpr ⟨q, h, rfl⟩), rfl⟩

theorem tg1 {w : Cond} (j : Nat) (h : tables_1_1[j]? = some w) (hg : goodWord w = true) : w ∈ tbG := tg_t (List.mem_append_left _ (List.mem_of_getElem? h)) hg
theorem tg2 {w : Cond} (j : Nat) (h : tables_1_2[j]? = some w) (hg : goodWord w = true) : w ∈ tbG := tg_t (List.mem_append_right _ (List.mem_append_left _ (List.mem_of_getElem? h))) hg
theorem tg3 {w : Cond} (j : Nat) (h : tables_1_3[j]? = some w) (hg : goodWord w = true) : w ∈ tbG := tg_t (List.mem_append_right _ (List.mem_append_right _ (List.mem_of_getElem? h))) hg
def R_Bk : String := "CarpetCounter$Book"
def T_Bk : u_T := fun k => match k with
  | 0 => ("CarpetCounter$Book", "settings", "LCarpetCounter$Row;", true)
  | 1 => ("CarpetCounter$Book", "rolls", "LCarpetCounter$Rolls;", true)
  | 2 => ("CarpetCounter$Book", "offcuts", "LCarpetCounter$Offcuts;", true)
  | 3 => ("CarpetCounter$Book", "rooms", "LCarpetCounter$Rooms;", true)
  | 4 => ("CarpetCounter$Book", "coins", "I", false)
  | 5 => ("CarpetCounter$Book", "pieceWidth", "I", false)
  | _ => ("CarpetCounter$Book", "pieceLength", "I", false)
def ty_Bk : Nat → FieldType := fun k => match k with
  | 0 => .object "CarpetCounter$Row"
  | 1 => .object "CarpetCounter$Rolls"
  | 2 => .object "CarpetCounter$Offcuts"
  | 3 => .object "CarpetCounter$Rooms"
  | 4 => .int
  | 5 => .int
  | _ => .int
theorem nm_Bk : ∀ a, a < 7 → ∀ b, b < 7 → a ≠ b → (T_Bk a).2.1 ≠ (T_Bk b).2.1 := by decide +kernel
theorem ty_Bk_ok : ∀ k, k < 7 → parseFieldDescriptor (T_Bk k).2.2.1 = some (ty_Bk k) := by decide +kernel
def R_Ch : String := "CarpetCounter$Choice"
def T_Ch : u_T := fun k => match k with
  | 0 => ("CarpetCounter$Choice", "isMade", "Z", false)
  | 1 => ("CarpetCounter$Choice", "roll", "I", false)
  | 2 => ("CarpetCounter$Choice", "way", "I", false)
  | 3 => ("CarpetCounter$Choice", "waste", "I", false)
  | _ => ("CarpetCounter$Choice", "price", "I", false)
def ty_Ch : Nat → FieldType := fun k => match k with
  | 0 => .boolean
  | 1 => .int
  | 2 => .int
  | 3 => .int
  | _ => .int
theorem nm_Ch : ∀ a, a < 5 → ∀ b, b < 5 → a ≠ b → (T_Ch a).2.1 ≠ (T_Ch b).2.1 := by decide +kernel
theorem ty_Ch_ok : ∀ k, k < 5 → parseFieldDescriptor (T_Ch k).2.2.1 = some (ty_Ch k) := by decide +kernel
def R_Hi : String := "CarpetCounter$History"
def T_Hi : u_T := fun k => match k with
  | 0 => ("CarpetCounter$History", "states", "[LCarpetCounter$Book;", true)
  | 1 => ("CarpetCounter$History", "oldest", "I", false)
  | _ => ("CarpetCounter$History", "length", "I", false)
def ty_Hi : Nat → FieldType := fun k => match k with
  | 0 => .array (.object "CarpetCounter$Book")
  | 1 => .int
  | _ => .int
theorem nm_Hi : ∀ a, a < 3 → ∀ b, b < 3 → a ≠ b → (T_Hi a).2.1 ≠ (T_Hi b).2.1 := by decide +kernel
theorem ty_Hi_ok : ∀ k, k < 3 → parseFieldDescriptor (T_Hi k).2.2.1 = some (ty_Hi k) := by decide +kernel
def R_Of : String := "CarpetCounter$Offcuts"
def T_Of : u_T := fun k => match k with
  | 0 => ("CarpetCounter$Offcuts", "kept", "I", false)
  | 1 => ("CarpetCounter$Offcuts", "came", "I", false)
  | 2 => ("CarpetCounter$Offcuts", "number", "LCarpetCounter$Row;", true)
  | 3 => ("CarpetCounter$Offcuts", "roll", "LCarpetCounter$Row;", true)
  | 4 => ("CarpetCounter$Offcuts", "width", "LCarpetCounter$Row;", true)
  | _ => ("CarpetCounter$Offcuts", "length", "LCarpetCounter$Row;", true)
def ty_Of : Nat → FieldType := fun k => match k with
  | 0 => .int
  | 1 => .int
  | 2 => .object "CarpetCounter$Row"
  | 3 => .object "CarpetCounter$Row"
  | 4 => .object "CarpetCounter$Row"
  | _ => .object "CarpetCounter$Row"
theorem nm_Of : ∀ a, a < 6 → ∀ b, b < 6 → a ≠ b → (T_Of a).2.1 ≠ (T_Of b).2.1 := by decide +kernel
theorem ty_Of_ok : ∀ k, k < 6 → parseFieldDescriptor (T_Of k).2.2.1 = some (ty_Of k) := by decide +kernel
def R_Ro : String := "CarpetCounter$Rolls"
def T_Ro : u_T := fun k => match k with
  | 0 => ("CarpetCounter$Rolls", "came", "I", false)
  | 1 => ("CarpetCounter$Rolls", "kind", "LCarpetCounter$Row;", true)
  | 2 => ("CarpetCounter$Rolls", "width", "LCarpetCounter$Row;", true)
  | 3 => ("CarpetCounter$Rolls", "left", "LCarpetCounter$Row;", true)
  | 4 => ("CarpetCounter$Rolls", "price", "LCarpetCounter$Row;", true)
  | 5 => ("CarpetCounter$Rolls", "firstArea", "LCarpetCounter$Row;", true)
  | 6 => ("CarpetCounter$Rolls", "laid", "LCarpetCounter$Row;", true)
  | 7 => ("CarpetCounter$Rolls", "waste", "LCarpetCounter$Row;", true)
  | _ => ("CarpetCounter$Rolls", "sold", "LCarpetCounter$Row;", true)
def ty_Ro : Nat → FieldType := fun k => match k with
  | 0 => .int
  | 1 => .object "CarpetCounter$Row"
  | 2 => .object "CarpetCounter$Row"
  | 3 => .object "CarpetCounter$Row"
  | 4 => .object "CarpetCounter$Row"
  | 5 => .object "CarpetCounter$Row"
  | 6 => .object "CarpetCounter$Row"
  | 7 => .object "CarpetCounter$Row"
  | _ => .object "CarpetCounter$Row"
theorem nm_Ro : ∀ a, a < 9 → ∀ b, b < 9 → a ≠ b → (T_Ro a).2.1 ≠ (T_Ro b).2.1 := by decide +kernel
theorem ty_Ro_ok : ∀ k, k < 9 → parseFieldDescriptor (T_Ro k).2.2.1 = some (ty_Ro k) := by decide +kernel
def R_Te : String := "CarpetCounter$RoomText"
def T_Te : u_T := fun k => match k with
  | 0 => ("CarpetCounter$RoomText", "characters", "LCarpetCounter$Row;", true)
  | 1 => ("CarpetCounter$RoomText", "length", "I", false)
  | 2 => ("CarpetCounter$RoomText", "found", "LCarpetCounter$Rooms;", true)
  | 3 => ("CarpetCounter$RoomText", "stage", "I", false)
  | 4 => ("CarpetCounter$RoomText", "number", "I", false)
  | _ => ("CarpetCounter$RoomText", "fromWest", "I", false)
def ty_Te : Nat → FieldType := fun k => match k with
  | 0 => .object "CarpetCounter$Row"
  | 1 => .int
  | 2 => .object "CarpetCounter$Rooms"
  | 3 => .int
  | 4 => .int
  | _ => .int
theorem nm_Te : ∀ a, a < 6 → ∀ b, b < 6 → a ≠ b → (T_Te a).2.1 ≠ (T_Te b).2.1 := by decide +kernel
theorem ty_Te_ok : ∀ k, k < 6 → parseFieldDescriptor (T_Te k).2.2.1 = some (ty_Te k) := by decide +kernel
def R_Rm : String := "CarpetCounter$Rooms"
def T_Rm : u_T := fun k => match k with
  | 0 => ("CarpetCounter$Rooms", "came", "I", false)
  | 1 => ("CarpetCounter$Rooms", "rectangles", "LCarpetCounter$Row;", true)
  | 2 => ("CarpetCounter$Rooms", "westEast", "LCarpetCounter$Row;", true)
  | 3 => ("CarpetCounter$Rooms", "southNorth", "LCarpetCounter$Row;", true)
  | 4 => ("CarpetCounter$Rooms", "side", "LCarpetCounter$Row;", true)
  | 5 => ("CarpetCounter$Rooms", "roll", "LCarpetCounter$Row;", true)
  | 6 => ("CarpetCounter$Rooms", "rollWidth", "LCarpetCounter$Row;", true)
  | 7 => ("CarpetCounter$Rooms", "way", "LCarpetCounter$Row;", true)
  | 8 => ("CarpetCounter$Rooms", "price", "LCarpetCounter$Row;", true)
  | _ => ("CarpetCounter$Rooms", "sources", "LCarpetCounter$Row;", true)
def ty_Rm : Nat → FieldType := fun k => match k with
  | 0 => .int
  | 1 => .object "CarpetCounter$Row"
  | 2 => .object "CarpetCounter$Row"
  | 3 => .object "CarpetCounter$Row"
  | 4 => .object "CarpetCounter$Row"
  | 5 => .object "CarpetCounter$Row"
  | 6 => .object "CarpetCounter$Row"
  | 7 => .object "CarpetCounter$Row"
  | 8 => .object "CarpetCounter$Row"
  | _ => .object "CarpetCounter$Row"
theorem nm_Rm : ∀ a, a < 10 → ∀ b, b < 10 → a ≠ b → (T_Rm a).2.1 ≠ (T_Rm b).2.1 := by decide +kernel
theorem ty_Rm_ok : ∀ k, k < 10 → parseFieldDescriptor (T_Rm k).2.2.1 = some (ty_Rm k) := by decide +kernel
def R_Rw : String := "CarpetCounter$Row"
def T_Rw : u_T := fun k => match k with
  | _ => ("CarpetCounter$Row", "cells", "[I", true)
def ty_Rw : Nat → FieldType := fun k => match k with
  | _ => .array .int
theorem nm_Rw : ∀ a, a < 1 → ∀ b, b < 1 → a ≠ b → (T_Rw a).2.1 ≠ (T_Rw b).2.1 := by decide +kernel
theorem ty_Rw_ok : ∀ k, k < 1 → parseFieldDescriptor (T_Rw k).2.2.1 = some (ty_Rw k) := by decide +kernel
def R_Cc : String := "CarpetCounter"
def T_Cc : u_T := fun k => match k with
  | 0 => ("CarpetCounter", "book", "LCarpetCounter$Book;", true)
  | 1 => ("CarpetCounter", "snapshot", "LCarpetCounter$Book;", true)
  | 2 => ("CarpetCounter", "trial", "LCarpetCounter$Book;", true)
  | 3 => ("CarpetCounter", "plan", "LCarpetCounter$Book;", true)
  | 4 => ("CarpetCounter", "history", "LCarpetCounter$History;", true)
  | 5 => ("CarpetCounter", "text", "LCarpetCounter$RoomText;", true)
  | 6 => ("CarpetCounter", "choice", "LCarpetCounter$Choice;", true)
  | _ => ("CarpetCounter", "hasSnapshot", "Z", false)
def ty_Cc : Nat → FieldType := fun k => match k with
  | 0 => .object "CarpetCounter$Book"
  | 1 => .object "CarpetCounter$Book"
  | 2 => .object "CarpetCounter$Book"
  | 3 => .object "CarpetCounter$Book"
  | 4 => .object "CarpetCounter$History"
  | 5 => .object "CarpetCounter$RoomText"
  | 6 => .object "CarpetCounter$Choice"
  | _ => .boolean
theorem nm_Cc : ∀ a, a < 8 → ∀ b, b < 8 → a ≠ b → (T_Cc a).2.1 ≠ (T_Cc b).2.1 := by decide +kernel
theorem ty_Cc_ok : ∀ k, k < 8 → parseFieldDescriptor (T_Cc k).2.2.1 = some (ty_Cc k) := by decide +kernel
abbrev vwCl : List vw_C := [(R_Bk, T_Bk, 7), (R_Ch, T_Ch, 5), (R_Hi, T_Hi, 3), (R_Of, T_Of, 6), (R_Ro, T_Ro, 9), (R_Te, T_Te, 6), (R_Rm, T_Rm, 10), (R_Rw, T_Rw, 1), (R_Cc, T_Cc, 8)]
def R_La : String := "CarpetCounterLaw"
abbrev c_La_law : ByteArray := code
def y_La_law : MethodName := ⟨R_La, "law", "([I)Z"⟩
abbrev c_Bk_copyFrom : ByteArray := prog_2_method_2_code
def y_Bk_copyFrom : MethodName := ⟨R_Bk, "copyFrom", "(LCarpetCounter$Book;)V"⟩
abbrev c_Bk_init : ByteArray := prog_2_method_1_code
def y_Bk_init : MethodName := ⟨R_Bk, "<init>", "()V"⟩
abbrev c_Bk_isLongBeside : ByteArray := prog_2_method_7_code
def y_Bk_isLongBeside : MethodName := ⟨R_Bk, "isLongBeside", "(II)Z"⟩
abbrev c_Bk_lay : ByteArray := prog_2_method_3_code
def y_Bk_lay : MethodName := ⟨R_Bk, "lay", "(III)I"⟩
abbrev c_Bk_leaveRest : ByteArray := prog_2_method_8_code
def y_Bk_leaveRest : MethodName := ⟨R_Bk, "leaveRest", "(III)Z"⟩
abbrev c_Bk_leaveRests : ByteArray := prog_2_method_6_code
def y_Bk_leaveRests : MethodName := ⟨R_Bk, "leaveRests", "(III)Z"⟩
abbrev c_Bk_lift : ByteArray := prog_2_method_9_code
def y_Bk_lift : MethodName := ⟨R_Bk, "lift", "(I)I"⟩
abbrev c_Bk_seamPrice : ByteArray := prog_2_method_4_code
def y_Bk_seamPrice : MethodName := ⟨R_Bk, "seamPrice", "(II)I"⟩
abbrev c_Bk_sellAt : ByteArray := prog_2_method_10_code
def y_Bk_sellAt : MethodName := ⟨R_Bk, "sellAt", "(I)I"⟩
abbrev c_Bk_takePiece : ByteArray := prog_2_method_5_code
def y_Bk_takePiece : MethodName := ⟨R_Bk, "takePiece", "(IIIII)Z"⟩
abbrev c_Bk_throwSmallOnes : ByteArray := prog_2_method_11_code
def y_Bk_throwSmallOnes : MethodName := ⟨R_Bk, "throwSmallOnes", "(II)I"⟩
abbrev c_Ch_init : ByteArray := prog_3_method_1_code
def y_Ch_init : MethodName := ⟨R_Ch, "<init>", "()V"⟩
abbrev c_Hi_init : ByteArray := prog_4_method_1_code
def y_Hi_init : MethodName := ⟨R_Hi, "<init>", "()V"⟩
abbrev c_Hi_moveLatestTo : ByteArray := prog_4_method_3_code
def y_Hi_moveLatestTo : MethodName := ⟨R_Hi, "moveLatestTo", "(LCarpetCounter$Book;)V"⟩
abbrev c_Hi_record : ByteArray := prog_4_method_2_code
def y_Hi_record : MethodName := ⟨R_Hi, "record", "(LCarpetCounter$Book;)V"⟩
abbrev c_Hi_slotAt : ByteArray := prog_4_method_4_code
def y_Hi_slotAt : MethodName := ⟨R_Hi, "slotAt", "(I)LCarpetCounter$Book;"⟩
abbrev c_Of_append : ByteArray := prog_5_method_2_code
def y_Of_append : MethodName := ⟨R_Of, "append", "(III)Z"⟩
abbrev c_Of_area : ByteArray := prog_5_method_5_code
def y_Of_area : MethodName := ⟨R_Of, "area", "(I)I"⟩
abbrev c_Of_areaOf : ByteArray := prog_5_method_7_code
def y_Of_areaOf : MethodName := ⟨R_Of, "areaOf", "(I)I"⟩
abbrev c_Of_copyFrom : ByteArray := prog_5_method_14_code
def y_Of_copyFrom : MethodName := ⟨R_Of, "copyFrom", "(LCarpetCounter$Offcuts;)V"⟩
abbrev c_Of_holds : ByteArray := prog_5_method_10_code
def y_Of_holds : MethodName := ⟨R_Of, "holds", "(III)Z"⟩
abbrev c_Of_init : ByteArray := prog_5_method_1_code
def y_Of_init : MethodName := ⟨R_Of, "<init>", "()V"⟩
abbrev c_Of_isSmall : ByteArray := prog_5_method_8_code
def y_Of_isSmall : MethodName := ⟨R_Of, "isSmall", "(III)Z"⟩
abbrev c_Of_keptOf : ByteArray := prog_5_method_6_code
def y_Of_keptOf : MethodName := ⟨R_Of, "keptOf", "(I)I"⟩
abbrev c_Of_placeFor : ByteArray := prog_5_method_11_code
def y_Of_placeFor : MethodName := ⟨R_Of, "placeFor", "(III)I"⟩
abbrev c_Of_placeOf : ByteArray := prog_5_method_4_code
def y_Of_placeOf : MethodName := ⟨R_Of, "placeOf", "(I)I"⟩
abbrev c_Of_removeAt : ByteArray := prog_5_method_3_code
def y_Of_removeAt : MethodName := ⟨R_Of, "removeAt", "(I)V"⟩
abbrev c_Of_smallOnes : ByteArray := prog_5_method_9_code
def y_Of_smallOnes : MethodName := ⟨R_Of, "smallOnes", "(II)I"⟩
abbrev c_Ro_append : ByteArray := prog_6_method_3_code
def y_Ro_append : MethodName := ⟨R_Ro, "append", "(IIII)I"⟩
abbrev c_Ro_copyFrom : ByteArray := prog_6_method_4_code
def y_Ro_copyFrom : MethodName := ⟨R_Ro, "copyFrom", "(LCarpetCounter$Rolls;)V"⟩
abbrev c_Ro_has : ByteArray := prog_6_method_2_code
def y_Ro_has : MethodName := ⟨R_Ro, "has", "(I)Z"⟩
abbrev c_Ro_init : ByteArray := prog_6_method_1_code
def y_Ro_init : MethodName := ⟨R_Ro, "<init>", "()V"⟩
abbrev c_Te_append : ByteArray := prog_7_method_2_code
def y_Te_append : MethodName := ⟨R_Te, "append", "(C)Z"⟩
abbrev c_Te_beginRoom : ByteArray := prog_7_method_4_code
def y_Te_beginRoom : MethodName := ⟨R_Te, "beginRoom", "()V"⟩
abbrev c_Te_init : ByteArray := prog_7_method_1_code
def y_Te_init : MethodName := ⟨R_Te, "<init>", "()V"⟩
abbrev c_Te_read : ByteArray := prog_7_method_3_code
def y_Te_read : MethodName := ⟨R_Te, "read", "()I"⟩
abbrev c_Te_takes : ByteArray := prog_7_method_5_code
def y_Te_takes : MethodName := ⟨R_Te, "takes", "(I)Z"⟩
abbrev c_Te_takesBehindSizes : ByteArray := prog_7_method_8_code
def y_Te_takesBehindSizes : MethodName := ⟨R_Te, "takesBehindSizes", "(I)Z"⟩
abbrev c_Te_takesBetweenRooms : ByteArray := prog_7_method_10_code
def y_Te_takesBetweenRooms : MethodName := ⟨R_Te, "takesBetweenRooms", "(I)Z"⟩
abbrev c_Te_takesBetweenSizes : ByteArray := prog_7_method_7_code
def y_Te_takesBetweenSizes : MethodName := ⟨R_Te, "takesBetweenSizes", "(I)Z"⟩
abbrev c_Te_takesDigit : ByteArray := prog_7_method_6_code
def y_Te_takesDigit : MethodName := ⟨R_Te, "takesDigit", "(I)Z"⟩
abbrev c_Te_takesLight : ByteArray := prog_7_method_9_code
def y_Te_takesLight : MethodName := ⟨R_Te, "takesLight", "(I)Z"⟩
abbrev c_Rm_addRectangle : ByteArray := prog_8_method_5_code
def y_Rm_addRectangle : MethodName := ⟨R_Rm, "addRectangle", "(II)V"⟩
abbrev c_Rm_appendAll : ByteArray := prog_8_method_7_code
def y_Rm_appendAll : MethodName := ⟨R_Rm, "appendAll", "(LCarpetCounter$Rooms;)V"⟩
abbrev c_Rm_area : ByteArray := prog_8_method_9_code
def y_Rm_area : MethodName := ⟨R_Rm, "area", "(I)I"⟩
abbrev c_Rm_begin : ByteArray := prog_8_method_4_code
def y_Rm_begin : MethodName := ⟨R_Rm, "begin", "()V"⟩
abbrev c_Rm_cell : ByteArray := prog_8_method_8_code
def y_Rm_cell : MethodName := ⟨R_Rm, "cell", "(II)I"⟩
abbrev c_Rm_copyFrom : ByteArray := prog_8_method_25_code
def y_Rm_copyFrom : MethodName := ⟨R_Rm, "copyFrom", "(LCarpetCounter$Rooms;)V"⟩
abbrev c_Rm_covered : ByteArray := prog_8_method_10_code
def y_Rm_covered : MethodName := ⟨R_Rm, "covered", "()I"⟩
abbrev c_Rm_coveredArea : ByteArray := prog_8_method_11_code
def y_Rm_coveredArea : MethodName := ⟨R_Rm, "coveredArea", "()I"⟩
abbrev c_Rm_finish : ByteArray := prog_8_method_6_code
def y_Rm_finish : MethodName := ⟨R_Rm, "finish", "(I)V"⟩
abbrev c_Rm_has : ByteArray := prog_8_method_2_code
def y_Rm_has : MethodName := ⟨R_Rm, "has", "(I)Z"⟩
abbrev c_Rm_init : ByteArray := prog_8_method_1_code
def y_Rm_init : MethodName := ⟨R_Rm, "<init>", "()V"⟩
abbrev c_Rm_isAcross : ByteArray := prog_8_method_12_code
def y_Rm_isAcross : MethodName := ⟨R_Rm, "isAcross", "(II)Z"⟩
abbrev c_Rm_isCovered : ByteArray := prog_8_method_3_code
def y_Rm_isCovered : MethodName := ⟨R_Rm, "isCovered", "(I)Z"⟩
abbrev c_Rm_putBare : ByteArray := prog_8_method_16_code
def y_Rm_putBare : MethodName := ⟨R_Rm, "putBare", "(I)V"⟩
abbrev c_Rm_putCovering : ByteArray := prog_8_method_15_code
def y_Rm_putCovering : MethodName := ⟨R_Rm, "putCovering", "(IIII)V"⟩
abbrev c_Rm_putSource : ByteArray := prog_8_method_17_code
def y_Rm_putSource : MethodName := ⟨R_Rm, "putSource", "(III)V"⟩
abbrev c_Rm_rectangleLength : ByteArray := prog_8_method_14_code
def y_Rm_rectangleLength : MethodName := ⟨R_Rm, "rectangleLength", "(III)I"⟩
abbrev c_Rm_rectangleWidth : ByteArray := prog_8_method_13_code
def y_Rm_rectangleWidth : MethodName := ⟨R_Rm, "rectangleWidth", "(III)I"⟩
abbrev c_Rm_seams : ByteArray := prog_8_method_21_code
def y_Rm_seams : MethodName := ⟨R_Rm, "seams", "(I)I"⟩
abbrev c_Rm_source : ByteArray := prog_8_method_18_code
def y_Rm_source : MethodName := ⟨R_Rm, "source", "(II)I"⟩
abbrev c_Rm_stripLength : ByteArray := prog_8_method_23_code
def y_Rm_stripLength : MethodName := ⟨R_Rm, "stripLength", "(II)I"⟩
abbrev c_Rm_stripWidth : ByteArray := prog_8_method_22_code
def y_Rm_stripWidth : MethodName := ⟨R_Rm, "stripWidth", "(II)I"⟩
abbrev c_Rm_strips : ByteArray := prog_8_method_20_code
def y_Rm_strips : MethodName := ⟨R_Rm, "strips", "(I)I"⟩
abbrev c_Rm_stripsIn : ByteArray := prog_8_method_19_code
def y_Rm_stripsIn : MethodName := ⟨R_Rm, "stripsIn", "(II)I"⟩
abbrev c_Rw_add : ByteArray := prog_9_method_4_code
def y_Rw_add : MethodName := ⟨R_Rw, "add", "(II)V"⟩
abbrev c_Rw_at : ByteArray := prog_9_method_2_code
def y_Rw_at : MethodName := ⟨R_Rw, "at", "(I)I"⟩
abbrev c_Rw_copyFrom : ByteArray := prog_9_method_7_code
def y_Rw_copyFrom : MethodName := ⟨R_Rw, "copyFrom", "(LCarpetCounter$Row;)V"⟩
abbrev c_Rw_init : ByteArray := prog_9_method_1_code
def y_Rw_init : MethodName := ⟨R_Rw, "<init>", "(I)V"⟩
abbrev c_Rw_put : ByteArray := prog_9_method_3_code
def y_Rw_put : MethodName := ⟨R_Rw, "put", "(II)V"⟩
abbrev c_Rw_removeAt : ByteArray := prog_9_method_5_code
def y_Rw_removeAt : MethodName := ⟨R_Rw, "removeAt", "(I)V"⟩
abbrev c_Rw_sum : ByteArray := prog_9_method_6_code
def y_Rw_sum : MethodName := ⟨R_Rw, "sum", "()I"⟩
abbrev c_Cc_clear : ByteArray := prog_1_method_7_code
def y_Cc_clear : MethodName := ⟨R_Cc, "clear", "(II)I"⟩
abbrev c_Cc_clearText : ByteArray := prog_1_method_11_code
def y_Cc_clearText : MethodName := ⟨R_Cc, "clearText", "()I"⟩
abbrev c_Cc_count : ByteArray := prog_1_method_22_code
def y_Cc_count : MethodName := ⟨R_Cc, "count", "(I)I"⟩
abbrev c_Cc_cover : ByteArray := prog_1_method_4_code
def y_Cc_cover : MethodName := ⟨R_Cc, "cover", "(III)I"⟩
abbrev c_Cc_covering : ByteArray := prog_1_method_20_code
def y_Cc_covering : MethodName := ⟨R_Cc, "covering", "(II)I"⟩
abbrev c_Cc_init : ByteArray := prog_1_method_1_code
def y_Cc_init : MethodName := ⟨R_Cc, "<init>", "()V"⟩
abbrev c_Cc_isKind : ByteArray := prog_1_method_30_code
def y_Cc_isKind : MethodName := ⟨R_Cc, "isKind", "(I)Z"⟩
abbrev c_Cc_isSetting : ByteArray := prog_1_method_9_code
def y_Cc_isSetting : MethodName := ⟨R_Cc, "isSetting", "(II)Z"⟩
abbrev c_Cc_isWay : ByteArray := prog_1_method_31_code
def y_Cc_isWay : MethodName := ⟨R_Cc, "isWay", "(I)Z"⟩
abbrev c_Cc_offcut : ByteArray := prog_1_method_17_code
def y_Cc_offcut : MethodName := ⟨R_Cc, "offcut", "(II)I"⟩
abbrev c_Cc_roll : ByteArray := prog_1_method_2_code
def y_Cc_roll : MethodName := ⟨R_Cc, "roll", "(IIII)I"⟩
abbrev c_Cc_rollOf : ByteArray := prog_1_method_16_code
def y_Cc_rollOf : MethodName := ⟨R_Cc, "rollOf", "(II)I"⟩
abbrev c_Cc_room : ByteArray := prog_1_method_19_code
def y_Cc_room : MethodName := ⟨R_Cc, "room", "(II)I"⟩
abbrev c_Cc_rooms : ByteArray := prog_1_method_3_code
def y_Cc_rooms : MethodName := ⟨R_Cc, "rooms", "()I"⟩
abbrev c_Cc_sell : ByteArray := prog_1_method_6_code
def y_Cc_sell : MethodName := ⟨R_Cc, "sell", "(I)I"⟩
abbrev c_Cc_set : ByteArray := prog_1_method_8_code
def y_Cc_set : MethodName := ⟨R_Cc, "set", "(II)I"⟩
abbrev c_Cc_setting : ByteArray := prog_1_method_23_code
def y_Cc_setting : MethodName := ⟨R_Cc, "setting", "(I)I"⟩
abbrev c_Cc_strip : ByteArray := prog_1_method_21_code
def y_Cc_strip : MethodName := ⟨R_Cc, "strip", "(III)I"⟩
abbrev c_Cc_takeUp : ByteArray := prog_1_method_5_code
def y_Cc_takeUp : MethodName := ⟨R_Cc, "takeUp", "(I)I"⟩
abbrev c_Cc_type : ByteArray := prog_1_method_10_code
def y_Cc_type : MethodName := ⟨R_Cc, "type", "(C)I"⟩
abbrev c_Cc_undo : ByteArray := prog_1_method_13_code
def y_Cc_undo : MethodName := ⟨R_Cc, "undo", "()I"⟩
abbrev c_Cc_wasted : ByteArray := prog_1_method_24_code
def y_Cc_wasted : MethodName := ⟨R_Cc, "wasted", "(I)D"⟩
abbrev c_La_act : ByteArray := method_10_code
def y_La_act : MethodName := ⟨R_La, "act", "(LCarpetCounter;II)I"⟩
abbrev c_La_again : ByteArray := method_11_code
def y_La_again : MethodName := ⟨R_La, "again", "(LCarpetCounter;III)Z"⟩
abbrev c_La_areas : ByteArray := method_6_code
def y_La_areas : MethodName := ⟨R_La, "areas", "(LCarpetCounter;)Z"⟩
abbrev c_La_cell : ByteArray := method_2_code
def y_La_cell : MethodName := ⟨R_La, "cell", "([II)I"⟩
abbrev c_La_low : ByteArray := method_3_code
def y_La_low : MethodName := ⟨R_La, "low", "(II)I"⟩
abbrev c_La_number : ByteArray := method_8_code
def y_La_number : MethodName := ⟨R_La, "number", "(LCarpetCounter;I)V"⟩
abbrev c_La_read : ByteArray := method_9_code
def y_La_read : MethodName := ⟨R_La, "read", "(LCarpetCounter;I)I"⟩
abbrev c_La_rooms : ByteArray := method_7_code
def y_La_rooms : MethodName := ⟨R_La, "rooms", "(LCarpetCounter;)Z"⟩
abbrev c_La_same : ByteArray := method_5_code
def y_La_same : MethodName := ⟨R_La, "same", "([I[I)Z"⟩
abbrev c_La_tell : ByteArray := method_4_code
def y_La_tell : MethodName := ⟨R_La, "tell", "(LCarpetCounter;)[I"⟩
