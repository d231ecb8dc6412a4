section
-- ===== PART A: goes FIRST, ahead of the names: the tables' words, and 'selects' of the private methods out of them =====
/-- a private method of a class that the tables say can be made, by its rows of tables_1 -/
def lw_okq (q : MethodName × Nat) : Prop := (q.1.cls ≠ "java/lang/invoke/MethodHandle" ∧ q.1.cls ≠ "java/lang/invoke/VarHandle") ∧ Cond.instantiable q.1.cls q.2 ∈ tables_1 ∧ Cond.privateMethod q.1 ∈ tables_1 ∧ Cond.instanceMethod q.1 ∈ tables_1
theorem lw_p0 : lw_okq (⟨"EventRecorder", "isType", "(I)Z"⟩, 14) := ⟨⟨by decide +kernel, by decide +kernel⟩, List.mem_of_getElem? (i := 18) (by decide +kernel), List.mem_of_getElem? (i := 265) (by decide +kernel), List.mem_of_getElem? (i := 266) (by decide +kernel)⟩
theorem lw_p1 : lw_okq (⟨"EventRecorder", "endEvent", "(LEventRecorder$EventThread;IIII)I"⟩, 14) := ⟨⟨by decide +kernel, by decide +kernel⟩, List.mem_of_getElem? (i := 18) (by decide +kernel), List.mem_of_getElem? (i := 269) (by decide +kernel), List.mem_of_getElem? (i := 270) (by decide +kernel)⟩
theorem lw_p2 : lw_okq (⟨"EventRecorder", "interestIn", "(II)I"⟩, 14) := ⟨⟨by decide +kernel, by decide +kernel⟩, List.mem_of_getElem? (i := 18) (by decide +kernel), List.mem_of_getElem? (i := 281) (by decide +kernel), List.mem_of_getElem? (i := 282) (by decide +kernel)⟩
theorem lw_p3 : lw_okq (⟨"EventRecorder$StringTable", "isSame", "(ILEventRecorder$Text;)Z"⟩, 3) := ⟨⟨by decide +kernel, by decide +kernel⟩, List.mem_of_getElem? (i := 46) (by decide +kernel), List.mem_of_getElem? (i := 301) (by decide +kernel), List.mem_of_getElem? (i := 302) (by decide +kernel)⟩
theorem lw_p4 : lw_okq (⟨"EventRecorder", "compose", "(IIIIII)V"⟩, 14) := ⟨⟨by decide +kernel, by decide +kernel⟩, List.mem_of_getElem? (i := 18) (by decide +kernel), List.mem_of_getElem? (i := 317) (by decide +kernel), List.mem_of_getElem? (i := 318) (by decide +kernel)⟩
theorem lw_p5 : lw_okq (⟨"EventRecorder", "makeRoom", "(LEventRecorder$ByteRow;)Z"⟩, 14) := ⟨⟨by decide +kernel, by decide +kernel⟩, List.mem_of_getElem? (i := 18) (by decide +kernel), List.mem_of_getElem? (i := 340) (by decide +kernel), List.mem_of_getElem? (i := 341) (by decide +kernel)⟩
theorem lw_p6 : lw_okq (⟨"EventRecorder", "rotate", "()V"⟩, 14) := ⟨⟨by decide +kernel, by decide +kernel⟩, List.mem_of_getElem? (i := 18) (by decide +kernel), List.mem_of_getElem? (i := 404) (by decide +kernel), List.mem_of_getElem? (i := 405) (by decide +kernel)⟩
theorem lw_p7 : lw_okq (⟨"EventRecorder$Chunks", "evictOldest", "()V"⟩, 3) := ⟨⟨by decide +kernel, by decide +kernel⟩, List.mem_of_getElem? (i := 144) (by decide +kernel), List.mem_of_getElem? (i := 431) (by decide +kernel), List.mem_of_getElem? (i := 432) (by decide +kernel)⟩
theorem lw_p8 : lw_okq (⟨"EventRecorder", "carryOutPart", "(II)Z"⟩, 14) := ⟨⟨by decide +kernel, by decide +kernel⟩, List.mem_of_getElem? (i := 18) (by decide +kernel), List.mem_of_getElem? (i := 441) (by decide +kernel), List.mem_of_getElem? (i := 442) (by decide +kernel)⟩
theorem lw_p9 : lw_okq (⟨"EventRecorder", "isRecording", "(I)Z"⟩, 14) := ⟨⟨by decide +kernel, by decide +kernel⟩, List.mem_of_getElem? (i := 18) (by decide +kernel), List.mem_of_getElem? (i := 450) (by decide +kernel), List.mem_of_getElem? (i := 451) (by decide +kernel)⟩
theorem lw_p10 : lw_okq (⟨"EventRecorder", "countItems", "(II)I"⟩, 14) := ⟨⟨by decide +kernel, by decide +kernel⟩, List.mem_of_getElem? (i := 18) (by decide +kernel), List.mem_of_getElem? (i := 454) (by decide +kernel), List.mem_of_getElem? (i := 455) (by decide +kernel)⟩
theorem lw_p11 : lw_okq (⟨"EventRecorder", "itemEnd", "(I)I"⟩, 14) := ⟨⟨by decide +kernel, by decide +kernel⟩, List.mem_of_getElem? (i := 18) (by decide +kernel), List.mem_of_getElem? (i := 458) (by decide +kernel), List.mem_of_getElem? (i := 459) (by decide +kernel)⟩
theorem lw_p12 : lw_okq (⟨"EventRecorder", "applyItems", "(LEventRecorder$Recording;II)V"⟩, 14) := ⟨⟨by decide +kernel, by decide +kernel⟩, List.mem_of_getElem? (i := 18) (by decide +kernel), List.mem_of_getElem? (i := 462) (by decide +kernel), List.mem_of_getElem? (i := 463) (by decide +kernel)⟩
theorem lw_p13 : lw_okq (⟨"EventRecorder", "applyItem", "(LEventRecorder$Recording;II)V"⟩, 14) := ⟨⟨by decide +kernel, by decide +kernel⟩, List.mem_of_getElem? (i := 18) (by decide +kernel), List.mem_of_getElem? (i := 466) (by decide +kernel), List.mem_of_getElem? (i := 467) (by decide +kernel)⟩
theorem lw_p14 : lw_okq (⟨"java/lang/Throwable", "fillInStackTrace", "(I)Ljava/lang/Throwable;"⟩, 6) := ⟨⟨by decide +kernel, by decide +kernel⟩, List.mem_of_getElem? (i := 580) (by decide +kernel), List.mem_of_getElem? (i := 578) (by decide +kernel), List.mem_of_getElem? (i := 579) (by decide +kernel)⟩
theorem lw_p15 : lw_okq (⟨"EventRecorder", "endRecording", "(LEventRecorder$Recording;)I"⟩, 14) := ⟨⟨by decide +kernel, by decide +kernel⟩, List.mem_of_getElem? (i := 18) (by decide +kernel), List.mem_of_getElem? (i := 663) (by decide +kernel), List.mem_of_getElem? (i := 664) (by decide +kernel)⟩
def lw_privs_1 : List (MethodName × Nat) := [(⟨"EventRecorder", "isType", "(I)Z"⟩, 14), (⟨"EventRecorder", "endEvent", "(LEventRecorder$EventThread;IIII)I"⟩, 14), (⟨"EventRecorder", "interestIn", "(II)I"⟩, 14), (⟨"EventRecorder$StringTable", "isSame", "(ILEventRecorder$Text;)Z"⟩, 3), (⟨"EventRecorder", "compose", "(IIIIII)V"⟩, 14), (⟨"EventRecorder", "makeRoom", "(LEventRecorder$ByteRow;)Z"⟩, 14), (⟨"EventRecorder", "rotate", "()V"⟩, 14), (⟨"EventRecorder$Chunks", "evictOldest", "()V"⟩, 3), (⟨"EventRecorder", "carryOutPart", "(II)Z"⟩, 14), (⟨"EventRecorder", "isRecording", "(I)Z"⟩, 14), (⟨"EventRecorder", "countItems", "(II)I"⟩, 14), (⟨"EventRecorder", "itemEnd", "(I)I"⟩, 14), (⟨"EventRecorder", "applyItems", "(LEventRecorder$Recording;II)V"⟩, 14), (⟨"EventRecorder", "applyItem", "(LEventRecorder$Recording;II)V"⟩, 14), (⟨"java/lang/Throwable", "fillInStackTrace", "(I)Ljava/lang/Throwable;"⟩, 6), (⟨"EventRecorder", "endRecording", "(LEventRecorder$Recording;)I"⟩, 14)]
theorem lw_r1 : ∀ q ∈ lw_privs_1, lw_okq q := List.forall_mem_cons.mpr ⟨lw_p0, List.forall_mem_cons.mpr ⟨lw_p1, List.forall_mem_cons.mpr ⟨lw_p2, List.forall_mem_cons.mpr ⟨lw_p3, List.forall_mem_cons.mpr ⟨lw_p4, List.forall_mem_cons.mpr ⟨lw_p5, List.forall_mem_cons.mpr ⟨lw_p6, List.forall_mem_cons.mpr ⟨lw_p7, List.forall_mem_cons.mpr ⟨lw_p8, List.forall_mem_cons.mpr ⟨lw_p9, List.forall_mem_cons.mpr ⟨lw_p10, List.forall_mem_cons.mpr ⟨lw_p11, List.forall_mem_cons.mpr ⟨lw_p12, List.forall_mem_cons.mpr ⟨lw_p13, List.forall_mem_cons.mpr ⟨lw_p14, List.forall_mem_cons.mpr ⟨lw_p15, fun _ h => absurd h List.not_mem_nil⟩⟩⟩⟩⟩⟩⟩⟩⟩⟩⟩⟩⟩⟩⟩⟩
theorem lw_p16 : lw_okq (⟨"EventRecorder$Chunk", "countStrings", "()I"⟩, 5) := ⟨⟨by decide +kernel, by decide +kernel⟩, List.mem_of_getElem? (i := 151) (by decide +kernel), List.mem_of_getElem? (i := 708) (by decide +kernel), List.mem_of_getElem? (i := 709) (by decide +kernel)⟩
theorem lw_p17 : lw_okq (⟨"EventRecorderModel", "unwanted", "(II)I"⟩, 39) := ⟨⟨by decide +kernel, by decide +kernel⟩, List.mem_of_getElem? (i := 718) (by decide +kernel), List.mem_of_getElem? (i := 869) (by decide +kernel), List.mem_of_getElem? (i := 870) (by decide +kernel)⟩
theorem lw_p18 : lw_okq (⟨"EventRecorderModel", "stringOf", "(I)I"⟩, 39) := ⟨⟨by decide +kernel, by decide +kernel⟩, List.mem_of_getElem? (i := 718) (by decide +kernel), List.mem_of_getElem? (i := 873) (by decide +kernel), List.mem_of_getElem? (i := 874) (by decide +kernel)⟩
theorem lw_p19 : lw_okq (⟨"EventRecorderModel", "variable", "(I)V"⟩, 39) := ⟨⟨by decide +kernel, by decide +kernel⟩, List.mem_of_getElem? (i := 718) (by decide +kernel), List.mem_of_getElem? (i := 883) (by decide +kernel), List.mem_of_getElem? (i := 884) (by decide +kernel)⟩
theorem lw_p20 : lw_okq (⟨"EventRecorderModel", "keepString", "(II)V"⟩, 39) := ⟨⟨by decide +kernel, by decide +kernel⟩, List.mem_of_getElem? (i := 718) (by decide +kernel), List.mem_of_getElem? (i := 887) (by decide +kernel), List.mem_of_getElem? (i := 888) (by decide +kernel)⟩
theorem lw_p21 : lw_okq (⟨"EventRecorderModel", "move", "(II)V"⟩, 39) := ⟨⟨by decide +kernel, by decide +kernel⟩, List.mem_of_getElem? (i := 718) (by decide +kernel), List.mem_of_getElem? (i := 891) (by decide +kernel), List.mem_of_getElem? (i := 892) (by decide +kernel)⟩
theorem lw_p22 : lw_okq (⟨"EventRecorderModel", "drain", "(I)I"⟩, 39) := ⟨⟨by decide +kernel, by decide +kernel⟩, List.mem_of_getElem? (i := 718) (by decide +kernel), List.mem_of_getElem? (i := 899) (by decide +kernel), List.mem_of_getElem? (i := 900) (by decide +kernel)⟩
theorem lw_p23 : lw_okq (⟨"EventRecorderModel", "rotate", "()V"⟩, 39) := ⟨⟨by decide +kernel, by decide +kernel⟩, List.mem_of_getElem? (i := 718) (by decide +kernel), List.mem_of_getElem? (i := 903) (by decide +kernel), List.mem_of_getElem? (i := 904) (by decide +kernel)⟩
theorem lw_p24 : lw_okq (⟨"EventRecorderModel", "loss", "(I)V"⟩, 39) := ⟨⟨by decide +kernel, by decide +kernel⟩, List.mem_of_getElem? (i := 718) (by decide +kernel), List.mem_of_getElem? (i := 907) (by decide +kernel), List.mem_of_getElem? (i := 908) (by decide +kernel)⟩
theorem lw_p25 : lw_okq (⟨"EventRecorderModel", "put", "(I)V"⟩, 39) := ⟨⟨by decide +kernel, by decide +kernel⟩, List.mem_of_getElem? (i := 718) (by decide +kernel), List.mem_of_getElem? (i := 911) (by decide +kernel), List.mem_of_getElem? (i := 912) (by decide +kernel)⟩
theorem lw_p26 : lw_okq (⟨"EventRecorderModel", "copyChunk", "(II)V"⟩, 39) := ⟨⟨by decide +kernel, by decide +kernel⟩, List.mem_of_getElem? (i := 718) (by decide +kernel), List.mem_of_getElem? (i := 915) (by decide +kernel), List.mem_of_getElem? (i := 916) (by decide +kernel)⟩
theorem lw_p27 : lw_okq (⟨"EventRecorderModel", "items", "(II)I"⟩, 39) := ⟨⟨by decide +kernel, by decide +kernel⟩, List.mem_of_getElem? (i := 718) (by decide +kernel), List.mem_of_getElem? (i := 927) (by decide +kernel), List.mem_of_getElem? (i := 928) (by decide +kernel)⟩
theorem lw_p28 : lw_okq (⟨"EventRecorderModel", "itemEnd", "(II)I"⟩, 39) := ⟨⟨by decide +kernel, by decide +kernel⟩, List.mem_of_getElem? (i := 718) (by decide +kernel), List.mem_of_getElem? (i := 931) (by decide +kernel), List.mem_of_getElem? (i := 932) (by decide +kernel)⟩
theorem lw_p29 : lw_okq (⟨"EventRecorderModel", "digit", "(II)Z"⟩, 39) := ⟨⟨by decide +kernel, by decide +kernel⟩, List.mem_of_getElem? (i := 718) (by decide +kernel), List.mem_of_getElem? (i := 935) (by decide +kernel), List.mem_of_getElem? (i := 936) (by decide +kernel)⟩
theorem lw_p30 : lw_okq (⟨"EventRecorderModel", "isRecording", "(I)Z"⟩, 39) := ⟨⟨by decide +kernel, by decide +kernel⟩, List.mem_of_getElem? (i := 718) (by decide +kernel), List.mem_of_getElem? (i := 939) (by decide +kernel), List.mem_of_getElem? (i := 940) (by decide +kernel)⟩
theorem lw_p31 : lw_okq (⟨"EventRecorderModel", "set", "(III)V"⟩, 39) := ⟨⟨by decide +kernel, by decide +kernel⟩, List.mem_of_getElem? (i := 718) (by decide +kernel), List.mem_of_getElem? (i := 943) (by decide +kernel), List.mem_of_getElem? (i := 944) (by decide +kernel)⟩
def lw_privs_2 : List (MethodName × Nat) := [(⟨"EventRecorder$Chunk", "countStrings", "()I"⟩, 5), (⟨"EventRecorderModel", "unwanted", "(II)I"⟩, 39), (⟨"EventRecorderModel", "stringOf", "(I)I"⟩, 39), (⟨"EventRecorderModel", "variable", "(I)V"⟩, 39), (⟨"EventRecorderModel", "keepString", "(II)V"⟩, 39), (⟨"EventRecorderModel", "move", "(II)V"⟩, 39), (⟨"EventRecorderModel", "drain", "(I)I"⟩, 39), (⟨"EventRecorderModel", "rotate", "()V"⟩, 39), (⟨"EventRecorderModel", "loss", "(I)V"⟩, 39), (⟨"EventRecorderModel", "put", "(I)V"⟩, 39), (⟨"EventRecorderModel", "copyChunk", "(II)V"⟩, 39), (⟨"EventRecorderModel", "items", "(II)I"⟩, 39), (⟨"EventRecorderModel", "itemEnd", "(II)I"⟩, 39), (⟨"EventRecorderModel", "digit", "(II)Z"⟩, 39), (⟨"EventRecorderModel", "isRecording", "(I)Z"⟩, 39), (⟨"EventRecorderModel", "set", "(III)V"⟩, 39)]
theorem lw_r2 : ∀ q ∈ lw_privs_2, lw_okq q := List.forall_mem_cons.mpr ⟨lw_p16, List.forall_mem_cons.mpr ⟨lw_p17, List.forall_mem_cons.mpr ⟨lw_p18, List.forall_mem_cons.mpr ⟨lw_p19, List.forall_mem_cons.mpr ⟨lw_p20, List.forall_mem_cons.mpr ⟨lw_p21, List.forall_mem_cons.mpr ⟨lw_p22, List.forall_mem_cons.mpr ⟨lw_p23, List.forall_mem_cons.mpr ⟨lw_p24, List.forall_mem_cons.mpr ⟨lw_p25, List.forall_mem_cons.mpr ⟨lw_p26, List.forall_mem_cons.mpr ⟨lw_p27, List.forall_mem_cons.mpr ⟨lw_p28, List.forall_mem_cons.mpr ⟨lw_p29, List.forall_mem_cons.mpr ⟨lw_p30, List.forall_mem_cons.mpr ⟨lw_p31, fun _ h => absurd h List.not_mem_nil⟩⟩⟩⟩⟩⟩⟩⟩⟩⟩⟩⟩⟩⟩⟩⟩
theorem lw_p32 : lw_okq (⟨"EventRecorderModel", "end", "(I)I"⟩, 39) := ⟨⟨by decide +kernel, by decide +kernel⟩, List.mem_of_getElem? (i := 718) (by decide +kernel), List.mem_of_getElem? (i := 959) (by decide +kernel), List.mem_of_getElem? (i := 960) (by decide +kernel)⟩
theorem lw_p33 : lw_okq (⟨"EventRecorderModel", "writeOut", "(I)V"⟩, 39) := ⟨⟨by decide +kernel, by decide +kernel⟩, List.mem_of_getElem? (i := 718) (by decide +kernel), List.mem_of_getElem? (i := 971) (by decide +kernel), List.mem_of_getElem? (i := 972) (by decide +kernel)⟩
theorem lw_p34 : lw_okq (⟨"EventRecorderModel", "out", "(I)V"⟩, 39) := ⟨⟨by decide +kernel, by decide +kernel⟩, List.mem_of_getElem? (i := 718) (by decide +kernel), List.mem_of_getElem? (i := 975) (by decide +kernel), List.mem_of_getElem? (i := 976) (by decide +kernel)⟩
theorem lw_p35 : lw_okq (⟨"EventRecorderModel", "outVariable", "(I)V"⟩, 39) := ⟨⟨by decide +kernel, by decide +kernel⟩, List.mem_of_getElem? (i := 718) (by decide +kernel), List.mem_of_getElem? (i := 979) (by decide +kernel), List.mem_of_getElem? (i := 980) (by decide +kernel)⟩
def lw_privs_3 : List (MethodName × Nat) := [(⟨"EventRecorderModel", "end", "(I)I"⟩, 39), (⟨"EventRecorderModel", "writeOut", "(I)V"⟩, 39), (⟨"EventRecorderModel", "out", "(I)V"⟩, 39), (⟨"EventRecorderModel", "outVariable", "(I)V"⟩, 39)]
theorem lw_r3 : ∀ q ∈ lw_privs_3, lw_okq q := List.forall_mem_cons.mpr ⟨lw_p32, List.forall_mem_cons.mpr ⟨lw_p33, List.forall_mem_cons.mpr ⟨lw_p34, List.forall_mem_cons.mpr ⟨lw_p35, fun _ h => absurd h List.not_mem_nil⟩⟩⟩⟩
def lw_privs : List (MethodName × Nat) := lw_privs_1 ++ (lw_privs_2 ++ (lw_privs_3))
def lw_tbl : List Cond := k2_sels lw_privs ++ tables_1
theorem lw_privs_ok : ∀ q ∈ lw_privs, lw_okq q := by
  show ∀ q ∈ lw_privs_1 ++ (lw_privs_2 ++ (lw_privs_3)), lw_okq q
  exact List.forall_mem_append.mpr ⟨lw_r1, List.forall_mem_append.mpr ⟨lw_r2, lw_r3⟩⟩
end
section
def RX0 : String := "EventRecorder$ByteRow"
def TX0 : u_T := fun k => match k with
  | 0 => ("EventRecorder$ByteRow", "bytes", "[B", true)
  | _ => ("EventRecorder$ByteRow", "length", "I", false)
def tyX0 : Nat → FieldType := fun k => match k with
  | 0 => .array .byte
  | _ => .int
set_option maxRecDepth 100000 in
theorem nX0 : ∀ a, a < 2 → ∀ b, b < 2 → a ≠ b → (TX0 a).2.1 ≠ (TX0 b).2.1 := by decide +kernel
set_option maxRecDepth 100000 in
theorem tyX0_ok : ∀ k, k < 2 → parseFieldDescriptor (TX0 k).2.2.1 = some (tyX0 k) := by decide +kernel
def RX1 : String := "EventRecorder$Chunk"
def TX1 : u_T := fun k => match k with
  | 0 => ("EventRecorder$Chunk", "body", "LEventRecorder$ByteRow;", true)
  | 1 => ("EventRecorder$Chunk", "usedStrings", "[Z", true)
  | 2 => ("EventRecorder$Chunk", "number", "I", false)
  | 3 => ("EventRecorder$Chunk", "openedAt", "I", false)
  | _ => ("EventRecorder$Chunk", "events", "I", false)
def tyX1 : Nat → FieldType := fun k => match k with
  | 0 => .object "EventRecorder$ByteRow"
  | 1 => .array .boolean
  | 2 => .int
  | 3 => .int
  | _ => .int
set_option maxRecDepth 100000 in
theorem nX1 : ∀ a, a < 5 → ∀ b, b < 5 → a ≠ b → (TX1 a).2.1 ≠ (TX1 b).2.1 := by decide +kernel
set_option maxRecDepth 100000 in
theorem tyX1_ok : ∀ k, k < 5 → parseFieldDescriptor (TX1 k).2.2.1 = some (tyX1 k) := by decide +kernel
def RX2 : String := "EventRecorder$Chunks"
def TX2 : u_T := fun k => match k with
  | 0 => ("EventRecorder$Chunks", "rows", "[LEventRecorder$Chunk;", true)
  | 1 => ("EventRecorder$Chunks", "kept", "I", false)
  | _ => ("EventRecorder$Chunks", "evicted", "I", false)
def tyX2 : Nat → FieldType := fun k => match k with
  | 0 => .array (.object "EventRecorder$Chunk")
  | 1 => .int
  | _ => .int
set_option maxRecDepth 100000 in
theorem nX2 : ∀ a, a < 3 → ∀ b, b < 3 → a ≠ b → (TX2 a).2.1 ≠ (TX2 b).2.1 := by decide +kernel
set_option maxRecDepth 100000 in
theorem tyX2_ok : ∀ k, k < 3 → parseFieldDescriptor (TX2 k).2.2.1 = some (tyX2 k) := by decide +kernel
def RX3 : String := "EventRecorder$EventThread"
def TX3 : u_T := fun k => match k with
  | 0 => ("EventRecorder$EventThread", "ticks", "[I", true)
  | 1 => ("EventRecorder$EventThread", "buffer", "LEventRecorder$ByteRow;", true)
  | 2 => ("EventRecorder$EventThread", "begun", "I", false)
  | 3 => ("EventRecorder$EventThread", "lostInChunk", "I", false)
  | _ => ("EventRecorder$EventThread", "lostInAll", "I", false)
def tyX3 : Nat → FieldType := fun k => match k with
  | 0 => .array .int
  | 1 => .object "EventRecorder$ByteRow"
  | 2 => .int
  | 3 => .int
  | _ => .int
set_option maxRecDepth 100000 in
theorem nX3 : ∀ a, a < 5 → ∀ b, b < 5 → a ≠ b → (TX3 a).2.1 ≠ (TX3 b).2.1 := by decide +kernel
set_option maxRecDepth 100000 in
theorem tyX3_ok : ∀ k, k < 5 → parseFieldDescriptor (TX3 k).2.2.1 = some (tyX3 k) := by decide +kernel
def RX4 : String := "EventRecorder$Pool"
def TX4 : u_T := fun k => match k with
  | 0 => ("EventRecorder$Pool", "buffers", "[LEventRecorder$ByteRow;", true)
  | 1 => ("EventRecorder$Pool", "first", "I", false)
  | _ => ("EventRecorder$Pool", "full", "I", false)
def tyX4 : Nat → FieldType := fun k => match k with
  | 0 => .array (.object "EventRecorder$ByteRow")
  | 1 => .int
  | _ => .int
set_option maxRecDepth 100000 in
theorem nX4 : ∀ a, a < 3 → ∀ b, b < 3 → a ≠ b → (TX4 a).2.1 ≠ (TX4 b).2.1 := by decide +kernel
set_option maxRecDepth 100000 in
theorem tyX4_ok : ∀ k, k < 3 → parseFieldDescriptor (TX4 k).2.2.1 = some (tyX4 k) := by decide +kernel
def RX5 : String := "EventRecorder$Recording"
def TX5 : u_T := fun k => match k with
  | 0 => ("EventRecorder$Recording", "off", "[Z", true)
  | 1 => ("EventRecorder$Recording", "limits", "[I", true)
  | 2 => ("EventRecorder$Recording", "phase", "I", false)
  | 3 => ("EventRecorder$Recording", "firstChunk", "I", false)
  | _ => ("EventRecorder$Recording", "lastChunk", "I", false)
def tyX5 : Nat → FieldType := fun k => match k with
  | 0 => .array .boolean
  | 1 => .array .int
  | 2 => .int
  | 3 => .int
  | _ => .int
set_option maxRecDepth 100000 in
theorem nX5 : ∀ a, a < 5 → ∀ b, b < 5 → a ≠ b → (TX5 a).2.1 ≠ (TX5 b).2.1 := by decide +kernel
set_option maxRecDepth 100000 in
theorem tyX5_ok : ∀ k, k < 5 → parseFieldDescriptor (TX5 k).2.2.1 = some (tyX5 k) := by decide +kernel
def RX6 : String := "EventRecorder$StringTable"
def TX6 : u_T := fun k => match k with
  | 0 => ("EventRecorder$StringTable", "characters", "[C", true)
  | 1 => ("EventRecorder$StringTable", "lengths", "[I", true)
  | _ => ("EventRecorder$StringTable", "used", "I", false)
def tyX6 : Nat → FieldType := fun k => match k with
  | 0 => .array .char
  | 1 => .array .int
  | _ => .int
set_option maxRecDepth 100000 in
theorem nX6 : ∀ a, a < 3 → ∀ b, b < 3 → a ≠ b → (TX6 a).2.1 ≠ (TX6 b).2.1 := by decide +kernel
set_option maxRecDepth 100000 in
theorem tyX6_ok : ∀ k, k < 3 → parseFieldDescriptor (TX6 k).2.2.1 = some (tyX6 k) := by decide +kernel
def RX7 : String := "EventRecorder$Text"
def TX7 : u_T := fun k => match k with
  | 0 => ("EventRecorder$Text", "characters", "[C", true)
  | _ => ("EventRecorder$Text", "length", "I", false)
def tyX7 : Nat → FieldType := fun k => match k with
  | 0 => .array .char
  | _ => .int
set_option maxRecDepth 100000 in
theorem nX7 : ∀ a, a < 2 → ∀ b, b < 2 → a ≠ b → (TX7 a).2.1 ≠ (TX7 b).2.1 := by decide +kernel
set_option maxRecDepth 100000 in
theorem tyX7_ok : ∀ k, k < 2 → parseFieldDescriptor (TX7 k).2.2.1 = some (tyX7 k) := by decide +kernel
def RX8 : String := "EventRecorder"
def TX8 : u_T := fun k => match k with
  | 0 => ("EventRecorder", "size", "I", true)
  | 1 => ("EventRecorder", "text", "LEventRecorder$Text;", true)
  | 2 => ("EventRecorder", "strings", "LEventRecorder$StringTable;", true)
  | 3 => ("EventRecorder", "threads", "[LEventRecorder$EventThread;", true)
  | 4 => ("EventRecorder", "typeInts", "[I", true)
  | 5 => ("EventRecorder", "typeStrings", "[Z", true)
  | 6 => ("EventRecorder", "typeCount", "I", false)
  | 7 => ("EventRecorder", "recordings", "[LEventRecorder$Recording;", true)
  | 8 => ("EventRecorder", "recordingCount", "I", false)
  | 9 => ("EventRecorder", "shared", "LEventRecorder$Pool;", true)
  | 10 => ("EventRecorder", "chunks", "LEventRecorder$Chunks;", true)
  | 11 => ("EventRecorder", "payload", "LEventRecorder$ByteRow;", true)
  | 12 => ("EventRecorder", "written", "LEventRecorder$ByteRow;", true)
  | _ => ("EventRecorder", "now", "I", false)
def tyX8 : Nat → FieldType := fun k => match k with
  | 0 => .int
  | 1 => .object "EventRecorder$Text"
  | 2 => .object "EventRecorder$StringTable"
  | 3 => .array (.object "EventRecorder$EventThread")
  | 4 => .array .int
  | 5 => .array .boolean
  | 6 => .int
  | 7 => .array (.object "EventRecorder$Recording")
  | 8 => .int
  | 9 => .object "EventRecorder$Pool"
  | 10 => .object "EventRecorder$Chunks"
  | 11 => .object "EventRecorder$ByteRow"
  | 12 => .object "EventRecorder$ByteRow"
  | _ => .int
set_option maxRecDepth 100000 in
theorem nX8 : ∀ a, a < 14 → ∀ b, b < 14 → a ≠ b → (TX8 a).2.1 ≠ (TX8 b).2.1 := by decide +kernel
set_option maxRecDepth 100000 in
theorem tyX8_ok : ∀ k, k < 14 → parseFieldDescriptor (TX8 k).2.2.1 = some (tyX8 k) := by decide +kernel
def RX9 : String := "EventRecorderModel"
def TX9 : u_T := fun k => match k with
  | 0 => ("EventRecorderModel", "size", "I", true)
  | 1 => ("EventRecorderModel", "pool", "I", true)
  | 2 => ("EventRecorderModel", "keep", "I", true)
  | 3 => ("EventRecorderModel", "now", "I", false)
  | 4 => ("EventRecorderModel", "thrown", "I", false)
  | 5 => ("EventRecorderModel", "typed", "I", false)
  | 6 => ("EventRecorderModel", "text", "[C", true)
  | 7 => ("EventRecorderModel", "types", "I", false)
  | 8 => ("EventRecorderModel", "ints", "[I", true)
  | 9 => ("EventRecorderModel", "hasString", "[Z", true)
  | 10 => ("EventRecorderModel", "strings", "I", false)
  | 11 => ("EventRecorderModel", "chars", "[C", true)
  | 12 => ("EventRecorderModel", "length", "[I", true)
  | 13 => ("EventRecorderModel", "begun", "[I", true)
  | 14 => ("EventRecorderModel", "ticks", "[I", true)
  | 15 => ("EventRecorderModel", "bytes", "[I", true)
  | 16 => ("EventRecorderModel", "many", "[I", true)
  | 17 => ("EventRecorderModel", "events", "[I", true)
  | 18 => ("EventRecorderModel", "full", "I", false)
  | 19 => ("EventRecorderModel", "kept", "I", false)
  | 20 => ("EventRecorderModel", "evicted", "I", false)
  | 21 => ("EventRecorderModel", "data", "[I", true)
  | 22 => ("EventRecorderModel", "dataLength", "[I", true)
  | 23 => ("EventRecorderModel", "number", "[I", true)
  | 24 => ("EventRecorderModel", "opened", "[I", true)
  | 25 => ("EventRecorderModel", "eventCount", "[I", true)
  | 26 => ("EventRecorderModel", "used", "[I", true)
  | 27 => ("EventRecorderModel", "lostHere", "[I", true)
  | 28 => ("EventRecorderModel", "lostAll", "[I", true)
  | 29 => ("EventRecorderModel", "recordings", "I", false)
  | 30 => ("EventRecorderModel", "state", "[I", true)
  | 31 => ("EventRecorderModel", "off", "[Z", true)
  | 32 => ("EventRecorderModel", "threshold", "[I", true)
  | 33 => ("EventRecorderModel", "from", "[I", true)
  | 34 => ("EventRecorderModel", "upTo", "[I", true)
  | 35 => ("EventRecorderModel", "written", "[I", true)
  | 36 => ("EventRecorderModel", "writtenLength", "I", false)
  | 37 => ("EventRecorderModel", "event", "[I", true)
  | _ => ("EventRecorderModel", "eventLength", "I", false)
def tyX9 : Nat → FieldType := fun k => match k with
  | 0 => .int
  | 1 => .int
  | 2 => .int
  | 3 => .int
  | 4 => .int
  | 5 => .int
  | 6 => .array .char
  | 7 => .int
  | 8 => .array .int
  | 9 => .array .boolean
  | 10 => .int
  | 11 => .array .char
  | 12 => .array .int
  | 13 => .array .int
  | 14 => .array .int
  | 15 => .array .int
  | 16 => .array .int
  | 17 => .array .int
  | 18 => .int
  | 19 => .int
  | 20 => .int
  | 21 => .array .int
  | 22 => .array .int
  | 23 => .array .int
  | 24 => .array .int
  | 25 => .array .int
  | 26 => .array .int
  | 27 => .array .int
  | 28 => .array .int
  | 29 => .int
  | 30 => .array .int
  | 31 => .array .boolean
  | 32 => .array .int
  | 33 => .array .int
  | 34 => .array .int
  | 35 => .array .int
  | 36 => .int
  | 37 => .array .int
  | _ => .int
set_option maxRecDepth 100000 in
theorem nX9 : ∀ a, a < 39 → ∀ b, b < 39 → a ≠ b → (TX9 a).2.1 ≠ (TX9 b).2.1 := by decide +kernel
set_option maxRecDepth 100000 in
theorem tyX9_ok : ∀ k, k < 39 → parseFieldDescriptor (TX9 k).2.2.1 = some (tyX9 k) := by decide +kernel
def RL : String := "EventRecorderLaw"
abbrev cX8_init : ByteArray := prog_1_method_1_code
def yX8_init : MethodName := ⟨RX8, "<init>", "(III)V"⟩
abbrev cX8_write : ByteArray := prog_1_method_2_code
def yX8_write : MethodName := ⟨RX8, "write", "(C)Z"⟩
abbrev cX8_advance : ByteArray := prog_1_method_3_code
def yX8_advance : MethodName := ⟨RX8, "advance", "(I)I"⟩
abbrev cX8_type : ByteArray := prog_1_method_4_code
def yX8_type : MethodName := ⟨RX8, "type", "(IZ)I"⟩
abbrev cX8_begin : ByteArray := prog_1_method_5_code
def yX8_begin : MethodName := ⟨RX8, "begin", "(I)Z"⟩
abbrev cX8_commit : ByteArray := prog_1_method_6_code
def yX8_commit : MethodName := ⟨RX8, "commit", "(IIIII)I"⟩
abbrev cX8_flush : ByteArray := prog_1_method_7_code
def yX8_flush : MethodName := ⟨RX8, "flush", "()I"⟩
abbrev cX8_record : ByteArray := prog_1_method_8_code
def yX8_record : MethodName := ⟨RX8, "record", "()I"⟩
abbrev cX8_settings : ByteArray := prog_1_method_9_code
def yX8_settings : MethodName := ⟨RX8, "settings", "(I)I"⟩
abbrev cX8_profile : ByteArray := prog_1_method_10_code
def yX8_profile : MethodName := ⟨RX8, "profile", "()I"⟩
abbrev cX8_start : ByteArray := prog_1_method_11_code
def yX8_start : MethodName := ⟨RX8, "start", "(I)I"⟩
abbrev cX8_stop : ByteArray := prog_1_method_12_code
def yX8_stop : MethodName := ⟨RX8, "stop", "(I)I"⟩
abbrev cX8_close : ByteArray := prog_1_method_13_code
def yX8_close : MethodName := ⟨RX8, "close", "(I)Z"⟩
abbrev cX8_dump : ByteArray := prog_1_method_14_code
def yX8_dump : MethodName := ⟨RX8, "dump", "(I)I"⟩
abbrev cX8_output : ByteArray := prog_1_method_15_code
def yX8_output : MethodName := ⟨RX8, "output", "(I)I"⟩
abbrev cX8_state : ByteArray := prog_1_method_16_code
def yX8_state : MethodName := ⟨RX8, "state", "(I)I"⟩
abbrev cX8_threshold : ByteArray := prog_1_method_17_code
def yX8_threshold : MethodName := ⟨RX8, "threshold", "(II)I"⟩
abbrev cX8_buffered : ByteArray := prog_1_method_18_code
def yX8_buffered : MethodName := ⟨RX8, "buffered", "(I)I"⟩
abbrev cX8_count : ByteArray := prog_1_method_19_code
def yX8_count : MethodName := ⟨RX8, "count", "(I)I"⟩
abbrev cX8_lost : ByteArray := prog_1_method_20_code
def yX8_lost : MethodName := ⟨RX8, "lost", "(I)I"⟩
abbrev cX8_isThread : ByteArray := prog_1_method_21_code
def yX8_isThread : MethodName := ⟨RX8, "isThread", "(I)Z"⟩
abbrev cX8_isType : ByteArray := prog_1_method_22_code
def yX8_isType : MethodName := ⟨RX8, "isType", "(I)Z"⟩
abbrev cX8_isRecording : ByteArray := prog_1_method_23_code
def yX8_isRecording : MethodName := ⟨RX8, "isRecording", "(I)Z"⟩
abbrev cX8_endEvent : ByteArray := prog_1_method_24_code
def yX8_endEvent : MethodName := ⟨RX8, "endEvent", "(LEventRecorder$EventThread;IIII)I"⟩
abbrev cX8_interestIn : ByteArray := prog_1_method_25_code
def yX8_interestIn : MethodName := ⟨RX8, "interestIn", "(II)I"⟩
abbrev cX8_compose : ByteArray := prog_1_method_26_code
def yX8_compose : MethodName := ⟨RX8, "compose", "(IIIIII)V"⟩
abbrev cX8_zigzag : ByteArray := prog_1_method_27_code
def yX8_zigzag : MethodName := ⟨RX8, "zigzag", "(I)I"⟩
abbrev cX8_makeRoom : ByteArray := prog_1_method_28_code
def yX8_makeRoom : MethodName := ⟨RX8, "makeRoom", "(LEventRecorder$ByteRow;)Z"⟩
abbrev cX8_rotate : ByteArray := prog_1_method_29_code
def yX8_rotate : MethodName := ⟨RX8, "rotate", "()V"⟩
abbrev cX8_endRecording : ByteArray := prog_1_method_30_code
def yX8_endRecording : MethodName := ⟨RX8, "endRecording", "(LEventRecorder$Recording;)I"⟩
abbrev cX8_countItems : ByteArray := prog_1_method_31_code
def yX8_countItems : MethodName := ⟨RX8, "countItems", "(II)I"⟩
abbrev cX8_itemEnd : ByteArray := prog_1_method_32_code
def yX8_itemEnd : MethodName := ⟨RX8, "itemEnd", "(I)I"⟩
abbrev cX8_applyItems : ByteArray := prog_1_method_33_code
def yX8_applyItems : MethodName := ⟨RX8, "applyItems", "(LEventRecorder$Recording;II)V"⟩
abbrev cX8_applyItem : ByteArray := prog_1_method_34_code
def yX8_applyItem : MethodName := ⟨RX8, "applyItem", "(LEventRecorder$Recording;II)V"⟩
abbrev cX8_carryOutPart : ByteArray := prog_1_method_35_code
def yX8_carryOutPart : MethodName := ⟨RX8, "carryOutPart", "(II)Z"⟩
abbrev cX9_init : ByteArray := prog_11_method_1_code
def yX9_init : MethodName := ⟨RX9, "<init>", "(III)V"⟩
abbrev cX9_thrown : ByteArray := prog_11_method_2_code
def yX9_thrown : MethodName := ⟨RX9, "thrown", "()I"⟩
abbrev cX9_isThread : ByteArray := prog_11_method_3_code
def yX9_isThread : MethodName := ⟨RX9, "isThread", "(I)Z"⟩
abbrev cX9_isRecording : ByteArray := prog_11_method_4_code
def yX9_isRecording : MethodName := ⟨RX9, "isRecording", "(I)Z"⟩
abbrev cX9_write : ByteArray := prog_11_method_5_code
def yX9_write : MethodName := ⟨RX9, "write", "(C)Z"⟩
abbrev cX9_advance : ByteArray := prog_11_method_6_code
def yX9_advance : MethodName := ⟨RX9, "advance", "(I)I"⟩
abbrev cX9_type : ByteArray := prog_11_method_7_code
def yX9_type : MethodName := ⟨RX9, "type", "(IZ)I"⟩
abbrev cX9_begin : ByteArray := prog_11_method_8_code
def yX9_begin : MethodName := ⟨RX9, "begin", "(I)Z"⟩
abbrev cX9_variable : ByteArray := prog_11_method_9_code
def yX9_variable : MethodName := ⟨RX9, "variable", "(I)V"⟩
abbrev cX9_width : ByteArray := prog_11_method_10_code
def yX9_width : MethodName := ⟨RX9, "width", "(I)I"⟩
abbrev cX9_zigzag : ByteArray := prog_11_method_11_code
def yX9_zigzag : MethodName := ⟨RX9, "zigzag", "(I)I"⟩
abbrev cX9_stringOf : ByteArray := prog_11_method_12_code
def yX9_stringOf : MethodName := ⟨RX9, "stringOf", "(I)I"⟩
abbrev cX9_unwanted : ByteArray := prog_11_method_13_code
def yX9_unwanted : MethodName := ⟨RX9, "unwanted", "(II)I"⟩
abbrev cX9_commit : ByteArray := prog_11_method_14_code
def yX9_commit : MethodName := ⟨RX9, "commit", "(IIIII)I"⟩
abbrev cX9_keepString : ByteArray := prog_11_method_15_code
def yX9_keepString : MethodName := ⟨RX9, "keepString", "(II)V"⟩
abbrev cX9_move : ByteArray := prog_11_method_16_code
def yX9_move : MethodName := ⟨RX9, "move", "(II)V"⟩
abbrev cX9_drain : ByteArray := prog_11_method_17_code
def yX9_drain : MethodName := ⟨RX9, "drain", "(I)I"⟩
abbrev cX9_put : ByteArray := prog_11_method_18_code
def yX9_put : MethodName := ⟨RX9, "put", "(I)V"⟩
abbrev cX9_loss : ByteArray := prog_11_method_19_code
def yX9_loss : MethodName := ⟨RX9, "loss", "(I)V"⟩
abbrev cX9_copyChunk : ByteArray := prog_11_method_20_code
def yX9_copyChunk : MethodName := ⟨RX9, "copyChunk", "(II)V"⟩
abbrev cX9_rotate : ByteArray := prog_11_method_21_code
def yX9_rotate : MethodName := ⟨RX9, "rotate", "()V"⟩
abbrev cX9_flush : ByteArray := prog_11_method_22_code
def yX9_flush : MethodName := ⟨RX9, "flush", "()I"⟩
abbrev cX9_digit : ByteArray := prog_11_method_23_code
def yX9_digit : MethodName := ⟨RX9, "digit", "(II)Z"⟩
abbrev cX9_itemEnd : ByteArray := prog_11_method_24_code
def yX9_itemEnd : MethodName := ⟨RX9, "itemEnd", "(II)I"⟩
abbrev cX9_items : ByteArray := prog_11_method_25_code
def yX9_items : MethodName := ⟨RX9, "items", "(II)I"⟩
abbrev cX9_set : ByteArray := prog_11_method_26_code
def yX9_set : MethodName := ⟨RX9, "set", "(III)V"⟩
abbrev cX9_record : ByteArray := prog_11_method_27_code
def yX9_record : MethodName := ⟨RX9, "record", "()I"⟩
abbrev cX9_settings : ByteArray := prog_11_method_28_code
def yX9_settings : MethodName := ⟨RX9, "settings", "(I)I"⟩
abbrev cX9_profile : ByteArray := prog_11_method_29_code
def yX9_profile : MethodName := ⟨RX9, "profile", "()I"⟩
abbrev cX9_start : ByteArray := prog_11_method_30_code
def yX9_start : MethodName := ⟨RX9, "start", "(I)I"⟩
abbrev cX9_end : ByteArray := prog_11_method_31_code
def yX9_end : MethodName := ⟨RX9, "end", "(I)I"⟩
abbrev cX9_stop : ByteArray := prog_11_method_32_code
def yX9_stop : MethodName := ⟨RX9, "stop", "(I)I"⟩
abbrev cX9_close : ByteArray := prog_11_method_33_code
def yX9_close : MethodName := ⟨RX9, "close", "(I)Z"⟩
abbrev cX9_out : ByteArray := prog_11_method_34_code
def yX9_out : MethodName := ⟨RX9, "out", "(I)V"⟩
abbrev cX9_outVariable : ByteArray := prog_11_method_35_code
def yX9_outVariable : MethodName := ⟨RX9, "outVariable", "(I)V"⟩
abbrev cX9_writeOut : ByteArray := prog_11_method_36_code
def yX9_writeOut : MethodName := ⟨RX9, "writeOut", "(I)V"⟩
abbrev cX9_dump : ByteArray := prog_11_method_37_code
def yX9_dump : MethodName := ⟨RX9, "dump", "(I)I"⟩
abbrev cX9_output : ByteArray := prog_11_method_38_code
def yX9_output : MethodName := ⟨RX9, "output", "(I)I"⟩
abbrev cX9_state : ByteArray := prog_11_method_39_code
def yX9_state : MethodName := ⟨RX9, "state", "(I)I"⟩
abbrev cX9_threshold : ByteArray := prog_11_method_40_code
def yX9_threshold : MethodName := ⟨RX9, "threshold", "(II)I"⟩
abbrev cX9_buffered : ByteArray := prog_11_method_41_code
def yX9_buffered : MethodName := ⟨RX9, "buffered", "(I)I"⟩
abbrev cX9_count : ByteArray := prog_11_method_42_code
def yX9_count : MethodName := ⟨RX9, "count", "(I)I"⟩
abbrev cX9_lost : ByteArray := prog_11_method_43_code
def yX9_lost : MethodName := ⟨RX9, "lost", "(I)I"⟩
abbrev cX0_init : ByteArray := prog_2_method_1_code
def yX0_init : MethodName := ⟨RX0, "<init>", "(I)V"⟩
abbrev cX0_length : ByteArray := prog_2_method_2_code
def yX0_length : MethodName := ⟨RX0, "length", "()I"⟩
abbrev cX0_room : ByteArray := prog_2_method_3_code
def yX0_room : MethodName := ⟨RX0, "room", "()I"⟩
abbrev cX0_at : ByteArray := prog_2_method_4_code
def yX0_at : MethodName := ⟨RX0, "at", "(I)I"⟩
abbrev cX0_clear : ByteArray := prog_2_method_5_code
def yX0_clear : MethodName := ⟨RX0, "clear", "()V"⟩
abbrev cX0_add : ByteArray := prog_2_method_6_code
def yX0_add : MethodName := ⟨RX0, "add", "(I)V"⟩
abbrev cX0_addVariable : ByteArray := prog_2_method_7_code
def yX0_addVariable : MethodName := ⟨RX0, "addVariable", "(I)V"⟩
abbrev cX0_addRow : ByteArray := prog_2_method_8_code
def yX0_addRow : MethodName := ⟨RX0, "addRow", "(LEventRecorder$ByteRow;)V"⟩
abbrev cX0_moveTo : ByteArray := prog_2_method_9_code
def yX0_moveTo : MethodName := ⟨RX0, "moveTo", "(LEventRecorder$ByteRow;)V"⟩
abbrev cX0_variableLength : ByteArray := prog_2_method_10_code
def yX0_variableLength : MethodName := ⟨RX0, "variableLength", "(I)I"⟩
abbrev cX1_init : ByteArray := prog_3_method_1_code
def yX1_init : MethodName := ⟨RX1, "<init>", "(I)V"⟩
abbrev cX1_openAs : ByteArray := prog_3_method_2_code
def yX1_openAs : MethodName := ⟨RX1, "openAs", "(II)V"⟩
abbrev cX1_number : ByteArray := prog_3_method_3_code
def yX1_number : MethodName := ⟨RX1, "number", "()I"⟩
abbrev cX1_body : ByteArray := prog_3_method_4_code
def yX1_body : MethodName := ⟨RX1, "body", "()LEventRecorder$ByteRow;"⟩
abbrev cX1_countEvent : ByteArray := prog_3_method_5_code
def yX1_countEvent : MethodName := ⟨RX1, "countEvent", "()V"⟩
abbrev cX1_use : ByteArray := prog_3_method_6_code
def yX1_use : MethodName := ⟨RX1, "use", "(I)V"⟩
abbrev cX1_addLoss : ByteArray := prog_3_method_7_code
def yX1_addLoss : MethodName := ⟨RX1, "addLoss", "(II)V"⟩
abbrev cX1_writeTo : ByteArray := prog_3_method_8_code
def yX1_writeTo : MethodName := ⟨RX1, "writeTo", "(LEventRecorder$ByteRow;LEventRecorder$StringTable;)V"⟩
abbrev cX1_countStrings : ByteArray := prog_3_method_9_code
def yX1_countStrings : MethodName := ⟨RX1, "countStrings", "()I"⟩
abbrev cX2_init : ByteArray := prog_4_method_1_code
def yX2_init : MethodName := ⟨RX2, "<init>", "(II)V"⟩
abbrev cX2_open : ByteArray := prog_4_method_2_code
def yX2_open : MethodName := ⟨RX2, "open", "()LEventRecorder$Chunk;"⟩
abbrev cX2_kept : ByteArray := prog_4_method_3_code
def yX2_kept : MethodName := ⟨RX2, "kept", "()I"⟩
abbrev cX2_evicted : ByteArray := prog_4_method_4_code
def yX2_evicted : MethodName := ⟨RX2, "evicted", "()I"⟩
abbrev cX2_finishOpen : ByteArray := prog_4_method_5_code
def yX2_finishOpen : MethodName := ⟨RX2, "finishOpen", "(I)V"⟩
abbrev cX2_writeKept : ByteArray := prog_4_method_6_code
def yX2_writeKept : MethodName := ⟨RX2, "writeKept", "(LEventRecorder$ByteRow;LEventRecorder$StringTable;II)V"⟩
abbrev cX2_evictOldest : ByteArray := prog_4_method_7_code
def yX2_evictOldest : MethodName := ⟨RX2, "evictOldest", "()V"⟩
abbrev cX3_init : ByteArray := prog_5_method_1_code
def yX3_init : MethodName := ⟨RX3, "<init>", "(I)V"⟩
abbrev cX3_beginAt : ByteArray := prog_5_method_2_code
def yX3_beginAt : MethodName := ⟨RX3, "beginAt", "(I)Z"⟩
abbrev cX3_hasBegun : ByteArray := prog_5_method_3_code
def yX3_hasBegun : MethodName := ⟨RX3, "hasBegun", "()Z"⟩
abbrev cX3_endLatest : ByteArray := prog_5_method_4_code
def yX3_endLatest : MethodName := ⟨RX3, "endLatest", "()I"⟩
abbrev cX3_buffer : ByteArray := prog_5_method_5_code
def yX3_buffer : MethodName := ⟨RX3, "buffer", "()LEventRecorder$ByteRow;"⟩
abbrev cX3_lose : ByteArray := prog_5_method_6_code
def yX3_lose : MethodName := ⟨RX3, "lose", "()V"⟩
abbrev cX3_takeLostInChunk : ByteArray := prog_5_method_7_code
def yX3_takeLostInChunk : MethodName := ⟨RX3, "takeLostInChunk", "()I"⟩
abbrev cX3_lostInAll : ByteArray := prog_5_method_8_code
def yX3_lostInAll : MethodName := ⟨RX3, "lostInAll", "()I"⟩
abbrev cX4_init : ByteArray := prog_6_method_1_code
def yX4_init : MethodName := ⟨RX4, "<init>", "(II)V"⟩
abbrev cX4_full : ByteArray := prog_6_method_2_code
def yX4_full : MethodName := ⟨RX4, "full", "()I"⟩
abbrev cX4_takeOver : ByteArray := prog_6_method_3_code
def yX4_takeOver : MethodName := ⟨RX4, "takeOver", "(LEventRecorder$ByteRow;)Z"⟩
abbrev cX4_moveFirstTo : ByteArray := prog_6_method_4_code
def yX4_moveFirstTo : MethodName := ⟨RX4, "moveFirstTo", "(LEventRecorder$ByteRow;)I"⟩
abbrev cX5_init : ByteArray := prog_7_method_1_code
def yX5_init : MethodName := ⟨RX5, "<init>", "()V"⟩
abbrev cX5_phase : ByteArray := prog_7_method_2_code
def yX5_phase : MethodName := ⟨RX5, "phase", "()I"⟩
abbrev cX5_is : ByteArray := prog_7_method_3_code
def yX5_is : MethodName := ⟨RX5, "is", "(I)Z"⟩
abbrev cX5_runFrom : ByteArray := prog_7_method_4_code
def yX5_runFrom : MethodName := ⟨RX5, "runFrom", "(I)V"⟩
abbrev cX5_endWith : ByteArray := prog_7_method_5_code
def yX5_endWith : MethodName := ⟨RX5, "endWith", "(I)V"⟩
abbrev cX5_shut : ByteArray := prog_7_method_6_code
def yX5_shut : MethodName := ⟨RX5, "shut", "()V"⟩
abbrev cX5_firstChunk : ByteArray := prog_7_method_7_code
def yX5_firstChunk : MethodName := ⟨RX5, "firstChunk", "()I"⟩
abbrev cX5_lastChunk : ByteArray := prog_7_method_8_code
def yX5_lastChunk : MethodName := ⟨RX5, "lastChunk", "()I"⟩
abbrev cX5_isOn : ByteArray := prog_7_method_9_code
def yX5_isOn : MethodName := ⟨RX5, "isOn", "(I)Z"⟩
abbrev cX5_turn : ByteArray := prog_7_method_10_code
def yX5_turn : MethodName := ⟨RX5, "turn", "(IZ)V"⟩
abbrev cX5_leastDuration : ByteArray := prog_7_method_11_code
def yX5_leastDuration : MethodName := ⟨RX5, "leastDuration", "(I)I"⟩
abbrev cX5_limit : ByteArray := prog_7_method_12_code
def yX5_limit : MethodName := ⟨RX5, "limit", "(II)V"⟩
abbrev cX6_init : ByteArray := prog_8_method_1_code
def yX6_init : MethodName := ⟨RX6, "<init>", "()V"⟩
abbrev cX6_used : ByteArray := prog_8_method_2_code
def yX6_used : MethodName := ⟨RX6, "used", "()I"⟩
abbrev cX6_numberFor : ByteArray := prog_8_method_3_code
def yX6_numberFor : MethodName := ⟨RX6, "numberFor", "(LEventRecorder$Text;)I"⟩
abbrev cX6_keep : ByteArray := prog_8_method_4_code
def yX6_keep : MethodName := ⟨RX6, "keep", "(ILEventRecorder$Text;)V"⟩
abbrev cX6_writeTo : ByteArray := prog_8_method_5_code
def yX6_writeTo : MethodName := ⟨RX6, "writeTo", "(LEventRecorder$ByteRow;I)V"⟩
abbrev cX6_isSame : ByteArray := prog_8_method_6_code
def yX6_isSame : MethodName := ⟨RX6, "isSame", "(ILEventRecorder$Text;)Z"⟩
abbrev cX6_usedLength : ByteArray := prog_8_method_7_code
def yX6_usedLength : MethodName := ⟨RX6, "usedLength", "(LEventRecorder$Text;)I"⟩
abbrev cX7_init : ByteArray := prog_9_method_1_code
def yX7_init : MethodName := ⟨RX7, "<init>", "()V"⟩
abbrev cX7_append : ByteArray := prog_9_method_2_code
def yX7_append : MethodName := ⟨RX7, "append", "(C)Z"⟩
abbrev cX7_length : ByteArray := prog_9_method_3_code
def yX7_length : MethodName := ⟨RX7, "length", "()I"⟩
abbrev cX7_at : ByteArray := prog_9_method_4_code
def yX7_at : MethodName := ⟨RX7, "at", "(I)C"⟩
abbrev cX7_digitAt : ByteArray := prog_9_method_5_code
def yX7_digitAt : MethodName := ⟨RX7, "digitAt", "(I)I"⟩
abbrev cX7_clear : ByteArray := prog_9_method_6_code
def yX7_clear : MethodName := ⟨RX7, "clear", "()V"⟩
abbrev cL_cell : ByteArray := method_2_code
def yL_cell : MethodName := ⟨RL, "cell", "([II)I"⟩
abbrev cL_type : ByteArray := method_3_code
def yL_type : MethodName := ⟨RL, "type", "(LEventRecorder;IZ[J)I"⟩
abbrev cL_record : ByteArray := method_4_code
def yL_record : MethodName := ⟨RL, "record", "(LEventRecorder;[J)I"⟩
abbrev cL_settings : ByteArray := method_5_code
def yL_settings : MethodName := ⟨RL, "settings", "(LEventRecorder;I[J)I"⟩
abbrev cL_start : ByteArray := method_6_code
def yL_start : MethodName := ⟨RL, "start", "(LEventRecorder;I[J)I"⟩
abbrev cL_stop : ByteArray := method_7_code
def yL_stop : MethodName := ⟨RL, "stop", "(LEventRecorder;I[J)I"⟩
abbrev cL_close : ByteArray := method_8_code
def yL_close : MethodName := ⟨RL, "close", "(LEventRecorder;I[J)I"⟩
abbrev cL_dump : ByteArray := method_9_code
def yL_dump : MethodName := ⟨RL, "dump", "(LEventRecorder;I[J)I"⟩
abbrev cL_law : ByteArray := code
def yL_law : MethodName := ⟨RL, "law", "([I)Z"⟩
abbrev vwCl : List vw_C := [(RX0, TX0, 2), (RX1, TX1, 5), (RX2, TX2, 3), (RX3, TX3, 5), (RX4, TX4, 3), (RX5, TX5, 5), (RX6, TX6, 3), (RX7, TX7, 2), (RX8, TX8, 14), (RX9, TX9, 39)]
def lw_good : List Cond := lw_tbl.filter goodWord
theorem mw_tw {w : Cond} (i : Nat) (h : tables_1[i]? = some w) (hg : goodWord w = true) : w ∈ lw_good := List.mem_filter.mpr ⟨List.mem_append_right _ (List.mem_of_getElem? h), hg⟩
theorem mw_tp {w : Cond} (i : Nat) (h : (k2_sels lw_privs)[i]? = some w) (hg : goodWord w = true) : w ∈ lw_good := List.mem_filter.mpr ⟨List.mem_append_left _ (List.mem_of_getElem? h), hg⟩
theorem mw_goodw {w : Cond} (h : w ∈ lw_good) : (w.onTables && w.keeps) = true ∨ ∃ ty, w = .arrayClass ty := good_of_word (List.mem_filter.mp h).2
theorem mw_gI {c : Cond} (h : c ∈ lw_good) : GoodIn lw_good (c :: lw_good) := fun w hw => (List.mem_cons.mp hw).elim (fun e => by rw [e]; exact ⟨h, mw_goodw h⟩) (fun hw => ⟨hw, mw_goodw hw⟩)
theorem mw_gV {own C : String} {idx : Nat} {y : MethodName} {c : Cond} (h1 : Cond.methodLink own idx y ∈ lw_good) (h2 : Cond.instanceMethod y ∈ lw_good) (h3 : Cond.selects C y y ∈ lw_good) (h4 : Cond.initialized C ∈ lw_good) (h : c ∈ lw_good) : GoodIn lw_good (wsV own idx C y (c :: lw_good)) := fun w hw => by
  rcases List.mem_append.mp hw with hw | hw
  · have hm : w ∈ lw_good := by
      rcases List.mem_cons.mp hw with e | hw
      · rw [e]; exact h1
      rcases List.mem_cons.mp hw with e | hw
      · rw [e]; exact h2
      rcases List.mem_cons.mp hw with e | hw
      · rw [e]; exact h3
      rcases List.mem_cons.mp hw with e | hw
      · rw [e]; exact h4
      exact absurd hw List.not_mem_nil
    exact ⟨hm, mw_goodw hm⟩
  · exact mw_gI h w hw
theorem mw_gS {own : String} {idx : Nat} {y : MethodName} {c : Cond} (h1 : Cond.methodLink own idx y ∈ lw_good) (h2 : Cond.static y ∈ lw_good) (h4 : Cond.initialized own ∈ lw_good) (h : c ∈ lw_good) : GoodIn lw_good (wsS own idx y (c :: lw_good)) := fun w hw => by
  rcases List.mem_append.mp hw with hw | hw
  · have hm : w ∈ lw_good := by
      rcases List.mem_cons.mp hw with e | hw
      · rw [e]; exact h1
      rcases List.mem_cons.mp hw with e | hw
      · rw [e]; exact h2
      rcases List.mem_cons.mp hw with e | hw
      · rw [e]; exact h4
      exact absurd hw List.not_mem_nil
    exact ⟨hm, mw_goodw hm⟩
  · exact mw_gI h w hw
set_option maxRecDepth 100000 in
theorem inX0 : ∀ w ∈ u_ws RX0 TX0 2, w ∈ lw_good := fun w h => List.mem_filter.mpr ⟨(show ∀ w ∈ u_ws RX0 TX0 2, w ∈ lw_tbl from by decide +kernel) w h, List.all_eq_true.mp (show (u_ws RX0 TX0 2).all goodWord = true from by decide +kernel) w h⟩
set_option maxRecDepth 100000 in
theorem inX1 : ∀ w ∈ u_ws RX1 TX1 5, w ∈ lw_good := fun w h => List.mem_filter.mpr ⟨(show ∀ w ∈ u_ws RX1 TX1 5, w ∈ lw_tbl from by decide +kernel) w h, List.all_eq_true.mp (show (u_ws RX1 TX1 5).all goodWord = true from by decide +kernel) w h⟩
set_option maxRecDepth 100000 in
theorem inX2 : ∀ w ∈ u_ws RX2 TX2 3, w ∈ lw_good := fun w h => List.mem_filter.mpr ⟨(show ∀ w ∈ u_ws RX2 TX2 3, w ∈ lw_tbl from by decide +kernel) w h, List.all_eq_true.mp (show (u_ws RX2 TX2 3).all goodWord = true from by decide +kernel) w h⟩
set_option maxRecDepth 100000 in
theorem inX3 : ∀ w ∈ u_ws RX3 TX3 5, w ∈ lw_good := fun w h => List.mem_filter.mpr ⟨(show ∀ w ∈ u_ws RX3 TX3 5, w ∈ lw_tbl from by decide +kernel) w h, List.all_eq_true.mp (show (u_ws RX3 TX3 5).all goodWord = true from by decide +kernel) w h⟩
set_option maxRecDepth 100000 in
theorem inX4 : ∀ w ∈ u_ws RX4 TX4 3, w ∈ lw_good := fun w h => List.mem_filter.mpr ⟨(show ∀ w ∈ u_ws RX4 TX4 3, w ∈ lw_tbl from by decide +kernel) w h, List.all_eq_true.mp (show (u_ws RX4 TX4 3).all goodWord = true from by decide +kernel) w h⟩
set_option maxRecDepth 100000 in
theorem inX5 : ∀ w ∈ u_ws RX5 TX5 5, w ∈ lw_good := fun w h => List.mem_filter.mpr ⟨(show ∀ w ∈ u_ws RX5 TX5 5, w ∈ lw_tbl from by decide +kernel) w h, List.all_eq_true.mp (show (u_ws RX5 TX5 5).all goodWord = true from by decide +kernel) w h⟩
set_option maxRecDepth 100000 in
theorem inX6 : ∀ w ∈ u_ws RX6 TX6 3, w ∈ lw_good := fun w h => List.mem_filter.mpr ⟨(show ∀ w ∈ u_ws RX6 TX6 3, w ∈ lw_tbl from by decide +kernel) w h, List.all_eq_true.mp (show (u_ws RX6 TX6 3).all goodWord = true from by decide +kernel) w h⟩
set_option maxRecDepth 100000 in
theorem inX7 : ∀ w ∈ u_ws RX7 TX7 2, w ∈ lw_good := fun w h => List.mem_filter.mpr ⟨(show ∀ w ∈ u_ws RX7 TX7 2, w ∈ lw_tbl from by decide +kernel) w h, List.all_eq_true.mp (show (u_ws RX7 TX7 2).all goodWord = true from by decide +kernel) w h⟩
set_option maxRecDepth 100000 in
theorem inX8 : ∀ w ∈ u_ws RX8 TX8 14, w ∈ lw_good := fun w h => List.mem_filter.mpr ⟨(show ∀ w ∈ u_ws RX8 TX8 14, w ∈ lw_tbl from by decide +kernel) w h, List.all_eq_true.mp (show (u_ws RX8 TX8 14).all goodWord = true from by decide +kernel) w h⟩
set_option maxRecDepth 100000 in
theorem inX9 : ∀ w ∈ u_ws RX9 TX9 39, w ∈ lw_good := fun w h => List.mem_filter.mpr ⟨(show ∀ w ∈ u_ws RX9 TX9 39, w ∈ lw_tbl from by decide +kernel) w h, List.all_eq_true.mp (show (u_ws RX9 TX9 39).all goodWord = true from by decide +kernel) w h⟩
end
section
/-! Worlds as maps: an address to its cell, and the heap's size. -/
abbrev mw_M : Type := (Nat → Option va_E) × Nat
def mw_up (S : mw_M) (a : Nat) (e : va_E) : mw_M := (fun q => if q = a then some e else S.1 q, S.2)
def mw_ad (S : mw_M) (e : va_E) : mw_M := (fun q => if q = S.2 then some e else S.1 q, S.2 + 1)
def mw_ex (S : mw_M) : mw_M := (S.1, S.2 + 1)
def mw_b2 {α β γ : Type} (o : Option (α × β)) (F : α → β → Option γ) : Option γ := match o with
  | some (a, b) => F a b
  | none => none
def mw_gv (S : mw_M) (a ci k : Nat) : Option Value := match S.1 a with
  | some (.inr (c, fs)) => if c = ci then fs[k]? else none
  | _ => none
def mw_gi (S : mw_M) (a ci k : Nat) : Option Int32 := match mw_gv S a ci k with
  | some (.int v) => some v
  | _ => none
def mw_gr (S : mw_M) (a ci k : Nat) : Option Nat := match mw_gv S a ci k with
  | some (.ref v) => some v
  | _ => none
def mw_pf (S : mw_M) (a ci k : Nat) (v : Value) : Option mw_M := match S.1 a with
  | some (.inr (c, fs)) => if c = ci ∧ k < fs.length then some (mw_up S a (.inr (c, fs.set k v))) else none
  | _ => none
def mw_ai (S : mw_M) (a : Nat) (cA : ClassId) (i : Int32) : Option Int32 := match S.1 a with
  | some (.inl (c, n, .inl f)) => if c = cA ∧ ¬ (i < 0 ∨ n ≤ i.toNatClampNeg) then some (f i.toNatClampNeg) else none
  | _ => none
def mw_si (S : mw_M) (a : Nat) (cA : ClassId) (i x : Int32) : Option mw_M := match S.1 a with
  | some (.inl (c, n, .inl f)) => if c = cA ∧ ¬ (i < 0 ∨ n ≤ i.toNatClampNeg) then some (mw_up S a (.inl (c, n, .inl (upd f i.toNatClampNeg x)))) else none
  | _ => none
def mw_aj (S : mw_M) (a : Nat) (cA : ClassId) (i : Int32) : Option Int64 := match S.1 a with
  | some (.inl (c, n, .inr (.inl f))) => if c = cA ∧ ¬ (i < 0 ∨ n ≤ i.toNatClampNeg) then some (f i.toNatClampNeg) else none
  | _ => none
def mw_sj (S : mw_M) (a : Nat) (cA : ClassId) (i : Int32) (x : Int64) : Option mw_M := match S.1 a with
  | some (.inl (c, n, .inr (.inl f))) => if c = cA ∧ ¬ (i < 0 ∨ n ≤ i.toNatClampNeg) then some (mw_up S a (.inl (c, n, .inr (.inl (vp_updL f i.toNatClampNeg x))))) else none
  | _ => none
def mw_aq (S : mw_M) (a : Nat) (cA : ClassId) (i : Int32) : Option Nat := match S.1 a with
  | some (.inl (c, n, .inr (.inr (.inr (.inr f))))) => if c = cA ∧ ¬ (i < 0 ∨ n ≤ i.toNatClampNeg) then f i.toNatClampNeg else none
  | _ => none
def mw_ob (S : mw_M) (a ci : Nat) : Bool := match S.1 a with
  | some (.inr (c, _)) => c == ci
  | _ => false
def mw_sq (S : mw_M) (a : Nat) (cA : ClassId) (ci : Nat) (i : Int32) (x : Nat) : Option mw_M := match S.1 a with
  | some (.inl (c, n, .inr (.inr (.inr (.inr f))))) => if (c = cA ∧ ¬ (i < 0 ∨ n ≤ i.toNatClampNeg)) ∧ mw_ob S x ci = true then some (mw_up S a (.inl (c, n, .inr (.inr (.inr (.inr (va_up f i.toNatClampNeg (some x)))))))) else none
  | _ => none
def mw_al (S : mw_M) (a : Nat) (cA : ClassId) : Option Int32 := match S.1 a with
  | some (.inl (c, x)) => if c = cA then some (Int32.ofNat x.1) else none
  | _ => none
def mw_na (S : mw_M) (cA : ClassId) (cap : Nat) (n : Int32) : Option (Nat × mw_M) := if ¬ n < 0 ∧ n.toNatClampNeg ≤ cap then some (S.2, mw_ad S (.inl (cA, n.toNatClampNeg, .inl (fun _ => 0)))) else none
def mw_nj (S : mw_M) (cA : ClassId) (cap : Nat) (n : Int32) : Option (Nat × mw_M) := if ¬ n < 0 ∧ n.toNatClampNeg ≤ cap then some (S.2, mw_ad S (.inl (cA, n.toNatClampNeg, .inr (.inl (fun _ => 0))))) else none
def mw_nq (S : mw_M) (cA : ClassId) (cap : Nat) (n : Int32) : Option (Nat × mw_M) := if ¬ n < 0 ∧ n.toNatClampNeg ≤ cap then some (S.2, mw_ad S (.inl (cA, n.toNatClampNeg, .inr (.inr (.inr (.inr (fun _ => none))))))) else none
def mw_no (S : mw_M) (ci : Nat) (fs : List Value) : Option (Nat × mw_M) := some (S.2, mw_ad S (.inr (ci, fs)))
def mw_v {α : Type} (S : mw_M) (a ci : Nat) (o : Option α) : Option α := if mw_ob S a ci = true then o else none
def mw_ushr (x y : Int32) : Int32 := (x.toUInt32 >>> (y.toUInt32 &&& Int32.toUInt32 31)).toInt32
def mw_i2b (x : Int32) : Int32 := x.toInt8.toInt32
def mw_i2c (x : Int32) : Int32 := (x.toUInt32 % 65536).toInt32
theorem mw_b {α γ : Type} {o : Option α} {F : α → Option γ} {z : γ} (h : o.bind F = some z) : ∃ v, o = some v ∧ F v = some z := by
  cases o with
  | none => cases h
  | some v => exact ⟨v, rfl, h⟩
theorem mw_bb {α β γ : Type} {o : Option (α × β)} {F : α → β → Option γ} {z : γ} (h : mw_b2 o F = some z) : ∃ a b, o = some (a, b) ∧ F a b = some z := by
  cases o with
  | none => cases h
  | some v => exact ⟨v.1, v.2, rfl, h⟩
theorem mw_ob_s {S : mw_M} {a ci : Nat} (h : mw_ob S a ci = true) : ∃ fs, S.1 a = some (.inr (ci, fs)) := by
  unfold mw_ob at h
  split at h
  · rename_i c fs e
    have hc : c = ci := by simpa using h
    exact ⟨fs, by rw [e, hc]⟩
  · cases h
theorem mw_v_s {α : Type} {S : mw_M} {a ci : Nat} {o : Option α} {z : α} (h : mw_v S a ci o = some z) : (∃ fs, S.1 a = some (.inr (ci, fs))) ∧ o = some z := by
  unfold mw_v at h
  split at h
  · rename_i hc
    exact ⟨mw_ob_s hc, h⟩
  · cases h
theorem mw_gv_s {S : mw_M} {a ci k : Nat} {v : Value} (h : mw_gv S a ci k = some v) : ∃ fs, S.1 a = some (.inr (ci, fs)) ∧ fs[k]? = some v := by
  unfold mw_gv at h
  split at h
  · rename_i c fs e
    split at h
    · rename_i hc
      subst hc
      exact ⟨fs, e, h⟩
    · cases h
  · cases h
theorem mw_gi_s {S : mw_M} {a ci k : Nat} {v : Int32} (h : mw_gi S a ci k = some v) : mw_gv S a ci k = some (.int v) := by
  unfold mw_gi at h
  split at h
  · rename_i x e
    cases h
    exact e
  · cases h
theorem mw_gr_s {S : mw_M} {a ci k : Nat} {v : Nat} (h : mw_gr S a ci k = some v) : mw_gv S a ci k = some (.ref v) := by
  unfold mw_gr at h
  split at h
  · rename_i x e
    cases h
    exact e
  · cases h
theorem mw_pf_s {S S' : mw_M} {a ci k : Nat} {v : Value} (h : mw_pf S a ci k v = some S') : ∃ fs, S.1 a = some (.inr (ci, fs)) ∧ k < fs.length ∧ S' = mw_up S a (.inr (ci, fs.set k v)) := by
  unfold mw_pf at h
  split at h
  · rename_i c fs e
    split at h
    · rename_i hc
      obtain ⟨rfl, hk⟩ := hc
      cases h
      exact ⟨fs, e, hk, rfl⟩
    · cases h
  · cases h
theorem mw_ai_s {S : mw_M} {a : Nat} {cA : ClassId} {i v : Int32} (h : mw_ai S a cA i = some v) : ∃ n f, S.1 a = some (.inl (cA, n, .inl f)) ∧ vp_in i n ∧ f i.toNatClampNeg = v := by
  unfold mw_ai at h
  split at h
  · rename_i c n f e
    split at h
    · rename_i hc
      obtain ⟨rfl, hk⟩ := hc
      cases h
      exact ⟨n, f, e, hk, rfl⟩
    · cases h
  · cases h
theorem mw_aj_s {S : mw_M} {a : Nat} {cA : ClassId} {i : Int32} {v : Int64} (h : mw_aj S a cA i = some v) : ∃ n f, S.1 a = some (.inl (cA, n, .inr (.inl f))) ∧ vp_in i n ∧ f i.toNatClampNeg = v := by
  unfold mw_aj at h
  split at h
  · rename_i c n f e
    split at h
    · rename_i hc
      obtain ⟨rfl, hk⟩ := hc
      cases h
      exact ⟨n, f, e, hk, rfl⟩
    · cases h
  · cases h
theorem mw_aq_s {S : mw_M} {a v : Nat} {cA : ClassId} {i : Int32} (h : mw_aq S a cA i = some v) : ∃ n f, S.1 a = some (.inl (cA, n, .inr (.inr (.inr (.inr f))))) ∧ vp_in i n ∧ f i.toNatClampNeg = some v := by
  unfold mw_aq at h
  split at h
  · rename_i c n f e
    split at h
    · rename_i hc
      obtain ⟨rfl, hk⟩ := hc
      exact ⟨n, f, e, hk, h⟩
    · cases h
  · cases h
theorem mw_si_s {S S' : mw_M} {a : Nat} {cA : ClassId} {i x : Int32} (h : mw_si S a cA i x = some S') : ∃ n f, S.1 a = some (.inl (cA, n, .inl f)) ∧ vp_in i n ∧ S' = mw_up S a (.inl (cA, n, .inl (upd f i.toNatClampNeg x))) := by
  unfold mw_si at h
  split at h
  · rename_i c n f e
    split at h
    · rename_i hc
      obtain ⟨rfl, hk⟩ := hc
      cases h
      exact ⟨n, f, e, hk, rfl⟩
    · cases h
  · cases h
theorem mw_sj_s {S S' : mw_M} {a : Nat} {cA : ClassId} {i : Int32} {x : Int64} (h : mw_sj S a cA i x = some S') : ∃ n f, S.1 a = some (.inl (cA, n, .inr (.inl f))) ∧ vp_in i n ∧ S' = mw_up S a (.inl (cA, n, .inr (.inl (vp_updL f i.toNatClampNeg x)))) := by
  unfold mw_sj at h
  split at h
  · rename_i c n f e
    split at h
    · rename_i hc
      obtain ⟨rfl, hk⟩ := hc
      cases h
      exact ⟨n, f, e, hk, rfl⟩
    · cases h
  · cases h
theorem mw_sq_s {S S' : mw_M} {a x ci : Nat} {cA : ClassId} {i : Int32} (h : mw_sq S a cA ci i x = some S') : ∃ n f vs, S.1 a = some (.inl (cA, n, .inr (.inr (.inr (.inr f))))) ∧ vp_in i n ∧ S.1 x = some (.inr (ci, vs)) ∧ S' = mw_up S a (.inl (cA, n, .inr (.inr (.inr (.inr (va_up f i.toNatClampNeg (some x))))))) := by
  unfold mw_sq at h
  split at h
  · rename_i c n f e
    split at h
    · rename_i hc
      obtain ⟨⟨rfl, hk⟩, ho⟩ := hc
      obtain ⟨vs, hv⟩ := mw_ob_s ho
      cases h
      exact ⟨n, f, vs, e, hk, hv, rfl⟩
    · cases h
  · cases h
theorem mw_al_s {S : mw_M} {a : Nat} {cA : ClassId} {v : Int32} (h : mw_al S a cA = some v) : ∃ x : vp_A, S.1 a = some (.inl (cA, x)) ∧ Int32.ofNat x.1 = v := by
  unfold mw_al at h
  split at h
  · rename_i c x e
    split at h
    · rename_i hc
      subst hc
      cases h
      exact ⟨x, e, rfl⟩
    · cases h
  · cases h
theorem mw_na_s {S S' : mw_M} {q cap : Nat} {cA : ClassId} {n : Int32} (h : mw_na S cA cap n = some (q, S')) : ¬ n < 0 ∧ n.toNatClampNeg ≤ cap ∧ q = S.2 ∧ S' = mw_ad S (.inl (cA, n.toNatClampNeg, .inl (fun _ => 0))) := by
  unfold mw_na at h
  split at h
  · rename_i hc
    cases h
    exact ⟨hc.1, hc.2, rfl, rfl⟩
  · cases h
theorem mw_nj_s {S S' : mw_M} {q cap : Nat} {cA : ClassId} {n : Int32} (h : mw_nj S cA cap n = some (q, S')) : ¬ n < 0 ∧ n.toNatClampNeg ≤ cap ∧ q = S.2 ∧ S' = mw_ad S (.inl (cA, n.toNatClampNeg, .inr (.inl (fun _ => 0)))) := by
  unfold mw_nj at h
  split at h
  · rename_i hc
    cases h
    exact ⟨hc.1, hc.2, rfl, rfl⟩
  · cases h
theorem mw_nq_s {S S' : mw_M} {q cap : Nat} {cA : ClassId} {n : Int32} (h : mw_nq S cA cap n = some (q, S')) : ¬ n < 0 ∧ n.toNatClampNeg ≤ cap ∧ q = S.2 ∧ S' = mw_ad S (.inl (cA, n.toNatClampNeg, .inr (.inr (.inr (.inr (fun _ => none)))))) := by
  unfold mw_nq at h
  split at h
  · rename_i hc
    cases h
    exact ⟨hc.1, hc.2, rfl, rfl⟩
  · cases h
/-! the world of a walk -/
def mw_P (D : va_G) (cl : List vw_C) (A : Nat → Prop) (S : mw_M) (H : Heap) : Prop := (∀ (a : Nat) (e : va_E), S.1 a = some e → va_at D cl (a, e) H ∧ A a) ∧ H.size = S.2
def mw_A (S : mw_M) : Nat → Prop := fun q => (∃ e, S.1 q = some e) ∨ S.2 ≤ q
def mw_K (D : va_G) (cl : List vw_C) (tys : List (ClassId × FieldType)) (aos : List String) (U : State) : Prop := va_K D cl tys U ∧ ∀ C ∈ aos, va_AO C U
def mw_W (D : va_G) (cl : List vw_C) (tys : List (ClassId × FieldType)) (aos : List String) (A : Nat → Prop) (s : State) (S : mw_M) (H : Heap) (locs : List Loc) : Prop := mw_P D cl A S H ∧ mw_K D cl tys aos s ∧ va_S A s.heap H locs ∧ ∀ q : Nat, s.heap.size ≤ q → A q
theorem mw_K.moved {D : va_G} {cl : List vw_C} {tys : List (ClassId × FieldType)} {aos : List String} {u U : State} (hvm : u.vm.Alike U.vm) (h : mw_K D cl tys aos u) : mw_K D cl tys aos U := ⟨h.1.moved hvm, fun C hC => (h.2 C hC).moved hvm⟩
theorem mw_P.one {D : va_G} {cl : List vw_C} {A : Nat → Prop} {S : mw_M} {H : Heap} {a : Nat} {e : va_E} (hP : mw_P D cl A S H) (h : S.1 a = some e) : va_P D cl [(a, e)] H := by
  intro k q hk
  have hz : k < 1 := (List.getElem?_eq_some_iff.mp hk).1
  rw [show k = 0 by omega] at hk
  cases hk
  exact (hP.1 a e h).1
theorem mw_P.wk {D : va_G} {cl : List vw_C} {A B : Nat → Prop} {S : mw_M} {H : Heap} (hP : mw_P D cl A S H) (hAB : ∀ q, A q → B q) : mw_P D cl B S H := ⟨fun a e h => ⟨(hP.1 a e h).1, hAB a (hP.1 a e h).2⟩, hP.2⟩
theorem mw_P.self {D : va_G} {cl : List vw_C} {A : Nat → Prop} {S : mw_M} {H : Heap} (hP : mw_P D cl A S H) : mw_P D cl (mw_A S) S H := ⟨fun a e h => ⟨(hP.1 a e h).1, Or.inl ⟨e, h⟩⟩, hP.2⟩
theorem mw_P.up {D : va_G} {cl : List vw_C} {A : Nat → Prop} {S : mw_M} {H H1 : Heap} {a : Nat} {e0 e : va_E} (hP : mw_P D cl A S H) (h0 : S.1 a = some e0) (he : va_at D cl (a, e) H1) (z : H1.size = H.size) (oq : ∀ q : Nat, q ≠ a → H1[q]? = H[q]?) : mw_P D cl A (mw_up S a e) H1 := by
  refine ⟨fun b f hb => ?_, z.trans hP.2⟩
  by_cases hba : b = a
  · subst hba
    have hf : f = e := by
      have h1 : (if b = b then some e else S.1 b) = some f := hb
      rw [if_pos rfl] at h1
      exact (Option.some.inj h1).symm
    subst hf
    exact ⟨he, (hP.1 b e0 h0).2⟩
  · have hb' : S.1 b = some f := by
      have h1 : (if b = a then some e else S.1 b) = some f := hb
      rw [if_neg hba] at h1
      exact h1
    exact ⟨(hP.1 b f hb').1.kept (oq b hba), (hP.1 b f hb').2⟩
theorem mw_W.up {D : va_G} {cl : List vw_C} {tys : List (ClassId × FieldType)} {aos : List String} {A : Nat → Prop} {s : State} {S : mw_M} {H H1 : Heap} {locs : List Loc} {a k : Nat} {e0 e : va_E} (hw : mw_W D cl tys aos A s S H locs) (h0 : S.1 a = some e0) (he : va_at D cl (a, e) H1) (z : H1.size = H.size) (oq : ∀ q : Nat, q ≠ a → H1[q]? = H[q]?) : mw_W D cl tys aos A s (mw_up S a e) H1 (locs ++ [⟨a, k⟩]) := ⟨hw.1.up h0 he z oq, hw.2.1, hw.2.2.1.put z oq (hw.1.1 a e0 h0).2, hw.2.2.2⟩
theorem mw_W.ad {D : va_G} {cl : List vw_C} {tys : List (ClassId × FieldType)} {aos : List String} {A : Nat → Prop} {s : State} {S : mw_M} {H H1 : Heap} {locs : List Loc} {e : va_E} (hw : mw_W D cl tys aos A s S H locs) (he : va_at D cl (H.size, e) H1) (z : H1.size = H.size + 1) (oq : ∀ q : Nat, q < H.size → H1[q]? = H[q]?) : mw_W D cl tys aos A s (mw_ad S e) H1 locs := by
  obtain ⟨hP, hK, hS, hA⟩ := hw
  refine ⟨⟨fun b f hb => ?_, by rw [z, hP.2]; rfl⟩, hK, ⟨Nat.le_trans hS.1 (by omega), fun x h1 h2 => (oq x (Nat.lt_of_lt_of_le h1 hS.1)).trans (hS.2.1 x h1 h2), hS.2.2⟩, hA⟩
  have h1 : (if b = S.2 then some e else S.1 b) = some f := hb
  by_cases hba : b = S.2
  · rw [if_pos hba] at h1
    cases h1
    rw [hba, ← hP.2]
    exact ⟨he, hA _ hS.1⟩
  · rw [if_neg hba] at h1
    exact ⟨(hP.1 b f h1).1.kept (oq b (hP.1 b f h1).1.lt), (hP.1 b f h1).2⟩
section MWR
variable {p : Program} {l : Launch} {e : Env} {R : Room} {s : State} {m : MethodId} {args : Array Value} {below : List Frame} {meth : Method} {c : Code} {H : Heap} {locs : List Loc} {cells slots : Nat} {Q : State → Prop}
variable {cc : ByteArray} {pc : Nat} {ls : Array Slot} {rest : List Value} {D : va_G} {cl : List vw_C} {A : Nat → Prop} {a : Nat} {tys : List (ClassId × FieldType)} {aos : List String} {S : mw_M}
theorem mw_get (hexec : p.tables.exec = Jvm.exec) (hb : c.code = cc) {own ref C : String} {T : u_T} {N ci index : Nat} {Ts : List Cond} (hts : ∀ w ∈ Ts, w.before args s = true) (hin : ∀ w ∈ u_ws C T N, w ∈ Ts) (hown : s.vm.findClass own = some m.cls) (hw : mw_W D cl tys aos A s S H locs) (hc : cl[ci]? = some (C, T, N)) (k : Nat) (hk : k < N) (hlink : (Cond.fieldLink own index ref (T k).2.1 (T k).2.2.1).before args s = true) (hsame : (T k).1 = ref) {v : Value} (hv : mw_gv S a ci k = some v) (hdg : decode cc pc = .ok (.getfield index, 3)) (kk : W p l e R s m args below meth c H locs cells slots Q (F0 m (pc + 3) ls (v :: rest))) : W p l e R s m args below meth c H locs cells slots Q (F0 m pc ls (.ref a :: rest)) := by
  obtain ⟨fs, h1, h2⟩ := mw_gv_s hv
  subst hsame
  exact va_get hexec hb hts hin hown hw.2.1.1 (hw.1.one h1) 0 rfl hc k hk hlink (fun _ h => h) h2 hdg kk
theorem mw_geti (hexec : p.tables.exec = Jvm.exec) (hb : c.code = cc) {own ref C : String} {T : u_T} {N ci index : Nat} {Ts : List Cond} (hts : ∀ w ∈ Ts, w.before args s = true) (hin : ∀ w ∈ u_ws C T N, w ∈ Ts) (hown : s.vm.findClass own = some m.cls) (hw : mw_W D cl tys aos A s S H locs) (hc : cl[ci]? = some (C, T, N)) (k : Nat) (hk : k < N) (hlink : (Cond.fieldLink own index ref (T k).2.1 (T k).2.2.1).before args s = true) (hsame : (T k).1 = ref) {v : Int32} (hv : mw_gi S a ci k = some v) (hdg : decode cc pc = .ok (.getfield index, 3)) (kk : W p l e R s m args below meth c H locs cells slots Q (F0 m (pc + 3) ls (.int v :: rest))) : W p l e R s m args below meth c H locs cells slots Q (F0 m pc ls (.ref a :: rest)) := mw_get hexec hb hts hin hown hw hc k hk hlink hsame (mw_gi_s hv) hdg kk
theorem mw_getr (hexec : p.tables.exec = Jvm.exec) (hb : c.code = cc) {own ref C : String} {T : u_T} {N ci index : Nat} {Ts : List Cond} (hts : ∀ w ∈ Ts, w.before args s = true) (hin : ∀ w ∈ u_ws C T N, w ∈ Ts) (hown : s.vm.findClass own = some m.cls) (hw : mw_W D cl tys aos A s S H locs) (hc : cl[ci]? = some (C, T, N)) (k : Nat) (hk : k < N) (hlink : (Cond.fieldLink own index ref (T k).2.1 (T k).2.2.1).before args s = true) (hsame : (T k).1 = ref) {v : Nat} (hv : mw_gr S a ci k = some v) (hdg : decode cc pc = .ok (.getfield index, 3)) (kk : W p l e R s m args below meth c H locs cells slots Q (F0 m (pc + 3) ls (.ref v :: rest))) : W p l e R s m args below meth c H locs cells slots Q (F0 m pc ls (.ref a :: rest)) := mw_get hexec hb hts hin hown hw hc k hk hlink hsame (mw_gr_s hv) hdg kk
theorem mw_put (hexec : p.tables.exec = Jvm.exec) (hb : c.code = cc) {own ref C : String} {T : u_T} {N ci index : Nat} {Ts : List Cond} (hts : ∀ w ∈ Ts, w.before args s = true) (hin : ∀ w ∈ u_ws C T N, w ∈ Ts) (ty0 : Nat → FieldType) (hty : ∀ k, k < N → parseFieldDescriptor (T k).2.2.1 = some (ty0 k)) (hnm : ∀ a, a < N → ∀ b, b < N → a ≠ b → (T a).2.1 ≠ (T b).2.1) (hown : s.vm.findClass own = some m.cls) (hw : mw_W D cl tys aos A s S H locs) (hc : cl[ci]? = some (C, T, N)) (k : Nat) (hk : k < N) (hlink : (Cond.fieldLink own index ref (T k).2.1 (T k).2.2.1).before args s = true) (hsame : (T k).1 = ref) (hfin : (T k).2.2.2 = false) {ty : FieldType} {v : Value} {S1 : mw_M} (hd : parseFieldDescriptor (T k).2.2.1 = some ty) (hn : narrow ty v = v) (hfit : fits ty v = true) (hv : mw_pf S a ci k v = some S1) (hdg : decode cc pc = .ok (.putfield index, 3)) (kk : ∀ (H1 : Heap) (locs1 : List Loc), mw_W D cl tys aos A s S1 H1 locs1 → W p l e R s m args below meth c H1 locs1 cells slots Q (F0 m (pc + 3) ls rest)) : W p l e R s m args below meth c H locs cells slots Q (F0 m pc ls (v :: .ref a :: rest)) := by
  subst hsame
  obtain ⟨fs, h0, hl, rfl⟩ := mw_pf_s hv
  have hK := hw.2.1.1
  have hap := va_apart (own := own) hts hin ty0 hty hnm hK hc
  obtain ⟨r, h1, cell, q1, q2, q3, q4⟩ := (hw.1.1 a _ h0).1
  have hr : r = (C, T, N) := Option.some.inj (h1.symm.trans hc)
  subst hr
  obtain ⟨hS, hfc, kC, hkC, hkind⟩ := hK.1 ci _ hc
  obtain ⟨cf, kf, fi, f, hi, hsl⟩ := hS k hk
  have hlay := hts _ (hin _ (u_in_lay hk))
  unfold u_lay at hlay
  rw [if_neg (by rw [hfin]; decide)] at hlay
  have hst := (u_facts hfc hkC (u_lays hts hin hk) hi).1
  have h6 := u_store hfc hkC hkind hlay hi hd hn hfit
  refine W.putK hexec hb (f := f) ⟨hown, hlink, ⟨_, _, _, hi⟩, hst⟩ (by rw [q2]; exact h6) q1 q3 (by rw [hsl]; exact k2_hasslot (q4 k hk)) rfl rfl hdg fun H' e1 e2 e3 => ?_
  rw [hsl] at e1 ⊢
  exact kk H' _ (hw.up h0 ⟨_, hc, t_OB.to (V := updV (vp_V fs) k v) ⟨_, e1, q2, q3, t_set q4 hap hk v⟩ (fun j _ => vp_updV_set hl v j)⟩ e2 e3)
theorem mw_putF (hexec : p.tables.exec = Jvm.exec) (hb : c.code = cc) {own ref C : String} {T : u_T} {N ci index : Nat} {Ts : List Cond} (hts : ∀ w ∈ Ts, w.before args s = true) (hin : ∀ w ∈ u_ws C T N, w ∈ Ts) (ty0 : Nat → FieldType) (hty : ∀ k, k < N → parseFieldDescriptor (T k).2.2.1 = some (ty0 k)) (hnm : ∀ a, a < N → ∀ b, b < N → a ≠ b → (T a).2.1 ≠ (T b).2.1) (hown : s.vm.findClass own = some m.cls) (hw : mw_W D cl tys aos A s S H locs) (hc : cl[ci]? = some (C, T, N)) (k : Nat) (hk : k < N) (hlink : (Cond.fieldLink own index ref (T k).2.1 (T k).2.2.1).before args s = true) (hsame : (T k).1 = ref) (hfin : (T k).2.2.2 = true) (hin2 : meth.name = "<init>") (hdecl : (T k).1 = own) {ty : FieldType} {v : Value} {S1 : mw_M} (hd : parseFieldDescriptor (T k).2.2.1 = some ty) (hn : narrow ty v = v) (hfit : fits ty v = true) (hv : mw_pf S a ci k v = some S1) (hdg : decode cc pc = .ok (.putfield index, 3)) (kk : ∀ (H1 : Heap) (locs1 : List Loc), mw_W D cl tys aos A s S1 H1 locs1 → W p l e R s m args below meth c H1 locs1 cells slots Q (F0 m (pc + 3) ls rest)) : W p l e R s m args below meth c H locs cells slots Q (F0 m pc ls (v :: .ref a :: rest)) := by
  subst hsame
  obtain ⟨fs, h0, hl, rfl⟩ := mw_pf_s hv
  have hK := hw.2.1.1
  have hap := va_apart (own := own) hts hin ty0 hty hnm hK hc
  obtain ⟨r, h1, cell, q1, q2, q3, q4⟩ := (hw.1.1 a _ h0).1
  have hr : r = (C, T, N) := Option.some.inj (h1.symm.trans hc)
  subst hr
  obtain ⟨hS, hfc, kC, hkC, hkind⟩ := hK.1 ci _ hc
  obtain ⟨cf, kf, fi, f, hi, hsl⟩ := hS k hk
  have hlay := hts _ (hin _ (u_in_lay hk))
  unfold u_lay at hlay
  rw [if_pos hfin] at hlay
  have hst := (u_facts hfc hkC (u_lays hts hin hk) hi).1
  have hcf : m.cls = cf := by
    obtain ⟨_, _, c', _, _, _, -, -, hf', -, -, -, hown2, -⟩ := Cond.laysFinal_spec hlay
    have e1 : c' = cf := by have := hi.symm.trans hf'; simp at this; exact this.1.symm
    rw [hdecl] at hown2
    rw [← e1]; exact Option.some.inj (hown.symm.trans hown2)
  have h6 := u_fits hfc hkC hkind (Or.inr hlay) hi hd hn hfit
  refine W.putFinK hexec hb hown hlink hi hst hcf hin2 (by rw [q2]; exact h6) q1 q3 (by rw [hsl]; exact k2_hasslot (q4 k hk)) rfl rfl hdg fun H' e1 e2 e3 => ?_
  rw [hsl] at e1 ⊢
  exact kk H' _ (hw.up h0 ⟨_, hc, t_OB.to (V := updV (vp_V fs) k v) ⟨_, e1, q2, q3, t_set q4 hap hk v⟩ (fun j _ => vp_updV_set hl v j)⟩ e2 e3)
theorem mw_iald (hexec : p.tables.exec = Jvm.exec) (hb : c.code = cc) (hw : mw_W D cl tys aos A s S H locs) (t0 : Nat) {cA : ClassId} (ht : tys[t0]? = some (cA, .int)) {i : Int32} {v : Int32} (hv : mw_ai S a cA i = some v) (hdg : decode cc pc = .ok (.iaload, 1)) (kk : W p l e R s m args below meth c H locs cells slots Q (F0 m (pc + 1) ls (.int v :: rest))) : W p l e R s m args below meth c H locs cells slots Q (F0 m pc ls (.int i :: .ref a :: rest)) := by
  obtain ⟨n, f, h1, h2, rfl⟩ := mw_ai_s hv
  exact va_iald hexec hb hw.2.1.1 (hw.1.one h1) 0 t0 rfl ht h2 hdg kk
theorem mw_bald (hexec : p.tables.exec = Jvm.exec) (hb : c.code = cc) (hw : mw_W D cl tys aos A s S H locs) (t0 : Nat) {cA : ClassId} (ht : tys[t0]? = some (cA, .byte)) {i : Int32} {v : Int32} (hv : mw_ai S a cA i = some v) (hdg : decode cc pc = .ok (.baload, 1)) (kk : W p l e R s m args below meth c H locs cells slots Q (F0 m (pc + 1) ls (.int v :: rest))) : W p l e R s m args below meth c H locs cells slots Q (F0 m pc ls (.int i :: .ref a :: rest)) := by
  obtain ⟨n, f, h1, h2, rfl⟩ := mw_ai_s hv
  exact va_bald hexec hb hw.2.1.1 (hw.1.one h1) 0 t0 rfl ht h2 hdg kk
theorem mw_zald (hexec : p.tables.exec = Jvm.exec) (hb : c.code = cc) (hw : mw_W D cl tys aos A s S H locs) (t0 : Nat) {cA : ClassId} (ht : tys[t0]? = some (cA, .boolean)) {i : Int32} {v : Int32} (hv : mw_ai S a cA i = some v) (hdg : decode cc pc = .ok (.baload, 1)) (kk : W p l e R s m args below meth c H locs cells slots Q (F0 m (pc + 1) ls (.int v :: rest))) : W p l e R s m args below meth c H locs cells slots Q (F0 m pc ls (.int i :: .ref a :: rest)) := by
  obtain ⟨n, f, h1, h2, rfl⟩ := mw_ai_s hv
  exact va_zald hexec hb hw.2.1.1 (hw.1.one h1) 0 t0 rfl ht h2 hdg kk
theorem mw_cald (hexec : p.tables.exec = Jvm.exec) (hb : c.code = cc) (hw : mw_W D cl tys aos A s S H locs) (t0 : Nat) {cA : ClassId} (ht : tys[t0]? = some (cA, .char)) {i : Int32} {v : Int32} (hv : mw_ai S a cA i = some v) (hdg : decode cc pc = .ok (.caload, 1)) (kk : W p l e R s m args below meth c H locs cells slots Q (F0 m (pc + 1) ls (.int v :: rest))) : W p l e R s m args below meth c H locs cells slots Q (F0 m pc ls (.int i :: .ref a :: rest)) := by
  obtain ⟨n, f, h1, h2, rfl⟩ := mw_ai_s hv
  exact va_cald hexec hb hw.2.1.1 (hw.1.one h1) 0 t0 rfl ht h2 hdg kk
theorem mw_lald (hexec : p.tables.exec = Jvm.exec) (hb : c.code = cc) (hw : mw_W D cl tys aos A s S H locs) (t0 : Nat) {cA : ClassId} (ht : tys[t0]? = some (cA, .long)) {i : Int32} {v : Int64} (hv : mw_aj S a cA i = some v) (hdg : decode cc pc = .ok (.laload, 1)) (kk : W p l e R s m args below meth c H locs cells slots Q (F0 m (pc + 1) ls (.long v :: rest))) : W p l e R s m args below meth c H locs cells slots Q (F0 m pc ls (.int i :: .ref a :: rest)) := by
  obtain ⟨n, f, h1, h2, rfl⟩ := mw_aj_s hv
  exact va_lald hexec hb hw.2.1.1 (hw.1.one h1) 0 t0 rfl ht h2 hdg kk
theorem mw_aald (hexec : p.tables.exec = Jvm.exec) (hb : c.code = cc) (hw : mw_W D cl tys aos A s S H locs) (t0 : Nat) {cA : ClassId} {C : String} (ht : tys[t0]? = some (cA, .object C)) {i : Int32} {v : Nat} (hv : mw_aq S a cA i = some v) (hdg : decode cc pc = .ok (.aaload, 1)) (kk : W p l e R s m args below meth c H locs cells slots Q (F0 m (pc + 1) ls (.ref v :: rest))) : W p l e R s m args below meth c H locs cells slots Q (F0 m pc ls (.int i :: .ref a :: rest)) := by
  obtain ⟨n, f, h1, h2, h3⟩ := mw_aq_s hv
  refine va_aldq hexec hb hw.2.1.1 (hw.1.one h1) 0 t0 rfl ht h2 hdg ?_
  rw [h3]
  exact kk
theorem mw_alen (hexec : p.tables.exec = Jvm.exec) (hb : c.code = cc) (hw : mw_W D cl tys aos A s S H locs) (t0 : Nat) {cA : ClassId} {ty : FieldType} (ht : tys[t0]? = some (cA, ty)) {v : Int32} (hv : mw_al S a cA = some v) (hdg : decode cc pc = .ok (.arraylength, 1)) (kk : W p l e R s m args below meth c H locs cells slots Q (F0 m (pc + 1) ls (.int v :: rest))) : W p l e R s m args below meth c H locs cells slots Q (F0 m pc ls (.ref a :: rest)) := by
  obtain ⟨x, h1, h2⟩ := mw_al_s hv
  exact va_alen hexec hb hw.2.1.1 (hw.1.one h1) 0 t0 rfl ht h2 hdg kk
theorem mw_iast (hexec : p.tables.exec = Jvm.exec) (hb : c.code = cc) (hw : mw_W D cl tys aos A s S H locs) (t0 : Nat) {cA : ClassId} (ht : tys[t0]? = some (cA, .int)) {i : Int32} {x : Int32} {S1 : mw_M} (hv : mw_si S a cA i x = some S1) (hdg : decode cc pc = .ok (.iastore, 1)) (kk : ∀ (H1 : Heap) (locs1 : List Loc), mw_W D cl tys aos A s S1 H1 locs1 → W p l e R s m args below meth c H1 locs1 cells slots Q (F0 m (pc + 1) ls rest)) : W p l e R s m args below meth c H locs cells slots Q (F0 m pc ls (.int x :: .int i :: .ref a :: rest)) := by
  obtain ⟨n, f, h1, hin, rfl⟩ := mw_si_s hv
  refine W.iast hexec hb (hw.1.1 a _ h1).1 ((hw.2.1.1.2 t0 _ ht).1 n (fun j => .int (f j))) (fun q => by cases q) (by show ¬ (i < 0 ∨ (arrV _ _ _).slots.size ≤ _); rw [arrV_size]; exact hin) rfl rfl hdg fun H1 e z oq => ?_
  refine kk H1 _ (hw.up h1 ?_ z oq)
  show H1[a]? = some (vp_cell _ _)
  rw [e]
  rw [vp_cell_i, vp_cell_i, arrV_store]
  congr 2
  funext q
  by_cases hq : q = i.toNatClampNeg
  · subst hq
    simp [updV, upd, vp_nar]
    try rfl
  · simp [updV, upd, hq]
theorem mw_bast (hexec : p.tables.exec = Jvm.exec) (hb : c.code = cc) (hw : mw_W D cl tys aos A s S H locs) (t0 : Nat) {cA : ClassId} (ht : tys[t0]? = some (cA, .byte)) {i : Int32} {x : Int32} {S1 : mw_M} (hv : mw_si S a cA i (vp_nar .byte x) = some S1) (hdg : decode cc pc = .ok (.bastore, 1)) (kk : ∀ (H1 : Heap) (locs1 : List Loc), mw_W D cl tys aos A s S1 H1 locs1 → W p l e R s m args below meth c H1 locs1 cells slots Q (F0 m (pc + 1) ls rest)) : W p l e R s m args below meth c H locs cells slots Q (F0 m pc ls (.int x :: .int i :: .ref a :: rest)) := by
  obtain ⟨n, f, h1, hin, rfl⟩ := mw_si_s hv
  refine W.bast hexec hb (hw.1.1 a _ h1).1 ((hw.2.1.1.2 t0 _ ht).1 n (fun j => .int (f j))) (fun q => by cases q) (by show ¬ (i < 0 ∨ (arrV _ _ _).slots.size ≤ _); rw [arrV_size]; exact hin) rfl rfl hdg fun H1 e z oq => ?_
  refine kk H1 _ (hw.up h1 ?_ z oq)
  show H1[a]? = some (vp_cell _ _)
  rw [e]
  rw [vp_cell_i, vp_cell_i, arrV_store]
  congr 2
  funext q
  by_cases hq : q = i.toNatClampNeg
  · subst hq
    simp [updV, upd, vp_nar]
    try rfl
  · simp [updV, upd, hq]
theorem mw_zast (hexec : p.tables.exec = Jvm.exec) (hb : c.code = cc) (hw : mw_W D cl tys aos A s S H locs) (t0 : Nat) {cA : ClassId} (ht : tys[t0]? = some (cA, .boolean)) {i : Int32} {x : Int32} {S1 : mw_M} (hv : mw_si S a cA i (vp_nar .boolean x) = some S1) (hdg : decode cc pc = .ok (.bastore, 1)) (kk : ∀ (H1 : Heap) (locs1 : List Loc), mw_W D cl tys aos A s S1 H1 locs1 → W p l e R s m args below meth c H1 locs1 cells slots Q (F0 m (pc + 1) ls rest)) : W p l e R s m args below meth c H locs cells slots Q (F0 m pc ls (.int x :: .int i :: .ref a :: rest)) := by
  obtain ⟨n, f, h1, hin, rfl⟩ := mw_si_s hv
  refine W.zast hexec hb (hw.1.1 a _ h1).1 ((hw.2.1.1.2 t0 _ ht).1 n (fun j => .int (f j))) (fun q => by cases q) (by show ¬ (i < 0 ∨ (arrV _ _ _).slots.size ≤ _); rw [arrV_size]; exact hin) rfl rfl hdg fun H1 e z oq => ?_
  refine kk H1 _ (hw.up h1 ?_ z oq)
  show H1[a]? = some (vp_cell _ _)
  rw [e]
  rw [vp_cell_i, vp_cell_i, arrV_store]
  congr 2
  funext q
  by_cases hq : q = i.toNatClampNeg
  · subst hq
    simp [updV, upd, vp_nar]
    try rfl
  · simp [updV, upd, hq]
theorem mw_cast (hexec : p.tables.exec = Jvm.exec) (hb : c.code = cc) (hw : mw_W D cl tys aos A s S H locs) (t0 : Nat) {cA : ClassId} (ht : tys[t0]? = some (cA, .char)) {i : Int32} {x : Int32} {S1 : mw_M} (hv : mw_si S a cA i (vp_nar .char x) = some S1) (hdg : decode cc pc = .ok (.castore, 1)) (kk : ∀ (H1 : Heap) (locs1 : List Loc), mw_W D cl tys aos A s S1 H1 locs1 → W p l e R s m args below meth c H1 locs1 cells slots Q (F0 m (pc + 1) ls rest)) : W p l e R s m args below meth c H locs cells slots Q (F0 m pc ls (.int x :: .int i :: .ref a :: rest)) := by
  obtain ⟨n, f, h1, hin, rfl⟩ := mw_si_s hv
  refine W.cast hexec hb (hw.1.1 a _ h1).1 ((hw.2.1.1.2 t0 _ ht).1 n (fun j => .int (f j))) (fun q => by cases q) (by show ¬ (i < 0 ∨ (arrV _ _ _).slots.size ≤ _); rw [arrV_size]; exact hin) rfl rfl hdg fun H1 e z oq => ?_
  refine kk H1 _ (hw.up h1 ?_ z oq)
  show H1[a]? = some (vp_cell _ _)
  rw [e]
  rw [vp_cell_i, vp_cell_i, arrV_store]
  congr 2
  funext q
  by_cases hq : q = i.toNatClampNeg
  · subst hq
    simp [updV, upd, vp_nar]
    try rfl
  · simp [updV, upd, hq]
theorem mw_last (hexec : p.tables.exec = Jvm.exec) (hb : c.code = cc) (hw : mw_W D cl tys aos A s S H locs) (t0 : Nat) {cA : ClassId} (ht : tys[t0]? = some (cA, .long)) {i : Int32} {x : Int64} {S1 : mw_M} (hv : mw_sj S a cA i x = some S1) (hdg : decode cc pc = .ok (.lastore, 1)) (kk : ∀ (H1 : Heap) (locs1 : List Loc), mw_W D cl tys aos A s S1 H1 locs1 → W p l e R s m args below meth c H1 locs1 cells slots Q (F0 m (pc + 1) ls rest)) : W p l e R s m args below meth c H locs cells slots Q (F0 m pc ls (.long x :: .int i :: .ref a :: rest)) := by
  obtain ⟨n, f, h1, hin, rfl⟩ := mw_sj_s hv
  refine W.last hexec hb (hw.1.1 a _ h1).1 ((hw.2.1.1.2 t0 _ ht).1 n (fun j => .long (f j))) (fun q => by cases q) (by show ¬ (i < 0 ∨ (arrV _ _ _).slots.size ≤ _); rw [arrV_size]; exact hin) rfl rfl hdg fun H1 e z oq => ?_
  refine kk H1 _ (hw.up h1 ?_ z oq)
  show H1[a]? = some (vp_cell _ _)
  rw [e]
  rw [vp_cell_l, vp_cell_l, arrV_store]
  congr 2
  funext q
  by_cases hq : q = i.toNatClampNeg
  · subst hq
    simp [updV, vp_updL, vp_nar]
    try rfl
  · simp [updV, vp_updL, hq]
theorem mw_aast (hexec : p.tables.exec = Jvm.exec) (hb : c.code = cc) (hw : mw_W D cl tys aos A s S H locs) (t0 ci : Nat) {cA : ClassId} {r : vw_C} (ht : tys[t0]? = some (cA, .object r.1)) (hc : cl[ci]? = some r) {i : Int32} {v : Nat} {S1 : mw_M} (hv : mw_sq S a cA ci i v = some S1) (hdg : decode cc pc = .ok (.aastore, 1)) (kk : ∀ (H1 : Heap) (locs1 : List Loc), mw_W D cl tys aos A s S1 H1 locs1 → W p l e R s m args below meth c H1 locs1 cells slots Q (F0 m (pc + 1) ls rest)) : W p l e R s m args below meth c H locs cells slots Q (F0 m pc ls (.ref v :: .int i :: .ref a :: rest)) := by
  obtain ⟨n, f, vs, h1, hin, hv2, rfl⟩ := mw_sq_s hv
  have hlt : i.toNatClampNeg < n := Nat.not_le.mp fun q => hin (Or.inr q)
  have h0 : ¬ i < 0 := fun q => hin (Or.inl q)
  obtain ⟨r', hr', cellV, g1, g2, g3, -⟩ := (hw.1.1 v _ hv2).1
  have hcls := (hw.2.1.1.1 ci r hc).2
  obtain ⟨kA, comp, k1, k2, k3, -⟩ := (hw.2.1.1.2 t0 _ ht).2
  have hcomp : comp = D.1 ci := Option.some.inj (k3.symm.trans hcls.1)
  subst hcomp
  obtain ⟨kC, hkC, -⟩ := hcls.2
  refine W.aast hexec hb (hw.1.1 a _ h1).1 (fun q h => by cases h) (fun h => by cases h) k1 k2 rfl hkC ⟨h0, by show _ < (arrV _ _ _).slots.size; rw [arrV_size]; exact hlt⟩ g1 (fun q h => by rw [g3] at h; cases h) (by rw [g2]; exact hkC) (by rw [g2]; exact va_assign hcls) rfl rfl hdg fun H1 e z oq => ?_
  refine kk H1 _ (hw.up h1 ?_ z oq)
  show H1[a]? = some (vp_cell _ _)
  rw [e]
  rw [vp_cell_q, vp_cell_q, arrV_store]
  congr 2
  funext q
  by_cases hq : q = i.toNatClampNeg
  · subst hq
    simp [updV, va_up, va_rf]
  · simp [updV, va_up, hq]
theorem mw_newc (hexec : p.tables.exec = Jvm.exec) (hb : c.code = cc) {own C : String} {T : u_T} {N ci index : Nat} {Ts : List Cond} (hts : ∀ w ∈ Ts, w.before args s = true) (hin : ∀ w ∈ u_ws C T N, w ∈ Ts) (ty : Nat → FieldType) (hty : ∀ k, k < N → parseFieldDescriptor (T k).2.2.1 = some (ty k)) (hown : s.vm.findClass own = some m.cls) (hcl : (Cond.classLink own index C).before args s = true) (hinst : (Cond.instantiable C N).before args s = true) (hini : (Cond.initialized C).before args s = true) (hw : mw_W D cl tys aos A s S H locs) (hc : cl[ci]? = some (C, T, N)) {fs : List Value} (hfs : ∀ j, j < N → defaultValue (ty j) = vp_V fs j) (hcells : cells + 1 ≤ R.cells) (hslots : slots + N ≤ R.slots) (hdg : decode cc pc = .ok (.new index, 3)) {q : Nat} {S1 : mw_M} (hv : mw_no S ci fs = some (q, S1)) (kk : ∀ H1 : Heap, mw_W D cl tys aos A s S1 H1 locs → W p l e R s m args below meth c H1 locs (cells + 1) (slots + N) Q (F0 m (pc + 3) ls (.ref q :: rest))) : W p l e R s m args below meth c H locs cells slots Q (F0 m pc ls rest) := by
  cases hv
  have hKn := hw.2.1.1.1 ci _ hc
  refine W.newcK hexec hb hown hcl hinst hini rfl hdg hcells hslots hKn.2.1 hw.1.2 fun H1 kC hkC e1 z1 o1 => ?_
  rw [← hw.1.2] at e1 z1 o1
  exact kk H1 (hw.ad ⟨_, hc, (u_born ty hts hin hKn hkC e1 hty).to hfs⟩ z1 o1)
theorem mw_newa (hexec : p.tables.exec = Jvm.exec) (hb : c.code = cc) {atype : ArrayType} (harr : (Cond.arrayClass (newarray.typeOf atype)).before args s = true) {ty : FieldType} (hty : newarray.typeOf atype = ty) (hdf : defaultValue ty = .int 0) (hw : mw_W D cl tys aos A s S H locs) (t0 : Nat) {cA : ClassId} (ht : tys[t0]? = some (cA, ty)) (hra : va_RA s cA ty = (s.vm.findClass ("[" ++ ty.toString) = some cA)) {n : Int32} {cap q : Nat} {S1 : mw_M} (hcap : cap * componentBytes ty ≤ 536870912) (hcells : cells + 1 ≤ R.cells) (hslots : slots + cap ≤ R.slots) (hv : mw_na S cA cap n = some (q, S1)) (hdg : decode cc pc = .ok (.newarray atype, 2)) (kk : ∀ H1 : Heap, mw_W D cl tys aos A s S1 H1 locs → W p l e R s m args below meth c H1 locs (cells + 1) (slots + cap) Q (F0 m (pc + 2) ls (.ref q :: rest))) : W p l e R s m args below meth c H locs cells slots Q (F0 m pc ls (.int n :: rest)) := by
  obtain ⟨hn, hle, rfl, rfl⟩ := mw_na_s hv
  subst hty
  refine va_newaK hexec hb harr rfl hdg rfl hn rfl (Nat.le_trans (Nat.mul_le_mul_right _ hle) hcap) hcells (Nat.le_trans (Nat.add_le_add_left hle _) hslots) hw.1.2 fun H1 cB e1 z1 o1 hAr hNm => ?_
  have hcB : cB = cA := by
    have h9 := (hw.2.1.1.2 t0 _ ht).2
    rw [hra] at h9
    exact Option.some.inj (hNm.symm.trans h9)
  subst hcB
  rw [← hw.1.2] at e1 z1 o1
  refine W.widen (Nat.le_refl _) (Nat.add_le_add_left hle _) (kk H1 (hw.ad ?_ z1 o1))
  show H1[H.size]? = some (vp_cell _ _)
  rw [e1, hdf]
  rfl
theorem mw_newj (hexec : p.tables.exec = Jvm.exec) (hb : c.code = cc) {atype : ArrayType} (harr : (Cond.arrayClass (newarray.typeOf atype)).before args s = true) {ty : FieldType} (hty : newarray.typeOf atype = ty) (hdf : defaultValue ty = .long 0) (hw : mw_W D cl tys aos A s S H locs) (t0 : Nat) {cA : ClassId} (ht : tys[t0]? = some (cA, ty)) (hra : va_RA s cA ty = (s.vm.findClass ("[" ++ ty.toString) = some cA)) {n : Int32} {cap q : Nat} {S1 : mw_M} (hcap : cap * componentBytes ty ≤ 536870912) (hcells : cells + 1 ≤ R.cells) (hslots : slots + cap ≤ R.slots) (hv : mw_nj S cA cap n = some (q, S1)) (hdg : decode cc pc = .ok (.newarray atype, 2)) (kk : ∀ H1 : Heap, mw_W D cl tys aos A s S1 H1 locs → W p l e R s m args below meth c H1 locs (cells + 1) (slots + cap) Q (F0 m (pc + 2) ls (.ref q :: rest))) : W p l e R s m args below meth c H locs cells slots Q (F0 m pc ls (.int n :: rest)) := by
  obtain ⟨hn, hle, rfl, rfl⟩ := mw_nj_s hv
  subst hty
  refine va_newaK hexec hb harr rfl hdg rfl hn rfl (Nat.le_trans (Nat.mul_le_mul_right _ hle) hcap) hcells (Nat.le_trans (Nat.add_le_add_left hle _) hslots) hw.1.2 fun H1 cB e1 z1 o1 hAr hNm => ?_
  have hcB : cB = cA := by
    have h9 := (hw.2.1.1.2 t0 _ ht).2
    rw [hra] at h9
    exact Option.some.inj (hNm.symm.trans h9)
  subst hcB
  rw [← hw.1.2] at e1 z1 o1
  refine W.widen (Nat.le_refl _) (Nat.add_le_add_left hle _) (kk H1 (hw.ad ?_ z1 o1))
  show H1[H.size]? = some (vp_cell _ _)
  rw [e1, hdf]
  rfl
theorem mw_newq (hexec : p.tables.exec = Jvm.exec) (hb : c.code = cc) {own C : String} {index : Nat} (hown : s.vm.findClass own = some m.cls) (hclink : (Cond.classLink own index C).before args s = true) (hao : C ∈ aos) (hw : mw_W D cl tys aos A s S H locs) (t0 : Nat) {cA : ClassId} (ht : tys[t0]? = some (cA, .object C)) {n : Int32} {cap q : Nat} {S1 : mw_M} (hcap : cap * 4 ≤ 536870912) (hcells : cells + 1 ≤ R.cells) (hslots : slots + cap ≤ R.slots) (hv : mw_nq S cA cap n = some (q, S1)) (hdg : decode cc pc = .ok (.anewarray index, 3)) (kk : ∀ H1 : Heap, mw_W D cl tys aos A s S1 H1 locs → W p l e R s m args below meth c H1 locs (cells + 1) (slots + cap) Q (F0 m (pc + 3) ls (.ref q :: rest))) : W p l e R s m args below meth c H locs cells slots Q (F0 m pc ls (.int n :: rest)) := by
  obtain ⟨hn, hle, rfl, rfl⟩ := mw_nq_s hv
  refine W.anew hexec hb hown hclink (va_AO.use (hw.2.1.2 C hao)) rfl hdg rfl hn (Nat.le_trans (Nat.mul_le_mul_right _ hle) hcap) hcells (Nat.le_trans (Nat.add_le_add_left hle _) hslots) fun cB kA comp f1 f2 f3 f4 => ?_
  have hcB : cB = cA := by
    obtain ⟨_, _, -, -, -, h9⟩ := (hw.2.1.1.2 t0 _ ht).2
    exact Option.some.inj (f1.symm.trans h9)
  subst hcB
  generalize hH1 : H.push ({ cls := cB, slots := Array.replicate n.toNatClampNeg .null, vm := .none } : Cell) = H1
  have z1 : H1.size = H.size + 1 := by rw [← hH1, Array.size_push]
  have e1 : H1[H.size]? = some (arrV cB n.toNatClampNeg (fun _ => .null)) := by rw [← hH1, Array.getElem?_push_size, ← arrV_new]
  have o1 : ∀ q : Nat, q < H.size → H1[q]? = H[q]? := fun q hq => by rw [← hH1, Array.getElem?_push, if_neg (Nat.ne_of_lt hq)]
  refine W.widen (Nat.le_refl _) (Nat.add_le_add_left hle _) ?_
  rw [hw.1.2]
  exact kk H1 (hw.ad e1 z1 o1)
end MWR
/-! a contract's start and end, and calls -/
def mw_B (D : va_G) (cl : List vw_C) (tys : List (ClassId × FieldType)) (aos : List String) (S : mw_M) (U : State) : Prop := mw_P D cl (fun _ => True) S U.heap ∧ mw_K D cl tys aos U
def mw_E (D : va_G) (cl : List vw_C) (tys : List (ClassId × FieldType)) (aos : List String) (A : Nat → Prop) (S : mw_M) (t : State) : Prop := mw_P D cl A S t.heap ∧ mw_K D cl tys aos t
abbrev mw_Qi (D : va_G) (cl : List vw_C) (tys : List (ClassId × FieldType)) (aos : List String) (A : Nat → Prop) (z : Int32 × mw_M) : Array Value → State → Outcome → State → Prop := va_Qi (fun r (_ : Unit) => r = z.1) (fun _ t => mw_E D cl tys aos A z.2 t) A
abbrev mw_Qr (D : va_G) (cl : List vw_C) (tys : List (ClassId × FieldType)) (aos : List String) (A : Nat → Prop) (z : Nat × mw_M) : Array Value → State → Outcome → State → Prop := va_Qr (fun (_ : Unit) => True) (fun _ r t => r = z.1 ∧ mw_E D cl tys aos A z.2 t) A
abbrev mw_Qv (D : va_G) (cl : List vw_C) (tys : List (ClassId × FieldType)) (aos : List String) (A : Nat → Prop) (z : mw_M) : Array Value → State → Outcome → State → Prop := va_Qv (fun (_ : Unit) => True) (fun _ t => mw_E D cl tys aos A z t) A
theorem mw_blind (D : va_G) (cl : List vw_C) (tys : List (ClassId × FieldType)) (aos : List String) (S : mw_M) (av : List Value) : FrameBlind (va_Pc av (mw_B D cl tys aos S)) := fun a U g mk q => ⟨q.1, q.2.1, q.2.2.moved (u := U) (U := U.calling g mk a) (Vm.Alike.refl U.vm)⟩
theorem mw_begin {D : va_G} {cl : List vw_C} {tys : List (ClassId × FieldType)} {aos : List String} {S : mw_M} {s : State} (h : mw_B D cl tys aos S s) : mw_W D cl tys aos (mw_A S) s S s.heap [] := ⟨h.1.self, h.2, va_S.rf, fun q hq => Or.inr (by rw [← h.1.2]; exact hq)⟩
def mw_C (p : Program) (s : State) (m : MethodId) (args : Array Value) (meth : Method) (c : Code) (cc : ByteArray) (own : String) (ret : Option FieldType) (Ts : List Cond) (nL : Nat) : Prop := p.tables.exec = Jvm.exec ∧ c.code = cc ∧ c.maxLocals = nL ∧ s.vm.findClass own = some m.cls ∧ (∀ w ∈ Ts, w.before args s = true) ∧ meth.sig.returnType = ret ∧ meth.locks = false
section MWC
variable {p : Program} {l : Launch} {e : Env} {R : Room} {s : State} {m : MethodId} {args : Array Value} {below : List Frame} {meth : Method} {c : Code} {H : Heap} {locs : List Loc} {cells slots : Nat} {Q : State → Prop}
variable {pc : Nat} {ls : Array Slot} {rest st0 : List Value} {D : va_G} {cl : List vw_C} {A : Nat → Prop} {tys : List (ClassId × FieldType)} {aos : List String} {S S1 : mw_M} {mc ms : Nat} {av : Array Value}
theorem mw_pre (hw : mw_W D cl tys aos A s S H locs) (av : List Value) : ∀ U : State, U.heap = H → s.WarmedH U.vm → va_Pc av (mw_B D cl tys aos S) av.toArray U := fun U hU hW => ⟨rfl, by rw [hU]; exact hw.1.wk (fun _ _ => trivial), hw.2.1.moved hW.alike⟩
theorem mw_in (hw : mw_W D cl tys aos A s S H locs) : ∀ q, mw_A S q → A q := fun q h => by
  rcases h with ⟨e, h⟩ | h
  · exact (hw.1.1 q e h).2
  · exact hw.2.2.2 q (Nat.le_trans hw.2.2.1.1 (by rw [hw.1.2]; exact h))
theorem mw_back {t : State} {H1 : Heap} {locs1 : List Loc} (hw : mw_W D cl tys aos A s S H locs) (ht : t.heap = H1) (hvm : s.vm.Alike t.vm) (hB : mw_E D cl tys aos (mw_A S) S1 t) (hS : va_S A s.heap H1 locs1) : mw_W D cl tys aos A s S1 H1 locs1 := ⟨by rw [← ht]; exact hB.1.wk (mw_in hw), hB.2.moved hvm.symm, hS, hw.2.2.2⟩
theorem mw_calli {r : Int32} (hr : va_Run p l e R s m args below meth c H locs cells slots mc ms (F0 m pc ls st0) rest ((mw_Qi D cl tys aos (mw_A S) (r, S1)) av) (mw_A S)) (hw : mw_W D cl tys aos A s S H locs) (kk : ∀ (H1 : Heap) (locs1 : List Loc), mw_W D cl tys aos A s S1 H1 locs1 → W p l e R s m args below meth c H1 locs1 (cells + mc) (slots + ms) Q (F0 m (pc + 3) ls (.int r :: rest))) : W p l e R s m args below meth c H locs cells slots Q (F0 m pc ls st0) :=
  va_calli hr hw.2.2.1 (fun q _ h => mw_in hw q h) (mw_in hw) (fun r' u t H1 locs1 ht hvm hp hB hz hk hS => by cases hp; exact kk H1 locs1 (mw_back hw ht hvm hB hS))
theorem mw_callr {r : Nat} (hr : va_Run p l e R s m args below meth c H locs cells slots mc ms (F0 m pc ls st0) rest ((mw_Qr D cl tys aos (mw_A S) (r, S1)) av) (mw_A S)) (hw : mw_W D cl tys aos A s S H locs) (kk : ∀ (H1 : Heap) (locs1 : List Loc), mw_W D cl tys aos A s S1 H1 locs1 → W p l e R s m args below meth c H1 locs1 (cells + mc) (slots + ms) Q (F0 m (pc + 3) ls (.ref r :: rest))) : W p l e R s m args below meth c H locs cells slots Q (F0 m pc ls st0) :=
  va_callr hr hw.2.2.1 (fun q _ h => mw_in hw q h) (mw_in hw) (fun u r' t H1 locs1 ht hvm hp hB hz hk hS => by obtain ⟨hr, hB⟩ := hB; cases hr; exact kk H1 locs1 (mw_back hw ht hvm hB hS))
theorem mw_callv (hr : va_Run p l e R s m args below meth c H locs cells slots mc ms (F0 m pc ls st0) rest ((mw_Qv D cl tys aos (mw_A S) S1) av) (mw_A S)) (hw : mw_W D cl tys aos A s S H locs) (kk : ∀ (H1 : Heap) (locs1 : List Loc), mw_W D cl tys aos A s S1 H1 locs1 → W p l e R s m args below meth c H1 locs1 (cells + mc) (slots + ms) Q (F0 m (pc + 3) ls rest)) : W p l e R s m args below meth c H locs cells slots Q (F0 m pc ls st0) :=
  va_callv hr hw.2.2.1 (fun q _ h => mw_in hw q h) (mw_in hw) (fun u t H1 locs1 ht hvm hp hB hz hk hS => kk H1 locs1 (mw_back hw ht hvm hB hS))
theorem mw_recv {b ci : Nat} {q : vw_C} (hw : mw_W D cl tys aos A s S H locs) (hc : cl[ci]? = some q) (h : ∃ fs, S.1 b = some (.inr (ci, fs))) : ∃ cell : Cell, H[b]? = some cell ∧ cell.vm.isStatics = false ∧ s.vm.findClass q.1 = some cell.cls := by
  obtain ⟨fs, h⟩ := h
  exact va_recv hw.2.1.1 (hw.1.one h) hc (q0 := 0) rfl
theorem mw_preV {b ci : Nat} {q : vw_C} {As : List Value} (hw : mw_W D cl tys aos A s S H locs) (hc : cl[ci]? = some q) (h : ∃ fs, S.1 b = some (.inr (ci, fs))) : PreV s H q.1 b (va_Pc (.ref b :: As) (mw_B D cl tys aos S)) As := ⟨mw_blind D cl tys aos S _, mw_recv hw hc h, mw_pre hw _⟩
theorem mw_preS {As : List Value} (hw : mw_W D cl tys aos A s S H locs) : PreS s H (va_Pc As (mw_B D cl tys aos S)) As := ⟨mw_blind D cl tys aos S _, mw_pre hw _⟩
variable {cc : ByteArray} {z : Int32 × mw_M} {zr : Nat × mw_M} {zv : mw_M}
theorem mw_end {t : State} (hw : mw_W D cl tys aos A s S H locs) (ht : t.heap = H) (hW : s.WarmedH t.vm) : mw_E D cl tys aos A S t := ⟨by rw [ht]; exact hw.1, hw.2.1.moved hW.alike⟩
theorem mw_iret {v : Int32} (hexec : p.tables.exec = Jvm.exec) (hb : c.code = cc) (hr : meth.sig.returnType = some .int) (hlocks : meth.locks = false) (hw : mw_W D cl tys aos A s S H locs) (hz : some (v, S) = some z) (hdg : decode cc pc = .ok (.ireturn, 1)) : W p l e R s m args below meth c H locs cells slots (MQ below (mw_Qi D cl tys aos A z) args s cells slots A) (F0 m pc ls [.int v]) := by
  cases hz
  exact W.iret hexec hb hr (fun t ht hW => ⟨⟨v, (), rfl, rfl, mw_end hw ht hW⟩, hw.2.2.1.F ht⟩) hw.2.2.1.2.2 hdg hlocks
theorem mw_zret {v : Int32} {ty : FieldType} (hexec : p.tables.exec = Jvm.exec) (hb : c.code = cc) (hr : meth.sig.returnType = some ty) (hlocks : meth.locks = false) (hw : mw_W D cl tys aos A s S H locs) (hty : narrow ty (.int v) = .int (vp_nar ty v)) (hz : (if vp_nar ty v = v then some (v, S) else none) = some z) (hdg : decode cc pc = .ok (.ireturn, 1)) : W p l e R s m args below meth c H locs cells slots (MQ below (mw_Qi D cl tys aos A z) args s cells slots A) (F0 m pc ls [.int v]) := by
  split at hz
  · rename_i hn
    cases hz
    exact W.zret hexec hb hr (by rw [hty, hn]) (fun t ht hW => ⟨⟨v, (), rfl, rfl, mw_end hw ht hW⟩, hw.2.2.1.F ht⟩) hw.2.2.1.2.2 hdg hlocks
  · cases hz
theorem mw_vret (hexec : p.tables.exec = Jvm.exec) (hb : c.code = cc) (hr : meth.sig.returnType = none) (hlocks : meth.locks = false) (hw : mw_W D cl tys aos A s S H locs) (hz : some S = some zv) (hdg : decode cc pc = .ok (.return_, 1)) : W p l e R s m args below meth c H locs cells slots (MQ below (mw_Qv D cl tys aos A zv) args s cells slots A) (F0 m pc ls []) := by
  cases hz
  exact W.vret hexec hb hr (fun t ht hW => ⟨⟨(), rfl, trivial, mw_end hw ht hW⟩, hw.2.2.1.F ht⟩) hw.2.2.1.2.2 hdg hlocks
theorem mw_aret {v : Nat} {n : String} (hexec : p.tables.exec = Jvm.exec) (hb : c.code = cc) (hr : meth.sig.returnType = some (.object n)) (hlocks : meth.locks = false) (hw : mw_W D cl tys aos A s S H locs) (hz : some (v, S) = some zr) (hdg : decode cc pc = .ok (.areturn, 1)) : W p l e R s m args below meth c H locs cells slots (MQ below (mw_Qr D cl tys aos A zr) args s cells slots A) (F0 m pc ls [.ref v]) := by
  cases hz
  exact W.aret hexec hb hr (Or.inl ⟨_, rfl⟩) (Or.inr ⟨_, rfl⟩) (fun t ht hW => ⟨⟨(), v, rfl, trivial, rfl, mw_end hw ht hW⟩, hw.2.2.1.F ht⟩) hw.2.2.1.2.2 hdg hlocks
end MWC
end
section
/-! The reference as two functions: its int fields by slot, its arrays by their order. -/
abbrev mm_M : Type := (Nat → Int32) × (Nat → Nat → Int32)
def mm_fs (b : Nat) (I : Nat → Int32) : List Value := [.int (I 0), .int (I 1), .int (I 2), .int (I 3), .int (I 4), .int (I 5), .ref (b + 1 + 0), .int (I 7), .ref (b + 1 + 1), .ref (b + 1 + 2), .int (I 10), .ref (b + 1 + 3), .ref (b + 1 + 4), .ref (b + 1 + 5), .ref (b + 1 + 6), .ref (b + 1 + 7), .ref (b + 1 + 8), .ref (b + 1 + 9), .int (I 18), .int (I 19), .int (I 20), .ref (b + 1 + 10), .ref (b + 1 + 11), .ref (b + 1 + 12), .ref (b + 1 + 13), .ref (b + 1 + 14), .ref (b + 1 + 15), .ref (b + 1 + 16), .ref (b + 1 + 17), .int (I 29), .ref (b + 1 + 18), .ref (b + 1 + 19), .ref (b + 1 + 20), .ref (b + 1 + 21), .ref (b + 1 + 22), .ref (b + 1 + 23), .int (I 36), .ref (b + 1 + 24), .int (I 38)]
def mm_ty (k : Nat) : Nat := ([2, 0, 3, 2, 0, 0, 0, 0, 0, 0, 0, 0, 0, 0, 0, 0, 0, 0, 0, 3, 0, 0, 0, 0, 0] : List Nat).getD k 0
def mm_ln (k : Nat) : Nat := ([40, 6, 6, 192, 24, 3, 9, 420, 7, 7, 4200, 7, 7, 7, 7, 7, 3, 3, 4, 24, 24, 4, 4, 4400, 64] : List Nat).getD k 0
def mm_R (G : Nat → ClassId) (b : Nat) (S : mw_M) (M : mm_M) : Prop := S.1 b = some (.inr (9, mm_fs b M.1)) ∧ ∀ k, k < 25 → S.1 (b + 1 + k) = some (.inl (G (mm_ty k), mm_ln k, .inl (M.2 k)))
def mm_sm (b : Nat) (S0 S : mw_M) : Prop := (∀ q, (q < b ∨ b + 25 < q) → S.1 q = S0.1 q) ∧ S.2 = S0.2
def mm_A (b : Nat) (S0 : mw_M) : Nat → Prop := fun q => mw_A S0 q ∨ (b ≤ q ∧ q ≤ b + 25)
def mm_ai (M : mm_M) (k : Nat) (i : Int32) : Option Int32 := if ¬ (i < 0 ∨ mm_ln k ≤ i.toNatClampNeg) then some (M.2 k i.toNatClampNeg) else none
def mm_si (M : mm_M) (k : Nat) (i x : Int32) : Option mm_M := if ¬ (i < 0 ∨ mm_ln k ≤ i.toNatClampNeg) then some (M.1, va_up M.2 k (upd (M.2 k) i.toNatClampNeg x)) else none
def mm_pf (M : mm_M) (j : Nat) (v : Int32) : Option mm_M := some (va_up M.1 j v, M.2)
def mm_W (D : va_G) (cl : List vw_C) (tys : List (ClassId × FieldType)) (aos : List String) (s : State) (G : Nat → ClassId) (b : Nat) (S0 : mw_M) (M : mm_M) (H : Heap) (locs : List Loc) : Prop := ∃ S, mw_W D cl tys aos (mm_A b S0) s S H locs ∧ mm_R G b S M ∧ mm_sm b S0 S
def mm_B (D : va_G) (cl : List vw_C) (tys : List (ClassId × FieldType)) (aos : List String) (G : Nat → ClassId) (b : Nat) (S0 : mw_M) (M : mm_M) (U : State) : Prop := ∃ S, mw_B D cl tys aos S U ∧ mm_R G b S M ∧ mm_sm b S0 S
def mm_E (D : va_G) (cl : List vw_C) (tys : List (ClassId × FieldType)) (aos : List String) (G : Nat → ClassId) (b : Nat) (S0 : mw_M) (M : mm_M) (t : State) : Prop := ∃ S, mw_E D cl tys aos (mm_A b S0) S t ∧ mm_R G b S M ∧ mm_sm b S0 S
abbrev mm_Qi (D : va_G) (cl : List vw_C) (tys : List (ClassId × FieldType)) (aos : List String) (G : Nat → ClassId) (b : Nat) (S0 : mw_M) (z : Int32 × mm_M) : Array Value → State → Outcome → State → Prop := va_Qi (fun r (_ : Unit) => r = z.1) (fun _ t => mm_E D cl tys aos G b S0 z.2 t) (mm_A b S0)
abbrev mm_Qv (D : va_G) (cl : List vw_C) (tys : List (ClassId × FieldType)) (aos : List String) (G : Nat → ClassId) (b : Nat) (S0 : mw_M) (z : mm_M) : Array Value → State → Outcome → State → Prop := va_Qv (fun (_ : Unit) => True) (fun _ t => mm_E D cl tys aos G b S0 z t) (mm_A b S0)
theorem mm_begin {D : va_G} {cl : List vw_C} {tys : List (ClassId × FieldType)} {aos : List String} {G : Nat → ClassId} {b : Nat} {S0 : mw_M} {M : mm_M} {s : State} (h : mm_B D cl tys aos G b S0 M s) : mm_W D cl tys aos s G b S0 M s.heap [] := by
  obtain ⟨S, h1, h2, h3⟩ := h
  refine ⟨S, ⟨⟨fun a e he => ⟨(h1.1.1 a e he).1, ?_⟩, h1.1.2⟩, h1.2, va_S.rf, fun q hq => Or.inl (Or.inr (by rw [← h3.2, ← h1.1.2]; exact hq))⟩, h2, h3⟩
  by_cases hq : b ≤ a ∧ a ≤ b + 25
  · exact Or.inr hq
  · exact Or.inl (Or.inl ⟨e, by rw [← h3.1 a (by omega)]; exact he⟩)
theorem mm_blind (D : va_G) (cl : List vw_C) (tys : List (ClassId × FieldType)) (aos : List String) (G : Nat → ClassId) (b : Nat) (S0 : mw_M) (M : mm_M) (av : List Value) : FrameBlind (va_Pc av (mm_B D cl tys aos G b S0 M)) := fun a U g mk q => by
  obtain ⟨q0, S, ⟨q1, q2⟩, q3, q4⟩ := q
  exact ⟨q0, S, ⟨q1, q2.moved (u := U) (U := U.calling g mk a) (Vm.Alike.refl U.vm)⟩, q3, q4⟩
theorem mm_fs_len (b : Nat) (I : Nat → Int32) : (mm_fs b I).length = 39 := rfl
theorem mm_R.ai {G : Nat → ClassId} {b : Nat} {S : mw_M} {M : mm_M} {k : Nat} {i v : Int32} (hR : mm_R G b S M) (hk : k < 25) (h : mm_ai M k i = some v) : mw_ai S (b + 1 + k) (G (mm_ty k)) i = some v := by
  unfold mm_ai at h
  split at h
  · rename_i hc
    cases h
    unfold mw_ai
    rw [hR.2 k hk]
    exact if_pos ⟨rfl, hc⟩
  · cases h
theorem mm_R.si {G : Nat → ClassId} {b : Nat} {S S0 : mw_M} {M M1 : mm_M} {k : Nat} {i x : Int32} (hR : mm_R G b S M) (hs : mm_sm b S0 S) (hk : k < 25) (h : mm_si M k i x = some M1) : ∃ S1, mw_si S (b + 1 + k) (G (mm_ty k)) i x = some S1 ∧ mm_R G b S1 M1 ∧ mm_sm b S0 S1 := by
  unfold mm_si at h
  split at h
  · rename_i hc
    cases h
    refine ⟨mw_up S (b + 1 + k) (.inl (G (mm_ty k), mm_ln k, .inl (upd (M.2 k) i.toNatClampNeg x))), ?_, ⟨?_, fun j hj => ?_⟩, ⟨fun q hq => ?_, hs.2⟩⟩
    · unfold mw_si
      rw [hR.2 k hk]
      exact if_pos ⟨rfl, hc⟩
    · show (if b = b + 1 + k then _ else S.1 b) = _
      rw [if_neg (by omega)]
      exact hR.1
    · show (if b + 1 + j = b + 1 + k then _ else S.1 (b + 1 + j)) = _
      by_cases hjk : j = k
      · subst hjk
        rw [if_pos rfl]
        show _ = some (Sum.inl (G (mm_ty j), mm_ln j, Sum.inl (va_up M.2 j (upd (M.2 j) i.toNatClampNeg x) j)))
        rw [va_up_self]
      · rw [if_neg (by omega), hR.2 j hj]
        show _ = some (Sum.inl (G (mm_ty j), mm_ln j, Sum.inl (va_up M.2 k (upd (M.2 k) i.toNatClampNeg x) j)))
        rw [va_up_ne _ _ hjk]
    · show (if q = b + 1 + k then _ else S.1 q) = _
      rw [if_neg (by omega)]
      exact hs.1 q hq
  · cases h
theorem mm_R.pf {G : Nat → ClassId} {b : Nat} {S S0 : mw_M} {M M1 : mm_M} {j : Nat} {v : Int32} (hR : mm_R G b S M) (hs : mm_sm b S0 S) (hj : j < 39) (hset : ∀ (b : Nat) (I : Nat → Int32), (mm_fs b I).set j (.int v) = mm_fs b (va_up I j v)) (h : mm_pf M j v = some M1) : ∃ S1, mw_pf S b 9 j (.int v) = some S1 ∧ mm_R G b S1 M1 ∧ mm_sm b S0 S1 := by
  cases h
  refine ⟨mw_up S b (.inr (9, (mm_fs b M.1).set j (.int v))), ?_, ⟨?_, fun k hk => ?_⟩, ⟨fun q hq => ?_, hs.2⟩⟩
  · unfold mw_pf
    rw [hR.1]
    exact if_pos ⟨rfl, by rw [mm_fs_len]; exact hj⟩
  · show (if b = b then _ else S.1 b) = _
    rw [if_pos rfl, hset]
  · show (if b + 1 + k = b then _ else S.1 (b + 1 + k)) = _
    rw [if_neg (by omega)]
    exact hR.2 k hk
  · show (if q = b then _ else S.1 q) = _
    rw [if_neg (by omega)]
    exact hs.1 q hq
theorem mm_st0 (v : Int32) : ∀ (b : Nat) (I : Nat → Int32), (mm_fs b I).set 0 (.int v) = mm_fs b (va_up I 0 v) := fun _ _ => rfl
theorem mm_st1 (v : Int32) : ∀ (b : Nat) (I : Nat → Int32), (mm_fs b I).set 1 (.int v) = mm_fs b (va_up I 1 v) := fun _ _ => rfl
theorem mm_st2 (v : Int32) : ∀ (b : Nat) (I : Nat → Int32), (mm_fs b I).set 2 (.int v) = mm_fs b (va_up I 2 v) := fun _ _ => rfl
theorem mm_st3 (v : Int32) : ∀ (b : Nat) (I : Nat → Int32), (mm_fs b I).set 3 (.int v) = mm_fs b (va_up I 3 v) := fun _ _ => rfl
theorem mm_st4 (v : Int32) : ∀ (b : Nat) (I : Nat → Int32), (mm_fs b I).set 4 (.int v) = mm_fs b (va_up I 4 v) := fun _ _ => rfl
theorem mm_st5 (v : Int32) : ∀ (b : Nat) (I : Nat → Int32), (mm_fs b I).set 5 (.int v) = mm_fs b (va_up I 5 v) := fun _ _ => rfl
theorem mm_st7 (v : Int32) : ∀ (b : Nat) (I : Nat → Int32), (mm_fs b I).set 7 (.int v) = mm_fs b (va_up I 7 v) := fun _ _ => rfl
theorem mm_st10 (v : Int32) : ∀ (b : Nat) (I : Nat → Int32), (mm_fs b I).set 10 (.int v) = mm_fs b (va_up I 10 v) := fun _ _ => rfl
theorem mm_st18 (v : Int32) : ∀ (b : Nat) (I : Nat → Int32), (mm_fs b I).set 18 (.int v) = mm_fs b (va_up I 18 v) := fun _ _ => rfl
theorem mm_st19 (v : Int32) : ∀ (b : Nat) (I : Nat → Int32), (mm_fs b I).set 19 (.int v) = mm_fs b (va_up I 19 v) := fun _ _ => rfl
theorem mm_st20 (v : Int32) : ∀ (b : Nat) (I : Nat → Int32), (mm_fs b I).set 20 (.int v) = mm_fs b (va_up I 20 v) := fun _ _ => rfl
theorem mm_st29 (v : Int32) : ∀ (b : Nat) (I : Nat → Int32), (mm_fs b I).set 29 (.int v) = mm_fs b (va_up I 29 v) := fun _ _ => rfl
theorem mm_st36 (v : Int32) : ∀ (b : Nat) (I : Nat → Int32), (mm_fs b I).set 36 (.int v) = mm_fs b (va_up I 36 v) := fun _ _ => rfl
theorem mm_st38 (v : Int32) : ∀ (b : Nat) (I : Nat → Int32), (mm_fs b I).set 38 (.int v) = mm_fs b (va_up I 38 v) := fun _ _ => rfl
section MMR
variable {p : Program} {l : Launch} {e : Env} {R : Room} {s : State} {m : MethodId} {args : Array Value} {below : List Frame} {meth : Method} {c : Code} {H : Heap} {locs : List Loc} {cells slots : Nat} {Q : State → Prop}
variable {cc : ByteArray} {pc : Nat} {ls : Array Slot} {rest st0 : List Value} {D : va_G} {cl : List vw_C} {tys : List (ClassId × FieldType)} {aos : List String} {G : Nat → ClassId} {b : Nat} {S0 : mw_M} {M M1 : mm_M} {mc ms : Nat} {av : Array Value}
theorem mm_geti (hexec : p.tables.exec = Jvm.exec) (hb : c.code = cc) {own ref C : String} {T : u_T} {N index : Nat} {Ts : List Cond} (hts : ∀ w ∈ Ts, w.before args s = true) (hin : ∀ w ∈ u_ws C T N, w ∈ Ts) (hown : s.vm.findClass own = some m.cls) (hw : mm_W D cl tys aos s G b S0 M H locs) (hc : cl[9]? = some (C, T, N)) (k : Nat) (hk : k < N) (hlink : (Cond.fieldLink own index ref (T k).2.1 (T k).2.2.1).before args s = true) (hsame : (T k).1 = ref) (hj : ∀ (b : Nat) (I : Nat → Int32), (mm_fs b I)[k]? = some (.int (I k))) (hdg : decode cc pc = .ok (.getfield index, 3)) (kk : W p l e R s m args below meth c H locs cells slots Q (F0 m (pc + 3) ls (.int (M.1 k) :: rest))) : W p l e R s m args below meth c H locs cells slots Q (F0 m pc ls (.ref b :: rest)) := by
  obtain ⟨S, hw, hR, -⟩ := hw
  refine mw_get hexec hb hts hin hown hw hc k hk hlink hsame ?_ hdg kk
  unfold mw_gv
  rw [hR.1]
  exact (if_pos rfl).trans (hj b M.1)
theorem mm_getr (hexec : p.tables.exec = Jvm.exec) (hb : c.code = cc) {own ref C : String} {T : u_T} {N index : Nat} {Ts : List Cond} (hts : ∀ w ∈ Ts, w.before args s = true) (hin : ∀ w ∈ u_ws C T N, w ∈ Ts) (hown : s.vm.findClass own = some m.cls) (hw : mm_W D cl tys aos s G b S0 M H locs) (hc : cl[9]? = some (C, T, N)) (k : Nat) (hk : k < N) (hlink : (Cond.fieldLink own index ref (T k).2.1 (T k).2.2.1).before args s = true) (hsame : (T k).1 = ref) (r : Nat) (hj : ∀ (b : Nat) (I : Nat → Int32), (mm_fs b I)[k]? = some (.ref (b + 1 + r))) (hdg : decode cc pc = .ok (.getfield index, 3)) (kk : W p l e R s m args below meth c H locs cells slots Q (F0 m (pc + 3) ls (.ref (b + 1 + r) :: rest))) : W p l e R s m args below meth c H locs cells slots Q (F0 m pc ls (.ref b :: rest)) := by
  obtain ⟨S, hw, hR, -⟩ := hw
  refine mw_get hexec hb hts hin hown hw hc k hk hlink hsame ?_ hdg kk
  unfold mw_gv
  rw [hR.1]
  exact (if_pos rfl).trans (hj b M.1)
theorem mm_put (hexec : p.tables.exec = Jvm.exec) (hb : c.code = cc) {own ref C : String} {T : u_T} {N index : Nat} {Ts : List Cond} (hts : ∀ w ∈ Ts, w.before args s = true) (hin : ∀ w ∈ u_ws C T N, w ∈ Ts) (ty0 : Nat → FieldType) (hty : ∀ k, k < N → parseFieldDescriptor (T k).2.2.1 = some (ty0 k)) (hnm : ∀ a, a < N → ∀ b, b < N → a ≠ b → (T a).2.1 ≠ (T b).2.1) (hown : s.vm.findClass own = some m.cls) (hw : mm_W D cl tys aos s G b S0 M H locs) (hc : cl[9]? = some (C, T, N)) (k : Nat) (hk : k < N) (hlink : (Cond.fieldLink own index ref (T k).2.1 (T k).2.2.1).before args s = true) (hsame : (T k).1 = ref) (hfin : (T k).2.2.2 = false) {v : Int32} (hd : parseFieldDescriptor (T k).2.2.1 = some .int) (hkl : k < 39) (hset : ∀ (b : Nat) (I : Nat → Int32), (mm_fs b I).set k (.int v) = mm_fs b (va_up I k v)) (hv : mm_pf M k v = some M1) (hdg : decode cc pc = .ok (.putfield index, 3)) (kk : ∀ (H1 : Heap) (locs1 : List Loc), mm_W D cl tys aos s G b S0 M1 H1 locs1 → W p l e R s m args below meth c H1 locs1 cells slots Q (F0 m (pc + 3) ls rest)) : W p l e R s m args below meth c H locs cells slots Q (F0 m pc ls (.int v :: .ref b :: rest)) := by
  obtain ⟨S, hw, hR, hs⟩ := hw
  obtain ⟨S1, h1, h2, h3⟩ := hR.pf hs hkl hset hv
  exact mw_put hexec hb hts hin ty0 hty hnm hown hw hc k hk hlink hsame hfin hd rfl rfl h1 hdg (fun H1 locs1 hw1 => kk H1 locs1 ⟨S1, hw1, h2, h3⟩)
theorem mm_iald (hexec : p.tables.exec = Jvm.exec) (hb : c.code = cc) (hw : mm_W D cl tys aos s G b S0 M H locs) (k : Nat) (hk : k < 25) (t0 : Nat) (ht : tys[t0]? = some (G (mm_ty k), .int)) {i v : Int32} (hv : mm_ai M k i = some v) (hdg : decode cc pc = .ok (.iaload, 1)) (kk : W p l e R s m args below meth c H locs cells slots Q (F0 m (pc + 1) ls (.int v :: rest))) : W p l e R s m args below meth c H locs cells slots Q (F0 m pc ls (.int i :: .ref (b + 1 + k) :: rest)) := by
  obtain ⟨S, hw, hR, -⟩ := hw
  exact mw_iald hexec hb hw t0 ht (hR.ai hk hv) hdg kk
theorem mm_zald (hexec : p.tables.exec = Jvm.exec) (hb : c.code = cc) (hw : mm_W D cl tys aos s G b S0 M H locs) (k : Nat) (hk : k < 25) (t0 : Nat) (ht : tys[t0]? = some (G (mm_ty k), .boolean)) {i v : Int32} (hv : mm_ai M k i = some v) (hdg : decode cc pc = .ok (.baload, 1)) (kk : W p l e R s m args below meth c H locs cells slots Q (F0 m (pc + 1) ls (.int v :: rest))) : W p l e R s m args below meth c H locs cells slots Q (F0 m pc ls (.int i :: .ref (b + 1 + k) :: rest)) := by
  obtain ⟨S, hw, hR, -⟩ := hw
  exact mw_zald hexec hb hw t0 ht (hR.ai hk hv) hdg kk
theorem mm_cald (hexec : p.tables.exec = Jvm.exec) (hb : c.code = cc) (hw : mm_W D cl tys aos s G b S0 M H locs) (k : Nat) (hk : k < 25) (t0 : Nat) (ht : tys[t0]? = some (G (mm_ty k), .char)) {i v : Int32} (hv : mm_ai M k i = some v) (hdg : decode cc pc = .ok (.caload, 1)) (kk : W p l e R s m args below meth c H locs cells slots Q (F0 m (pc + 1) ls (.int v :: rest))) : W p l e R s m args below meth c H locs cells slots Q (F0 m pc ls (.int i :: .ref (b + 1 + k) :: rest)) := by
  obtain ⟨S, hw, hR, -⟩ := hw
  exact mw_cald hexec hb hw t0 ht (hR.ai hk hv) hdg kk
theorem mm_iast (hexec : p.tables.exec = Jvm.exec) (hb : c.code = cc) (hw : mm_W D cl tys aos s G b S0 M H locs) (k : Nat) (hk : k < 25) (t0 : Nat) (ht : tys[t0]? = some (G (mm_ty k), .int)) {i x : Int32} (hv : mm_si M k i x = some M1) (hdg : decode cc pc = .ok (.iastore, 1)) (kk : ∀ (H1 : Heap) (locs1 : List Loc), mm_W D cl tys aos s G b S0 M1 H1 locs1 → W p l e R s m args below meth c H1 locs1 cells slots Q (F0 m (pc + 1) ls rest)) : W p l e R s m args below meth c H locs cells slots Q (F0 m pc ls (.int x :: .int i :: .ref (b + 1 + k) :: rest)) := by
  obtain ⟨S, hw, hR, hs⟩ := hw
  obtain ⟨S1, h1, h2, h3⟩ := hR.si hs hk hv
  exact mw_iast hexec hb hw t0 ht h1 hdg (fun H1 locs1 hw1 => kk H1 locs1 ⟨S1, hw1, h2, h3⟩)
theorem mm_zast (hexec : p.tables.exec = Jvm.exec) (hb : c.code = cc) (hw : mm_W D cl tys aos s G b S0 M H locs) (k : Nat) (hk : k < 25) (t0 : Nat) (ht : tys[t0]? = some (G (mm_ty k), .boolean)) {i x : Int32} (hv : mm_si M k i (vp_nar .boolean x) = some M1) (hdg : decode cc pc = .ok (.bastore, 1)) (kk : ∀ (H1 : Heap) (locs1 : List Loc), mm_W D cl tys aos s G b S0 M1 H1 locs1 → W p l e R s m args below meth c H1 locs1 cells slots Q (F0 m (pc + 1) ls rest)) : W p l e R s m args below meth c H locs cells slots Q (F0 m pc ls (.int x :: .int i :: .ref (b + 1 + k) :: rest)) := by
  obtain ⟨S, hw, hR, hs⟩ := hw
  obtain ⟨S1, h1, h2, h3⟩ := hR.si hs hk hv
  exact mw_zast hexec hb hw t0 ht h1 hdg (fun H1 locs1 hw1 => kk H1 locs1 ⟨S1, hw1, h2, h3⟩)
theorem mm_cast (hexec : p.tables.exec = Jvm.exec) (hb : c.code = cc) (hw : mm_W D cl tys aos s G b S0 M H locs) (k : Nat) (hk : k < 25) (t0 : Nat) (ht : tys[t0]? = some (G (mm_ty k), .char)) {i x : Int32} (hv : mm_si M k i (vp_nar .char x) = some M1) (hdg : decode cc pc = .ok (.castore, 1)) (kk : ∀ (H1 : Heap) (locs1 : List Loc), mm_W D cl tys aos s G b S0 M1 H1 locs1 → W p l e R s m args below meth c H1 locs1 cells slots Q (F0 m (pc + 1) ls rest)) : W p l e R s m args below meth c H locs cells slots Q (F0 m pc ls (.int x :: .int i :: .ref (b + 1 + k) :: rest)) := by
  obtain ⟨S, hw, hR, hs⟩ := hw
  obtain ⟨S1, h1, h2, h3⟩ := hR.si hs hk hv
  exact mw_cast hexec hb hw t0 ht h1 hdg (fun H1 locs1 hw1 => kk H1 locs1 ⟨S1, hw1, h2, h3⟩)
theorem mm_pre (hw : mm_W D cl tys aos s G b S0 M H locs) (av : List Value) : ∀ U : State, U.heap = H → s.WarmedH U.vm → va_Pc av (mm_B D cl tys aos G b S0 M) av.toArray U := fun U hU hW => by
  obtain ⟨S, hw, hR, hs⟩ := hw
  exact ⟨rfl, S, ⟨by rw [hU]; exact hw.1.wk (fun _ _ => trivial), hw.2.1.moved hW.alike⟩, hR, hs⟩
theorem mm_back {t : State} {H1 : Heap} {locs1 : List Loc} (hw : mm_W D cl tys aos s G b S0 M H locs) (ht : t.heap = H1) (hvm : s.vm.Alike t.vm) (hB : mm_E D cl tys aos G b S0 M1 t) (hS : va_S (mm_A b S0) s.heap H1 locs1) : mm_W D cl tys aos s G b S0 M1 H1 locs1 := by
  obtain ⟨S1, hE, hR, hs⟩ := hB
  obtain ⟨S, hw, -, -⟩ := hw
  exact ⟨S1, ⟨by rw [← ht]; exact hE.1, hE.2.moved hvm.symm, hS, hw.2.2.2⟩, hR, hs⟩
theorem mm_preV {q : vw_C} {As : List Value} (hw : mm_W D cl tys aos s G b S0 M H locs) (hc : cl[9]? = some q) : PreV s H q.1 b (va_Pc (.ref b :: As) (mm_B D cl tys aos G b S0 M)) As := ⟨mm_blind D cl tys aos G b S0 M _, by obtain ⟨S, hw, hR, -⟩ := hw; exact mw_recv hw hc ⟨_, hR.1⟩, mm_pre hw _⟩
theorem mm_preS {As : List Value} (hw : mm_W D cl tys aos s G b S0 M H locs) : PreS s H (va_Pc As (mm_B D cl tys aos G b S0 M)) As := ⟨mm_blind D cl tys aos G b S0 M _, mm_pre hw _⟩
theorem mm_calli {r : Int32} (hr : va_Run p l e R s m args below meth c H locs cells slots mc ms (F0 m pc ls st0) rest ((mm_Qi D cl tys aos G b S0 (r, M1)) av) (mm_A b S0)) (hw : mm_W D cl tys aos s G b S0 M H locs) (kk : ∀ (H1 : Heap) (locs1 : List Loc), mm_W D cl tys aos s G b S0 M1 H1 locs1 → W p l e R s m args below meth c H1 locs1 (cells + mc) (slots + ms) Q (F0 m (pc + 3) ls (.int r :: rest))) : W p l e R s m args below meth c H locs cells slots Q (F0 m pc ls st0) := by
  have hS : va_S (mm_A b S0) s.heap H locs := by obtain ⟨S, hw, -, -⟩ := hw; exact hw.2.2.1
  exact va_calli hr hS (fun q _ h => h) (fun q h => h) (fun r' u t H1 locs1 ht hvm hp hB hz hk hS => by cases hp; exact kk H1 locs1 (mm_back hw ht hvm hB hS))
theorem mm_callv (hr : va_Run p l e R s m args below meth c H locs cells slots mc ms (F0 m pc ls st0) rest ((mm_Qv D cl tys aos G b S0 M1) av) (mm_A b S0)) (hw : mm_W D cl tys aos s G b S0 M H locs) (kk : ∀ (H1 : Heap) (locs1 : List Loc), mm_W D cl tys aos s G b S0 M1 H1 locs1 → W p l e R s m args below meth c H1 locs1 (cells + mc) (slots + ms) Q (F0 m (pc + 3) ls rest)) : W p l e R s m args below meth c H locs cells slots Q (F0 m pc ls st0) := by
  have hS : va_S (mm_A b S0) s.heap H locs := by obtain ⟨S, hw, -, -⟩ := hw; exact hw.2.2.1
  exact va_callv hr hS (fun q _ h => h) (fun q h => h) (fun u t H1 locs1 ht hvm hp hB hz hk hS => kk H1 locs1 (mm_back hw ht hvm hB hS))
variable {z : Int32 × mm_M} {zv : mm_M}
theorem mm_end {t : State} (hw : mm_W D cl tys aos s G b S0 M H locs) (ht : t.heap = H) (hW : s.WarmedH t.vm) : mm_E D cl tys aos G b S0 M t := by
  obtain ⟨S, hw, hR, hs⟩ := hw
  exact ⟨S, mw_end hw ht hW, hR, hs⟩
theorem mm_S (hw : mm_W D cl tys aos s G b S0 M H locs) : va_S (mm_A b S0) s.heap H locs := by
  obtain ⟨S, hw, -, -⟩ := hw
  exact hw.2.2.1
theorem mm_iret {v : Int32} (hexec : p.tables.exec = Jvm.exec) (hb : c.code = cc) (hr : meth.sig.returnType = some .int) (hlocks : meth.locks = false) (hw : mm_W D cl tys aos s G b S0 M H locs) (hz : some (v, M) = some z) (hdg : decode cc pc = .ok (.ireturn, 1)) : W p l e R s m args below meth c H locs cells slots (MQ below (mm_Qi D cl tys aos G b S0 z) args s cells slots (mm_A b S0)) (F0 m pc ls [.int v]) := by
  cases hz
  exact W.iret hexec hb hr (fun t ht hW => ⟨⟨v, (), rfl, rfl, mm_end hw ht hW⟩, (mm_S hw).F ht⟩) (mm_S hw).2.2 hdg hlocks
theorem mm_zret {v : Int32} {ty : FieldType} (hexec : p.tables.exec = Jvm.exec) (hb : c.code = cc) (hr : meth.sig.returnType = some ty) (hlocks : meth.locks = false) (hw : mm_W D cl tys aos s G b S0 M H locs) (hty : narrow ty (.int v) = .int (vp_nar ty v)) (hz : (if vp_nar ty v = v then some (v, M) else none) = some z) (hdg : decode cc pc = .ok (.ireturn, 1)) : W p l e R s m args below meth c H locs cells slots (MQ below (mm_Qi D cl tys aos G b S0 z) args s cells slots (mm_A b S0)) (F0 m pc ls [.int v]) := by
  split at hz
  · rename_i hn
    cases hz
    exact W.zret hexec hb hr (by rw [hty, hn]) (fun t ht hW => ⟨⟨v, (), rfl, rfl, mm_end hw ht hW⟩, (mm_S hw).F ht⟩) (mm_S hw).2.2 hdg hlocks
  · cases hz
theorem mm_vret (hexec : p.tables.exec = Jvm.exec) (hb : c.code = cc) (hr : meth.sig.returnType = none) (hlocks : meth.locks = false) (hw : mm_W D cl tys aos s G b S0 M H locs) (hz : some M = some zv) (hdg : decode cc pc = .ok (.return_, 1)) : W p l e R s m args below meth c H locs cells slots (MQ below (mm_Qv D cl tys aos G b S0 zv) args s cells slots (mm_A b S0)) (F0 m pc ls []) := by
  cases hz
  exact W.vret hexec hb hr (fun t ht hW => ⟨⟨(), rfl, trivial, mm_end hw ht hW⟩, (mm_S hw).F ht⟩) (mm_S hw).2.2 hdg hlocks
end MMR
def mw_tys (G : Nat → ClassId) : List (ClassId × FieldType) := [(G 0, .int), (G 1, .byte), (G 2, .char), (G 3, .boolean), (G 4, .object "EventRecorder$EventThread"), (G 5, .object "EventRecorder$Recording"), (G 6, .object "EventRecorder$ByteRow"), (G 7, .object "EventRecorder$Chunk"), (G 8, .long)]
def mw_aos : List String := ["EventRecorder$EventThread", "EventRecorder$Recording", "EventRecorder$ByteRow", "EventRecorder$Chunk"]
set_option maxRecDepth 100000 in
theorem mw_blX0 : ∀ j, j < 2 → defaultValue (tyX0 j) = vp_V [.null, .int 0] j := fun j hj => by
  rcases (show j = 0 ∨ j = 1 by omega) with rfl | rfl <;> rfl
set_option maxRecDepth 100000 in
theorem mw_blX1 : ∀ j, j < 5 → defaultValue (tyX1 j) = vp_V [.null, .null, .int 0, .int 0, .int 0] j := fun j hj => by
  rcases (show j = 0 ∨ j = 1 ∨ j = 2 ∨ j = 3 ∨ j = 4 by omega) with rfl | rfl | rfl | rfl | rfl <;> rfl
set_option maxRecDepth 100000 in
theorem mw_blX2 : ∀ j, j < 3 → defaultValue (tyX2 j) = vp_V [.null, .int 0, .int 0] j := fun j hj => by
  rcases (show j = 0 ∨ j = 1 ∨ j = 2 by omega) with rfl | rfl | rfl <;> rfl
set_option maxRecDepth 100000 in
theorem mw_blX3 : ∀ j, j < 5 → defaultValue (tyX3 j) = vp_V [.null, .null, .int 0, .int 0, .int 0] j := fun j hj => by
  rcases (show j = 0 ∨ j = 1 ∨ j = 2 ∨ j = 3 ∨ j = 4 by omega) with rfl | rfl | rfl | rfl | rfl <;> rfl
set_option maxRecDepth 100000 in
theorem mw_blX4 : ∀ j, j < 3 → defaultValue (tyX4 j) = vp_V [.null, .int 0, .int 0] j := fun j hj => by
  rcases (show j = 0 ∨ j = 1 ∨ j = 2 by omega) with rfl | rfl | rfl <;> rfl
set_option maxRecDepth 100000 in
theorem mw_blX5 : ∀ j, j < 5 → defaultValue (tyX5 j) = vp_V [.null, .null, .int 0, .int 0, .int 0] j := fun j hj => by
  rcases (show j = 0 ∨ j = 1 ∨ j = 2 ∨ j = 3 ∨ j = 4 by omega) with rfl | rfl | rfl | rfl | rfl <;> rfl
set_option maxRecDepth 100000 in
theorem mw_blX6 : ∀ j, j < 3 → defaultValue (tyX6 j) = vp_V [.null, .null, .int 0] j := fun j hj => by
  rcases (show j = 0 ∨ j = 1 ∨ j = 2 by omega) with rfl | rfl | rfl <;> rfl
set_option maxRecDepth 100000 in
theorem mw_blX7 : ∀ j, j < 2 → defaultValue (tyX7 j) = vp_V [.null, .int 0] j := fun j hj => by
  rcases (show j = 0 ∨ j = 1 by omega) with rfl | rfl <;> rfl
set_option maxRecDepth 100000 in
theorem mw_blX8 : ∀ j, j < 14 → defaultValue (tyX8 j) = vp_V [.int 0, .null, .null, .null, .null, .null, .int 0, .null, .int 0, .null, .null, .null, .null, .int 0] j := fun j hj => by
  rcases (show j = 0 ∨ j = 1 ∨ j = 2 ∨ j = 3 ∨ j = 4 ∨ j = 5 ∨ j = 6 ∨ j = 7 ∨ j = 8 ∨ j = 9 ∨ j = 10 ∨ j = 11 ∨ j = 12 ∨ j = 13 by omega) with rfl | rfl | rfl | rfl | rfl | rfl | rfl | rfl | rfl | rfl | rfl | rfl | rfl | rfl <;> rfl
set_option maxRecDepth 100000 in
theorem mw_blX9 : ∀ j, j < 39 → defaultValue (tyX9 j) = vp_V [.int 0, .int 0, .int 0, .int 0, .int 0, .int 0, .null, .int 0, .null, .null, .int 0, .null, .null, .null, .null, .null, .null, .null, .int 0, .int 0, .int 0, .null, .null, .null, .null, .null, .null, .null, .null, .int 0, .null, .null, .null, .null, .null, .null, .int 0, .null, .int 0] j := fun j hj => by
  rcases (show j = 0 ∨ j = 1 ∨ j = 2 ∨ j = 3 ∨ j = 4 ∨ j = 5 ∨ j = 6 ∨ j = 7 ∨ j = 8 ∨ j = 9 ∨ j = 10 ∨ j = 11 ∨ j = 12 ∨ j = 13 ∨ j = 14 ∨ j = 15 ∨ j = 16 ∨ j = 17 ∨ j = 18 ∨ j = 19 ∨ j = 20 ∨ j = 21 ∨ j = 22 ∨ j = 23 ∨ j = 24 ∨ j = 25 ∨ j = 26 ∨ j = 27 ∨ j = 28 ∨ j = 29 ∨ j = 30 ∨ j = 31 ∨ j = 32 ∨ j = 33 ∨ j = 34 ∨ j = 35 ∨ j = 36 ∨ j = 37 ∨ j = 38 by omega) with rfl | rfl | rfl | rfl | rfl | rfl | rfl | rfl | rfl | rfl | rfl | rfl | rfl | rfl | rfl | rfl | rfl | rfl | rfl | rfl | rfl | rfl | rfl | rfl | rfl | rfl | rfl | rfl | rfl | rfl | rfl | rfl | rfl | rfl | rfl | rfl | rfl | rfl | rfl <;> rfl
theorem mw_tout5 {x : Int32} (h0 : ¬ x = 0) (h1 : ¬ x = 1) (h2 : ¬ x = 2) (h3 : ¬ x = 3) (h4 : ¬ x = 4) (h5 : ¬ x = 5) : x.toInt < 0 ∨ (5 : Int) < x.toInt := by
  have k : ∀ y : Int32, ¬ x = y → x.toInt ≠ y.toInt := fun y h q => h (Int32.toInt_inj.mp q)
  have k0 : x.toInt ≠ 0 := k 0 h0
  have k1 : x.toInt ≠ 1 := k 1 h1
  have k2 : x.toInt ≠ 2 := k 2 h2
  have k3 : x.toInt ≠ 3 := k 3 h3
  have k4 : x.toInt ≠ 4 := k 4 h4
  have k5 : x.toInt ≠ 5 := k 5 h5
  omega
theorem mw_tout18 {x : Int32} (h0 : ¬ x = 0) (h1 : ¬ x = 1) (h2 : ¬ x = 2) (h3 : ¬ x = 3) (h4 : ¬ x = 4) (h5 : ¬ x = 5) (h6 : ¬ x = 6) (h7 : ¬ x = 7) (h8 : ¬ x = 8) (h9 : ¬ x = 9) (h10 : ¬ x = 10) (h11 : ¬ x = 11) (h12 : ¬ x = 12) (h13 : ¬ x = 13) (h14 : ¬ x = 14) (h15 : ¬ x = 15) (h16 : ¬ x = 16) (h17 : ¬ x = 17) (h18 : ¬ x = 18) : x.toInt < 0 ∨ (18 : Int) < x.toInt := by
  have k : ∀ y : Int32, ¬ x = y → x.toInt ≠ y.toInt := fun y h q => h (Int32.toInt_inj.mp q)
  have k0 : x.toInt ≠ 0 := k 0 h0
  have k1 : x.toInt ≠ 1 := k 1 h1
  have k2 : x.toInt ≠ 2 := k 2 h2
  have k3 : x.toInt ≠ 3 := k 3 h3
  have k4 : x.toInt ≠ 4 := k 4 h4
  have k5 : x.toInt ≠ 5 := k 5 h5
  have k6 : x.toInt ≠ 6 := k 6 h6
  have k7 : x.toInt ≠ 7 := k 7 h7
  have k8 : x.toInt ≠ 8 := k 8 h8
  have k9 : x.toInt ≠ 9 := k 9 h9
  have k10 : x.toInt ≠ 10 := k 10 h10
  have k11 : x.toInt ≠ 11 := k 11 h11
  have k12 : x.toInt ≠ 12 := k 12 h12
  have k13 : x.toInt ≠ 13 := k 13 h13
  have k14 : x.toInt ≠ 14 := k 14 h14
  have k15 : x.toInt ≠ 15 := k 15 h15
  have k16 : x.toInt ≠ 16 := k 16 h16
  have k17 : x.toInt ≠ 17 := k 17 h17
  have k18 : x.toInt ≠ 18 := k 18 h18
  omega
end
section
def pf_X7_init (G : Nat → ClassId) (N : Nat) (S : mw_M) (h0 : Nat) : Option (mw_M) :=
  mw_b2 (mw_na S (G 2) 40 40) fun v1 S1 =>
  (mw_pf S1 h0 7 0 (.ref v1)).bind fun S2 =>
  some S2
def pf_X6_init (G : Nat → ClassId) (N : Nat) (S : mw_M) (h0 : Nat) : Option (mw_M) :=
  mw_b2 (mw_na S (G 2) 192 192) fun v1 S1 =>
  (mw_pf S1 h0 6 0 (.ref v1)).bind fun S2 =>
  mw_b2 (mw_na S2 (G 0) 24 24) fun v3 S3 =>
  (mw_pf S3 h0 6 1 (.ref v3)).bind fun S4 =>
  some S4
def pf_X0_init (G : Nat → ClassId) (N : Nat) (S : mw_M) (h0 : Nat) (x1 : Int32) : Option (mw_M) :=
  mw_b2 (mw_na S (G 1) 5000 x1) fun v1 S1 =>
  (mw_pf S1 h0 0 0 (.ref v1)).bind fun S2 =>
  some S2
def pf_X3_init (G : Nat → ClassId) (N : Nat) (S : mw_M) (h0 : Nat) (x1 : Int32) : Option (mw_M) :=
  mw_b2 (mw_na S (G 0) 3 3) fun v1 S1 =>
  (mw_pf S1 h0 3 0 (.ref v1)).bind fun S2 =>
  mw_b2 (mw_no S2 0 [.null, .int 0]) fun v3 S3 =>
  (pf_X0_init G N S3 v3 x1).bind fun S4 =>
  (mw_pf S4 h0 3 1 (.ref v3)).bind fun S5 =>
  some S5
def pf_X5_init (G : Nat → ClassId) (N : Nat) (S : mw_M) (h0 : Nat) : Option (mw_M) :=
  mw_b2 (mw_na S (G 3) 6 6) fun v1 S1 =>
  (mw_pf S1 h0 5 0 (.ref v1)).bind fun S2 =>
  mw_b2 (mw_na S2 (G 0) 6 6) fun v3 S3 =>
  (mw_pf S3 h0 5 1 (.ref v3)).bind fun S4 =>
  (mw_pf S4 h0 5 2 (.int 0)).bind fun S5 =>
  (mw_pf S5 h0 5 4 (.int 2147483647)).bind fun S6 =>
  some S6
def pf_X4_init_14 (G : Nat → ClassId) (N : Nat) : Nat → Nat → Int32 → Int32 → Int32 → mw_M → Option (mw_M)
  | 0, _, _, _, _, _ => none
  | n + 1, y0, y1, y2, y3, S =>
    if y1 ≤ y3 then
      some S
    else
      (mw_gr S y0 4 0).bind fun v1 =>
      mw_b2 (mw_no S 0 [.null, .int 0]) fun v2 S2 =>
      (pf_X0_init G N S2 v2 y2).bind fun S3 =>
      (mw_sq S3 v1 (G 6) 0 y3 v2).bind fun S4 =>
      pf_X4_init_14 G N n y0 y1 y2 (y3 + 1) S4
def pf_X4_init (G : Nat → ClassId) (N : Nat) (S : mw_M) (h0 : Nat) (x1 : Int32) (x2 : Int32) : Option (mw_M) :=
  mw_b2 (mw_nq S (G 6) 5000 x1) fun v1 S1 =>
  (mw_pf S1 h0 4 0 (.ref v1)).bind fun S2 =>
  pf_X4_init_14 G N 8 h0 x1 x2 0 S2
def pf_X1_init (G : Nat → ClassId) (N : Nat) (S : mw_M) (h0 : Nat) (x1 : Int32) : Option (mw_M) :=
  mw_b2 (mw_no S 0 [.null, .int 0]) fun v1 S1 =>
  (pf_X0_init G N S1 v1 x1).bind fun S2 =>
  (mw_pf S2 h0 1 0 (.ref v1)).bind fun S3 =>
  mw_b2 (mw_na S3 (G 3) 24 24) fun v4 S4 =>
  (mw_pf S4 h0 1 1 (.ref v4)).bind fun S5 =>
  some S5
def pf_X0_clear (G : Nat → ClassId) (N : Nat) (S : mw_M) (h0 : Nat) : Option (mw_M) :=
  (mw_pf S h0 0 1 (.int 0)).bind fun S1 =>
  some S1
def pf_X1_openAs_9 (G : Nat → ClassId) (N : Nat) : Nat → Nat → Int32 → Int32 → Int32 → mw_M → Option (mw_M)
  | 0, _, _, _, _, _ => none
  | n + 1, y0, y1, y2, y3, S =>
    if 24 ≤ y3 then
      (mw_pf S y0 1 2 (.int y1)).bind fun S1 =>
      (mw_pf S1 y0 1 3 (.int y2)).bind fun S2 =>
      (mw_pf S2 y0 1 4 (.int 0)).bind fun S3 =>
      some S3
    else
      (mw_gr S y0 1 1).bind fun v4 =>
      (mw_si S v4 (G 3) y3 (vp_nar .boolean 0)).bind fun S5 =>
      pf_X1_openAs_9 G N n y0 y1 y2 (y3 + 1) S5
def pf_X1_openAs (G : Nat → ClassId) (N : Nat) (S : mw_M) (h0 : Nat) (x1 : Int32) (x2 : Int32) : Option (mw_M) :=
  (mw_gr S h0 1 0).bind fun v1 =>
  (mw_v S v1 0 (pf_X0_clear G N S v1)).bind fun S2 =>
  pf_X1_openAs_9 G N N h0 x1 x2 0 S2
def pf_X2_init_16 (G : Nat → ClassId) (N : Nat) : Nat → Nat → Int32 → Int32 → Int32 → mw_M → Option (mw_M)
  | 0, _, _, _, _, _ => none
  | n + 1, y0, y1, y2, y3, S =>
    if y1 < y3 then
      (mw_gr S y0 2 0).bind fun v1 =>
      (mw_aq S v1 (G 7) 0).bind fun v2 =>
      (mw_v S v2 1 (pf_X1_openAs G N S v2 1 0)).bind fun S3 =>
      some S3
    else
      (mw_gr S y0 2 0).bind fun v4 =>
      mw_b2 (mw_no S 1 [.null, .null, .int 0, .int 0, .int 0]) fun v5 S5 =>
      (pf_X1_init G N S5 v5 y2).bind fun S6 =>
      (mw_sq S6 v4 (G 7) 1 y3 v5).bind fun S7 =>
      pf_X2_init_16 G N n y0 y1 y2 (y3 + 1) S7
def pf_X2_init (G : Nat → ClassId) (N : Nat) (S : mw_M) (h0 : Nat) (x1 : Int32) (x2 : Int32) : Option (mw_M) :=
  mw_b2 (mw_nq S (G 7) 5000 (x1 + 1)) fun v1 S1 =>
  (mw_pf S1 h0 2 0 (.ref v1)).bind fun S2 =>
  pf_X2_init_16 G N 8 h0 x1 x2 0 S2
def pf_X8_init_149 (G : Nat → ClassId) (N : Nat) : Nat → Nat → Int32 → Int32 → Int32 → Int32 → mw_M → Option (mw_M)
  | 0, _, _, _, _, _, _ => none
  | n + 1, y0, y4, y5, y6, y7, S =>
    if 4 ≤ y7 then
      mw_b2 (mw_no S 4 [.null, .int 0, .int 0]) fun v1 S1 =>
      (mw_gi S1 y0 8 0).bind fun v2 =>
      (pf_X4_init G N S1 v1 y4 v2).bind fun S3 =>
      (mw_pf S3 y0 8 9 (.ref v1)).bind fun S4 =>
      mw_b2 (mw_no S4 2 [.null, .int 0, .int 0]) fun v5 S5 =>
      (pf_X2_init G N S5 v5 y5 y6).bind fun S6 =>
      (mw_pf S6 y0 8 10 (.ref v5)).bind fun S7 =>
      mw_b2 (mw_no S7 0 [.null, .int 0]) fun v8 S8 =>
      (pf_X0_init G N S8 v8 27).bind fun S9 =>
      (mw_pf S9 y0 8 11 (.ref v8)).bind fun S10 =>
      mw_b2 (mw_no S10 0 [.null, .int 0]) fun v11 S11 =>
      (pf_X0_init G N S11 v11 (y5 * (y6 + 258))).bind fun S12 =>
      (mw_pf S12 y0 8 12 (.ref v11)).bind fun S13 =>
      some S13
    else
      (mw_gr S y0 8 7).bind fun v14 =>
      mw_b2 (mw_no S 5 [.null, .null, .int 0, .int 0, .int 0]) fun v15 S15 =>
      (pf_X5_init G N S15 v15).bind fun S16 =>
      (mw_sq S16 v14 (G 5) 5 y7 v15).bind fun S17 =>
      pf_X8_init_149 G N n y0 y4 y5 y6 (y7 + 1) S17
def pf_X8_init_92 (G : Nat → ClassId) (N : Nat) : Nat → Nat → Int32 → Int32 → Int32 → Int32 → mw_M → Option (mw_M)
  | 0, _, _, _, _, _, _ => none
  | n + 1, y0, y4, y5, y6, y7, S =>
    if 3 ≤ y7 then
      mw_b2 (mw_na S (G 0) 6 6) fun v1 S1 =>
      (mw_pf S1 y0 8 4 (.ref v1)).bind fun S2 =>
      mw_b2 (mw_na S2 (G 3) 6 6) fun v3 S3 =>
      (mw_pf S3 y0 8 5 (.ref v3)).bind fun S4 =>
      mw_b2 (mw_nq S4 (G 5) 4 4) fun v5 S5 =>
      (mw_pf S5 y0 8 7 (.ref v5)).bind fun S6 =>
      pf_X8_init_149 G N 8 y0 y4 y5 y6 0 S6
    else
      (mw_gr S y0 8 3).bind fun v7 =>
      mw_b2 (mw_no S 3 [.null, .null, .int 0, .int 0, .int 0]) fun v8 S8 =>
      (mw_gi S8 y0 8 0).bind fun v9 =>
      (pf_X3_init G N S8 v8 v9).bind fun S10 =>
      (mw_sq S10 v7 (G 4) 3 y7 v8).bind fun S11 =>
      pf_X8_init_92 G N n y0 y4 y5 y6 (y7 + 1) S11
def pf_X8_init (G : Nat → ClassId) (N : Nat) (S : mw_M) (h0 : Nat) (x1 : Int32) (x2 : Int32) (x3 : Int32) : Option (mw_M) :=
  (mw_pf S h0 8 0 (.int (if 16 < (if 60 < x1 then 60 else x1) then (if 60 < x1 then 60 else x1) else 16))).bind fun S1 =>
  (mw_gi S1 h0 8 0).bind fun v2 =>
  mw_b2 (mw_no S1 7 [.null, .int 0]) fun v3 S3 =>
  (pf_X7_init G N S3 v3).bind fun S4 =>
  (mw_pf S4 h0 8 1 (.ref v3)).bind fun S5 =>
  mw_b2 (mw_no S5 6 [.null, .null, .int 0]) fun v6 S6 =>
  (pf_X6_init G N S6 v6).bind fun S7 =>
  (mw_pf S7 h0 8 2 (.ref v6)).bind fun S8 =>
  mw_b2 (mw_nq S8 (G 4) 3 3) fun v9 S9 =>
  (mw_pf S9 h0 8 3 (.ref v9)).bind fun S10 =>
  pf_X8_init_92 G N 8 h0 (if 0 < (if 4 < x2 then 4 else x2) then (if 4 < x2 then 4 else x2) else 0) (if 1 < (if 5 < x3 then 5 else x3) then (if 5 < x3 then 5 else x3) else 1) ((150 + (((if 0 < (if 4 < x2 then 4 else x2) then (if 4 < x2 then 4 else x2) else 0) + 3) * v2)) + 24) 0 S10
def pf_X7_append (G : Nat → ClassId) (N : Nat) (S : mw_M) (h0 : Nat) (x1 : Int32) : Option (Int32 × mw_M) :=
  (mw_gi S h0 7 1).bind fun v1 =>
  if 40 ≤ v1 then
    if vp_nar .boolean 0 = 0 then some (0, S) else none
  else
    if x1 < 32 then
      if vp_nar .boolean 0 = 0 then some (0, S) else none
    else
      if x1 ≤ 126 then
        (mw_gr S h0 7 0).bind fun v2 =>
        (mw_gi S h0 7 1).bind fun v3 =>
        (mw_si S v2 (G 2) v3 (vp_nar .char x1)).bind fun S4 =>
        (mw_gi S4 h0 7 1).bind fun v5 =>
        (mw_pf S4 h0 7 1 (.int (v5 + 1))).bind fun S6 =>
        if vp_nar .boolean 1 = 1 then some (1, S6) else none
      else
        if vp_nar .boolean 0 = 0 then some (0, S) else none
def pf_X8_write (G : Nat → ClassId) (N : Nat) (S : mw_M) (h0 : Nat) (x1 : Int32) : Option (Int32 × mw_M) :=
  (mw_gr S h0 8 1).bind fun v1 =>
  mw_b2 (mw_v S v1 7 (pf_X7_append G N S v1 x1)) fun v2 S2 =>
  if vp_nar .boolean v2 = v2 then some (v2, S2) else none
def pf_X8_advance (G : Nat → ClassId) (N : Nat) (S : mw_M) (h0 : Nat) (x1 : Int32) : Option (Int32 × mw_M) :=
  if x1 < 0 then
    (mw_gi S h0 8 13).bind fun v1 =>
    some (v1, S)
  else
    if 1000 < x1 then
      (mw_gi S h0 8 13).bind fun v2 =>
      some (v2, S)
    else
      (mw_gi S h0 8 13).bind fun v3 =>
      (mw_pf S h0 8 13 (.int (v3 + x1))).bind fun S4 =>
      (mw_gi S4 h0 8 13).bind fun v5 =>
      some (v5, S4)
def pf_X8_type_9 (G : Nat → ClassId) (N : Nat) (S : mw_M) : Option (Nat × Int32 × mw_M) :=
  some (1, 0, S)
def pf_X8_type (G : Nat → ClassId) (N : Nat) (S : mw_M) (h0 : Nat) (x1 : Int32) (x2 : Int32) : Option (Nat × Int32 × mw_M) :=
  if x1 < 0 then
    pf_X8_type_9 G N S
  else
    if x1 ≤ 3 then
      (mw_gi S h0 8 6).bind fun v1 =>
      if v1 < 6 then
        (mw_gr S h0 8 4).bind fun v2 =>
        (mw_gi S h0 8 6).bind fun v3 =>
        (mw_si S v2 (G 0) v3 x1).bind fun S4 =>
        (mw_gr S4 h0 8 5).bind fun v5 =>
        (mw_gi S4 h0 8 6).bind fun v6 =>
        (mw_si S4 v5 (G 3) v6 (vp_nar .boolean x2)).bind fun S7 =>
        (mw_gi S7 h0 8 6).bind fun v8 =>
        (mw_pf S7 h0 8 6 (.int (v8 + 1))).bind fun S9 =>
        (mw_gi S9 h0 8 6).bind fun v10 =>
        some (0, (v10 - 1), S9)
      else
        some (2, 0, S)
    else
      pf_X8_type_9 G N S
def pf_X8_isThread (G : Nat → ClassId) (N : Nat) (S : mw_M) (x0 : Int32) : Option (Int32 × mw_M) :=
  if x0 < 0 then
    if vp_nar .boolean 0 = 0 then some (0, S) else none
  else
    if 3 ≤ x0 then
      if vp_nar .boolean 0 = 0 then some (0, S) else none
    else
      if vp_nar .boolean 1 = 1 then some (1, S) else none
def pf_X3_beginAt (G : Nat → ClassId) (N : Nat) (S : mw_M) (h0 : Nat) (x1 : Int32) : Option (Int32 × mw_M) :=
  (mw_gi S h0 3 2).bind fun v1 =>
  if v1 < 3 then
    (mw_gr S h0 3 0).bind fun v2 =>
    (mw_gi S h0 3 2).bind fun v3 =>
    (mw_si S v2 (G 0) v3 x1).bind fun S4 =>
    (mw_gi S4 h0 3 2).bind fun v5 =>
    (mw_pf S4 h0 3 2 (.int (v5 + 1))).bind fun S6 =>
    if vp_nar .boolean 1 = 1 then some (1, S6) else none
  else
    if vp_nar .boolean 0 = 0 then some (0, S) else none
def pf_X8_begin (G : Nat → ClassId) (N : Nat) (S : mw_M) (h0 : Nat) (x1 : Int32) : Option (Int32 × mw_M) :=
  mw_b2 (pf_X8_isThread G N S x1) fun v1 S1 =>
  if v1 = 0 then
    if vp_nar .boolean 0 = 0 then some (0, S1) else none
  else
    (mw_gr S1 h0 8 3).bind fun v2 =>
    (mw_aq S1 v2 (G 4) x1).bind fun v3 =>
    (mw_gi S1 h0 8 13).bind fun v4 =>
    mw_b2 (mw_v S1 v3 3 (pf_X3_beginAt G N S1 v3 v4)) fun v5 S5 =>
    if v5 = 0 then
      if vp_nar .boolean 0 = 0 then some (0, S5) else none
    else
      if vp_nar .boolean 1 = 1 then some (1, S5) else none
def pf_X8_isType (G : Nat → ClassId) (N : Nat) (S : mw_M) (h0 : Nat) (x1 : Int32) : Option (Int32 × mw_M) :=
  if x1 < 0 then
    if vp_nar .boolean 0 = 0 then some (0, S) else none
  else
    (mw_gi S h0 8 6).bind fun v1 =>
    if v1 ≤ x1 then
      if vp_nar .boolean 0 = 0 then some (0, S) else none
    else
      if vp_nar .boolean 1 = 1 then some (1, S) else none
def pf_X3_hasBegun (G : Nat → ClassId) (N : Nat) (S : mw_M) (h0 : Nat) : Option (Int32 × mw_M) :=
  (mw_gi S h0 3 2).bind fun v1 =>
  if v1 ≤ 0 then
    if vp_nar .boolean 0 = 0 then some (0, S) else none
  else
    if vp_nar .boolean 1 = 1 then some (1, S) else none
def pf_X3_endLatest (G : Nat → ClassId) (N : Nat) (S : mw_M) (h0 : Nat) : Option (Int32 × mw_M) :=
  (mw_gi S h0 3 2).bind fun v1 =>
  if 0 < v1 then
    (mw_gi S h0 3 2).bind fun v2 =>
    (mw_pf S h0 3 2 (.int (v2 - 1))).bind fun S3 =>
    (mw_gr S3 h0 3 0).bind fun v4 =>
    (mw_gi S3 h0 3 2).bind fun v5 =>
    (mw_ai S3 v4 (G 0) v5).bind fun v6 =>
    some (v6, S3)
  else
    some ((-1), S)
def pf_X5_is (G : Nat → ClassId) (N : Nat) (S : mw_M) (h0 : Nat) (x1 : Int32) : Option (Int32 × mw_M) :=
  (mw_gi S h0 5 2).bind fun v1 =>
  if ¬ v1 = x1 then
    if vp_nar .boolean 0 = 0 then some (0, S) else none
  else
    if vp_nar .boolean 1 = 1 then some (1, S) else none
def pf_X5_isOn (G : Nat → ClassId) (N : Nat) (S : mw_M) (h0 : Nat) (x1 : Int32) : Option (Int32 × mw_M) :=
  if x1 < 0 then
    if vp_nar .boolean 0 = 0 then some (0, S) else none
  else
    if 6 ≤ x1 then
      if vp_nar .boolean 0 = 0 then some (0, S) else none
    else
      (mw_gr S h0 5 0).bind fun v1 =>
      (mw_ai S v1 (G 3) x1).bind fun v2 =>
      if ¬ v2 = 0 then
        if vp_nar .boolean 0 = 0 then some (0, S) else none
      else
        if vp_nar .boolean 1 = 1 then some (1, S) else none
def pf_X5_leastDuration (G : Nat → ClassId) (N : Nat) (S : mw_M) (h0 : Nat) (x1 : Int32) : Option (Int32 × mw_M) :=
  if x1 < 0 then
    some ((-1), S)
  else
    if 6 ≤ x1 then
      some ((-1), S)
    else
      (mw_gr S h0 5 1).bind fun v1 =>
      (mw_ai S v1 (G 0) x1).bind fun v2 =>
      some (v2, S)
def pf_X8_interestIn_5 (G : Nat → ClassId) (N : Nat) : Nat → Nat → Int32 → Int32 → Int32 → Int32 → mw_M → Option (Int32 × mw_M)
  | 0, _, _, _, _, _, _ => none
  | n + 1, y0, y1, y2, y3, y4, S =>
    (mw_gi S y0 8 8).bind fun v1 =>
    if v1 ≤ y4 then
      some (y3, S)
    else
      (mw_gr S y0 8 7).bind fun v2 =>
      (mw_aq S v2 (G 5) y4).bind fun v3 =>
      mw_b2 (mw_v S v3 5 (pf_X5_is G N S v3 1)) fun v4 S4 =>
      if v4 = 0 then
        pf_X8_interestIn_5 G N n y0 y1 y2 y3 (y4 + 1) S4
      else
        mw_b2 (mw_v S4 v3 5 (pf_X5_isOn G N S4 v3 y1)) fun v5 S5 =>
        if v5 = 0 then
          pf_X8_interestIn_5 G N n y0 y1 y2 y3 (y4 + 1) S5
        else
          mw_b2 (mw_v S5 v3 5 (pf_X5_leastDuration G N S5 v3 y1)) fun v6 S6 =>
          if y2 < v6 then
            pf_X8_interestIn_5 G N n y0 y1 y2 3 (y4 + 1) S6
          else
            some (0, S6)
def pf_X8_interestIn (G : Nat → ClassId) (N : Nat) (S : mw_M) (h0 : Nat) (x1 : Int32) (x2 : Int32) : Option (Int32 × mw_M) :=
  pf_X8_interestIn_5 G N N h0 x1 x2 2 0 S
def pf_X7_length (G : Nat → ClassId) (N : Nat) (S : mw_M) (h0 : Nat) : Option (Int32 × mw_M) :=
  (mw_gi S h0 7 1).bind fun v1 =>
  some (v1, S)
def pf_X6_usedLength (G : Nat → ClassId) (N : Nat) (S : mw_M) (x0 : Nat) : Option (Int32 × mw_M) :=
  mw_b2 (mw_v S x0 7 (pf_X7_length G N S x0)) fun v1 S1 =>
  some ((if 8 < v1 then 8 else v1), S1)
def pf_X7_at (G : Nat → ClassId) (N : Nat) (S : mw_M) (h0 : Nat) (x1 : Int32) : Option (Int32 × mw_M) :=
  if x1 < 0 then
    if vp_nar .char 0 = 0 then some (0, S) else none
  else
    (mw_gi S h0 7 1).bind fun v1 =>
    if v1 ≤ x1 then
      if vp_nar .char 0 = 0 then some (0, S) else none
    else
      (mw_gr S h0 7 0).bind fun v2 =>
      (mw_ai S v2 (G 2) x1).bind fun v3 =>
      if vp_nar .char v3 = v3 then some (v3, S) else none
def pf_X6_isSame_17 (G : Nat → ClassId) (N : Nat) : Nat → Nat → Int32 → Nat → Int32 → mw_M → Option (Int32 × mw_M)
  | 0, _, _, _, _, _ => none
  | n + 1, y0, y1, y2, y3, S =>
    (mw_gr S y0 6 1).bind fun v1 =>
    (mw_ai S v1 (G 0) y1).bind fun v2 =>
    if v2 ≤ y3 then
      if vp_nar .boolean 1 = 1 then some (1, S) else none
    else
      (mw_gr S y0 6 0).bind fun v3 =>
      (mw_ai S v3 (G 2) ((y1 * 8) + y3)).bind fun v4 =>
      mw_b2 (mw_v S y2 7 (pf_X7_at G N S y2 y3)) fun v5 S5 =>
      if v4 = v5 then
        pf_X6_isSame_17 G N n y0 y1 y2 (y3 + 1) S5
      else
        if vp_nar .boolean 0 = 0 then some (0, S5) else none
def pf_X6_isSame (G : Nat → ClassId) (N : Nat) (S : mw_M) (h0 : Nat) (x1 : Int32) (x2 : Nat) : Option (Int32 × mw_M) :=
  (mw_gr S h0 6 1).bind fun v1 =>
  (mw_ai S v1 (G 0) x1).bind fun v2 =>
  mw_b2 (pf_X6_usedLength G N S x2) fun v3 S3 =>
  if v2 = v3 then
    pf_X6_isSame_17 G N N h0 x1 x2 0 S3
  else
    if vp_nar .boolean 0 = 0 then some (0, S3) else none
def pf_X6_numberFor_2 (G : Nat → ClassId) (N : Nat) : Nat → Nat → Nat → Int32 → mw_M → Option (Int32 × mw_M)
  | 0, _, _, _, _ => none
  | n + 1, y0, y1, y2, S =>
    (mw_gi S y0 6 2).bind fun v1 =>
    if v1 ≤ y2 then
      (mw_gi S y0 6 2).bind fun v2 =>
      some (v2, S)
    else
      mw_b2 (mw_v S y0 6 (pf_X6_isSame G N S y0 y2 y1)) fun v3 S3 =>
      if v3 = 0 then
        pf_X6_numberFor_2 G N n y0 y1 (y2 + 1) S3
      else
        some (y2, S3)
def pf_X6_numberFor (G : Nat → ClassId) (N : Nat) (S : mw_M) (h0 : Nat) (x1 : Nat) : Option (Int32 × mw_M) :=
  pf_X6_numberFor_2 G N N h0 x1 0 S
def pf_X0_variableLength_5 (G : Nat → ClassId) (N : Nat) : Nat → Int32 → Int32 → Int32 → mw_M → Option (Int32 × mw_M)
  | 0, _, _, _, _ => none
  | n + 1, y0, y1, y2, S =>
    if 32 ≤ y2 then
      some (y1, S)
    else
      if (mw_ushr y0 y2) = 0 then
        pf_X0_variableLength_5 G N n y0 y1 (y2 + 7) S
      else
        pf_X0_variableLength_5 G N n y0 (y1 + 1) (y2 + 7) S
def pf_X0_variableLength (G : Nat → ClassId) (N : Nat) (S : mw_M) (x0 : Int32) : Option (Int32 × mw_M) :=
  pf_X0_variableLength_5 G N N x0 1 7 S
def pf_X0_add (G : Nat → ClassId) (N : Nat) (S : mw_M) (h0 : Nat) (x1 : Int32) : Option (mw_M) :=
  (mw_gi S h0 0 1).bind fun v1 =>
  (mw_gr S h0 0 0).bind fun v2 =>
  (mw_al S v2 (G 1)).bind fun v3 =>
  if v3 ≤ v1 then
    some S
  else
    (mw_gr S h0 0 0).bind fun v4 =>
    (mw_gi S h0 0 1).bind fun v5 =>
    (mw_si S v4 (G 1) v5 (vp_nar .byte (mw_i2b x1))).bind fun S6 =>
    (mw_gi S6 h0 0 1).bind fun v7 =>
    (mw_pf S6 h0 0 1 (.int (v7 + 1))).bind fun S8 =>
    some S8
def pf_X0_addVariable_7 (G : Nat → ClassId) (N : Nat) : Nat → Nat → Int32 → Int32 → mw_M → Option (mw_M)
  | 0, _, _, _, _ => none
  | n + 1, y0, y2, y3, S =>
    if y3 ≤ 1 then
      (mw_v S y0 0 (pf_X0_add G N S y0 y2)).bind fun S1 =>
      some S1
    else
      (mw_v S y0 0 (pf_X0_add G N S y0 ((y2 &&& 127) + 128))).bind fun S2 =>
      pf_X0_addVariable_7 G N n y0 (mw_ushr y2 7) (y3 + (-1)) S2
def pf_X0_addVariable (G : Nat → ClassId) (N : Nat) (S : mw_M) (h0 : Nat) (x1 : Int32) : Option (mw_M) :=
  mw_b2 (pf_X0_variableLength G N S x1) fun v1 S1 =>
  pf_X0_addVariable_7 G N N h0 x1 v1 S1
def pf_X8_zigzag (G : Nat → ClassId) (N : Nat) (S : mw_M) (x0 : Int32) : Option (Int32 × mw_M) :=
  if x0 < 0 then
    some ((((-2) * x0) - 1), S)
  else
    some ((2 * x0), S)
def pf_X8_compose_101 (G : Nat → ClassId) (N : Nat) (y0 : Nat) (y3 : Int32) (S : mw_M) : Option (mw_M) :=
  if y3 = (-1) then
    some S
  else
    (mw_gr S y0 8 11).bind fun v1 =>
    (mw_v S v1 0 (pf_X0_addVariable G N S v1 y3)).bind fun S2 =>
    some S2
def pf_X8_compose_79 (G : Nat → ClassId) (N : Nat) (y0 : Nat) (y1 : Int32) (y3 : Int32) (y6 : Int32) (S : mw_M) : Option (mw_M) :=
  (mw_gr S y0 8 4).bind fun v1 =>
  (mw_ai S v1 (G 0) y1).bind fun v2 =>
  if v2 ≤ 2 then
    pf_X8_compose_101 G N y0 y3 S
  else
    (mw_gr S y0 8 11).bind fun v3 =>
    mw_b2 (pf_X8_zigzag G N S y6) fun v4 S4 =>
    (mw_v S4 v3 0 (pf_X0_addVariable G N S4 v3 v4)).bind fun S5 =>
    pf_X8_compose_101 G N y0 y3 S5
def pf_X8_compose_57 (G : Nat → ClassId) (N : Nat) (y0 : Nat) (y1 : Int32) (y3 : Int32) (y5 : Int32) (y6 : Int32) (S : mw_M) : Option (mw_M) :=
  (mw_gr S y0 8 4).bind fun v1 =>
  (mw_ai S v1 (G 0) y1).bind fun v2 =>
  if v2 ≤ 1 then
    pf_X8_compose_79 G N y0 y1 y3 y6 S
  else
    (mw_gr S y0 8 11).bind fun v3 =>
    mw_b2 (pf_X8_zigzag G N S y5) fun v4 S4 =>
    (mw_v S4 v3 0 (pf_X0_addVariable G N S4 v3 v4)).bind fun S5 =>
    pf_X8_compose_79 G N y0 y1 y3 y6 S5
def pf_X8_compose (G : Nat → ClassId) (N : Nat) (S : mw_M) (h0 : Nat) (x1 : Int32) (x2 : Int32) (x3 : Int32) (x4 : Int32) (x5 : Int32) (x6 : Int32) : Option (mw_M) :=
  (mw_gr S h0 8 11).bind fun v1 =>
  (mw_v S v1 0 (pf_X0_clear G N S v1)).bind fun S2 =>
  (mw_gr S2 h0 8 11).bind fun v3 =>
  (mw_v S2 v3 0 (pf_X0_addVariable G N S2 v3 x1)).bind fun S4 =>
  (mw_gr S4 h0 8 11).bind fun v5 =>
  (mw_v S4 v5 0 (pf_X0_addVariable G N S4 v5 x2)).bind fun S6 =>
  (mw_gr S6 h0 8 11).bind fun v7 =>
  (mw_gi S6 h0 8 13).bind fun v8 =>
  (mw_v S6 v7 0 (pf_X0_addVariable G N S6 v7 (v8 - x2))).bind fun S9 =>
  (mw_gr S9 h0 8 4).bind fun v10 =>
  (mw_ai S9 v10 (G 0) x1).bind fun v11 =>
  if v11 ≤ 0 then
    pf_X8_compose_57 G N h0 x1 x3 x5 x6 S9
  else
    (mw_gr S9 h0 8 11).bind fun v12 =>
    mw_b2 (pf_X8_zigzag G N S9 x4) fun v13 S13 =>
    (mw_v S13 v12 0 (pf_X0_addVariable G N S13 v12 v13)).bind fun S14 =>
    pf_X8_compose_57 G N h0 x1 x3 x5 x6 S14
def pf_X3_buffer (G : Nat → ClassId) (N : Nat) (S : mw_M) (h0 : Nat) : Option (Nat × mw_M) :=
  (mw_gr S h0 3 1).bind fun v1 =>
  some (v1, S)
def pf_X0_length (G : Nat → ClassId) (N : Nat) (S : mw_M) (h0 : Nat) : Option (Int32 × mw_M) :=
  (mw_gi S h0 0 1).bind fun v1 =>
  some (v1, S)
def pf_X0_room (G : Nat → ClassId) (N : Nat) (S : mw_M) (h0 : Nat) : Option (Int32 × mw_M) :=
  (mw_gr S h0 0 0).bind fun v1 =>
  (mw_al S v1 (G 1)).bind fun v2 =>
  (mw_gi S h0 0 1).bind fun v3 =>
  some ((v2 - v3), S)
def pf_X0_addRow_2 (G : Nat → ClassId) (N : Nat) : Nat → Nat → Nat → Int32 → mw_M → Option (mw_M)
  | 0, _, _, _, _ => none
  | n + 1, y0, y1, y2, S =>
    (mw_gi S y1 0 1).bind fun v1 =>
    if v1 ≤ y2 then
      some S
    else
      (mw_gr S y1 0 0).bind fun v2 =>
      (mw_ai S v2 (G 1) y2).bind fun v3 =>
      (mw_v S y0 0 (pf_X0_add G N S y0 v3)).bind fun S4 =>
      pf_X0_addRow_2 G N n y0 y1 (y2 + 1) S4
def pf_X0_addRow (G : Nat → ClassId) (N : Nat) (S : mw_M) (h0 : Nat) (x1 : Nat) : Option (mw_M) :=
  pf_X0_addRow_2 G N N h0 x1 0 S
def pf_X0_moveTo (G : Nat → ClassId) (N : Nat) (S : mw_M) (h0 : Nat) (x1 : Nat) : Option (mw_M) :=
  (mw_v S x1 0 (pf_X0_addRow G N S x1 h0)).bind fun S1 =>
  (mw_v S1 h0 0 (pf_X0_clear G N S1 h0)).bind fun S2 =>
  some S2
def pf_X4_takeOver (G : Nat → ClassId) (N : Nat) (S : mw_M) (h0 : Nat) (x1 : Nat) : Option (Int32 × mw_M) :=
  (mw_gi S h0 4 2).bind fun v1 =>
  (mw_gr S h0 4 0).bind fun v2 =>
  (mw_al S v2 (G 6)).bind fun v3 =>
  if v1 < v3 then
    (mw_gr S h0 4 0).bind fun v4 =>
    (mw_gi S h0 4 1).bind fun v5 =>
    (mw_gi S h0 4 2).bind fun v6 =>
    (mw_gr S h0 4 0).bind fun v7 =>
    (mw_al S v7 (G 6)).bind fun v8 =>
    if v8 = 0 then none else
    (mw_aq S v4 (G 6) ((v5 + v6) - (v5 + v6) / v8 * v8)).bind fun v9 =>
    (mw_v S x1 0 (pf_X0_moveTo G N S x1 v9)).bind fun S10 =>
    (mw_gi S10 h0 4 2).bind fun v11 =>
    (mw_pf S10 h0 4 2 (.int (v11 + 1))).bind fun S12 =>
    if vp_nar .boolean 1 = 1 then some (1, S12) else none
  else
    if vp_nar .boolean 0 = 0 then some (0, S) else none
def pf_X8_makeRoom (G : Nat → ClassId) (N : Nat) (S : mw_M) (h0 : Nat) (x1 : Nat) : Option (Int32 × mw_M) :=
  (mw_gr S h0 8 11).bind fun v1 =>
  mw_b2 (mw_v S v1 0 (pf_X0_length G N S v1)) fun v2 S2 =>
  mw_b2 (pf_X0_variableLength G N S2 v2) fun v3 S3 =>
  (mw_gr S3 h0 8 11).bind fun v4 =>
  mw_b2 (mw_v S3 v4 0 (pf_X0_length G N S3 v4)) fun v5 S5 =>
  (mw_gi S5 h0 8 0).bind fun v6 =>
  if (v3 + v5) ≤ v6 then
    mw_b2 (mw_v S5 x1 0 (pf_X0_room G N S5 x1)) fun v7 S7 =>
    if (v3 + v5) ≤ v7 then
      if vp_nar .boolean 1 = 1 then some (1, S7) else none
    else
      (mw_gr S7 h0 8 9).bind fun v8 =>
      mw_b2 (mw_v S7 v8 4 (pf_X4_takeOver G N S7 v8 x1)) fun v9 S9 =>
      if v9 = 0 then
        if vp_nar .boolean 0 = 0 then some (0, S9) else none
      else
        if vp_nar .boolean 1 = 1 then some (1, S9) else none
  else
    if vp_nar .boolean 0 = 0 then some (0, S5) else none
def pf_X3_lose (G : Nat → ClassId) (N : Nat) (S : mw_M) (h0 : Nat) : Option (mw_M) :=
  (mw_gi S h0 3 3).bind fun v1 =>
  (mw_pf S h0 3 3 (.int (v1 + 1))).bind fun S2 =>
  (mw_gi S2 h0 3 4).bind fun v3 =>
  (mw_pf S2 h0 3 4 (.int (v3 + 1))).bind fun S4 =>
  some S4
def pf_X2_open (G : Nat → ClassId) (N : Nat) (S : mw_M) (h0 : Nat) : Option (Nat × mw_M) :=
  (mw_gr S h0 2 0).bind fun v1 =>
  (mw_gi S h0 2 1).bind fun v2 =>
  (mw_aq S v1 (G 7) v2).bind fun v3 =>
  some (v3, S)
def pf_X1_countEvent (G : Nat → ClassId) (N : Nat) (S : mw_M) (h0 : Nat) : Option (mw_M) :=
  (mw_gi S h0 1 4).bind fun v1 =>
  (mw_pf S h0 1 4 (.int (v1 + 1))).bind fun S2 =>
  some S2
def pf_X6_keep_33 (G : Nat → ClassId) (N : Nat) : Nat → Nat → Nat → Int32 → mw_M → Option (mw_M)
  | 0, _, _, _, _ => none
  | n + 1, y0, y2, y3, S =>
    (mw_gr S y0 6 1).bind fun v1 =>
    (mw_gi S y0 6 2).bind fun v2 =>
    (mw_ai S v1 (G 0) v2).bind fun v3 =>
    if v3 ≤ y3 then
      (mw_gi S y0 6 2).bind fun v4 =>
      (mw_pf S y0 6 2 (.int (v4 + 1))).bind fun S5 =>
      some S5
    else
      (mw_gr S y0 6 0).bind fun v6 =>
      (mw_gi S y0 6 2).bind fun v7 =>
      mw_b2 (mw_v S y2 7 (pf_X7_at G N S y2 y3)) fun v8 S8 =>
      (mw_si S8 v6 (G 2) ((v7 * 8) + y3) (vp_nar .char v8)).bind fun S9 =>
      pf_X6_keep_33 G N n y0 y2 (y3 + 1) S9
def pf_X6_keep (G : Nat → ClassId) (N : Nat) (S : mw_M) (h0 : Nat) (x1 : Int32) (x2 : Nat) : Option (mw_M) :=
  (mw_gi S h0 6 2).bind fun v1 =>
  if ¬ x1 = v1 then
    some S
  else
    (mw_gi S h0 6 2).bind fun v2 =>
    if v2 < 24 then
      (mw_gr S h0 6 1).bind fun v3 =>
      (mw_gi S h0 6 2).bind fun v4 =>
      mw_b2 (pf_X6_usedLength G N S x2) fun v5 S5 =>
      (mw_si S5 v3 (G 0) v4 v5).bind fun S6 =>
      pf_X6_keep_33 G N N h0 x2 0 S6
    else
      some S
def pf_X1_use (G : Nat → ClassId) (N : Nat) (S : mw_M) (h0 : Nat) (x1 : Int32) : Option (mw_M) :=
  if x1 < 0 then
    some S
  else
    if 24 ≤ x1 then
      some S
    else
      (mw_gr S h0 1 1).bind fun v1 =>
      (mw_si S v1 (G 3) x1 (vp_nar .boolean 1)).bind fun S2 =>
      some S2
def pf_X8_endEvent_95 (G : Nat → ClassId) (N : Nat) (y1 : Nat) (S : mw_M) : Option (Int32 × mw_M) :=
  (mw_v S y1 3 (pf_X3_lose G N S y1)).bind fun S1 =>
  some (4, S1)
def pf_X8_endEvent_61 (G : Nat → ClassId) (N : Nat) (y0 : Nat) (y1 : Nat) (y2 : Int32) (y3 : Int32) (y4 : Int32) (y5 : Int32) (y6 : Int32) (w0 : Int32) (S : mw_M) : Option (Int32 × mw_M) :=
  (mw_v S y0 8 (pf_X8_compose G N S y0 y2 y6 w0 y3 y4 y5)).bind fun S1 =>
  if 24 ≤ w0 then
    pf_X8_endEvent_95 G N y1 S1
  else
    mw_b2 (mw_v S1 y1 3 (pf_X3_buffer G N S1 y1)) fun v2 S2 =>
    mw_b2 (mw_v S2 y0 8 (pf_X8_makeRoom G N S2 y0 v2)) fun v3 S3 =>
    if ¬ v3 = 0 then
      mw_b2 (mw_v S3 y1 3 (pf_X3_buffer G N S3 y1)) fun v4 S4 =>
      (mw_gr S4 y0 8 11).bind fun v5 =>
      mw_b2 (mw_v S4 v5 0 (pf_X0_length G N S4 v5)) fun v6 S6 =>
      (mw_v S6 v4 0 (pf_X0_addVariable G N S6 v4 v6)).bind fun S7 =>
      mw_b2 (mw_v S7 y1 3 (pf_X3_buffer G N S7 y1)) fun v8 S8 =>
      (mw_gr S8 y0 8 11).bind fun v9 =>
      (mw_v S8 v8 0 (pf_X0_addRow G N S8 v8 v9)).bind fun S10 =>
      (mw_gr S10 y0 8 10).bind fun v11 =>
      mw_b2 (mw_v S10 v11 2 (pf_X2_open G N S10 v11)) fun v12 S12 =>
      (mw_v S12 v12 1 (pf_X1_countEvent G N S12 v12)).bind fun S13 =>
      if w0 = (-1) then
        some (0, S13)
      else
        (mw_gr S13 y0 8 2).bind fun v14 =>
        (mw_gr S13 y0 8 1).bind fun v15 =>
        (mw_v S13 v14 6 (pf_X6_keep G N S13 v14 w0 v15)).bind fun S16 =>
        (mw_gr S16 y0 8 10).bind fun v17 =>
        mw_b2 (mw_v S16 v17 2 (pf_X2_open G N S16 v17)) fun v18 S18 =>
        (mw_v S18 v18 1 (pf_X1_use G N S18 v18 w0)).bind fun S19 =>
        some (0, S19)
    else
      pf_X8_endEvent_95 G N y1 S3
def pf_X8_endEvent (G : Nat → ClassId) (N : Nat) (S : mw_M) (h0 : Nat) (x1 : Nat) (x2 : Int32) (x3 : Int32) (x4 : Int32) (x5 : Int32) : Option (Int32 × mw_M) :=
  mw_b2 (mw_v S x1 3 (pf_X3_hasBegun G N S x1)) fun v1 S1 =>
  if ¬ v1 = 0 then
    mw_b2 (mw_v S1 x1 3 (pf_X3_endLatest G N S1 x1)) fun v2 S2 =>
    (mw_gi S2 h0 8 13).bind fun v3 =>
    mw_b2 (mw_v S2 h0 8 (pf_X8_interestIn G N S2 h0 x2 (v3 - v2))) fun v4 S4 =>
    if v4 = 0 then
      (mw_gr S4 h0 8 5).bind fun v5 =>
      (mw_ai S4 v5 (G 3) x2).bind fun v6 =>
      if v6 = 0 then
        pf_X8_endEvent_61 G N h0 x1 x2 x3 x4 x5 v2 (-1) S4
      else
        (mw_gr S4 h0 8 2).bind fun v7 =>
        (mw_gr S4 h0 8 1).bind fun v8 =>
        mw_b2 (mw_v S4 v7 6 (pf_X6_numberFor G N S4 v7 v8)) fun v9 S9 =>
        pf_X8_endEvent_61 G N h0 x1 x2 x3 x4 x5 v2 v9 S9
    else
      some (v4, S4)
  else
    some (1, S1)
def pf_X7_clear (G : Nat → ClassId) (N : Nat) (S : mw_M) (h0 : Nat) : Option (mw_M) :=
  (mw_pf S h0 7 1 (.int 0)).bind fun S1 =>
  some S1
def pf_X8_commit (G : Nat → ClassId) (N : Nat) (S : mw_M) (h0 : Nat) (x1 : Int32) (x2 : Int32) (x3 : Int32) (x4 : Int32) (x5 : Int32) : Option (Int32 × mw_M) :=
  mw_b2 (pf_X8_isThread G N S x1) fun v1 S1 =>
  if v1 = 0 then
    some ((-1), S1)
  else
    mw_b2 (mw_v S1 h0 8 (pf_X8_isType G N S1 h0 x2)) fun v2 S2 =>
    if ¬ v2 = 0 then
      (mw_gr S2 h0 8 3).bind fun v3 =>
      (mw_aq S2 v3 (G 4) x1).bind fun v4 =>
      mw_b2 (mw_v S2 h0 8 (pf_X8_endEvent G N S2 h0 v4 x2 x3 x4 x5)) fun v5 S5 =>
      (mw_gr S5 h0 8 5).bind fun v6 =>
      (mw_ai S5 v6 (G 3) x2).bind fun v7 =>
      if v7 = 0 then
        some (v5, S5)
      else
        (mw_gr S5 h0 8 1).bind fun v8 =>
        (mw_v S5 v8 7 (pf_X7_clear G N S5 v8)).bind fun S9 =>
        some (v5, S9)
    else
      some ((-1), S2)
def pf_X1_body (G : Nat → ClassId) (N : Nat) (S : mw_M) (h0 : Nat) : Option (Nat × mw_M) :=
  (mw_gr S h0 1 0).bind fun v1 =>
  some (v1, S)
def pf_X4_moveFirstTo (G : Nat → ClassId) (N : Nat) (S : mw_M) (h0 : Nat) (x1 : Nat) : Option (Int32 × mw_M) :=
  (mw_gi S h0 4 2).bind fun v1 =>
  if 0 < v1 then
    (mw_gr S h0 4 0).bind fun v2 =>
    (mw_gi S h0 4 1).bind fun v3 =>
    (mw_aq S v2 (G 6) v3).bind fun v4 =>
    mw_b2 (mw_v S v4 0 (pf_X0_length G N S v4)) fun v5 S5 =>
    (mw_gr S5 h0 4 0).bind fun v6 =>
    (mw_gi S5 h0 4 1).bind fun v7 =>
    (mw_aq S5 v6 (G 6) v7).bind fun v8 =>
    (mw_v S5 v8 0 (pf_X0_moveTo G N S5 v8 x1)).bind fun S9 =>
    (mw_gi S9 h0 4 1).bind fun v10 =>
    (mw_gr S9 h0 4 0).bind fun v11 =>
    (mw_al S9 v11 (G 6)).bind fun v12 =>
    if v12 = 0 then none else
    (mw_pf S9 h0 4 1 (.int ((v10 + 1) - (v10 + 1) / v12 * v12))).bind fun S13 =>
    (mw_gi S13 h0 4 2).bind fun v14 =>
    (mw_pf S13 h0 4 2 (.int (v14 - 1))).bind fun S15 =>
    some (v5, S15)
  else
    some (0, S)
def pf_X3_takeLostInChunk (G : Nat → ClassId) (N : Nat) (S : mw_M) (h0 : Nat) : Option (Int32 × mw_M) :=
  (mw_gi S h0 3 3).bind fun v1 =>
  (mw_pf S h0 3 3 (.int 0)).bind fun S2 =>
  some (v1, S2)
def pf_X1_addLoss (G : Nat → ClassId) (N : Nat) (S : mw_M) (h0 : Nat) (x1 : Int32) (x2 : Int32) : Option (mw_M) :=
  (mw_gr S h0 1 0).bind fun v1 =>
  mw_b2 (pf_X0_variableLength G N S x2) fun v2 S2 =>
  (mw_v S2 v1 0 (pf_X0_addVariable G N S2 v1 (2 + v2))).bind fun S3 =>
  (mw_gr S3 h0 1 0).bind fun v4 =>
  (mw_v S3 v4 0 (pf_X0_add G N S3 v4 63)).bind fun S5 =>
  (mw_gr S5 h0 1 0).bind fun v6 =>
  (mw_v S5 v6 0 (pf_X0_addVariable G N S5 v6 x1)).bind fun S7 =>
  (mw_gr S7 h0 1 0).bind fun v8 =>
  (mw_v S7 v8 0 (pf_X0_addVariable G N S7 v8 x2)).bind fun S9 =>
  some S9
def pf_X1_number (G : Nat → ClassId) (N : Nat) (S : mw_M) (h0 : Nat) : Option (Int32 × mw_M) :=
  (mw_gi S h0 1 2).bind fun v1 =>
  some (v1, S)
def pf_X2_evictOldest_9 (G : Nat → ClassId) (N : Nat) : Nat → Nat → Nat → Int32 → mw_M → Option (mw_M)
  | 0, _, _, _, _ => none
  | n + 1, y0, y1, y2, S =>
    (mw_gr S y0 2 0).bind fun v1 =>
    (mw_al S v1 (G 7)).bind fun v2 =>
    if v2 ≤ y2 then
      (mw_gr S y0 2 0).bind fun v3 =>
      (mw_gr S y0 2 0).bind fun v4 =>
      (mw_al S v4 (G 7)).bind fun v5 =>
      (mw_sq S v3 (G 7) 1 (v5 - 1) y1).bind fun S6 =>
      (mw_gi S6 y0 2 1).bind fun v7 =>
      (mw_pf S6 y0 2 1 (.int (v7 - 1))).bind fun S8 =>
      (mw_gi S8 y0 2 2).bind fun v9 =>
      (mw_pf S8 y0 2 2 (.int (v9 + 1))).bind fun S10 =>
      some S10
    else
      (mw_gr S y0 2 0).bind fun v11 =>
      (mw_gr S y0 2 0).bind fun v12 =>
      (mw_aq S v12 (G 7) y2).bind fun v13 =>
      (mw_sq S v11 (G 7) 1 (y2 - 1) v13).bind fun S14 =>
      pf_X2_evictOldest_9 G N n y0 y1 (y2 + 1) S14
def pf_X2_evictOldest (G : Nat → ClassId) (N : Nat) (S : mw_M) (h0 : Nat) : Option (mw_M) :=
  (mw_gr S h0 2 0).bind fun v1 =>
  (mw_aq S v1 (G 7) 0).bind fun v2 =>
  pf_X2_evictOldest_9 G N N h0 v2 1 S
def pf_X2_finishOpen_49 (G : Nat → ClassId) (N : Nat) (y0 : Nat) (y1 : Int32) (y2 : Int32) (S : mw_M) : Option (mw_M) :=
  mw_b2 (mw_v S y0 2 (pf_X2_open G N S y0)) fun v1 S1 =>
  (mw_v S1 v1 1 (pf_X1_openAs G N S1 v1 y2 y1)).bind fun S2 =>
  some S2
def pf_X2_finishOpen_33 (G : Nat → ClassId) (N : Nat) (y0 : Nat) (y1 : Int32) (y2 : Int32) (S : mw_M) : Option (mw_M) :=
  (mw_gi S y0 2 1).bind fun v1 =>
  (mw_gr S y0 2 0).bind fun v2 =>
  (mw_al S v2 (G 7)).bind fun v3 =>
  if v1 < v3 then
    pf_X2_finishOpen_49 G N y0 y1 y2 S
  else
    (mw_v S y0 2 (pf_X2_evictOldest G N S y0)).bind fun S4 =>
    pf_X2_finishOpen_49 G N y0 y1 y2 S4
def pf_X2_finishOpen (G : Nat → ClassId) (N : Nat) (S : mw_M) (h0 : Nat) (x1 : Int32) : Option (mw_M) :=
  mw_b2 (mw_v S h0 2 (pf_X2_open G N S h0)) fun v1 S1 =>
  mw_b2 (mw_v S1 v1 1 (pf_X1_number G N S1 v1)) fun v2 S2 =>
  mw_b2 (mw_v S2 h0 2 (pf_X2_open G N S2 h0)) fun v3 S3 =>
  mw_b2 (mw_v S3 v3 1 (pf_X1_body G N S3 v3)) fun v4 S4 =>
  mw_b2 (mw_v S4 v4 0 (pf_X0_length G N S4 v4)) fun v5 S5 =>
  if v5 ≤ 0 then
    pf_X2_finishOpen_33 G N h0 x1 (v2 + 1) S5
  else
    (mw_gi S5 h0 2 1).bind fun v6 =>
    (mw_pf S5 h0 2 1 (.int (v6 + 1))).bind fun S7 =>
    pf_X2_finishOpen_33 G N h0 x1 (v2 + 1) S7
def pf_X8_rotate_64 (G : Nat → ClassId) (N : Nat) : Nat → Nat → Nat → Int32 → mw_M → Option (mw_M)
  | 0, _, _, _, _ => none
  | n + 1, y0, y1, y2, S =>
    if 3 ≤ y2 then
      (mw_gr S y0 8 10).bind fun v1 =>
      (mw_gi S y0 8 13).bind fun v2 =>
      (mw_v S v1 2 (pf_X2_finishOpen G N S v1 v2)).bind fun S3 =>
      some S3
    else
      (mw_gr S y0 8 3).bind fun v4 =>
      (mw_aq S v4 (G 4) y2).bind fun v5 =>
      mw_b2 (mw_v S v5 3 (pf_X3_takeLostInChunk G N S v5)) fun v6 S6 =>
      if v6 ≤ 0 then
        pf_X8_rotate_64 G N n y0 y1 (y2 + 1) S6
      else
        (mw_v S6 y1 1 (pf_X1_addLoss G N S6 y1 y2 v6)).bind fun S7 =>
        pf_X8_rotate_64 G N n y0 y1 (y2 + 1) S7
def pf_X8_rotate_35 (G : Nat → ClassId) (N : Nat) : Nat → Nat → Nat → Int32 → mw_M → Option (mw_M)
  | 0, _, _, _, _ => none
  | n + 1, y0, y1, y2, S =>
    if 3 ≤ y2 then
      pf_X8_rotate_64 G N N y0 y1 0 S
    else
      (mw_gr S y0 8 3).bind fun v1 =>
      (mw_aq S v1 (G 4) y2).bind fun v2 =>
      mw_b2 (mw_v S v2 3 (pf_X3_buffer G N S v2)) fun v3 S3 =>
      mw_b2 (mw_v S3 y1 1 (pf_X1_body G N S3 y1)) fun v4 S4 =>
      (mw_v S4 v3 0 (pf_X0_moveTo G N S4 v3 v4)).bind fun S5 =>
      pf_X8_rotate_35 G N n y0 y1 (y2 + 1) S5
def pf_X8_rotate_10 (G : Nat → ClassId) (N : Nat) : Nat → Nat → Nat → Int32 → mw_M → Option (mw_M)
  | 0, _, _, _, _ => none
  | n + 1, y0, y1, y2, S =>
    if 4 ≤ y2 then
      pf_X8_rotate_35 G N N y0 y1 0 S
    else
      (mw_gr S y0 8 9).bind fun v1 =>
      mw_b2 (mw_v S y1 1 (pf_X1_body G N S y1)) fun v2 S2 =>
      mw_b2 (mw_v S2 v1 4 (pf_X4_moveFirstTo G N S2 v1 v2)) fun v3 S3 =>
      pf_X8_rotate_10 G N n y0 y1 (y2 + 1) S3
def pf_X8_rotate (G : Nat → ClassId) (N : Nat) (S : mw_M) (h0 : Nat) : Option (mw_M) :=
  (mw_gr S h0 8 10).bind fun v1 =>
  mw_b2 (mw_v S v1 2 (pf_X2_open G N S v1)) fun v2 S2 =>
  pf_X8_rotate_10 G N N h0 v2 0 S2
def pf_X8_flush (G : Nat → ClassId) (N : Nat) (S : mw_M) (h0 : Nat) : Option (Int32 × mw_M) :=
  (mw_gr S h0 8 10).bind fun v1 =>
  mw_b2 (mw_v S v1 2 (pf_X2_open G N S v1)) fun v2 S2 =>
  (mw_gr S2 h0 8 9).bind fun v3 =>
  mw_b2 (mw_v S2 v2 1 (pf_X1_body G N S2 v2)) fun v4 S4 =>
  mw_b2 (mw_v S4 v3 4 (pf_X4_moveFirstTo G N S4 v3 v4)) fun v5 S5 =>
  mw_b2 (mw_v S5 v2 1 (pf_X1_body G N S5 v2)) fun v6 S6 =>
  mw_b2 (mw_v S6 v6 0 (pf_X0_length G N S6 v6)) fun v7 S7 =>
  if v7 ≤ 150 then
    some (v5, S7)
  else
    (mw_v S7 h0 8 (pf_X8_rotate G N S7 h0)).bind fun S8 =>
    some (v5, S8)
def pf_X8_record (G : Nat → ClassId) (N : Nat) (S : mw_M) (h0 : Nat) : Option (Nat × Int32 × mw_M) :=
  (mw_gi S h0 8 8).bind fun v1 =>
  if v1 < 4 then
    (mw_gi S h0 8 8).bind fun v2 =>
    (mw_pf S h0 8 8 (.int (v2 + 1))).bind fun S3 =>
    (mw_gi S3 h0 8 8).bind fun v4 =>
    some (0, (v4 - 1), S3)
  else
    some (2, 0, S)
def pf_X7_digitAt (G : Nat → ClassId) (N : Nat) (S : mw_M) (h0 : Nat) (x1 : Int32) : Option (Int32 × mw_M) :=
  mw_b2 (mw_v S h0 7 (pf_X7_at G N S h0 x1)) fun v1 S1 =>
  if v1 < 48 then
    some ((-1), S1)
  else
    if 57 < v1 then
      some ((-1), S1)
    else
      some ((v1 - 48), S1)
def pf_X8_itemEnd_78 (G : Nat → ClassId) (N : Nat) (y1 : Int32) (y2 : Int32) (S : mw_M) : Option (Int32 × mw_M) :=
  some (((y1 + 2) + y2), S)
def pf_X8_itemEnd_51 (G : Nat → ClassId) (N : Nat) : Nat → Nat → Int32 → Int32 → mw_M → Option (Int32 × mw_M)
  | 0, _, _, _, _ => none
  | n + 1, y0, y1, y2, S =>
    if 3 ≤ y2 then
      pf_X8_itemEnd_78 G N y1 y2 S
    else
      (mw_gr S y0 8 1).bind fun v1 =>
      mw_b2 (mw_v S v1 7 (pf_X7_digitAt G N S v1 ((y1 + 2) + y2))) fun v2 S2 =>
      if v2 = (-1) then
        pf_X8_itemEnd_78 G N y1 y2 S2
      else
        pf_X8_itemEnd_51 G N n y0 y1 (y2 + 1) S2
def pf_X8_itemEnd (G : Nat → ClassId) (N : Nat) (S : mw_M) (h0 : Nat) (x1 : Int32) : Option (Int32 × mw_M) :=
  (mw_gr S h0 8 1).bind fun v1 =>
  mw_b2 (mw_v S v1 7 (pf_X7_digitAt G N S v1 x1)) fun v2 S2 =>
  mw_b2 (mw_v S2 h0 8 (pf_X8_isType G N S2 h0 v2)) fun v3 S3 =>
  if ¬ v3 = 0 then
    (mw_gr S3 h0 8 1).bind fun v4 =>
    mw_b2 (mw_v S3 v4 7 (pf_X7_at G N S3 v4 (x1 + 1))) fun v5 S5 =>
    if v5 = 43 then
      pf_X8_itemEnd_51 G N N h0 x1 0 S5
    else
      (mw_gr S5 h0 8 1).bind fun v6 =>
      mw_b2 (mw_v S5 v6 7 (pf_X7_at G N S5 v6 (x1 + 1))) fun v7 S7 =>
      if v7 = 45 then
        pf_X8_itemEnd_51 G N N h0 x1 0 S7
      else
        some ((-1), S7)
  else
    some ((-1), S3)
def pf_X8_countItems_34 (G : Nat → ClassId) (N : Nat) (k5 : Nat → Int32 → Int32 → Int32 → mw_M → Option (Int32 × mw_M)) (y0 : Nat) (y2 : Int32) (y4 : Int32) (y5 : Int32) (S : mw_M) : Option (Int32 × mw_M) :=
  if y5 = (-1) then
    some ((-1), S)
  else
    (mw_gr S y0 8 1).bind fun v1 =>
    mw_b2 (mw_v S v1 7 (pf_X7_at G N S v1 y5)) fun v2 S2 =>
    if v2 = 44 then
      k5 y0 y2 (y5 + 1) (y4 + 1) S2
    else
      some ((-1), S2)
def pf_X8_countItems_5 (G : Nat → ClassId) (N : Nat) : Nat → Nat → Int32 → Int32 → Int32 → mw_M → Option (Int32 × mw_M)
  | 0, _, _, _, _, _ => none
  | n + 1, y0, y2, y3, y4, S =>
    if 40 < y4 then
      some ((-1), S)
    else
      mw_b2 (mw_v S y0 8 (pf_X8_itemEnd G N S y0 y3)) fun v1 S1 =>
      if v1 = (-1) then
        pf_X8_countItems_34 G N (pf_X8_countItems_5 G N n) y0 y2 y4 v1 S1
      else
        if ¬ v1 = y2 then
          pf_X8_countItems_34 G N (pf_X8_countItems_5 G N n) y0 y2 y4 v1 S1
        else
          some (y4, S1)
def pf_X8_countItems (G : Nat → ClassId) (N : Nat) (S : mw_M) (h0 : Nat) (x1 : Int32) (x2 : Int32) : Option (Int32 × mw_M) :=
  pf_X8_countItems_5 G N N h0 x2 x1 1 S
def pf_X8_isRecording (G : Nat → ClassId) (N : Nat) (S : mw_M) (h0 : Nat) (x1 : Int32) : Option (Int32 × mw_M) :=
  if x1 < 0 then
    if vp_nar .boolean 0 = 0 then some (0, S) else none
  else
    (mw_gi S h0 8 8).bind fun v1 =>
    if v1 ≤ x1 then
      if vp_nar .boolean 0 = 0 then some (0, S) else none
    else
      if vp_nar .boolean 1 = 1 then some (1, S) else none
def pf_X5_turn (G : Nat → ClassId) (N : Nat) (S : mw_M) (h0 : Nat) (x1 : Int32) (x2 : Int32) : Option (mw_M) :=
  if x1 < 0 then
    some S
  else
    if 6 ≤ x1 then
      some S
    else
      (mw_gr S h0 5 0).bind fun v1 =>
      if ¬ x2 = 0 then
        (mw_si S v1 (G 3) x1 (vp_nar .boolean 0)).bind fun S2 =>
        some S2
      else
        (mw_si S v1 (G 3) x1 (vp_nar .boolean 1)).bind fun S3 =>
        some S3
def pf_X5_limit (G : Nat → ClassId) (N : Nat) (S : mw_M) (h0 : Nat) (x1 : Int32) (x2 : Int32) : Option (mw_M) :=
  if x1 < 0 then
    some S
  else
    if 6 ≤ x1 then
      some S
    else
      (mw_gr S h0 5 1).bind fun v1 =>
      (mw_si S v1 (G 0) x1 x2).bind fun S2 =>
      some S2
def pf_X8_applyItem_44 (G : Nat → ClassId) (N : Nat) : Nat → Nat → Nat → Int32 → Int32 → Int32 → Int32 → Int32 → mw_M → Option (mw_M)
  | 0, _, _, _, _, _, _, _, _ => none
  | n + 1, y0, y1, y2, y3, y4, y5, y6, S =>
    if y3 ≤ y6 then
      if y3 ≤ (y2 + 2) then
        some S
      else
        (mw_v S y1 5 (pf_X5_limit G N S y1 y4 y5)).bind fun S1 =>
        some S1
    else
      (mw_gr S y0 8 1).bind fun v2 =>
      mw_b2 (mw_v S v2 7 (pf_X7_digitAt G N S v2 y6)) fun v3 S3 =>
      pf_X8_applyItem_44 G N n y0 y1 y2 y3 y4 ((10 * y5) + v3) (y6 + 1) S3
def pf_X8_applyItem_33 (G : Nat → ClassId) (N : Nat) (y0 : Nat) (y1 : Nat) (y2 : Int32) (y3 : Int32) (y4 : Int32) (w0 : Nat) (w1 : Int32) (w2 : Int32) (S : mw_M) : Option (mw_M) :=
  (mw_v S w0 5 (pf_X5_turn G N S w0 w1 w2)).bind fun S1 =>
  pf_X8_applyItem_44 G N N y0 y1 y2 y3 y4 0 (y2 + 2) S1
def pf_X8_applyItem (G : Nat → ClassId) (N : Nat) (S : mw_M) (h0 : Nat) (x1 : Nat) (x2 : Int32) (x3 : Int32) : Option (mw_M) :=
  (mw_gr S h0 8 1).bind fun v1 =>
  mw_b2 (mw_v S v1 7 (pf_X7_digitAt G N S v1 x2)) fun v2 S2 =>
  (mw_gr S2 h0 8 1).bind fun v3 =>
  mw_b2 (mw_v S2 v3 7 (pf_X7_at G N S2 v3 (x2 + 1))) fun v4 S4 =>
  if ¬ v4 = 43 then
    pf_X8_applyItem_33 G N h0 x1 x2 x3 v2 x1 v2 0 S4
  else
    pf_X8_applyItem_33 G N h0 x1 x2 x3 v2 x1 v2 1 S4
def pf_X8_applyItems_6 (G : Nat → ClassId) (N : Nat) : Nat → Nat → Nat → Int32 → Int32 → Int32 → mw_M → Option (mw_M)
  | 0, _, _, _, _, _, _ => none
  | n + 1, y0, y1, y3, y4, y5, S =>
    if y3 ≤ y5 then
      some S
    else
      mw_b2 (mw_v S y0 8 (pf_X8_itemEnd G N S y0 y4)) fun v1 S1 =>
      (mw_v S1 y0 8 (pf_X8_applyItem G N S1 y0 y1 y4 v1)).bind fun S2 =>
      pf_X8_applyItems_6 G N n y0 y1 y3 (v1 + 1) (y5 + 1) S2
def pf_X8_applyItems (G : Nat → ClassId) (N : Nat) (S : mw_M) (h0 : Nat) (x1 : Nat) (x2 : Int32) (x3 : Int32) : Option (mw_M) :=
  pf_X8_applyItems_6 G N N h0 x1 x3 x2 0 S
def pf_X8_settings_77 (G : Nat → ClassId) (N : Nat) (y0 : Nat) (y2 : Int32) (y3 : Int32) (y4 : Int32) (S : mw_M) : Option (Nat × Int32 × mw_M) :=
  (mw_gr S y0 8 1).bind fun v1 =>
  (mw_v S v1 7 (pf_X7_clear G N S v1)).bind fun S2 =>
  if ¬ y3 = 0 then
    if y4 = 0 then
      some (0, y2, S2)
    else
      some (2, 0, S2)
  else
    some (1, 0, S2)
def pf_X8_settings_54 (G : Nat → ClassId) (N : Nat) (y0 : Nat) (y1 : Int32) (y2 : Int32) (y3 : Int32) (w0 : Int32) (S : mw_M) : Option (Nat × Int32 × mw_M) :=
  if y3 = 0 then
    pf_X8_settings_77 G N y0 y2 y3 w0 S
  else
    if ¬ w0 = 0 then
      pf_X8_settings_77 G N y0 y2 y3 w0 S
    else
      (mw_gr S y0 8 7).bind fun v1 =>
      (mw_aq S v1 (G 5) y1).bind fun v2 =>
      (mw_v S y0 8 (pf_X8_applyItems G N S y0 v2 0 y2)).bind fun S3 =>
      pf_X8_settings_77 G N y0 y2 y3 w0 S3
def pf_X8_settings_53 (G : Nat → ClassId) (N : Nat) (y0 : Nat) (y1 : Int32) (y2 : Int32) (y3 : Int32) (S : mw_M) : Option (Nat × Int32 × mw_M) :=
  pf_X8_settings_54 G N y0 y1 y2 y3 0 S
def pf_X8_settings_31 (G : Nat → ClassId) (N : Nat) (y0 : Nat) (y1 : Int32) (y2 : Int32) (w0 : Int32) (S : mw_M) : Option (Nat × Int32 × mw_M) :=
  if w0 = 0 then
    pf_X8_settings_53 G N y0 y1 y2 w0 S
  else
    (mw_gr S y0 8 7).bind fun v1 =>
    (mw_aq S v1 (G 5) y1).bind fun v2 =>
    mw_b2 (mw_v S v2 5 (pf_X5_is G N S v2 3)) fun v3 S3 =>
    if v3 = 0 then
      pf_X8_settings_53 G N y0 y1 y2 w0 S3
    else
      pf_X8_settings_54 G N y0 y1 y2 w0 1 S3
def pf_X8_settings_30 (G : Nat → ClassId) (N : Nat) (y0 : Nat) (y1 : Int32) (y2 : Int32) (S : mw_M) : Option (Nat × Int32 × mw_M) :=
  pf_X8_settings_31 G N y0 y1 y2 0 S
def pf_X8_settings (G : Nat → ClassId) (N : Nat) (S : mw_M) (h0 : Nat) (x1 : Int32) : Option (Nat × Int32 × mw_M) :=
  (mw_gr S h0 8 1).bind fun v1 =>
  mw_b2 (mw_v S v1 7 (pf_X7_length G N S v1)) fun v2 S2 =>
  mw_b2 (mw_v S2 h0 8 (pf_X8_countItems G N S2 h0 0 v2)) fun v3 S3 =>
  mw_b2 (mw_v S3 h0 8 (pf_X8_isRecording G N S3 h0 x1)) fun v4 S4 =>
  if v4 = 0 then
    pf_X8_settings_30 G N h0 x1 v3 S4
  else
    if v3 = (-1) then
      pf_X8_settings_30 G N h0 x1 v3 S4
    else
      pf_X8_settings_31 G N h0 x1 v3 1 S4
def pf_X8_carryOutPart (G : Nat → ClassId) (N : Nat) (S : mw_M) (h0 : Nat) (x1 : Int32) (x2 : Int32) : Option (Int32 × mw_M) :=
  (mw_gr S h0 8 1).bind fun v1 =>
  mw_b2 (mw_v S v1 7 (pf_X7_digitAt G N S v1 x1)) fun v2 S2 =>
  mw_b2 (mw_v S2 h0 8 (pf_X8_isRecording G N S2 h0 v2)) fun v3 S3 =>
  if v3 = 0 then
    if vp_nar .boolean 0 = 0 then some (0, S3) else none
  else
    (mw_gr S3 h0 8 7).bind fun v4 =>
    (mw_aq S3 v4 (G 5) v2).bind fun v5 =>
    mw_b2 (mw_v S3 v5 5 (pf_X5_is G N S3 v5 3)) fun v6 S6 =>
    if ¬ v6 = 0 then
      if vp_nar .boolean 0 = 0 then some (0, S6) else none
    else
      (mw_gr S6 h0 8 1).bind fun v7 =>
      mw_b2 (mw_v S6 v7 7 (pf_X7_at G N S6 v7 (x1 + 1))) fun v8 S8 =>
      if v8 = 58 then
        mw_b2 (mw_v S8 h0 8 (pf_X8_countItems G N S8 h0 (x1 + 2) x2)) fun v9 S9 =>
        if ¬ v9 = (-1) then
          (mw_gr S9 h0 8 7).bind fun v10 =>
          (mw_aq S9 v10 (G 5) v2).bind fun v11 =>
          (mw_v S9 h0 8 (pf_X8_applyItems G N S9 h0 v11 (x1 + 2) v9)).bind fun S12 =>
          if vp_nar .boolean 1 = 1 then some (1, S12) else none
        else
          if vp_nar .boolean 0 = 0 then some (0, S9) else none
      else
        if vp_nar .boolean 0 = 0 then some (0, S8) else none
def pf_X8_profile_66 (G : Nat → ClassId) (N : Nat) (k9 : Nat → Int32 → Int32 → Int32 → Int32 → mw_M → Option (Int32 × mw_M)) (y0 : Nat) (y1 : Int32) (y2 : Int32) (y4 : Int32) (S : mw_M) : Option (Int32 × mw_M) :=
  k9 y0 y1 y2 (y4 + 1) (y4 + 1) S
def pf_X8_profile_47 (G : Nat → ClassId) (N : Nat) (k9 : Nat → Int32 → Int32 → Int32 → Int32 → mw_M → Option (Int32 × mw_M)) (y0 : Nat) (y1 : Int32) (y2 : Int32) (y3 : Int32) (y4 : Int32) (S : mw_M) : Option (Int32 × mw_M) :=
  mw_b2 (mw_v S y0 8 (pf_X8_carryOutPart G N S y0 y3 y4)) fun v1 S1 =>
  if v1 = 0 then
    pf_X8_profile_66 G N k9 y0 y1 (y2 + 1) y4 S1
  else
    pf_X8_profile_66 G N k9 y0 (y1 + 1) y2 y4 S1
def pf_X8_profile_9 (G : Nat → ClassId) (N : Nat) : Nat → Nat → Int32 → Int32 → Int32 → Int32 → mw_M → Option (Int32 × mw_M)
  | 0, _, _, _, _, _, _ => none
  | n + 1, y0, y1, y2, y3, y4, S =>
    (mw_gr S y0 8 1).bind fun v1 =>
    mw_b2 (mw_v S v1 7 (pf_X7_length G N S v1)) fun v2 S2 =>
    if v2 < y4 then
      (mw_gr S2 y0 8 1).bind fun v3 =>
      (mw_v S2 v3 7 (pf_X7_clear G N S2 v3)).bind fun S4 =>
      some (((10 * y1) + y2), S4)
    else
      (mw_gr S2 y0 8 1).bind fun v5 =>
      mw_b2 (mw_v S2 v5 7 (pf_X7_length G N S2 v5)) fun v6 S6 =>
      if y4 = v6 then
        pf_X8_profile_47 G N (pf_X8_profile_9 G N n) y0 y1 y2 y3 y4 S6
      else
        (mw_gr S6 y0 8 1).bind fun v7 =>
        mw_b2 (mw_v S6 v7 7 (pf_X7_at G N S6 v7 y4)) fun v8 S8 =>
        if ¬ v8 = 124 then
          pf_X8_profile_9 G N n y0 y1 y2 y3 (y4 + 1) S8
        else
          pf_X8_profile_47 G N (pf_X8_profile_9 G N n) y0 y1 y2 y3 y4 S8
def pf_X8_profile (G : Nat → ClassId) (N : Nat) (S : mw_M) (h0 : Nat) : Option (Int32 × mw_M) :=
  pf_X8_profile_9 G N N h0 0 0 0 0 S
def pf_X5_runFrom (G : Nat → ClassId) (N : Nat) (S : mw_M) (h0 : Nat) (x1 : Int32) : Option (mw_M) :=
  (mw_pf S h0 5 2 (.int 1)).bind fun S1 =>
  (mw_pf S1 h0 5 3 (.int x1)).bind fun S2 =>
  some S2
def pf_X8_start (G : Nat → ClassId) (N : Nat) (S : mw_M) (h0 : Nat) (x1 : Int32) : Option (Nat × Int32 × mw_M) :=
  mw_b2 (mw_v S h0 8 (pf_X8_isRecording G N S h0 x1)) fun v1 S1 =>
  if ¬ v1 = 0 then
    (mw_gr S1 h0 8 7).bind fun v2 =>
    (mw_aq S1 v2 (G 5) x1).bind fun v3 =>
    mw_b2 (mw_v S1 v3 5 (pf_X5_is G N S1 v3 0)) fun v4 S4 =>
    if ¬ v4 = 0 then
      (mw_v S4 h0 8 (pf_X8_rotate G N S4 h0)).bind fun S5 =>
      (mw_gr S5 h0 8 10).bind fun v6 =>
      mw_b2 (mw_v S5 v6 2 (pf_X2_open G N S5 v6)) fun v7 S7 =>
      mw_b2 (mw_v S7 v7 1 (pf_X1_number G N S7 v7)) fun v8 S8 =>
      (mw_gr S8 h0 8 7).bind fun v9 =>
      (mw_aq S8 v9 (G 5) x1).bind fun v10 =>
      (mw_v S8 v10 5 (pf_X5_runFrom G N S8 v10 v8)).bind fun S11 =>
      some (0, v8, S11)
    else
      some (2, 0, S4)
  else
    some (1, 0, S1)
def pf_X5_endWith (G : Nat → ClassId) (N : Nat) (S : mw_M) (h0 : Nat) (x1 : Int32) : Option (mw_M) :=
  (mw_pf S h0 5 2 (.int 2)).bind fun S1 =>
  (mw_pf S1 h0 5 4 (.int x1)).bind fun S2 =>
  some S2
def pf_X8_endRecording (G : Nat → ClassId) (N : Nat) (S : mw_M) (h0 : Nat) (x1 : Nat) : Option (Int32 × mw_M) :=
  (mw_gr S h0 8 10).bind fun v1 =>
  mw_b2 (mw_v S v1 2 (pf_X2_open G N S v1)) fun v2 S2 =>
  mw_b2 (mw_v S2 v2 1 (pf_X1_number G N S2 v2)) fun v3 S3 =>
  (mw_v S3 h0 8 (pf_X8_rotate G N S3 h0)).bind fun S4 =>
  (mw_v S4 x1 5 (pf_X5_endWith G N S4 x1 v3)).bind fun S5 =>
  some (v3, S5)
def pf_X8_stop (G : Nat → ClassId) (N : Nat) (S : mw_M) (h0 : Nat) (x1 : Int32) : Option (Nat × Int32 × mw_M) :=
  mw_b2 (mw_v S h0 8 (pf_X8_isRecording G N S h0 x1)) fun v1 S1 =>
  if ¬ v1 = 0 then
    (mw_gr S1 h0 8 7).bind fun v2 =>
    (mw_aq S1 v2 (G 5) x1).bind fun v3 =>
    mw_b2 (mw_v S1 v3 5 (pf_X5_is G N S1 v3 1)) fun v4 S4 =>
    if ¬ v4 = 0 then
      (mw_gr S4 h0 8 7).bind fun v5 =>
      (mw_aq S4 v5 (G 5) x1).bind fun v6 =>
      mw_b2 (mw_v S4 h0 8 (pf_X8_endRecording G N S4 h0 v6)) fun v7 S7 =>
      some (0, v7, S7)
    else
      some (2, 0, S4)
  else
    some (1, 0, S1)
def pf_X5_shut (G : Nat → ClassId) (N : Nat) (S : mw_M) (h0 : Nat) : Option (mw_M) :=
  (mw_pf S h0 5 2 (.int 3)).bind fun S1 =>
  some S1
def pf_X8_close_59 (G : Nat → ClassId) (N : Nat) (y2 : Nat) (y3 : Int32) (S : mw_M) : Option (Nat × Int32 × mw_M) :=
  (mw_v S y2 5 (pf_X5_shut G N S y2)).bind fun S1 =>
  if vp_nar .boolean y3 = y3 then some (0, y3, S1) else none
def pf_X8_close (G : Nat → ClassId) (N : Nat) (S : mw_M) (h0 : Nat) (x1 : Int32) : Option (Nat × Int32 × mw_M) :=
  mw_b2 (mw_v S h0 8 (pf_X8_isRecording G N S h0 x1)) fun v1 S1 =>
  if ¬ v1 = 0 then
    (mw_gr S1 h0 8 7).bind fun v2 =>
    (mw_aq S1 v2 (G 5) x1).bind fun v3 =>
    mw_b2 (mw_v S1 v3 5 (pf_X5_is G N S1 v3 3)) fun v4 S4 =>
    if v4 = 0 then
      mw_b2 (mw_v S4 v3 5 (pf_X5_is G N S4 v3 1)) fun v5 S5 =>
      if v5 = 0 then
        pf_X8_close_59 G N v3 v5 S5
      else
        mw_b2 (mw_v S5 h0 8 (pf_X8_endRecording G N S5 h0 v3)) fun v6 S6 =>
        pf_X8_close_59 G N v3 v5 S6
    else
      some (2, 0, S4)
  else
    some (1, 0, S1)
def pf_X5_firstChunk (G : Nat → ClassId) (N : Nat) (S : mw_M) (h0 : Nat) : Option (Int32 × mw_M) :=
  (mw_gi S h0 5 3).bind fun v1 =>
  some (v1, S)
def pf_X5_lastChunk (G : Nat → ClassId) (N : Nat) (S : mw_M) (h0 : Nat) : Option (Int32 × mw_M) :=
  (mw_gi S h0 5 4).bind fun v1 =>
  some (v1, S)
def pf_X1_countStrings_4 (G : Nat → ClassId) (N : Nat) : Nat → Nat → Int32 → Int32 → mw_M → Option (Int32 × mw_M)
  | 0, _, _, _, _ => none
  | n + 1, y0, y1, y2, S =>
    if 24 ≤ y2 then
      some (y1, S)
    else
      (mw_gr S y0 1 1).bind fun v1 =>
      (mw_ai S v1 (G 3) y2).bind fun v2 =>
      if v2 = 0 then
        pf_X1_countStrings_4 G N n y0 y1 (y2 + 1) S
      else
        pf_X1_countStrings_4 G N n y0 (y1 + 1) (y2 + 1) S
def pf_X1_countStrings (G : Nat → ClassId) (N : Nat) (S : mw_M) (h0 : Nat) : Option (Int32 × mw_M) :=
  pf_X1_countStrings_4 G N N h0 0 0 S
def pf_X6_writeTo_30 (G : Nat → ClassId) (N : Nat) : Nat → Nat → Nat → Int32 → Int32 → mw_M → Option (mw_M)
  | 0, _, _, _, _, _ => none
  | n + 1, y0, y1, y2, y3, S =>
    (mw_gr S y0 6 1).bind fun v1 =>
    (mw_ai S v1 (G 0) y2).bind fun v2 =>
    if v2 ≤ y3 then
      some S
    else
      (mw_gr S y0 6 0).bind fun v3 =>
      (mw_ai S v3 (G 2) ((y2 * 8) + y3)).bind fun v4 =>
      (mw_v S y1 0 (pf_X0_add G N S y1 v4)).bind fun S5 =>
      pf_X6_writeTo_30 G N n y0 y1 y2 (y3 + 1) S5
def pf_X6_writeTo (G : Nat → ClassId) (N : Nat) (S : mw_M) (h0 : Nat) (x1 : Nat) (x2 : Int32) : Option (mw_M) :=
  if x2 < 0 then
    some S
  else
    (mw_gi S h0 6 2).bind fun v1 =>
    if x2 < v1 then
      (mw_v S x1 0 (pf_X0_addVariable G N S x1 x2)).bind fun S2 =>
      (mw_gr S2 h0 6 1).bind fun v3 =>
      (mw_ai S2 v3 (G 0) x2).bind fun v4 =>
      (mw_v S2 x1 0 (pf_X0_addVariable G N S2 x1 v4)).bind fun S5 =>
      pf_X6_writeTo_30 G N N h0 x1 x2 0 S5
    else
      some S
def pf_X1_writeTo_53 (G : Nat → ClassId) (N : Nat) : Nat → Nat → Nat → Nat → Int32 → mw_M → Option (mw_M)
  | 0, _, _, _, _, _ => none
  | n + 1, y0, y1, y2, y3, S =>
    if 24 ≤ y3 then
      some S
    else
      (mw_gr S y0 1 1).bind fun v1 =>
      (mw_ai S v1 (G 3) y3).bind fun v2 =>
      if v2 = 0 then
        pf_X1_writeTo_53 G N n y0 y1 y2 (y3 + 1) S
      else
        (mw_v S y2 6 (pf_X6_writeTo G N S y2 y1 y3)).bind fun S3 =>
        pf_X1_writeTo_53 G N n y0 y1 y2 (y3 + 1) S3
def pf_X1_writeTo (G : Nat → ClassId) (N : Nat) (S : mw_M) (h0 : Nat) (x1 : Nat) (x2 : Nat) : Option (mw_M) :=
  (mw_v S x1 0 (pf_X0_add G N S x1 70)).bind fun S1 =>
  (mw_gi S1 h0 1 2).bind fun v2 =>
  (mw_v S1 x1 0 (pf_X0_addVariable G N S1 x1 v2)).bind fun S3 =>
  (mw_gi S3 h0 1 3).bind fun v4 =>
  (mw_v S3 x1 0 (pf_X0_addVariable G N S3 x1 v4)).bind fun S5 =>
  (mw_gi S5 h0 1 4).bind fun v6 =>
  (mw_v S5 x1 0 (pf_X0_addVariable G N S5 x1 v6)).bind fun S7 =>
  (mw_gr S7 h0 1 0).bind fun v8 =>
  (mw_v S7 x1 0 (pf_X0_addRow G N S7 x1 v8)).bind fun S9 =>
  (mw_v S9 x1 0 (pf_X0_add G N S9 x1 0)).bind fun S10 =>
  mw_b2 (mw_v S10 h0 1 (pf_X1_countStrings G N S10 h0)) fun v11 S11 =>
  (mw_v S11 x1 0 (pf_X0_addVariable G N S11 x1 v11)).bind fun S12 =>
  pf_X1_writeTo_53 G N N h0 x1 x2 0 S12
def pf_X2_writeKept_3 (G : Nat → ClassId) (N : Nat) : Nat → Nat → Nat → Nat → Int32 → Int32 → Int32 → mw_M → Option (mw_M)
  | 0, _, _, _, _, _, _, _ => none
  | n + 1, y0, y1, y2, y3, y4, y5, S =>
    (mw_gi S y0 2 1).bind fun v1 =>
    if v1 ≤ y5 then
      some S
    else
      (mw_gr S y0 2 0).bind fun v2 =>
      (mw_aq S v2 (G 7) y5).bind fun v3 =>
      mw_b2 (mw_v S v3 1 (pf_X1_number G N S v3)) fun v4 S4 =>
      if v4 < y3 then
        pf_X2_writeKept_3 G N n y0 y1 y2 y3 y4 (y5 + 1) S4
      else
        (mw_gr S4 y0 2 0).bind fun v5 =>
        (mw_aq S4 v5 (G 7) y5).bind fun v6 =>
        mw_b2 (mw_v S4 v6 1 (pf_X1_number G N S4 v6)) fun v7 S7 =>
        if y4 < v7 then
          pf_X2_writeKept_3 G N n y0 y1 y2 y3 y4 (y5 + 1) S7
        else
          (mw_gr S7 y0 2 0).bind fun v8 =>
          (mw_aq S7 v8 (G 7) y5).bind fun v9 =>
          (mw_v S7 v9 1 (pf_X1_writeTo G N S7 v9 y1 y2)).bind fun S10 =>
          pf_X2_writeKept_3 G N n y0 y1 y2 y3 y4 (y5 + 1) S10
def pf_X2_writeKept (G : Nat → ClassId) (N : Nat) (S : mw_M) (h0 : Nat) (x1 : Nat) (x2 : Nat) (x3 : Int32) (x4 : Int32) : Option (mw_M) :=
  pf_X2_writeKept_3 G N N h0 x1 x2 x3 x4 0 S
def pf_X8_dump_41 (G : Nat → ClassId) (N : Nat) (S : mw_M) : Option (Nat × Int32 × mw_M) :=
  some (2, 0, S)
def pf_X8_dump_63 (G : Nat → ClassId) (N : Nat) (y0 : Nat) (y2 : Nat) (S : mw_M) : Option (Nat × Int32 × mw_M) :=
  (mw_gr S y0 8 12).bind fun v1 =>
  (mw_v S v1 0 (pf_X0_clear G N S v1)).bind fun S2 =>
  (mw_gr S2 y0 8 10).bind fun v3 =>
  (mw_gr S2 y0 8 12).bind fun v4 =>
  (mw_gr S2 y0 8 2).bind fun v5 =>
  mw_b2 (mw_v S2 y2 5 (pf_X5_firstChunk G N S2 y2)) fun v6 S6 =>
  mw_b2 (mw_v S6 y2 5 (pf_X5_lastChunk G N S6 y2)) fun v7 S7 =>
  (mw_v S7 v3 2 (pf_X2_writeKept G N S7 v3 v4 v5 v6 v7)).bind fun S8 =>
  (mw_gr S8 y0 8 12).bind fun v9 =>
  mw_b2 (mw_v S8 v9 0 (pf_X0_length G N S8 v9)) fun v10 S10 =>
  some (0, v10, S10)
def pf_X8_dump (G : Nat → ClassId) (N : Nat) (S : mw_M) (h0 : Nat) (x1 : Int32) : Option (Nat × Int32 × mw_M) :=
  mw_b2 (mw_v S h0 8 (pf_X8_isRecording G N S h0 x1)) fun v1 S1 =>
  if ¬ v1 = 0 then
    (mw_gr S1 h0 8 7).bind fun v2 =>
    (mw_aq S1 v2 (G 5) x1).bind fun v3 =>
    mw_b2 (mw_v S1 v3 5 (pf_X5_is G N S1 v3 0)) fun v4 S4 =>
    if ¬ v4 = 0 then
      pf_X8_dump_41 G N S4
    else
      mw_b2 (mw_v S4 v3 5 (pf_X5_is G N S4 v3 3)) fun v5 S5 =>
      if v5 = 0 then
        mw_b2 (mw_v S5 v3 5 (pf_X5_is G N S5 v3 1)) fun v6 S6 =>
        if v6 = 0 then
          pf_X8_dump_63 G N h0 v3 S6
        else
          (mw_v S6 h0 8 (pf_X8_rotate G N S6 h0)).bind fun S7 =>
          pf_X8_dump_63 G N h0 v3 S7
      else
        pf_X8_dump_41 G N S5
  else
    some (1, 0, S1)
def pf_X0_at (G : Nat → ClassId) (N : Nat) (S : mw_M) (h0 : Nat) (x1 : Int32) : Option (Int32 × mw_M) :=
  if x1 < 0 then
    some ((-1), S)
  else
    (mw_gi S h0 0 1).bind fun v1 =>
    if v1 ≤ x1 then
      some ((-1), S)
    else
      (mw_gr S h0 0 0).bind fun v2 =>
      (mw_ai S v2 (G 1) x1).bind fun v3 =>
      some ((v3 &&& 255), S)
def pf_X8_output (G : Nat → ClassId) (N : Nat) (S : mw_M) (h0 : Nat) (x1 : Int32) : Option (Int32 × mw_M) :=
  (mw_gr S h0 8 12).bind fun v1 =>
  mw_b2 (mw_v S v1 0 (pf_X0_at G N S v1 x1)) fun v2 S2 =>
  some (v2, S2)
def pf_X5_phase (G : Nat → ClassId) (N : Nat) (S : mw_M) (h0 : Nat) : Option (Int32 × mw_M) :=
  (mw_gi S h0 5 2).bind fun v1 =>
  some (v1, S)
def pf_X8_state (G : Nat → ClassId) (N : Nat) (S : mw_M) (h0 : Nat) (x1 : Int32) : Option (Int32 × mw_M) :=
  mw_b2 (mw_v S h0 8 (pf_X8_isRecording G N S h0 x1)) fun v1 S1 =>
  if v1 = 0 then
    some ((-1), S1)
  else
    (mw_gr S1 h0 8 7).bind fun v2 =>
    (mw_aq S1 v2 (G 5) x1).bind fun v3 =>
    mw_b2 (mw_v S1 v3 5 (pf_X5_phase G N S1 v3)) fun v4 S4 =>
    some (v4, S4)
def pf_X8_threshold (G : Nat → ClassId) (N : Nat) (S : mw_M) (h0 : Nat) (x1 : Int32) (x2 : Int32) : Option (Int32 × mw_M) :=
  mw_b2 (mw_v S h0 8 (pf_X8_isRecording G N S h0 x1)) fun v1 S1 =>
  if v1 = 0 then
    some ((-1), S1)
  else
    mw_b2 (mw_v S1 h0 8 (pf_X8_isType G N S1 h0 x2)) fun v2 S2 =>
    if v2 = 0 then
      some ((-1), S2)
    else
      (mw_gr S2 h0 8 7).bind fun v3 =>
      (mw_aq S2 v3 (G 5) x1).bind fun v4 =>
      mw_b2 (mw_v S2 v4 5 (pf_X5_isOn G N S2 v4 x2)) fun v5 S5 =>
      if ¬ v5 = 0 then
        (mw_gr S5 h0 8 7).bind fun v6 =>
        (mw_aq S5 v6 (G 5) x1).bind fun v7 =>
        mw_b2 (mw_v S5 v7 5 (pf_X5_leastDuration G N S5 v7 x2)) fun v8 S8 =>
        some (v8, S8)
      else
        some ((-1), S5)
def pf_X8_buffered (G : Nat → ClassId) (N : Nat) (S : mw_M) (h0 : Nat) (x1 : Int32) : Option (Int32 × mw_M) :=
  mw_b2 (pf_X8_isThread G N S x1) fun v1 S1 =>
  if v1 = 0 then
    some ((-1), S1)
  else
    (mw_gr S1 h0 8 3).bind fun v2 =>
    (mw_aq S1 v2 (G 4) x1).bind fun v3 =>
    mw_b2 (mw_v S1 v3 3 (pf_X3_buffer G N S1 v3)) fun v4 S4 =>
    mw_b2 (mw_v S4 v4 0 (pf_X0_length G N S4 v4)) fun v5 S5 =>
    some (v5, S5)
def pf_X4_full (G : Nat → ClassId) (N : Nat) (S : mw_M) (h0 : Nat) : Option (Int32 × mw_M) :=
  (mw_gi S h0 4 2).bind fun v1 =>
  some (v1, S)
def pf_X2_kept (G : Nat → ClassId) (N : Nat) (S : mw_M) (h0 : Nat) : Option (Int32 × mw_M) :=
  (mw_gi S h0 2 1).bind fun v1 =>
  some (v1, S)
def pf_X2_evicted (G : Nat → ClassId) (N : Nat) (S : mw_M) (h0 : Nat) : Option (Int32 × mw_M) :=
  (mw_gi S h0 2 2).bind fun v1 =>
  some (v1, S)
def pf_X6_used (G : Nat → ClassId) (N : Nat) (S : mw_M) (h0 : Nat) : Option (Int32 × mw_M) :=
  (mw_gi S h0 6 2).bind fun v1 =>
  some (v1, S)
def pf_X8_count (G : Nat → ClassId) (N : Nat) (S : mw_M) (h0 : Nat) (x1 : Int32) : Option (Int32 × mw_M) :=
  if x1 = 0 then
    (mw_gr S h0 8 9).bind fun v1 =>
    mw_b2 (mw_v S v1 4 (pf_X4_full G N S v1)) fun v2 S2 =>
    some (v2, S2)
  else
  if x1 = 1 then
    (mw_gr S h0 8 10).bind fun v3 =>
    mw_b2 (mw_v S v3 2 (pf_X2_open G N S v3)) fun v4 S4 =>
    mw_b2 (mw_v S4 v4 1 (pf_X1_number G N S4 v4)) fun v5 S5 =>
    some (v5, S5)
  else
  if x1 = 2 then
    (mw_gr S h0 8 10).bind fun v6 =>
    mw_b2 (mw_v S v6 2 (pf_X2_open G N S v6)) fun v7 S7 =>
    mw_b2 (mw_v S7 v7 1 (pf_X1_body G N S7 v7)) fun v8 S8 =>
    mw_b2 (mw_v S8 v8 0 (pf_X0_length G N S8 v8)) fun v9 S9 =>
    some (v9, S9)
  else
  if x1 = 3 then
    (mw_gr S h0 8 10).bind fun v10 =>
    mw_b2 (mw_v S v10 2 (pf_X2_kept G N S v10)) fun v11 S11 =>
    some (v11, S11)
  else
  if x1 = 4 then
    (mw_gr S h0 8 10).bind fun v12 =>
    mw_b2 (mw_v S v12 2 (pf_X2_evicted G N S v12)) fun v13 S13 =>
    some (v13, S13)
  else
  if x1 = 5 then
    (mw_gr S h0 8 2).bind fun v14 =>
    mw_b2 (mw_v S v14 6 (pf_X6_used G N S v14)) fun v15 S15 =>
    some (v15, S15)
  else
  some ((-1), S)
def pf_X3_lostInAll (G : Nat → ClassId) (N : Nat) (S : mw_M) (h0 : Nat) : Option (Int32 × mw_M) :=
  (mw_gi S h0 3 4).bind fun v1 =>
  some (v1, S)
def pf_X8_lost (G : Nat → ClassId) (N : Nat) (S : mw_M) (h0 : Nat) (x1 : Int32) : Option (Int32 × mw_M) :=
  mw_b2 (pf_X8_isThread G N S x1) fun v1 S1 =>
  if v1 = 0 then
    some ((-1), S1)
  else
    (mw_gr S1 h0 8 3).bind fun v2 =>
    (mw_aq S1 v2 (G 4) x1).bind fun v3 =>
    mw_b2 (mw_v S1 v3 3 (pf_X3_lostInAll G N S1 v3)) fun v4 S4 =>
    some (v4, S4)
def pf_X9_init_271 (G : Nat → ClassId) (N : Nat) (y0 : Nat) (w0 : Nat) (w1 : Int32) (S : mw_M) : Option (mw_M) :=
  (mw_pf S w0 9 2 (.int w1)).bind fun S1 =>
  (mw_gr S1 y0 9 23).bind fun v2 =>
  (mw_si S1 v2 (G 0) 6 1).bind fun S3 =>
  some S3
def pf_X9_init_248 (G : Nat → ClassId) (N : Nat) (y0 : Nat) (y3 : Int32) (w0 : Nat) (w1 : Int32) (S : mw_M) : Option (mw_M) :=
  (mw_pf S w0 9 1 (.int w1)).bind fun S1 =>
  if 1 ≤ y3 then
    if y3 ≤ 5 then
      pf_X9_init_271 G N y0 y0 y3 S1
    else
      pf_X9_init_271 G N y0 y0 5 S1
  else
    pf_X9_init_271 G N y0 y0 1 S1
def pf_X9_init_226 (G : Nat → ClassId) (N : Nat) (y0 : Nat) (y2 : Int32) (y3 : Int32) (w0 : Nat) (w1 : Int32) (S : mw_M) : Option (mw_M) :=
  (mw_pf S w0 9 0 (.int w1)).bind fun S1 =>
  if 0 ≤ y2 then
    if y2 ≤ 4 then
      pf_X9_init_248 G N y0 y3 y0 y2 S1
    else
      pf_X9_init_248 G N y0 y3 y0 4 S1
  else
    pf_X9_init_248 G N y0 y3 y0 0 S1
def pf_X9_init (G : Nat → ClassId) (N : Nat) (S : mw_M) (h0 : Nat) (x1 : Int32) (x2 : Int32) (x3 : Int32) : Option (mw_M) :=
  mw_b2 (mw_na S (G 2) 40 40) fun v1 S1 =>
  (mw_pf S1 h0 9 6 (.ref v1)).bind fun S2 =>
  mw_b2 (mw_na S2 (G 0) 6 6) fun v3 S3 =>
  (mw_pf S3 h0 9 8 (.ref v3)).bind fun S4 =>
  mw_b2 (mw_na S4 (G 3) 6 6) fun v5 S5 =>
  (mw_pf S5 h0 9 9 (.ref v5)).bind fun S6 =>
  mw_b2 (mw_na S6 (G 2) 192 192) fun v7 S7 =>
  (mw_pf S7 h0 9 11 (.ref v7)).bind fun S8 =>
  mw_b2 (mw_na S8 (G 0) 24 24) fun v9 S9 =>
  (mw_pf S9 h0 9 12 (.ref v9)).bind fun S10 =>
  mw_b2 (mw_na S10 (G 0) 3 3) fun v11 S11 =>
  (mw_pf S11 h0 9 13 (.ref v11)).bind fun S12 =>
  mw_b2 (mw_na S12 (G 0) 9 9) fun v13 S13 =>
  (mw_pf S13 h0 9 14 (.ref v13)).bind fun S14 =>
  mw_b2 (mw_na S14 (G 0) 420 420) fun v15 S15 =>
  (mw_pf S15 h0 9 15 (.ref v15)).bind fun S16 =>
  mw_b2 (mw_na S16 (G 0) 7 7) fun v17 S17 =>
  (mw_pf S17 h0 9 16 (.ref v17)).bind fun S18 =>
  mw_b2 (mw_na S18 (G 0) 7 7) fun v19 S19 =>
  (mw_pf S19 h0 9 17 (.ref v19)).bind fun S20 =>
  mw_b2 (mw_na S20 (G 0) 4200 4200) fun v21 S21 =>
  (mw_pf S21 h0 9 21 (.ref v21)).bind fun S22 =>
  mw_b2 (mw_na S22 (G 0) 7 7) fun v23 S23 =>
  (mw_pf S23 h0 9 22 (.ref v23)).bind fun S24 =>
  mw_b2 (mw_na S24 (G 0) 7 7) fun v25 S25 =>
  (mw_pf S25 h0 9 23 (.ref v25)).bind fun S26 =>
  mw_b2 (mw_na S26 (G 0) 7 7) fun v27 S27 =>
  (mw_pf S27 h0 9 24 (.ref v27)).bind fun S28 =>
  mw_b2 (mw_na S28 (G 0) 7 7) fun v29 S29 =>
  (mw_pf S29 h0 9 25 (.ref v29)).bind fun S30 =>
  mw_b2 (mw_na S30 (G 0) 7 7) fun v31 S31 =>
  (mw_pf S31 h0 9 26 (.ref v31)).bind fun S32 =>
  mw_b2 (mw_na S32 (G 0) 3 3) fun v33 S33 =>
  (mw_pf S33 h0 9 27 (.ref v33)).bind fun S34 =>
  mw_b2 (mw_na S34 (G 0) 3 3) fun v35 S35 =>
  (mw_pf S35 h0 9 28 (.ref v35)).bind fun S36 =>
  mw_b2 (mw_na S36 (G 0) 4 4) fun v37 S37 =>
  (mw_pf S37 h0 9 30 (.ref v37)).bind fun S38 =>
  mw_b2 (mw_na S38 (G 3) 24 24) fun v39 S39 =>
  (mw_pf S39 h0 9 31 (.ref v39)).bind fun S40 =>
  mw_b2 (mw_na S40 (G 0) 24 24) fun v41 S41 =>
  (mw_pf S41 h0 9 32 (.ref v41)).bind fun S42 =>
  mw_b2 (mw_na S42 (G 0) 4 4) fun v43 S43 =>
  (mw_pf S43 h0 9 33 (.ref v43)).bind fun S44 =>
  mw_b2 (mw_na S44 (G 0) 4 4) fun v45 S45 =>
  (mw_pf S45 h0 9 34 (.ref v45)).bind fun S46 =>
  mw_b2 (mw_na S46 (G 0) 4400 4400) fun v47 S47 =>
  (mw_pf S47 h0 9 35 (.ref v47)).bind fun S48 =>
  mw_b2 (mw_na S48 (G 0) 64 64) fun v49 S49 =>
  (mw_pf S49 h0 9 37 (.ref v49)).bind fun S50 =>
  if 16 ≤ x1 then
    if x1 ≤ 60 then
      pf_X9_init_226 G N h0 x2 x3 h0 x1 S50
    else
      pf_X9_init_226 G N h0 x2 x3 h0 60 S50
  else
    pf_X9_init_226 G N h0 x2 x3 h0 16 S50
def pf_X9_thrown (G : Nat → ClassId) (N : Nat) (S : mm_M) : Option (Int32 × mm_M) :=
  some ((S.1 4), S)
def pf_X9_isThread (G : Nat → ClassId) (N : Nat) (S : mm_M) (x0 : Int32) : Option (Int32 × mm_M) :=
  if x0 < 0 then
    if vp_nar .boolean 0 = 0 then some (0, S) else none
  else
    if 2 < x0 then
      if vp_nar .boolean 0 = 0 then some (0, S) else none
    else
      if vp_nar .boolean 1 = 1 then some (1, S) else none
def pf_X9_isRecording (G : Nat → ClassId) (N : Nat) (S : mm_M) (x1 : Int32) : Option (Int32 × mm_M) :=
  if x1 < 0 then
    if vp_nar .boolean 0 = 0 then some (0, S) else none
  else
    if (S.1 29) ≤ x1 then
      if vp_nar .boolean 0 = 0 then some (0, S) else none
    else
      if vp_nar .boolean 1 = 1 then some (1, S) else none
def pf_X9_write (G : Nat → ClassId) (N : Nat) (S : mm_M) (x1 : Int32) : Option (Int32 × mm_M) :=
  (mm_pf S 4 0).bind fun S1 =>
  if 40 ≤ (S1.1 5) then
    if vp_nar .boolean 0 = 0 then some (0, S1) else none
  else
    if x1 < 32 then
      if vp_nar .boolean 0 = 0 then some (0, S1) else none
    else
      if x1 ≤ 126 then
        (mm_si S1 0 (S1.1 5) (vp_nar .char x1)).bind fun S2 =>
        (mm_pf S2 5 ((S2.1 5) + 1)).bind fun S3 =>
        if vp_nar .boolean 1 = 1 then some (1, S3) else none
      else
        if vp_nar .boolean 0 = 0 then some (0, S1) else none
def pf_X9_advance_26 (G : Nat → ClassId) (N : Nat) (S : mm_M) : Option (Int32 × mm_M) :=
  (mm_pf S 3 (S.1 3)).bind fun S1 =>
  some ((S1.1 3), S1)
def pf_X9_advance (G : Nat → ClassId) (N : Nat) (S : mm_M) (x1 : Int32) : Option (Int32 × mm_M) :=
  (mm_pf S 4 0).bind fun S1 =>
  if x1 < 0 then
    pf_X9_advance_26 G N S1
  else
    if 1000 < x1 then
      pf_X9_advance_26 G N S1
    else
      (mm_pf S1 3 ((S1.1 3) + x1)).bind fun S2 =>
      some ((S2.1 3), S2)
def pf_X9_type_28 (G : Nat → ClassId) (N : Nat) (y1 : Int32) (y2 : Int32) (w1 : Int32) (S : mm_M) : Option (Int32 × mm_M) :=
  (mm_pf S 4 w1).bind fun S1 =>
  if (S1.1 4) ≤ 0 then
    (mm_si S1 1 (S1.1 7) y1).bind fun S2 =>
    (mm_si S2 2 (S2.1 7) (vp_nar .boolean y2)).bind fun S3 =>
    (mm_pf S3 7 ((S3.1 7) + 1)).bind fun S4 =>
    some (((S4.1 7) - 1), S4)
  else
    some (0, S1)
def pf_X9_type_10 (G : Nat → ClassId) (N : Nat) (y1 : Int32) (y2 : Int32) (S : mm_M) : Option (Int32 × mm_M) :=
  pf_X9_type_28 G N y1 y2 1 S
def pf_X9_type (G : Nat → ClassId) (N : Nat) (S : mm_M) (x1 : Int32) (x2 : Int32) : Option (Int32 × mm_M) :=
  if x1 < 0 then
    pf_X9_type_10 G N x1 x2 S
  else
    if x1 ≤ 3 then
      if ¬ (S.1 7) = 6 then
        pf_X9_type_28 G N x1 x2 0 S
      else
        pf_X9_type_28 G N x1 x2 2 S
    else
      pf_X9_type_10 G N x1 x2 S
def pf_X9_begin (G : Nat → ClassId) (N : Nat) (S : mm_M) (x1 : Int32) : Option (Int32 × mm_M) :=
  (mm_pf S 4 0).bind fun S1 =>
  mw_b2 (pf_X9_isThread G N S1 x1) fun v2 S2 =>
  if v2 = 0 then
    if vp_nar .boolean 0 = 0 then some (0, S2) else none
  else
    (mm_ai S2 5 x1).bind fun v3 =>
    if ¬ v3 = 3 then
      (mm_ai S2 5 x1).bind fun v4 =>
      (mm_si S2 6 ((3 * x1) + v4) (S2.1 3)).bind fun S5 =>
      (mm_ai S5 5 x1).bind fun v6 =>
      (mm_si S5 5 x1 (v6 + 1)).bind fun S7 =>
      if vp_nar .boolean 1 = 1 then some (1, S7) else none
    else
      if vp_nar .boolean 0 = 0 then some (0, S2) else none
def pf_X9_variable_39 (G : Nat → ClassId) (N : Nat) (k4 : Int32 → Int32 → mm_M → Option (mm_M)) (y3 : Int32) (y4 : Int32) (w1 : Int32) (w2 : Int32) (w3 : Int32) (S : mm_M) : Option (mm_M) :=
  (mm_si S 24 w1 (w2 + w3)).bind fun S1 =>
  (mm_pf S1 38 ((S1.1 38) + 1)).bind fun S2 =>
  if ¬ y4 = 0 then
    k4 y4 (y3 + 1) S2
  else
    some S2
def pf_X9_variable_4 (G : Nat → ClassId) (N : Nat) : Nat → Int32 → Int32 → mm_M → Option (mm_M)
  | 0, _, _, _ => none
  | n + 1, y2, y3, S =>
    if 5 ≤ y3 then
      some S
    else
      if (mw_ushr y2 7) = 0 then
        pf_X9_variable_39 G N (pf_X9_variable_4 G N n) y3 (mw_ushr y2 7) (S.1 38) (y2 &&& 127) 0 S
      else
        pf_X9_variable_39 G N (pf_X9_variable_4 G N n) y3 (mw_ushr y2 7) (S.1 38) (y2 &&& 127) 128 S
def pf_X9_variable (G : Nat → ClassId) (N : Nat) (S : mm_M) (x1 : Int32) : Option (mm_M) :=
  pf_X9_variable_4 G N N x1 0 S
def pf_X9_width_7 (G : Nat → ClassId) (N : Nat) : Nat → Int32 → Int32 → mm_M → Option (Int32 × mm_M)
  | 0, _, _, _ => none
  | n + 1, y1, y2, S =>
    if y2 = 0 then
      some (y1, S)
    else
      pf_X9_width_7 G N n (y1 + 1) (mw_ushr y2 7) S
def pf_X9_width (G : Nat → ClassId) (N : Nat) (S : mm_M) (x0 : Int32) : Option (Int32 × mm_M) :=
  pf_X9_width_7 G N N 1 (mw_ushr x0 7) S
def pf_X9_zigzag (G : Nat → ClassId) (N : Nat) (S : mm_M) (x0 : Int32) : Option (Int32 × mm_M) :=
  if 0 ≤ x0 then
    some ((2 * x0), S)
  else
    some ((((-2) * x0) - 1), S)
def pf_X9_stringOf_73 (G : Nat → ClassId) (N : Nat) (k2 : Int32 → Int32 → mm_M → Option (Int32 × mm_M)) (y1 : Int32) (y2 : Int32) (y3 : Int32) (S : mm_M) : Option (Int32 × mm_M) :=
  if y3 = 0 then
    k2 y1 (y2 + 1) S
  else
    some (y2, S)
def pf_X9_stringOf_29 (G : Nat → ClassId) (N : Nat) (k2 : Int32 → Int32 → mm_M → Option (Int32 × mm_M)) : Nat → Int32 → Int32 → Int32 → Int32 → mm_M → Option (Int32 × mm_M)
  | 0, _, _, _, _, _ => none
  | n + 1, y1, y2, y3, y4, S =>
    if y1 ≤ y4 then
      pf_X9_stringOf_73 G N k2 y1 y2 y3 S
    else
      if y3 = 0 then
        pf_X9_stringOf_73 G N k2 y1 y2 y3 S
      else
        (mm_ai S 3 ((8 * y2) + y4)).bind fun v1 =>
        (mm_ai S 0 y4).bind fun v2 =>
        if ¬ v1 = v2 then
          pf_X9_stringOf_29 G N k2 n y1 y2 0 (y4 + 1) S
        else
          pf_X9_stringOf_29 G N k2 n y1 y2 1 (y4 + 1) S
def pf_X9_stringOf_2 (G : Nat → ClassId) (N : Nat) : Nat → Int32 → Int32 → mm_M → Option (Int32 × mm_M)
  | 0, _, _, _ => none
  | n + 1, y1, y2, S =>
    if (S.1 10) ≤ y2 then
      some ((-1), S)
    else
      (mm_ai S 4 y2).bind fun v1 =>
      if ¬ v1 = y1 then
        pf_X9_stringOf_29 G N (pf_X9_stringOf_2 G N n) N y1 y2 0 0 S
      else
        pf_X9_stringOf_29 G N (pf_X9_stringOf_2 G N n) N y1 y2 1 0 S
def pf_X9_stringOf (G : Nat → ClassId) (N : Nat) (S : mm_M) (x1 : Int32) : Option (Int32 × mm_M) :=
  pf_X9_stringOf_2 G N N x1 0 S
def pf_X9_unwanted_5 (G : Nat → ClassId) (N : Nat) : Nat → Int32 → Int32 → Int32 → Int32 → mm_M → Option (Int32 × mm_M)
  | 0, _, _, _, _, _ => none
  | n + 1, y1, y2, y3, y4, S =>
    if (S.1 29) ≤ y4 then
      if y3 = 0 then
        some (2, S)
      else
        some (3, S)
    else
      (mm_ai S 18 y4).bind fun v1 =>
      if ¬ v1 = 1 then
        pf_X9_unwanted_5 G N n y1 y2 y3 (y4 + 1) S
      else
        (mm_ai S 19 ((6 * y4) + y1)).bind fun v2 =>
        if ¬ v2 = 0 then
          pf_X9_unwanted_5 G N n y1 y2 y3 (y4 + 1) S
        else
          (mm_ai S 20 ((6 * y4) + y1)).bind fun v3 =>
          if y2 < v3 then
            pf_X9_unwanted_5 G N n y1 y2 1 (y4 + 1) S
          else
            some (0, S)
def pf_X9_unwanted (G : Nat → ClassId) (N : Nat) (S : mm_M) (x1 : Int32) (x2 : Int32) : Option (Int32 × mm_M) :=
  pf_X9_unwanted_5 G N N x1 x2 0 0 S
def pf_X9_keepString_7 (G : Nat → ClassId) (N : Nat) : Nat → Int32 → Int32 → mm_M → Option (mm_M)
  | 0, _, _, _ => none
  | n + 1, y2, y3, S =>
    if y2 ≤ y3 then
      (mm_si S 4 (S.1 10) y2).bind fun S1 =>
      (mm_pf S1 10 ((S1.1 10) + 1)).bind fun S2 =>
      some S2
    else
      (mm_ai S 0 y3).bind fun v3 =>
      (mm_si S 3 ((8 * (S.1 10)) + y3) (vp_nar .char v3)).bind fun S4 =>
      pf_X9_keepString_7 G N n y2 (y3 + 1) S4
def pf_X9_keepString (G : Nat → ClassId) (N : Nat) (S : mm_M) (x1 : Int32) (x2 : Int32) : Option (mm_M) :=
  if x1 < 0 then
    pf_X9_keepString_7 G N N x2 0 S
  else
    some S
def pf_X9_move_2 (G : Nat → ClassId) (N : Nat) : Nat → Int32 → Int32 → Int32 → mm_M → Option (mm_M)
  | 0, _, _, _, _ => none
  | n + 1, y1, y2, y3, S =>
    (mm_ai S 8 y1).bind fun v1 =>
    if v1 ≤ y3 then
      (mm_ai S 8 y1).bind fun v2 =>
      (mm_si S 8 y2 v2).bind fun S3 =>
      (mm_ai S3 9 y1).bind fun v4 =>
      (mm_si S3 9 y2 v4).bind fun S5 =>
      (mm_si S5 8 y1 0).bind fun S6 =>
      (mm_si S6 9 y1 0).bind fun S7 =>
      some S7
    else
      (mm_ai S 7 ((60 * y1) + y3)).bind fun v8 =>
      (mm_si S 7 ((60 * y2) + y3) v8).bind fun S9 =>
      pf_X9_move_2 G N n y1 y2 (y3 + 1) S9
def pf_X9_move (G : Nat → ClassId) (N : Nat) (S : mm_M) (x1 : Int32) (x2 : Int32) : Option (mm_M) :=
  pf_X9_move_2 G N N x1 x2 0 S
def pf_X9_commit_327 (G : Nat → ClassId) (N : Nat) (y1 : Int32) (S : mm_M) : Option (Int32 × mm_M) :=
  (mm_ai S 16 y1).bind fun v1 =>
  (mm_si S 16 y1 (v1 + 1)).bind fun S2 =>
  (mm_ai S2 17 y1).bind fun v3 =>
  (mm_si S2 17 y1 (v3 + 1)).bind fun S4 =>
  some (4, S4)
def pf_X9_commit_498 (G : Nat → ClassId) (N : Nat) : Nat → Int32 → Int32 → mm_M → Option (Int32 × mm_M)
  | 0, _, _, _ => none
  | n + 1, y1, y15, S =>
    if (S.1 38) ≤ y15 then
      (mm_ai S 8 y1).bind fun v1 =>
      (mm_si S 8 y1 (v1 + (S.1 38))).bind fun S2 =>
      (mm_ai S2 9 y1).bind fun v3 =>
      (mm_si S2 9 y1 (v3 + 1)).bind fun S4 =>
      some (0, S4)
    else
      (mm_ai S 8 y1).bind fun v5 =>
      (mm_ai S 24 y15).bind fun v6 =>
      (mm_si S 7 (((60 * y1) + v5) + y15) v6).bind fun S7 =>
      pf_X9_commit_498 G N n y1 (y15 + 1) S7
def pf_X9_commit_469 (G : Nat → ClassId) (N : Nat) (y1 : Int32) (y14 : Int32) (S : mm_M) : Option (Int32 × mm_M) :=
  if y14 = 0 then
    pf_X9_commit_498 G N N y1 0 S
  else
    (pf_X9_move G N S y1 (3 + (S.1 18))).bind fun S1 =>
    (mm_pf S1 18 ((S1.1 18) + 1)).bind fun S2 =>
    pf_X9_commit_498 G N N y1 0 S2
def pf_X9_commit_419 (G : Nat → ClassId) (N : Nat) (k385 : Int32 → Int32 → Int32 → Int32 → Int32 → Int32 → Int32 → Int32 → Int32 → Int32 → Int32 → mm_M → Option (Int32 × mm_M)) (y1 : Int32) (y2 : Int32) (y3 : Int32) (y4 : Int32) (y5 : Int32) (y6 : Int32) (y7 : Int32) (y10 : Int32) (y11 : Int32) (y14 : Int32) (y15 : Int32) (w1 : Int32) (S : mm_M) : Option (Int32 × mm_M) :=
  mw_b2 (pf_X9_zigzag G N S w1) fun v1 S1 =>
  (pf_X9_variable G N S1 v1).bind fun S2 =>
  k385 y1 y2 y3 y4 y5 y6 y7 y10 y11 y14 (y15 + 1) S2
def pf_X9_commit_385 (G : Nat → ClassId) (N : Nat) : Nat → Int32 → Int32 → Int32 → Int32 → Int32 → Int32 → Int32 → Int32 → Int32 → Int32 → Int32 → mm_M → Option (Int32 × mm_M)
  | 0, _, _, _, _, _, _, _, _, _, _, _, _ => none
  | n + 1, y1, y2, y3, y4, y5, y6, y7, y10, y11, y14, y15, S =>
    (mm_ai S 1 y2).bind fun v1 =>
    if v1 ≤ y15 then
      if y7 = 0 then
        pf_X9_commit_469 G N y1 y14 S
      else
        (pf_X9_variable G N S y11).bind fun S2 =>
        (pf_X9_keepString G N S2 y10 y6).bind fun S3 =>
        (mm_ai S3 15 6).bind fun v4 =>
        (mm_si S3 15 6 (v4 ||| (1 <<< (y11 &&& 31)))).bind fun S5 =>
        pf_X9_commit_469 G N y1 y14 S5
    else
      if ¬ y15 = 0 then
        if ¬ y15 = 1 then
          pf_X9_commit_419 G N (pf_X9_commit_385 G N n) y1 y2 y3 y4 y5 y6 y7 y10 y11 y14 y15 y5 S
        else
          pf_X9_commit_419 G N (pf_X9_commit_385 G N n) y1 y2 y3 y4 y5 y6 y7 y10 y11 y14 y15 y4 S
      else
        pf_X9_commit_419 G N (pf_X9_commit_385 G N n) y1 y2 y3 y4 y5 y6 y7 y10 y11 y14 y15 y3 S
def pf_X9_commit_349 (G : Nat → ClassId) (N : Nat) (y1 : Int32) (y2 : Int32) (y3 : Int32) (y4 : Int32) (y5 : Int32) (y6 : Int32) (y7 : Int32) (y8 : Int32) (y10 : Int32) (y11 : Int32) (y12 : Int32) (y14 : Int32) (S : mm_M) : Option (Int32 × mm_M) :=
  (mm_pf S 38 0).bind fun S1 =>
  (pf_X9_variable G N S1 y12).bind fun S2 =>
  (pf_X9_variable G N S2 y2).bind fun S3 =>
  (pf_X9_variable G N S3 y8).bind fun S4 =>
  (pf_X9_variable G N S4 ((S4.1 3) - y8)).bind fun S5 =>
  pf_X9_commit_385 G N N y1 y2 y3 y4 y5 y6 y7 y10 y11 y14 0 S5
def pf_X9_commit_302 (G : Nat → ClassId) (N : Nat) (y1 : Int32) (y2 : Int32) (y3 : Int32) (y4 : Int32) (y5 : Int32) (y6 : Int32) (y7 : Int32) (y8 : Int32) (y10 : Int32) (y11 : Int32) (y12 : Int32) (y13 : Int32) (y14 : Int32) (S : mm_M) : Option (Int32 × mm_M) :=
  if (S.1 0) < y13 then
    pf_X9_commit_327 G N y1 S
  else
    if y14 = 0 then
      pf_X9_commit_349 G N y1 y2 y3 y4 y5 y6 y7 y8 y10 y11 y12 y14 S
    else
      if ¬ (S.1 18) = (S.1 1) then
        pf_X9_commit_349 G N y1 y2 y3 y4 y5 y6 y7 y8 y10 y11 y12 y14 S
      else
        pf_X9_commit_327 G N y1 S
def pf_X9_commit_286 (G : Nat → ClassId) (N : Nat) (y1 : Int32) (y2 : Int32) (y3 : Int32) (y4 : Int32) (y5 : Int32) (y6 : Int32) (y7 : Int32) (y8 : Int32) (y10 : Int32) (y11 : Int32) (y12 : Int32) (y13 : Int32) (w0 : Int32) (S : mm_M) : Option (Int32 × mm_M) :=
  if 0 ≤ y10 then
    pf_X9_commit_302 G N y1 y2 y3 y4 y5 y6 y7 y8 y10 y11 y12 y13 w0 S
  else
    if (S.1 10) = 24 then
      pf_X9_commit_327 G N y1 S
    else
      pf_X9_commit_302 G N y1 y2 y3 y4 y5 y6 y7 y8 y10 y11 y12 y13 w0 S
def pf_X9_commit_240 (G : Nat → ClassId) (N : Nat) (k205 : Int32 → Int32 → Int32 → Int32 → Int32 → Int32 → Int32 → Int32 → Int32 → Int32 → Int32 → Int32 → mm_M → Option (Int32 × mm_M)) (y1 : Int32) (y2 : Int32) (y3 : Int32) (y4 : Int32) (y5 : Int32) (y6 : Int32) (y7 : Int32) (y8 : Int32) (y10 : Int32) (y11 : Int32) (y13 : Int32) (w0 : Int32) (w1 : Int32) (S : mm_M) : Option (Int32 × mm_M) :=
  mw_b2 (pf_X9_zigzag G N S w1) fun v1 S1 =>
  mw_b2 (pf_X9_width G N S1 v1) fun v2 S2 =>
  k205 y1 y2 y3 y4 y5 y6 y7 y8 y10 y11 (w0 + v2) (y13 + 1) S2
def pf_X9_commit_205 (G : Nat → ClassId) (N : Nat) : Nat → Int32 → Int32 → Int32 → Int32 → Int32 → Int32 → Int32 → Int32 → Int32 → Int32 → Int32 → Int32 → mm_M → Option (Int32 × mm_M)
  | 0, _, _, _, _, _, _, _, _, _, _, _, _, _ => none
  | n + 1, y1, y2, y3, y4, y5, y6, y7, y8, y10, y11, y12, y13, S =>
    (mm_ai S 1 y2).bind fun v1 =>
    if v1 ≤ y13 then
      mw_b2 (pf_X9_width G N S y12) fun v2 S2 =>
      (mm_ai S2 8 y1).bind fun v3 =>
      if (v3 + (v2 + y12)) ≤ (S2.1 0) then
        pf_X9_commit_286 G N y1 y2 y3 y4 y5 y6 y7 y8 y10 y11 y12 (v2 + y12) 0 S2
      else
        pf_X9_commit_286 G N y1 y2 y3 y4 y5 y6 y7 y8 y10 y11 y12 (v2 + y12) 1 S2
    else
      if ¬ y13 = 0 then
        if ¬ y13 = 1 then
          pf_X9_commit_240 G N (pf_X9_commit_205 G N n) y1 y2 y3 y4 y5 y6 y7 y8 y10 y11 y13 y12 y5 S
        else
          pf_X9_commit_240 G N (pf_X9_commit_205 G N n) y1 y2 y3 y4 y5 y6 y7 y8 y10 y11 y13 y12 y4 S
      else
        pf_X9_commit_240 G N (pf_X9_commit_205 G N n) y1 y2 y3 y4 y5 y6 y7 y8 y10 y11 y13 y12 y3 S
def pf_X9_commit_162 (G : Nat → ClassId) (N : Nat) (y1 : Int32) (y2 : Int32) (y3 : Int32) (y4 : Int32) (y5 : Int32) (y6 : Int32) (y7 : Int32) (y8 : Int32) (y10 : Int32) (w0 : Int32) (S : mm_M) : Option (Int32 × mm_M) :=
  mw_b2 (pf_X9_width G N S y2) fun v1 S1 =>
  mw_b2 (pf_X9_width G N S1 y8) fun v2 S2 =>
  mw_b2 (pf_X9_width G N S2 ((S2.1 3) - y8)) fun v3 S3 =>
  if y7 = 0 then
    pf_X9_commit_205 G N N y1 y2 y3 y4 y5 y6 y7 y8 y10 w0 (((v1 + v2) + v3) + 0) 0 S3
  else
    mw_b2 (pf_X9_width G N S3 w0) fun v4 S4 =>
    pf_X9_commit_205 G N N y1 y2 y3 y4 y5 y6 y7 y8 y10 w0 (((v1 + v2) + v3) + v4) 0 S4
def pf_X9_commit_146 (G : Nat → ClassId) (N : Nat) (y1 : Int32) (y2 : Int32) (y3 : Int32) (y4 : Int32) (y5 : Int32) (y6 : Int32) (y7 : Int32) (y8 : Int32) (w0 : Int32) (S : mm_M) : Option (Int32 × mm_M) :=
  if 0 ≤ w0 then
    pf_X9_commit_162 G N y1 y2 y3 y4 y5 y6 y7 y8 w0 w0 S
  else
    pf_X9_commit_162 G N y1 y2 y3 y4 y5 y6 y7 y8 w0 (S.1 10) S
def pf_X9_commit_68 (G : Nat → ClassId) (N : Nat) (y1 : Int32) (y2 : Int32) (y3 : Int32) (y4 : Int32) (y5 : Int32) (y6 : Int32) (y7 : Int32) (w1 : Int32) (S : mm_M) : Option (Int32 × mm_M) :=
  (mm_pf S 5 w1).bind fun S1 =>
  (mm_ai S1 5 y1).bind fun v2 =>
  if ¬ v2 = 0 then
    (mm_ai S1 5 y1).bind fun v3 =>
    (mm_si S1 5 y1 (v3 - 1)).bind fun S4 =>
    (mm_ai S4 5 y1).bind fun v5 =>
    (mm_ai S4 6 ((3 * y1) + v5)).bind fun v6 =>
    mw_b2 (pf_X9_unwanted G N S4 y2 ((S4.1 3) - v6)) fun v7 S7 =>
    if v7 ≤ 0 then
      if y7 = 0 then
        pf_X9_commit_146 G N y1 y2 y3 y4 y5 y6 y7 v6 0 S7
      else
        mw_b2 (pf_X9_stringOf G N S7 y6) fun v8 S8 =>
        pf_X9_commit_146 G N y1 y2 y3 y4 y5 y6 y7 v6 v8 S8
    else
      some (v7, S7)
  else
    some (1, S1)
def pf_X9_commit_44 (G : Nat → ClassId) (N : Nat) (y1 : Int32) (y2 : Int32) (y3 : Int32) (y4 : Int32) (y5 : Int32) (w0 : Int32) (S : mm_M) : Option (Int32 × mm_M) :=
  (mm_ai S 2 y2).bind fun v1 =>
  if v1 = 0 then
    pf_X9_commit_68 G N y1 y2 y3 y4 y5 w0 v1 (S.1 5) S
  else
    pf_X9_commit_68 G N y1 y2 y3 y4 y5 w0 v1 0 S
def pf_X9_commit (G : Nat → ClassId) (N : Nat) (S : mm_M) (x1 : Int32) (x2 : Int32) (x3 : Int32) (x4 : Int32) (x5 : Int32) : Option (Int32 × mm_M) :=
  (mm_pf S 4 0).bind fun S1 =>
  mw_b2 (pf_X9_isThread G N S1 x1) fun v2 S2 =>
  if v2 = 0 then
    some ((-1), S2)
  else
    if x2 < 0 then
      some ((-1), S2)
    else
      if x2 < (S2.1 7) then
        if 8 ≤ (S2.1 5) then
          pf_X9_commit_44 G N x1 x2 x3 x4 x5 8 S2
        else
          pf_X9_commit_44 G N x1 x2 x3 x4 x5 (S2.1 5) S2
      else
        some ((-1), S2)
def pf_X9_drain_9 (G : Nat → ClassId) (N : Nat) : Nat → Int32 → Int32 → Int32 → mm_M → Option (Int32 × mm_M)
  | 0, _, _, _, _ => none
  | n + 1, y1, y2, y3, S =>
    if y2 ≤ y3 then
      (mm_ai S 11 6).bind fun v1 =>
      (mm_si S 11 6 (v1 + y2)).bind fun S2 =>
      (mm_ai S2 14 6).bind fun v3 =>
      (mm_ai S2 9 y1).bind fun v4 =>
      (mm_si S2 14 6 (v3 + v4)).bind fun S5 =>
      (mm_si S5 8 y1 0).bind fun S6 =>
      (mm_si S6 9 y1 0).bind fun S7 =>
      some (y2, S7)
    else
      (mm_ai S 11 6).bind fun v8 =>
      (mm_ai S 7 ((60 * y1) + y3)).bind fun v9 =>
      (mm_si S 10 ((3600 + v8) + y3) v9).bind fun S10 =>
      pf_X9_drain_9 G N n y1 y2 (y3 + 1) S10
def pf_X9_drain (G : Nat → ClassId) (N : Nat) (S : mm_M) (x1 : Int32) : Option (Int32 × mm_M) :=
  (mm_ai S 8 x1).bind fun v1 =>
  pf_X9_drain_9 G N N x1 v1 0 S
def pf_X9_put (G : Nat → ClassId) (N : Nat) (S : mm_M) (x1 : Int32) : Option (mm_M) :=
  (mm_ai S 11 6).bind fun v1 =>
  (mm_si S 10 (3600 + v1) x1).bind fun S2 =>
  (mm_ai S2 11 6).bind fun v3 =>
  (mm_si S2 11 6 (v3 + 1)).bind fun S4 =>
  some S4
def pf_X9_loss_43 (G : Nat → ClassId) (N : Nat) : Nat → Int32 → Int32 → mm_M → Option (mm_M)
  | 0, _, _, _ => none
  | n + 1, y1, y2, S =>
    if (S.1 38) ≤ y2 then
      (mm_si S 16 y1 0).bind fun S1 =>
      some S1
    else
      (mm_ai S 24 y2).bind fun v2 =>
      (pf_X9_put G N S v2).bind fun S3 =>
      pf_X9_loss_43 G N n y1 (y2 + 1) S3
def pf_X9_loss (G : Nat → ClassId) (N : Nat) (S : mm_M) (x1 : Int32) : Option (mm_M) :=
  (mm_pf S 38 0).bind fun S1 =>
  (mm_ai S1 16 x1).bind fun v2 =>
  mw_b2 (pf_X9_width G N S1 v2) fun v3 S3 =>
  (pf_X9_variable G N S3 (2 + v3)).bind fun S4 =>
  (pf_X9_variable G N S4 63).bind fun S5 =>
  (pf_X9_variable G N S5 x1).bind fun S6 =>
  (mm_ai S6 16 x1).bind fun v7 =>
  (pf_X9_variable G N S6 v7).bind fun S8 =>
  pf_X9_loss_43 G N N x1 0 S8
def pf_X9_copyChunk_2 (G : Nat → ClassId) (N : Nat) : Nat → Int32 → Int32 → Int32 → mm_M → Option (mm_M)
  | 0, _, _, _, _ => none
  | n + 1, y1, y2, y3, S =>
    (mm_ai S 11 y1).bind fun v1 =>
    if v1 ≤ y3 then
      (mm_ai S 11 y1).bind fun v2 =>
      (mm_si S 11 y2 v2).bind fun S3 =>
      (mm_ai S3 12 y1).bind fun v4 =>
      (mm_si S3 12 y2 v4).bind fun S5 =>
      (mm_ai S5 13 y1).bind fun v6 =>
      (mm_si S5 13 y2 v6).bind fun S7 =>
      (mm_ai S7 14 y1).bind fun v8 =>
      (mm_si S7 14 y2 v8).bind fun S9 =>
      (mm_ai S9 15 y1).bind fun v10 =>
      (mm_si S9 15 y2 v10).bind fun S11 =>
      some S11
    else
      (mm_ai S 10 ((600 * y1) + y3)).bind fun v12 =>
      (mm_si S 10 ((600 * y2) + y3) v12).bind fun S13 =>
      pf_X9_copyChunk_2 G N n y1 y2 (y3 + 1) S13
def pf_X9_copyChunk (G : Nat → ClassId) (N : Nat) (S : mm_M) (x1 : Int32) (x2 : Int32) : Option (mm_M) :=
  pf_X9_copyChunk_2 G N N x1 x2 0 S
def pf_X9_rotate_162 (G : Nat → ClassId) (N : Nat) (S : mm_M) : Option (mm_M) :=
  (mm_ai S 12 6).bind fun v1 =>
  (mm_si S 12 6 (v1 + 1)).bind fun S2 =>
  (mm_si S2 13 6 (S2.1 3)).bind fun S3 =>
  (mm_si S3 11 6 0).bind fun S4 =>
  (mm_si S4 14 6 0).bind fun S5 =>
  (mm_si S5 15 6 0).bind fun S6 =>
  some S6
def pf_X9_rotate_118 (G : Nat → ClassId) (N : Nat) : Nat → Int32 → mm_M → Option (mm_M)
  | 0, _, _ => none
  | n + 1, y1, S =>
    if (S.1 19) ≤ (y1 + 1) then
      (mm_pf S 19 ((S.1 19) - 1)).bind fun S1 =>
      (mm_pf S1 20 ((S1.1 20) + 1)).bind fun S2 =>
      pf_X9_rotate_162 G N S2
    else
      (pf_X9_copyChunk G N S (y1 + 1) y1).bind fun S3 =>
      pf_X9_rotate_118 G N n (y1 + 1) S3
def pf_X9_rotate_105 (G : Nat → ClassId) (N : Nat) (S : mm_M) : Option (mm_M) :=
  if (S.1 19) ≤ (S.1 2) then
    pf_X9_rotate_162 G N S
  else
    pf_X9_rotate_118 G N N 0 S
def pf_X9_rotate_50 (G : Nat → ClassId) (N : Nat) : Nat → Int32 → mm_M → Option (mm_M)
  | 0, _, _ => none
  | n + 1, y1, S =>
    if 3 ≤ y1 then
      (mm_ai S 11 6).bind fun v1 =>
      if v1 ≤ 0 then
        pf_X9_rotate_105 G N S
      else
        (pf_X9_copyChunk G N S 6 (S.1 19)).bind fun S2 =>
        (mm_pf S2 19 ((S2.1 19) + 1)).bind fun S3 =>
        pf_X9_rotate_105 G N S3
    else
      (mm_ai S 16 y1).bind fun v4 =>
      if v4 ≤ 0 then
        pf_X9_rotate_50 G N n (y1 + 1) S
      else
        (pf_X9_loss G N S y1).bind fun S5 =>
        pf_X9_rotate_50 G N n (y1 + 1) S5
def pf_X9_rotate_31 (G : Nat → ClassId) (N : Nat) : Nat → Int32 → mm_M → Option (mm_M)
  | 0, _, _ => none
  | n + 1, y1, S =>
    if 3 ≤ y1 then
      pf_X9_rotate_50 G N N 0 S
    else
      mw_b2 (pf_X9_drain G N S y1) fun v1 S1 =>
      pf_X9_rotate_31 G N n (y1 + 1) S1
def pf_X9_rotate_2 (G : Nat → ClassId) (N : Nat) : Nat → Int32 → mm_M → Option (mm_M)
  | 0, _, _ => none
  | n + 1, y1, S =>
    if (S.1 18) ≤ y1 then
      (mm_pf S 18 0).bind fun S1 =>
      pf_X9_rotate_31 G N N 0 S1
    else
      mw_b2 (pf_X9_drain G N S (3 + y1)) fun v2 S2 =>
      pf_X9_rotate_2 G N n (y1 + 1) S2
def pf_X9_rotate (G : Nat → ClassId) (N : Nat) (S : mm_M) : Option (mm_M) :=
  pf_X9_rotate_2 G N N 0 S
def pf_X9_flush_22 (G : Nat → ClassId) (N : Nat) : Nat → Int32 → Int32 → mm_M → Option (Int32 × mm_M)
  | 0, _, _, _ => none
  | n + 1, y1, y2, S =>
    if (S.1 18) ≤ y2 then
      (mm_pf S 18 ((S.1 18) - 1)).bind fun S1 =>
      (mm_ai S1 11 6).bind fun v2 =>
      if v2 ≤ 150 then
        some (y1, S1)
      else
        (pf_X9_rotate G N S1).bind fun S3 =>
        some (y1, S3)
    else
      (pf_X9_move G N S (3 + y2) (2 + y2)).bind fun S4 =>
      pf_X9_flush_22 G N n y1 (y2 + 1) S4
def pf_X9_flush (G : Nat → ClassId) (N : Nat) (S : mm_M) : Option (Int32 × mm_M) :=
  (mm_pf S 4 0).bind fun S1 =>
  if ¬ (S1.1 18) = 0 then
    mw_b2 (pf_X9_drain G N S1 3) fun v2 S2 =>
    pf_X9_flush_22 G N N v2 1 S2
  else
    some (0, S1)
def pf_X9_digit (G : Nat → ClassId) (N : Nat) (S : mm_M) (x1 : Int32) (x2 : Int32) : Option (Int32 × mm_M) :=
  if x2 ≤ x1 then
    if vp_nar .boolean 0 = 0 then some (0, S) else none
  else
    (mm_ai S 0 x1).bind fun v1 =>
    if v1 < 48 then
      if vp_nar .boolean 0 = 0 then some (0, S) else none
    else
      (mm_ai S 0 x1).bind fun v2 =>
      if 57 < v2 then
        if vp_nar .boolean 0 = 0 then some (0, S) else none
      else
        if vp_nar .boolean 1 = 1 then some (1, S) else none
def pf_X9_itemEnd_64 (G : Nat → ClassId) (N : Nat) : Nat → Int32 → Int32 → Int32 → mm_M → Option (Int32 × mm_M)
  | 0, _, _, _, _ => none
  | n + 1, y1, y2, y3, S =>
    mw_b2 (pf_X9_digit G N S y3 y2) fun v1 S1 =>
    if v1 = 0 then
      if y3 ≤ (y1 + 5) then
        some (y3, S1)
      else
        some ((-1), S1)
    else
      pf_X9_itemEnd_64 G N n y1 y2 (y3 + 1) S1
def pf_X9_itemEnd (G : Nat → ClassId) (N : Nat) (S : mm_M) (x1 : Int32) (x2 : Int32) : Option (Int32 × mm_M) :=
  mw_b2 (pf_X9_digit G N S x1 x2) fun v1 S1 =>
  if v1 = 0 then
    some ((-1), S1)
  else
    (mm_ai S1 0 x1).bind fun v2 =>
    if (S1.1 7) ≤ (v2 - 48) then
      some ((-1), S1)
    else
      if x2 ≤ (x1 + 1) then
        some ((-1), S1)
      else
        (mm_ai S1 0 (x1 + 1)).bind fun v3 =>
        if v3 = 43 then
          pf_X9_itemEnd_64 G N N x1 x2 (x1 + 2) S1
        else
          (mm_ai S1 0 (x1 + 1)).bind fun v4 =>
          if v4 = 45 then
            pf_X9_itemEnd_64 G N N x1 x2 (x1 + 2) S1
          else
            some ((-1), S1)
def pf_X9_items_5 (G : Nat → ClassId) (N : Nat) : Nat → Int32 → Int32 → Int32 → mm_M → Option (Int32 × mm_M)
  | 0, _, _, _, _ => none
  | n + 1, y2, y3, y4, S =>
    if y2 < y4 then
      some (y3, S)
    else
      mw_b2 (pf_X9_itemEnd G N S y4 y2) fun v1 S1 =>
      if v1 < 0 then
        some ((-1), S1)
      else
        if y2 ≤ v1 then
          pf_X9_items_5 G N n y2 (y3 + 1) (v1 + 1) S1
        else
          (mm_ai S1 0 v1).bind fun v2 =>
          if v2 = 44 then
            pf_X9_items_5 G N n y2 (y3 + 1) (v1 + 1) S1
          else
            some ((-1), S1)
def pf_X9_items (G : Nat → ClassId) (N : Nat) (S : mm_M) (x1 : Int32) (x2 : Int32) : Option (Int32 × mm_M) :=
  pf_X9_items_5 G N N x2 0 x1 S
def pf_X9_set_138 (G : Nat → ClassId) (N : Nat) (k3 : Int32 → Int32 → Int32 → mm_M → Option (mm_M)) (y1 : Int32) (y3 : Int32) (y6 : Int32) (w1 : Int32) (w2 : Int32) (S : mm_M) : Option (mm_M) :=
  (mm_si S 20 w1 w2).bind fun S1 =>
  k3 y1 y3 (y6 + 1) S1
def pf_X9_set_70 (G : Nat → ClassId) (N : Nat) (k3 : Int32 → Int32 → Int32 → mm_M → Option (mm_M)) : Nat → Int32 → Int32 → Int32 → Int32 → Int32 → Int32 → Int32 → mm_M → Option (mm_M)
  | 0, _, _, _, _, _, _, _, _ => none
  | n + 1, y1, y3, y4, y5, y6, y7, y8, S =>
    if y6 ≤ y8 then
      if y6 ≤ (y4 + 2) then
        (mm_ai S 20 ((6 * y1) + y5)).bind fun v1 =>
        pf_X9_set_138 G N k3 y1 y3 y6 ((6 * y1) + y5) v1 S
      else
        pf_X9_set_138 G N k3 y1 y3 y6 ((6 * y1) + y5) y7 S
    else
      (mm_ai S 0 y8).bind fun v2 =>
      pf_X9_set_70 G N k3 n y1 y3 y4 y5 y6 (((10 * y7) + v2) - 48) (y8 + 1) S
def pf_X9_set_60 (G : Nat → ClassId) (N : Nat) (k3 : Int32 → Int32 → Int32 → mm_M → Option (mm_M)) (y1 : Int32) (y3 : Int32) (y4 : Int32) (y5 : Int32) (y6 : Int32) (w1 : Int32) (w2 : Int32) (S : mm_M) : Option (mm_M) :=
  (mm_si S 19 w1 (vp_nar .boolean w2)).bind fun S1 =>
  pf_X9_set_70 G N k3 N y1 y3 y4 y5 y6 0 (y4 + 2) S1
def pf_X9_set_3 (G : Nat → ClassId) (N : Nat) : Nat → Int32 → Int32 → Int32 → mm_M → Option (mm_M)
  | 0, _, _, _, _ => none
  | n + 1, y1, y3, y4, S =>
    if y3 ≤ y4 then
      some S
    else
      (mm_ai S 0 y4).bind fun v1 =>
      mw_b2 (pf_X9_itemEnd G N S y4 y3) fun v2 S2 =>
      (mm_ai S2 0 (y4 + 1)).bind fun v3 =>
      if ¬ v3 = 45 then
        pf_X9_set_60 G N (pf_X9_set_3 G N n) y1 y3 y4 (v1 - 48) v2 ((6 * y1) + (v1 - 48)) 0 S2
      else
        pf_X9_set_60 G N (pf_X9_set_3 G N n) y1 y3 y4 (v1 - 48) v2 ((6 * y1) + (v1 - 48)) 1 S2
def pf_X9_set (G : Nat → ClassId) (N : Nat) (S : mm_M) (x1 : Int32) (x2 : Int32) (x3 : Int32) : Option (mm_M) :=
  pf_X9_set_3 G N N x1 x3 x2 S
def pf_X9_record_14 (G : Nat → ClassId) (N : Nat) (w1 : Int32) (S : mm_M) : Option (Int32 × mm_M) :=
  (mm_pf S 4 w1).bind fun S1 =>
  if (S1.1 4) ≤ 0 then
    (mm_pf S1 29 ((S1.1 29) + 1)).bind fun S2 =>
    some (((S2.1 29) - 1), S2)
  else
    some (0, S1)
def pf_X9_record (G : Nat → ClassId) (N : Nat) (S : mm_M) : Option (Int32 × mm_M) :=
  if ¬ (S.1 29) = 4 then
    pf_X9_record_14 G N 0 S
  else
    pf_X9_record_14 G N 1 S
def pf_X9_settings_49 (G : Nat → ClassId) (N : Nat) (y1 : Int32) (y2 : Int32) (y3 : Int32) (w1 : Int32) (S : mm_M) : Option (Int32 × mm_M) :=
  (mm_pf S 4 w1).bind fun S1 =>
  if (S1.1 4) ≤ 0 then
    (pf_X9_set G N S1 y1 0 y2).bind fun S2 =>
    some (y3, S2)
  else
    some (0, S1)
def pf_X9_settings_30 (G : Nat → ClassId) (N : Nat) (y1 : Int32) (y2 : Int32) (y3 : Int32) (S : mm_M) : Option (Int32 × mm_M) :=
  pf_X9_settings_49 G N y1 y2 y3 1 S
def pf_X9_settings (G : Nat → ClassId) (N : Nat) (S : mm_M) (x1 : Int32) : Option (Int32 × mm_M) :=
  (mm_pf S 5 0).bind fun S1 =>
  mw_b2 (pf_X9_items G N S1 0 (S.1 5)) fun v2 S2 =>
  mw_b2 (pf_X9_isRecording G N S2 x1) fun v3 S3 =>
  if v3 = 0 then
    pf_X9_settings_30 G N x1 (S.1 5) v2 S3
  else
    if 0 ≤ v2 then
      (mm_ai S3 18 x1).bind fun v4 =>
      if ¬ v4 = 3 then
        pf_X9_settings_49 G N x1 (S.1 5) v2 0 S3
      else
        pf_X9_settings_49 G N x1 (S.1 5) v2 2 S3
    else
      pf_X9_settings_30 G N x1 (S.1 5) v2 S3
def pf_X9_profile_203 (G : Nat → ClassId) (N : Nat) (k22 : Int32 → Int32 → Int32 → Int32 → mm_M → Option (Int32 × mm_M)) (y1 : Int32) (y2 : Int32) (y5 : Int32) (w0 : Int32) (S : mm_M) : Option (Int32 × mm_M) :=
  k22 y1 y2 w0 (y5 + 1) S
def pf_X9_profile_190 (G : Nat → ClassId) (N : Nat) (k22 : Int32 → Int32 → Int32 → Int32 → mm_M → Option (Int32 × mm_M)) (y1 : Int32) (y3 : Int32) (y5 : Int32) (y7 : Int32) (w0 : Int32) (S : mm_M) : Option (Int32 × mm_M) :=
  if y7 = 0 then
    pf_X9_profile_203 G N k22 y1 w0 y5 (y3 + 1) S
  else
    pf_X9_profile_203 G N k22 y1 w0 y5 y3 S
def pf_X9_profile_178 (G : Nat → ClassId) (N : Nat) (k22 : Int32 → Int32 → Int32 → Int32 → mm_M → Option (Int32 × mm_M)) (y1 : Int32) (y2 : Int32) (y3 : Int32) (y5 : Int32) (y7 : Int32) (S : mm_M) : Option (Int32 × mm_M) :=
  if y7 = 0 then
    pf_X9_profile_190 G N k22 y1 y3 y5 y7 y2 S
  else
    pf_X9_profile_190 G N k22 y1 y3 y5 y7 (y2 + 1) S
def pf_X9_profile_159 (G : Nat → ClassId) (N : Nat) (k22 : Int32 → Int32 → Int32 → Int32 → mm_M → Option (Int32 × mm_M)) (y1 : Int32) (y2 : Int32) (y3 : Int32) (y4 : Int32) (y5 : Int32) (y6 : Int32) (w0 : Int32) (S : mm_M) : Option (Int32 × mm_M) :=
  if w0 = 0 then
    pf_X9_profile_178 G N k22 y1 y2 y3 y5 w0 S
  else
    (pf_X9_set G N S y6 (y4 + 2) y5).bind fun S1 =>
    pf_X9_profile_178 G N k22 y1 y2 y3 y5 w0 S1
def pf_X9_profile_158 (G : Nat → ClassId) (N : Nat) (k22 : Int32 → Int32 → Int32 → Int32 → mm_M → Option (Int32 × mm_M)) (y1 : Int32) (y2 : Int32) (y3 : Int32) (y4 : Int32) (y5 : Int32) (y6 : Int32) (S : mm_M) : Option (Int32 × mm_M) :=
  pf_X9_profile_159 G N k22 y1 y2 y3 y4 y5 y6 0 S
def pf_X9_profile_113 (G : Nat → ClassId) (N : Nat) (k22 : Int32 → Int32 → Int32 → Int32 → mm_M → Option (Int32 × mm_M)) (y1 : Int32) (y2 : Int32) (y3 : Int32) (y4 : Int32) (y5 : Int32) (y6 : Int32) (w1 : Int32) (S : mm_M) : Option (Int32 × mm_M) :=
  (mm_ai S 18 w1).bind fun v1 =>
  if v1 = 3 then
    pf_X9_profile_158 G N k22 y1 y2 y3 y4 y5 y6 S
  else
    if y5 ≤ (y4 + 1) then
      pf_X9_profile_158 G N k22 y1 y2 y3 y4 y5 y6 S
    else
      (mm_ai S 0 (y4 + 1)).bind fun v2 =>
      if ¬ v2 = 58 then
        pf_X9_profile_158 G N k22 y1 y2 y3 y4 y5 y6 S
      else
        mw_b2 (pf_X9_items G N S (y4 + 2) y5) fun v3 S3 =>
        if v3 ≤ 0 then
          pf_X9_profile_158 G N k22 y1 y2 y3 y4 y5 y6 S3
        else
          pf_X9_profile_159 G N k22 y1 y2 y3 y4 y5 y6 1 S3
def pf_X9_profile_107 (G : Nat → ClassId) (N : Nat) (k22 : Int32 → Int32 → Int32 → Int32 → mm_M → Option (Int32 × mm_M)) (y1 : Int32) (y2 : Int32) (y3 : Int32) (y4 : Int32) (y5 : Int32) (y6 : Int32) (S : mm_M) : Option (Int32 × mm_M) :=
  pf_X9_profile_113 G N k22 y1 y2 y3 y4 y5 y6 0 S
def pf_X9_profile_81 (G : Nat → ClassId) (N : Nat) (k22 : Int32 → Int32 → Int32 → Int32 → mm_M → Option (Int32 × mm_M)) (y1 : Int32) (y2 : Int32) (y3 : Int32) (y4 : Int32) (y5 : Int32) (w0 : Int32) (S : mm_M) : Option (Int32 × mm_M) :=
  mw_b2 (pf_X9_isRecording G N S w0) fun v1 S1 =>
  if v1 = 0 then
    pf_X9_profile_158 G N k22 y1 y2 y3 y4 y5 w0 S1
  else
    if w0 < 0 then
      pf_X9_profile_107 G N k22 y1 y2 y3 y4 y5 w0 S1
    else
      if w0 ≤ 3 then
        pf_X9_profile_113 G N k22 y1 y2 y3 y4 y5 w0 w0 S1
      else
        pf_X9_profile_107 G N k22 y1 y2 y3 y4 y5 w0 S1
def pf_X9_profile_56 (G : Nat → ClassId) (N : Nat) (k22 : Int32 → Int32 → Int32 → Int32 → mm_M → Option (Int32 × mm_M)) (y1 : Int32) (y2 : Int32) (y3 : Int32) (y4 : Int32) (y5 : Int32) (S : mm_M) : Option (Int32 × mm_M) :=
  mw_b2 (pf_X9_digit G N S y4 y5) fun v1 S1 =>
  if v1 = 0 then
    pf_X9_profile_81 G N k22 y1 y2 y3 y4 y5 (-1) S1
  else
    (mm_ai S1 0 y4).bind fun v2 =>
    pf_X9_profile_81 G N k22 y1 y2 y3 y4 y5 (v2 - 48) S1
def pf_X9_profile_32 (G : Nat → ClassId) (N : Nat) (k22 : Int32 → Int32 → Int32 → Int32 → mm_M → Option (Int32 × mm_M)) : Nat → Int32 → Int32 → Int32 → Int32 → Int32 → mm_M → Option (Int32 × mm_M)
  | 0, _, _, _, _, _, _ => none
  | n + 1, y1, y2, y3, y4, y5, S =>
    if y1 ≤ y5 then
      pf_X9_profile_56 G N k22 y1 y2 y3 y4 y5 S
    else
      (mm_ai S 0 y5).bind fun v1 =>
      if v1 = 124 then
        pf_X9_profile_56 G N k22 y1 y2 y3 y4 y5 S
      else
        pf_X9_profile_32 G N k22 n y1 y2 y3 y4 (y5 + 1) S
def pf_X9_profile_22 (G : Nat → ClassId) (N : Nat) : Nat → Int32 → Int32 → Int32 → Int32 → mm_M → Option (Int32 × mm_M)
  | 0, _, _, _, _, _ => none
  | n + 1, y1, y2, y3, y4, S =>
    if y1 < y4 then
      some (((10 * y2) + y3), S)
    else
      pf_X9_profile_32 G N (pf_X9_profile_22 G N n) N y1 y2 y3 y4 y4 S
def pf_X9_profile (G : Nat → ClassId) (N : Nat) (S : mm_M) : Option (Int32 × mm_M) :=
  (mm_pf S 4 0).bind fun S1 =>
  (mm_pf S1 5 0).bind fun S2 =>
  pf_X9_profile_22 G N N (S1.1 5) 0 0 0 S2
def pf_X9_start_27 (G : Nat → ClassId) (N : Nat) (y1 : Int32) (w1 : Int32) (S : mm_M) : Option (Int32 × mm_M) :=
  (mm_pf S 4 w1).bind fun S1 =>
  if (S1.1 4) ≤ 0 then
    (pf_X9_rotate G N S1).bind fun S2 =>
    (mm_si S2 18 y1 1).bind fun S3 =>
    (mm_ai S3 12 6).bind fun v4 =>
    (mm_si S3 21 y1 v4).bind fun S5 =>
    (mm_ai S5 12 6).bind fun v6 =>
    some (v6, S5)
  else
    some (0, S1)
def pf_X9_start (G : Nat → ClassId) (N : Nat) (S : mm_M) (x1 : Int32) : Option (Int32 × mm_M) :=
  mw_b2 (pf_X9_isRecording G N S x1) fun v1 S1 =>
  if ¬ v1 = 0 then
    (mm_ai S1 18 x1).bind fun v2 =>
    if v2 = 0 then
      pf_X9_start_27 G N x1 0 S1
    else
      pf_X9_start_27 G N x1 2 S1
  else
    pf_X9_start_27 G N x1 1 S1
def pf_X9_end (G : Nat → ClassId) (N : Nat) (S : mm_M) (x1 : Int32) : Option (Int32 × mm_M) :=
  (mm_ai S 12 6).bind fun v1 =>
  (mm_si S 22 x1 v1).bind fun S2 =>
  (pf_X9_rotate G N S2).bind fun S3 =>
  (mm_si S3 18 x1 2).bind fun S4 =>
  (mm_ai S4 22 x1).bind fun v5 =>
  some (v5, S4)
def pf_X9_stop_28 (G : Nat → ClassId) (N : Nat) (y1 : Int32) (w1 : Int32) (S : mm_M) : Option (Int32 × mm_M) :=
  (mm_pf S 4 w1).bind fun S1 =>
  if (S1.1 4) ≤ 0 then
    mw_b2 (pf_X9_end G N S1 y1) fun v2 S2 =>
    some (v2, S2)
  else
    some (0, S1)
def pf_X9_stop (G : Nat → ClassId) (N : Nat) (S : mm_M) (x1 : Int32) : Option (Int32 × mm_M) :=
  mw_b2 (pf_X9_isRecording G N S x1) fun v1 S1 =>
  if ¬ v1 = 0 then
    (mm_ai S1 18 x1).bind fun v2 =>
    if v2 = 1 then
      pf_X9_stop_28 G N x1 0 S1
    else
      pf_X9_stop_28 G N x1 2 S1
  else
    pf_X9_stop_28 G N x1 1 S1
def pf_X9_close_66 (G : Nat → ClassId) (N : Nat) (y1 : Int32) (y2 : Int32) (S : mm_M) : Option (Int32 × mm_M) :=
  (mm_si S 18 y1 3).bind fun S1 =>
  if vp_nar .boolean y2 = y2 then some (y2, S1) else none
def pf_X9_close_55 (G : Nat → ClassId) (N : Nat) (y1 : Int32) (w0 : Int32) (S : mm_M) : Option (Int32 × mm_M) :=
  if w0 = 0 then
    pf_X9_close_66 G N y1 w0 S
  else
    mw_b2 (pf_X9_end G N S y1) fun v1 S1 =>
    pf_X9_close_66 G N y1 w0 S1
def pf_X9_close_28 (G : Nat → ClassId) (N : Nat) (y1 : Int32) (w1 : Int32) (S : mm_M) : Option (Int32 × mm_M) :=
  (mm_pf S 4 w1).bind fun S1 =>
  if (S1.1 4) ≤ 0 then
    (mm_ai S1 18 y1).bind fun v2 =>
    if ¬ v2 = 1 then
      pf_X9_close_55 G N y1 0 S1
    else
      pf_X9_close_55 G N y1 1 S1
  else
    if vp_nar .boolean 0 = 0 then some (0, S1) else none
def pf_X9_close (G : Nat → ClassId) (N : Nat) (S : mm_M) (x1 : Int32) : Option (Int32 × mm_M) :=
  mw_b2 (pf_X9_isRecording G N S x1) fun v1 S1 =>
  if ¬ v1 = 0 then
    (mm_ai S1 18 x1).bind fun v2 =>
    if ¬ v2 = 3 then
      pf_X9_close_28 G N x1 0 S1
    else
      pf_X9_close_28 G N x1 2 S1
  else
    pf_X9_close_28 G N x1 1 S1
def pf_X9_out (G : Nat → ClassId) (N : Nat) (S : mm_M) (x1 : Int32) : Option (mm_M) :=
  (mm_si S 23 (S.1 36) x1).bind fun S1 =>
  (mm_pf S1 36 ((S1.1 36) + 1)).bind fun S2 =>
  some S2
def pf_X9_outVariable_12 (G : Nat → ClassId) (N : Nat) : Nat → Int32 → mm_M → Option (mm_M)
  | 0, _, _ => none
  | n + 1, y2, S =>
    if (S.1 38) ≤ y2 then
      some S
    else
      (mm_ai S 24 y2).bind fun v1 =>
      (pf_X9_out G N S v1).bind fun S2 =>
      pf_X9_outVariable_12 G N n (y2 + 1) S2
def pf_X9_outVariable (G : Nat → ClassId) (N : Nat) (S : mm_M) (x1 : Int32) : Option (mm_M) :=
  (mm_pf S 38 0).bind fun S1 =>
  (pf_X9_variable G N S1 x1).bind fun S2 =>
  pf_X9_outVariable_12 G N N 0 S2
def pf_X9_writeOut_149 (G : Nat → ClassId) (N : Nat) (k111 : Int32 → Int32 → mm_M → Option (mm_M)) : Nat → Int32 → Int32 → Int32 → mm_M → Option (mm_M)
  | 0, _, _, _, _ => none
  | n + 1, y1, y3, y4, S =>
    (mm_ai S 4 y3).bind fun v1 =>
    if v1 ≤ y4 then
      k111 y1 (y3 + 1) S
    else
      (mm_ai S 3 ((8 * y3) + y4)).bind fun v2 =>
      (pf_X9_out G N S v2).bind fun S3 =>
      pf_X9_writeOut_149 G N k111 n y1 y3 (y4 + 1) S3
def pf_X9_writeOut_111 (G : Nat → ClassId) (N : Nat) : Nat → Int32 → Int32 → mm_M → Option (mm_M)
  | 0, _, _, _ => none
  | n + 1, y1, y3, S =>
    if 24 ≤ y3 then
      some S
    else
      (mm_ai S 15 y1).bind fun v1 =>
      if ¬ ((v1 >>> (y3 &&& 31)) &&& 1) = 1 then
        pf_X9_writeOut_111 G N n y1 (y3 + 1) S
      else
        (pf_X9_outVariable G N S y3).bind fun S2 =>
        (mm_ai S2 4 y3).bind fun v3 =>
        (pf_X9_outVariable G N S2 v3).bind fun S4 =>
        pf_X9_writeOut_149 G N (pf_X9_writeOut_111 G N n) N y1 y3 0 S4
def pf_X9_writeOut_79 (G : Nat → ClassId) (N : Nat) : Nat → Int32 → Int32 → Int32 → mm_M → Option (mm_M)
  | 0, _, _, _, _ => none
  | n + 1, y1, y2, y3, S =>
    if 24 ≤ y3 then
      (pf_X9_outVariable G N S y2).bind fun S1 =>
      pf_X9_writeOut_111 G N N y1 0 S1
    else
      (mm_ai S 15 y1).bind fun v2 =>
      pf_X9_writeOut_79 G N n y1 (y2 + ((v2 >>> (y3 &&& 31)) &&& 1)) (y3 + 1) S
def pf_X9_writeOut_38 (G : Nat → ClassId) (N : Nat) : Nat → Int32 → Int32 → mm_M → Option (mm_M)
  | 0, _, _, _ => none
  | n + 1, y1, y2, S =>
    (mm_ai S 11 y1).bind fun v1 =>
    if v1 ≤ y2 then
      (pf_X9_out G N S 0).bind fun S2 =>
      pf_X9_writeOut_79 G N N y1 0 0 S2
    else
      (mm_ai S 10 ((600 * y1) + y2)).bind fun v3 =>
      (pf_X9_out G N S v3).bind fun S4 =>
      pf_X9_writeOut_38 G N n y1 (y2 + 1) S4
def pf_X9_writeOut (G : Nat → ClassId) (N : Nat) (S : mm_M) (x1 : Int32) : Option (mm_M) :=
  (pf_X9_out G N S 70).bind fun S1 =>
  (mm_ai S1 12 x1).bind fun v2 =>
  (pf_X9_outVariable G N S1 v2).bind fun S3 =>
  (mm_ai S3 13 x1).bind fun v4 =>
  (pf_X9_outVariable G N S3 v4).bind fun S5 =>
  (mm_ai S5 14 x1).bind fun v6 =>
  (pf_X9_outVariable G N S5 v6).bind fun S7 =>
  pf_X9_writeOut_38 G N N x1 0 S7
def pf_X9_dump_118 (G : Nat → ClassId) (N : Nat) (k70 : Int32 → Int32 → mm_M → Option (Int32 × mm_M)) (y1 : Int32) (y2 : Int32) (S : mm_M) : Option (Int32 × mm_M) :=
  (pf_X9_writeOut G N S y2).bind fun S1 =>
  k70 y1 (y2 + 1) S1
def pf_X9_dump_70 (G : Nat → ClassId) (N : Nat) : Nat → Int32 → Int32 → mm_M → Option (Int32 × mm_M)
  | 0, _, _, _ => none
  | n + 1, y1, y2, S =>
    if (S.1 19) ≤ y2 then
      some ((S.1 36), S)
    else
      (mm_ai S 12 y2).bind fun v1 =>
      (mm_ai S 21 y1).bind fun v2 =>
      if v1 < v2 then
        pf_X9_dump_70 G N n y1 (y2 + 1) S
      else
        (mm_ai S 18 y1).bind fun v3 =>
        if v3 = 1 then
          pf_X9_dump_118 G N (pf_X9_dump_70 G N n) y1 y2 S
        else
          (mm_ai S 12 y2).bind fun v4 =>
          (mm_ai S 22 y1).bind fun v5 =>
          if v5 < v4 then
            pf_X9_dump_70 G N n y1 (y2 + 1) S
          else
            pf_X9_dump_118 G N (pf_X9_dump_70 G N n) y1 y2 S
def pf_X9_dump_37 (G : Nat → ClassId) (N : Nat) (y1 : Int32) (w1 : Int32) (S : mm_M) : Option (Int32 × mm_M) :=
  (mm_pf S 4 w1).bind fun S1 =>
  if (S1.1 4) ≤ 0 then
    (mm_ai S1 18 y1).bind fun v2 =>
    if ¬ v2 = 1 then
      (mm_pf S1 36 0).bind fun S3 =>
      pf_X9_dump_70 G N N y1 0 S3
    else
      (pf_X9_rotate G N S1).bind fun S4 =>
      (mm_pf S4 36 0).bind fun S5 =>
      pf_X9_dump_70 G N N y1 0 S5
  else
    some (0, S1)
def pf_X9_dump_32 (G : Nat → ClassId) (N : Nat) (y1 : Int32) (S : mm_M) : Option (Int32 × mm_M) :=
  pf_X9_dump_37 G N y1 2 S
def pf_X9_dump (G : Nat → ClassId) (N : Nat) (S : mm_M) (x1 : Int32) : Option (Int32 × mm_M) :=
  mw_b2 (pf_X9_isRecording G N S x1) fun v1 S1 =>
  if ¬ v1 = 0 then
    (mm_ai S1 18 x1).bind fun v2 =>
    if v2 = 0 then
      pf_X9_dump_32 G N x1 S1
    else
      (mm_ai S1 18 x1).bind fun v3 =>
      if ¬ v3 = 3 then
        pf_X9_dump_37 G N x1 0 S1
      else
        pf_X9_dump_32 G N x1 S1
  else
    pf_X9_dump_37 G N x1 1 S1
def pf_X9_output (G : Nat → ClassId) (N : Nat) (S : mm_M) (x1 : Int32) : Option (Int32 × mm_M) :=
  (mm_pf S 4 0).bind fun S1 =>
  if x1 < 0 then
    some ((-1), S1)
  else
    if (S1.1 36) ≤ x1 then
      some ((-1), S1)
    else
      (mm_ai S1 23 x1).bind fun v2 =>
      some (v2, S1)
def pf_X9_state (G : Nat → ClassId) (N : Nat) (S : mm_M) (x1 : Int32) : Option (Int32 × mm_M) :=
  (mm_pf S 4 0).bind fun S1 =>
  mw_b2 (pf_X9_isRecording G N S1 x1) fun v2 S2 =>
  if v2 = 0 then
    some ((-1), S2)
  else
    (mm_ai S2 18 x1).bind fun v3 =>
    some (v3, S2)
def pf_X9_threshold (G : Nat → ClassId) (N : Nat) (S : mm_M) (x1 : Int32) (x2 : Int32) : Option (Int32 × mm_M) :=
  (mm_pf S 4 0).bind fun S1 =>
  mw_b2 (pf_X9_isRecording G N S1 x1) fun v2 S2 =>
  if v2 = 0 then
    some ((-1), S2)
  else
    if x2 < 0 then
      some ((-1), S2)
    else
      if (S2.1 7) ≤ x2 then
        some ((-1), S2)
      else
        (mm_ai S2 19 ((6 * x1) + x2)).bind fun v3 =>
        if ¬ v3 = 0 then
          some ((-1), S2)
        else
          (mm_ai S2 20 ((6 * x1) + x2)).bind fun v4 =>
          some (v4, S2)
def pf_X9_buffered (G : Nat → ClassId) (N : Nat) (S : mm_M) (x1 : Int32) : Option (Int32 × mm_M) :=
  (mm_pf S 4 0).bind fun S1 =>
  mw_b2 (pf_X9_isThread G N S1 x1) fun v2 S2 =>
  if v2 = 0 then
    some ((-1), S2)
  else
    (mm_ai S2 8 x1).bind fun v3 =>
    some (v3, S2)
def pf_X9_count (G : Nat → ClassId) (N : Nat) (S : mm_M) (x1 : Int32) : Option (Int32 × mm_M) :=
  (mm_pf S 4 0).bind fun S1 =>
  if 3 ≤ x1 then
    if ¬ x1 = 3 then
      if ¬ x1 = 4 then
        if ¬ x1 = 5 then
          some ((-1), S1)
        else
          some ((S1.1 10), S1)
      else
        some ((S1.1 20), S1)
    else
      some ((S1.1 19), S1)
  else
    if ¬ x1 = 0 then
      if ¬ x1 = 1 then
        if ¬ x1 = 2 then
          some ((-1), S1)
        else
          (mm_ai S1 11 6).bind fun v2 =>
          some (v2, S1)
      else
        (mm_ai S1 12 6).bind fun v3 =>
        some (v3, S1)
    else
      some ((S1.1 18), S1)
def pf_X9_lost (G : Nat → ClassId) (N : Nat) (S : mm_M) (x1 : Int32) : Option (Int32 × mm_M) :=
  (mm_pf S 4 0).bind fun S1 =>
  mw_b2 (pf_X9_isThread G N S1 x1) fun v2 S2 =>
  if v2 = 0 then
    some ((-1), S2)
  else
    (mm_ai S2 17 x1).bind fun v3 =>
    some (v3, S2)
end
section
set_option maxRecDepth 100000 in
theorem tp_0 : Cond.selects RX8 yX8_isType yX8_isType ∈ lw_good := mw_tp 0 (by decide +kernel) (by decide +kernel)
set_option maxRecDepth 100000 in
theorem tp_1 : Cond.selects RX8 yX8_endEvent yX8_endEvent ∈ lw_good := mw_tp 1 (by decide +kernel) (by decide +kernel)
set_option maxRecDepth 100000 in
theorem tp_2 : Cond.selects RX8 yX8_interestIn yX8_interestIn ∈ lw_good := mw_tp 2 (by decide +kernel) (by decide +kernel)
set_option maxRecDepth 100000 in
theorem tp_3 : Cond.selects RX6 yX6_isSame yX6_isSame ∈ lw_good := mw_tp 3 (by decide +kernel) (by decide +kernel)
set_option maxRecDepth 100000 in
theorem tp_4 : Cond.selects RX8 yX8_compose yX8_compose ∈ lw_good := mw_tp 4 (by decide +kernel) (by decide +kernel)
set_option maxRecDepth 100000 in
theorem tp_5 : Cond.selects RX8 yX8_makeRoom yX8_makeRoom ∈ lw_good := mw_tp 5 (by decide +kernel) (by decide +kernel)
set_option maxRecDepth 100000 in
theorem tp_6 : Cond.selects RX8 yX8_rotate yX8_rotate ∈ lw_good := mw_tp 6 (by decide +kernel) (by decide +kernel)
set_option maxRecDepth 100000 in
theorem tp_7 : Cond.selects RX2 yX2_evictOldest yX2_evictOldest ∈ lw_good := mw_tp 7 (by decide +kernel) (by decide +kernel)
set_option maxRecDepth 100000 in
theorem tp_8 : Cond.selects RX8 yX8_carryOutPart yX8_carryOutPart ∈ lw_good := mw_tp 8 (by decide +kernel) (by decide +kernel)
set_option maxRecDepth 100000 in
theorem tp_9 : Cond.selects RX8 yX8_isRecording yX8_isRecording ∈ lw_good := mw_tp 9 (by decide +kernel) (by decide +kernel)
set_option maxRecDepth 100000 in
theorem tp_10 : Cond.selects RX8 yX8_countItems yX8_countItems ∈ lw_good := mw_tp 10 (by decide +kernel) (by decide +kernel)
set_option maxRecDepth 100000 in
theorem tp_11 : Cond.selects RX8 yX8_itemEnd yX8_itemEnd ∈ lw_good := mw_tp 11 (by decide +kernel) (by decide +kernel)
set_option maxRecDepth 100000 in
theorem tp_12 : Cond.selects RX8 yX8_applyItems yX8_applyItems ∈ lw_good := mw_tp 12 (by decide +kernel) (by decide +kernel)
set_option maxRecDepth 100000 in
theorem tp_13 : Cond.selects RX8 yX8_applyItem yX8_applyItem ∈ lw_good := mw_tp 13 (by decide +kernel) (by decide +kernel)
set_option maxRecDepth 100000 in
theorem tp_15 : Cond.selects RX8 yX8_endRecording yX8_endRecording ∈ lw_good := mw_tp 15 (by decide +kernel) (by decide +kernel)
set_option maxRecDepth 100000 in
theorem tp_16 : Cond.selects RX1 yX1_countStrings yX1_countStrings ∈ lw_good := mw_tp 16 (by decide +kernel) (by decide +kernel)
set_option maxRecDepth 100000 in
theorem tp_17 : Cond.selects RX9 yX9_unwanted yX9_unwanted ∈ lw_good := mw_tp 17 (by decide +kernel) (by decide +kernel)
set_option maxRecDepth 100000 in
theorem tp_18 : Cond.selects RX9 yX9_stringOf yX9_stringOf ∈ lw_good := mw_tp 18 (by decide +kernel) (by decide +kernel)
set_option maxRecDepth 100000 in
theorem tp_19 : Cond.selects RX9 yX9_variable yX9_variable ∈ lw_good := mw_tp 19 (by decide +kernel) (by decide +kernel)
set_option maxRecDepth 100000 in
theorem tp_20 : Cond.selects RX9 yX9_keepString yX9_keepString ∈ lw_good := mw_tp 20 (by decide +kernel) (by decide +kernel)
set_option maxRecDepth 100000 in
theorem tp_21 : Cond.selects RX9 yX9_move yX9_move ∈ lw_good := mw_tp 21 (by decide +kernel) (by decide +kernel)
set_option maxRecDepth 100000 in
theorem tp_22 : Cond.selects RX9 yX9_drain yX9_drain ∈ lw_good := mw_tp 22 (by decide +kernel) (by decide +kernel)
set_option maxRecDepth 100000 in
theorem tp_23 : Cond.selects RX9 yX9_rotate yX9_rotate ∈ lw_good := mw_tp 23 (by decide +kernel) (by decide +kernel)
set_option maxRecDepth 100000 in
theorem tp_24 : Cond.selects RX9 yX9_loss yX9_loss ∈ lw_good := mw_tp 24 (by decide +kernel) (by decide +kernel)
set_option maxRecDepth 100000 in
theorem tp_25 : Cond.selects RX9 yX9_put yX9_put ∈ lw_good := mw_tp 25 (by decide +kernel) (by decide +kernel)
set_option maxRecDepth 100000 in
theorem tp_26 : Cond.selects RX9 yX9_copyChunk yX9_copyChunk ∈ lw_good := mw_tp 26 (by decide +kernel) (by decide +kernel)
set_option maxRecDepth 100000 in
theorem tp_27 : Cond.selects RX9 yX9_items yX9_items ∈ lw_good := mw_tp 27 (by decide +kernel) (by decide +kernel)
set_option maxRecDepth 100000 in
theorem tp_28 : Cond.selects RX9 yX9_itemEnd yX9_itemEnd ∈ lw_good := mw_tp 28 (by decide +kernel) (by decide +kernel)
set_option maxRecDepth 100000 in
theorem tp_29 : Cond.selects RX9 yX9_digit yX9_digit ∈ lw_good := mw_tp 29 (by decide +kernel) (by decide +kernel)
set_option maxRecDepth 100000 in
theorem tp_30 : Cond.selects RX9 yX9_isRecording yX9_isRecording ∈ lw_good := mw_tp 30 (by decide +kernel) (by decide +kernel)
set_option maxRecDepth 100000 in
theorem tp_31 : Cond.selects RX9 yX9_set yX9_set ∈ lw_good := mw_tp 31 (by decide +kernel) (by decide +kernel)
set_option maxRecDepth 100000 in
theorem tp_32 : Cond.selects RX9 yX9_end yX9_end ∈ lw_good := mw_tp 32 (by decide +kernel) (by decide +kernel)
set_option maxRecDepth 100000 in
theorem tp_33 : Cond.selects RX9 yX9_writeOut yX9_writeOut ∈ lw_good := mw_tp 33 (by decide +kernel) (by decide +kernel)
set_option maxRecDepth 100000 in
theorem tp_34 : Cond.selects RX9 yX9_out yX9_out ∈ lw_good := mw_tp 34 (by decide +kernel) (by decide +kernel)
set_option maxRecDepth 100000 in
theorem tp_35 : Cond.selects RX9 yX9_outVariable yX9_outVariable ∈ lw_good := mw_tp 35 (by decide +kernel) (by decide +kernel)
set_option maxRecDepth 100000 in
theorem tw_1 : Cond.initialized RX8 ∈ lw_good := mw_tw 1 (by decide +kernel) (by decide +kernel)
set_option maxRecDepth 100000 in
theorem tw_2 : Cond.initialized "java/lang/Math" ∈ lw_good := mw_tw 2 (by decide +kernel) (by decide +kernel)
set_option maxRecDepth 100000 in
theorem tw_3 : Cond.initialized RX7 ∈ lw_good := mw_tw 3 (by decide +kernel) (by decide +kernel)
set_option maxRecDepth 100000 in
theorem tw_4 : Cond.initialized RX6 ∈ lw_good := mw_tw 4 (by decide +kernel) (by decide +kernel)
set_option maxRecDepth 100000 in
theorem tw_5 : Cond.initialized RX3 ∈ lw_good := mw_tw 5 (by decide +kernel) (by decide +kernel)
set_option maxRecDepth 100000 in
theorem tw_6 : Cond.initialized RX0 ∈ lw_good := mw_tw 6 (by decide +kernel) (by decide +kernel)
set_option maxRecDepth 100000 in
theorem tw_7 : Cond.initialized RX5 ∈ lw_good := mw_tw 7 (by decide +kernel) (by decide +kernel)
set_option maxRecDepth 100000 in
theorem tw_8 : Cond.initialized RX4 ∈ lw_good := mw_tw 8 (by decide +kernel) (by decide +kernel)
set_option maxRecDepth 100000 in
theorem tw_9 : Cond.initialized RX2 ∈ lw_good := mw_tw 9 (by decide +kernel) (by decide +kernel)
set_option maxRecDepth 100000 in
theorem tw_10 : Cond.initialized RX1 ∈ lw_good := mw_tw 10 (by decide +kernel) (by decide +kernel)
set_option maxRecDepth 100000 in
theorem tw_11 : Cond.initialized RX9 ∈ lw_good := mw_tw 11 (by decide +kernel) (by decide +kernel)
set_option maxRecDepth 100000 in
theorem tw_22 : Cond.methodLink RX8 3 objectInit ∈ lw_good := mw_tw 22 (by decide +kernel) (by decide +kernel)
set_option maxRecDepth 100000 in
theorem tw_23 : Cond.instanceMethod objectInit ∈ lw_good := mw_tw 23 (by decide +kernel) (by decide +kernel)
set_option maxRecDepth 100000 in
theorem tw_24 : Cond.code objectInit ⟨#[0xb1]⟩ 1 none ∈ lw_good := mw_tw 24 (by decide +kernel) (by decide +kernel)
set_option maxRecDepth 100000 in
theorem tw_25 : Cond.methodLink RX8 9 Lib.Math.min.name ∈ lw_good := mw_tw 25 (by decide +kernel) (by decide +kernel)
set_option maxRecDepth 100000 in
theorem tw_26 : Cond.static Lib.Math.min.name ∈ lw_good := mw_tw 26 (by decide +kernel) (by decide +kernel)
set_option maxRecDepth 100000 in
theorem tw_27 : Cond.code Lib.Math.min.name Lib.Math.min.code 2 (some .int) ∈ lw_good := mw_tw 27 (by decide +kernel) (by decide +kernel)
set_option maxRecDepth 100000 in
theorem tw_28 : Cond.methodLink RX8 15 Lib.Math.max.name ∈ lw_good := mw_tw 28 (by decide +kernel) (by decide +kernel)
set_option maxRecDepth 100000 in
theorem tw_29 : Cond.static Lib.Math.max.name ∈ lw_good := mw_tw 29 (by decide +kernel) (by decide +kernel)
set_option maxRecDepth 100000 in
theorem tw_30 : Cond.code Lib.Math.max.name Lib.Math.max.code 2 (some .int) ∈ lw_good := mw_tw 30 (by decide +kernel) (by decide +kernel)
set_option maxRecDepth 100000 in
theorem tw_31 : Cond.classLink RX8 22 RX7 ∈ lw_good := mw_tw 31 (by decide +kernel) (by decide +kernel)
set_option maxRecDepth 100000 in
theorem tw_32 : Cond.instantiable RX7 2 ∈ lw_good := mw_tw 32 (by decide +kernel) (by decide +kernel)
set_option maxRecDepth 100000 in
theorem tw_33 : Cond.methodLink RX8 24 yX7_init ∈ lw_good := mw_tw 33 (by decide +kernel) (by decide +kernel)
set_option maxRecDepth 100000 in
theorem tw_34 : Cond.instanceMethod yX7_init ∈ lw_good := mw_tw 34 (by decide +kernel) (by decide +kernel)
set_option maxRecDepth 100000 in
theorem tw_35 : Cond.code yX7_init cX7_init 1 none ∈ lw_good := mw_tw 35 (by decide +kernel) (by decide +kernel)
set_option maxRecDepth 100000 in
theorem tw_36 : Cond.methodLink RX7 3 objectInit ∈ lw_good := mw_tw 36 (by decide +kernel) (by decide +kernel)
set_option maxRecDepth 100000 in
theorem tw_37 : Cond.fieldLink RX7 9 "EventRecorder$Text" "characters" "[C" ∈ lw_good := mw_tw 37 (by decide +kernel) (by decide +kernel)
set_option maxRecDepth 100000 in
theorem tw_38 : Cond.fieldLink RX7 15 "EventRecorder$Text" "length" "I" ∈ lw_good := mw_tw 38 (by decide +kernel) (by decide +kernel)
set_option maxRecDepth 100000 in
theorem tw_44 : Cond.arrayClass .char ∈ lw_good := mw_tw 44 (by decide +kernel) (by decide +kernel)
set_option maxRecDepth 100000 in
theorem tw_45 : Cond.classLink RX8 29 RX6 ∈ lw_good := mw_tw 45 (by decide +kernel) (by decide +kernel)
set_option maxRecDepth 100000 in
theorem tw_46 : Cond.instantiable RX6 3 ∈ lw_good := mw_tw 46 (by decide +kernel) (by decide +kernel)
set_option maxRecDepth 100000 in
theorem tw_47 : Cond.methodLink RX8 31 yX6_init ∈ lw_good := mw_tw 47 (by decide +kernel) (by decide +kernel)
set_option maxRecDepth 100000 in
theorem tw_48 : Cond.instanceMethod yX6_init ∈ lw_good := mw_tw 48 (by decide +kernel) (by decide +kernel)
set_option maxRecDepth 100000 in
theorem tw_49 : Cond.code yX6_init cX6_init 1 none ∈ lw_good := mw_tw 49 (by decide +kernel) (by decide +kernel)
set_option maxRecDepth 100000 in
theorem tw_50 : Cond.methodLink RX6 3 objectInit ∈ lw_good := mw_tw 50 (by decide +kernel) (by decide +kernel)
set_option maxRecDepth 100000 in
theorem tw_51 : Cond.fieldLink RX6 9 "EventRecorder$StringTable" "characters" "[C" ∈ lw_good := mw_tw 51 (by decide +kernel) (by decide +kernel)
set_option maxRecDepth 100000 in
theorem tw_52 : Cond.fieldLink RX6 15 "EventRecorder$StringTable" "lengths" "[I" ∈ lw_good := mw_tw 52 (by decide +kernel) (by decide +kernel)
set_option maxRecDepth 100000 in
theorem tw_53 : Cond.fieldLink RX6 19 "EventRecorder$StringTable" "used" "I" ∈ lw_good := mw_tw 53 (by decide +kernel) (by decide +kernel)
set_option maxRecDepth 100000 in
theorem tw_61 : Cond.arrayClass .int ∈ lw_good := mw_tw 61 (by decide +kernel) (by decide +kernel)
set_option maxRecDepth 100000 in
theorem tw_62 : Cond.classLink RX8 36 RX3 ∈ lw_good := mw_tw 62 (by decide +kernel) (by decide +kernel)
set_option maxRecDepth 100000 in
theorem tw_64 : Cond.instantiable RX3 5 ∈ lw_good := mw_tw 64 (by decide +kernel) (by decide +kernel)
set_option maxRecDepth 100000 in
theorem tw_65 : Cond.methodLink RX8 42 yX3_init ∈ lw_good := mw_tw 65 (by decide +kernel) (by decide +kernel)
set_option maxRecDepth 100000 in
theorem tw_66 : Cond.instanceMethod yX3_init ∈ lw_good := mw_tw 66 (by decide +kernel) (by decide +kernel)
set_option maxRecDepth 100000 in
theorem tw_67 : Cond.code yX3_init cX3_init 2 none ∈ lw_good := mw_tw 67 (by decide +kernel) (by decide +kernel)
set_option maxRecDepth 100000 in
theorem tw_68 : Cond.methodLink RX3 3 objectInit ∈ lw_good := mw_tw 68 (by decide +kernel) (by decide +kernel)
set_option maxRecDepth 100000 in
theorem tw_69 : Cond.classLink RX3 15 RX0 ∈ lw_good := mw_tw 69 (by decide +kernel) (by decide +kernel)
set_option maxRecDepth 100000 in
theorem tw_70 : Cond.instantiable RX0 2 ∈ lw_good := mw_tw 70 (by decide +kernel) (by decide +kernel)
set_option maxRecDepth 100000 in
theorem tw_71 : Cond.methodLink RX3 17 yX0_init ∈ lw_good := mw_tw 71 (by decide +kernel) (by decide +kernel)
set_option maxRecDepth 100000 in
theorem tw_72 : Cond.instanceMethod yX0_init ∈ lw_good := mw_tw 72 (by decide +kernel) (by decide +kernel)
set_option maxRecDepth 100000 in
theorem tw_73 : Cond.code yX0_init cX0_init 2 none ∈ lw_good := mw_tw 73 (by decide +kernel) (by decide +kernel)
set_option maxRecDepth 100000 in
theorem tw_74 : Cond.methodLink RX0 3 objectInit ∈ lw_good := mw_tw 74 (by decide +kernel) (by decide +kernel)
set_option maxRecDepth 100000 in
theorem tw_75 : Cond.fieldLink RX0 9 "EventRecorder$ByteRow" "bytes" "[B" ∈ lw_good := mw_tw 75 (by decide +kernel) (by decide +kernel)
set_option maxRecDepth 100000 in
theorem tw_76 : Cond.fieldLink RX0 15 "EventRecorder$ByteRow" "length" "I" ∈ lw_good := mw_tw 76 (by decide +kernel) (by decide +kernel)
set_option maxRecDepth 100000 in
theorem tw_82 : Cond.arrayClass .byte ∈ lw_good := mw_tw 82 (by decide +kernel) (by decide +kernel)
set_option maxRecDepth 100000 in
theorem tw_83 : Cond.fieldLink RX3 9 "EventRecorder$EventThread" "ticks" "[I" ∈ lw_good := mw_tw 83 (by decide +kernel) (by decide +kernel)
set_option maxRecDepth 100000 in
theorem tw_84 : Cond.fieldLink RX3 20 "EventRecorder$EventThread" "buffer" "LEventRecorder$ByteRow;" ∈ lw_good := mw_tw 84 (by decide +kernel) (by decide +kernel)
set_option maxRecDepth 100000 in
theorem tw_85 : Cond.fieldLink RX3 24 "EventRecorder$EventThread" "begun" "I" ∈ lw_good := mw_tw 85 (by decide +kernel) (by decide +kernel)
set_option maxRecDepth 100000 in
theorem tw_86 : Cond.fieldLink RX3 28 "EventRecorder$EventThread" "lostInChunk" "I" ∈ lw_good := mw_tw 86 (by decide +kernel) (by decide +kernel)
set_option maxRecDepth 100000 in
theorem tw_87 : Cond.fieldLink RX3 31 "EventRecorder$EventThread" "lostInAll" "I" ∈ lw_good := mw_tw 87 (by decide +kernel) (by decide +kernel)
set_option maxRecDepth 100000 in
theorem tw_99 : Cond.classLink RX8 53 RX5 ∈ lw_good := mw_tw 99 (by decide +kernel) (by decide +kernel)
set_option maxRecDepth 100000 in
theorem tw_101 : Cond.instantiable RX5 5 ∈ lw_good := mw_tw 101 (by decide +kernel) (by decide +kernel)
set_option maxRecDepth 100000 in
theorem tw_102 : Cond.methodLink RX8 59 yX5_init ∈ lw_good := mw_tw 102 (by decide +kernel) (by decide +kernel)
set_option maxRecDepth 100000 in
theorem tw_103 : Cond.instanceMethod yX5_init ∈ lw_good := mw_tw 103 (by decide +kernel) (by decide +kernel)
set_option maxRecDepth 100000 in
theorem tw_104 : Cond.code yX5_init cX5_init 1 none ∈ lw_good := mw_tw 104 (by decide +kernel) (by decide +kernel)
set_option maxRecDepth 100000 in
theorem tw_105 : Cond.methodLink RX5 3 objectInit ∈ lw_good := mw_tw 105 (by decide +kernel) (by decide +kernel)
set_option maxRecDepth 100000 in
theorem tw_106 : Cond.constant RX5 25 2147483647 ∈ lw_good := mw_tw 106 (by decide +kernel) (by decide +kernel)
set_option maxRecDepth 100000 in
theorem tw_107 : Cond.fieldLink RX5 9 "EventRecorder$Recording" "off" "[Z" ∈ lw_good := mw_tw 107 (by decide +kernel) (by decide +kernel)
set_option maxRecDepth 100000 in
theorem tw_108 : Cond.fieldLink RX5 15 "EventRecorder$Recording" "limits" "[I" ∈ lw_good := mw_tw 108 (by decide +kernel) (by decide +kernel)
set_option maxRecDepth 100000 in
theorem tw_109 : Cond.fieldLink RX5 19 "EventRecorder$Recording" "phase" "I" ∈ lw_good := mw_tw 109 (by decide +kernel) (by decide +kernel)
set_option maxRecDepth 100000 in
theorem tw_110 : Cond.fieldLink RX5 29 "EventRecorder$Recording" "firstChunk" "I" ∈ lw_good := mw_tw 110 (by decide +kernel) (by decide +kernel)
set_option maxRecDepth 100000 in
theorem tw_111 : Cond.fieldLink RX5 26 "EventRecorder$Recording" "lastChunk" "I" ∈ lw_good := mw_tw 111 (by decide +kernel) (by decide +kernel)
set_option maxRecDepth 100000 in
theorem tw_123 : Cond.arrayClass .boolean ∈ lw_good := mw_tw 123 (by decide +kernel) (by decide +kernel)
set_option maxRecDepth 100000 in
theorem tw_124 : Cond.classLink RX8 60 RX4 ∈ lw_good := mw_tw 124 (by decide +kernel) (by decide +kernel)
set_option maxRecDepth 100000 in
theorem tw_125 : Cond.instantiable RX4 3 ∈ lw_good := mw_tw 125 (by decide +kernel) (by decide +kernel)
set_option maxRecDepth 100000 in
theorem tw_126 : Cond.methodLink RX8 62 yX4_init ∈ lw_good := mw_tw 126 (by decide +kernel) (by decide +kernel)
set_option maxRecDepth 100000 in
theorem tw_127 : Cond.instanceMethod yX4_init ∈ lw_good := mw_tw 127 (by decide +kernel) (by decide +kernel)
set_option maxRecDepth 100000 in
theorem tw_128 : Cond.code yX4_init cX4_init 4 none ∈ lw_good := mw_tw 128 (by decide +kernel) (by decide +kernel)
set_option maxRecDepth 100000 in
theorem tw_129 : Cond.methodLink RX4 1 objectInit ∈ lw_good := mw_tw 129 (by decide +kernel) (by decide +kernel)
set_option maxRecDepth 100000 in
theorem tw_130 : Cond.classLink RX4 7 RX0 ∈ lw_good := mw_tw 130 (by decide +kernel) (by decide +kernel)
set_option maxRecDepth 100000 in
theorem tw_132 : Cond.methodLink RX4 15 yX0_init ∈ lw_good := mw_tw 132 (by decide +kernel) (by decide +kernel)
set_option maxRecDepth 100000 in
theorem tw_133 : Cond.fieldLink RX4 9 "EventRecorder$Pool" "buffers" "[LEventRecorder$ByteRow;" ∈ lw_good := mw_tw 133 (by decide +kernel) (by decide +kernel)
set_option maxRecDepth 100000 in
theorem tw_134 : Cond.fieldLink RX4 22 "EventRecorder$Pool" "first" "I" ∈ lw_good := mw_tw 134 (by decide +kernel) (by decide +kernel)
set_option maxRecDepth 100000 in
theorem tw_135 : Cond.fieldLink RX4 18 "EventRecorder$Pool" "full" "I" ∈ lw_good := mw_tw 135 (by decide +kernel) (by decide +kernel)
set_option maxRecDepth 100000 in
theorem tw_143 : Cond.classLink RX8 69 RX2 ∈ lw_good := mw_tw 143 (by decide +kernel) (by decide +kernel)
set_option maxRecDepth 100000 in
theorem tw_144 : Cond.instantiable RX2 3 ∈ lw_good := mw_tw 144 (by decide +kernel) (by decide +kernel)
set_option maxRecDepth 100000 in
theorem tw_145 : Cond.methodLink RX8 71 yX2_init ∈ lw_good := mw_tw 145 (by decide +kernel) (by decide +kernel)
set_option maxRecDepth 100000 in
theorem tw_146 : Cond.instanceMethod yX2_init ∈ lw_good := mw_tw 146 (by decide +kernel) (by decide +kernel)
set_option maxRecDepth 100000 in
theorem tw_147 : Cond.code yX2_init cX2_init 4 none ∈ lw_good := mw_tw 147 (by decide +kernel) (by decide +kernel)
set_option maxRecDepth 100000 in
theorem tw_148 : Cond.methodLink RX2 1 objectInit ∈ lw_good := mw_tw 148 (by decide +kernel) (by decide +kernel)
set_option maxRecDepth 100000 in
theorem tw_149 : Cond.classLink RX2 7 RX1 ∈ lw_good := mw_tw 149 (by decide +kernel) (by decide +kernel)
set_option maxRecDepth 100000 in
theorem tw_151 : Cond.instantiable RX1 5 ∈ lw_good := mw_tw 151 (by decide +kernel) (by decide +kernel)
set_option maxRecDepth 100000 in
theorem tw_152 : Cond.methodLink RX2 15 yX1_init ∈ lw_good := mw_tw 152 (by decide +kernel) (by decide +kernel)
set_option maxRecDepth 100000 in
theorem tw_153 : Cond.instanceMethod yX1_init ∈ lw_good := mw_tw 153 (by decide +kernel) (by decide +kernel)
set_option maxRecDepth 100000 in
theorem tw_154 : Cond.code yX1_init cX1_init 2 none ∈ lw_good := mw_tw 154 (by decide +kernel) (by decide +kernel)
set_option maxRecDepth 100000 in
theorem tw_155 : Cond.methodLink RX1 3 objectInit ∈ lw_good := mw_tw 155 (by decide +kernel) (by decide +kernel)
set_option maxRecDepth 100000 in
theorem tw_156 : Cond.classLink RX1 9 RX0 ∈ lw_good := mw_tw 156 (by decide +kernel) (by decide +kernel)
set_option maxRecDepth 100000 in
theorem tw_157 : Cond.methodLink RX1 11 yX0_init ∈ lw_good := mw_tw 157 (by decide +kernel) (by decide +kernel)
set_option maxRecDepth 100000 in
theorem tw_158 : Cond.fieldLink RX1 14 "EventRecorder$Chunk" "body" "LEventRecorder$ByteRow;" ∈ lw_good := mw_tw 158 (by decide +kernel) (by decide +kernel)
set_option maxRecDepth 100000 in
theorem tw_159 : Cond.fieldLink RX1 20 "EventRecorder$Chunk" "usedStrings" "[Z" ∈ lw_good := mw_tw 159 (by decide +kernel) (by decide +kernel)
set_option maxRecDepth 100000 in
theorem tw_160 : Cond.fieldLink RX1 27 "EventRecorder$Chunk" "number" "I" ∈ lw_good := mw_tw 160 (by decide +kernel) (by decide +kernel)
set_option maxRecDepth 100000 in
theorem tw_161 : Cond.fieldLink RX1 31 "EventRecorder$Chunk" "openedAt" "I" ∈ lw_good := mw_tw 161 (by decide +kernel) (by decide +kernel)
set_option maxRecDepth 100000 in
theorem tw_162 : Cond.fieldLink RX1 34 "EventRecorder$Chunk" "events" "I" ∈ lw_good := mw_tw 162 (by decide +kernel) (by decide +kernel)
set_option maxRecDepth 100000 in
theorem tw_174 : Cond.methodLink RX2 18 yX1_openAs ∈ lw_good := mw_tw 174 (by decide +kernel) (by decide +kernel)
set_option maxRecDepth 100000 in
theorem tw_175 : Cond.instanceMethod yX1_openAs ∈ lw_good := mw_tw 175 (by decide +kernel) (by decide +kernel)
set_option maxRecDepth 100000 in
theorem tw_176 : Cond.selects RX1 yX1_openAs yX1_openAs ∈ lw_good := mw_tw 176 (by decide +kernel) (by decide +kernel)
set_option maxRecDepth 100000 in
theorem tw_177 : Cond.code yX1_openAs cX1_openAs 4 none ∈ lw_good := mw_tw 177 (by decide +kernel) (by decide +kernel)
set_option maxRecDepth 100000 in
theorem tw_178 : Cond.methodLink RX1 24 yX0_clear ∈ lw_good := mw_tw 178 (by decide +kernel) (by decide +kernel)
set_option maxRecDepth 100000 in
theorem tw_179 : Cond.instanceMethod yX0_clear ∈ lw_good := mw_tw 179 (by decide +kernel) (by decide +kernel)
set_option maxRecDepth 100000 in
theorem tw_180 : Cond.selects RX0 yX0_clear yX0_clear ∈ lw_good := mw_tw 180 (by decide +kernel) (by decide +kernel)
set_option maxRecDepth 100000 in
theorem tw_181 : Cond.code yX0_clear cX0_clear 1 none ∈ lw_good := mw_tw 181 (by decide +kernel) (by decide +kernel)
set_option maxRecDepth 100000 in
theorem tw_182 : Cond.fieldLink RX2 9 "EventRecorder$Chunks" "rows" "[LEventRecorder$Chunk;" ∈ lw_good := mw_tw 182 (by decide +kernel) (by decide +kernel)
set_option maxRecDepth 100000 in
theorem tw_183 : Cond.fieldLink RX2 22 "EventRecorder$Chunks" "kept" "I" ∈ lw_good := mw_tw 183 (by decide +kernel) (by decide +kernel)
set_option maxRecDepth 100000 in
theorem tw_184 : Cond.fieldLink RX2 26 "EventRecorder$Chunks" "evicted" "I" ∈ lw_good := mw_tw 184 (by decide +kernel) (by decide +kernel)
set_option maxRecDepth 100000 in
theorem tw_192 : Cond.classLink RX8 76 RX0 ∈ lw_good := mw_tw 192 (by decide +kernel) (by decide +kernel)
set_option maxRecDepth 100000 in
theorem tw_193 : Cond.methodLink RX8 78 yX0_init ∈ lw_good := mw_tw 193 (by decide +kernel) (by decide +kernel)
set_option maxRecDepth 100000 in
theorem tw_194 : Cond.fieldLink RX8 18 "EventRecorder" "size" "I" ∈ lw_good := mw_tw 194 (by decide +kernel) (by decide +kernel)
set_option maxRecDepth 100000 in
theorem tw_195 : Cond.fieldLink RX8 25 "EventRecorder" "text" "LEventRecorder$Text;" ∈ lw_good := mw_tw 195 (by decide +kernel) (by decide +kernel)
set_option maxRecDepth 100000 in
theorem tw_196 : Cond.fieldLink RX8 32 "EventRecorder" "strings" "LEventRecorder$StringTable;" ∈ lw_good := mw_tw 196 (by decide +kernel) (by decide +kernel)
set_option maxRecDepth 100000 in
theorem tw_197 : Cond.fieldLink RX8 38 "EventRecorder" "threads" "[LEventRecorder$EventThread;" ∈ lw_good := mw_tw 197 (by decide +kernel) (by decide +kernel)
set_option maxRecDepth 100000 in
theorem tw_198 : Cond.fieldLink RX8 45 "EventRecorder" "typeInts" "[I" ∈ lw_good := mw_tw 198 (by decide +kernel) (by decide +kernel)
set_option maxRecDepth 100000 in
theorem tw_199 : Cond.fieldLink RX8 49 "EventRecorder" "typeStrings" "[Z" ∈ lw_good := mw_tw 199 (by decide +kernel) (by decide +kernel)
set_option maxRecDepth 100000 in
theorem tw_200 : Cond.fieldLink RX8 100 "EventRecorder" "typeCount" "I" ∈ lw_good := mw_tw 200 (by decide +kernel) (by decide +kernel)
set_option maxRecDepth 100000 in
theorem tw_201 : Cond.fieldLink RX8 55 "EventRecorder" "recordings" "[LEventRecorder$Recording;" ∈ lw_good := mw_tw 201 (by decide +kernel) (by decide +kernel)
set_option maxRecDepth 100000 in
theorem tw_202 : Cond.fieldLink RX8 146 "EventRecorder" "recordingCount" "I" ∈ lw_good := mw_tw 202 (by decide +kernel) (by decide +kernel)
set_option maxRecDepth 100000 in
theorem tw_203 : Cond.fieldLink RX8 65 "EventRecorder" "shared" "LEventRecorder$Pool;" ∈ lw_good := mw_tw 203 (by decide +kernel) (by decide +kernel)
set_option maxRecDepth 100000 in
theorem tw_204 : Cond.fieldLink RX8 72 "EventRecorder" "chunks" "LEventRecorder$Chunks;" ∈ lw_good := mw_tw 204 (by decide +kernel) (by decide +kernel)
set_option maxRecDepth 100000 in
theorem tw_205 : Cond.fieldLink RX8 79 "EventRecorder" "payload" "LEventRecorder$ByteRow;" ∈ lw_good := mw_tw 205 (by decide +kernel) (by decide +kernel)
set_option maxRecDepth 100000 in
theorem tw_206 : Cond.fieldLink RX8 83 "EventRecorder" "written" "LEventRecorder$ByteRow;" ∈ lw_good := mw_tw 206 (by decide +kernel) (by decide +kernel)
set_option maxRecDepth 100000 in
theorem tw_207 : Cond.fieldLink RX8 90 "EventRecorder" "now" "I" ∈ lw_good := mw_tw 207 (by decide +kernel) (by decide +kernel)
set_option maxRecDepth 100000 in
theorem tw_241 : Cond.methodLink RX8 86 yX7_append ∈ lw_good := mw_tw 241 (by decide +kernel) (by decide +kernel)
set_option maxRecDepth 100000 in
theorem tw_242 : Cond.instanceMethod yX7_append ∈ lw_good := mw_tw 242 (by decide +kernel) (by decide +kernel)
set_option maxRecDepth 100000 in
theorem tw_243 : Cond.selects RX7 yX7_append yX7_append ∈ lw_good := mw_tw 243 (by decide +kernel) (by decide +kernel)
set_option maxRecDepth 100000 in
theorem tw_244 : Cond.code yX7_append cX7_append 2 (some .boolean) ∈ lw_good := mw_tw 244 (by decide +kernel) (by decide +kernel)
set_option maxRecDepth 100000 in
theorem tw_253 : Cond.methodLink RX8 108 yX8_isThread ∈ lw_good := mw_tw 253 (by decide +kernel) (by decide +kernel)
set_option maxRecDepth 100000 in
theorem tw_254 : Cond.static yX8_isThread ∈ lw_good := mw_tw 254 (by decide +kernel) (by decide +kernel)
set_option maxRecDepth 100000 in
theorem tw_255 : Cond.code yX8_isThread cX8_isThread 1 (some .boolean) ∈ lw_good := mw_tw 255 (by decide +kernel) (by decide +kernel)
set_option maxRecDepth 100000 in
theorem tw_256 : Cond.methodLink RX8 112 yX3_beginAt ∈ lw_good := mw_tw 256 (by decide +kernel) (by decide +kernel)
set_option maxRecDepth 100000 in
theorem tw_257 : Cond.instanceMethod yX3_beginAt ∈ lw_good := mw_tw 257 (by decide +kernel) (by decide +kernel)
set_option maxRecDepth 100000 in
theorem tw_258 : Cond.selects RX3 yX3_beginAt yX3_beginAt ∈ lw_good := mw_tw 258 (by decide +kernel) (by decide +kernel)
set_option maxRecDepth 100000 in
theorem tw_259 : Cond.code yX3_beginAt cX3_beginAt 2 (some .boolean) ∈ lw_good := mw_tw 259 (by decide +kernel) (by decide +kernel)
set_option maxRecDepth 100000 in
theorem tw_264 : Cond.methodLink RX8 115 yX8_isType ∈ lw_good := mw_tw 264 (by decide +kernel) (by decide +kernel)
set_option maxRecDepth 100000 in
theorem tw_266 : Cond.instanceMethod yX8_isType ∈ lw_good := mw_tw 266 (by decide +kernel) (by decide +kernel)
set_option maxRecDepth 100000 in
theorem tw_267 : Cond.code yX8_isType cX8_isType 2 (some .boolean) ∈ lw_good := mw_tw 267 (by decide +kernel) (by decide +kernel)
set_option maxRecDepth 100000 in
theorem tw_268 : Cond.methodLink RX8 118 yX8_endEvent ∈ lw_good := mw_tw 268 (by decide +kernel) (by decide +kernel)
set_option maxRecDepth 100000 in
theorem tw_270 : Cond.instanceMethod yX8_endEvent ∈ lw_good := mw_tw 270 (by decide +kernel) (by decide +kernel)
set_option maxRecDepth 100000 in
theorem tw_271 : Cond.code yX8_endEvent cX8_endEvent 9 (some .int) ∈ lw_good := mw_tw 271 (by decide +kernel) (by decide +kernel)
set_option maxRecDepth 100000 in
theorem tw_272 : Cond.methodLink RX8 241 yX3_hasBegun ∈ lw_good := mw_tw 272 (by decide +kernel) (by decide +kernel)
set_option maxRecDepth 100000 in
theorem tw_273 : Cond.instanceMethod yX3_hasBegun ∈ lw_good := mw_tw 273 (by decide +kernel) (by decide +kernel)
set_option maxRecDepth 100000 in
theorem tw_274 : Cond.selects RX3 yX3_hasBegun yX3_hasBegun ∈ lw_good := mw_tw 274 (by decide +kernel) (by decide +kernel)
set_option maxRecDepth 100000 in
theorem tw_275 : Cond.code yX3_hasBegun cX3_hasBegun 1 (some .boolean) ∈ lw_good := mw_tw 275 (by decide +kernel) (by decide +kernel)
set_option maxRecDepth 100000 in
theorem tw_276 : Cond.methodLink RX8 245 yX3_endLatest ∈ lw_good := mw_tw 276 (by decide +kernel) (by decide +kernel)
set_option maxRecDepth 100000 in
theorem tw_277 : Cond.instanceMethod yX3_endLatest ∈ lw_good := mw_tw 277 (by decide +kernel) (by decide +kernel)
set_option maxRecDepth 100000 in
theorem tw_278 : Cond.selects RX3 yX3_endLatest yX3_endLatest ∈ lw_good := mw_tw 278 (by decide +kernel) (by decide +kernel)
set_option maxRecDepth 100000 in
theorem tw_279 : Cond.code yX3_endLatest cX3_endLatest 1 (some .int) ∈ lw_good := mw_tw 279 (by decide +kernel) (by decide +kernel)
set_option maxRecDepth 100000 in
theorem tw_280 : Cond.methodLink RX8 248 yX8_interestIn ∈ lw_good := mw_tw 280 (by decide +kernel) (by decide +kernel)
set_option maxRecDepth 100000 in
theorem tw_282 : Cond.instanceMethod yX8_interestIn ∈ lw_good := mw_tw 282 (by decide +kernel) (by decide +kernel)
set_option maxRecDepth 100000 in
theorem tw_283 : Cond.code yX8_interestIn cX8_interestIn 6 (some .int) ∈ lw_good := mw_tw 283 (by decide +kernel) (by decide +kernel)
set_option maxRecDepth 100000 in
theorem tw_284 : Cond.methodLink RX8 158 yX5_is ∈ lw_good := mw_tw 284 (by decide +kernel) (by decide +kernel)
set_option maxRecDepth 100000 in
theorem tw_285 : Cond.instanceMethod yX5_is ∈ lw_good := mw_tw 285 (by decide +kernel) (by decide +kernel)
set_option maxRecDepth 100000 in
theorem tw_286 : Cond.selects RX5 yX5_is yX5_is ∈ lw_good := mw_tw 286 (by decide +kernel) (by decide +kernel)
set_option maxRecDepth 100000 in
theorem tw_287 : Cond.code yX5_is cX5_is 2 (some .boolean) ∈ lw_good := mw_tw 287 (by decide +kernel) (by decide +kernel)
set_option maxRecDepth 100000 in
theorem tw_288 : Cond.methodLink RX8 217 yX5_isOn ∈ lw_good := mw_tw 288 (by decide +kernel) (by decide +kernel)
set_option maxRecDepth 100000 in
theorem tw_289 : Cond.instanceMethod yX5_isOn ∈ lw_good := mw_tw 289 (by decide +kernel) (by decide +kernel)
set_option maxRecDepth 100000 in
theorem tw_290 : Cond.selects RX5 yX5_isOn yX5_isOn ∈ lw_good := mw_tw 290 (by decide +kernel) (by decide +kernel)
set_option maxRecDepth 100000 in
theorem tw_291 : Cond.code yX5_isOn cX5_isOn 2 (some .boolean) ∈ lw_good := mw_tw 291 (by decide +kernel) (by decide +kernel)
set_option maxRecDepth 100000 in
theorem tw_292 : Cond.methodLink RX8 220 yX5_leastDuration ∈ lw_good := mw_tw 292 (by decide +kernel) (by decide +kernel)
set_option maxRecDepth 100000 in
theorem tw_293 : Cond.instanceMethod yX5_leastDuration ∈ lw_good := mw_tw 293 (by decide +kernel) (by decide +kernel)
set_option maxRecDepth 100000 in
theorem tw_294 : Cond.selects RX5 yX5_leastDuration yX5_leastDuration ∈ lw_good := mw_tw 294 (by decide +kernel) (by decide +kernel)
set_option maxRecDepth 100000 in
theorem tw_295 : Cond.code yX5_leastDuration cX5_leastDuration 2 (some .int) ∈ lw_good := mw_tw 295 (by decide +kernel) (by decide +kernel)
set_option maxRecDepth 100000 in
theorem tw_296 : Cond.methodLink RX8 251 yX6_numberFor ∈ lw_good := mw_tw 296 (by decide +kernel) (by decide +kernel)
set_option maxRecDepth 100000 in
theorem tw_297 : Cond.instanceMethod yX6_numberFor ∈ lw_good := mw_tw 297 (by decide +kernel) (by decide +kernel)
set_option maxRecDepth 100000 in
theorem tw_298 : Cond.selects RX6 yX6_numberFor yX6_numberFor ∈ lw_good := mw_tw 298 (by decide +kernel) (by decide +kernel)
set_option maxRecDepth 100000 in
theorem tw_299 : Cond.code yX6_numberFor cX6_numberFor 3 (some .int) ∈ lw_good := mw_tw 299 (by decide +kernel) (by decide +kernel)
set_option maxRecDepth 100000 in
theorem tw_300 : Cond.methodLink RX6 23 yX6_isSame ∈ lw_good := mw_tw 300 (by decide +kernel) (by decide +kernel)
set_option maxRecDepth 100000 in
theorem tw_302 : Cond.instanceMethod yX6_isSame ∈ lw_good := mw_tw 302 (by decide +kernel) (by decide +kernel)
set_option maxRecDepth 100000 in
theorem tw_303 : Cond.code yX6_isSame cX6_isSame 4 (some .boolean) ∈ lw_good := mw_tw 303 (by decide +kernel) (by decide +kernel)
set_option maxRecDepth 100000 in
theorem tw_304 : Cond.methodLink RX6 27 yX6_usedLength ∈ lw_good := mw_tw 304 (by decide +kernel) (by decide +kernel)
set_option maxRecDepth 100000 in
theorem tw_305 : Cond.static yX6_usedLength ∈ lw_good := mw_tw 305 (by decide +kernel) (by decide +kernel)
set_option maxRecDepth 100000 in
theorem tw_306 : Cond.code yX6_usedLength cX6_usedLength 1 (some .int) ∈ lw_good := mw_tw 306 (by decide +kernel) (by decide +kernel)
set_option maxRecDepth 100000 in
theorem tw_307 : Cond.methodLink RX6 46 yX7_length ∈ lw_good := mw_tw 307 (by decide +kernel) (by decide +kernel)
set_option maxRecDepth 100000 in
theorem tw_308 : Cond.instanceMethod yX7_length ∈ lw_good := mw_tw 308 (by decide +kernel) (by decide +kernel)
set_option maxRecDepth 100000 in
theorem tw_309 : Cond.selects RX7 yX7_length yX7_length ∈ lw_good := mw_tw 309 (by decide +kernel) (by decide +kernel)
set_option maxRecDepth 100000 in
theorem tw_310 : Cond.code yX7_length cX7_length 1 (some .int) ∈ lw_good := mw_tw 310 (by decide +kernel) (by decide +kernel)
set_option maxRecDepth 100000 in
theorem tw_311 : Cond.methodLink RX6 50 Lib.Math.min.name ∈ lw_good := mw_tw 311 (by decide +kernel) (by decide +kernel)
set_option maxRecDepth 100000 in
theorem tw_312 : Cond.methodLink RX6 31 yX7_at ∈ lw_good := mw_tw 312 (by decide +kernel) (by decide +kernel)
set_option maxRecDepth 100000 in
theorem tw_313 : Cond.instanceMethod yX7_at ∈ lw_good := mw_tw 313 (by decide +kernel) (by decide +kernel)
set_option maxRecDepth 100000 in
theorem tw_314 : Cond.selects RX7 yX7_at yX7_at ∈ lw_good := mw_tw 314 (by decide +kernel) (by decide +kernel)
set_option maxRecDepth 100000 in
theorem tw_315 : Cond.code yX7_at cX7_at 2 (some .char) ∈ lw_good := mw_tw 315 (by decide +kernel) (by decide +kernel)
set_option maxRecDepth 100000 in
theorem tw_316 : Cond.methodLink RX8 255 yX8_compose ∈ lw_good := mw_tw 316 (by decide +kernel) (by decide +kernel)
set_option maxRecDepth 100000 in
theorem tw_318 : Cond.instanceMethod yX8_compose ∈ lw_good := mw_tw 318 (by decide +kernel) (by decide +kernel)
set_option maxRecDepth 100000 in
theorem tw_319 : Cond.code yX8_compose cX8_compose 7 none ∈ lw_good := mw_tw 319 (by decide +kernel) (by decide +kernel)
set_option maxRecDepth 100000 in
theorem tw_320 : Cond.methodLink RX8 200 yX0_clear ∈ lw_good := mw_tw 320 (by decide +kernel) (by decide +kernel)
set_option maxRecDepth 100000 in
theorem tw_321 : Cond.methodLink RX8 266 yX0_addVariable ∈ lw_good := mw_tw 321 (by decide +kernel) (by decide +kernel)
set_option maxRecDepth 100000 in
theorem tw_322 : Cond.instanceMethod yX0_addVariable ∈ lw_good := mw_tw 322 (by decide +kernel) (by decide +kernel)
set_option maxRecDepth 100000 in
theorem tw_323 : Cond.selects RX0 yX0_addVariable yX0_addVariable ∈ lw_good := mw_tw 323 (by decide +kernel) (by decide +kernel)
set_option maxRecDepth 100000 in
theorem tw_324 : Cond.code yX0_addVariable cX0_addVariable 4 none ∈ lw_good := mw_tw 324 (by decide +kernel) (by decide +kernel)
set_option maxRecDepth 100000 in
theorem tw_325 : Cond.methodLink RX0 19 yX0_variableLength ∈ lw_good := mw_tw 325 (by decide +kernel) (by decide +kernel)
set_option maxRecDepth 100000 in
theorem tw_326 : Cond.static yX0_variableLength ∈ lw_good := mw_tw 326 (by decide +kernel) (by decide +kernel)
set_option maxRecDepth 100000 in
theorem tw_327 : Cond.code yX0_variableLength cX0_variableLength 3 (some .int) ∈ lw_good := mw_tw 327 (by decide +kernel) (by decide +kernel)
set_option maxRecDepth 100000 in
theorem tw_328 : Cond.methodLink RX0 23 yX0_add ∈ lw_good := mw_tw 328 (by decide +kernel) (by decide +kernel)
set_option maxRecDepth 100000 in
theorem tw_329 : Cond.instanceMethod yX0_add ∈ lw_good := mw_tw 329 (by decide +kernel) (by decide +kernel)
set_option maxRecDepth 100000 in
theorem tw_330 : Cond.selects RX0 yX0_add yX0_add ∈ lw_good := mw_tw 330 (by decide +kernel) (by decide +kernel)
set_option maxRecDepth 100000 in
theorem tw_331 : Cond.code yX0_add cX0_add 2 none ∈ lw_good := mw_tw 331 (by decide +kernel) (by decide +kernel)
set_option maxRecDepth 100000 in
theorem tw_332 : Cond.methodLink RX8 283 yX8_zigzag ∈ lw_good := mw_tw 332 (by decide +kernel) (by decide +kernel)
set_option maxRecDepth 100000 in
theorem tw_333 : Cond.static yX8_zigzag ∈ lw_good := mw_tw 333 (by decide +kernel) (by decide +kernel)
set_option maxRecDepth 100000 in
theorem tw_334 : Cond.code yX8_zigzag cX8_zigzag 1 (some .int) ∈ lw_good := mw_tw 334 (by decide +kernel) (by decide +kernel)
set_option maxRecDepth 100000 in
theorem tw_335 : Cond.methodLink RX8 223 yX3_buffer ∈ lw_good := mw_tw 335 (by decide +kernel) (by decide +kernel)
set_option maxRecDepth 100000 in
theorem tw_336 : Cond.instanceMethod yX3_buffer ∈ lw_good := mw_tw 336 (by decide +kernel) (by decide +kernel)
set_option maxRecDepth 100000 in
theorem tw_337 : Cond.selects RX3 yX3_buffer yX3_buffer ∈ lw_good := mw_tw 337 (by decide +kernel) (by decide +kernel)
set_option maxRecDepth 100000 in
theorem tw_338 : Cond.code yX3_buffer cX3_buffer 1 (some (.object "EventRecorder$ByteRow")) ∈ lw_good := mw_tw 338 (by decide +kernel) (by decide +kernel)
set_option maxRecDepth 100000 in
theorem tw_339 : Cond.methodLink RX8 259 yX8_makeRoom ∈ lw_good := mw_tw 339 (by decide +kernel) (by decide +kernel)
set_option maxRecDepth 100000 in
theorem tw_341 : Cond.instanceMethod yX8_makeRoom ∈ lw_good := mw_tw 341 (by decide +kernel) (by decide +kernel)
set_option maxRecDepth 100000 in
theorem tw_342 : Cond.code yX8_makeRoom cX8_makeRoom 3 (some .boolean) ∈ lw_good := mw_tw 342 (by decide +kernel) (by decide +kernel)
set_option maxRecDepth 100000 in
theorem tw_343 : Cond.methodLink RX8 139 yX0_length ∈ lw_good := mw_tw 343 (by decide +kernel) (by decide +kernel)
set_option maxRecDepth 100000 in
theorem tw_344 : Cond.instanceMethod yX0_length ∈ lw_good := mw_tw 344 (by decide +kernel) (by decide +kernel)
set_option maxRecDepth 100000 in
theorem tw_345 : Cond.selects RX0 yX0_length yX0_length ∈ lw_good := mw_tw 345 (by decide +kernel) (by decide +kernel)
set_option maxRecDepth 100000 in
theorem tw_346 : Cond.code yX0_length cX0_length 1 (some .int) ∈ lw_good := mw_tw 346 (by decide +kernel) (by decide +kernel)
set_option maxRecDepth 100000 in
theorem tw_347 : Cond.methodLink RX8 286 yX0_variableLength ∈ lw_good := mw_tw 347 (by decide +kernel) (by decide +kernel)
set_option maxRecDepth 100000 in
theorem tw_348 : Cond.methodLink RX8 289 yX0_room ∈ lw_good := mw_tw 348 (by decide +kernel) (by decide +kernel)
set_option maxRecDepth 100000 in
theorem tw_349 : Cond.instanceMethod yX0_room ∈ lw_good := mw_tw 349 (by decide +kernel) (by decide +kernel)
set_option maxRecDepth 100000 in
theorem tw_350 : Cond.selects RX0 yX0_room yX0_room ∈ lw_good := mw_tw 350 (by decide +kernel) (by decide +kernel)
set_option maxRecDepth 100000 in
theorem tw_351 : Cond.code yX0_room cX0_room 1 (some .int) ∈ lw_good := mw_tw 351 (by decide +kernel) (by decide +kernel)
set_option maxRecDepth 100000 in
theorem tw_352 : Cond.methodLink RX8 292 yX4_takeOver ∈ lw_good := mw_tw 352 (by decide +kernel) (by decide +kernel)
set_option maxRecDepth 100000 in
theorem tw_353 : Cond.instanceMethod yX4_takeOver ∈ lw_good := mw_tw 353 (by decide +kernel) (by decide +kernel)
set_option maxRecDepth 100000 in
theorem tw_354 : Cond.selects RX4 yX4_takeOver yX4_takeOver ∈ lw_good := mw_tw 354 (by decide +kernel) (by decide +kernel)
set_option maxRecDepth 100000 in
theorem tw_355 : Cond.code yX4_takeOver cX4_takeOver 2 (some .boolean) ∈ lw_good := mw_tw 355 (by decide +kernel) (by decide +kernel)
set_option maxRecDepth 100000 in
theorem tw_356 : Cond.methodLink RX4 25 yX0_moveTo ∈ lw_good := mw_tw 356 (by decide +kernel) (by decide +kernel)
set_option maxRecDepth 100000 in
theorem tw_357 : Cond.instanceMethod yX0_moveTo ∈ lw_good := mw_tw 357 (by decide +kernel) (by decide +kernel)
set_option maxRecDepth 100000 in
theorem tw_358 : Cond.selects RX0 yX0_moveTo yX0_moveTo ∈ lw_good := mw_tw 358 (by decide +kernel) (by decide +kernel)
set_option maxRecDepth 100000 in
theorem tw_359 : Cond.code yX0_moveTo cX0_moveTo 2 none ∈ lw_good := mw_tw 359 (by decide +kernel) (by decide +kernel)
set_option maxRecDepth 100000 in
theorem tw_360 : Cond.methodLink RX0 27 yX0_addRow ∈ lw_good := mw_tw 360 (by decide +kernel) (by decide +kernel)
set_option maxRecDepth 100000 in
theorem tw_361 : Cond.instanceMethod yX0_addRow ∈ lw_good := mw_tw 361 (by decide +kernel) (by decide +kernel)
set_option maxRecDepth 100000 in
theorem tw_362 : Cond.selects RX0 yX0_addRow yX0_addRow ∈ lw_good := mw_tw 362 (by decide +kernel) (by decide +kernel)
set_option maxRecDepth 100000 in
theorem tw_363 : Cond.code yX0_addRow cX0_addRow 3 none ∈ lw_good := mw_tw 363 (by decide +kernel) (by decide +kernel)
set_option maxRecDepth 100000 in
theorem tw_364 : Cond.methodLink RX0 31 yX0_clear ∈ lw_good := mw_tw 364 (by decide +kernel) (by decide +kernel)
set_option maxRecDepth 100000 in
theorem tw_365 : Cond.methodLink RX8 263 yX3_lose ∈ lw_good := mw_tw 365 (by decide +kernel) (by decide +kernel)
set_option maxRecDepth 100000 in
theorem tw_366 : Cond.instanceMethod yX3_lose ∈ lw_good := mw_tw 366 (by decide +kernel) (by decide +kernel)
set_option maxRecDepth 100000 in
theorem tw_367 : Cond.selects RX3 yX3_lose yX3_lose ∈ lw_good := mw_tw 367 (by decide +kernel) (by decide +kernel)
set_option maxRecDepth 100000 in
theorem tw_368 : Cond.code yX3_lose cX3_lose 1 none ∈ lw_good := mw_tw 368 (by decide +kernel) (by decide +kernel)
set_option maxRecDepth 100000 in
theorem tw_369 : Cond.methodLink RX8 269 yX0_addRow ∈ lw_good := mw_tw 369 (by decide +kernel) (by decide +kernel)
set_option maxRecDepth 100000 in
theorem tw_370 : Cond.methodLink RX8 125 yX2_open ∈ lw_good := mw_tw 370 (by decide +kernel) (by decide +kernel)
set_option maxRecDepth 100000 in
theorem tw_371 : Cond.instanceMethod yX2_open ∈ lw_good := mw_tw 371 (by decide +kernel) (by decide +kernel)
set_option maxRecDepth 100000 in
theorem tw_372 : Cond.selects RX2 yX2_open yX2_open ∈ lw_good := mw_tw 372 (by decide +kernel) (by decide +kernel)
set_option maxRecDepth 100000 in
theorem tw_373 : Cond.code yX2_open cX2_open 1 (some (.object "EventRecorder$Chunk")) ∈ lw_good := mw_tw 373 (by decide +kernel) (by decide +kernel)
set_option maxRecDepth 100000 in
theorem tw_374 : Cond.methodLink RX8 273 yX1_countEvent ∈ lw_good := mw_tw 374 (by decide +kernel) (by decide +kernel)
set_option maxRecDepth 100000 in
theorem tw_375 : Cond.instanceMethod yX1_countEvent ∈ lw_good := mw_tw 375 (by decide +kernel) (by decide +kernel)
set_option maxRecDepth 100000 in
theorem tw_376 : Cond.selects RX1 yX1_countEvent yX1_countEvent ∈ lw_good := mw_tw 376 (by decide +kernel) (by decide +kernel)
set_option maxRecDepth 100000 in
theorem tw_377 : Cond.code yX1_countEvent cX1_countEvent 1 none ∈ lw_good := mw_tw 377 (by decide +kernel) (by decide +kernel)
set_option maxRecDepth 100000 in
theorem tw_378 : Cond.methodLink RX8 276 yX6_keep ∈ lw_good := mw_tw 378 (by decide +kernel) (by decide +kernel)
set_option maxRecDepth 100000 in
theorem tw_379 : Cond.instanceMethod yX6_keep ∈ lw_good := mw_tw 379 (by decide +kernel) (by decide +kernel)
set_option maxRecDepth 100000 in
theorem tw_380 : Cond.selects RX6 yX6_keep yX6_keep ∈ lw_good := mw_tw 380 (by decide +kernel) (by decide +kernel)
set_option maxRecDepth 100000 in
theorem tw_381 : Cond.code yX6_keep cX6_keep 4 none ∈ lw_good := mw_tw 381 (by decide +kernel) (by decide +kernel)
set_option maxRecDepth 100000 in
theorem tw_382 : Cond.methodLink RX8 280 yX1_use ∈ lw_good := mw_tw 382 (by decide +kernel) (by decide +kernel)
set_option maxRecDepth 100000 in
theorem tw_383 : Cond.instanceMethod yX1_use ∈ lw_good := mw_tw 383 (by decide +kernel) (by decide +kernel)
set_option maxRecDepth 100000 in
theorem tw_384 : Cond.selects RX1 yX1_use yX1_use ∈ lw_good := mw_tw 384 (by decide +kernel) (by decide +kernel)
set_option maxRecDepth 100000 in
theorem tw_385 : Cond.code yX1_use cX1_use 2 none ∈ lw_good := mw_tw 385 (by decide +kernel) (by decide +kernel)
set_option maxRecDepth 100000 in
theorem tw_386 : Cond.methodLink RX8 122 yX7_clear ∈ lw_good := mw_tw 386 (by decide +kernel) (by decide +kernel)
set_option maxRecDepth 100000 in
theorem tw_387 : Cond.instanceMethod yX7_clear ∈ lw_good := mw_tw 387 (by decide +kernel) (by decide +kernel)
set_option maxRecDepth 100000 in
theorem tw_388 : Cond.selects RX7 yX7_clear yX7_clear ∈ lw_good := mw_tw 388 (by decide +kernel) (by decide +kernel)
set_option maxRecDepth 100000 in
theorem tw_389 : Cond.code yX7_clear cX7_clear 1 none ∈ lw_good := mw_tw 389 (by decide +kernel) (by decide +kernel)
set_option maxRecDepth 100000 in
theorem tw_394 : Cond.methodLink RX8 129 yX1_body ∈ lw_good := mw_tw 394 (by decide +kernel) (by decide +kernel)
set_option maxRecDepth 100000 in
theorem tw_395 : Cond.instanceMethod yX1_body ∈ lw_good := mw_tw 395 (by decide +kernel) (by decide +kernel)
set_option maxRecDepth 100000 in
theorem tw_396 : Cond.selects RX1 yX1_body yX1_body ∈ lw_good := mw_tw 396 (by decide +kernel) (by decide +kernel)
set_option maxRecDepth 100000 in
theorem tw_397 : Cond.code yX1_body cX1_body 1 (some (.object "EventRecorder$ByteRow")) ∈ lw_good := mw_tw 397 (by decide +kernel) (by decide +kernel)
set_option maxRecDepth 100000 in
theorem tw_398 : Cond.methodLink RX8 135 yX4_moveFirstTo ∈ lw_good := mw_tw 398 (by decide +kernel) (by decide +kernel)
set_option maxRecDepth 100000 in
theorem tw_399 : Cond.instanceMethod yX4_moveFirstTo ∈ lw_good := mw_tw 399 (by decide +kernel) (by decide +kernel)
set_option maxRecDepth 100000 in
theorem tw_400 : Cond.selects RX4 yX4_moveFirstTo yX4_moveFirstTo ∈ lw_good := mw_tw 400 (by decide +kernel) (by decide +kernel)
set_option maxRecDepth 100000 in
theorem tw_401 : Cond.code yX4_moveFirstTo cX4_moveFirstTo 3 (some .int) ∈ lw_good := mw_tw 401 (by decide +kernel) (by decide +kernel)
set_option maxRecDepth 100000 in
theorem tw_402 : Cond.methodLink RX4 29 yX0_length ∈ lw_good := mw_tw 402 (by decide +kernel) (by decide +kernel)
set_option maxRecDepth 100000 in
theorem tw_403 : Cond.methodLink RX8 143 yX8_rotate ∈ lw_good := mw_tw 403 (by decide +kernel) (by decide +kernel)
set_option maxRecDepth 100000 in
theorem tw_405 : Cond.instanceMethod yX8_rotate ∈ lw_good := mw_tw 405 (by decide +kernel) (by decide +kernel)
set_option maxRecDepth 100000 in
theorem tw_406 : Cond.code yX8_rotate cX8_rotate 4 none ∈ lw_good := mw_tw 406 (by decide +kernel) (by decide +kernel)
set_option maxRecDepth 100000 in
theorem tw_407 : Cond.methodLink RX8 295 yX0_moveTo ∈ lw_good := mw_tw 407 (by decide +kernel) (by decide +kernel)
set_option maxRecDepth 100000 in
theorem tw_408 : Cond.methodLink RX8 298 yX3_takeLostInChunk ∈ lw_good := mw_tw 408 (by decide +kernel) (by decide +kernel)
set_option maxRecDepth 100000 in
theorem tw_409 : Cond.instanceMethod yX3_takeLostInChunk ∈ lw_good := mw_tw 409 (by decide +kernel) (by decide +kernel)
set_option maxRecDepth 100000 in
theorem tw_410 : Cond.selects RX3 yX3_takeLostInChunk yX3_takeLostInChunk ∈ lw_good := mw_tw 410 (by decide +kernel) (by decide +kernel)
set_option maxRecDepth 100000 in
theorem tw_411 : Cond.code yX3_takeLostInChunk cX3_takeLostInChunk 2 (some .int) ∈ lw_good := mw_tw 411 (by decide +kernel) (by decide +kernel)
set_option maxRecDepth 100000 in
theorem tw_412 : Cond.methodLink RX8 301 yX1_addLoss ∈ lw_good := mw_tw 412 (by decide +kernel) (by decide +kernel)
set_option maxRecDepth 100000 in
theorem tw_413 : Cond.instanceMethod yX1_addLoss ∈ lw_good := mw_tw 413 (by decide +kernel) (by decide +kernel)
set_option maxRecDepth 100000 in
theorem tw_414 : Cond.selects RX1 yX1_addLoss yX1_addLoss ∈ lw_good := mw_tw 414 (by decide +kernel) (by decide +kernel)
set_option maxRecDepth 100000 in
theorem tw_415 : Cond.code yX1_addLoss cX1_addLoss 3 none ∈ lw_good := mw_tw 415 (by decide +kernel) (by decide +kernel)
set_option maxRecDepth 100000 in
theorem tw_416 : Cond.methodLink RX1 37 yX0_variableLength ∈ lw_good := mw_tw 416 (by decide +kernel) (by decide +kernel)
set_option maxRecDepth 100000 in
theorem tw_417 : Cond.methodLink RX1 41 yX0_addVariable ∈ lw_good := mw_tw 417 (by decide +kernel) (by decide +kernel)
set_option maxRecDepth 100000 in
theorem tw_418 : Cond.methodLink RX1 44 yX0_add ∈ lw_good := mw_tw 418 (by decide +kernel) (by decide +kernel)
set_option maxRecDepth 100000 in
theorem tw_419 : Cond.methodLink RX8 304 yX2_finishOpen ∈ lw_good := mw_tw 419 (by decide +kernel) (by decide +kernel)
set_option maxRecDepth 100000 in
theorem tw_420 : Cond.instanceMethod yX2_finishOpen ∈ lw_good := mw_tw 420 (by decide +kernel) (by decide +kernel)
set_option maxRecDepth 100000 in
theorem tw_421 : Cond.selects RX2 yX2_finishOpen yX2_finishOpen ∈ lw_good := mw_tw 421 (by decide +kernel) (by decide +kernel)
set_option maxRecDepth 100000 in
theorem tw_422 : Cond.code yX2_finishOpen cX2_finishOpen 3 none ∈ lw_good := mw_tw 422 (by decide +kernel) (by decide +kernel)
set_option maxRecDepth 100000 in
theorem tw_423 : Cond.methodLink RX2 29 yX2_open ∈ lw_good := mw_tw 423 (by decide +kernel) (by decide +kernel)
set_option maxRecDepth 100000 in
theorem tw_424 : Cond.methodLink RX2 33 yX1_number ∈ lw_good := mw_tw 424 (by decide +kernel) (by decide +kernel)
set_option maxRecDepth 100000 in
theorem tw_425 : Cond.instanceMethod yX1_number ∈ lw_good := mw_tw 425 (by decide +kernel) (by decide +kernel)
set_option maxRecDepth 100000 in
theorem tw_426 : Cond.selects RX1 yX1_number yX1_number ∈ lw_good := mw_tw 426 (by decide +kernel) (by decide +kernel)
set_option maxRecDepth 100000 in
theorem tw_427 : Cond.code yX1_number cX1_number 1 (some .int) ∈ lw_good := mw_tw 427 (by decide +kernel) (by decide +kernel)
set_option maxRecDepth 100000 in
theorem tw_428 : Cond.methodLink RX2 37 yX1_body ∈ lw_good := mw_tw 428 (by decide +kernel) (by decide +kernel)
set_option maxRecDepth 100000 in
theorem tw_429 : Cond.methodLink RX2 41 yX0_length ∈ lw_good := mw_tw 429 (by decide +kernel) (by decide +kernel)
set_option maxRecDepth 100000 in
theorem tw_430 : Cond.methodLink RX2 46 yX2_evictOldest ∈ lw_good := mw_tw 430 (by decide +kernel) (by decide +kernel)
set_option maxRecDepth 100000 in
theorem tw_432 : Cond.instanceMethod yX2_evictOldest ∈ lw_good := mw_tw 432 (by decide +kernel) (by decide +kernel)
set_option maxRecDepth 100000 in
theorem tw_433 : Cond.code yX2_evictOldest cX2_evictOldest 3 none ∈ lw_good := mw_tw 433 (by decide +kernel) (by decide +kernel)
set_option maxRecDepth 100000 in
theorem tw_438 : Cond.methodLink RX8 151 yX7_length ∈ lw_good := mw_tw 438 (by decide +kernel) (by decide +kernel)
set_option maxRecDepth 100000 in
theorem tw_439 : Cond.methodLink RX8 169 yX7_at ∈ lw_good := mw_tw 439 (by decide +kernel) (by decide +kernel)
set_option maxRecDepth 100000 in
theorem tw_440 : Cond.methodLink RX8 173 yX8_carryOutPart ∈ lw_good := mw_tw 440 (by decide +kernel) (by decide +kernel)
set_option maxRecDepth 100000 in
theorem tw_442 : Cond.instanceMethod yX8_carryOutPart ∈ lw_good := mw_tw 442 (by decide +kernel) (by decide +kernel)
set_option maxRecDepth 100000 in
theorem tw_443 : Cond.code yX8_carryOutPart cX8_carryOutPart 5 (some .boolean) ∈ lw_good := mw_tw 443 (by decide +kernel) (by decide +kernel)
set_option maxRecDepth 100000 in
theorem tw_444 : Cond.methodLink RX8 313 yX7_digitAt ∈ lw_good := mw_tw 444 (by decide +kernel) (by decide +kernel)
set_option maxRecDepth 100000 in
theorem tw_445 : Cond.instanceMethod yX7_digitAt ∈ lw_good := mw_tw 445 (by decide +kernel) (by decide +kernel)
set_option maxRecDepth 100000 in
theorem tw_446 : Cond.selects RX7 yX7_digitAt yX7_digitAt ∈ lw_good := mw_tw 446 (by decide +kernel) (by decide +kernel)
set_option maxRecDepth 100000 in
theorem tw_447 : Cond.code yX7_digitAt cX7_digitAt 3 (some .int) ∈ lw_good := mw_tw 447 (by decide +kernel) (by decide +kernel)
set_option maxRecDepth 100000 in
theorem tw_448 : Cond.methodLink RX7 19 yX7_at ∈ lw_good := mw_tw 448 (by decide +kernel) (by decide +kernel)
set_option maxRecDepth 100000 in
theorem tw_449 : Cond.methodLink RX8 155 yX8_isRecording ∈ lw_good := mw_tw 449 (by decide +kernel) (by decide +kernel)
set_option maxRecDepth 100000 in
theorem tw_451 : Cond.instanceMethod yX8_isRecording ∈ lw_good := mw_tw 451 (by decide +kernel) (by decide +kernel)
set_option maxRecDepth 100000 in
theorem tw_452 : Cond.code yX8_isRecording cX8_isRecording 2 (some .boolean) ∈ lw_good := mw_tw 452 (by decide +kernel) (by decide +kernel)
set_option maxRecDepth 100000 in
theorem tw_453 : Cond.methodLink RX8 152 yX8_countItems ∈ lw_good := mw_tw 453 (by decide +kernel) (by decide +kernel)
set_option maxRecDepth 100000 in
theorem tw_455 : Cond.instanceMethod yX8_countItems ∈ lw_good := mw_tw 455 (by decide +kernel) (by decide +kernel)
set_option maxRecDepth 100000 in
theorem tw_456 : Cond.code yX8_countItems cX8_countItems 6 (some .int) ∈ lw_good := mw_tw 456 (by decide +kernel) (by decide +kernel)
set_option maxRecDepth 100000 in
theorem tw_457 : Cond.methodLink RX8 310 yX8_itemEnd ∈ lw_good := mw_tw 457 (by decide +kernel) (by decide +kernel)
set_option maxRecDepth 100000 in
theorem tw_459 : Cond.instanceMethod yX8_itemEnd ∈ lw_good := mw_tw 459 (by decide +kernel) (by decide +kernel)
set_option maxRecDepth 100000 in
theorem tw_460 : Cond.code yX8_itemEnd cX8_itemEnd 3 (some .int) ∈ lw_good := mw_tw 460 (by decide +kernel) (by decide +kernel)
set_option maxRecDepth 100000 in
theorem tw_461 : Cond.methodLink RX8 161 yX8_applyItems ∈ lw_good := mw_tw 461 (by decide +kernel) (by decide +kernel)
set_option maxRecDepth 100000 in
theorem tw_463 : Cond.instanceMethod yX8_applyItems ∈ lw_good := mw_tw 463 (by decide +kernel) (by decide +kernel)
set_option maxRecDepth 100000 in
theorem tw_464 : Cond.code yX8_applyItems cX8_applyItems 7 none ∈ lw_good := mw_tw 464 (by decide +kernel) (by decide +kernel)
set_option maxRecDepth 100000 in
theorem tw_465 : Cond.methodLink RX8 316 yX8_applyItem ∈ lw_good := mw_tw 465 (by decide +kernel) (by decide +kernel)
set_option maxRecDepth 100000 in
theorem tw_467 : Cond.instanceMethod yX8_applyItem ∈ lw_good := mw_tw 467 (by decide +kernel) (by decide +kernel)
set_option maxRecDepth 100000 in
theorem tw_468 : Cond.code yX8_applyItem cX8_applyItem 7 none ∈ lw_good := mw_tw 468 (by decide +kernel) (by decide +kernel)
set_option maxRecDepth 100000 in
theorem tw_469 : Cond.methodLink RX8 319 yX5_turn ∈ lw_good := mw_tw 469 (by decide +kernel) (by decide +kernel)
set_option maxRecDepth 100000 in
theorem tw_470 : Cond.instanceMethod yX5_turn ∈ lw_good := mw_tw 470 (by decide +kernel) (by decide +kernel)
set_option maxRecDepth 100000 in
theorem tw_471 : Cond.selects RX5 yX5_turn yX5_turn ∈ lw_good := mw_tw 471 (by decide +kernel) (by decide +kernel)
set_option maxRecDepth 100000 in
theorem tw_472 : Cond.code yX5_turn cX5_turn 3 none ∈ lw_good := mw_tw 472 (by decide +kernel) (by decide +kernel)
set_option maxRecDepth 100000 in
theorem tw_473 : Cond.methodLink RX8 323 yX5_limit ∈ lw_good := mw_tw 473 (by decide +kernel) (by decide +kernel)
set_option maxRecDepth 100000 in
theorem tw_474 : Cond.instanceMethod yX5_limit ∈ lw_good := mw_tw 474 (by decide +kernel) (by decide +kernel)
set_option maxRecDepth 100000 in
theorem tw_475 : Cond.selects RX5 yX5_limit yX5_limit ∈ lw_good := mw_tw 475 (by decide +kernel) (by decide +kernel)
set_option maxRecDepth 100000 in
theorem tw_476 : Cond.code yX5_limit cX5_limit 3 none ∈ lw_good := mw_tw 476 (by decide +kernel) (by decide +kernel)
set_option maxRecDepth 100000 in
theorem tw_481 : Cond.methodLink RX8 211 yX0_at ∈ lw_good := mw_tw 481 (by decide +kernel) (by decide +kernel)
set_option maxRecDepth 100000 in
theorem tw_482 : Cond.instanceMethod yX0_at ∈ lw_good := mw_tw 482 (by decide +kernel) (by decide +kernel)
set_option maxRecDepth 100000 in
theorem tw_483 : Cond.selects RX0 yX0_at yX0_at ∈ lw_good := mw_tw 483 (by decide +kernel) (by decide +kernel)
set_option maxRecDepth 100000 in
theorem tw_484 : Cond.code yX0_at cX0_at 2 (some .int) ∈ lw_good := mw_tw 484 (by decide +kernel) (by decide +kernel)
set_option maxRecDepth 100000 in
theorem tw_489 : Cond.methodLink RX8 214 yX5_phase ∈ lw_good := mw_tw 489 (by decide +kernel) (by decide +kernel)
set_option maxRecDepth 100000 in
theorem tw_490 : Cond.instanceMethod yX5_phase ∈ lw_good := mw_tw 490 (by decide +kernel) (by decide +kernel)
set_option maxRecDepth 100000 in
theorem tw_491 : Cond.selects RX5 yX5_phase yX5_phase ∈ lw_good := mw_tw 491 (by decide +kernel) (by decide +kernel)
set_option maxRecDepth 100000 in
theorem tw_492 : Cond.code yX5_phase cX5_phase 1 (some .int) ∈ lw_good := mw_tw 492 (by decide +kernel) (by decide +kernel)
set_option maxRecDepth 100000 in
theorem tw_505 : Cond.methodLink RX8 226 yX4_full ∈ lw_good := mw_tw 505 (by decide +kernel) (by decide +kernel)
set_option maxRecDepth 100000 in
theorem tw_506 : Cond.instanceMethod yX4_full ∈ lw_good := mw_tw 506 (by decide +kernel) (by decide +kernel)
set_option maxRecDepth 100000 in
theorem tw_507 : Cond.selects RX4 yX4_full yX4_full ∈ lw_good := mw_tw 507 (by decide +kernel) (by decide +kernel)
set_option maxRecDepth 100000 in
theorem tw_508 : Cond.code yX4_full cX4_full 1 (some .int) ∈ lw_good := mw_tw 508 (by decide +kernel) (by decide +kernel)
set_option maxRecDepth 100000 in
theorem tw_509 : Cond.methodLink RX8 181 yX1_number ∈ lw_good := mw_tw 509 (by decide +kernel) (by decide +kernel)
set_option maxRecDepth 100000 in
theorem tw_510 : Cond.methodLink RX8 229 yX2_kept ∈ lw_good := mw_tw 510 (by decide +kernel) (by decide +kernel)
set_option maxRecDepth 100000 in
theorem tw_511 : Cond.instanceMethod yX2_kept ∈ lw_good := mw_tw 511 (by decide +kernel) (by decide +kernel)
set_option maxRecDepth 100000 in
theorem tw_512 : Cond.selects RX2 yX2_kept yX2_kept ∈ lw_good := mw_tw 512 (by decide +kernel) (by decide +kernel)
set_option maxRecDepth 100000 in
theorem tw_513 : Cond.code yX2_kept cX2_kept 1 (some .int) ∈ lw_good := mw_tw 513 (by decide +kernel) (by decide +kernel)
set_option maxRecDepth 100000 in
theorem tw_514 : Cond.methodLink RX8 232 yX2_evicted ∈ lw_good := mw_tw 514 (by decide +kernel) (by decide +kernel)
set_option maxRecDepth 100000 in
theorem tw_515 : Cond.instanceMethod yX2_evicted ∈ lw_good := mw_tw 515 (by decide +kernel) (by decide +kernel)
set_option maxRecDepth 100000 in
theorem tw_516 : Cond.selects RX2 yX2_evicted yX2_evicted ∈ lw_good := mw_tw 516 (by decide +kernel) (by decide +kernel)
set_option maxRecDepth 100000 in
theorem tw_517 : Cond.code yX2_evicted cX2_evicted 1 (some .int) ∈ lw_good := mw_tw 517 (by decide +kernel) (by decide +kernel)
set_option maxRecDepth 100000 in
theorem tw_518 : Cond.methodLink RX8 235 yX6_used ∈ lw_good := mw_tw 518 (by decide +kernel) (by decide +kernel)
set_option maxRecDepth 100000 in
theorem tw_519 : Cond.instanceMethod yX6_used ∈ lw_good := mw_tw 519 (by decide +kernel) (by decide +kernel)
set_option maxRecDepth 100000 in
theorem tw_520 : Cond.selects RX6 yX6_used yX6_used ∈ lw_good := mw_tw 520 (by decide +kernel) (by decide +kernel)
set_option maxRecDepth 100000 in
theorem tw_521 : Cond.code yX6_used cX6_used 1 (some .int) ∈ lw_good := mw_tw 521 (by decide +kernel) (by decide +kernel)
set_option maxRecDepth 100000 in
theorem tw_526 : Cond.methodLink RX8 238 yX3_lostInAll ∈ lw_good := mw_tw 526 (by decide +kernel) (by decide +kernel)
set_option maxRecDepth 100000 in
theorem tw_527 : Cond.instanceMethod yX3_lostInAll ∈ lw_good := mw_tw 527 (by decide +kernel) (by decide +kernel)
set_option maxRecDepth 100000 in
theorem tw_528 : Cond.selects RX3 yX3_lostInAll yX3_lostInAll ∈ lw_good := mw_tw 528 (by decide +kernel) (by decide +kernel)
set_option maxRecDepth 100000 in
theorem tw_529 : Cond.code yX3_lostInAll cX3_lostInAll 1 (some .int) ∈ lw_good := mw_tw 529 (by decide +kernel) (by decide +kernel)
set_option maxRecDepth 100000 in
theorem tw_650 : Cond.methodLink RX8 184 yX5_runFrom ∈ lw_good := mw_tw 650 (by decide +kernel) (by decide +kernel)
set_option maxRecDepth 100000 in
theorem tw_651 : Cond.instanceMethod yX5_runFrom ∈ lw_good := mw_tw 651 (by decide +kernel) (by decide +kernel)
set_option maxRecDepth 100000 in
theorem tw_652 : Cond.selects RX5 yX5_runFrom yX5_runFrom ∈ lw_good := mw_tw 652 (by decide +kernel) (by decide +kernel)
set_option maxRecDepth 100000 in
theorem tw_653 : Cond.code yX5_runFrom cX5_runFrom 2 none ∈ lw_good := mw_tw 653 (by decide +kernel) (by decide +kernel)
set_option maxRecDepth 100000 in
theorem tw_662 : Cond.methodLink RX8 189 yX8_endRecording ∈ lw_good := mw_tw 662 (by decide +kernel) (by decide +kernel)
set_option maxRecDepth 100000 in
theorem tw_664 : Cond.instanceMethod yX8_endRecording ∈ lw_good := mw_tw 664 (by decide +kernel) (by decide +kernel)
set_option maxRecDepth 100000 in
theorem tw_665 : Cond.code yX8_endRecording cX8_endRecording 3 (some .int) ∈ lw_good := mw_tw 665 (by decide +kernel) (by decide +kernel)
set_option maxRecDepth 100000 in
theorem tw_666 : Cond.methodLink RX8 307 yX5_endWith ∈ lw_good := mw_tw 666 (by decide +kernel) (by decide +kernel)
set_option maxRecDepth 100000 in
theorem tw_667 : Cond.instanceMethod yX5_endWith ∈ lw_good := mw_tw 667 (by decide +kernel) (by decide +kernel)
set_option maxRecDepth 100000 in
theorem tw_668 : Cond.selects RX5 yX5_endWith yX5_endWith ∈ lw_good := mw_tw 668 (by decide +kernel) (by decide +kernel)
set_option maxRecDepth 100000 in
theorem tw_669 : Cond.code yX5_endWith cX5_endWith 2 none ∈ lw_good := mw_tw 669 (by decide +kernel) (by decide +kernel)
set_option maxRecDepth 100000 in
theorem tw_678 : Cond.methodLink RX8 195 yX5_shut ∈ lw_good := mw_tw 678 (by decide +kernel) (by decide +kernel)
set_option maxRecDepth 100000 in
theorem tw_679 : Cond.instanceMethod yX5_shut ∈ lw_good := mw_tw 679 (by decide +kernel) (by decide +kernel)
set_option maxRecDepth 100000 in
theorem tw_680 : Cond.selects RX5 yX5_shut yX5_shut ∈ lw_good := mw_tw 680 (by decide +kernel) (by decide +kernel)
set_option maxRecDepth 100000 in
theorem tw_681 : Cond.code yX5_shut cX5_shut 1 none ∈ lw_good := mw_tw 681 (by decide +kernel) (by decide +kernel)
set_option maxRecDepth 100000 in
theorem tw_690 : Cond.methodLink RX8 201 yX5_firstChunk ∈ lw_good := mw_tw 690 (by decide +kernel) (by decide +kernel)
set_option maxRecDepth 100000 in
theorem tw_691 : Cond.instanceMethod yX5_firstChunk ∈ lw_good := mw_tw 691 (by decide +kernel) (by decide +kernel)
set_option maxRecDepth 100000 in
theorem tw_692 : Cond.selects RX5 yX5_firstChunk yX5_firstChunk ∈ lw_good := mw_tw 692 (by decide +kernel) (by decide +kernel)
set_option maxRecDepth 100000 in
theorem tw_693 : Cond.code yX5_firstChunk cX5_firstChunk 1 (some .int) ∈ lw_good := mw_tw 693 (by decide +kernel) (by decide +kernel)
set_option maxRecDepth 100000 in
theorem tw_694 : Cond.methodLink RX8 204 yX5_lastChunk ∈ lw_good := mw_tw 694 (by decide +kernel) (by decide +kernel)
set_option maxRecDepth 100000 in
theorem tw_695 : Cond.instanceMethod yX5_lastChunk ∈ lw_good := mw_tw 695 (by decide +kernel) (by decide +kernel)
set_option maxRecDepth 100000 in
theorem tw_696 : Cond.selects RX5 yX5_lastChunk yX5_lastChunk ∈ lw_good := mw_tw 696 (by decide +kernel) (by decide +kernel)
set_option maxRecDepth 100000 in
theorem tw_697 : Cond.code yX5_lastChunk cX5_lastChunk 1 (some .int) ∈ lw_good := mw_tw 697 (by decide +kernel) (by decide +kernel)
set_option maxRecDepth 100000 in
theorem tw_698 : Cond.methodLink RX8 207 yX2_writeKept ∈ lw_good := mw_tw 698 (by decide +kernel) (by decide +kernel)
set_option maxRecDepth 100000 in
theorem tw_699 : Cond.instanceMethod yX2_writeKept ∈ lw_good := mw_tw 699 (by decide +kernel) (by decide +kernel)
set_option maxRecDepth 100000 in
theorem tw_700 : Cond.selects RX2 yX2_writeKept yX2_writeKept ∈ lw_good := mw_tw 700 (by decide +kernel) (by decide +kernel)
set_option maxRecDepth 100000 in
theorem tw_701 : Cond.code yX2_writeKept cX2_writeKept 6 none ∈ lw_good := mw_tw 701 (by decide +kernel) (by decide +kernel)
set_option maxRecDepth 100000 in
theorem tw_702 : Cond.methodLink RX2 49 yX1_writeTo ∈ lw_good := mw_tw 702 (by decide +kernel) (by decide +kernel)
set_option maxRecDepth 100000 in
theorem tw_703 : Cond.instanceMethod yX1_writeTo ∈ lw_good := mw_tw 703 (by decide +kernel) (by decide +kernel)
set_option maxRecDepth 100000 in
theorem tw_704 : Cond.selects RX1 yX1_writeTo yX1_writeTo ∈ lw_good := mw_tw 704 (by decide +kernel) (by decide +kernel)
set_option maxRecDepth 100000 in
theorem tw_705 : Cond.code yX1_writeTo cX1_writeTo 4 none ∈ lw_good := mw_tw 705 (by decide +kernel) (by decide +kernel)
set_option maxRecDepth 100000 in
theorem tw_706 : Cond.methodLink RX1 47 yX0_addRow ∈ lw_good := mw_tw 706 (by decide +kernel) (by decide +kernel)
set_option maxRecDepth 100000 in
theorem tw_707 : Cond.methodLink RX1 51 yX1_countStrings ∈ lw_good := mw_tw 707 (by decide +kernel) (by decide +kernel)
set_option maxRecDepth 100000 in
theorem tw_709 : Cond.instanceMethod yX1_countStrings ∈ lw_good := mw_tw 709 (by decide +kernel) (by decide +kernel)
set_option maxRecDepth 100000 in
theorem tw_710 : Cond.code yX1_countStrings cX1_countStrings 3 (some .int) ∈ lw_good := mw_tw 710 (by decide +kernel) (by decide +kernel)
set_option maxRecDepth 100000 in
theorem tw_711 : Cond.methodLink RX1 55 yX6_writeTo ∈ lw_good := mw_tw 711 (by decide +kernel) (by decide +kernel)
set_option maxRecDepth 100000 in
theorem tw_712 : Cond.instanceMethod yX6_writeTo ∈ lw_good := mw_tw 712 (by decide +kernel) (by decide +kernel)
set_option maxRecDepth 100000 in
theorem tw_713 : Cond.selects RX6 yX6_writeTo yX6_writeTo ∈ lw_good := mw_tw 713 (by decide +kernel) (by decide +kernel)
set_option maxRecDepth 100000 in
theorem tw_714 : Cond.code yX6_writeTo cX6_writeTo 4 none ∈ lw_good := mw_tw 714 (by decide +kernel) (by decide +kernel)
set_option maxRecDepth 100000 in
theorem tw_715 : Cond.methodLink RX6 37 yX0_addVariable ∈ lw_good := mw_tw 715 (by decide +kernel) (by decide +kernel)
set_option maxRecDepth 100000 in
theorem tw_716 : Cond.methodLink RX6 43 yX0_add ∈ lw_good := mw_tw 716 (by decide +kernel) (by decide +kernel)
set_option maxRecDepth 100000 in
theorem tw_722 : Cond.methodLink RX9 1 objectInit ∈ lw_good := mw_tw 722 (by decide +kernel) (by decide +kernel)
set_option maxRecDepth 100000 in
theorem tw_723 : Cond.fieldLink RX9 87 "EventRecorderModel" "size" "I" ∈ lw_good := mw_tw 723 (by decide +kernel) (by decide +kernel)
set_option maxRecDepth 100000 in
theorem tw_724 : Cond.fieldLink RX9 91 "EventRecorderModel" "pool" "I" ∈ lw_good := mw_tw 724 (by decide +kernel) (by decide +kernel)
set_option maxRecDepth 100000 in
theorem tw_725 : Cond.fieldLink RX9 94 "EventRecorderModel" "keep" "I" ∈ lw_good := mw_tw 725 (by decide +kernel) (by decide +kernel)
set_option maxRecDepth 100000 in
theorem tw_726 : Cond.fieldLink RX9 106 "EventRecorderModel" "now" "I" ∈ lw_good := mw_tw 726 (by decide +kernel) (by decide +kernel)
set_option maxRecDepth 100000 in
theorem tw_727 : Cond.fieldLink RX9 97 "EventRecorderModel" "thrown" "I" ∈ lw_good := mw_tw 727 (by decide +kernel) (by decide +kernel)
set_option maxRecDepth 100000 in
theorem tw_728 : Cond.fieldLink RX9 103 "EventRecorderModel" "typed" "I" ∈ lw_good := mw_tw 728 (by decide +kernel) (by decide +kernel)
set_option maxRecDepth 100000 in
theorem tw_729 : Cond.fieldLink RX9 7 "EventRecorderModel" "text" "[C" ∈ lw_good := mw_tw 729 (by decide +kernel) (by decide +kernel)
set_option maxRecDepth 100000 in
theorem tw_730 : Cond.fieldLink RX9 109 "EventRecorderModel" "types" "I" ∈ lw_good := mw_tw 730 (by decide +kernel) (by decide +kernel)
set_option maxRecDepth 100000 in
theorem tw_731 : Cond.fieldLink RX9 13 "EventRecorderModel" "ints" "[I" ∈ lw_good := mw_tw 731 (by decide +kernel) (by decide +kernel)
set_option maxRecDepth 100000 in
theorem tw_732 : Cond.fieldLink RX9 17 "EventRecorderModel" "hasString" "[Z" ∈ lw_good := mw_tw 732 (by decide +kernel) (by decide +kernel)
set_option maxRecDepth 100000 in
theorem tw_733 : Cond.fieldLink RX9 119 "EventRecorderModel" "strings" "I" ∈ lw_good := mw_tw 733 (by decide +kernel) (by decide +kernel)
set_option maxRecDepth 100000 in
theorem tw_734 : Cond.fieldLink RX9 21 "EventRecorderModel" "chars" "[C" ∈ lw_good := mw_tw 734 (by decide +kernel) (by decide +kernel)
set_option maxRecDepth 100000 in
theorem tw_735 : Cond.fieldLink RX9 24 "EventRecorderModel" "length" "[I" ∈ lw_good := mw_tw 735 (by decide +kernel) (by decide +kernel)
set_option maxRecDepth 100000 in
theorem tw_736 : Cond.fieldLink RX9 27 "EventRecorderModel" "begun" "[I" ∈ lw_good := mw_tw 736 (by decide +kernel) (by decide +kernel)
set_option maxRecDepth 100000 in
theorem tw_737 : Cond.fieldLink RX9 30 "EventRecorderModel" "ticks" "[I" ∈ lw_good := mw_tw 737 (by decide +kernel) (by decide +kernel)
set_option maxRecDepth 100000 in
theorem tw_738 : Cond.fieldLink RX9 33 "EventRecorderModel" "bytes" "[I" ∈ lw_good := mw_tw 738 (by decide +kernel) (by decide +kernel)
set_option maxRecDepth 100000 in
theorem tw_739 : Cond.fieldLink RX9 36 "EventRecorderModel" "many" "[I" ∈ lw_good := mw_tw 739 (by decide +kernel) (by decide +kernel)
set_option maxRecDepth 100000 in
theorem tw_740 : Cond.fieldLink RX9 39 "EventRecorderModel" "events" "[I" ∈ lw_good := mw_tw 740 (by decide +kernel) (by decide +kernel)
set_option maxRecDepth 100000 in
theorem tw_741 : Cond.fieldLink RX9 136 "EventRecorderModel" "full" "I" ∈ lw_good := mw_tw 741 (by decide +kernel) (by decide +kernel)
set_option maxRecDepth 100000 in
theorem tw_742 : Cond.fieldLink RX9 159 "EventRecorderModel" "kept" "I" ∈ lw_good := mw_tw 742 (by decide +kernel) (by decide +kernel)
set_option maxRecDepth 100000 in
theorem tw_743 : Cond.fieldLink RX9 165 "EventRecorderModel" "evicted" "I" ∈ lw_good := mw_tw 743 (by decide +kernel) (by decide +kernel)
set_option maxRecDepth 100000 in
theorem tw_744 : Cond.fieldLink RX9 42 "EventRecorderModel" "data" "[I" ∈ lw_good := mw_tw 744 (by decide +kernel) (by decide +kernel)
set_option maxRecDepth 100000 in
theorem tw_745 : Cond.fieldLink RX9 45 "EventRecorderModel" "dataLength" "[I" ∈ lw_good := mw_tw 745 (by decide +kernel) (by decide +kernel)
set_option maxRecDepth 100000 in
theorem tw_746 : Cond.fieldLink RX9 48 "EventRecorderModel" "number" "[I" ∈ lw_good := mw_tw 746 (by decide +kernel) (by decide +kernel)
set_option maxRecDepth 100000 in
theorem tw_747 : Cond.fieldLink RX9 51 "EventRecorderModel" "opened" "[I" ∈ lw_good := mw_tw 747 (by decide +kernel) (by decide +kernel)
set_option maxRecDepth 100000 in
theorem tw_748 : Cond.fieldLink RX9 54 "EventRecorderModel" "eventCount" "[I" ∈ lw_good := mw_tw 748 (by decide +kernel) (by decide +kernel)
set_option maxRecDepth 100000 in
theorem tw_749 : Cond.fieldLink RX9 57 "EventRecorderModel" "used" "[I" ∈ lw_good := mw_tw 749 (by decide +kernel) (by decide +kernel)
set_option maxRecDepth 100000 in
theorem tw_750 : Cond.fieldLink RX9 60 "EventRecorderModel" "lostHere" "[I" ∈ lw_good := mw_tw 750 (by decide +kernel) (by decide +kernel)
set_option maxRecDepth 100000 in
theorem tw_751 : Cond.fieldLink RX9 63 "EventRecorderModel" "lostAll" "[I" ∈ lw_good := mw_tw 751 (by decide +kernel) (by decide +kernel)
set_option maxRecDepth 100000 in
theorem tw_752 : Cond.fieldLink RX9 100 "EventRecorderModel" "recordings" "I" ∈ lw_good := mw_tw 752 (by decide +kernel) (by decide +kernel)
set_option maxRecDepth 100000 in
theorem tw_753 : Cond.fieldLink RX9 66 "EventRecorderModel" "state" "[I" ∈ lw_good := mw_tw 753 (by decide +kernel) (by decide +kernel)
set_option maxRecDepth 100000 in
theorem tw_754 : Cond.fieldLink RX9 69 "EventRecorderModel" "off" "[Z" ∈ lw_good := mw_tw 754 (by decide +kernel) (by decide +kernel)
set_option maxRecDepth 100000 in
theorem tw_755 : Cond.fieldLink RX9 72 "EventRecorderModel" "threshold" "[I" ∈ lw_good := mw_tw 755 (by decide +kernel) (by decide +kernel)
set_option maxRecDepth 100000 in
theorem tw_756 : Cond.fieldLink RX9 75 "EventRecorderModel" "from" "[I" ∈ lw_good := mw_tw 756 (by decide +kernel) (by decide +kernel)
set_option maxRecDepth 100000 in
theorem tw_757 : Cond.fieldLink RX9 78 "EventRecorderModel" "upTo" "[I" ∈ lw_good := mw_tw 757 (by decide +kernel) (by decide +kernel)
set_option maxRecDepth 100000 in
theorem tw_758 : Cond.fieldLink RX9 81 "EventRecorderModel" "written" "[I" ∈ lw_good := mw_tw 758 (by decide +kernel) (by decide +kernel)
set_option maxRecDepth 100000 in
theorem tw_759 : Cond.fieldLink RX9 191 "EventRecorderModel" "writtenLength" "I" ∈ lw_good := mw_tw 759 (by decide +kernel) (by decide +kernel)
set_option maxRecDepth 100000 in
theorem tw_760 : Cond.fieldLink RX9 84 "EventRecorderModel" "event" "[I" ∈ lw_good := mw_tw 760 (by decide +kernel) (by decide +kernel)
set_option maxRecDepth 100000 in
theorem tw_761 : Cond.fieldLink RX9 116 "EventRecorderModel" "eventLength" "I" ∈ lw_good := mw_tw 761 (by decide +kernel) (by decide +kernel)
set_option maxRecDepth 100000 in
theorem tw_861 : Cond.methodLink RX9 112 yX9_isThread ∈ lw_good := mw_tw 861 (by decide +kernel) (by decide +kernel)
set_option maxRecDepth 100000 in
theorem tw_862 : Cond.static yX9_isThread ∈ lw_good := mw_tw 862 (by decide +kernel) (by decide +kernel)
set_option maxRecDepth 100000 in
theorem tw_863 : Cond.code yX9_isThread cX9_isThread 1 (some .boolean) ∈ lw_good := mw_tw 863 (by decide +kernel) (by decide +kernel)
set_option maxRecDepth 100000 in
theorem tw_868 : Cond.methodLink RX9 122 yX9_unwanted ∈ lw_good := mw_tw 868 (by decide +kernel) (by decide +kernel)
set_option maxRecDepth 100000 in
theorem tw_870 : Cond.instanceMethod yX9_unwanted ∈ lw_good := mw_tw 870 (by decide +kernel) (by decide +kernel)
set_option maxRecDepth 100000 in
theorem tw_871 : Cond.code yX9_unwanted cX9_unwanted 5 (some .int) ∈ lw_good := mw_tw 871 (by decide +kernel) (by decide +kernel)
set_option maxRecDepth 100000 in
theorem tw_872 : Cond.methodLink RX9 126 yX9_stringOf ∈ lw_good := mw_tw 872 (by decide +kernel) (by decide +kernel)
set_option maxRecDepth 100000 in
theorem tw_874 : Cond.instanceMethod yX9_stringOf ∈ lw_good := mw_tw 874 (by decide +kernel) (by decide +kernel)
set_option maxRecDepth 100000 in
theorem tw_875 : Cond.code yX9_stringOf cX9_stringOf 5 (some .int) ∈ lw_good := mw_tw 875 (by decide +kernel) (by decide +kernel)
set_option maxRecDepth 100000 in
theorem tw_876 : Cond.methodLink RX9 130 yX9_width ∈ lw_good := mw_tw 876 (by decide +kernel) (by decide +kernel)
set_option maxRecDepth 100000 in
theorem tw_877 : Cond.static yX9_width ∈ lw_good := mw_tw 877 (by decide +kernel) (by decide +kernel)
set_option maxRecDepth 100000 in
theorem tw_878 : Cond.code yX9_width cX9_width 3 (some .int) ∈ lw_good := mw_tw 878 (by decide +kernel) (by decide +kernel)
set_option maxRecDepth 100000 in
theorem tw_879 : Cond.methodLink RX9 133 yX9_zigzag ∈ lw_good := mw_tw 879 (by decide +kernel) (by decide +kernel)
set_option maxRecDepth 100000 in
theorem tw_880 : Cond.static yX9_zigzag ∈ lw_good := mw_tw 880 (by decide +kernel) (by decide +kernel)
set_option maxRecDepth 100000 in
theorem tw_881 : Cond.code yX9_zigzag cX9_zigzag 1 (some .int) ∈ lw_good := mw_tw 881 (by decide +kernel) (by decide +kernel)
set_option maxRecDepth 100000 in
theorem tw_882 : Cond.methodLink RX9 139 yX9_variable ∈ lw_good := mw_tw 882 (by decide +kernel) (by decide +kernel)
set_option maxRecDepth 100000 in
theorem tw_884 : Cond.instanceMethod yX9_variable ∈ lw_good := mw_tw 884 (by decide +kernel) (by decide +kernel)
set_option maxRecDepth 100000 in
theorem tw_885 : Cond.code yX9_variable cX9_variable 5 none ∈ lw_good := mw_tw 885 (by decide +kernel) (by decide +kernel)
set_option maxRecDepth 100000 in
theorem tw_886 : Cond.methodLink RX9 143 yX9_keepString ∈ lw_good := mw_tw 886 (by decide +kernel) (by decide +kernel)
set_option maxRecDepth 100000 in
theorem tw_888 : Cond.instanceMethod yX9_keepString ∈ lw_good := mw_tw 888 (by decide +kernel) (by decide +kernel)
set_option maxRecDepth 100000 in
theorem tw_889 : Cond.code yX9_keepString cX9_keepString 4 none ∈ lw_good := mw_tw 889 (by decide +kernel) (by decide +kernel)
set_option maxRecDepth 100000 in
theorem tw_890 : Cond.methodLink RX9 147 yX9_move ∈ lw_good := mw_tw 890 (by decide +kernel) (by decide +kernel)
set_option maxRecDepth 100000 in
theorem tw_892 : Cond.instanceMethod yX9_move ∈ lw_good := mw_tw 892 (by decide +kernel) (by decide +kernel)
set_option maxRecDepth 100000 in
theorem tw_893 : Cond.code yX9_move cX9_move 4 none ∈ lw_good := mw_tw 893 (by decide +kernel) (by decide +kernel)
set_option maxRecDepth 100000 in
theorem tw_898 : Cond.methodLink RX9 153 yX9_drain ∈ lw_good := mw_tw 898 (by decide +kernel) (by decide +kernel)
set_option maxRecDepth 100000 in
theorem tw_900 : Cond.instanceMethod yX9_drain ∈ lw_good := mw_tw 900 (by decide +kernel) (by decide +kernel)
set_option maxRecDepth 100000 in
theorem tw_901 : Cond.code yX9_drain cX9_drain 4 (some .int) ∈ lw_good := mw_tw 901 (by decide +kernel) (by decide +kernel)
set_option maxRecDepth 100000 in
theorem tw_902 : Cond.methodLink RX9 168 yX9_rotate ∈ lw_good := mw_tw 902 (by decide +kernel) (by decide +kernel)
set_option maxRecDepth 100000 in
theorem tw_904 : Cond.instanceMethod yX9_rotate ∈ lw_good := mw_tw 904 (by decide +kernel) (by decide +kernel)
set_option maxRecDepth 100000 in
theorem tw_905 : Cond.code yX9_rotate cX9_rotate 3 none ∈ lw_good := mw_tw 905 (by decide +kernel) (by decide +kernel)
set_option maxRecDepth 100000 in
theorem tw_906 : Cond.methodLink RX9 156 yX9_loss ∈ lw_good := mw_tw 906 (by decide +kernel) (by decide +kernel)
set_option maxRecDepth 100000 in
theorem tw_908 : Cond.instanceMethod yX9_loss ∈ lw_good := mw_tw 908 (by decide +kernel) (by decide +kernel)
set_option maxRecDepth 100000 in
theorem tw_909 : Cond.code yX9_loss cX9_loss 3 none ∈ lw_good := mw_tw 909 (by decide +kernel) (by decide +kernel)
set_option maxRecDepth 100000 in
theorem tw_910 : Cond.methodLink RX9 150 yX9_put ∈ lw_good := mw_tw 910 (by decide +kernel) (by decide +kernel)
set_option maxRecDepth 100000 in
theorem tw_912 : Cond.instanceMethod yX9_put ∈ lw_good := mw_tw 912 (by decide +kernel) (by decide +kernel)
set_option maxRecDepth 100000 in
theorem tw_913 : Cond.code yX9_put cX9_put 2 none ∈ lw_good := mw_tw 913 (by decide +kernel) (by decide +kernel)
set_option maxRecDepth 100000 in
theorem tw_914 : Cond.methodLink RX9 162 yX9_copyChunk ∈ lw_good := mw_tw 914 (by decide +kernel) (by decide +kernel)
set_option maxRecDepth 100000 in
theorem tw_916 : Cond.instanceMethod yX9_copyChunk ∈ lw_good := mw_tw 916 (by decide +kernel) (by decide +kernel)
set_option maxRecDepth 100000 in
theorem tw_917 : Cond.code yX9_copyChunk cX9_copyChunk 4 none ∈ lw_good := mw_tw 917 (by decide +kernel) (by decide +kernel)
set_option maxRecDepth 100000 in
theorem tw_926 : Cond.methodLink RX9 178 yX9_items ∈ lw_good := mw_tw 926 (by decide +kernel) (by decide +kernel)
set_option maxRecDepth 100000 in
theorem tw_928 : Cond.instanceMethod yX9_items ∈ lw_good := mw_tw 928 (by decide +kernel) (by decide +kernel)
set_option maxRecDepth 100000 in
theorem tw_929 : Cond.code yX9_items cX9_items 5 (some .int) ∈ lw_good := mw_tw 929 (by decide +kernel) (by decide +kernel)
set_option maxRecDepth 100000 in
theorem tw_930 : Cond.methodLink RX9 175 yX9_itemEnd ∈ lw_good := mw_tw 930 (by decide +kernel) (by decide +kernel)
set_option maxRecDepth 100000 in
theorem tw_932 : Cond.instanceMethod yX9_itemEnd ∈ lw_good := mw_tw 932 (by decide +kernel) (by decide +kernel)
set_option maxRecDepth 100000 in
theorem tw_933 : Cond.code yX9_itemEnd cX9_itemEnd 4 (some .int) ∈ lw_good := mw_tw 933 (by decide +kernel) (by decide +kernel)
set_option maxRecDepth 100000 in
theorem tw_934 : Cond.methodLink RX9 171 yX9_digit ∈ lw_good := mw_tw 934 (by decide +kernel) (by decide +kernel)
set_option maxRecDepth 100000 in
theorem tw_936 : Cond.instanceMethod yX9_digit ∈ lw_good := mw_tw 936 (by decide +kernel) (by decide +kernel)
set_option maxRecDepth 100000 in
theorem tw_937 : Cond.code yX9_digit cX9_digit 3 (some .boolean) ∈ lw_good := mw_tw 937 (by decide +kernel) (by decide +kernel)
set_option maxRecDepth 100000 in
theorem tw_938 : Cond.methodLink RX9 181 yX9_isRecording ∈ lw_good := mw_tw 938 (by decide +kernel) (by decide +kernel)
set_option maxRecDepth 100000 in
theorem tw_940 : Cond.instanceMethod yX9_isRecording ∈ lw_good := mw_tw 940 (by decide +kernel) (by decide +kernel)
set_option maxRecDepth 100000 in
theorem tw_941 : Cond.code yX9_isRecording cX9_isRecording 2 (some .boolean) ∈ lw_good := mw_tw 941 (by decide +kernel) (by decide +kernel)
set_option maxRecDepth 100000 in
theorem tw_942 : Cond.methodLink RX9 184 yX9_set ∈ lw_good := mw_tw 942 (by decide +kernel) (by decide +kernel)
set_option maxRecDepth 100000 in
theorem tw_944 : Cond.instanceMethod yX9_set ∈ lw_good := mw_tw 944 (by decide +kernel) (by decide +kernel)
set_option maxRecDepth 100000 in
theorem tw_945 : Cond.code yX9_set cX9_set 9 none ∈ lw_good := mw_tw 945 (by decide +kernel) (by decide +kernel)
set_option maxRecDepth 100000 in
theorem tw_958 : Cond.methodLink RX9 188 yX9_end ∈ lw_good := mw_tw 958 (by decide +kernel) (by decide +kernel)
set_option maxRecDepth 100000 in
theorem tw_960 : Cond.instanceMethod yX9_end ∈ lw_good := mw_tw 960 (by decide +kernel) (by decide +kernel)
set_option maxRecDepth 100000 in
theorem tw_961 : Cond.code yX9_end cX9_end 2 (some .int) ∈ lw_good := mw_tw 961 (by decide +kernel) (by decide +kernel)
set_option maxRecDepth 100000 in
theorem tw_970 : Cond.methodLink RX9 200 yX9_writeOut ∈ lw_good := mw_tw 970 (by decide +kernel) (by decide +kernel)
set_option maxRecDepth 100000 in
theorem tw_972 : Cond.instanceMethod yX9_writeOut ∈ lw_good := mw_tw 972 (by decide +kernel) (by decide +kernel)
set_option maxRecDepth 100000 in
theorem tw_973 : Cond.code yX9_writeOut cX9_writeOut 5 none ∈ lw_good := mw_tw 973 (by decide +kernel) (by decide +kernel)
set_option maxRecDepth 100000 in
theorem tw_974 : Cond.methodLink RX9 194 yX9_out ∈ lw_good := mw_tw 974 (by decide +kernel) (by decide +kernel)
set_option maxRecDepth 100000 in
theorem tw_976 : Cond.instanceMethod yX9_out ∈ lw_good := mw_tw 976 (by decide +kernel) (by decide +kernel)
set_option maxRecDepth 100000 in
theorem tw_977 : Cond.code yX9_out cX9_out 2 none ∈ lw_good := mw_tw 977 (by decide +kernel) (by decide +kernel)
set_option maxRecDepth 100000 in
theorem tw_978 : Cond.methodLink RX9 197 yX9_outVariable ∈ lw_good := mw_tw 978 (by decide +kernel) (by decide +kernel)
set_option maxRecDepth 100000 in
theorem tw_980 : Cond.instanceMethod yX9_outVariable ∈ lw_good := mw_tw 980 (by decide +kernel) (by decide +kernel)
set_option maxRecDepth 100000 in
theorem tw_981 : Cond.code yX9_outVariable cX9_outVariable 3 none ∈ lw_good := mw_tw 981 (by decide +kernel) (by decide +kernel)
end
