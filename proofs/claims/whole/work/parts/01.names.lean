def RX0 : String := "EventRecorder$ByteRow"
def TX0 : u_T := fun k => match k with
  | 0 => ("EventRecorder$ByteRow", "bytes", "[B", true)
  | _ => ("EventRecorder$ByteRow", "length", "I", false)
def tyX0 : Nat → FieldType := fun k => match k with
  | 0 => .array .byte
  | _ => .int
set_option maxRecDepth 100000 in
theorem nX0 : ∀ a, a < 2 → ∀ b, b < 2 → a ≠ b → (TX0 a).2.1 ≠ (TX0 b).2.1 := by decide +kernel
set_option maxRecDepth 100000 in
theorem tyX0_ok : ∀ k, k < 2 → parseFieldDescriptor (TX0 k).2.2.1 = some (tyX0 k) := by decide +kernel
def RX1 : String := "EventRecorder$Chunk"
def TX1 : u_T := fun k => match k with
  | 0 => ("EventRecorder$Chunk", "body", "LEventRecorder$ByteRow;", true)
  | 1 => ("EventRecorder$Chunk", "usedStrings", "[Z", true)
  | 2 => ("EventRecorder$Chunk", "number", "I", false)
  | 3 => ("EventRecorder$Chunk", "openedAt", "I", false)
  | _ => ("EventRecorder$Chunk", "events", "I", false)
def tyX1 : Nat → FieldType := fun k => match k with
  | 0 => .object "EventRecorder$ByteRow"
  | 1 => .array .boolean
  | 2 => .int
  | 3 => .int
  | _ => .int
set_option maxRecDepth 100000 in
theorem nX1 : ∀ a, a < 5 → ∀ b, b < 5 → a ≠ b → (TX1 a).2.1 ≠ (TX1 b).2.1 := by decide +kernel
set_option maxRecDepth 100000 in
theorem tyX1_ok : ∀ k, k < 5 → parseFieldDescriptor (TX1 k).2.2.1 = some (tyX1 k) := by decide +kernel
def RX2 : String := "EventRecorder$Chunks"
def TX2 : u_T := fun k => match k with
  | 0 => ("EventRecorder$Chunks", "rows", "[LEventRecorder$Chunk;", true)
  | 1 => ("EventRecorder$Chunks", "kept", "I", false)
  | _ => ("EventRecorder$Chunks", "evicted", "I", false)
def tyX2 : Nat → FieldType := fun k => match k with
  | 0 => .array (.object "EventRecorder$Chunk")
  | 1 => .int
  | _ => .int
set_option maxRecDepth 100000 in
theorem nX2 : ∀ a, a < 3 → ∀ b, b < 3 → a ≠ b → (TX2 a).2.1 ≠ (TX2 b).2.1 := by decide +kernel
set_option maxRecDepth 100000 in
theorem tyX2_ok : ∀ k, k < 3 → parseFieldDescriptor (TX2 k).2.2.1 = some (tyX2 k) := by decide +kernel
def RX3 : String := "EventRecorder$EventThread"
def TX3 : u_T := fun k => match k with
  | 0 => ("EventRecorder$EventThread", "ticks", "[I", true)
  | 1 => ("EventRecorder$EventThread", "buffer", "LEventRecorder$ByteRow;", true)
  | 2 => ("EventRecorder$EventThread", "begun", "I", false)
  | 3 => ("EventRecorder$EventThread", "lostInChunk", "I", false)
  | _ => ("EventRecorder$EventThread", "lostInAll", "I", false)
def tyX3 : Nat → FieldType := fun k => match k with
  | 0 => .array .int
  | 1 => .object "EventRecorder$ByteRow"
  | 2 => .int
  | 3 => .int
  | _ => .int
set_option maxRecDepth 100000 in
theorem nX3 : ∀ a, a < 5 → ∀ b, b < 5 → a ≠ b → (TX3 a).2.1 ≠ (TX3 b).2.1 := by decide +kernel
set_option maxRecDepth 100000 in
theorem tyX3_ok : ∀ k, k < 5 → parseFieldDescriptor (TX3 k).2.2.1 = some (tyX3 k) := by decide +kernel
def RX4 : String := "EventRecorder$Pool"
def TX4 : u_T := fun k => match k with
  | 0 => ("EventRecorder$Pool", "buffers", "[LEventRecorder$ByteRow;", true)
  | 1 => ("EventRecorder$Pool", "first", "I", false)
  | _ => ("EventRecorder$Pool", "full", "I", false)
def tyX4 : Nat → FieldType := fun k => match k with
  | 0 => .array (.object "EventRecorder$ByteRow")
  | 1 => .int
  | _ => .int
set_option maxRecDepth 100000 in
theorem nX4 : ∀ a, a < 3 → ∀ b, b < 3 → a ≠ b → (TX4 a).2.1 ≠ (TX4 b).2.1 := by decide +kernel
set_option maxRecDepth 100000 in
theorem tyX4_ok : ∀ k, k < 3 → parseFieldDescriptor (TX4 k).2.2.1 = some (tyX4 k) := by decide +kernel
def RX5 : String := "EventRecorder$Recording"
def TX5 : u_T := fun k => match k with
  | 0 => ("EventRecorder$Recording", "off", "[Z", true)
  | 1 => ("EventRecorder$Recording", "limits", "[I", true)
  | 2 => ("EventRecorder$Recording", "phase", "I", false)
  | 3 => ("EventRecorder$Recording", "firstChunk", "I", false)
  | _ => ("EventRecorder$Recording", "lastChunk", "I", false)
def tyX5 : Nat → FieldType := fun k => match k with
  | 0 => .array .boolean
  | 1 => .array .int
  | 2 => .int
  | 3 => .int
  | _ => .int
set_option maxRecDepth 100000 in
theorem nX5 : ∀ a, a < 5 → ∀ b, b < 5 → a ≠ b → (TX5 a).2.1 ≠ (TX5 b).2.1 := by decide +kernel
set_option maxRecDepth 100000 in
theorem tyX5_ok : ∀ k, k < 5 → parseFieldDescriptor (TX5 k).2.2.1 = some (tyX5 k) := by decide +kernel
def RX6 : String := "EventRecorder$StringTable"
def TX6 : u_T := fun k => match k with
  | 0 => ("EventRecorder$StringTable", "characters", "[C", true)
  | 1 => ("EventRecorder$StringTable", "lengths", "[I", true)
  | _ => ("EventRecorder$StringTable", "used", "I", false)
def tyX6 : Nat → FieldType := fun k => match k with
  | 0 => .array .char
  | 1 => .array .int
  | _ => .int
set_option maxRecDepth 100000 in
theorem nX6 : ∀ a, a < 3 → ∀ b, b < 3 → a ≠ b → (TX6 a).2.1 ≠ (TX6 b).2.1 := by decide +kernel
set_option maxRecDepth 100000 in
theorem tyX6_ok : ∀ k, k < 3 → parseFieldDescriptor (TX6 k).2.2.1 = some (tyX6 k) := by decide +kernel
def RX7 : String := "EventRecorder$Text"
def TX7 : u_T := fun k => match k with
  | 0 => ("EventRecorder$Text", "characters", "[C", true)
  | _ => ("EventRecorder$Text", "length", "I", false)
def tyX7 : Nat → FieldType := fun k => match k with
  | 0 => .array .char
  | _ => .int
set_option maxRecDepth 100000 in
theorem nX7 : ∀ a, a < 2 → ∀ b, b < 2 → a ≠ b → (TX7 a).2.1 ≠ (TX7 b).2.1 := by decide +kernel
set_option maxRecDepth 100000 in
theorem tyX7_ok : ∀ k, k < 2 → parseFieldDescriptor (TX7 k).2.2.1 = some (tyX7 k) := by decide +kernel
def RX8 : String := "EventRecorder"
def TX8 : u_T := fun k => match k with
  | 0 => ("EventRecorder", "size", "I", true)
  | 1 => ("EventRecorder", "text", "LEventRecorder$Text;", true)
  | 2 => ("EventRecorder", "strings", "LEventRecorder$StringTable;", true)
  | 3 => ("EventRecorder", "threads", "[LEventRecorder$EventThread;", true)
  | 4 => ("EventRecorder", "typeInts", "[I", true)
  | 5 => ("EventRecorder", "typeStrings", "[Z", true)
  | 6 => ("EventRecorder", "typeCount", "I", false)
  | 7 => ("EventRecorder", "recordings", "[LEventRecorder$Recording;", true)
  | 8 => ("EventRecorder", "recordingCount", "I", false)
  | 9 => ("EventRecorder", "shared", "LEventRecorder$Pool;", true)
  | 10 => ("EventRecorder", "chunks", "LEventRecorder$Chunks;", true)
  | 11 => ("EventRecorder", "payload", "LEventRecorder$ByteRow;", true)
  | 12 => ("EventRecorder", "written", "LEventRecorder$ByteRow;", true)
  | _ => ("EventRecorder", "now", "I", false)
def tyX8 : Nat → FieldType := fun k => match k with
  | 0 => .int
  | 1 => .object "EventRecorder$Text"
  | 2 => .object "EventRecorder$StringTable"
  | 3 => .array (.object "EventRecorder$EventThread")
  | 4 => .array .int
  | 5 => .array .boolean
  | 6 => .int
  | 7 => .array (.object "EventRecorder$Recording")
  | 8 => .int
  | 9 => .object "EventRecorder$Pool"
  | 10 => .object "EventRecorder$Chunks"
  | 11 => .object "EventRecorder$ByteRow"
  | 12 => .object "EventRecorder$ByteRow"
  | _ => .int
set_option maxRecDepth 100000 in
theorem nX8 : ∀ a, a < 14 → ∀ b, b < 14 → a ≠ b → (TX8 a).2.1 ≠ (TX8 b).2.1 := by decide +kernel
set_option maxRecDepth 100000 in
theorem tyX8_ok : ∀ k, k < 14 → parseFieldDescriptor (TX8 k).2.2.1 = some (tyX8 k) := by decide +kernel
def RX9 : String := "EventRecorderModel"
def TX9 : u_T := fun k => match k with
  | 0 => ("EventRecorderModel", "size", "I", true)
  | 1 => ("EventRecorderModel", "pool", "I", true)
  | 2 => ("EventRecorderModel", "keep", "I", true)
  | 3 => ("EventRecorderModel", "now", "I", false)
  | 4 => ("EventRecorderModel", "thrown", "I", false)
  | 5 => ("EventRecorderModel", "typed", "I", false)
  | 6 => ("EventRecorderModel", "text", "[C", true)
  | 7 => ("EventRecorderModel", "types", "I", false)
  | 8 => ("EventRecorderModel", "ints", "[I", true)
  | 9 => ("EventRecorderModel", "hasString", "[Z", true)
  | 10 => ("EventRecorderModel", "strings", "I", false)
  | 11 => ("EventRecorderModel", "chars", "[C", true)
  | 12 => ("EventRecorderModel", "length", "[I", true)
  | 13 => ("EventRecorderModel", "begun", "[I", true)
  | 14 => ("EventRecorderModel", "ticks", "[I", true)
  | 15 => ("EventRecorderModel", "bytes", "[I", true)
  | 16 => ("EventRecorderModel", "many", "[I", true)
  | 17 => ("EventRecorderModel", "events", "[I", true)
  | 18 => ("EventRecorderModel", "full", "I", false)
  | 19 => ("EventRecorderModel", "kept", "I", false)
  | 20 => ("EventRecorderModel", "evicted", "I", false)
  | 21 => ("EventRecorderModel", "data", "[I", true)
  | 22 => ("EventRecorderModel", "dataLength", "[I", true)
  | 23 => ("EventRecorderModel", "number", "[I", true)
  | 24 => ("EventRecorderModel", "opened", "[I", true)
  | 25 => ("EventRecorderModel", "eventCount", "[I", true)
  | 26 => ("EventRecorderModel", "used", "[I", true)
  | 27 => ("EventRecorderModel", "lostHere", "[I", true)
  | 28 => ("EventRecorderModel", "lostAll", "[I", true)
  | 29 => ("EventRecorderModel", "recordings", "I", false)
  | 30 => ("EventRecorderModel", "state", "[I", true)
  | 31 => ("EventRecorderModel", "off", "[Z", true)
  | 32 => ("EventRecorderModel", "threshold", "[I", true)
  | 33 => ("EventRecorderModel", "from", "[I", true)
  | 34 => ("EventRecorderModel", "upTo", "[I", true)
  | 35 => ("EventRecorderModel", "written", "[I", true)
  | 36 => ("EventRecorderModel", "writtenLength", "I", false)
  | 37 => ("EventRecorderModel", "event", "[I", true)
  | _ => ("EventRecorderModel", "eventLength", "I", false)
def tyX9 : Nat → FieldType := fun k => match k with
  | 0 => .int
  | 1 => .int
  | 2 => .int
  | 3 => .int
  | 4 => .int
  | 5 => .int
  | 6 => .array .char
  | 7 => .int
  | 8 => .array .int
  | 9 => .array .boolean
  | 10 => .int
  | 11 => .array .char
  | 12 => .array .int
  | 13 => .array .int
  | 14 => .array .int
  | 15 => .array .int
  | 16 => .array .int
  | 17 => .array .int
  | 18 => .int
  | 19 => .int
  | 20 => .int
  | 21 => .array .int
  | 22 => .array .int
  | 23 => .array .int
  | 24 => .array .int
  | 25 => .array .int
  | 26 => .array .int
  | 27 => .array .int
  | 28 => .array .int
  | 29 => .int
  | 30 => .array .int
  | 31 => .array .boolean
  | 32 => .array .int
  | 33 => .array .int
  | 34 => .array .int
  | 35 => .array .int
  | 36 => .int
  | 37 => .array .int
  | _ => .int
set_option maxRecDepth 100000 in
theorem nX9 : ∀ a, a < 39 → ∀ b, b < 39 → a ≠ b → (TX9 a).2.1 ≠ (TX9 b).2.1 := by decide +kernel
set_option maxRecDepth 100000 in
theorem tyX9_ok : ∀ k, k < 39 → parseFieldDescriptor (TX9 k).2.2.1 = some (tyX9 k) := by decide +kernel
def RL : String := "EventRecorderLaw"
abbrev cX8_init : ByteArray := prog_1_method_1_code
def yX8_init : MethodName := ⟨RX8, "<init>", "(III)V"⟩
abbrev cX8_write : ByteArray := prog_1_method_2_code
def yX8_write : MethodName := ⟨RX8, "write", "(C)Z"⟩
abbrev cX8_advance : ByteArray := prog_1_method_3_code
def yX8_advance : MethodName := ⟨RX8, "advance", "(I)I"⟩
abbrev cX8_type : ByteArray := prog_1_method_4_code
def yX8_type : MethodName := ⟨RX8, "type", "(IZ)I"⟩
abbrev cX8_begin : ByteArray := prog_1_method_5_code
def yX8_begin : MethodName := ⟨RX8, "begin", "(I)Z"⟩
abbrev cX8_commit : ByteArray := prog_1_method_6_code
def yX8_commit : MethodName := ⟨RX8, "commit", "(IIIII)I"⟩
abbrev cX8_flush : ByteArray := prog_1_method_7_code
def yX8_flush : MethodName := ⟨RX8, "flush", "()I"⟩
abbrev cX8_record : ByteArray := prog_1_method_8_code
def yX8_record : MethodName := ⟨RX8, "record", "()I"⟩
abbrev cX8_settings : ByteArray := prog_1_method_9_code
def yX8_settings : MethodName := ⟨RX8, "settings", "(I)I"⟩
abbrev cX8_profile : ByteArray := prog_1_method_10_code
def yX8_profile : MethodName := ⟨RX8, "profile", "()I"⟩
abbrev cX8_start : ByteArray := prog_1_method_11_code
def yX8_start : MethodName := ⟨RX8, "start", "(I)I"⟩
abbrev cX8_stop : ByteArray := prog_1_method_12_code
def yX8_stop : MethodName := ⟨RX8, "stop", "(I)I"⟩
abbrev cX8_close : ByteArray := prog_1_method_13_code
def yX8_close : MethodName := ⟨RX8, "close", "(I)Z"⟩
abbrev cX8_dump : ByteArray := prog_1_method_14_code
def yX8_dump : MethodName := ⟨RX8, "dump", "(I)I"⟩
abbrev cX8_output : ByteArray := prog_1_method_15_code
def yX8_output : MethodName := ⟨RX8, "output", "(I)I"⟩
abbrev cX8_state : ByteArray := prog_1_method_16_code
def yX8_state : MethodName := ⟨RX8, "state", "(I)I"⟩
abbrev cX8_threshold : ByteArray := prog_1_method_17_code
def yX8_threshold : MethodName := ⟨RX8, "threshold", "(II)I"⟩
abbrev cX8_buffered : ByteArray := prog_1_method_18_code
def yX8_buffered : MethodName := ⟨RX8, "buffered", "(I)I"⟩
abbrev cX8_count : ByteArray := prog_1_method_19_code
def yX8_count : MethodName := ⟨RX8, "count", "(I)I"⟩
abbrev cX8_lost : ByteArray := prog_1_method_20_code
def yX8_lost : MethodName := ⟨RX8, "lost", "(I)I"⟩
abbrev cX8_isThread : ByteArray := prog_1_method_21_code
def yX8_isThread : MethodName := ⟨RX8, "isThread", "(I)Z"⟩
abbrev cX8_isType : ByteArray := prog_1_method_22_code
def yX8_isType : MethodName := ⟨RX8, "isType", "(I)Z"⟩
abbrev cX8_isRecording : ByteArray := prog_1_method_23_code
def yX8_isRecording : MethodName := ⟨RX8, "isRecording", "(I)Z"⟩
abbrev cX8_endEvent : ByteArray := prog_1_method_24_code
def yX8_endEvent : MethodName := ⟨RX8, "endEvent", "(LEventRecorder$EventThread;IIII)I"⟩
abbrev cX8_interestIn : ByteArray := prog_1_method_25_code
def yX8_interestIn : MethodName := ⟨RX8, "interestIn", "(II)I"⟩
abbrev cX8_compose : ByteArray := prog_1_method_26_code
def yX8_compose : MethodName := ⟨RX8, "compose", "(IIIIII)V"⟩
abbrev cX8_zigzag : ByteArray := prog_1_method_27_code
def yX8_zigzag : MethodName := ⟨RX8, "zigzag", "(I)I"⟩
abbrev cX8_makeRoom : ByteArray := prog_1_method_28_code
def yX8_makeRoom : MethodName := ⟨RX8, "makeRoom", "(LEventRecorder$ByteRow;)Z"⟩
abbrev cX8_rotate : ByteArray := prog_1_method_29_code
def yX8_rotate : MethodName := ⟨RX8, "rotate", "()V"⟩
abbrev cX8_endRecording : ByteArray := prog_1_method_30_code
def yX8_endRecording : MethodName := ⟨RX8, "endRecording", "(LEventRecorder$Recording;)I"⟩
abbrev cX8_countItems : ByteArray := prog_1_method_31_code
def yX8_countItems : MethodName := ⟨RX8, "countItems", "(II)I"⟩
abbrev cX8_itemEnd : ByteArray := prog_1_method_32_code
def yX8_itemEnd : MethodName := ⟨RX8, "itemEnd", "(I)I"⟩
abbrev cX8_applyItems : ByteArray := prog_1_method_33_code
def yX8_applyItems : MethodName := ⟨RX8, "applyItems", "(LEventRecorder$Recording;II)V"⟩
abbrev cX8_applyItem : ByteArray := prog_1_method_34_code
def yX8_applyItem : MethodName := ⟨RX8, "applyItem", "(LEventRecorder$Recording;II)V"⟩
abbrev cX8_carryOutPart : ByteArray := prog_1_method_35_code
def yX8_carryOutPart : MethodName := ⟨RX8, "carryOutPart", "(II)Z"⟩
abbrev cX9_init : ByteArray := prog_11_method_1_code
def yX9_init : MethodName := ⟨RX9, "<init>", "(III)V"⟩
abbrev cX9_thrown : ByteArray := prog_11_method_2_code
def yX9_thrown : MethodName := ⟨RX9, "thrown", "()I"⟩
abbrev cX9_isThread : ByteArray := prog_11_method_3_code
def yX9_isThread : MethodName := ⟨RX9, "isThread", "(I)Z"⟩
abbrev cX9_isRecording : ByteArray := prog_11_method_4_code
def yX9_isRecording : MethodName := ⟨RX9, "isRecording", "(I)Z"⟩
abbrev cX9_write : ByteArray := prog_11_method_5_code
def yX9_write : MethodName := ⟨RX9, "write", "(C)Z"⟩
abbrev cX9_advance : ByteArray := prog_11_method_6_code
def yX9_advance : MethodName := ⟨RX9, "advance", "(I)I"⟩
abbrev cX9_type : ByteArray := prog_11_method_7_code
def yX9_type : MethodName := ⟨RX9, "type", "(IZ)I"⟩
abbrev cX9_begin : ByteArray := prog_11_method_8_code
def yX9_begin : MethodName := ⟨RX9, "begin", "(I)Z"⟩
abbrev cX9_variable : ByteArray := prog_11_method_9_code
def yX9_variable : MethodName := ⟨RX9, "variable", "(I)V"⟩
abbrev cX9_width : ByteArray := prog_11_method_10_code
def yX9_width : MethodName := ⟨RX9, "width", "(I)I"⟩
abbrev cX9_zigzag : ByteArray := prog_11_method_11_code
def yX9_zigzag : MethodName := ⟨RX9, "zigzag", "(I)I"⟩
abbrev cX9_stringOf : ByteArray := prog_11_method_12_code
def yX9_stringOf : MethodName := ⟨RX9, "stringOf", "(I)I"⟩
abbrev cX9_unwanted : ByteArray := prog_11_method_13_code
def yX9_unwanted : MethodName := ⟨RX9, "unwanted", "(II)I"⟩
abbrev cX9_commit : ByteArray := prog_11_method_14_code
def yX9_commit : MethodName := ⟨RX9, "commit", "(IIIII)I"⟩
abbrev cX9_keepString : ByteArray := prog_11_method_15_code
def yX9_keepString : MethodName := ⟨RX9, "keepString", "(II)V"⟩
abbrev cX9_move : ByteArray := prog_11_method_16_code
def yX9_move : MethodName := ⟨RX9, "move", "(II)V"⟩
abbrev cX9_drain : ByteArray := prog_11_method_17_code
def yX9_drain : MethodName := ⟨RX9, "drain", "(I)I"⟩
abbrev cX9_put : ByteArray := prog_11_method_18_code
def yX9_put : MethodName := ⟨RX9, "put", "(I)V"⟩
abbrev cX9_loss : ByteArray := prog_11_method_19_code
def yX9_loss : MethodName := ⟨RX9, "loss", "(I)V"⟩
abbrev cX9_copyChunk : ByteArray := prog_11_method_20_code
def yX9_copyChunk : MethodName := ⟨RX9, "copyChunk", "(II)V"⟩
abbrev cX9_rotate : ByteArray := prog_11_method_21_code
def yX9_rotate : MethodName := ⟨RX9, "rotate", "()V"⟩
abbrev cX9_flush : ByteArray := prog_11_method_22_code
def yX9_flush : MethodName := ⟨RX9, "flush", "()I"⟩
abbrev cX9_digit : ByteArray := prog_11_method_23_code
def yX9_digit : MethodName := ⟨RX9, "digit", "(II)Z"⟩
abbrev cX9_itemEnd : ByteArray := prog_11_method_24_code
def yX9_itemEnd : MethodName := ⟨RX9, "itemEnd", "(II)I"⟩
abbrev cX9_items : ByteArray := prog_11_method_25_code
def yX9_items : MethodName := ⟨RX9, "items", "(II)I"⟩
abbrev cX9_set : ByteArray := prog_11_method_26_code
def yX9_set : MethodName := ⟨RX9, "set", "(III)V"⟩
abbrev cX9_record : ByteArray := prog_11_method_27_code
def yX9_record : MethodName := ⟨RX9, "record", "()I"⟩
abbrev cX9_settings : ByteArray := prog_11_method_28_code
def yX9_settings : MethodName := ⟨RX9, "settings", "(I)I"⟩
abbrev cX9_profile : ByteArray := prog_11_method_29_code
def yX9_profile : MethodName := ⟨RX9, "profile", "()I"⟩
abbrev cX9_start : ByteArray := prog_11_method_30_code
def yX9_start : MethodName := ⟨RX9, "start", "(I)I"⟩
abbrev cX9_end : ByteArray := prog_11_method_31_code
def yX9_end : MethodName := ⟨RX9, "end", "(I)I"⟩
abbrev cX9_stop : ByteArray := prog_11_method_32_code
def yX9_stop : MethodName := ⟨RX9, "stop", "(I)I"⟩
abbrev cX9_close : ByteArray := prog_11_method_33_code
def yX9_close : MethodName := ⟨RX9, "close", "(I)Z"⟩
abbrev cX9_out : ByteArray := prog_11_method_34_code
def yX9_out : MethodName := ⟨RX9, "out", "(I)V"⟩
abbrev cX9_outVariable : ByteArray := prog_11_method_35_code
def yX9_outVariable : MethodName := ⟨RX9, "outVariable", "(I)V"⟩
abbrev cX9_writeOut : ByteArray := prog_11_method_36_code
def yX9_writeOut : MethodName := ⟨RX9, "writeOut", "(I)V"⟩
abbrev cX9_dump : ByteArray := prog_11_method_37_code
def yX9_dump : MethodName := ⟨RX9, "dump", "(I)I"⟩
abbrev cX9_output : ByteArray := prog_11_method_38_code
def yX9_output : MethodName := ⟨RX9, "output", "(I)I"⟩
abbrev cX9_state : ByteArray := prog_11_method_39_code
def yX9_state : MethodName := ⟨RX9, "state", "(I)I"⟩
abbrev cX9_threshold : ByteArray := prog_11_method_40_code
def yX9_threshold : MethodName := ⟨RX9, "threshold", "(II)I"⟩
abbrev cX9_buffered : ByteArray := prog_11_method_41_code
def yX9_buffered : MethodName := ⟨RX9, "buffered", "(I)I"⟩
abbrev cX9_count : ByteArray := prog_11_method_42_code
def yX9_count : MethodName := ⟨RX9, "count", "(I)I"⟩
abbrev cX9_lost : ByteArray := prog_11_method_43_code
def yX9_lost : MethodName := ⟨RX9, "lost", "(I)I"⟩
abbrev cX0_init : ByteArray := prog_2_method_1_code
def yX0_init : MethodName := ⟨RX0, "<init>", "(I)V"⟩
abbrev cX0_length : ByteArray := prog_2_method_2_code
def yX0_length : MethodName := ⟨RX0, "length", "()I"⟩
abbrev cX0_room : ByteArray := prog_2_method_3_code
def yX0_room : MethodName := ⟨RX0, "room", "()I"⟩
abbrev cX0_at : ByteArray := prog_2_method_4_code
def yX0_at : MethodName := ⟨RX0, "at", "(I)I"⟩
abbrev cX0_clear : ByteArray := prog_2_method_5_code
def yX0_clear : MethodName := ⟨RX0, "clear", "()V"⟩
abbrev cX0_add : ByteArray := prog_2_method_6_code
def yX0_add : MethodName := ⟨RX0, "add", "(I)V"⟩
abbrev cX0_addVariable : ByteArray := prog_2_method_7_code
def yX0_addVariable : MethodName := ⟨RX0, "addVariable", "(I)V"⟩
abbrev cX0_addRow : ByteArray := prog_2_method_8_code
def yX0_addRow : MethodName := ⟨RX0, "addRow", "(LEventRecorder$ByteRow;)V"⟩
abbrev cX0_moveTo : ByteArray := prog_2_method_9_code
def yX0_moveTo : MethodName := ⟨RX0, "moveTo", "(LEventRecorder$ByteRow;)V"⟩
abbrev cX0_variableLength : ByteArray := prog_2_method_10_code
def yX0_variableLength : MethodName := ⟨RX0, "variableLength", "(I)I"⟩
abbrev cX1_init : ByteArray := prog_3_method_1_code
def yX1_init : MethodName := ⟨RX1, "<init>", "(I)V"⟩
abbrev cX1_openAs : ByteArray := prog_3_method_2_code
def yX1_openAs : MethodName := ⟨RX1, "openAs", "(II)V"⟩
abbrev cX1_number : ByteArray := prog_3_method_3_code
def yX1_number : MethodName := ⟨RX1, "number", "()I"⟩
abbrev cX1_body : ByteArray := prog_3_method_4_code
def yX1_body : MethodName := ⟨RX1, "body", "()LEventRecorder$ByteRow;"⟩
abbrev cX1_countEvent : ByteArray := prog_3_method_5_code
def yX1_countEvent : MethodName := ⟨RX1, "countEvent", "()V"⟩
abbrev cX1_use : ByteArray := prog_3_method_6_code
def yX1_use : MethodName := ⟨RX1, "use", "(I)V"⟩
abbrev cX1_addLoss : ByteArray := prog_3_method_7_code
def yX1_addLoss : MethodName := ⟨RX1, "addLoss", "(II)V"⟩
abbrev cX1_writeTo : ByteArray := prog_3_method_8_code
def yX1_writeTo : MethodName := ⟨RX1, "writeTo", "(LEventRecorder$ByteRow;LEventRecorder$StringTable;)V"⟩
abbrev cX1_countStrings : ByteArray := prog_3_method_9_code
def yX1_countStrings : MethodName := ⟨RX1, "countStrings", "()I"⟩
abbrev cX2_init : ByteArray := prog_4_method_1_code
def yX2_init : MethodName := ⟨RX2, "<init>", "(II)V"⟩
abbrev cX2_open : ByteArray := prog_4_method_2_code
def yX2_open : MethodName := ⟨RX2, "open", "()LEventRecorder$Chunk;"⟩
abbrev cX2_kept : ByteArray := prog_4_method_3_code
def yX2_kept : MethodName := ⟨RX2, "kept", "()I"⟩
abbrev cX2_evicted : ByteArray := prog_4_method_4_code
def yX2_evicted : MethodName := ⟨RX2, "evicted", "()I"⟩
abbrev cX2_finishOpen : ByteArray := prog_4_method_5_code
def yX2_finishOpen : MethodName := ⟨RX2, "finishOpen", "(I)V"⟩
abbrev cX2_writeKept : ByteArray := prog_4_method_6_code
def yX2_writeKept : MethodName := ⟨RX2, "writeKept", "(LEventRecorder$ByteRow;LEventRecorder$StringTable;II)V"⟩
abbrev cX2_evictOldest : ByteArray := prog_4_method_7_code
def yX2_evictOldest : MethodName := ⟨RX2, "evictOldest", "()V"⟩
abbrev cX3_init : ByteArray := prog_5_method_1_code
def yX3_init : MethodName := ⟨RX3, "<init>", "(I)V"⟩
abbrev cX3_beginAt : ByteArray := prog_5_method_2_code
def yX3_beginAt : MethodName := ⟨RX3, "beginAt", "(I)Z"⟩
abbrev cX3_hasBegun : ByteArray := prog_5_method_3_code
def yX3_hasBegun : MethodName := ⟨RX3, "hasBegun", "()Z"⟩
abbrev cX3_endLatest : ByteArray := prog_5_method_4_code
def yX3_endLatest : MethodName := ⟨RX3, "endLatest", "()I"⟩
abbrev cX3_buffer : ByteArray := prog_5_method_5_code
def yX3_buffer : MethodName := ⟨RX3, "buffer", "()LEventRecorder$ByteRow;"⟩
abbrev cX3_lose : ByteArray := prog_5_method_6_code
def yX3_lose : MethodName := ⟨RX3, "lose", "()V"⟩
abbrev cX3_takeLostInChunk : ByteArray := prog_5_method_7_code
def yX3_takeLostInChunk : MethodName := ⟨RX3, "takeLostInChunk", "()I"⟩
abbrev cX3_lostInAll : ByteArray := prog_5_method_8_code
def yX3_lostInAll : MethodName := ⟨RX3, "lostInAll", "()I"⟩
abbrev cX4_init : ByteArray := prog_6_method_1_code
def yX4_init : MethodName := ⟨RX4, "<init>", "(II)V"⟩
abbrev cX4_full : ByteArray := prog_6_method_2_code
def yX4_full : MethodName := ⟨RX4, "full", "()I"⟩
abbrev cX4_takeOver : ByteArray := prog_6_method_3_code
def yX4_takeOver : MethodName := ⟨RX4, "takeOver", "(LEventRecorder$ByteRow;)Z"⟩
abbrev cX4_moveFirstTo : ByteArray := prog_6_method_4_code
def yX4_moveFirstTo : MethodName := ⟨RX4, "moveFirstTo", "(LEventRecorder$ByteRow;)I"⟩
abbrev cX5_init : ByteArray := prog_7_method_1_code
def yX5_init : MethodName := ⟨RX5, "<init>", "()V"⟩
abbrev cX5_phase : ByteArray := prog_7_method_2_code
def yX5_phase : MethodName := ⟨RX5, "phase", "()I"⟩
abbrev cX5_is : ByteArray := prog_7_method_3_code
def yX5_is : MethodName := ⟨RX5, "is", "(I)Z"⟩
abbrev cX5_runFrom : ByteArray := prog_7_method_4_code
def yX5_runFrom : MethodName := ⟨RX5, "runFrom", "(I)V"⟩
abbrev cX5_endWith : ByteArray := prog_7_method_5_code
def yX5_endWith : MethodName := ⟨RX5, "endWith", "(I)V"⟩
abbrev cX5_shut : ByteArray := prog_7_method_6_code
def yX5_shut : MethodName := ⟨RX5, "shut", "()V"⟩
abbrev cX5_firstChunk : ByteArray := prog_7_method_7_code
def yX5_firstChunk : MethodName := ⟨RX5, "firstChunk", "()I"⟩
abbrev cX5_lastChunk : ByteArray := prog_7_method_8_code
def yX5_lastChunk : MethodName := ⟨RX5, "lastChunk", "()I"⟩
abbrev cX5_isOn : ByteArray := prog_7_method_9_code
def yX5_isOn : MethodName := ⟨RX5, "isOn", "(I)Z"⟩
abbrev cX5_turn : ByteArray := prog_7_method_10_code
def yX5_turn : MethodName := ⟨RX5, "turn", "(IZ)V"⟩
abbrev cX5_leastDuration : ByteArray := prog_7_method_11_code
def yX5_leastDuration : MethodName := ⟨RX5, "leastDuration", "(I)I"⟩
abbrev cX5_limit : ByteArray := prog_7_method_12_code
def yX5_limit : MethodName := ⟨RX5, "limit", "(II)V"⟩
abbrev cX6_init : ByteArray := prog_8_method_1_code
def yX6_init : MethodName := ⟨RX6, "<init>", "()V"⟩
abbrev cX6_used : ByteArray := prog_8_method_2_code
def yX6_used : MethodName := ⟨RX6, "used", "()I"⟩
abbrev cX6_numberFor : ByteArray := prog_8_method_3_code
def yX6_numberFor : MethodName := ⟨RX6, "numberFor", "(LEventRecorder$Text;)I"⟩
abbrev cX6_keep : ByteArray := prog_8_method_4_code
def yX6_keep : MethodName := ⟨RX6, "keep", "(ILEventRecorder$Text;)V"⟩
abbrev cX6_writeTo : ByteArray := prog_8_method_5_code
def yX6_writeTo : MethodName := ⟨RX6, "writeTo", "(LEventRecorder$ByteRow;I)V"⟩
abbrev cX6_isSame : ByteArray := prog_8_method_6_code
def yX6_isSame : MethodName := ⟨RX6, "isSame", "(ILEventRecorder$Text;)Z"⟩
abbrev cX6_usedLength : ByteArray := prog_8_method_7_code
def yX6_usedLength : MethodName := ⟨RX6, "usedLength", "(LEventRecorder$Text;)I"⟩
abbrev cX7_init : ByteArray := prog_9_method_1_code
def yX7_init : MethodName := ⟨RX7, "<init>", "()V"⟩
abbrev cX7_append : ByteArray := prog_9_method_2_code
def yX7_append : MethodName := ⟨RX7, "append", "(C)Z"⟩
abbrev cX7_length : ByteArray := prog_9_method_3_code
def yX7_length : MethodName := ⟨RX7, "length", "()I"⟩
abbrev cX7_at : ByteArray := prog_9_method_4_code
def yX7_at : MethodName := ⟨RX7, "at", "(I)C"⟩
abbrev cX7_digitAt : ByteArray := prog_9_method_5_code
def yX7_digitAt : MethodName := ⟨RX7, "digitAt", "(I)I"⟩
abbrev cX7_clear : ByteArray := prog_9_method_6_code
def yX7_clear : MethodName := ⟨RX7, "clear", "()V"⟩
abbrev cL_cell : ByteArray := method_2_code
def yL_cell : MethodName := ⟨RL, "cell", "([II)I"⟩
abbrev cL_type : ByteArray := method_3_code
def yL_type : MethodName := ⟨RL, "type", "(LEventRecorder;IZ[J)I"⟩
abbrev cL_record : ByteArray := method_4_code
def yL_record : MethodName := ⟨RL, "record", "(LEventRecorder;[J)I"⟩
abbrev cL_settings : ByteArray := method_5_code
def yL_settings : MethodName := ⟨RL, "settings", "(LEventRecorder;I[J)I"⟩
abbrev cL_start : ByteArray := method_6_code
def yL_start : MethodName := ⟨RL, "start", "(LEventRecorder;I[J)I"⟩
abbrev cL_stop : ByteArray := method_7_code
def yL_stop : MethodName := ⟨RL, "stop", "(LEventRecorder;I[J)I"⟩
abbrev cL_close : ByteArray := method_8_code
def yL_close : MethodName := ⟨RL, "close", "(LEventRecorder;I[J)I"⟩
abbrev cL_dump : ByteArray := method_9_code
def yL_dump : MethodName := ⟨RL, "dump", "(LEventRecorder;I[J)I"⟩
abbrev cL_law : ByteArray := code
def yL_law : MethodName := ⟨RL, "law", "([I)Z"⟩
abbrev vwCl : List vw_C := [(RX0, TX0, 2), (RX1, TX1, 5), (RX2, TX2, 3), (RX3, TX3, 5), (RX4, TX4, 3), (RX5, TX5, 5), (RX6, TX6, 3), (RX7, TX7, 2), (RX8, TX8, 14), (RX9, TX9, 39)]
def lw_good : List Cond := lw_tbl.filter goodWord
theorem mw_tw {w : Cond} (i : Nat) (h : tables_1[i]? = some w) (hg : goodWord w = true) : w ∈ lw_good := List.mem_filter.mpr ⟨List.mem_append_right _ (List.mem_of_getElem? h), hg⟩
theorem mw_tp {w : Cond} (i : Nat) (h : (k2_sels lw_privs)[i]? = some w) (hg : goodWord w = true) : w ∈ lw_good := List.mem_filter.mpr ⟨List.mem_append_left _ (List.mem_of_getElem? h), hg⟩
theorem mw_goodw {w : Cond} (h : w ∈ lw_good) : (w.onTables && w.keeps) = true ∨ ∃ ty, w = .arrayClass ty := good_of_word (List.mem_filter.mp h).2
theorem mw_gI {c : Cond} (h : c ∈ lw_good) : GoodIn lw_good (c :: lw_good) := fun w hw => (List.mem_cons.mp hw).elim (fun e => by rw [e]; exact ⟨h, mw_goodw h⟩) (fun hw => ⟨hw, mw_goodw hw⟩)
theorem mw_gV {own C : String} {idx : Nat} {y : MethodName} {c : Cond} (h1 : Cond.methodLink own idx y ∈ lw_good) (h2 : Cond.instanceMethod y ∈ lw_good) (h3 : Cond.selects C y y ∈ lw_good) (h4 : Cond.initialized C ∈ lw_good) (h : c ∈ lw_good) : GoodIn lw_good (wsV own idx C y (c :: lw_good)) := fun w hw => by
  rcases List.mem_append.mp hw with hw | hw
  · have hm : w ∈ lw_good := by
      rcases List.mem_cons.mp hw with e | hw
      · rw [e]; exact h1
      rcases List.mem_cons.mp hw with e | hw
      · rw [e]; exact h2
      rcases List.mem_cons.mp hw with e | hw
      · rw [e]; exact h3
      rcases List.mem_cons.mp hw with e | hw
      · rw [e]; exact h4
      exact absurd hw List.not_mem_nil
    exact ⟨hm, mw_goodw hm⟩
  · exact mw_gI h w hw
theorem mw_gS {own : String} {idx : Nat} {y : MethodName} {c : Cond} (h1 : Cond.methodLink own idx y ∈ lw_good) (h2 : Cond.static y ∈ lw_good) (h4 : Cond.initialized own ∈ lw_good) (h : c ∈ lw_good) : GoodIn lw_good (wsS own idx y (c :: lw_good)) := fun w hw => by
  rcases List.mem_append.mp hw with hw | hw
  · have hm : w ∈ lw_good := by
      rcases List.mem_cons.mp hw with e | hw
      · rw [e]; exact h1
      rcases List.mem_cons.mp hw with e | hw
      · rw [e]; exact h2
      rcases List.mem_cons.mp hw with e | hw
      · rw [e]; exact h4
      exact absurd hw List.not_mem_nil
    exact ⟨hm, mw_goodw hm⟩
  · exact mw_gI h w hw
set_option maxRecDepth 100000 in
theorem inX0 : ∀ w ∈ u_ws RX0 TX0 2, w ∈ lw_good := fun w h => List.mem_filter.mpr ⟨(show ∀ w ∈ u_ws RX0 TX0 2, w ∈ lw_tbl from by decide +kernel) w h, List.all_eq_true.mp (show (u_ws RX0 TX0 2).all goodWord = true from by decide +kernel) w h⟩
set_option maxRecDepth 100000 in
theorem inX1 : ∀ w ∈ u_ws RX1 TX1 5, w ∈ lw_good := fun w h => List.mem_filter.mpr ⟨(show ∀ w ∈ u_ws RX1 TX1 5, w ∈ lw_tbl from by decide +kernel) w h, List.all_eq_true.mp (show (u_ws RX1 TX1 5).all goodWord = true from by decide +kernel) w h⟩
set_option maxRecDepth 100000 in
theorem inX2 : ∀ w ∈ u_ws RX2 TX2 3, w ∈ lw_good := fun w h => List.mem_filter.mpr ⟨(show ∀ w ∈ u_ws RX2 TX2 3, w ∈ lw_tbl from by decide +kernel) w h, List.all_eq_true.mp (show (u_ws RX2 TX2 3).all goodWord = true from by decide +kernel) w h⟩
set_option maxRecDepth 100000 in
theorem inX3 : ∀ w ∈ u_ws RX3 TX3 5, w ∈ lw_good := fun w h => List.mem_filter.mpr ⟨(show ∀ w ∈ u_ws RX3 TX3 5, w ∈ lw_tbl from by decide +kernel) w h, List.all_eq_true.mp (show (u_ws RX3 TX3 5).all goodWord = true from by decide +kernel) w h⟩
set_option maxRecDepth 100000 in
theorem inX4 : ∀ w ∈ u_ws RX4 TX4 3, w ∈ lw_good := fun w h => List.mem_filter.mpr ⟨(show ∀ w ∈ u_ws RX4 TX4 3, w ∈ lw_tbl from by decide +kernel) w h, List.all_eq_true.mp (show (u_ws RX4 TX4 3).all goodWord = true from by decide +kernel) w h⟩
set_option maxRecDepth 100000 in
theorem inX5 : ∀ w ∈ u_ws RX5 TX5 5, w ∈ lw_good := fun w h => List.mem_filter.mpr ⟨(show ∀ w ∈ u_ws RX5 TX5 5, w ∈ lw_tbl from by decide +kernel) w h, List.all_eq_true.mp (show (u_ws RX5 TX5 5).all goodWord = true from by decide +kernel) w h⟩
set_option maxRecDepth 100000 in
theorem inX6 : ∀ w ∈ u_ws RX6 TX6 3, w ∈ lw_good := fun w h => List.mem_filter.mpr ⟨(show ∀ w ∈ u_ws RX6 TX6 3, w ∈ lw_tbl from by decide +kernel) w h, List.all_eq_true.mp (show (u_ws RX6 TX6 3).all goodWord = true from by decide +kernel) w h⟩
set_option maxRecDepth 100000 in
theorem inX7 : ∀ w ∈ u_ws RX7 TX7 2, w ∈ lw_good := fun w h => List.mem_filter.mpr ⟨(show ∀ w ∈ u_ws RX7 TX7 2, w ∈ lw_tbl from by decide +kernel) w h, List.all_eq_true.mp (show (u_ws RX7 TX7 2).all goodWord = true from by decide +kernel) w h⟩
set_option maxRecDepth 100000 in
theorem inX8 : ∀ w ∈ u_ws RX8 TX8 14, w ∈ lw_good := fun w h => List.mem_filter.mpr ⟨(show ∀ w ∈ u_ws RX8 TX8 14, w ∈ lw_tbl from by decide +kernel) w h, List.all_eq_true.mp (show (u_ws RX8 TX8 14).all goodWord = true from by decide +kernel) w h⟩
set_option maxRecDepth 100000 in
theorem inX9 : ∀ w ∈ u_ws RX9 TX9 39, w ∈ lw_good := fun w h => List.mem_filter.mpr ⟨(show ∀ w ∈ u_ws RX9 TX9 39, w ∈ lw_tbl from by decide +kernel) w h, List.all_eq_true.mp (show (u_ws RX9 TX9 39).all goodWord = true from by decide +kernel) w h⟩
