set_option maxRecDepth 100000 in
theorem tp_0 : Cond.selects RX8 yX8_isType yX8_isType ∈ lw_good := mw_tp 0 (by decide +kernel) (by decide +kernel)
set_option maxRecDepth 100000 in
theorem tp_1 : Cond.selects RX8 yX8_endEvent yX8_endEvent ∈ lw_good := mw_tp 1 (by decide +kernel) (by decide +kernel)
set_option maxRecDepth 100000 in
theorem tp_2 : Cond.selects RX8 yX8_interestIn yX8_interestIn ∈ lw_good := mw_tp 2 (by decide +kernel) (by decide +kernel)
set_option maxRecDepth 100000 in
theorem tp_3 : Cond.selects RX6 yX6_isSame yX6_isSame ∈ lw_good := mw_tp 3 (by decide +kernel) (by decide +kernel)
set_option maxRecDepth 100000 in
theorem tp_4 : Cond.selects RX8 yX8_compose yX8_compose ∈ lw_good := mw_tp 4 (by decide +kernel) (by decide +kernel)
set_option maxRecDepth 100000 in
theorem tp_5 : Cond.selects RX8 yX8_makeRoom yX8_makeRoom ∈ lw_good := mw_tp 5 (by decide +kernel) (by decide +kernel)
set_option maxRecDepth 100000 in
theorem tp_6 : Cond.selects RX8 yX8_rotate yX8_rotate ∈ lw_good := mw_tp 6 (by decide +kernel) (by decide +kernel)
set_option maxRecDepth 100000 in
theorem tp_7 : Cond.selects RX2 yX2_evictOldest yX2_evictOldest ∈ lw_good := mw_tp 7 (by decide +kernel) (by decide +kernel)
set_option maxRecDepth 100000 in
theorem tp_8 : Cond.selects RX8 yX8_carryOutPart yX8_carryOutPart ∈ lw_good := mw_tp 8 (by decide +kernel) (by decide +kernel)
set_option maxRecDepth 100000 in
theorem tp_9 : Cond.selects RX8 yX8_isRecording yX8_isRecording ∈ lw_good := mw_tp 9 (by decide +kernel) (by decide +kernel)
set_option maxRecDepth 100000 in
theorem tp_10 : Cond.selects RX8 yX8_countItems yX8_countItems ∈ lw_good := mw_tp 10 (by decide +kernel) (by decide +kernel)
set_option maxRecDepth 100000 in
theorem tp_11 : Cond.selects RX8 yX8_itemEnd yX8_itemEnd ∈ lw_good := mw_tp 11 (by decide +kernel) (by decide +kernel)
set_option maxRecDepth 100000 in
theorem tp_12 : Cond.selects RX8 yX8_applyItems yX8_applyItems ∈ lw_good := mw_tp 12 (by decide +kernel) (by decide +kernel)
set_option maxRecDepth 100000 in
theorem tp_13 : Cond.selects RX8 yX8_applyItem yX8_applyItem ∈ lw_good := mw_tp 13 (by decide +kernel) (by decide +kernel)
set_option maxRecDepth 100000 in
theorem tp_15 : Cond.selects RX8 yX8_endRecording yX8_endRecording ∈ lw_good := mw_tp 15 (by decide +kernel) (by decide +kernel)
set_option maxRecDepth 100000 in
theorem tp_16 : Cond.selects RX1 yX1_countStrings yX1_countStrings ∈ lw_good := mw_tp 16 (by decide +kernel) (by decide +kernel)
set_option maxRecDepth 100000 in
theorem tp_17 : Cond.selects RX9 yX9_unwanted yX9_unwanted ∈ lw_good := mw_tp 17 (by decide +kernel) (by decide +kernel)
set_option maxRecDepth 100000 in
theorem tp_18 : Cond.selects RX9 yX9_stringOf yX9_stringOf ∈ lw_good := mw_tp 18 (by decide +kernel) (by decide +kernel)
set_option maxRecDepth 100000 in
theorem tp_19 : Cond.selects RX9 yX9_variable yX9_variable ∈ lw_good := mw_tp 19 (by decide +kernel) (by decide +kernel)
set_option maxRecDepth 100000 in
theorem tp_20 : Cond.selects RX9 yX9_keepString yX9_keepString ∈ lw_good := mw_tp 20 (by decide +kernel) (by decide +kernel)
set_option maxRecDepth 100000 in
theorem tp_21 : Cond.selects RX9 yX9_move yX9_move ∈ lw_good := mw_tp 21 (by decide +kernel) (by decide +kernel)
set_option maxRecDepth 100000 in
theorem tp_22 : Cond.selects RX9 yX9_drain yX9_drain ∈ lw_good := mw_tp 22 (by decide +kernel) (by decide +kernel)
set_option maxRecDepth 100000 in
theorem tp_23 : Cond.selects RX9 yX9_rotate yX9_rotate ∈ lw_good := mw_tp 23 (by decide +kernel) (by decide +kernel)
set_option maxRecDepth 100000 in
theorem tp_24 : Cond.selects RX9 yX9_loss yX9_loss ∈ lw_good := mw_tp 24 (by decide +kernel) (by decide +kernel)
set_option maxRecDepth 100000 in
theorem tp_25 : Cond.selects RX9 yX9_put yX9_put ∈ lw_good := mw_tp 25 (by decide +kernel) (by decide +kernel)
set_option maxRecDepth 100000 in
theorem tp_26 : Cond.selects RX9 yX9_copyChunk yX9_copyChunk ∈ lw_good := mw_tp 26 (by decide +kernel) (by decide +kernel)
set_option maxRecDepth 100000 in
theorem tp_27 : Cond.selects RX9 yX9_items yX9_items ∈ lw_good := mw_tp 27 (by decide +kernel) (by decide +kernel)
set_option maxRecDepth 100000 in
theorem tp_28 : Cond.selects RX9 yX9_itemEnd yX9_itemEnd ∈ lw_good := mw_tp 28 (by decide +kernel) (by decide +kernel)
set_option maxRecDepth 100000 in
theorem tp_29 : Cond.selects RX9 yX9_digit yX9_digit ∈ lw_good := mw_tp 29 (by decide +kernel) (by decide +kernel)
set_option maxRecDepth 100000 in
theorem tp_30 : Cond.selects RX9 yX9_isRecording yX9_isRecording ∈ lw_good := mw_tp 30 (by decide +kernel) (by decide +kernel)
set_option maxRecDepth 100000 in
theorem tp_31 : Cond.selects RX9 yX9_set yX9_set ∈ lw_good := mw_tp 31 (by decide +kernel) (by decide +kernel)
set_option maxRecDepth 100000 in
theorem tp_32 : Cond.selects RX9 yX9_end yX9_end ∈ lw_good := mw_tp 32 (by decide +kernel) (by decide +kernel)
set_option maxRecDepth 100000 in
theorem tp_33 : Cond.selects RX9 yX9_writeOut yX9_writeOut ∈ lw_good := mw_tp 33 (by decide +kernel) (by decide +kernel)
set_option maxRecDepth 100000 in
theorem tp_34 : Cond.selects RX9 yX9_out yX9_out ∈ lw_good := mw_tp 34 (by decide +kernel) (by decide +kernel)
set_option maxRecDepth 100000 in
theorem tp_35 : Cond.selects RX9 yX9_outVariable yX9_outVariable ∈ lw_good := mw_tp 35 (by decide +kernel) (by decide +kernel)
set_option maxRecDepth 100000 in
theorem tw_1 : Cond.initialized RX8 ∈ lw_good := mw_tw 1 (by decide +kernel) (by decide +kernel)
set_option maxRecDepth 100000 in
theorem tw_2 : Cond.initialized "java/lang/Math" ∈ lw_good := mw_tw 2 (by decide +kernel) (by decide +kernel)
set_option maxRecDepth 100000 in
theorem tw_3 : Cond.initialized RX7 ∈ lw_good := mw_tw 3 (by decide +kernel) (by decide +kernel)
set_option maxRecDepth 100000 in
theorem tw_4 : Cond.initialized RX6 ∈ lw_good := mw_tw 4 (by decide +kernel) (by decide +kernel)
set_option maxRecDepth 100000 in
theorem tw_5 : Cond.initialized RX3 ∈ lw_good := mw_tw 5 (by decide +kernel) (by decide +kernel)
set_option maxRecDepth 100000 in
theorem tw_6 : Cond.initialized RX0 ∈ lw_good := mw_tw 6 (by decide +kernel) (by decide +kernel)
set_option maxRecDepth 100000 in
theorem tw_7 : Cond.initialized RX5 ∈ lw_good := mw_tw 7 (by decide +kernel) (by decide +kernel)
set_option maxRecDepth 100000 in
theorem tw_8 : Cond.initialized RX4 ∈ lw_good := mw_tw 8 (by decide +kernel) (by decide +kernel)
set_option maxRecDepth 100000 in
theorem tw_9 : Cond.initialized RX2 ∈ lw_good := mw_tw 9 (by decide +kernel) (by decide +kernel)
set_option maxRecDepth 100000 in
theorem tw_10 : Cond.initialized RX1 ∈ lw_good := mw_tw 10 (by decide +kernel) (by decide +kernel)
set_option maxRecDepth 100000 in
theorem tw_11 : Cond.initialized RX9 ∈ lw_good := mw_tw 11 (by decide +kernel) (by decide +kernel)
set_option maxRecDepth 100000 in
theorem tw_15 : Cond.initialized "java/lang/IllegalArgumentException" ∈ lw_good := mw_tw 15 (by decide +kernel) (by decide +kernel)
set_option maxRecDepth 100000 in
theorem tw_16 : Cond.initialized "java/lang/IllegalStateException" ∈ lw_good := mw_tw 16 (by decide +kernel) (by decide +kernel)
set_option maxRecDepth 100000 in
theorem tw_22 : Cond.methodLink RX8 3 objectInit ∈ lw_good := mw_tw 22 (by decide +kernel) (by decide +kernel)
set_option maxRecDepth 100000 in
theorem tw_23 : Cond.instanceMethod objectInit ∈ lw_good := mw_tw 23 (by decide +kernel) (by decide +kernel)
set_option maxRecDepth 100000 in
theorem tw_24 : Cond.code objectInit ⟨#[0xb1]⟩ 1 none ∈ lw_good := mw_tw 24 (by decide +kernel) (by decide +kernel)
set_option maxRecDepth 100000 in
theorem tw_25 : Cond.methodLink RX8 9 Lib.Math.min.name ∈ lw_good := mw_tw 25 (by decide +kernel) (by decide +kernel)
set_option maxRecDepth 100000 in
theorem tw_26 : Cond.static Lib.Math.min.name ∈ lw_good := mw_tw 26 (by decide +kernel) (by decide +kernel)
set_option maxRecDepth 100000 in
theorem tw_27 : Cond.code Lib.Math.min.name Lib.Math.min.code 2 (some .int) ∈ lw_good := mw_tw 27 (by decide +kernel) (by decide +kernel)
set_option maxRecDepth 100000 in
theorem tw_28 : Cond.methodLink RX8 15 Lib.Math.max.name ∈ lw_good := mw_tw 28 (by decide +kernel) (by decide +kernel)
set_option maxRecDepth 100000 in
theorem tw_29 : Cond.static Lib.Math.max.name ∈ lw_good := mw_tw 29 (by decide +kernel) (by decide +kernel)
set_option maxRecDepth 100000 in
theorem tw_30 : Cond.code Lib.Math.max.name Lib.Math.max.code 2 (some .int) ∈ lw_good := mw_tw 30 (by decide +kernel) (by decide +kernel)
set_option maxRecDepth 100000 in
theorem tw_31 : Cond.classLink RX8 22 RX7 ∈ lw_good := mw_tw 31 (by decide +kernel) (by decide +kernel)
set_option maxRecDepth 100000 in
theorem tw_32 : Cond.instantiable RX7 2 ∈ lw_good := mw_tw 32 (by decide +kernel) (by decide +kernel)
set_option maxRecDepth 100000 in
theorem tw_33 : Cond.methodLink RX8 24 yX7_init ∈ lw_good := mw_tw 33 (by decide +kernel) (by decide +kernel)
set_option maxRecDepth 100000 in
theorem tw_34 : Cond.instanceMethod yX7_init ∈ lw_good := mw_tw 34 (by decide +kernel) (by decide +kernel)
set_option maxRecDepth 100000 in
theorem tw_35 : Cond.code yX7_init cX7_init 1 none ∈ lw_good := mw_tw 35 (by decide +kernel) (by decide +kernel)
set_option maxRecDepth 100000 in
theorem tw_36 : Cond.methodLink RX7 3 objectInit ∈ lw_good := mw_tw 36 (by decide +kernel) (by decide +kernel)
set_option maxRecDepth 100000 in
theorem tw_37 : Cond.fieldLink RX7 9 "EventRecorder$Text" "characters" "[C" ∈ lw_good := mw_tw 37 (by decide +kernel) (by decide +kernel)
set_option maxRecDepth 100000 in
theorem tw_38 : Cond.fieldLink RX7 15 "EventRecorder$Text" "length" "I" ∈ lw_good := mw_tw 38 (by decide +kernel) (by decide +kernel)
set_option maxRecDepth 100000 in
theorem tw_44 : Cond.arrayClass .char ∈ lw_good := mw_tw 44 (by decide +kernel) (by decide +kernel)
set_option maxRecDepth 100000 in
theorem tw_45 : Cond.classLink RX8 29 RX6 ∈ lw_good := mw_tw 45 (by decide +kernel) (by decide +kernel)
set_option maxRecDepth 100000 in
theorem tw_46 : Cond.instantiable RX6 3 ∈ lw_good := mw_tw 46 (by decide +kernel) (by decide +kernel)
set_option maxRecDepth 100000 in
theorem tw_47 : Cond.methodLink RX8 31 yX6_init ∈ lw_good := mw_tw 47 (by decide +kernel) (by decide +kernel)
set_option maxRecDepth 100000 in
theorem tw_48 : Cond.instanceMethod yX6_init ∈ lw_good := mw_tw 48 (by decide +kernel) (by decide +kernel)
set_option maxRecDepth 100000 in
theorem tw_49 : Cond.code yX6_init cX6_init 1 none ∈ lw_good := mw_tw 49 (by decide +kernel) (by decide +kernel)
set_option maxRecDepth 100000 in
theorem tw_50 : Cond.methodLink RX6 3 objectInit ∈ lw_good := mw_tw 50 (by decide +kernel) (by decide +kernel)
set_option maxRecDepth 100000 in
theorem tw_51 : Cond.fieldLink RX6 9 "EventRecorder$StringTable" "characters" "[C" ∈ lw_good := mw_tw 51 (by decide +kernel) (by decide +kernel)
set_option maxRecDepth 100000 in
theorem tw_52 : Cond.fieldLink RX6 15 "EventRecorder$StringTable" "lengths" "[I" ∈ lw_good := mw_tw 52 (by decide +kernel) (by decide +kernel)
set_option maxRecDepth 100000 in
theorem tw_53 : Cond.fieldLink RX6 19 "EventRecorder$StringTable" "used" "I" ∈ lw_good := mw_tw 53 (by decide +kernel) (by decide +kernel)
set_option maxRecDepth 100000 in
theorem tw_61 : Cond.arrayClass .int ∈ lw_good := mw_tw 61 (by decide +kernel) (by decide +kernel)
set_option maxRecDepth 100000 in
theorem tw_62 : Cond.classLink RX8 36 RX3 ∈ lw_good := mw_tw 62 (by decide +kernel) (by decide +kernel)
set_option maxRecDepth 100000 in
theorem tw_64 : Cond.instantiable RX3 5 ∈ lw_good := mw_tw 64 (by decide +kernel) (by decide +kernel)
set_option maxRecDepth 100000 in
theorem tw_65 : Cond.methodLink RX8 42 yX3_init ∈ lw_good := mw_tw 65 (by decide +kernel) (by decide +kernel)
set_option maxRecDepth 100000 in
theorem tw_66 : Cond.instanceMethod yX3_init ∈ lw_good := mw_tw 66 (by decide +kernel) (by decide +kernel)
set_option maxRecDepth 100000 in
theorem tw_67 : Cond.code yX3_init cX3_init 2 none ∈ lw_good := mw_tw 67 (by decide +kernel) (by decide +kernel)
set_option maxRecDepth 100000 in
theorem tw_68 : Cond.methodLink RX3 3 objectInit ∈ lw_good := mw_tw 68 (by decide +kernel) (by decide +kernel)
set_option maxRecDepth 100000 in
theorem tw_69 : Cond.classLink RX3 15 RX0 ∈ lw_good := mw_tw 69 (by decide +kernel) (by decide +kernel)
set_option maxRecDepth 100000 in
theorem tw_70 : Cond.instantiable RX0 2 ∈ lw_good := mw_tw 70 (by decide +kernel) (by decide +kernel)
set_option maxRecDepth 100000 in
theorem tw_71 : Cond.methodLink RX3 17 yX0_init ∈ lw_good := mw_tw 71 (by decide +kernel) (by decide +kernel)
set_option maxRecDepth 100000 in
theorem tw_72 : Cond.instanceMethod yX0_init ∈ lw_good := mw_tw 72 (by decide +kernel) (by decide +kernel)
set_option maxRecDepth 100000 in
theorem tw_73 : Cond.code yX0_init cX0_init 2 none ∈ lw_good := mw_tw 73 (by decide +kernel) (by decide +kernel)
set_option maxRecDepth 100000 in
theorem tw_74 : Cond.methodLink RX0 3 objectInit ∈ lw_good := mw_tw 74 (by decide +kernel) (by decide +kernel)
set_option maxRecDepth 100000 in
theorem tw_75 : Cond.fieldLink RX0 9 "EventRecorder$ByteRow" "bytes" "[B" ∈ lw_good := mw_tw 75 (by decide +kernel) (by decide +kernel)
set_option maxRecDepth 100000 in
theorem tw_76 : Cond.fieldLink RX0 15 "EventRecorder$ByteRow" "length" "I" ∈ lw_good := mw_tw 76 (by decide +kernel) (by decide +kernel)
set_option maxRecDepth 100000 in
theorem tw_82 : Cond.arrayClass .byte ∈ lw_good := mw_tw 82 (by decide +kernel) (by decide +kernel)
set_option maxRecDepth 100000 in
theorem tw_83 : Cond.fieldLink RX3 9 "EventRecorder$EventThread" "ticks" "[I" ∈ lw_good := mw_tw 83 (by decide +kernel) (by decide +kernel)
set_option maxRecDepth 100000 in
theorem tw_84 : Cond.fieldLink RX3 20 "EventRecorder$EventThread" "buffer" "LEventRecorder$ByteRow;" ∈ lw_good := mw_tw 84 (by decide +kernel) (by decide +kernel)
set_option maxRecDepth 100000 in
theorem tw_85 : Cond.fieldLink RX3 24 "EventRecorder$EventThread" "begun" "I" ∈ lw_good := mw_tw 85 (by decide +kernel) (by decide +kernel)
set_option maxRecDepth 100000 in
theorem tw_86 : Cond.fieldLink RX3 28 "EventRecorder$EventThread" "lostInChunk" "I" ∈ lw_good := mw_tw 86 (by decide +kernel) (by decide +kernel)
set_option maxRecDepth 100000 in
theorem tw_87 : Cond.fieldLink RX3 31 "EventRecorder$EventThread" "lostInAll" "I" ∈ lw_good := mw_tw 87 (by decide +kernel) (by decide +kernel)
set_option maxRecDepth 100000 in
theorem tw_99 : Cond.classLink RX8 53 RX5 ∈ lw_good := mw_tw 99 (by decide +kernel) (by decide +kernel)
set_option maxRecDepth 100000 in
theorem tw_101 : Cond.instantiable RX5 5 ∈ lw_good := mw_tw 101 (by decide +kernel) (by decide +kernel)
set_option maxRecDepth 100000 in
theorem tw_102 : Cond.methodLink RX8 59 yX5_init ∈ lw_good := mw_tw 102 (by decide +kernel) (by decide +kernel)
set_option maxRecDepth 100000 in
theorem tw_103 : Cond.instanceMethod yX5_init ∈ lw_good := mw_tw 103 (by decide +kernel) (by decide +kernel)
set_option maxRecDepth 100000 in
theorem tw_104 : Cond.code yX5_init cX5_init 1 none ∈ lw_good := mw_tw 104 (by decide +kernel) (by decide +kernel)
set_option maxRecDepth 100000 in
theorem tw_105 : Cond.methodLink RX5 3 objectInit ∈ lw_good := mw_tw 105 (by decide +kernel) (by decide +kernel)
set_option maxRecDepth 100000 in
theorem tw_106 : Cond.constant RX5 25 2147483647 ∈ lw_good := mw_tw 106 (by decide +kernel) (by decide +kernel)
set_option maxRecDepth 100000 in
theorem tw_107 : Cond.fieldLink RX5 9 "EventRecorder$Recording" "off" "[Z" ∈ lw_good := mw_tw 107 (by decide +kernel) (by decide +kernel)
set_option maxRecDepth 100000 in
theorem tw_108 : Cond.fieldLink RX5 15 "EventRecorder$Recording" "limits" "[I" ∈ lw_good := mw_tw 108 (by decide +kernel) (by decide +kernel)
set_option maxRecDepth 100000 in
theorem tw_109 : Cond.fieldLink RX5 19 "EventRecorder$Recording" "phase" "I" ∈ lw_good := mw_tw 109 (by decide +kernel) (by decide +kernel)
set_option maxRecDepth 100000 in
theorem tw_110 : Cond.fieldLink RX5 29 "EventRecorder$Recording" "firstChunk" "I" ∈ lw_good := mw_tw 110 (by decide +kernel) (by decide +kernel)
set_option maxRecDepth 100000 in
theorem tw_111 : Cond.fieldLink RX5 26 "EventRecorder$Recording" "lastChunk" "I" ∈ lw_good := mw_tw 111 (by decide +kernel) (by decide +kernel)
set_option maxRecDepth 100000 in
theorem tw_123 : Cond.arrayClass .boolean ∈ lw_good := mw_tw 123 (by decide +kernel) (by decide +kernel)
set_option maxRecDepth 100000 in
theorem tw_124 : Cond.classLink RX8 60 RX4 ∈ lw_good := mw_tw 124 (by decide +kernel) (by decide +kernel)
set_option maxRecDepth 100000 in
theorem tw_125 : Cond.instantiable RX4 3 ∈ lw_good := mw_tw 125 (by decide +kernel) (by decide +kernel)
set_option maxRecDepth 100000 in
theorem tw_126 : Cond.methodLink RX8 62 yX4_init ∈ lw_good := mw_tw 126 (by decide +kernel) (by decide +kernel)
set_option maxRecDepth 100000 in
theorem tw_127 : Cond.instanceMethod yX4_init ∈ lw_good := mw_tw 127 (by decide +kernel) (by decide +kernel)
set_option maxRecDepth 100000 in
theorem tw_128 : Cond.code yX4_init cX4_init 4 none ∈ lw_good := mw_tw 128 (by decide +kernel) (by decide +kernel)
set_option maxRecDepth 100000 in
theorem tw_129 : Cond.methodLink RX4 1 objectInit ∈ lw_good := mw_tw 129 (by decide +kernel) (by decide +kernel)
set_option maxRecDepth 100000 in
theorem tw_130 : Cond.classLink RX4 7 RX0 ∈ lw_good := mw_tw 130 (by decide +kernel) (by decide +kernel)
set_option maxRecDepth 100000 in
theorem tw_132 : Cond.methodLink RX4 15 yX0_init ∈ lw_good := mw_tw 132 (by decide +kernel) (by decide +kernel)
set_option maxRecDepth 100000 in
theorem tw_133 : Cond.fieldLink RX4 9 "EventRecorder$Pool" "buffers" "[LEventRecorder$ByteRow;" ∈ lw_good := mw_tw 133 (by decide +kernel) (by decide +kernel)
set_option maxRecDepth 100000 in
theorem tw_134 : Cond.fieldLink RX4 22 "EventRecorder$Pool" "first" "I" ∈ lw_good := mw_tw 134 (by decide +kernel) (by decide +kernel)
set_option maxRecDepth 100000 in
theorem tw_135 : Cond.fieldLink RX4 18 "EventRecorder$Pool" "full" "I" ∈ lw_good := mw_tw 135 (by decide +kernel) (by decide +kernel)
set_option maxRecDepth 100000 in
theorem tw_143 : Cond.classLink RX8 69 RX2 ∈ lw_good := mw_tw 143 (by decide +kernel) (by decide +kernel)
set_option maxRecDepth 100000 in
theorem tw_144 : Cond.instantiable RX2 3 ∈ lw_good := mw_tw 144 (by decide +kernel) (by decide +kernel)
set_option maxRecDepth 100000 in
theorem tw_145 : Cond.methodLink RX8 71 yX2_init ∈ lw_good := mw_tw 145 (by decide +kernel) (by decide +kernel)
set_option maxRecDepth 100000 in
theorem tw_146 : Cond.instanceMethod yX2_init ∈ lw_good := mw_tw 146 (by decide +kernel) (by decide +kernel)
set_option maxRecDepth 100000 in
theorem tw_147 : Cond.code yX2_init cX2_init 4 none ∈ lw_good := mw_tw 147 (by decide +kernel) (by decide +kernel)
set_option maxRecDepth 100000 in
theorem tw_148 : Cond.methodLink RX2 1 objectInit ∈ lw_good := mw_tw 148 (by decide +kernel) (by decide +kernel)
set_option maxRecDepth 100000 in
theorem tw_149 : Cond.classLink RX2 7 RX1 ∈ lw_good := mw_tw 149 (by decide +kernel) (by decide +kernel)
set_option maxRecDepth 100000 in
theorem tw_151 : Cond.instantiable RX1 5 ∈ lw_good := mw_tw 151 (by decide +kernel) (by decide +kernel)
set_option maxRecDepth 100000 in
theorem tw_152 : Cond.methodLink RX2 15 yX1_init ∈ lw_good := mw_tw 152 (by decide +kernel) (by decide +kernel)
set_option maxRecDepth 100000 in
theorem tw_153 : Cond.instanceMethod yX1_init ∈ lw_good := mw_tw 153 (by decide +kernel) (by decide +kernel)
set_option maxRecDepth 100000 in
theorem tw_154 : Cond.code yX1_init cX1_init 2 none ∈ lw_good := mw_tw 154 (by decide +kernel) (by decide +kernel)
set_option maxRecDepth 100000 in
theorem tw_155 : Cond.methodLink RX1 3 objectInit ∈ lw_good := mw_tw 155 (by decide +kernel) (by decide +kernel)
set_option maxRecDepth 100000 in
theorem tw_156 : Cond.classLink RX1 9 RX0 ∈ lw_good := mw_tw 156 (by decide +kernel) (by decide +kernel)
set_option maxRecDepth 100000 in
theorem tw_157 : Cond.methodLink RX1 11 yX0_init ∈ lw_good := mw_tw 157 (by decide +kernel) (by decide +kernel)
set_option maxRecDepth 100000 in
theorem tw_158 : Cond.fieldLink RX1 14 "EventRecorder$Chunk" "body" "LEventRecorder$ByteRow;" ∈ lw_good := mw_tw 158 (by decide +kernel) (by decide +kernel)
set_option maxRecDepth 100000 in
theorem tw_159 : Cond.fieldLink RX1 20 "EventRecorder$Chunk" "usedStrings" "[Z" ∈ lw_good := mw_tw 159 (by decide +kernel) (by decide +kernel)
set_option maxRecDepth 100000 in
theorem tw_160 : Cond.fieldLink RX1 27 "EventRecorder$Chunk" "number" "I" ∈ lw_good := mw_tw 160 (by decide +kernel) (by decide +kernel)
set_option maxRecDepth 100000 in
theorem tw_161 : Cond.fieldLink RX1 31 "EventRecorder$Chunk" "openedAt" "I" ∈ lw_good := mw_tw 161 (by decide +kernel) (by decide +kernel)
set_option maxRecDepth 100000 in
theorem tw_162 : Cond.fieldLink RX1 34 "EventRecorder$Chunk" "events" "I" ∈ lw_good := mw_tw 162 (by decide +kernel) (by decide +kernel)
set_option maxRecDepth 100000 in
theorem tw_174 : Cond.methodLink RX2 18 yX1_openAs ∈ lw_good := mw_tw 174 (by decide +kernel) (by decide +kernel)
set_option maxRecDepth 100000 in
theorem tw_175 : Cond.instanceMethod yX1_openAs ∈ lw_good := mw_tw 175 (by decide +kernel) (by decide +kernel)
set_option maxRecDepth 100000 in
theorem tw_176 : Cond.selects RX1 yX1_openAs yX1_openAs ∈ lw_good := mw_tw 176 (by decide +kernel) (by decide +kernel)
set_option maxRecDepth 100000 in
theorem tw_177 : Cond.code yX1_openAs cX1_openAs 4 none ∈ lw_good := mw_tw 177 (by decide +kernel) (by decide +kernel)
set_option maxRecDepth 100000 in
theorem tw_178 : Cond.methodLink RX1 24 yX0_clear ∈ lw_good := mw_tw 178 (by decide +kernel) (by decide +kernel)
set_option maxRecDepth 100000 in
theorem tw_179 : Cond.instanceMethod yX0_clear ∈ lw_good := mw_tw 179 (by decide +kernel) (by decide +kernel)
set_option maxRecDepth 100000 in
theorem tw_180 : Cond.selects RX0 yX0_clear yX0_clear ∈ lw_good := mw_tw 180 (by decide +kernel) (by decide +kernel)
set_option maxRecDepth 100000 in
theorem tw_181 : Cond.code yX0_clear cX0_clear 1 none ∈ lw_good := mw_tw 181 (by decide +kernel) (by decide +kernel)
set_option maxRecDepth 100000 in
theorem tw_182 : Cond.fieldLink RX2 9 "EventRecorder$Chunks" "rows" "[LEventRecorder$Chunk;" ∈ lw_good := mw_tw 182 (by decide +kernel) (by decide +kernel)
set_option maxRecDepth 100000 in
theorem tw_183 : Cond.fieldLink RX2 22 "EventRecorder$Chunks" "kept" "I" ∈ lw_good := mw_tw 183 (by decide +kernel) (by decide +kernel)
set_option maxRecDepth 100000 in
theorem tw_184 : Cond.fieldLink RX2 26 "EventRecorder$Chunks" "evicted" "I" ∈ lw_good := mw_tw 184 (by decide +kernel) (by decide +kernel)
set_option maxRecDepth 100000 in
theorem tw_192 : Cond.classLink RX8 76 RX0 ∈ lw_good := mw_tw 192 (by decide +kernel) (by decide +kernel)
set_option maxRecDepth 100000 in
theorem tw_193 : Cond.methodLink RX8 78 yX0_init ∈ lw_good := mw_tw 193 (by decide +kernel) (by decide +kernel)
set_option maxRecDepth 100000 in
theorem tw_194 : Cond.fieldLink RX8 18 "EventRecorder" "size" "I" ∈ lw_good := mw_tw 194 (by decide +kernel) (by decide +kernel)
set_option maxRecDepth 100000 in
theorem tw_195 : Cond.fieldLink RX8 25 "EventRecorder" "text" "LEventRecorder$Text;" ∈ lw_good := mw_tw 195 (by decide +kernel) (by decide +kernel)
set_option maxRecDepth 100000 in
theorem tw_196 : Cond.fieldLink RX8 32 "EventRecorder" "strings" "LEventRecorder$StringTable;" ∈ lw_good := mw_tw 196 (by decide +kernel) (by decide +kernel)
set_option maxRecDepth 100000 in
theorem tw_197 : Cond.fieldLink RX8 38 "EventRecorder" "threads" "[LEventRecorder$EventThread;" ∈ lw_good := mw_tw 197 (by decide +kernel) (by decide +kernel)
set_option maxRecDepth 100000 in
theorem tw_198 : Cond.fieldLink RX8 45 "EventRecorder" "typeInts" "[I" ∈ lw_good := mw_tw 198 (by decide +kernel) (by decide +kernel)
set_option maxRecDepth 100000 in
theorem tw_199 : Cond.fieldLink RX8 49 "EventRecorder" "typeStrings" "[Z" ∈ lw_good := mw_tw 199 (by decide +kernel) (by decide +kernel)
set_option maxRecDepth 100000 in
theorem tw_200 : Cond.fieldLink RX8 100 "EventRecorder" "typeCount" "I" ∈ lw_good := mw_tw 200 (by decide +kernel) (by decide +kernel)
set_option maxRecDepth 100000 in
theorem tw_201 : Cond.fieldLink RX8 55 "EventRecorder" "recordings" "[LEventRecorder$Recording;" ∈ lw_good := mw_tw 201 (by decide +kernel) (by decide +kernel)
set_option maxRecDepth 100000 in
theorem tw_202 : Cond.fieldLink RX8 146 "EventRecorder" "recordingCount" "I" ∈ lw_good := mw_tw 202 (by decide +kernel) (by decide +kernel)
set_option maxRecDepth 100000 in
theorem tw_203 : Cond.fieldLink RX8 65 "EventRecorder" "shared" "LEventRecorder$Pool;" ∈ lw_good := mw_tw 203 (by decide +kernel) (by decide +kernel)
set_option maxRecDepth 100000 in
theorem tw_204 : Cond.fieldLink RX8 72 "EventRecorder" "chunks" "LEventRecorder$Chunks;" ∈ lw_good := mw_tw 204 (by decide +kernel) (by decide +kernel)
set_option maxRecDepth 100000 in
theorem tw_205 : Cond.fieldLink RX8 79 "EventRecorder" "payload" "LEventRecorder$ByteRow;" ∈ lw_good := mw_tw 205 (by decide +kernel) (by decide +kernel)
set_option maxRecDepth 100000 in
theorem tw_206 : Cond.fieldLink RX8 83 "EventRecorder" "written" "LEventRecorder$ByteRow;" ∈ lw_good := mw_tw 206 (by decide +kernel) (by decide +kernel)
set_option maxRecDepth 100000 in
theorem tw_207 : Cond.fieldLink RX8 90 "EventRecorder" "now" "I" ∈ lw_good := mw_tw 207 (by decide +kernel) (by decide +kernel)
set_option maxRecDepth 100000 in
theorem tw_241 : Cond.methodLink RX8 86 yX7_append ∈ lw_good := mw_tw 241 (by decide +kernel) (by decide +kernel)
set_option maxRecDepth 100000 in
theorem tw_242 : Cond.instanceMethod yX7_append ∈ lw_good := mw_tw 242 (by decide +kernel) (by decide +kernel)
set_option maxRecDepth 100000 in
theorem tw_243 : Cond.selects RX7 yX7_append yX7_append ∈ lw_good := mw_tw 243 (by decide +kernel) (by decide +kernel)
set_option maxRecDepth 100000 in
theorem tw_244 : Cond.code yX7_append cX7_append 2 (some .boolean) ∈ lw_good := mw_tw 244 (by decide +kernel) (by decide +kernel)
set_option maxRecDepth 100000 in
theorem tw_253 : Cond.methodLink RX8 108 yX8_isThread ∈ lw_good := mw_tw 253 (by decide +kernel) (by decide +kernel)
set_option maxRecDepth 100000 in
theorem tw_254 : Cond.static yX8_isThread ∈ lw_good := mw_tw 254 (by decide +kernel) (by decide +kernel)
set_option maxRecDepth 100000 in
theorem tw_255 : Cond.code yX8_isThread cX8_isThread 1 (some .boolean) ∈ lw_good := mw_tw 255 (by decide +kernel) (by decide +kernel)
set_option maxRecDepth 100000 in
theorem tw_256 : Cond.methodLink RX8 112 yX3_beginAt ∈ lw_good := mw_tw 256 (by decide +kernel) (by decide +kernel)
set_option maxRecDepth 100000 in
theorem tw_257 : Cond.instanceMethod yX3_beginAt ∈ lw_good := mw_tw 257 (by decide +kernel) (by decide +kernel)
set_option maxRecDepth 100000 in
theorem tw_258 : Cond.selects RX3 yX3_beginAt yX3_beginAt ∈ lw_good := mw_tw 258 (by decide +kernel) (by decide +kernel)
set_option maxRecDepth 100000 in
theorem tw_259 : Cond.code yX3_beginAt cX3_beginAt 2 (some .boolean) ∈ lw_good := mw_tw 259 (by decide +kernel) (by decide +kernel)
set_option maxRecDepth 100000 in
theorem tw_264 : Cond.methodLink RX8 115 yX8_isType ∈ lw_good := mw_tw 264 (by decide +kernel) (by decide +kernel)
set_option maxRecDepth 100000 in
theorem tw_266 : Cond.instanceMethod yX8_isType ∈ lw_good := mw_tw 266 (by decide +kernel) (by decide +kernel)
set_option maxRecDepth 100000 in
theorem tw_267 : Cond.code yX8_isType cX8_isType 2 (some .boolean) ∈ lw_good := mw_tw 267 (by decide +kernel) (by decide +kernel)
set_option maxRecDepth 100000 in
theorem tw_268 : Cond.methodLink RX8 118 yX8_endEvent ∈ lw_good := mw_tw 268 (by decide +kernel) (by decide +kernel)
set_option maxRecDepth 100000 in
theorem tw_270 : Cond.instanceMethod yX8_endEvent ∈ lw_good := mw_tw 270 (by decide +kernel) (by decide +kernel)
set_option maxRecDepth 100000 in
theorem tw_271 : Cond.code yX8_endEvent cX8_endEvent 9 (some .int) ∈ lw_good := mw_tw 271 (by decide +kernel) (by decide +kernel)
set_option maxRecDepth 100000 in
theorem tw_272 : Cond.methodLink RX8 241 yX3_hasBegun ∈ lw_good := mw_tw 272 (by decide +kernel) (by decide +kernel)
set_option maxRecDepth 100000 in
theorem tw_273 : Cond.instanceMethod yX3_hasBegun ∈ lw_good := mw_tw 273 (by decide +kernel) (by decide +kernel)
set_option maxRecDepth 100000 in
theorem tw_274 : Cond.selects RX3 yX3_hasBegun yX3_hasBegun ∈ lw_good := mw_tw 274 (by decide +kernel) (by decide +kernel)
set_option maxRecDepth 100000 in
theorem tw_275 : Cond.code yX3_hasBegun cX3_hasBegun 1 (some .boolean) ∈ lw_good := mw_tw 275 (by decide +kernel) (by decide +kernel)
set_option maxRecDepth 100000 in
theorem tw_276 : Cond.methodLink RX8 245 yX3_endLatest ∈ lw_good := mw_tw 276 (by decide +kernel) (by decide +kernel)
set_option maxRecDepth 100000 in
theorem tw_277 : Cond.instanceMethod yX3_endLatest ∈ lw_good := mw_tw 277 (by decide +kernel) (by decide +kernel)
set_option maxRecDepth 100000 in
theorem tw_278 : Cond.selects RX3 yX3_endLatest yX3_endLatest ∈ lw_good := mw_tw 278 (by decide +kernel) (by decide +kernel)
set_option maxRecDepth 100000 in
theorem tw_279 : Cond.code yX3_endLatest cX3_endLatest 1 (some .int) ∈ lw_good := mw_tw 279 (by decide +kernel) (by decide +kernel)
set_option maxRecDepth 100000 in
theorem tw_280 : Cond.methodLink RX8 248 yX8_interestIn ∈ lw_good := mw_tw 280 (by decide +kernel) (by decide +kernel)
set_option maxRecDepth 100000 in
theorem tw_282 : Cond.instanceMethod yX8_interestIn ∈ lw_good := mw_tw 282 (by decide +kernel) (by decide +kernel)
set_option maxRecDepth 100000 in
theorem tw_283 : Cond.code yX8_interestIn cX8_interestIn 6 (some .int) ∈ lw_good := mw_tw 283 (by decide +kernel) (by decide +kernel)
set_option maxRecDepth 100000 in
theorem tw_284 : Cond.methodLink RX8 158 yX5_is ∈ lw_good := mw_tw 284 (by decide +kernel) (by decide +kernel)
set_option maxRecDepth 100000 in
theorem tw_285 : Cond.instanceMethod yX5_is ∈ lw_good := mw_tw 285 (by decide +kernel) (by decide +kernel)
set_option maxRecDepth 100000 in
theorem tw_286 : Cond.selects RX5 yX5_is yX5_is ∈ lw_good := mw_tw 286 (by decide +kernel) (by decide +kernel)
set_option maxRecDepth 100000 in
theorem tw_287 : Cond.code yX5_is cX5_is 2 (some .boolean) ∈ lw_good := mw_tw 287 (by decide +kernel) (by decide +kernel)
set_option maxRecDepth 100000 in
theorem tw_288 : Cond.methodLink RX8 217 yX5_isOn ∈ lw_good := mw_tw 288 (by decide +kernel) (by decide +kernel)
set_option maxRecDepth 100000 in
theorem tw_289 : Cond.instanceMethod yX5_isOn ∈ lw_good := mw_tw 289 (by decide +kernel) (by decide +kernel)
set_option maxRecDepth 100000 in
theorem tw_290 : Cond.selects RX5 yX5_isOn yX5_isOn ∈ lw_good := mw_tw 290 (by decide +kernel) (by decide +kernel)
set_option maxRecDepth 100000 in
theorem tw_291 : Cond.code yX5_isOn cX5_isOn 2 (some .boolean) ∈ lw_good := mw_tw 291 (by decide +kernel) (by decide +kernel)
set_option maxRecDepth 100000 in
theorem tw_292 : Cond.methodLink RX8 220 yX5_leastDuration ∈ lw_good := mw_tw 292 (by decide +kernel) (by decide +kernel)
set_option maxRecDepth 100000 in
theorem tw_293 : Cond.instanceMethod yX5_leastDuration ∈ lw_good := mw_tw 293 (by decide +kernel) (by decide +kernel)
set_option maxRecDepth 100000 in
theorem tw_294 : Cond.selects RX5 yX5_leastDuration yX5_leastDuration ∈ lw_good := mw_tw 294 (by decide +kernel) (by decide +kernel)
set_option maxRecDepth 100000 in
theorem tw_295 : Cond.code yX5_leastDuration cX5_leastDuration 2 (some .int) ∈ lw_good := mw_tw 295 (by decide +kernel) (by decide +kernel)
set_option maxRecDepth 100000 in
theorem tw_296 : Cond.methodLink RX8 251 yX6_numberFor ∈ lw_good := mw_tw 296 (by decide +kernel) (by decide +kernel)
set_option maxRecDepth 100000 in
theorem tw_297 : Cond.instanceMethod yX6_numberFor ∈ lw_good := mw_tw 297 (by decide +kernel) (by decide +kernel)
set_option maxRecDepth 100000 in
theorem tw_298 : Cond.selects RX6 yX6_numberFor yX6_numberFor ∈ lw_good := mw_tw 298 (by decide +kernel) (by decide +kernel)
set_option maxRecDepth 100000 in
theorem tw_299 : Cond.code yX6_numberFor cX6_numberFor 3 (some .int) ∈ lw_good := mw_tw 299 (by decide +kernel) (by decide +kernel)
set_option maxRecDepth 100000 in
theorem tw_300 : Cond.methodLink RX6 23 yX6_isSame ∈ lw_good := mw_tw 300 (by decide +kernel) (by decide +kernel)
set_option maxRecDepth 100000 in
theorem tw_302 : Cond.instanceMethod yX6_isSame ∈ lw_good := mw_tw 302 (by decide +kernel) (by decide +kernel)
set_option maxRecDepth 100000 in
theorem tw_303 : Cond.code yX6_isSame cX6_isSame 4 (some .boolean) ∈ lw_good := mw_tw 303 (by decide +kernel) (by decide +kernel)
set_option maxRecDepth 100000 in
theorem tw_304 : Cond.methodLink RX6 27 yX6_usedLength ∈ lw_good := mw_tw 304 (by decide +kernel) (by decide +kernel)
set_option maxRecDepth 100000 in
theorem tw_305 : Cond.static yX6_usedLength ∈ lw_good := mw_tw 305 (by decide +kernel) (by decide +kernel)
set_option maxRecDepth 100000 in
theorem tw_306 : Cond.code yX6_usedLength cX6_usedLength 1 (some .int) ∈ lw_good := mw_tw 306 (by decide +kernel) (by decide +kernel)
set_option maxRecDepth 100000 in
theorem tw_307 : Cond.methodLink RX6 46 yX7_length ∈ lw_good := mw_tw 307 (by decide +kernel) (by decide +kernel)
set_option maxRecDepth 100000 in
theorem tw_308 : Cond.instanceMethod yX7_length ∈ lw_good := mw_tw 308 (by decide +kernel) (by decide +kernel)
set_option maxRecDepth 100000 in
theorem tw_309 : Cond.selects RX7 yX7_length yX7_length ∈ lw_good := mw_tw 309 (by decide +kernel) (by decide +kernel)
set_option maxRecDepth 100000 in
theorem tw_310 : Cond.code yX7_length cX7_length 1 (some .int) ∈ lw_good := mw_tw 310 (by decide +kernel) (by decide +kernel)
set_option maxRecDepth 100000 in
theorem tw_311 : Cond.methodLink RX6 50 Lib.Math.min.name ∈ lw_good := mw_tw 311 (by decide +kernel) (by decide +kernel)
set_option maxRecDepth 100000 in
theorem tw_312 : Cond.methodLink RX6 31 yX7_at ∈ lw_good := mw_tw 312 (by decide +kernel) (by decide +kernel)
set_option maxRecDepth 100000 in
theorem tw_313 : Cond.instanceMethod yX7_at ∈ lw_good := mw_tw 313 (by decide +kernel) (by decide +kernel)
set_option maxRecDepth 100000 in
theorem tw_314 : Cond.selects RX7 yX7_at yX7_at ∈ lw_good := mw_tw 314 (by decide +kernel) (by decide +kernel)
set_option maxRecDepth 100000 in
theorem tw_315 : Cond.code yX7_at cX7_at 2 (some .char) ∈ lw_good := mw_tw 315 (by decide +kernel) (by decide +kernel)
set_option maxRecDepth 100000 in
theorem tw_316 : Cond.methodLink RX8 255 yX8_compose ∈ lw_good := mw_tw 316 (by decide +kernel) (by decide +kernel)
set_option maxRecDepth 100000 in
theorem tw_318 : Cond.instanceMethod yX8_compose ∈ lw_good := mw_tw 318 (by decide +kernel) (by decide +kernel)
set_option maxRecDepth 100000 in
theorem tw_319 : Cond.code yX8_compose cX8_compose 7 none ∈ lw_good := mw_tw 319 (by decide +kernel) (by decide +kernel)
set_option maxRecDepth 100000 in
theorem tw_320 : Cond.methodLink RX8 200 yX0_clear ∈ lw_good := mw_tw 320 (by decide +kernel) (by decide +kernel)
set_option maxRecDepth 100000 in
theorem tw_321 : Cond.methodLink RX8 266 yX0_addVariable ∈ lw_good := mw_tw 321 (by decide +kernel) (by decide +kernel)
set_option maxRecDepth 100000 in
theorem tw_322 : Cond.instanceMethod yX0_addVariable ∈ lw_good := mw_tw 322 (by decide +kernel) (by decide +kernel)
set_option maxRecDepth 100000 in
theorem tw_323 : Cond.selects RX0 yX0_addVariable yX0_addVariable ∈ lw_good := mw_tw 323 (by decide +kernel) (by decide +kernel)
set_option maxRecDepth 100000 in
theorem tw_324 : Cond.code yX0_addVariable cX0_addVariable 4 none ∈ lw_good := mw_tw 324 (by decide +kernel) (by decide +kernel)
set_option maxRecDepth 100000 in
theorem tw_325 : Cond.methodLink RX0 19 yX0_variableLength ∈ lw_good := mw_tw 325 (by decide +kernel) (by decide +kernel)
set_option maxRecDepth 100000 in
theorem tw_326 : Cond.static yX0_variableLength ∈ lw_good := mw_tw 326 (by decide +kernel) (by decide +kernel)
set_option maxRecDepth 100000 in
theorem tw_327 : Cond.code yX0_variableLength cX0_variableLength 3 (some .int) ∈ lw_good := mw_tw 327 (by decide +kernel) (by decide +kernel)
set_option maxRecDepth 100000 in
theorem tw_328 : Cond.methodLink RX0 23 yX0_add ∈ lw_good := mw_tw 328 (by decide +kernel) (by decide +kernel)
set_option maxRecDepth 100000 in
theorem tw_329 : Cond.instanceMethod yX0_add ∈ lw_good := mw_tw 329 (by decide +kernel) (by decide +kernel)
set_option maxRecDepth 100000 in
theorem tw_330 : Cond.selects RX0 yX0_add yX0_add ∈ lw_good := mw_tw 330 (by decide +kernel) (by decide +kernel)
set_option maxRecDepth 100000 in
theorem tw_331 : Cond.code yX0_add cX0_add 2 none ∈ lw_good := mw_tw 331 (by decide +kernel) (by decide +kernel)
set_option maxRecDepth 100000 in
theorem tw_332 : Cond.methodLink RX8 283 yX8_zigzag ∈ lw_good := mw_tw 332 (by decide +kernel) (by decide +kernel)
set_option maxRecDepth 100000 in
theorem tw_333 : Cond.static yX8_zigzag ∈ lw_good := mw_tw 333 (by decide +kernel) (by decide +kernel)
set_option maxRecDepth 100000 in
theorem tw_334 : Cond.code yX8_zigzag cX8_zigzag 1 (some .int) ∈ lw_good := mw_tw 334 (by decide +kernel) (by decide +kernel)
set_option maxRecDepth 100000 in
theorem tw_335 : Cond.methodLink RX8 223 yX3_buffer ∈ lw_good := mw_tw 335 (by decide +kernel) (by decide +kernel)
set_option maxRecDepth 100000 in
theorem tw_336 : Cond.instanceMethod yX3_buffer ∈ lw_good := mw_tw 336 (by decide +kernel) (by decide +kernel)
set_option maxRecDepth 100000 in
theorem tw_337 : Cond.selects RX3 yX3_buffer yX3_buffer ∈ lw_good := mw_tw 337 (by decide +kernel) (by decide +kernel)
set_option maxRecDepth 100000 in
theorem tw_338 : Cond.code yX3_buffer cX3_buffer 1 (some (.object "EventRecorder$ByteRow")) ∈ lw_good := mw_tw 338 (by decide +kernel) (by decide +kernel)
set_option maxRecDepth 100000 in
theorem tw_339 : Cond.methodLink RX8 259 yX8_makeRoom ∈ lw_good := mw_tw 339 (by decide +kernel) (by decide +kernel)
set_option maxRecDepth 100000 in
theorem tw_341 : Cond.instanceMethod yX8_makeRoom ∈ lw_good := mw_tw 341 (by decide +kernel) (by decide +kernel)
set_option maxRecDepth 100000 in
theorem tw_342 : Cond.code yX8_makeRoom cX8_makeRoom 3 (some .boolean) ∈ lw_good := mw_tw 342 (by decide +kernel) (by decide +kernel)
set_option maxRecDepth 100000 in
theorem tw_343 : Cond.methodLink RX8 139 yX0_length ∈ lw_good := mw_tw 343 (by decide +kernel) (by decide +kernel)
set_option maxRecDepth 100000 in
theorem tw_344 : Cond.instanceMethod yX0_length ∈ lw_good := mw_tw 344 (by decide +kernel) (by decide +kernel)
set_option maxRecDepth 100000 in
theorem tw_345 : Cond.selects RX0 yX0_length yX0_length ∈ lw_good := mw_tw 345 (by decide +kernel) (by decide +kernel)
set_option maxRecDepth 100000 in
theorem tw_346 : Cond.code yX0_length cX0_length 1 (some .int) ∈ lw_good := mw_tw 346 (by decide +kernel) (by decide +kernel)
set_option maxRecDepth 100000 in
theorem tw_347 : Cond.methodLink RX8 286 yX0_variableLength ∈ lw_good := mw_tw 347 (by decide +kernel) (by decide +kernel)
set_option maxRecDepth 100000 in
theorem tw_348 : Cond.methodLink RX8 289 yX0_room ∈ lw_good := mw_tw 348 (by decide +kernel) (by decide +kernel)
set_option maxRecDepth 100000 in
theorem tw_349 : Cond.instanceMethod yX0_room ∈ lw_good := mw_tw 349 (by decide +kernel) (by decide +kernel)
set_option maxRecDepth 100000 in
theorem tw_350 : Cond.selects RX0 yX0_room yX0_room ∈ lw_good := mw_tw 350 (by decide +kernel) (by decide +kernel)
set_option maxRecDepth 100000 in
theorem tw_351 : Cond.code yX0_room cX0_room 1 (some .int) ∈ lw_good := mw_tw 351 (by decide +kernel) (by decide +kernel)
set_option maxRecDepth 100000 in
theorem tw_352 : Cond.methodLink RX8 292 yX4_takeOver ∈ lw_good := mw_tw 352 (by decide +kernel) (by decide +kernel)
set_option maxRecDepth 100000 in
theorem tw_353 : Cond.instanceMethod yX4_takeOver ∈ lw_good := mw_tw 353 (by decide +kernel) (by decide +kernel)
set_option maxRecDepth 100000 in
theorem tw_354 : Cond.selects RX4 yX4_takeOver yX4_takeOver ∈ lw_good := mw_tw 354 (by decide +kernel) (by decide +kernel)
set_option maxRecDepth 100000 in
theorem tw_355 : Cond.code yX4_takeOver cX4_takeOver 2 (some .boolean) ∈ lw_good := mw_tw 355 (by decide +kernel) (by decide +kernel)
set_option maxRecDepth 100000 in
theorem tw_356 : Cond.methodLink RX4 25 yX0_moveTo ∈ lw_good := mw_tw 356 (by decide +kernel) (by decide +kernel)
set_option maxRecDepth 100000 in
theorem tw_357 : Cond.instanceMethod yX0_moveTo ∈ lw_good := mw_tw 357 (by decide +kernel) (by decide +kernel)
set_option maxRecDepth 100000 in
theorem tw_358 : Cond.selects RX0 yX0_moveTo yX0_moveTo ∈ lw_good := mw_tw 358 (by decide +kernel) (by decide +kernel)
set_option maxRecDepth 100000 in
theorem tw_359 : Cond.code yX0_moveTo cX0_moveTo 2 none ∈ lw_good := mw_tw 359 (by decide +kernel) (by decide +kernel)
set_option maxRecDepth 100000 in
theorem tw_360 : Cond.methodLink RX0 27 yX0_addRow ∈ lw_good := mw_tw 360 (by decide +kernel) (by decide +kernel)
set_option maxRecDepth 100000 in
theorem tw_361 : Cond.instanceMethod yX0_addRow ∈ lw_good := mw_tw 361 (by decide +kernel) (by decide +kernel)
set_option maxRecDepth 100000 in
theorem tw_362 : Cond.selects RX0 yX0_addRow yX0_addRow ∈ lw_good := mw_tw 362 (by decide +kernel) (by decide +kernel)
set_option maxRecDepth 100000 in
theorem tw_363 : Cond.code yX0_addRow cX0_addRow 3 none ∈ lw_good := mw_tw 363 (by decide +kernel) (by decide +kernel)
set_option maxRecDepth 100000 in
theorem tw_364 : Cond.methodLink RX0 31 yX0_clear ∈ lw_good := mw_tw 364 (by decide +kernel) (by decide +kernel)
set_option maxRecDepth 100000 in
theorem tw_365 : Cond.methodLink RX8 263 yX3_lose ∈ lw_good := mw_tw 365 (by decide +kernel) (by decide +kernel)
set_option maxRecDepth 100000 in
theorem tw_366 : Cond.instanceMethod yX3_lose ∈ lw_good := mw_tw 366 (by decide +kernel) (by decide +kernel)
set_option maxRecDepth 100000 in
theorem tw_367 : Cond.selects RX3 yX3_lose yX3_lose ∈ lw_good := mw_tw 367 (by decide +kernel) (by decide +kernel)
set_option maxRecDepth 100000 in
theorem tw_368 : Cond.code yX3_lose cX3_lose 1 none ∈ lw_good := mw_tw 368 (by decide +kernel) (by decide +kernel)
set_option maxRecDepth 100000 in
theorem tw_369 : Cond.methodLink RX8 269 yX0_addRow ∈ lw_good := mw_tw 369 (by decide +kernel) (by decide +kernel)
set_option maxRecDepth 100000 in
theorem tw_370 : Cond.methodLink RX8 125 yX2_open ∈ lw_good := mw_tw 370 (by decide +kernel) (by decide +kernel)
set_option maxRecDepth 100000 in
theorem tw_371 : Cond.instanceMethod yX2_open ∈ lw_good := mw_tw 371 (by decide +kernel) (by decide +kernel)
set_option maxRecDepth 100000 in
theorem tw_372 : Cond.selects RX2 yX2_open yX2_open ∈ lw_good := mw_tw 372 (by decide +kernel) (by decide +kernel)
set_option maxRecDepth 100000 in
theorem tw_373 : Cond.code yX2_open cX2_open 1 (some (.object "EventRecorder$Chunk")) ∈ lw_good := mw_tw 373 (by decide +kernel) (by decide +kernel)
set_option maxRecDepth 100000 in
theorem tw_374 : Cond.methodLink RX8 273 yX1_countEvent ∈ lw_good := mw_tw 374 (by decide +kernel) (by decide +kernel)
set_option maxRecDepth 100000 in
theorem tw_375 : Cond.instanceMethod yX1_countEvent ∈ lw_good := mw_tw 375 (by decide +kernel) (by decide +kernel)
set_option maxRecDepth 100000 in
theorem tw_376 : Cond.selects RX1 yX1_countEvent yX1_countEvent ∈ lw_good := mw_tw 376 (by decide +kernel) (by decide +kernel)
set_option maxRecDepth 100000 in
theorem tw_377 : Cond.code yX1_countEvent cX1_countEvent 1 none ∈ lw_good := mw_tw 377 (by decide +kernel) (by decide +kernel)
set_option maxRecDepth 100000 in
theorem tw_378 : Cond.methodLink RX8 276 yX6_keep ∈ lw_good := mw_tw 378 (by decide +kernel) (by decide +kernel)
set_option maxRecDepth 100000 in
theorem tw_379 : Cond.instanceMethod yX6_keep ∈ lw_good := mw_tw 379 (by decide +kernel) (by decide +kernel)
set_option maxRecDepth 100000 in
theorem tw_380 : Cond.selects RX6 yX6_keep yX6_keep ∈ lw_good := mw_tw 380 (by decide +kernel) (by decide +kernel)
set_option maxRecDepth 100000 in
theorem tw_381 : Cond.code yX6_keep cX6_keep 4 none ∈ lw_good := mw_tw 381 (by decide +kernel) (by decide +kernel)
set_option maxRecDepth 100000 in
theorem tw_382 : Cond.methodLink RX8 280 yX1_use ∈ lw_good := mw_tw 382 (by decide +kernel) (by decide +kernel)
set_option maxRecDepth 100000 in
theorem tw_383 : Cond.instanceMethod yX1_use ∈ lw_good := mw_tw 383 (by decide +kernel) (by decide +kernel)
set_option maxRecDepth 100000 in
theorem tw_384 : Cond.selects RX1 yX1_use yX1_use ∈ lw_good := mw_tw 384 (by decide +kernel) (by decide +kernel)
set_option maxRecDepth 100000 in
theorem tw_385 : Cond.code yX1_use cX1_use 2 none ∈ lw_good := mw_tw 385 (by decide +kernel) (by decide +kernel)
set_option maxRecDepth 100000 in
theorem tw_386 : Cond.methodLink RX8 122 yX7_clear ∈ lw_good := mw_tw 386 (by decide +kernel) (by decide +kernel)
set_option maxRecDepth 100000 in
theorem tw_387 : Cond.instanceMethod yX7_clear ∈ lw_good := mw_tw 387 (by decide +kernel) (by decide +kernel)
set_option maxRecDepth 100000 in
theorem tw_388 : Cond.selects RX7 yX7_clear yX7_clear ∈ lw_good := mw_tw 388 (by decide +kernel) (by decide +kernel)
set_option maxRecDepth 100000 in
theorem tw_389 : Cond.code yX7_clear cX7_clear 1 none ∈ lw_good := mw_tw 389 (by decide +kernel) (by decide +kernel)
set_option maxRecDepth 100000 in
theorem tw_394 : Cond.methodLink RX8 129 yX1_body ∈ lw_good := mw_tw 394 (by decide +kernel) (by decide +kernel)
set_option maxRecDepth 100000 in
theorem tw_395 : Cond.instanceMethod yX1_body ∈ lw_good := mw_tw 395 (by decide +kernel) (by decide +kernel)
set_option maxRecDepth 100000 in
theorem tw_396 : Cond.selects RX1 yX1_body yX1_body ∈ lw_good := mw_tw 396 (by decide +kernel) (by decide +kernel)
set_option maxRecDepth 100000 in
theorem tw_397 : Cond.code yX1_body cX1_body 1 (some (.object "EventRecorder$ByteRow")) ∈ lw_good := mw_tw 397 (by decide +kernel) (by decide +kernel)
set_option maxRecDepth 100000 in
theorem tw_398 : Cond.methodLink RX8 135 yX4_moveFirstTo ∈ lw_good := mw_tw 398 (by decide +kernel) (by decide +kernel)
set_option maxRecDepth 100000 in
theorem tw_399 : Cond.instanceMethod yX4_moveFirstTo ∈ lw_good := mw_tw 399 (by decide +kernel) (by decide +kernel)
set_option maxRecDepth 100000 in
theorem tw_400 : Cond.selects RX4 yX4_moveFirstTo yX4_moveFirstTo ∈ lw_good := mw_tw 400 (by decide +kernel) (by decide +kernel)
set_option maxRecDepth 100000 in
theorem tw_401 : Cond.code yX4_moveFirstTo cX4_moveFirstTo 3 (some .int) ∈ lw_good := mw_tw 401 (by decide +kernel) (by decide +kernel)
set_option maxRecDepth 100000 in
theorem tw_402 : Cond.methodLink RX4 29 yX0_length ∈ lw_good := mw_tw 402 (by decide +kernel) (by decide +kernel)
set_option maxRecDepth 100000 in
theorem tw_403 : Cond.methodLink RX8 143 yX8_rotate ∈ lw_good := mw_tw 403 (by decide +kernel) (by decide +kernel)
set_option maxRecDepth 100000 in
theorem tw_405 : Cond.instanceMethod yX8_rotate ∈ lw_good := mw_tw 405 (by decide +kernel) (by decide +kernel)
set_option maxRecDepth 100000 in
theorem tw_406 : Cond.code yX8_rotate cX8_rotate 4 none ∈ lw_good := mw_tw 406 (by decide +kernel) (by decide +kernel)
set_option maxRecDepth 100000 in
theorem tw_407 : Cond.methodLink RX8 295 yX0_moveTo ∈ lw_good := mw_tw 407 (by decide +kernel) (by decide +kernel)
set_option maxRecDepth 100000 in
theorem tw_408 : Cond.methodLink RX8 298 yX3_takeLostInChunk ∈ lw_good := mw_tw 408 (by decide +kernel) (by decide +kernel)
set_option maxRecDepth 100000 in
theorem tw_409 : Cond.instanceMethod yX3_takeLostInChunk ∈ lw_good := mw_tw 409 (by decide +kernel) (by decide +kernel)
set_option maxRecDepth 100000 in
theorem tw_410 : Cond.selects RX3 yX3_takeLostInChunk yX3_takeLostInChunk ∈ lw_good := mw_tw 410 (by decide +kernel) (by decide +kernel)
set_option maxRecDepth 100000 in
theorem tw_411 : Cond.code yX3_takeLostInChunk cX3_takeLostInChunk 2 (some .int) ∈ lw_good := mw_tw 411 (by decide +kernel) (by decide +kernel)
set_option maxRecDepth 100000 in
theorem tw_412 : Cond.methodLink RX8 301 yX1_addLoss ∈ lw_good := mw_tw 412 (by decide +kernel) (by decide +kernel)
set_option maxRecDepth 100000 in
theorem tw_413 : Cond.instanceMethod yX1_addLoss ∈ lw_good := mw_tw 413 (by decide +kernel) (by decide +kernel)
set_option maxRecDepth 100000 in
theorem tw_414 : Cond.selects RX1 yX1_addLoss yX1_addLoss ∈ lw_good := mw_tw 414 (by decide +kernel) (by decide +kernel)
set_option maxRecDepth 100000 in
theorem tw_415 : Cond.code yX1_addLoss cX1_addLoss 3 none ∈ lw_good := mw_tw 415 (by decide +kernel) (by decide +kernel)
set_option maxRecDepth 100000 in
theorem tw_416 : Cond.methodLink RX1 37 yX0_variableLength ∈ lw_good := mw_tw 416 (by decide +kernel) (by decide +kernel)
set_option maxRecDepth 100000 in
theorem tw_417 : Cond.methodLink RX1 41 yX0_addVariable ∈ lw_good := mw_tw 417 (by decide +kernel) (by decide +kernel)
set_option maxRecDepth 100000 in
theorem tw_418 : Cond.methodLink RX1 44 yX0_add ∈ lw_good := mw_tw 418 (by decide +kernel) (by decide +kernel)
set_option maxRecDepth 100000 in
theorem tw_419 : Cond.methodLink RX8 304 yX2_finishOpen ∈ lw_good := mw_tw 419 (by decide +kernel) (by decide +kernel)
set_option maxRecDepth 100000 in
theorem tw_420 : Cond.instanceMethod yX2_finishOpen ∈ lw_good := mw_tw 420 (by decide +kernel) (by decide +kernel)
set_option maxRecDepth 100000 in
theorem tw_421 : Cond.selects RX2 yX2_finishOpen yX2_finishOpen ∈ lw_good := mw_tw 421 (by decide +kernel) (by decide +kernel)
set_option maxRecDepth 100000 in
theorem tw_422 : Cond.code yX2_finishOpen cX2_finishOpen 3 none ∈ lw_good := mw_tw 422 (by decide +kernel) (by decide +kernel)
set_option maxRecDepth 100000 in
theorem tw_423 : Cond.methodLink RX2 29 yX2_open ∈ lw_good := mw_tw 423 (by decide +kernel) (by decide +kernel)
set_option maxRecDepth 100000 in
theorem tw_424 : Cond.methodLink RX2 33 yX1_number ∈ lw_good := mw_tw 424 (by decide +kernel) (by decide +kernel)
set_option maxRecDepth 100000 in
theorem tw_425 : Cond.instanceMethod yX1_number ∈ lw_good := mw_tw 425 (by decide +kernel) (by decide +kernel)
set_option maxRecDepth 100000 in
theorem tw_426 : Cond.selects RX1 yX1_number yX1_number ∈ lw_good := mw_tw 426 (by decide +kernel) (by decide +kernel)
set_option maxRecDepth 100000 in
theorem tw_427 : Cond.code yX1_number cX1_number 1 (some .int) ∈ lw_good := mw_tw 427 (by decide +kernel) (by decide +kernel)
set_option maxRecDepth 100000 in
theorem tw_428 : Cond.methodLink RX2 37 yX1_body ∈ lw_good := mw_tw 428 (by decide +kernel) (by decide +kernel)
set_option maxRecDepth 100000 in
theorem tw_429 : Cond.methodLink RX2 41 yX0_length ∈ lw_good := mw_tw 429 (by decide +kernel) (by decide +kernel)
set_option maxRecDepth 100000 in
theorem tw_430 : Cond.methodLink RX2 46 yX2_evictOldest ∈ lw_good := mw_tw 430 (by decide +kernel) (by decide +kernel)
set_option maxRecDepth 100000 in
theorem tw_432 : Cond.instanceMethod yX2_evictOldest ∈ lw_good := mw_tw 432 (by decide +kernel) (by decide +kernel)
set_option maxRecDepth 100000 in
theorem tw_433 : Cond.code yX2_evictOldest cX2_evictOldest 3 none ∈ lw_good := mw_tw 433 (by decide +kernel) (by decide +kernel)
set_option maxRecDepth 100000 in
theorem tw_438 : Cond.methodLink RX8 151 yX7_length ∈ lw_good := mw_tw 438 (by decide +kernel) (by decide +kernel)
set_option maxRecDepth 100000 in
theorem tw_439 : Cond.methodLink RX8 169 yX7_at ∈ lw_good := mw_tw 439 (by decide +kernel) (by decide +kernel)
set_option maxRecDepth 100000 in
theorem tw_440 : Cond.methodLink RX8 173 yX8_carryOutPart ∈ lw_good := mw_tw 440 (by decide +kernel) (by decide +kernel)
set_option maxRecDepth 100000 in
theorem tw_442 : Cond.instanceMethod yX8_carryOutPart ∈ lw_good := mw_tw 442 (by decide +kernel) (by decide +kernel)
set_option maxRecDepth 100000 in
theorem tw_443 : Cond.code yX8_carryOutPart cX8_carryOutPart 5 (some .boolean) ∈ lw_good := mw_tw 443 (by decide +kernel) (by decide +kernel)
set_option maxRecDepth 100000 in
theorem tw_444 : Cond.methodLink RX8 313 yX7_digitAt ∈ lw_good := mw_tw 444 (by decide +kernel) (by decide +kernel)
set_option maxRecDepth 100000 in
theorem tw_445 : Cond.instanceMethod yX7_digitAt ∈ lw_good := mw_tw 445 (by decide +kernel) (by decide +kernel)
set_option maxRecDepth 100000 in
theorem tw_446 : Cond.selects RX7 yX7_digitAt yX7_digitAt ∈ lw_good := mw_tw 446 (by decide +kernel) (by decide +kernel)
set_option maxRecDepth 100000 in
theorem tw_447 : Cond.code yX7_digitAt cX7_digitAt 3 (some .int) ∈ lw_good := mw_tw 447 (by decide +kernel) (by decide +kernel)
set_option maxRecDepth 100000 in
theorem tw_448 : Cond.methodLink RX7 19 yX7_at ∈ lw_good := mw_tw 448 (by decide +kernel) (by decide +kernel)
set_option maxRecDepth 100000 in
theorem tw_449 : Cond.methodLink RX8 155 yX8_isRecording ∈ lw_good := mw_tw 449 (by decide +kernel) (by decide +kernel)
set_option maxRecDepth 100000 in
theorem tw_451 : Cond.instanceMethod yX8_isRecording ∈ lw_good := mw_tw 451 (by decide +kernel) (by decide +kernel)
set_option maxRecDepth 100000 in
theorem tw_452 : Cond.code yX8_isRecording cX8_isRecording 2 (some .boolean) ∈ lw_good := mw_tw 452 (by decide +kernel) (by decide +kernel)
set_option maxRecDepth 100000 in
theorem tw_453 : Cond.methodLink RX8 152 yX8_countItems ∈ lw_good := mw_tw 453 (by decide +kernel) (by decide +kernel)
set_option maxRecDepth 100000 in
theorem tw_455 : Cond.instanceMethod yX8_countItems ∈ lw_good := mw_tw 455 (by decide +kernel) (by decide +kernel)
set_option maxRecDepth 100000 in
theorem tw_456 : Cond.code yX8_countItems cX8_countItems 6 (some .int) ∈ lw_good := mw_tw 456 (by decide +kernel) (by decide +kernel)
set_option maxRecDepth 100000 in
theorem tw_457 : Cond.methodLink RX8 310 yX8_itemEnd ∈ lw_good := mw_tw 457 (by decide +kernel) (by decide +kernel)
set_option maxRecDepth 100000 in
theorem tw_459 : Cond.instanceMethod yX8_itemEnd ∈ lw_good := mw_tw 459 (by decide +kernel) (by decide +kernel)
set_option maxRecDepth 100000 in
theorem tw_460 : Cond.code yX8_itemEnd cX8_itemEnd 3 (some .int) ∈ lw_good := mw_tw 460 (by decide +kernel) (by decide +kernel)
set_option maxRecDepth 100000 in
theorem tw_461 : Cond.methodLink RX8 161 yX8_applyItems ∈ lw_good := mw_tw 461 (by decide +kernel) (by decide +kernel)
set_option maxRecDepth 100000 in
theorem tw_463 : Cond.instanceMethod yX8_applyItems ∈ lw_good := mw_tw 463 (by decide +kernel) (by decide +kernel)
set_option maxRecDepth 100000 in
theorem tw_464 : Cond.code yX8_applyItems cX8_applyItems 7 none ∈ lw_good := mw_tw 464 (by decide +kernel) (by decide +kernel)
set_option maxRecDepth 100000 in
theorem tw_465 : Cond.methodLink RX8 316 yX8_applyItem ∈ lw_good := mw_tw 465 (by decide +kernel) (by decide +kernel)
set_option maxRecDepth 100000 in
theorem tw_467 : Cond.instanceMethod yX8_applyItem ∈ lw_good := mw_tw 467 (by decide +kernel) (by decide +kernel)
set_option maxRecDepth 100000 in
theorem tw_468 : Cond.code yX8_applyItem cX8_applyItem 7 none ∈ lw_good := mw_tw 468 (by decide +kernel) (by decide +kernel)
set_option maxRecDepth 100000 in
theorem tw_469 : Cond.methodLink RX8 319 yX5_turn ∈ lw_good := mw_tw 469 (by decide +kernel) (by decide +kernel)
set_option maxRecDepth 100000 in
theorem tw_470 : Cond.instanceMethod yX5_turn ∈ lw_good := mw_tw 470 (by decide +kernel) (by decide +kernel)
set_option maxRecDepth 100000 in
theorem tw_471 : Cond.selects RX5 yX5_turn yX5_turn ∈ lw_good := mw_tw 471 (by decide +kernel) (by decide +kernel)
set_option maxRecDepth 100000 in
theorem tw_472 : Cond.code yX5_turn cX5_turn 3 none ∈ lw_good := mw_tw 472 (by decide +kernel) (by decide +kernel)
set_option maxRecDepth 100000 in
theorem tw_473 : Cond.methodLink RX8 323 yX5_limit ∈ lw_good := mw_tw 473 (by decide +kernel) (by decide +kernel)
set_option maxRecDepth 100000 in
theorem tw_474 : Cond.instanceMethod yX5_limit ∈ lw_good := mw_tw 474 (by decide +kernel) (by decide +kernel)
set_option maxRecDepth 100000 in
theorem tw_475 : Cond.selects RX5 yX5_limit yX5_limit ∈ lw_good := mw_tw 475 (by decide +kernel) (by decide +kernel)
set_option maxRecDepth 100000 in
theorem tw_476 : Cond.code yX5_limit cX5_limit 3 none ∈ lw_good := mw_tw 476 (by decide +kernel) (by decide +kernel)
set_option maxRecDepth 100000 in
theorem tw_481 : Cond.methodLink RX8 211 yX0_at ∈ lw_good := mw_tw 481 (by decide +kernel) (by decide +kernel)
set_option maxRecDepth 100000 in
theorem tw_482 : Cond.instanceMethod yX0_at ∈ lw_good := mw_tw 482 (by decide +kernel) (by decide +kernel)
set_option maxRecDepth 100000 in
theorem tw_483 : Cond.selects RX0 yX0_at yX0_at ∈ lw_good := mw_tw 483 (by decide +kernel) (by decide +kernel)
set_option maxRecDepth 100000 in
theorem tw_484 : Cond.code yX0_at cX0_at 2 (some .int) ∈ lw_good := mw_tw 484 (by decide +kernel) (by decide +kernel)
set_option maxRecDepth 100000 in
theorem tw_489 : Cond.methodLink RX8 214 yX5_phase ∈ lw_good := mw_tw 489 (by decide +kernel) (by decide +kernel)
set_option maxRecDepth 100000 in
theorem tw_490 : Cond.instanceMethod yX5_phase ∈ lw_good := mw_tw 490 (by decide +kernel) (by decide +kernel)
set_option maxRecDepth 100000 in
theorem tw_491 : Cond.selects RX5 yX5_phase yX5_phase ∈ lw_good := mw_tw 491 (by decide +kernel) (by decide +kernel)
set_option maxRecDepth 100000 in
theorem tw_492 : Cond.code yX5_phase cX5_phase 1 (some .int) ∈ lw_good := mw_tw 492 (by decide +kernel) (by decide +kernel)
set_option maxRecDepth 100000 in
theorem tw_505 : Cond.methodLink RX8 226 yX4_full ∈ lw_good := mw_tw 505 (by decide +kernel) (by decide +kernel)
set_option maxRecDepth 100000 in
theorem tw_506 : Cond.instanceMethod yX4_full ∈ lw_good := mw_tw 506 (by decide +kernel) (by decide +kernel)
set_option maxRecDepth 100000 in
theorem tw_507 : Cond.selects RX4 yX4_full yX4_full ∈ lw_good := mw_tw 507 (by decide +kernel) (by decide +kernel)
set_option maxRecDepth 100000 in
theorem tw_508 : Cond.code yX4_full cX4_full 1 (some .int) ∈ lw_good := mw_tw 508 (by decide +kernel) (by decide +kernel)
set_option maxRecDepth 100000 in
theorem tw_509 : Cond.methodLink RX8 181 yX1_number ∈ lw_good := mw_tw 509 (by decide +kernel) (by decide +kernel)
set_option maxRecDepth 100000 in
theorem tw_510 : Cond.methodLink RX8 229 yX2_kept ∈ lw_good := mw_tw 510 (by decide +kernel) (by decide +kernel)
set_option maxRecDepth 100000 in
theorem tw_511 : Cond.instanceMethod yX2_kept ∈ lw_good := mw_tw 511 (by decide +kernel) (by decide +kernel)
set_option maxRecDepth 100000 in
theorem tw_512 : Cond.selects RX2 yX2_kept yX2_kept ∈ lw_good := mw_tw 512 (by decide +kernel) (by decide +kernel)
set_option maxRecDepth 100000 in
theorem tw_513 : Cond.code yX2_kept cX2_kept 1 (some .int) ∈ lw_good := mw_tw 513 (by decide +kernel) (by decide +kernel)
set_option maxRecDepth 100000 in
theorem tw_514 : Cond.methodLink RX8 232 yX2_evicted ∈ lw_good := mw_tw 514 (by decide +kernel) (by decide +kernel)
set_option maxRecDepth 100000 in
theorem tw_515 : Cond.instanceMethod yX2_evicted ∈ lw_good := mw_tw 515 (by decide +kernel) (by decide +kernel)
set_option maxRecDepth 100000 in
theorem tw_516 : Cond.selects RX2 yX2_evicted yX2_evicted ∈ lw_good := mw_tw 516 (by decide +kernel) (by decide +kernel)
set_option maxRecDepth 100000 in
theorem tw_517 : Cond.code yX2_evicted cX2_evicted 1 (some .int) ∈ lw_good := mw_tw 517 (by decide +kernel) (by decide +kernel)
set_option maxRecDepth 100000 in
theorem tw_518 : Cond.methodLink RX8 235 yX6_used ∈ lw_good := mw_tw 518 (by decide +kernel) (by decide +kernel)
set_option maxRecDepth 100000 in
theorem tw_519 : Cond.instanceMethod yX6_used ∈ lw_good := mw_tw 519 (by decide +kernel) (by decide +kernel)
set_option maxRecDepth 100000 in
theorem tw_520 : Cond.selects RX6 yX6_used yX6_used ∈ lw_good := mw_tw 520 (by decide +kernel) (by decide +kernel)
set_option maxRecDepth 100000 in
theorem tw_521 : Cond.code yX6_used cX6_used 1 (some .int) ∈ lw_good := mw_tw 521 (by decide +kernel) (by decide +kernel)
set_option maxRecDepth 100000 in
theorem tw_526 : Cond.methodLink RX8 238 yX3_lostInAll ∈ lw_good := mw_tw 526 (by decide +kernel) (by decide +kernel)
set_option maxRecDepth 100000 in
theorem tw_527 : Cond.instanceMethod yX3_lostInAll ∈ lw_good := mw_tw 527 (by decide +kernel) (by decide +kernel)
set_option maxRecDepth 100000 in
theorem tw_528 : Cond.selects RX3 yX3_lostInAll yX3_lostInAll ∈ lw_good := mw_tw 528 (by decide +kernel) (by decide +kernel)
set_option maxRecDepth 100000 in
theorem tw_529 : Cond.code yX3_lostInAll cX3_lostInAll 1 (some .int) ∈ lw_good := mw_tw 529 (by decide +kernel) (by decide +kernel)
set_option maxRecDepth 100000 in
theorem tw_542 : Cond.classLink RX8 93 "java/lang/IllegalArgumentException" ∈ lw_good := mw_tw 542 (by decide +kernel) (by decide +kernel)
set_option maxRecDepth 100000 in
theorem tw_608 : Cond.classLink RX8 103 "java/lang/IllegalStateException" ∈ lw_good := mw_tw 608 (by decide +kernel) (by decide +kernel)
set_option maxRecDepth 100000 in
theorem tw_650 : Cond.methodLink RX8 184 yX5_runFrom ∈ lw_good := mw_tw 650 (by decide +kernel) (by decide +kernel)
set_option maxRecDepth 100000 in
theorem tw_651 : Cond.instanceMethod yX5_runFrom ∈ lw_good := mw_tw 651 (by decide +kernel) (by decide +kernel)
set_option maxRecDepth 100000 in
theorem tw_652 : Cond.selects RX5 yX5_runFrom yX5_runFrom ∈ lw_good := mw_tw 652 (by decide +kernel) (by decide +kernel)
set_option maxRecDepth 100000 in
theorem tw_653 : Cond.code yX5_runFrom cX5_runFrom 2 none ∈ lw_good := mw_tw 653 (by decide +kernel) (by decide +kernel)
set_option maxRecDepth 100000 in
theorem tw_662 : Cond.methodLink RX8 189 yX8_endRecording ∈ lw_good := mw_tw 662 (by decide +kernel) (by decide +kernel)
set_option maxRecDepth 100000 in
theorem tw_664 : Cond.instanceMethod yX8_endRecording ∈ lw_good := mw_tw 664 (by decide +kernel) (by decide +kernel)
set_option maxRecDepth 100000 in
theorem tw_665 : Cond.code yX8_endRecording cX8_endRecording 3 (some .int) ∈ lw_good := mw_tw 665 (by decide +kernel) (by decide +kernel)
set_option maxRecDepth 100000 in
theorem tw_666 : Cond.methodLink RX8 307 yX5_endWith ∈ lw_good := mw_tw 666 (by decide +kernel) (by decide +kernel)
set_option maxRecDepth 100000 in
theorem tw_667 : Cond.instanceMethod yX5_endWith ∈ lw_good := mw_tw 667 (by decide +kernel) (by decide +kernel)
set_option maxRecDepth 100000 in
theorem tw_668 : Cond.selects RX5 yX5_endWith yX5_endWith ∈ lw_good := mw_tw 668 (by decide +kernel) (by decide +kernel)
set_option maxRecDepth 100000 in
theorem tw_669 : Cond.code yX5_endWith cX5_endWith 2 none ∈ lw_good := mw_tw 669 (by decide +kernel) (by decide +kernel)
set_option maxRecDepth 100000 in
theorem tw_678 : Cond.methodLink RX8 195 yX5_shut ∈ lw_good := mw_tw 678 (by decide +kernel) (by decide +kernel)
set_option maxRecDepth 100000 in
theorem tw_679 : Cond.instanceMethod yX5_shut ∈ lw_good := mw_tw 679 (by decide +kernel) (by decide +kernel)
set_option maxRecDepth 100000 in
theorem tw_680 : Cond.selects RX5 yX5_shut yX5_shut ∈ lw_good := mw_tw 680 (by decide +kernel) (by decide +kernel)
set_option maxRecDepth 100000 in
theorem tw_681 : Cond.code yX5_shut cX5_shut 1 none ∈ lw_good := mw_tw 681 (by decide +kernel) (by decide +kernel)
set_option maxRecDepth 100000 in
theorem tw_690 : Cond.methodLink RX8 201 yX5_firstChunk ∈ lw_good := mw_tw 690 (by decide +kernel) (by decide +kernel)
set_option maxRecDepth 100000 in
theorem tw_691 : Cond.instanceMethod yX5_firstChunk ∈ lw_good := mw_tw 691 (by decide +kernel) (by decide +kernel)
set_option maxRecDepth 100000 in
theorem tw_692 : Cond.selects RX5 yX5_firstChunk yX5_firstChunk ∈ lw_good := mw_tw 692 (by decide +kernel) (by decide +kernel)
set_option maxRecDepth 100000 in
theorem tw_693 : Cond.code yX5_firstChunk cX5_firstChunk 1 (some .int) ∈ lw_good := mw_tw 693 (by decide +kernel) (by decide +kernel)
set_option maxRecDepth 100000 in
theorem tw_694 : Cond.methodLink RX8 204 yX5_lastChunk ∈ lw_good := mw_tw 694 (by decide +kernel) (by decide +kernel)
set_option maxRecDepth 100000 in
theorem tw_695 : Cond.instanceMethod yX5_lastChunk ∈ lw_good := mw_tw 695 (by decide +kernel) (by decide +kernel)
set_option maxRecDepth 100000 in
theorem tw_696 : Cond.selects RX5 yX5_lastChunk yX5_lastChunk ∈ lw_good := mw_tw 696 (by decide +kernel) (by decide +kernel)
set_option maxRecDepth 100000 in
theorem tw_697 : Cond.code yX5_lastChunk cX5_lastChunk 1 (some .int) ∈ lw_good := mw_tw 697 (by decide +kernel) (by decide +kernel)
set_option maxRecDepth 100000 in
theorem tw_698 : Cond.methodLink RX8 207 yX2_writeKept ∈ lw_good := mw_tw 698 (by decide +kernel) (by decide +kernel)
set_option maxRecDepth 100000 in
theorem tw_699 : Cond.instanceMethod yX2_writeKept ∈ lw_good := mw_tw 699 (by decide +kernel) (by decide +kernel)
set_option maxRecDepth 100000 in
theorem tw_700 : Cond.selects RX2 yX2_writeKept yX2_writeKept ∈ lw_good := mw_tw 700 (by decide +kernel) (by decide +kernel)
set_option maxRecDepth 100000 in
theorem tw_701 : Cond.code yX2_writeKept cX2_writeKept 6 none ∈ lw_good := mw_tw 701 (by decide +kernel) (by decide +kernel)
set_option maxRecDepth 100000 in
theorem tw_702 : Cond.methodLink RX2 49 yX1_writeTo ∈ lw_good := mw_tw 702 (by decide +kernel) (by decide +kernel)
set_option maxRecDepth 100000 in
theorem tw_703 : Cond.instanceMethod yX1_writeTo ∈ lw_good := mw_tw 703 (by decide +kernel) (by decide +kernel)
set_option maxRecDepth 100000 in
theorem tw_704 : Cond.selects RX1 yX1_writeTo yX1_writeTo ∈ lw_good := mw_tw 704 (by decide +kernel) (by decide +kernel)
set_option maxRecDepth 100000 in
theorem tw_705 : Cond.code yX1_writeTo cX1_writeTo 4 none ∈ lw_good := mw_tw 705 (by decide +kernel) (by decide +kernel)
set_option maxRecDepth 100000 in
theorem tw_706 : Cond.methodLink RX1 47 yX0_addRow ∈ lw_good := mw_tw 706 (by decide +kernel) (by decide +kernel)
set_option maxRecDepth 100000 in
theorem tw_707 : Cond.methodLink RX1 51 yX1_countStrings ∈ lw_good := mw_tw 707 (by decide +kernel) (by decide +kernel)
set_option maxRecDepth 100000 in
theorem tw_709 : Cond.instanceMethod yX1_countStrings ∈ lw_good := mw_tw 709 (by decide +kernel) (by decide +kernel)
set_option maxRecDepth 100000 in
theorem tw_710 : Cond.code yX1_countStrings cX1_countStrings 3 (some .int) ∈ lw_good := mw_tw 710 (by decide +kernel) (by decide +kernel)
set_option maxRecDepth 100000 in
theorem tw_711 : Cond.methodLink RX1 55 yX6_writeTo ∈ lw_good := mw_tw 711 (by decide +kernel) (by decide +kernel)
set_option maxRecDepth 100000 in
theorem tw_712 : Cond.instanceMethod yX6_writeTo ∈ lw_good := mw_tw 712 (by decide +kernel) (by decide +kernel)
set_option maxRecDepth 100000 in
theorem tw_713 : Cond.selects RX6 yX6_writeTo yX6_writeTo ∈ lw_good := mw_tw 713 (by decide +kernel) (by decide +kernel)
set_option maxRecDepth 100000 in
theorem tw_714 : Cond.code yX6_writeTo cX6_writeTo 4 none ∈ lw_good := mw_tw 714 (by decide +kernel) (by decide +kernel)
set_option maxRecDepth 100000 in
theorem tw_715 : Cond.methodLink RX6 37 yX0_addVariable ∈ lw_good := mw_tw 715 (by decide +kernel) (by decide +kernel)
set_option maxRecDepth 100000 in
theorem tw_716 : Cond.methodLink RX6 43 yX0_add ∈ lw_good := mw_tw 716 (by decide +kernel) (by decide +kernel)
set_option maxRecDepth 100000 in
theorem tw_722 : Cond.methodLink RX9 1 objectInit ∈ lw_good := mw_tw 722 (by decide +kernel) (by decide +kernel)
set_option maxRecDepth 100000 in
theorem tw_723 : Cond.fieldLink RX9 87 "EventRecorderModel" "size" "I" ∈ lw_good := mw_tw 723 (by decide +kernel) (by decide +kernel)
set_option maxRecDepth 100000 in
theorem tw_724 : Cond.fieldLink RX9 91 "EventRecorderModel" "pool" "I" ∈ lw_good := mw_tw 724 (by decide +kernel) (by decide +kernel)
set_option maxRecDepth 100000 in
theorem tw_725 : Cond.fieldLink RX9 94 "EventRecorderModel" "keep" "I" ∈ lw_good := mw_tw 725 (by decide +kernel) (by decide +kernel)
set_option maxRecDepth 100000 in
theorem tw_726 : Cond.fieldLink RX9 106 "EventRecorderModel" "now" "I" ∈ lw_good := mw_tw 726 (by decide +kernel) (by decide +kernel)
set_option maxRecDepth 100000 in
theorem tw_727 : Cond.fieldLink RX9 97 "EventRecorderModel" "thrown" "I" ∈ lw_good := mw_tw 727 (by decide +kernel) (by decide +kernel)
set_option maxRecDepth 100000 in
theorem tw_728 : Cond.fieldLink RX9 103 "EventRecorderModel" "typed" "I" ∈ lw_good := mw_tw 728 (by decide +kernel) (by decide +kernel)
set_option maxRecDepth 100000 in
theorem tw_729 : Cond.fieldLink RX9 7 "EventRecorderModel" "text" "[C" ∈ lw_good := mw_tw 729 (by decide +kernel) (by decide +kernel)
set_option maxRecDepth 100000 in
theorem tw_730 : Cond.fieldLink RX9 109 "EventRecorderModel" "types" "I" ∈ lw_good := mw_tw 730 (by decide +kernel) (by decide +kernel)
set_option maxRecDepth 100000 in
theorem tw_731 : Cond.fieldLink RX9 13 "EventRecorderModel" "ints" "[I" ∈ lw_good := mw_tw 731 (by decide +kernel) (by decide +kernel)
set_option maxRecDepth 100000 in
theorem tw_732 : Cond.fieldLink RX9 17 "EventRecorderModel" "hasString" "[Z" ∈ lw_good := mw_tw 732 (by decide +kernel) (by decide +kernel)
set_option maxRecDepth 100000 in
theorem tw_733 : Cond.fieldLink RX9 119 "EventRecorderModel" "strings" "I" ∈ lw_good := mw_tw 733 (by decide +kernel) (by decide +kernel)
set_option maxRecDepth 100000 in
theorem tw_734 : Cond.fieldLink RX9 21 "EventRecorderModel" "chars" "[C" ∈ lw_good := mw_tw 734 (by decide +kernel) (by decide +kernel)
set_option maxRecDepth 100000 in
theorem tw_735 : Cond.fieldLink RX9 24 "EventRecorderModel" "length" "[I" ∈ lw_good := mw_tw 735 (by decide +kernel) (by decide +kernel)
set_option maxRecDepth 100000 in
theorem tw_736 : Cond.fieldLink RX9 27 "EventRecorderModel" "begun" "[I" ∈ lw_good := mw_tw 736 (by decide +kernel) (by decide +kernel)
set_option maxRecDepth 100000 in
theorem tw_737 : Cond.fieldLink RX9 30 "EventRecorderModel" "ticks" "[I" ∈ lw_good := mw_tw 737 (by decide +kernel) (by decide +kernel)
set_option maxRecDepth 100000 in
theorem tw_738 : Cond.fieldLink RX9 33 "EventRecorderModel" "bytes" "[I" ∈ lw_good := mw_tw 738 (by decide +kernel) (by decide +kernel)
set_option maxRecDepth 100000 in
theorem tw_739 : Cond.fieldLink RX9 36 "EventRecorderModel" "many" "[I" ∈ lw_good := mw_tw 739 (by decide +kernel) (by decide +kernel)
set_option maxRecDepth 100000 in
theorem tw_740 : Cond.fieldLink RX9 39 "EventRecorderModel" "events" "[I" ∈ lw_good := mw_tw 740 (by decide +kernel) (by decide +kernel)
set_option maxRecDepth 100000 in
theorem tw_741 : Cond.fieldLink RX9 136 "EventRecorderModel" "full" "I" ∈ lw_good := mw_tw 741 (by decide +kernel) (by decide +kernel)
set_option maxRecDepth 100000 in
theorem tw_742 : Cond.fieldLink RX9 159 "EventRecorderModel" "kept" "I" ∈ lw_good := mw_tw 742 (by decide +kernel) (by decide +kernel)
set_option maxRecDepth 100000 in
theorem tw_743 : Cond.fieldLink RX9 165 "EventRecorderModel" "evicted" "I" ∈ lw_good := mw_tw 743 (by decide +kernel) (by decide +kernel)
set_option maxRecDepth 100000 in
theorem tw_744 : Cond.fieldLink RX9 42 "EventRecorderModel" "data" "[I" ∈ lw_good := mw_tw 744 (by decide +kernel) (by decide +kernel)
set_option maxRecDepth 100000 in
theorem tw_745 : Cond.fieldLink RX9 45 "EventRecorderModel" "dataLength" "[I" ∈ lw_good := mw_tw 745 (by decide +kernel) (by decide +kernel)
set_option maxRecDepth 100000 in
theorem tw_746 : Cond.fieldLink RX9 48 "EventRecorderModel" "number" "[I" ∈ lw_good := mw_tw 746 (by decide +kernel) (by decide +kernel)
set_option maxRecDepth 100000 in
theorem tw_747 : Cond.fieldLink RX9 51 "EventRecorderModel" "opened" "[I" ∈ lw_good := mw_tw 747 (by decide +kernel) (by decide +kernel)
set_option maxRecDepth 100000 in
theorem tw_748 : Cond.fieldLink RX9 54 "EventRecorderModel" "eventCount" "[I" ∈ lw_good := mw_tw 748 (by decide +kernel) (by decide +kernel)
set_option maxRecDepth 100000 in
theorem tw_749 : Cond.fieldLink RX9 57 "EventRecorderModel" "used" "[I" ∈ lw_good := mw_tw 749 (by decide +kernel) (by decide +kernel)
set_option maxRecDepth 100000 in
theorem tw_750 : Cond.fieldLink RX9 60 "EventRecorderModel" "lostHere" "[I" ∈ lw_good := mw_tw 750 (by decide +kernel) (by decide +kernel)
set_option maxRecDepth 100000 in
theorem tw_751 : Cond.fieldLink RX9 63 "EventRecorderModel" "lostAll" "[I" ∈ lw_good := mw_tw 751 (by decide +kernel) (by decide +kernel)
set_option maxRecDepth 100000 in
theorem tw_752 : Cond.fieldLink RX9 100 "EventRecorderModel" "recordings" "I" ∈ lw_good := mw_tw 752 (by decide +kernel) (by decide +kernel)
set_option maxRecDepth 100000 in
theorem tw_753 : Cond.fieldLink RX9 66 "EventRecorderModel" "state" "[I" ∈ lw_good := mw_tw 753 (by decide +kernel) (by decide +kernel)
set_option maxRecDepth 100000 in
theorem tw_754 : Cond.fieldLink RX9 69 "EventRecorderModel" "off" "[Z" ∈ lw_good := mw_tw 754 (by decide +kernel) (by decide +kernel)
set_option maxRecDepth 100000 in
theorem tw_755 : Cond.fieldLink RX9 72 "EventRecorderModel" "threshold" "[I" ∈ lw_good := mw_tw 755 (by decide +kernel) (by decide +kernel)
set_option maxRecDepth 100000 in
theorem tw_756 : Cond.fieldLink RX9 75 "EventRecorderModel" "from" "[I" ∈ lw_good := mw_tw 756 (by decide +kernel) (by decide +kernel)
set_option maxRecDepth 100000 in
theorem tw_757 : Cond.fieldLink RX9 78 "EventRecorderModel" "upTo" "[I" ∈ lw_good := mw_tw 757 (by decide +kernel) (by decide +kernel)
set_option maxRecDepth 100000 in
theorem tw_758 : Cond.fieldLink RX9 81 "EventRecorderModel" "written" "[I" ∈ lw_good := mw_tw 758 (by decide +kernel) (by decide +kernel)
set_option maxRecDepth 100000 in
theorem tw_759 : Cond.fieldLink RX9 191 "EventRecorderModel" "writtenLength" "I" ∈ lw_good := mw_tw 759 (by decide +kernel) (by decide +kernel)
set_option maxRecDepth 100000 in
theorem tw_760 : Cond.fieldLink RX9 84 "EventRecorderModel" "event" "[I" ∈ lw_good := mw_tw 760 (by decide +kernel) (by decide +kernel)
set_option maxRecDepth 100000 in
theorem tw_761 : Cond.fieldLink RX9 116 "EventRecorderModel" "eventLength" "I" ∈ lw_good := mw_tw 761 (by decide +kernel) (by decide +kernel)
set_option maxRecDepth 100000 in
theorem tw_861 : Cond.methodLink RX9 112 yX9_isThread ∈ lw_good := mw_tw 861 (by decide +kernel) (by decide +kernel)
set_option maxRecDepth 100000 in
theorem tw_862 : Cond.static yX9_isThread ∈ lw_good := mw_tw 862 (by decide +kernel) (by decide +kernel)
set_option maxRecDepth 100000 in
theorem tw_863 : Cond.code yX9_isThread cX9_isThread 1 (some .boolean) ∈ lw_good := mw_tw 863 (by decide +kernel) (by decide +kernel)
set_option maxRecDepth 100000 in
theorem tw_868 : Cond.methodLink RX9 122 yX9_unwanted ∈ lw_good := mw_tw 868 (by decide +kernel) (by decide +kernel)
set_option maxRecDepth 100000 in
theorem tw_870 : Cond.instanceMethod yX9_unwanted ∈ lw_good := mw_tw 870 (by decide +kernel) (by decide +kernel)
set_option maxRecDepth 100000 in
theorem tw_871 : Cond.code yX9_unwanted cX9_unwanted 5 (some .int) ∈ lw_good := mw_tw 871 (by decide +kernel) (by decide +kernel)
set_option maxRecDepth 100000 in
theorem tw_872 : Cond.methodLink RX9 126 yX9_stringOf ∈ lw_good := mw_tw 872 (by decide +kernel) (by decide +kernel)
set_option maxRecDepth 100000 in
theorem tw_874 : Cond.instanceMethod yX9_stringOf ∈ lw_good := mw_tw 874 (by decide +kernel) (by decide +kernel)
set_option maxRecDepth 100000 in
theorem tw_875 : Cond.code yX9_stringOf cX9_stringOf 5 (some .int) ∈ lw_good := mw_tw 875 (by decide +kernel) (by decide +kernel)
set_option maxRecDepth 100000 in
theorem tw_876 : Cond.methodLink RX9 130 yX9_width ∈ lw_good := mw_tw 876 (by decide +kernel) (by decide +kernel)
set_option maxRecDepth 100000 in
theorem tw_877 : Cond.static yX9_width ∈ lw_good := mw_tw 877 (by decide +kernel) (by decide +kernel)
set_option maxRecDepth 100000 in
theorem tw_878 : Cond.code yX9_width cX9_width 3 (some .int) ∈ lw_good := mw_tw 878 (by decide +kernel) (by decide +kernel)
set_option maxRecDepth 100000 in
theorem tw_879 : Cond.methodLink RX9 133 yX9_zigzag ∈ lw_good := mw_tw 879 (by decide +kernel) (by decide +kernel)
set_option maxRecDepth 100000 in
theorem tw_880 : Cond.static yX9_zigzag ∈ lw_good := mw_tw 880 (by decide +kernel) (by decide +kernel)
set_option maxRecDepth 100000 in
theorem tw_881 : Cond.code yX9_zigzag cX9_zigzag 1 (some .int) ∈ lw_good := mw_tw 881 (by decide +kernel) (by decide +kernel)
set_option maxRecDepth 100000 in
theorem tw_882 : Cond.methodLink RX9 139 yX9_variable ∈ lw_good := mw_tw 882 (by decide +kernel) (by decide +kernel)
set_option maxRecDepth 100000 in
theorem tw_884 : Cond.instanceMethod yX9_variable ∈ lw_good := mw_tw 884 (by decide +kernel) (by decide +kernel)
set_option maxRecDepth 100000 in
theorem tw_885 : Cond.code yX9_variable cX9_variable 5 none ∈ lw_good := mw_tw 885 (by decide +kernel) (by decide +kernel)
set_option maxRecDepth 100000 in
theorem tw_886 : Cond.methodLink RX9 143 yX9_keepString ∈ lw_good := mw_tw 886 (by decide +kernel) (by decide +kernel)
set_option maxRecDepth 100000 in
theorem tw_888 : Cond.instanceMethod yX9_keepString ∈ lw_good := mw_tw 888 (by decide +kernel) (by decide +kernel)
set_option maxRecDepth 100000 in
theorem tw_889 : Cond.code yX9_keepString cX9_keepString 4 none ∈ lw_good := mw_tw 889 (by decide +kernel) (by decide +kernel)
set_option maxRecDepth 100000 in
theorem tw_890 : Cond.methodLink RX9 147 yX9_move ∈ lw_good := mw_tw 890 (by decide +kernel) (by decide +kernel)
set_option maxRecDepth 100000 in
theorem tw_892 : Cond.instanceMethod yX9_move ∈ lw_good := mw_tw 892 (by decide +kernel) (by decide +kernel)
set_option maxRecDepth 100000 in
theorem tw_893 : Cond.code yX9_move cX9_move 4 none ∈ lw_good := mw_tw 893 (by decide +kernel) (by decide +kernel)
set_option maxRecDepth 100000 in
theorem tw_898 : Cond.methodLink RX9 153 yX9_drain ∈ lw_good := mw_tw 898 (by decide +kernel) (by decide +kernel)
set_option maxRecDepth 100000 in
theorem tw_900 : Cond.instanceMethod yX9_drain ∈ lw_good := mw_tw 900 (by decide +kernel) (by decide +kernel)
set_option maxRecDepth 100000 in
theorem tw_901 : Cond.code yX9_drain cX9_drain 4 (some .int) ∈ lw_good := mw_tw 901 (by decide +kernel) (by decide +kernel)
set_option maxRecDepth 100000 in
theorem tw_902 : Cond.methodLink RX9 168 yX9_rotate ∈ lw_good := mw_tw 902 (by decide +kernel) (by decide +kernel)
set_option maxRecDepth 100000 in
theorem tw_904 : Cond.instanceMethod yX9_rotate ∈ lw_good := mw_tw 904 (by decide +kernel) (by decide +kernel)
set_option maxRecDepth 100000 in
theorem tw_905 : Cond.code yX9_rotate cX9_rotate 3 none ∈ lw_good := mw_tw 905 (by decide +kernel) (by decide +kernel)
set_option maxRecDepth 100000 in
theorem tw_906 : Cond.methodLink RX9 156 yX9_loss ∈ lw_good := mw_tw 906 (by decide +kernel) (by decide +kernel)
set_option maxRecDepth 100000 in
theorem tw_908 : Cond.instanceMethod yX9_loss ∈ lw_good := mw_tw 908 (by decide +kernel) (by decide +kernel)
set_option maxRecDepth 100000 in
theorem tw_909 : Cond.code yX9_loss cX9_loss 3 none ∈ lw_good := mw_tw 909 (by decide +kernel) (by decide +kernel)
set_option maxRecDepth 100000 in
theorem tw_910 : Cond.methodLink RX9 150 yX9_put ∈ lw_good := mw_tw 910 (by decide +kernel) (by decide +kernel)
set_option maxRecDepth 100000 in
theorem tw_912 : Cond.instanceMethod yX9_put ∈ lw_good := mw_tw 912 (by decide +kernel) (by decide +kernel)
set_option maxRecDepth 100000 in
theorem tw_913 : Cond.code yX9_put cX9_put 2 none ∈ lw_good := mw_tw 913 (by decide +kernel) (by decide +kernel)
set_option maxRecDepth 100000 in
theorem tw_914 : Cond.methodLink RX9 162 yX9_copyChunk ∈ lw_good := mw_tw 914 (by decide +kernel) (by decide +kernel)
set_option maxRecDepth 100000 in
theorem tw_916 : Cond.instanceMethod yX9_copyChunk ∈ lw_good := mw_tw 916 (by decide +kernel) (by decide +kernel)
set_option maxRecDepth 100000 in
theorem tw_917 : Cond.code yX9_copyChunk cX9_copyChunk 4 none ∈ lw_good := mw_tw 917 (by decide +kernel) (by decide +kernel)
set_option maxRecDepth 100000 in
theorem tw_926 : Cond.methodLink RX9 178 yX9_items ∈ lw_good := mw_tw 926 (by decide +kernel) (by decide +kernel)
set_option maxRecDepth 100000 in
theorem tw_928 : Cond.instanceMethod yX9_items ∈ lw_good := mw_tw 928 (by decide +kernel) (by decide +kernel)
set_option maxRecDepth 100000 in
theorem tw_929 : Cond.code yX9_items cX9_items 5 (some .int) ∈ lw_good := mw_tw 929 (by decide +kernel) (by decide +kernel)
set_option maxRecDepth 100000 in
theorem tw_930 : Cond.methodLink RX9 175 yX9_itemEnd ∈ lw_good := mw_tw 930 (by decide +kernel) (by decide +kernel)
set_option maxRecDepth 100000 in
theorem tw_932 : Cond.instanceMethod yX9_itemEnd ∈ lw_good := mw_tw 932 (by decide +kernel) (by decide +kernel)
set_option maxRecDepth 100000 in
theorem tw_933 : Cond.code yX9_itemEnd cX9_itemEnd 4 (some .int) ∈ lw_good := mw_tw 933 (by decide +kernel) (by decide +kernel)
set_option maxRecDepth 100000 in
theorem tw_934 : Cond.methodLink RX9 171 yX9_digit ∈ lw_good := mw_tw 934 (by decide +kernel) (by decide +kernel)
set_option maxRecDepth 100000 in
theorem tw_936 : Cond.instanceMethod yX9_digit ∈ lw_good := mw_tw 936 (by decide +kernel) (by decide +kernel)
set_option maxRecDepth 100000 in
theorem tw_937 : Cond.code yX9_digit cX9_digit 3 (some .boolean) ∈ lw_good := mw_tw 937 (by decide +kernel) (by decide +kernel)
set_option maxRecDepth 100000 in
theorem tw_938 : Cond.methodLink RX9 181 yX9_isRecording ∈ lw_good := mw_tw 938 (by decide +kernel) (by decide +kernel)
set_option maxRecDepth 100000 in
theorem tw_940 : Cond.instanceMethod yX9_isRecording ∈ lw_good := mw_tw 940 (by decide +kernel) (by decide +kernel)
set_option maxRecDepth 100000 in
theorem tw_941 : Cond.code yX9_isRecording cX9_isRecording 2 (some .boolean) ∈ lw_good := mw_tw 941 (by decide +kernel) (by decide +kernel)
set_option maxRecDepth 100000 in
theorem tw_942 : Cond.methodLink RX9 184 yX9_set ∈ lw_good := mw_tw 942 (by decide +kernel) (by decide +kernel)
set_option maxRecDepth 100000 in
theorem tw_944 : Cond.instanceMethod yX9_set ∈ lw_good := mw_tw 944 (by decide +kernel) (by decide +kernel)
set_option maxRecDepth 100000 in
theorem tw_945 : Cond.code yX9_set cX9_set 9 none ∈ lw_good := mw_tw 945 (by decide +kernel) (by decide +kernel)
set_option maxRecDepth 100000 in
theorem tw_958 : Cond.methodLink RX9 188 yX9_end ∈ lw_good := mw_tw 958 (by decide +kernel) (by decide +kernel)
set_option maxRecDepth 100000 in
theorem tw_960 : Cond.instanceMethod yX9_end ∈ lw_good := mw_tw 960 (by decide +kernel) (by decide +kernel)
set_option maxRecDepth 100000 in
theorem tw_961 : Cond.code yX9_end cX9_end 2 (some .int) ∈ lw_good := mw_tw 961 (by decide +kernel) (by decide +kernel)
set_option maxRecDepth 100000 in
theorem tw_970 : Cond.methodLink RX9 200 yX9_writeOut ∈ lw_good := mw_tw 970 (by decide +kernel) (by decide +kernel)
set_option maxRecDepth 100000 in
theorem tw_972 : Cond.instanceMethod yX9_writeOut ∈ lw_good := mw_tw 972 (by decide +kernel) (by decide +kernel)
set_option maxRecDepth 100000 in
theorem tw_973 : Cond.code yX9_writeOut cX9_writeOut 5 none ∈ lw_good := mw_tw 973 (by decide +kernel) (by decide +kernel)
set_option maxRecDepth 100000 in
theorem tw_974 : Cond.methodLink RX9 194 yX9_out ∈ lw_good := mw_tw 974 (by decide +kernel) (by decide +kernel)
set_option maxRecDepth 100000 in
theorem tw_976 : Cond.instanceMethod yX9_out ∈ lw_good := mw_tw 976 (by decide +kernel) (by decide +kernel)
set_option maxRecDepth 100000 in
theorem tw_977 : Cond.code yX9_out cX9_out 2 none ∈ lw_good := mw_tw 977 (by decide +kernel) (by decide +kernel)
set_option maxRecDepth 100000 in
theorem tw_978 : Cond.methodLink RX9 197 yX9_outVariable ∈ lw_good := mw_tw 978 (by decide +kernel) (by decide +kernel)
set_option maxRecDepth 100000 in
theorem tw_980 : Cond.instanceMethod yX9_outVariable ∈ lw_good := mw_tw 980 (by decide +kernel) (by decide +kernel)
set_option maxRecDepth 100000 in
theorem tw_981 : Cond.code yX9_outVariable cX9_outVariable 3 none ∈ lw_good := mw_tw 981 (by decide +kernel) (by decide +kernel)
