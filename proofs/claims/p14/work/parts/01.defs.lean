/-! names (printed by program in the claim, those that are used), and the one list of words -/
def RX0 : String := "NoiseBench$Channel"
def TX0 : u_T := fun k => match k with
  | 0 => ("NoiseBench$Channel", "weights", "[I", true)
  | 1 => ("NoiseBench$Channel", "lag", "I", false)
  | 2 => ("NoiseBench$Channel", "loudness", "I", false)
  | 3 => ("NoiseBench$Channel", "start", "I", false)
  | 4 => ("NoiseBench$Channel", "lostFrom", "I", false)
  | _ => ("NoiseBench$Channel", "lostLength", "I", false)
def tyX0 : Nat → FieldType := fun k => match k with
  | 0 => .array .int
  | 1 => .int
  | 2 => .int
  | 3 => .int
  | 4 => .int
  | _ => .int
theorem nmX0 : ∀ a, a < 6 → ∀ b, b < 6 → a ≠ b → (TX0 a).2.1 ≠ (TX0 b).2.1 := by decide +kernel
theorem tyX0_ok : ∀ k, k < 6 → parseFieldDescriptor (TX0 k).2.2.1 = some (tyX0 k) := by decide +kernel
abbrev cX0_init : ByteArray := prog_2_method_1_code
def yX0_init : MethodName := ⟨RX0, "<init>", "()V"⟩
abbrev cX0_lastPlace : ByteArray := prog_2_method_2_code
def yX0_lastPlace : MethodName := ⟨RX0, "lastPlace", "()I"⟩
abbrev cX0_nextDraw : ByteArray := prog_2_method_3_code
def yX0_nextDraw : MethodName := ⟨RX0, "nextDraw", "(I)I"⟩
abbrev cX0_noiseOf : ByteArray := prog_2_method_4_code
def yX0_noiseOf : MethodName := ⟨RX0, "noiseOf", "(I)I"⟩
abbrev cX0_arrives : ByteArray := prog_2_method_5_code
def yX0_arrives : MethodName := ⟨RX0, "arrives", "(LNoiseBench$Sender;II)I"⟩
def RX1 : String := "NoiseBench$Hearing"
def TX1 : u_T := fun k => match k with
  | 0 => ("NoiseBench$Hearing", "samples", "[I", true)
  | _ => ("NoiseBench$Hearing", "length", "I", false)
def tyX1 : Nat → FieldType := fun k => match k with
  | 0 => .array .int
  | _ => .int
theorem nmX1 : ∀ a, a < 2 → ∀ b, b < 2 → a ≠ b → (TX1 a).2.1 ≠ (TX1 b).2.1 := by decide +kernel
theorem tyX1_ok : ∀ k, k < 2 → parseFieldDescriptor (TX1 k).2.2.1 = some (tyX1 k) := by decide +kernel
abbrev cX1_init : ByteArray := prog_3_method_1_code
def yX1_init : MethodName := ⟨RX1, "<init>", "()V"⟩
abbrev cX1_listen : ByteArray := prog_3_method_2_code
def yX1_listen : MethodName := ⟨RX1, "listen", "(LNoiseBench$Sender;LNoiseBench$Channel;I)V"⟩
abbrev cX1_at : ByteArray := prog_3_method_3_code
def yX1_at : MethodName := ⟨RX1, "at", "(I)I"⟩
abbrev cX1_alike : ByteArray := prog_3_method_4_code
def yX1_alike : MethodName := ⟨RX1, "alike", "(LNoiseBench$Sender;I)I"⟩
abbrev cX1_locate : ByteArray := prog_3_method_5_code
def yX1_locate : MethodName := ⟨RX1, "locate", "(LNoiseBench$Sender;II)I"⟩
def RX2 : String := "NoiseBench$Path"
def TX2 : u_T := fun k => match k with
  | 0 => ("NoiseBench$Path", "guess", "[I", true)
  | 1 => ("NoiseBench$Path", "bestCost", "J", false)
  | 2 => ("NoiseBench$Path", "bestRow", "J", false)
  | 3 => ("NoiseBench$Path", "firstDue", "[I", true)
  | 4 => ("NoiseBench$Path", "secondDue", "[I", true)
  | 5 => ("NoiseBench$Path", "costs", "[J", true)
  | 6 => ("NoiseBench$Path", "rows", "[J", true)
  | 7 => ("NoiseBench$Path", "nextCosts", "[J", true)
  | _ => ("NoiseBench$Path", "nextRows", "[J", true)
def tyX2 : Nat → FieldType := fun k => match k with
  | 0 => .array .int
  | 1 => .long
  | 2 => .long
  | 3 => .array .int
  | 4 => .array .int
  | 5 => .array .long
  | 6 => .array .long
  | 7 => .array .long
  | _ => .array .long
theorem nmX2 : ∀ a, a < 9 → ∀ b, b < 9 → a ≠ b → (TX2 a).2.1 ≠ (TX2 b).2.1 := by decide +kernel
theorem tyX2_ok : ∀ k, k < 9 → parseFieldDescriptor (TX2 k).2.2.1 = some (tyX2 k) := by decide +kernel
abbrev cX2_init : ByteArray := prog_4_method_1_code
def yX2_init : MethodName := ⟨RX2, "<init>", "()V"⟩
abbrev cX2_follow : ByteArray := prog_4_method_2_code
def yX2_follow : MethodName := ⟨RX2, "follow", "(LNoiseBench$Sender;LNoiseBench$Hearing;I)V"⟩
abbrev cX2_begin : ByteArray := prog_4_method_3_code
def yX2_begin : MethodName := ⟨RX2, "begin", "()V"⟩
abbrev cX2_tabulate : ByteArray := prog_4_method_4_code
def yX2_tabulate : MethodName := ⟨RX2, "tabulate", "(LNoiseBench$Sender;I)V"⟩
abbrev cX2_dueSample : ByteArray := prog_4_method_5_code
def yX2_dueSample : MethodName := ⟨RX2, "dueSample", "(LNoiseBench$Sender;III)I"⟩
abbrev cX2_goOn : ByteArray := prog_4_method_6_code
def yX2_goOn : MethodName := ⟨RX2, "goOn", "(IIZ)V"⟩
abbrev cX2_offer : ByteArray := prog_4_method_7_code
def yX2_offer : MethodName := ⟨RX2, "offer", "(IJJ)V"⟩
abbrev cX2_settle : ByteArray := prog_4_method_8_code
def yX2_settle : MethodName := ⟨RX2, "settle", "()V"⟩
def RX3 : String := "NoiseBench$Sender"
def TX3 : u_T := fun k => match k with
  | 0 => ("NoiseBench$Sender", "message", "J", false)
  | 1 => ("NoiseBench$Sender", "mixed", "J", false)
  | 2 => ("NoiseBench$Sender", "size", "I", false)
  | 3 => ("NoiseBench$Sender", "maskBits", "I", false)
  | 4 => ("NoiseBench$Sender", "codeG", "I", false)
  | 5 => ("NoiseBench$Sender", "codeH", "I", false)
  | 6 => ("NoiseBench$Sender", "strength", "I", false)
  | 7 => ("NoiseBench$Sender", "callSize", "I", false)
  | _ => ("NoiseBench$Sender", "callSigns", "I", false)
def tyX3 : Nat → FieldType := fun k => match k with
  | 0 => .long
  | 1 => .long
  | 2 => .int
  | 3 => .int
  | 4 => .int
  | 5 => .int
  | 6 => .int
  | 7 => .int
  | _ => .int
theorem nmX3 : ∀ a, a < 9 → ∀ b, b < 9 → a ≠ b → (TX3 a).2.1 ≠ (TX3 b).2.1 := by decide +kernel
theorem tyX3_ok : ∀ k, k < 9 → parseFieldDescriptor (TX3 k).2.2.1 = some (tyX3 k) := by decide +kernel
abbrev cX3_init : ByteArray := prog_5_method_1_code
def yX3_init : MethodName := ⟨RX3, "<init>", "()V"⟩
abbrev cX3_append : ByteArray := prog_5_method_2_code
def yX3_append : MethodName := ⟨RX3, "append", "(JI)V"⟩
abbrev cX3_empty : ByteArray := prog_5_method_3_code
def yX3_empty : MethodName := ⟨RX3, "empty", "()V"⟩
abbrev cX3_setMask : ByteArray := prog_5_method_4_code
def yX3_setMask : MethodName := ⟨RX3, "setMask", "(I)V"⟩
abbrev cX3_steps : ByteArray := prog_5_method_5_code
def yX3_steps : MethodName := ⟨RX3, "steps", "()I"⟩
abbrev cX3_frameSize : ByteArray := prog_5_method_6_code
def yX3_frameSize : MethodName := ⟨RX3, "frameSize", "()I"⟩
abbrev cX3_sign : ByteArray := prog_5_method_7_code
def yX3_sign : MethodName := ⟨RX3, "sign", "(I)I"⟩
abbrev cX3_codeVoice : ByteArray := prog_5_method_8_code
def yX3_codeVoice : MethodName := ⟨RX3, "codeVoice", "(JI)I"⟩
abbrev cX3_frameVoice : ByteArray := prog_5_method_9_code
def yX3_frameVoice : MethodName := ⟨RX3, "frameVoice", "(I)I"⟩
def RX4 : String := "NoiseBench"
def TX4 : u_T := fun k => match k with
  | 0 => ("NoiseBench", "sender", "LNoiseBench$Sender;", true)
  | 1 => ("NoiseBench", "channel", "LNoiseBench$Channel;", true)
  | 2 => ("NoiseBench", "kept", "LNoiseBench$Hearing;", true)
  | 3 => ("NoiseBench", "trial", "LNoiseBench$Hearing;", true)
  | 4 => ("NoiseBench", "path", "LNoiseBench$Path;", true)
  | 5 => ("NoiseBench", "leastLikeness", "I", false)
  | 6 => ("NoiseBench", "isHeard", "Z", false)
  | 7 => ("NoiseBench", "place", "I", false)
  | 8 => ("NoiseBench", "isBrought", "Z", false)
  | 9 => ("NoiseBench", "broughtMixed", "J", false)
  | _ => ("NoiseBench", "broughtPlain", "J", false)
def tyX4 : Nat → FieldType := fun k => match k with
  | 0 => .object "NoiseBench$Sender"
  | 1 => .object "NoiseBench$Channel"
  | 2 => .object "NoiseBench$Hearing"
  | 3 => .object "NoiseBench$Hearing"
  | 4 => .object "NoiseBench$Path"
  | 5 => .int
  | 6 => .boolean
  | 7 => .int
  | 8 => .boolean
  | 9 => .long
  | _ => .long
theorem nmX4 : ∀ a, a < 11 → ∀ b, b < 11 → a ≠ b → (TX4 a).2.1 ≠ (TX4 b).2.1 := by decide +kernel
theorem tyX4_ok : ∀ k, k < 11 → parseFieldDescriptor (TX4 k).2.2.1 = some (tyX4 k) := by decide +kernel
abbrev cX4_init : ByteArray := prog_1_method_1_code
def yX4_init : MethodName := ⟨RX4, "<init>", "()V"⟩
abbrev cX4_bits : ByteArray := prog_1_method_2_code
def yX4_bits : MethodName := ⟨RX4, "bits", "(JI)I"⟩
abbrev cX4_clear : ByteArray := prog_1_method_3_code
def yX4_clear : MethodName := ⟨RX4, "clear", "()I"⟩
abbrev cX4_bit : ByteArray := prog_1_method_4_code
def yX4_bit : MethodName := ⟨RX4, "bit", "(I)I"⟩
abbrev cX4_mask : ByteArray := prog_1_method_5_code
def yX4_mask : MethodName := ⟨RX4, "mask", "(I)I"⟩
abbrev cX4_code : ByteArray := prog_1_method_6_code
def yX4_code : MethodName := ⟨RX4, "code", "(II)I"⟩
abbrev cX4_amp : ByteArray := prog_1_method_7_code
def yX4_amp : MethodName := ⟨RX4, "amp", "(I)I"⟩
abbrev cX4_call : ByteArray := prog_1_method_8_code
def yX4_call : MethodName := ⟨RX4, "call", "(II)I"⟩
abbrev cX4_taps : ByteArray := prog_1_method_9_code
def yX4_taps : MethodName := ⟨RX4, "taps", "(IIII)I"⟩
abbrev cX4_air : ByteArray := prog_1_method_10_code
def yX4_air : MethodName := ⟨RX4, "air", "(III)I"⟩
abbrev cX4_lose : ByteArray := prog_1_method_11_code
def yX4_lose : MethodName := ⟨RX4, "lose", "(II)I"⟩
abbrev cX4_scrambled : ByteArray := prog_1_method_12_code
def yX4_scrambled : MethodName := ⟨RX4, "scrambled", "(I)I"⟩
abbrev cX4_voice : ByteArray := prog_1_method_13_code
def yX4_voice : MethodName := ⟨RX4, "voice", "(I)I"⟩
abbrev cX4_hear : ByteArray := prog_1_method_14_code
def yX4_hear : MethodName := ⟨RX4, "hear", "()I"⟩
abbrev cX4_sample : ByteArray := prog_1_method_15_code
def yX4_sample : MethodName := ⟨RX4, "sample", "(I)I"⟩
abbrev cX4_least : ByteArray := prog_1_method_16_code
def yX4_least : MethodName := ⟨RX4, "least", "(I)I"⟩
abbrev cX4_find : ByteArray := prog_1_method_17_code
def yX4_find : MethodName := ⟨RX4, "find", "()I"⟩
abbrev cX4_likeness : ByteArray := prog_1_method_18_code
def yX4_likeness : MethodName := ⟨RX4, "likeness", "(I)I"⟩
abbrev cX4_bring : ByteArray := prog_1_method_19_code
def yX4_bring : MethodName := ⟨RX4, "bring", "(IIII)J"⟩
abbrev cX4_brought : ByteArray := prog_1_method_20_code
def yX4_brought : MethodName := ⟨RX4, "brought", "(II)I"⟩
abbrev cX4_errors : ByteArray := prog_1_method_21_code
def yX4_errors : MethodName := ⟨RX4, "errors", "()I"⟩
abbrev cX4_sweep : ByteArray := prog_1_method_22_code
def yX4_sweep : MethodName := ⟨RX4, "sweep", "(I)I"⟩
abbrev cX4_whole : ByteArray := prog_1_method_23_code
def yX4_whole : MethodName := ⟨RX4, "whole", "(I)I"⟩
abbrev cX4_count : ByteArray := prog_1_method_24_code
def yX4_count : MethodName := ⟨RX4, "count", "(I)I"⟩
abbrev cX4_changed : ByteArray := prog_1_method_25_code
def yX4_changed : MethodName := ⟨RX4, "changed", "()I"⟩
abbrev cX4_endHeard : ByteArray := prog_1_method_26_code
def yX4_endHeard : MethodName := ⟨RX4, "endHeard", "()V"⟩
abbrev cX4_isBitPlace : ByteArray := prog_1_method_27_code
def yX4_isBitPlace : MethodName := ⟨RX4, "isBitPlace", "(I)Z"⟩
abbrev cX4_errorsOfSending : ByteArray := prog_1_method_28_code
def yX4_errorsOfSending : MethodName := ⟨RX4, "errorsOfSending", "(I)I"⟩
abbrev cX4_within : ByteArray := prog_1_method_29_code
def yX4_within : MethodName := ⟨RX4, "within", "(III)Z"⟩
abbrev cX4_areTaps : ByteArray := prog_1_method_30_code
def yX4_areTaps : MethodName := ⟨RX4, "areTaps", "(IIII)Z"⟩
abbrev cX4_setFour : ByteArray := prog_1_method_31_code
def yX4_setFour : MethodName := ⟨RX4, "setFour", "([IIIII)V"⟩
abbrev cX4_bitOf : ByteArray := prog_1_method_32_code
def yX4_bitOf : MethodName := ⟨RX4, "bitOf", "(JII)I"⟩
abbrev cX4_differences : ByteArray := prog_1_method_33_code
def yX4_differences : MethodName := ⟨RX4, "differences", "(JJ)I"⟩
abbrev cX4_oddness : ByteArray := prog_1_method_34_code
def yX4_oddness : MethodName := ⟨RX4, "oddness", "(J)I"⟩
abbrev cX4_mix : ByteArray := prog_1_method_35_code
def yX4_mix : MethodName := ⟨RX4, "mix", "(JII)J"⟩
abbrev cX4_unmix : ByteArray := prog_1_method_36_code
def yX4_unmix : MethodName := ⟨RX4, "unmix", "(JII)J"⟩
def RX5 : String := "NoiseBenchModel"
def TX5 : u_T := fun k => match k with
  | 0 => ("NoiseBenchModel", "bits", "I", false)
  | 1 => ("NoiseBenchModel", "message", "[I", true)
  | 2 => ("NoiseBenchModel", "mask", "I", false)
  | 3 => ("NoiseBenchModel", "g", "I", false)
  | 4 => ("NoiseBenchModel", "h", "I", false)
  | 5 => ("NoiseBenchModel", "amp", "I", false)
  | 6 => ("NoiseBenchModel", "callSize", "I", false)
  | 7 => ("NoiseBenchModel", "callSigns", "I", false)
  | 8 => ("NoiseBenchModel", "tap", "[I", true)
  | 9 => ("NoiseBenchModel", "delay", "I", false)
  | 10 => ("NoiseBenchModel", "noise", "I", false)
  | 11 => ("NoiseBenchModel", "seed", "I", false)
  | 12 => ("NoiseBenchModel", "lostFrom", "I", false)
  | 13 => ("NoiseBenchModel", "lostMany", "I", false)
  | 14 => ("NoiseBenchModel", "low", "I", false)
  | 15 => ("NoiseBenchModel", "isHeard", "Z", false)
  | 16 => ("NoiseBenchModel", "found", "I", false)
  | 17 => ("NoiseBenchModel", "isBrought", "Z", false)
  | 18 => ("NoiseBenchModel", "heard", "[I", true)
  | 19 => ("NoiseBenchModel", "got", "[I", true)
  | 20 => ("NoiseBenchModel", "back", "[I", true)
  | 21 => ("NoiseBenchModel", "mixed", "[I", true)
  | 22 => ("NoiseBenchModel", "voices", "[I", true)
  | 23 => ("NoiseBenchModel", "samples", "[I", true)
  | 24 => ("NoiseBenchModel", "costs", "[J", true)
  | 25 => ("NoiseBenchModel", "guess", "[I", true)
  | 26 => ("NoiseBenchModel", "keptGot", "[I", true)
  | _ => ("NoiseBenchModel", "keptBack", "[I", true)
def tyX5 : Nat → FieldType := fun k => match k with
  | 0 => .int
  | 1 => .array .int
  | 2 => .int
  | 3 => .int
  | 4 => .int
  | 5 => .int
  | 6 => .int
  | 7 => .int
  | 8 => .array .int
  | 9 => .int
  | 10 => .int
  | 11 => .int
  | 12 => .int
  | 13 => .int
  | 14 => .int
  | 15 => .boolean
  | 16 => .int
  | 17 => .boolean
  | 18 => .array .int
  | 19 => .array .int
  | 20 => .array .int
  | 21 => .array .int
  | 22 => .array .int
  | 23 => .array .int
  | 24 => .array .long
  | 25 => .array .int
  | 26 => .array .int
  | _ => .array .int
theorem nmX5 : ∀ a, a < 28 → ∀ b, b < 28 → a ≠ b → (TX5 a).2.1 ≠ (TX5 b).2.1 := by decide +kernel
theorem tyX5_ok : ∀ k, k < 28 → parseFieldDescriptor (TX5 k).2.2.1 = some (tyX5 k) := by decide +kernel
abbrev cX5_init : ByteArray := prog_7_method_1_code
def yX5_init : MethodName := ⟨RX5, "<init>", "()V"⟩
abbrev cX5_in : ByteArray := prog_7_method_2_code
def yX5_in : MethodName := ⟨RX5, "in", "(III)Z"⟩
abbrev cX5_odd : ByteArray := prog_7_method_3_code
def yX5_odd : MethodName := ⟨RX5, "odd", "(I)I"⟩
abbrev cX5_ended : ByteArray := prog_7_method_4_code
def yX5_ended : MethodName := ⟨RX5, "ended", "()I"⟩
abbrev cX5_bits : ByteArray := prog_7_method_5_code
def yX5_bits : MethodName := ⟨RX5, "bits", "(JI)I"⟩
abbrev cX5_clear : ByteArray := prog_7_method_6_code
def yX5_clear : MethodName := ⟨RX5, "clear", "()I"⟩
abbrev cX5_bit : ByteArray := prog_7_method_7_code
def yX5_bit : MethodName := ⟨RX5, "bit", "(I)I"⟩
abbrev cX5_mask : ByteArray := prog_7_method_8_code
def yX5_mask : MethodName := ⟨RX5, "mask", "(I)I"⟩
abbrev cX5_code : ByteArray := prog_7_method_9_code
def yX5_code : MethodName := ⟨RX5, "code", "(II)I"⟩
abbrev cX5_amp : ByteArray := prog_7_method_10_code
def yX5_amp : MethodName := ⟨RX5, "amp", "(I)I"⟩
abbrev cX5_call : ByteArray := prog_7_method_11_code
def yX5_call : MethodName := ⟨RX5, "call", "(II)I"⟩
abbrev cX5_areTaps : ByteArray := prog_7_method_12_code
def yX5_areTaps : MethodName := ⟨RX5, "areTaps", "(IIII)Z"⟩
abbrev cX5_taps : ByteArray := prog_7_method_13_code
def yX5_taps : MethodName := ⟨RX5, "taps", "(IIII)I"⟩
abbrev cX5_air : ByteArray := prog_7_method_14_code
def yX5_air : MethodName := ⟨RX5, "air", "(III)I"⟩
abbrev cX5_lose : ByteArray := prog_7_method_15_code
def yX5_lose : MethodName := ⟨RX5, "lose", "(II)I"⟩
abbrev cX5_mix : ByteArray := prog_7_method_16_code
def yX5_mix : MethodName := ⟨RX5, "mix", "()V"⟩
abbrev cX5_scrambled : ByteArray := prog_7_method_17_code
def yX5_scrambled : MethodName := ⟨RX5, "scrambled", "(I)I"⟩
abbrev cX5_frameSize : ByteArray := prog_7_method_18_code
def yX5_frameSize : MethodName := ⟨RX5, "frameSize", "()I"⟩
abbrev cX5_sign : ByteArray := prog_7_method_19_code
def yX5_sign : MethodName := ⟨RX5, "sign", "(I)I"⟩
abbrev cX5_layFrame : ByteArray := prog_7_method_20_code
def yX5_layFrame : MethodName := ⟨RX5, "layFrame", "()V"⟩
abbrev cX5_voice : ByteArray := prog_7_method_21_code
def yX5_voice : MethodName := ⟨RX5, "voice", "(I)I"⟩
abbrev cX5_sampleMany : ByteArray := prog_7_method_22_code
def yX5_sampleMany : MethodName := ⟨RX5, "sampleMany", "()I"⟩
abbrev cX5_listen : ByteArray := prog_7_method_23_code
def yX5_listen : MethodName := ⟨RX5, "listen", "(I)V"⟩
abbrev cX5_hear : ByteArray := prog_7_method_24_code
def yX5_hear : MethodName := ⟨RX5, "hear", "()I"⟩
abbrev cX5_sample : ByteArray := prog_7_method_25_code
def yX5_sample : MethodName := ⟨RX5, "sample", "(I)I"⟩
abbrev cX5_least : ByteArray := prog_7_method_26_code
def yX5_least : MethodName := ⟨RX5, "least", "(I)I"⟩
abbrev cX5_likenessOf : ByteArray := prog_7_method_27_code
def yX5_likenessOf : MethodName := ⟨RX5, "likenessOf", "([IIII)I"⟩
abbrev cX5_placeIn : ByteArray := prog_7_method_28_code
def yX5_placeIn : MethodName := ⟨RX5, "placeIn", "([I)I"⟩
abbrev cX5_find : ByteArray := prog_7_method_29_code
def yX5_find : MethodName := ⟨RX5, "find", "()I"⟩
abbrev cX5_likeness : ByteArray := prog_7_method_30_code
def yX5_likeness : MethodName := ⟨RX5, "likeness", "(I)I"⟩
abbrev cX5_voiceOf : ByteArray := prog_7_method_31_code
def yX5_voiceOf : MethodName := ⟨RX5, "voiceOf", "(III)I"⟩
abbrev cX5_costOf : ByteArray := prog_7_method_32_code
def yX5_costOf : MethodName := ⟨RX5, "costOf", "([IIII)J"⟩
abbrev cX5_by : ByteArray := prog_7_method_33_code
def yX5_by : MethodName := ⟨RX5, "by", "([IIIII)J"⟩
abbrev cX5_bringFrom : ByteArray := prog_7_method_34_code
def yX5_bringFrom : MethodName := ⟨RX5, "bringFrom", "([II)J"⟩
abbrev cX5_bring : ByteArray := prog_7_method_35_code
def yX5_bring : MethodName := ⟨RX5, "bring", "(IIII)J"⟩
abbrev cX5_brought : ByteArray := prog_7_method_36_code
def yX5_brought : MethodName := ⟨RX5, "brought", "(II)I"⟩
abbrev cX5_errorMany : ByteArray := prog_7_method_37_code
def yX5_errorMany : MethodName := ⟨RX5, "errorMany", "()I"⟩
abbrev cX5_errors : ByteArray := prog_7_method_38_code
def yX5_errors : MethodName := ⟨RX5, "errors", "()I"⟩
abbrev cX5_keep : ByteArray := prog_7_method_39_code
def yX5_keep : MethodName := ⟨RX5, "keep", "(Z)V"⟩
abbrev cX5_errorsOf : ByteArray := prog_7_method_40_code
def yX5_errorsOf : MethodName := ⟨RX5, "errorsOf", "(I)I"⟩
abbrev cX5_sweep : ByteArray := prog_7_method_41_code
def yX5_sweep : MethodName := ⟨RX5, "sweep", "(I)I"⟩
abbrev cX5_whole : ByteArray := prog_7_method_42_code
def yX5_whole : MethodName := ⟨RX5, "whole", "(I)I"⟩
abbrev cX5_count : ByteArray := prog_7_method_43_code
def yX5_count : MethodName := ⟨RX5, "count", "(I)I"⟩
def RJ13 : String := "java/lang/Long"
def TJ13 : u_T := fun k => match k with
  | _ => ("", "", "", false)
def tyJ13 : Nat → FieldType := fun k => match k with
  | _ => .int
theorem nmJ13 : ∀ a, a < 0 → ∀ b, b < 0 → a ≠ b → (TJ13 a).2.1 ≠ (TJ13 b).2.1 := by decide +kernel
theorem tyJ13_ok : ∀ k, k < 0 → parseFieldDescriptor (TJ13 k).2.2.1 = some (tyJ13 k) := by decide +kernel
abbrev cJ13_bitCount_95d88 : ByteArray := prog_8_method_50_code
def yJ13_bitCount_95d88 : MethodName := ⟨RJ13, "bitCount", "(J)I"⟩
def RJ9 : String := "java/lang/Math"
def TJ9 : u_T := fun k => match k with
  | _ => ("", "", "", false)
def tyJ9 : Nat → FieldType := fun k => match k with
  | _ => .int
theorem nmJ9 : ∀ a, a < 0 → ∀ b, b < 0 → a ≠ b → (TJ9 a).2.1 ≠ (TJ9 b).2.1 := by decide +kernel
theorem tyJ9_ok : ∀ k, k < 0 → parseFieldDescriptor (TJ9 k).2.2.1 = some (tyJ9 k) := by decide +kernel
abbrev cJ9_max_7cf53 : ByteArray := prog_9_method_65_code
def yJ9_max_7cf53 : MethodName := ⟨RJ9, "max", "(II)I"⟩
abbrev cJ9_min_7cf53 : ByteArray := prog_9_method_69_code
def yJ9_min_7cf53 : MethodName := ⟨RJ9, "min", "(II)I"⟩
def RJ10 : String := "java/lang/System"
def TJ10 : u_T := fun k => match k with
  | _ => ("", "", "", false)
def tyJ10 : Nat → FieldType := fun k => match k with
  | _ => .int
theorem nmJ10 : ∀ a, a < 0 → ∀ b, b < 0 → a ≠ b → (TJ10 a).2.1 ≠ (TJ10 b).2.1 := by decide +kernel
theorem tyJ10_ok : ∀ k, k < 0 → parseFieldDescriptor (TJ10 k).2.2.1 = some (tyJ10 k) := by decide +kernel
def RL : String := "NoiseBenchLaw"
abbrev cL_law : ByteArray := code
def yL_law : MethodName := ⟨RL, "law", "([I)Z"⟩
abbrev vwCl : List vw_C := [(RX0, TX0, 6), (RX1, TX1, 2), (RX2, TX2, 9), (RX3, TX3, 9), (RX4, TX4, 11), (RX5, TX5, 28)]
/-- the words that stay: one list for all methods -/
def BIG : List Cond := lw_tbl.filter goodWord
theorem big_of {w : Cond} {i : Nat} (h : lw_tbl[i]? = some w) (g : goodWord w = true) : w ∈ BIG := List.mem_filter.mpr ⟨List.mem_of_getElem? h, g⟩
theorem big_in : ∀ w ∈ BIG, w ∈ lw_tbl := fun _ h => (List.mem_filter.mp h).1
theorem big_good : GoodIn BIG BIG := fun _ h => ⟨h, good_of_word (List.mem_filter.mp h).2⟩
theorem big_code {w : Cond} (h : w ∈ BIG) : GoodIn BIG (w :: BIG) := fun v hv => by
  rcases List.mem_cons.mp hv with e | e
  · rw [e]; exact big_good w h
  · exact big_good v e
theorem big_row {ws : List Cond} (ps : List Nat) (hp : ws = ps.filterMap (fun i => lw_tbl[i]?)) (hg : ws.all goodWord = true) : ∀ w ∈ ws, w ∈ BIG := by
  intro w hw
  have h1 := List.all_eq_true.mp hg w hw
  rw [hp] at hw
  obtain ⟨i, -, hi⟩ := List.mem_filterMap.mp hw
  exact List.mem_filter.mpr ⟨List.mem_of_getElem? hi, h1⟩
theorem mn_L : Cond.initialized RL ∈ BIG := big_of (i := 25) rfl rfl
theorem mn_X4 : Cond.initialized RX4 ∈ BIG := big_of (i := 26) rfl rfl
theorem mn_X3 : Cond.initialized RX3 ∈ BIG := big_of (i := 27) rfl rfl
theorem mn_X0 : Cond.initialized RX0 ∈ BIG := big_of (i := 28) rfl rfl
theorem mn_X1 : Cond.initialized RX1 ∈ BIG := big_of (i := 29) rfl rfl
theorem mn_X2 : Cond.initialized RX2 ∈ BIG := big_of (i := 30) rfl rfl
theorem mn_X5 : Cond.initialized RX5 ∈ BIG := big_of (i := 31) rfl rfl
theorem mn_J13 : Cond.initialized RJ13 ∈ BIG := big_of (i := 32) rfl rfl
theorem mn_Math : Cond.initialized "java/lang/Math" ∈ BIG := big_of (i := 33) rfl rfl
theorem mn_J9 : Cond.initialized RJ9 ∈ BIG := big_of (i := 33) rfl rfl
theorem mn_System : Cond.initialized "java/lang/System" ∈ BIG := big_of (i := 34) rfl rfl
theorem mn_J10 : Cond.initialized RJ10 ∈ BIG := big_of (i := 34) rfl rfl
theorem mo_L_7 : Cond.classLink RL 7 RX4 ∈ BIG := big_of (i := 35) rfl rfl
theorem mb_X4 : Cond.instantiable RX4 11 ∈ BIG := big_of (i := 36) rfl rfl
theorem mm_L_9 : Cond.methodLink RL 9 yX4_init ∈ BIG := big_of (i := 37) rfl rfl
theorem mi_yX4_init : Cond.instanceMethod yX4_init ∈ BIG := big_of (i := 38) rfl rfl
theorem mc_yX4_init : Cond.code yX4_init cX4_init 1 none ∈ BIG := big_of (i := 39) rfl rfl
theorem mm_X4_3 : Cond.methodLink RX4 3 objectInit ∈ BIG := big_of (i := 40) rfl rfl
theorem mi_objectInit : Cond.instanceMethod objectInit ∈ BIG := big_of (i := 41) rfl rfl
theorem mc_objectInit : Cond.code objectInit ⟨#[0xb1]⟩ 1 none ∈ BIG := big_of (i := 42) rfl rfl
theorem mo_X4_9 : Cond.classLink RX4 9 RX3 ∈ BIG := big_of (i := 43) rfl rfl
theorem mb_X3 : Cond.instantiable RX3 9 ∈ BIG := big_of (i := 44) rfl rfl
theorem mi_yX3_init : Cond.instanceMethod yX3_init ∈ BIG := big_of (i := 46) rfl rfl
theorem mc_yX3_init : Cond.code yX3_init cX3_init 1 none ∈ BIG := big_of (i := 47) rfl rfl
theorem mm_X3_3 : Cond.methodLink RX3 3 objectInit ∈ BIG := big_of (i := 48) rfl rfl
theorem mf_X3_9 : Cond.fieldLink RX3 9 "NoiseBench$Sender" "message" "J" ∈ BIG := big_of (i := 49) rfl rfl
theorem mf_X4_82 : Cond.fieldLink RX4 82 "NoiseBench$Sender" "message" "J" ∈ BIG := big_of (i := 50) rfl rfl
theorem mf_X3_15 : Cond.fieldLink RX3 15 "NoiseBench$Sender" "mixed" "J" ∈ BIG := big_of (i := 51) rfl rfl
theorem mf_X4_139 : Cond.fieldLink RX4 139 "NoiseBench$Sender" "mixed" "J" ∈ BIG := big_of (i := 52) rfl rfl
theorem mf_X3_18 : Cond.fieldLink RX3 18 "NoiseBench$Sender" "size" "I" ∈ BIG := big_of (i := 53) rfl rfl
theorem mf_X4_65 : Cond.fieldLink RX4 65 "NoiseBench$Sender" "size" "I" ∈ BIG := big_of (i := 54) rfl rfl
theorem mf_X2_64 : Cond.fieldLink RX2 64 "NoiseBench$Sender" "size" "I" ∈ BIG := big_of (i := 55) rfl rfl
theorem mf_X3_22 : Cond.fieldLink RX3 22 "NoiseBench$Sender" "maskBits" "I" ∈ BIG := big_of (i := 56) rfl rfl
theorem mf_X4_186 : Cond.fieldLink RX4 186 "NoiseBench$Sender" "maskBits" "I" ∈ BIG := big_of (i := 57) rfl rfl
theorem mf_X3_25 : Cond.fieldLink RX3 25 "NoiseBench$Sender" "codeG" "I" ∈ BIG := big_of (i := 58) rfl rfl
theorem mf_X4_97 : Cond.fieldLink RX4 97 "NoiseBench$Sender" "codeG" "I" ∈ BIG := big_of (i := 59) rfl rfl
theorem mf_X3_28 : Cond.fieldLink RX3 28 "NoiseBench$Sender" "codeH" "I" ∈ BIG := big_of (i := 60) rfl rfl
theorem mf_X4_100 : Cond.fieldLink RX4 100 "NoiseBench$Sender" "codeH" "I" ∈ BIG := big_of (i := 61) rfl rfl
theorem mf_X3_31 : Cond.fieldLink RX3 31 "NoiseBench$Sender" "strength" "I" ∈ BIG := big_of (i := 62) rfl rfl
theorem mf_X2_83 : Cond.fieldLink RX2 83 "NoiseBench$Sender" "strength" "I" ∈ BIG := big_of (i := 63) rfl rfl
theorem mf_X4_103 : Cond.fieldLink RX4 103 "NoiseBench$Sender" "strength" "I" ∈ BIG := big_of (i := 64) rfl rfl
theorem mf_X3_34 : Cond.fieldLink RX3 34 "NoiseBench$Sender" "callSize" "I" ∈ BIG := big_of (i := 65) rfl rfl
theorem mf_X2_44 : Cond.fieldLink RX2 44 "NoiseBench$Sender" "callSize" "I" ∈ BIG := big_of (i := 66) rfl rfl
theorem mf_X1_48 : Cond.fieldLink RX1 48 "NoiseBench$Sender" "callSize" "I" ∈ BIG := big_of (i := 67) rfl rfl
theorem mf_X4_106 : Cond.fieldLink RX4 106 "NoiseBench$Sender" "callSize" "I" ∈ BIG := big_of (i := 68) rfl rfl
theorem mf_X3_37 : Cond.fieldLink RX3 37 "NoiseBench$Sender" "callSigns" "I" ∈ BIG := big_of (i := 69) rfl rfl
theorem mf_X4_109 : Cond.fieldLink RX4 109 "NoiseBench$Sender" "callSigns" "I" ∈ BIG := big_of (i := 70) rfl rfl
theorem mo_X4_16 : Cond.classLink RX4 16 RX0 ∈ BIG := big_of (i := 90) rfl rfl
theorem mb_X0 : Cond.instantiable RX0 6 ∈ BIG := big_of (i := 91) rfl rfl
theorem mi_yX0_init : Cond.instanceMethod yX0_init ∈ BIG := big_of (i := 93) rfl rfl
theorem mc_yX0_init : Cond.code yX0_init cX0_init 1 none ∈ BIG := big_of (i := 94) rfl rfl
theorem mm_X0_3 : Cond.methodLink RX0 3 objectInit ∈ BIG := big_of (i := 95) rfl rfl
theorem mf_X0_9 : Cond.fieldLink RX0 9 "NoiseBench$Channel" "weights" "[I" ∈ BIG := big_of (i := 96) rfl rfl
theorem mf_X4_116 : Cond.fieldLink RX4 116 "NoiseBench$Channel" "weights" "[I" ∈ BIG := big_of (i := 97) rfl rfl
theorem mf_X0_15 : Cond.fieldLink RX0 15 "NoiseBench$Channel" "lag" "I" ∈ BIG := big_of (i := 98) rfl rfl
theorem mf_X1_19 : Cond.fieldLink RX1 19 "NoiseBench$Channel" "lag" "I" ∈ BIG := big_of (i := 99) rfl rfl
theorem mf_X4_124 : Cond.fieldLink RX4 124 "NoiseBench$Channel" "lag" "I" ∈ BIG := big_of (i := 100) rfl rfl
theorem mf_X0_19 : Cond.fieldLink RX0 19 "NoiseBench$Channel" "loudness" "I" ∈ BIG := big_of (i := 101) rfl rfl
theorem mf_X4_127 : Cond.fieldLink RX4 127 "NoiseBench$Channel" "loudness" "I" ∈ BIG := big_of (i := 102) rfl rfl
theorem mf_X0_22 : Cond.fieldLink RX0 22 "NoiseBench$Channel" "start" "I" ∈ BIG := big_of (i := 103) rfl rfl
theorem mf_X4_130 : Cond.fieldLink RX4 130 "NoiseBench$Channel" "start" "I" ∈ BIG := big_of (i := 104) rfl rfl
theorem mf_X0_25 : Cond.fieldLink RX0 25 "NoiseBench$Channel" "lostFrom" "I" ∈ BIG := big_of (i := 105) rfl rfl
theorem mf_X4_133 : Cond.fieldLink RX4 133 "NoiseBench$Channel" "lostFrom" "I" ∈ BIG := big_of (i := 106) rfl rfl
theorem mf_X0_28 : Cond.fieldLink RX0 28 "NoiseBench$Channel" "lostLength" "I" ∈ BIG := big_of (i := 107) rfl rfl
theorem mf_X4_136 : Cond.fieldLink RX4 136 "NoiseBench$Channel" "lostLength" "I" ∈ BIG := big_of (i := 108) rfl rfl
theorem ma_int : Cond.arrayClass .int ∈ BIG := big_of (i := 122) rfl rfl
theorem mo_X4_23 : Cond.classLink RX4 23 RX1 ∈ BIG := big_of (i := 123) rfl rfl
theorem mb_X1 : Cond.instantiable RX1 2 ∈ BIG := big_of (i := 124) rfl rfl
theorem mi_yX1_init : Cond.instanceMethod yX1_init ∈ BIG := big_of (i := 126) rfl rfl
theorem mc_yX1_init : Cond.code yX1_init cX1_init 1 none ∈ BIG := big_of (i := 127) rfl rfl
theorem mm_X1_3 : Cond.methodLink RX1 3 objectInit ∈ BIG := big_of (i := 128) rfl rfl
theorem mf_X1_9 : Cond.fieldLink RX1 9 "NoiseBench$Hearing" "samples" "[I" ∈ BIG := big_of (i := 129) rfl rfl
theorem mf_X1_15 : Cond.fieldLink RX1 15 "NoiseBench$Hearing" "length" "I" ∈ BIG := big_of (i := 130) rfl rfl
theorem mf_X4_154 : Cond.fieldLink RX4 154 "NoiseBench$Hearing" "length" "I" ∈ BIG := big_of (i := 131) rfl rfl
theorem mo_X4_33 : Cond.classLink RX4 33 RX2 ∈ BIG := big_of (i := 137) rfl rfl
theorem mb_X2 : Cond.instantiable RX2 9 ∈ BIG := big_of (i := 138) rfl rfl
theorem mi_yX2_init : Cond.instanceMethod yX2_init ∈ BIG := big_of (i := 140) rfl rfl
theorem mc_yX2_init : Cond.code yX2_init cX2_init 1 none ∈ BIG := big_of (i := 141) rfl rfl
theorem mm_X2_3 : Cond.methodLink RX2 3 objectInit ∈ BIG := big_of (i := 142) rfl rfl
theorem mf_X2_9 : Cond.fieldLink RX2 9 "NoiseBench$Path" "guess" "[I" ∈ BIG := big_of (i := 143) rfl rfl
theorem mf_X4_176 : Cond.fieldLink RX4 176 "NoiseBench$Path" "guess" "[I" ∈ BIG := big_of (i := 144) rfl rfl
theorem mf_X2_15 : Cond.fieldLink RX2 15 "NoiseBench$Path" "bestCost" "J" ∈ BIG := big_of (i := 145) rfl rfl
theorem mf_X4_193 : Cond.fieldLink RX4 193 "NoiseBench$Path" "bestCost" "J" ∈ BIG := big_of (i := 146) rfl rfl
theorem mf_X2_19 : Cond.fieldLink RX2 19 "NoiseBench$Path" "bestRow" "J" ∈ BIG := big_of (i := 147) rfl rfl
theorem mf_X4_183 : Cond.fieldLink RX4 183 "NoiseBench$Path" "bestRow" "J" ∈ BIG := big_of (i := 148) rfl rfl
theorem mf_X2_22 : Cond.fieldLink RX2 22 "NoiseBench$Path" "firstDue" "[I" ∈ BIG := big_of (i := 149) rfl rfl
theorem mf_X2_25 : Cond.fieldLink RX2 25 "NoiseBench$Path" "secondDue" "[I" ∈ BIG := big_of (i := 150) rfl rfl
theorem mf_X2_28 : Cond.fieldLink RX2 28 "NoiseBench$Path" "costs" "[J" ∈ BIG := big_of (i := 151) rfl rfl
theorem mf_X2_32 : Cond.fieldLink RX2 32 "NoiseBench$Path" "rows" "[J" ∈ BIG := big_of (i := 152) rfl rfl
theorem mf_X2_35 : Cond.fieldLink RX2 35 "NoiseBench$Path" "nextCosts" "[J" ∈ BIG := big_of (i := 153) rfl rfl
theorem mf_X2_38 : Cond.fieldLink RX2 38 "NoiseBench$Path" "nextRows" "[J" ∈ BIG := big_of (i := 154) rfl rfl
theorem ma_long : Cond.arrayClass .long ∈ BIG := big_of (i := 174) rfl rfl
theorem mf_X4_12 : Cond.fieldLink RX4 12 "NoiseBench" "sender" "LNoiseBench$Sender;" ∈ BIG := big_of (i := 175) rfl rfl
theorem mf_X4_19 : Cond.fieldLink RX4 19 "NoiseBench" "channel" "LNoiseBench$Channel;" ∈ BIG := big_of (i := 176) rfl rfl
theorem mf_X4_26 : Cond.fieldLink RX4 26 "NoiseBench" "kept" "LNoiseBench$Hearing;" ∈ BIG := big_of (i := 177) rfl rfl
theorem mf_X4_30 : Cond.fieldLink RX4 30 "NoiseBench" "trial" "LNoiseBench$Hearing;" ∈ BIG := big_of (i := 178) rfl rfl
theorem mf_X4_36 : Cond.fieldLink RX4 36 "NoiseBench" "path" "LNoiseBench$Path;" ∈ BIG := big_of (i := 179) rfl rfl
theorem mf_X4_40 : Cond.fieldLink RX4 40 "NoiseBench" "leastLikeness" "I" ∈ BIG := big_of (i := 180) rfl rfl
theorem mf_X4_44 : Cond.fieldLink RX4 44 "NoiseBench" "isHeard" "Z" ∈ BIG := big_of (i := 181) rfl rfl
theorem mf_X4_48 : Cond.fieldLink RX4 48 "NoiseBench" "place" "I" ∈ BIG := big_of (i := 182) rfl rfl
theorem mf_X4_51 : Cond.fieldLink RX4 51 "NoiseBench" "isBrought" "Z" ∈ BIG := big_of (i := 183) rfl rfl
theorem mf_X4_54 : Cond.fieldLink RX4 54 "NoiseBench" "broughtMixed" "J" ∈ BIG := big_of (i := 184) rfl rfl
theorem mf_X4_58 : Cond.fieldLink RX4 58 "NoiseBench" "broughtPlain" "J" ∈ BIG := big_of (i := 185) rfl rfl
theorem mm_L_15 : Cond.methodLink RL 15 yX4_bits ∈ BIG := big_of (i := 209) rfl rfl
theorem mi_yX4_bits : Cond.instanceMethod yX4_bits ∈ BIG := big_of (i := 210) rfl rfl
theorem mx_yX4_bits : Cond.selects RX4 yX4_bits yX4_bits ∈ BIG := big_of (i := 211) rfl rfl
theorem mc_yX4_bits : Cond.code yX4_bits cX4_bits 4 (some .int) ∈ BIG := big_of (i := 212) rfl rfl
theorem mm_X4_61 : Cond.methodLink RX4 61 yX4_within ∈ BIG := big_of (i := 213) rfl rfl
theorem ms_yX4_within : Cond.static yX4_within ∈ BIG := big_of (i := 214) rfl rfl
theorem mc_yX4_within : Cond.code yX4_within cX4_within 3 (some .boolean) ∈ BIG := big_of (i := 215) rfl rfl
theorem mm_X4_68 : Cond.methodLink RX4 68 yX3_append ∈ BIG := big_of (i := 216) rfl rfl
theorem mi_yX3_append : Cond.instanceMethod yX3_append ∈ BIG := big_of (i := 217) rfl rfl
theorem mx_yX3_append : Cond.selects RX3 yX3_append yX3_append ∈ BIG := big_of (i := 218) rfl rfl
theorem mc_yX3_append : Cond.code yX3_append cX3_append 4 none ∈ BIG := big_of (i := 219) rfl rfl
theorem ms_yX4_mix : Cond.static yX4_mix ∈ BIG := big_of (i := 221) rfl rfl
theorem mc_yX4_mix : Cond.code yX4_mix cX4_mix 7 (some .long) ∈ BIG := big_of (i := 222) rfl rfl
theorem mk_X4_215 : Cond.constantLong RX4 215 (2) ∈ BIG := big_of (i := 223) rfl rfl
theorem mm_X4_85 : Cond.methodLink RX4 85 yX4_bitOf ∈ BIG := big_of (i := 224) rfl rfl
theorem ms_yX4_bitOf : Cond.static yX4_bitOf ∈ BIG := big_of (i := 225) rfl rfl
theorem mc_yX4_bitOf : Cond.code yX4_bitOf cX4_bitOf 4 (some .int) ∈ BIG := big_of (i := 226) rfl rfl
theorem mm_X4_217 : Cond.methodLink RX4 217 yX4_oddness ∈ BIG := big_of (i := 227) rfl rfl
theorem ms_yX4_oddness : Cond.static yX4_oddness ∈ BIG := big_of (i := 228) rfl rfl
theorem mc_yX4_oddness : Cond.code yX4_oddness cX4_oddness 2 (some .int) ∈ BIG := big_of (i := 229) rfl rfl
theorem mm_X4_209 : Cond.methodLink RX4 209 yJ13_bitCount_95d88 ∈ BIG := big_of (i := 230) rfl rfl
theorem ms_yJ13_bitCount_95d88 : Cond.static yJ13_bitCount_95d88 ∈ BIG := big_of (i := 231) rfl rfl
theorem mc_yJ13_bitCount_95d88 : Cond.code yJ13_bitCount_95d88 cJ13_bitCount_95d88 2 (some .int) ∈ BIG := big_of (i := 232) rfl rfl
theorem mk_J13_314 : Cond.constantLong RJ13 314 (6148914691236517205) ∈ BIG := big_of (i := 233) rfl rfl
theorem mk_J13_316 : Cond.constantLong RJ13 316 (3689348814741910323) ∈ BIG := big_of (i := 234) rfl rfl
theorem mk_J13_318 : Cond.constantLong RJ13 318 (1085102592571150095) ∈ BIG := big_of (i := 235) rfl rfl
theorem mm_X4_72 : Cond.methodLink RX4 72 yX4_endHeard ∈ BIG := big_of (i := 236) rfl rfl
theorem mi_yX4_endHeard : Cond.instanceMethod yX4_endHeard ∈ BIG := big_of (i := 238) rfl rfl
theorem mc_yX4_endHeard : Cond.code yX4_endHeard cX4_endHeard 1 none ∈ BIG := big_of (i := 239) rfl rfl
theorem mm_L_20 : Cond.methodLink RL 20 yX4_clear ∈ BIG := big_of (i := 240) rfl rfl
theorem mi_yX4_clear : Cond.instanceMethod yX4_clear ∈ BIG := big_of (i := 241) rfl rfl
theorem mx_yX4_clear : Cond.selects RX4 yX4_clear yX4_clear ∈ BIG := big_of (i := 242) rfl rfl
theorem mc_yX4_clear : Cond.code yX4_clear cX4_clear 2 (some .int) ∈ BIG := big_of (i := 243) rfl rfl
theorem mm_X4_75 : Cond.methodLink RX4 75 yX3_empty ∈ BIG := big_of (i := 244) rfl rfl
theorem mi_yX3_empty : Cond.instanceMethod yX3_empty ∈ BIG := big_of (i := 245) rfl rfl
theorem mx_yX3_empty : Cond.selects RX3 yX3_empty yX3_empty ∈ BIG := big_of (i := 246) rfl rfl
theorem mc_yX3_empty : Cond.code yX3_empty cX3_empty 1 none ∈ BIG := big_of (i := 247) rfl rfl
theorem mm_L_25 : Cond.methodLink RL 25 yX4_bit ∈ BIG := big_of (i := 248) rfl rfl
theorem mi_yX4_bit : Cond.instanceMethod yX4_bit ∈ BIG := big_of (i := 249) rfl rfl
theorem mx_yX4_bit : Cond.selects RX4 yX4_bit yX4_bit ∈ BIG := big_of (i := 250) rfl rfl
theorem mc_yX4_bit : Cond.code yX4_bit cX4_bit 2 (some .int) ∈ BIG := big_of (i := 251) rfl rfl
theorem mm_X4_78 : Cond.methodLink RX4 78 yX4_isBitPlace ∈ BIG := big_of (i := 252) rfl rfl
theorem mi_yX4_isBitPlace : Cond.instanceMethod yX4_isBitPlace ∈ BIG := big_of (i := 254) rfl rfl
theorem mc_yX4_isBitPlace : Cond.code yX4_isBitPlace cX4_isBitPlace 2 (some .boolean) ∈ BIG := big_of (i := 255) rfl rfl
theorem mm_L_30 : Cond.methodLink RL 30 yX4_mask ∈ BIG := big_of (i := 256) rfl rfl
theorem mi_yX4_mask : Cond.instanceMethod yX4_mask ∈ BIG := big_of (i := 257) rfl rfl
theorem mx_yX4_mask : Cond.selects RX4 yX4_mask yX4_mask ∈ BIG := big_of (i := 258) rfl rfl
theorem mc_yX4_mask : Cond.code yX4_mask cX4_mask 2 (some .int) ∈ BIG := big_of (i := 259) rfl rfl
theorem mm_X4_89 : Cond.methodLink RX4 89 yX3_setMask ∈ BIG := big_of (i := 260) rfl rfl
theorem mi_yX3_setMask : Cond.instanceMethod yX3_setMask ∈ BIG := big_of (i := 261) rfl rfl
theorem mx_yX3_setMask : Cond.selects RX3 yX3_setMask yX3_setMask ∈ BIG := big_of (i := 262) rfl rfl
theorem mc_yX3_setMask : Cond.code yX3_setMask cX3_setMask 2 none ∈ BIG := big_of (i := 263) rfl rfl
theorem mm_X4_93 : Cond.methodLink RX4 93 yX4_changed ∈ BIG := big_of (i := 264) rfl rfl
theorem mi_yX4_changed : Cond.instanceMethod yX4_changed ∈ BIG := big_of (i := 266) rfl rfl
theorem mc_yX4_changed : Cond.code yX4_changed cX4_changed 1 (some .int) ∈ BIG := big_of (i := 267) rfl rfl
theorem mm_L_34 : Cond.methodLink RL 34 yX4_code ∈ BIG := big_of (i := 268) rfl rfl
theorem mi_yX4_code : Cond.instanceMethod yX4_code ∈ BIG := big_of (i := 269) rfl rfl
theorem mx_yX4_code : Cond.selects RX4 yX4_code yX4_code ∈ BIG := big_of (i := 270) rfl rfl
theorem mc_yX4_code : Cond.code yX4_code cX4_code 3 (some .int) ∈ BIG := big_of (i := 271) rfl rfl
theorem mm_L_39 : Cond.methodLink RL 39 yX4_amp ∈ BIG := big_of (i := 272) rfl rfl
theorem mi_yX4_amp : Cond.instanceMethod yX4_amp ∈ BIG := big_of (i := 273) rfl rfl
theorem mx_yX4_amp : Cond.selects RX4 yX4_amp yX4_amp ∈ BIG := big_of (i := 274) rfl rfl
theorem mc_yX4_amp : Cond.code yX4_amp cX4_amp 2 (some .int) ∈ BIG := big_of (i := 275) rfl rfl
theorem mm_L_43 : Cond.methodLink RL 43 yX4_call ∈ BIG := big_of (i := 276) rfl rfl
theorem mi_yX4_call : Cond.instanceMethod yX4_call ∈ BIG := big_of (i := 277) rfl rfl
theorem mx_yX4_call : Cond.selects RX4 yX4_call yX4_call ∈ BIG := big_of (i := 278) rfl rfl
theorem mc_yX4_call : Cond.code yX4_call cX4_call 3 (some .int) ∈ BIG := big_of (i := 279) rfl rfl
theorem mm_L_47 : Cond.methodLink RL 47 yX4_taps ∈ BIG := big_of (i := 280) rfl rfl
theorem mi_yX4_taps : Cond.instanceMethod yX4_taps ∈ BIG := big_of (i := 281) rfl rfl
theorem mx_yX4_taps : Cond.selects RX4 yX4_taps yX4_taps ∈ BIG := big_of (i := 282) rfl rfl
theorem mc_yX4_taps : Cond.code yX4_taps cX4_taps 5 (some .int) ∈ BIG := big_of (i := 283) rfl rfl
theorem mm_X4_112 : Cond.methodLink RX4 112 yX4_areTaps ∈ BIG := big_of (i := 284) rfl rfl
theorem ms_yX4_areTaps : Cond.static yX4_areTaps ∈ BIG := big_of (i := 285) rfl rfl
theorem mc_yX4_areTaps : Cond.code yX4_areTaps cX4_areTaps 4 (some .boolean) ∈ BIG := big_of (i := 286) rfl rfl
theorem mm_X4_120 : Cond.methodLink RX4 120 yX4_setFour ∈ BIG := big_of (i := 287) rfl rfl
theorem ms_yX4_setFour : Cond.static yX4_setFour ∈ BIG := big_of (i := 288) rfl rfl
theorem mc_yX4_setFour : Cond.code yX4_setFour cX4_setFour 5 none ∈ BIG := big_of (i := 289) rfl rfl
theorem mm_L_52 : Cond.methodLink RL 52 yX4_air ∈ BIG := big_of (i := 290) rfl rfl
theorem mi_yX4_air : Cond.instanceMethod yX4_air ∈ BIG := big_of (i := 291) rfl rfl
theorem mx_yX4_air : Cond.selects RX4 yX4_air yX4_air ∈ BIG := big_of (i := 292) rfl rfl
theorem mc_yX4_air : Cond.code yX4_air cX4_air 4 (some .int) ∈ BIG := big_of (i := 293) rfl rfl
theorem mm_L_57 : Cond.methodLink RL 57 yX4_lose ∈ BIG := big_of (i := 294) rfl rfl
theorem mi_yX4_lose : Cond.instanceMethod yX4_lose ∈ BIG := big_of (i := 295) rfl rfl
theorem mx_yX4_lose : Cond.selects RX4 yX4_lose yX4_lose ∈ BIG := big_of (i := 296) rfl rfl
theorem mc_yX4_lose : Cond.code yX4_lose cX4_lose 3 (some .int) ∈ BIG := big_of (i := 297) rfl rfl
theorem mm_L_61 : Cond.methodLink RL 61 yX4_scrambled ∈ BIG := big_of (i := 298) rfl rfl
theorem mi_yX4_scrambled : Cond.instanceMethod yX4_scrambled ∈ BIG := big_of (i := 299) rfl rfl
set_option maxRecDepth 100000 in
theorem mx_yX4_scrambled : Cond.selects RX4 yX4_scrambled yX4_scrambled ∈ BIG := big_of (i := 300) rfl rfl
set_option maxRecDepth 100000 in
theorem mc_yX4_scrambled : Cond.code yX4_scrambled cX4_scrambled 2 (some .int) ∈ BIG := big_of (i := 301) rfl rfl
set_option maxRecDepth 100000 in
theorem mm_L_65 : Cond.methodLink RL 65 yX4_voice ∈ BIG := big_of (i := 302) rfl rfl
set_option maxRecDepth 100000 in
theorem mi_yX4_voice : Cond.instanceMethod yX4_voice ∈ BIG := big_of (i := 303) rfl rfl
set_option maxRecDepth 100000 in
theorem mx_yX4_voice : Cond.selects RX4 yX4_voice yX4_voice ∈ BIG := big_of (i := 304) rfl rfl
set_option maxRecDepth 100000 in
theorem mc_yX4_voice : Cond.code yX4_voice cX4_voice 2 (some .int) ∈ BIG := big_of (i := 305) rfl rfl
set_option maxRecDepth 100000 in
theorem mm_X4_142 : Cond.methodLink RX4 142 yX3_frameSize ∈ BIG := big_of (i := 306) rfl rfl
set_option maxRecDepth 100000 in
theorem mi_yX3_frameSize : Cond.instanceMethod yX3_frameSize ∈ BIG := big_of (i := 307) rfl rfl
set_option maxRecDepth 100000 in
theorem mx_yX3_frameSize : Cond.selects RX3 yX3_frameSize yX3_frameSize ∈ BIG := big_of (i := 308) rfl rfl
set_option maxRecDepth 100000 in
theorem mc_yX3_frameSize : Cond.code yX3_frameSize cX3_frameSize 1 (some .int) ∈ BIG := big_of (i := 309) rfl rfl
set_option maxRecDepth 100000 in
theorem mm_X3_44 : Cond.methodLink RX3 44 yX3_steps ∈ BIG := big_of (i := 310) rfl rfl
set_option maxRecDepth 100000 in
theorem mi_yX3_steps : Cond.instanceMethod yX3_steps ∈ BIG := big_of (i := 311) rfl rfl
set_option maxRecDepth 100000 in
theorem mx_yX3_steps : Cond.selects RX3 yX3_steps yX3_steps ∈ BIG := big_of (i := 312) rfl rfl
set_option maxRecDepth 100000 in
theorem mc_yX3_steps : Cond.code yX3_steps cX3_steps 1 (some .int) ∈ BIG := big_of (i := 313) rfl rfl
set_option maxRecDepth 100000 in
theorem mm_X4_145 : Cond.methodLink RX4 145 yX3_frameVoice ∈ BIG := big_of (i := 314) rfl rfl
set_option maxRecDepth 100000 in
theorem mi_yX3_frameVoice : Cond.instanceMethod yX3_frameVoice ∈ BIG := big_of (i := 315) rfl rfl
set_option maxRecDepth 100000 in
theorem mx_yX3_frameVoice : Cond.selects RX3 yX3_frameVoice yX3_frameVoice ∈ BIG := big_of (i := 316) rfl rfl
set_option maxRecDepth 100000 in
theorem mc_yX3_frameVoice : Cond.code yX3_frameVoice cX3_frameVoice 6 (some .int) ∈ BIG := big_of (i := 317) rfl rfl
set_option maxRecDepth 100000 in
theorem mm_X3_60 : Cond.methodLink RX3 60 yX3_sign ∈ BIG := big_of (i := 318) rfl rfl
set_option maxRecDepth 100000 in
theorem mi_yX3_sign : Cond.instanceMethod yX3_sign ∈ BIG := big_of (i := 319) rfl rfl
set_option maxRecDepth 100000 in
theorem mx_yX3_sign : Cond.selects RX3 yX3_sign yX3_sign ∈ BIG := big_of (i := 320) rfl rfl
set_option maxRecDepth 100000 in
theorem mc_yX3_sign : Cond.code yX3_sign cX3_sign 2 (some .int) ∈ BIG := big_of (i := 321) rfl rfl
set_option maxRecDepth 100000 in
theorem mm_X3_64 : Cond.methodLink RX3 64 yX3_codeVoice ∈ BIG := big_of (i := 324) rfl rfl
set_option maxRecDepth 100000 in
theorem mi_yX3_codeVoice : Cond.instanceMethod yX3_codeVoice ∈ BIG := big_of (i := 325) rfl rfl
set_option maxRecDepth 100000 in
theorem mx_yX3_codeVoice : Cond.selects RX3 yX3_codeVoice yX3_codeVoice ∈ BIG := big_of (i := 326) rfl rfl
set_option maxRecDepth 100000 in
theorem mc_yX3_codeVoice : Cond.code yX3_codeVoice cX3_codeVoice 5 (some .int) ∈ BIG := big_of (i := 327) rfl rfl
set_option maxRecDepth 100000 in
theorem mk_X4_149 : Cond.constant RX4 149 (-2147483648) ∈ BIG := big_of (i := 329) rfl rfl
set_option maxRecDepth 100000 in
theorem mm_L_69 : Cond.methodLink RL 69 yX4_hear ∈ BIG := big_of (i := 330) rfl rfl
set_option maxRecDepth 100000 in
theorem mi_yX4_hear : Cond.instanceMethod yX4_hear ∈ BIG := big_of (i := 331) rfl rfl
set_option maxRecDepth 100000 in
theorem mx_yX4_hear : Cond.selects RX4 yX4_hear yX4_hear ∈ BIG := big_of (i := 332) rfl rfl
set_option maxRecDepth 100000 in
theorem mc_yX4_hear : Cond.code yX4_hear cX4_hear 1 (some .int) ∈ BIG := big_of (i := 333) rfl rfl
set_option maxRecDepth 100000 in
theorem mm_X4_150 : Cond.methodLink RX4 150 yX1_listen ∈ BIG := big_of (i := 334) rfl rfl
set_option maxRecDepth 100000 in
theorem mi_yX1_listen : Cond.instanceMethod yX1_listen ∈ BIG := big_of (i := 335) rfl rfl
set_option maxRecDepth 100000 in
theorem mx_yX1_listen : Cond.selects RX1 yX1_listen yX1_listen ∈ BIG := big_of (i := 336) rfl rfl
set_option maxRecDepth 100000 in
theorem mc_yX1_listen : Cond.code yX1_listen cX1_listen 6 none ∈ BIG := big_of (i := 337) rfl rfl
set_option maxRecDepth 100000 in
theorem mm_X1_24 : Cond.methodLink RX1 24 yX3_frameSize ∈ BIG := big_of (i := 338) rfl rfl
set_option maxRecDepth 100000 in
theorem mm_X1_30 : Cond.methodLink RX1 30 yJ9_min_7cf53 ∈ BIG := big_of (i := 339) rfl rfl
set_option maxRecDepth 100000 in
theorem ms_yJ9_min_7cf53 : Cond.static yJ9_min_7cf53 ∈ BIG := big_of (i := 340) rfl rfl
set_option maxRecDepth 100000 in
theorem mc_yJ9_min_7cf53 : Cond.code Lib.Math.min.name Lib.Math.min.code 2 (some .int) ∈ BIG := big_of (i := 341) rfl rfl
set_option maxRecDepth 100000 in
theorem mm_X1_36 : Cond.methodLink RX1 36 yX0_nextDraw ∈ BIG := big_of (i := 342) rfl rfl
set_option maxRecDepth 100000 in
theorem mi_yX0_nextDraw : Cond.instanceMethod yX0_nextDraw ∈ BIG := big_of (i := 343) rfl rfl
set_option maxRecDepth 100000 in
theorem mx_yX0_nextDraw : Cond.selects RX0 yX0_nextDraw yX0_nextDraw ∈ BIG := big_of (i := 344) rfl rfl
set_option maxRecDepth 100000 in
theorem mc_yX0_nextDraw : Cond.code yX0_nextDraw cX0_nextDraw 2 (some .int) ∈ BIG := big_of (i := 345) rfl rfl
set_option maxRecDepth 100000 in
theorem mk_X0_31 : Cond.constant RX0 31 (1103515245) ∈ BIG := big_of (i := 346) rfl rfl
set_option maxRecDepth 100000 in
theorem mk_X0_32 : Cond.constant RX0 32 (2147483647) ∈ BIG := big_of (i := 347) rfl rfl
set_option maxRecDepth 100000 in
theorem mm_X1_40 : Cond.methodLink RX1 40 yX0_arrives ∈ BIG := big_of (i := 348) rfl rfl
set_option maxRecDepth 100000 in
theorem mi_yX0_arrives : Cond.instanceMethod yX0_arrives ∈ BIG := big_of (i := 349) rfl rfl
set_option maxRecDepth 100000 in
theorem mx_yX0_arrives : Cond.selects RX0 yX0_arrives yX0_arrives ∈ BIG := big_of (i := 350) rfl rfl
set_option maxRecDepth 100000 in
theorem mc_yX0_arrives : Cond.code yX0_arrives cX0_arrives 6 (some .int) ∈ BIG := big_of (i := 351) rfl rfl
set_option maxRecDepth 100000 in
theorem mm_X0_34 : Cond.methodLink RX0 34 yX0_noiseOf ∈ BIG := big_of (i := 352) rfl rfl
set_option maxRecDepth 100000 in
theorem mi_yX0_noiseOf : Cond.instanceMethod yX0_noiseOf ∈ BIG := big_of (i := 353) rfl rfl
set_option maxRecDepth 100000 in
theorem mx_yX0_noiseOf : Cond.selects RX0 yX0_noiseOf yX0_noiseOf ∈ BIG := big_of (i := 354) rfl rfl
set_option maxRecDepth 100000 in
theorem mc_yX0_noiseOf : Cond.code yX0_noiseOf cX0_noiseOf 3 (some .int) ∈ BIG := big_of (i := 355) rfl rfl
set_option maxRecDepth 100000 in
theorem mk_X0_33 : Cond.constant RX0 33 (65536) ∈ BIG := big_of (i := 356) rfl rfl
set_option maxRecDepth 100000 in
theorem mm_X0_38 : Cond.methodLink RX0 38 yX3_frameVoice ∈ BIG := big_of (i := 357) rfl rfl
set_option maxRecDepth 100000 in
theorem mm_X0_43 : Cond.methodLink RX0 43 yJ9_min_7cf53 ∈ BIG := big_of (i := 358) rfl rfl
set_option maxRecDepth 100000 in
theorem mm_X0_49 : Cond.methodLink RX0 49 yJ9_max_7cf53 ∈ BIG := big_of (i := 359) rfl rfl
set_option maxRecDepth 100000 in
theorem ms_yJ9_max_7cf53 : Cond.static yJ9_max_7cf53 ∈ BIG := big_of (i := 360) rfl rfl
set_option maxRecDepth 100000 in
theorem mc_yJ9_max_7cf53 : Cond.code Lib.Math.max.name Lib.Math.max.code 2 (some .int) ∈ BIG := big_of (i := 361) rfl rfl
set_option maxRecDepth 100000 in
theorem mm_L_73 : Cond.methodLink RL 73 yX4_sample ∈ BIG := big_of (i := 362) rfl rfl
set_option maxRecDepth 100000 in
theorem mi_yX4_sample : Cond.instanceMethod yX4_sample ∈ BIG := big_of (i := 363) rfl rfl
set_option maxRecDepth 100000 in
theorem mx_yX4_sample : Cond.selects RX4 yX4_sample yX4_sample ∈ BIG := big_of (i := 364) rfl rfl
set_option maxRecDepth 100000 in
theorem mc_yX4_sample : Cond.code yX4_sample cX4_sample 2 (some .int) ∈ BIG := big_of (i := 365) rfl rfl
set_option maxRecDepth 100000 in
theorem mm_X4_157 : Cond.methodLink RX4 157 yX1_at ∈ BIG := big_of (i := 366) rfl rfl
set_option maxRecDepth 100000 in
theorem mi_yX1_at : Cond.instanceMethod yX1_at ∈ BIG := big_of (i := 367) rfl rfl
set_option maxRecDepth 100000 in
theorem mx_yX1_at : Cond.selects RX1 yX1_at yX1_at ∈ BIG := big_of (i := 368) rfl rfl
set_option maxRecDepth 100000 in
theorem mc_yX1_at : Cond.code yX1_at cX1_at 2 (some .int) ∈ BIG := big_of (i := 369) rfl rfl
set_option maxRecDepth 100000 in
theorem mm_L_77 : Cond.methodLink RL 77 yX4_least ∈ BIG := big_of (i := 371) rfl rfl
set_option maxRecDepth 100000 in
theorem mi_yX4_least : Cond.instanceMethod yX4_least ∈ BIG := big_of (i := 372) rfl rfl
set_option maxRecDepth 100000 in
theorem mx_yX4_least : Cond.selects RX4 yX4_least yX4_least ∈ BIG := big_of (i := 373) rfl rfl
set_option maxRecDepth 100000 in
theorem mc_yX4_least : Cond.code yX4_least cX4_least 3 (some .int) ∈ BIG := big_of (i := 374) rfl rfl
set_option maxRecDepth 100000 in
theorem mk_X4_160 : Cond.constant RX4 160 (1000000) ∈ BIG := big_of (i := 375) rfl rfl
set_option maxRecDepth 100000 in
theorem mm_L_81 : Cond.methodLink RL 81 yX4_find ∈ BIG := big_of (i := 376) rfl rfl
set_option maxRecDepth 100000 in
theorem mi_yX4_find : Cond.instanceMethod yX4_find ∈ BIG := big_of (i := 377) rfl rfl
set_option maxRecDepth 100000 in
theorem mx_yX4_find : Cond.selects RX4 yX4_find yX4_find ∈ BIG := big_of (i := 378) rfl rfl
set_option maxRecDepth 100000 in
theorem mc_yX4_find : Cond.code yX4_find cX4_find 1 (some .int) ∈ BIG := big_of (i := 379) rfl rfl
set_option maxRecDepth 100000 in
theorem mm_X4_161 : Cond.methodLink RX4 161 yX0_lastPlace ∈ BIG := big_of (i := 380) rfl rfl
set_option maxRecDepth 100000 in
theorem mi_yX0_lastPlace : Cond.instanceMethod yX0_lastPlace ∈ BIG := big_of (i := 381) rfl rfl
set_option maxRecDepth 100000 in
theorem mx_yX0_lastPlace : Cond.selects RX0 yX0_lastPlace yX0_lastPlace ∈ BIG := big_of (i := 382) rfl rfl
set_option maxRecDepth 100000 in
theorem mc_yX0_lastPlace : Cond.code yX0_lastPlace cX0_lastPlace 1 (some .int) ∈ BIG := big_of (i := 383) rfl rfl
set_option maxRecDepth 100000 in
theorem mm_X4_164 : Cond.methodLink RX4 164 yX1_locate ∈ BIG := big_of (i := 384) rfl rfl
set_option maxRecDepth 100000 in
theorem mi_yX1_locate : Cond.instanceMethod yX1_locate ∈ BIG := big_of (i := 385) rfl rfl
set_option maxRecDepth 100000 in
theorem mx_yX1_locate : Cond.selects RX1 yX1_locate yX1_locate ∈ BIG := big_of (i := 386) rfl rfl
set_option maxRecDepth 100000 in
theorem mc_yX1_locate : Cond.code yX1_locate cX1_locate 8 (some .int) ∈ BIG := big_of (i := 387) rfl rfl
set_option maxRecDepth 100000 in
theorem mm_X1_57 : Cond.methodLink RX1 57 yX1_alike ∈ BIG := big_of (i := 388) rfl rfl
set_option maxRecDepth 100000 in
theorem mi_yX1_alike : Cond.instanceMethod yX1_alike ∈ BIG := big_of (i := 389) rfl rfl
set_option maxRecDepth 100000 in
theorem mx_yX1_alike : Cond.selects RX1 yX1_alike yX1_alike ∈ BIG := big_of (i := 390) rfl rfl
set_option maxRecDepth 100000 in
theorem mc_yX1_alike : Cond.code yX1_alike cX1_alike 5 (some .int) ∈ BIG := big_of (i := 391) rfl rfl
set_option maxRecDepth 100000 in
theorem mm_X1_51 : Cond.methodLink RX1 51 yX3_sign ∈ BIG := big_of (i := 392) rfl rfl
set_option maxRecDepth 100000 in
theorem mm_X1_54 : Cond.methodLink RX1 54 yX1_at ∈ BIG := big_of (i := 393) rfl rfl
set_option maxRecDepth 100000 in
theorem mm_L_85 : Cond.methodLink RL 85 yX4_likeness ∈ BIG := big_of (i := 394) rfl rfl
set_option maxRecDepth 100000 in
theorem mi_yX4_likeness : Cond.instanceMethod yX4_likeness ∈ BIG := big_of (i := 395) rfl rfl
set_option maxRecDepth 100000 in
theorem mx_yX4_likeness : Cond.selects RX4 yX4_likeness yX4_likeness ∈ BIG := big_of (i := 396) rfl rfl
set_option maxRecDepth 100000 in
theorem mc_yX4_likeness : Cond.code yX4_likeness cX4_likeness 2 (some .int) ∈ BIG := big_of (i := 397) rfl rfl
set_option maxRecDepth 100000 in
theorem mm_X4_168 : Cond.methodLink RX4 168 yX1_alike ∈ BIG := big_of (i := 398) rfl rfl
set_option maxRecDepth 100000 in
theorem mm_L_89 : Cond.methodLink RL 89 yX4_bring ∈ BIG := big_of (i := 399) rfl rfl
set_option maxRecDepth 100000 in
theorem mi_yX4_bring : Cond.instanceMethod yX4_bring ∈ BIG := big_of (i := 400) rfl rfl
set_option maxRecDepth 100000 in
theorem mx_yX4_bring : Cond.selects RX4 yX4_bring yX4_bring ∈ BIG := big_of (i := 401) rfl rfl
set_option maxRecDepth 100000 in
theorem mc_yX4_bring : Cond.code yX4_bring cX4_bring 5 (some .long) ∈ BIG := big_of (i := 402) rfl rfl
set_option maxRecDepth 100000 in
theorem mk_X4_172 : Cond.constantLong RX4 172 (-2) ∈ BIG := big_of (i := 403) rfl rfl
set_option maxRecDepth 100000 in
theorem mk_X4_174 : Cond.constantLong RX4 174 (-3) ∈ BIG := big_of (i := 404) rfl rfl
set_option maxRecDepth 100000 in
theorem mm_X4_179 : Cond.methodLink RX4 179 yX2_follow ∈ BIG := big_of (i := 405) rfl rfl
set_option maxRecDepth 100000 in
theorem mi_yX2_follow : Cond.instanceMethod yX2_follow ∈ BIG := big_of (i := 406) rfl rfl
set_option maxRecDepth 100000 in
theorem mx_yX2_follow : Cond.selects RX2 yX2_follow yX2_follow ∈ BIG := big_of (i := 407) rfl rfl
set_option maxRecDepth 100000 in
theorem mc_yX2_follow : Cond.code yX2_follow cX2_follow 7 none ∈ BIG := big_of (i := 408) rfl rfl
set_option maxRecDepth 100000 in
theorem mm_X2_41 : Cond.methodLink RX2 41 yX2_begin ∈ BIG := big_of (i := 409) rfl rfl
set_option maxRecDepth 100000 in
theorem mi_yX2_begin : Cond.instanceMethod yX2_begin ∈ BIG := big_of (i := 411) rfl rfl
set_option maxRecDepth 100000 in
theorem mc_yX2_begin : Cond.code yX2_begin cX2_begin 2 none ∈ BIG := big_of (i := 412) rfl rfl
set_option maxRecDepth 100000 in
theorem mk_X2_74 : Cond.constantLong RX2 74 (1152921504606846976) ∈ BIG := big_of (i := 413) rfl rfl
set_option maxRecDepth 100000 in
theorem mm_X2_50 : Cond.methodLink RX2 50 yX3_steps ∈ BIG := big_of (i := 414) rfl rfl
set_option maxRecDepth 100000 in
theorem mm_X2_54 : Cond.methodLink RX2 54 yX2_tabulate ∈ BIG := big_of (i := 415) rfl rfl
set_option maxRecDepth 100000 in
theorem mi_yX2_tabulate : Cond.instanceMethod yX2_tabulate ∈ BIG := big_of (i := 417) rfl rfl
set_option maxRecDepth 100000 in
theorem mc_yX2_tabulate : Cond.code yX2_tabulate cX2_tabulate 4 none ∈ BIG := big_of (i := 418) rfl rfl
set_option maxRecDepth 100000 in
theorem mm_X2_76 : Cond.methodLink RX2 76 yX2_dueSample ∈ BIG := big_of (i := 419) rfl rfl
set_option maxRecDepth 100000 in
theorem mi_yX2_dueSample : Cond.instanceMethod yX2_dueSample ∈ BIG := big_of (i := 421) rfl rfl
set_option maxRecDepth 100000 in
theorem mc_yX2_dueSample : Cond.code yX2_dueSample cX2_dueSample 9 (some .int) ∈ BIG := big_of (i := 422) rfl rfl
set_option maxRecDepth 100000 in
theorem mm_X2_80 : Cond.methodLink RX2 80 yX3_sign ∈ BIG := big_of (i := 423) rfl rfl
set_option maxRecDepth 100000 in
theorem mm_X2_86 : Cond.methodLink RX2 86 yX3_codeVoice ∈ BIG := big_of (i := 424) rfl rfl
set_option maxRecDepth 100000 in
theorem mm_X2_58 : Cond.methodLink RX2 58 yX1_at ∈ BIG := big_of (i := 425) rfl rfl
set_option maxRecDepth 100000 in
theorem mm_X2_67 : Cond.methodLink RX2 67 yX2_goOn ∈ BIG := big_of (i := 426) rfl rfl
set_option maxRecDepth 100000 in
theorem mi_yX2_goOn : Cond.instanceMethod yX2_goOn ∈ BIG := big_of (i := 428) rfl rfl
set_option maxRecDepth 100000 in
theorem mc_yX2_goOn : Cond.code yX2_goOn cX2_goOn 13 none ∈ BIG := big_of (i := 429) rfl rfl
set_option maxRecDepth 100000 in
theorem mk_X2_90 : Cond.constantLong RX2 90 (2) ∈ BIG := big_of (i := 430) rfl rfl
set_option maxRecDepth 100000 in
theorem mm_X2_92 : Cond.methodLink RX2 92 yX2_offer ∈ BIG := big_of (i := 431) rfl rfl
set_option maxRecDepth 100000 in
theorem mi_yX2_offer : Cond.instanceMethod yX2_offer ∈ BIG := big_of (i := 433) rfl rfl
set_option maxRecDepth 100000 in
theorem mc_yX2_offer : Cond.code yX2_offer cX2_offer 6 none ∈ BIG := big_of (i := 434) rfl rfl
set_option maxRecDepth 100000 in
theorem mm_X2_96 : Cond.methodLink RX2 96 arraycopyName ∈ BIG := big_of (i := 436) rfl rfl
set_option maxRecDepth 100000 in
theorem ms_arraycopyName : Cond.static arraycopyName ∈ BIG := big_of (i := 437) rfl rfl
set_option maxRecDepth 100000 in
theorem mv_arraycopyName : Cond.native arraycopyName ∈ BIG := big_of (i := 438) rfl rfl
set_option maxRecDepth 100000 in
theorem mm_X2_71 : Cond.methodLink RX2 71 yX2_settle ∈ BIG := big_of (i := 439) rfl rfl
set_option maxRecDepth 100000 in
theorem mi_yX2_settle : Cond.instanceMethod yX2_settle ∈ BIG := big_of (i := 441) rfl rfl
set_option maxRecDepth 100000 in
theorem mc_yX2_settle : Cond.code yX2_settle cX2_settle 2 none ∈ BIG := big_of (i := 442) rfl rfl
set_option maxRecDepth 100000 in
theorem mm_X4_189 : Cond.methodLink RX4 189 yX4_unmix ∈ BIG := big_of (i := 443) rfl rfl
set_option maxRecDepth 100000 in
theorem ms_yX4_unmix : Cond.static yX4_unmix ∈ BIG := big_of (i := 444) rfl rfl
set_option maxRecDepth 100000 in
theorem mc_yX4_unmix : Cond.code yX4_unmix cX4_unmix 9 (some .long) ∈ BIG := big_of (i := 445) rfl rfl
set_option maxRecDepth 100000 in
theorem mm_L_94 : Cond.methodLink RL 94 yX4_brought ∈ BIG := big_of (i := 446) rfl rfl
set_option maxRecDepth 100000 in
theorem mi_yX4_brought : Cond.instanceMethod yX4_brought ∈ BIG := big_of (i := 447) rfl rfl
set_option maxRecDepth 100000 in
theorem mx_yX4_brought : Cond.selects RX4 yX4_brought yX4_brought ∈ BIG := big_of (i := 448) rfl rfl
set_option maxRecDepth 100000 in
theorem mc_yX4_brought : Cond.code yX4_brought cX4_brought 3 (some .int) ∈ BIG := big_of (i := 449) rfl rfl
set_option maxRecDepth 100000 in
theorem mm_L_98 : Cond.methodLink RL 98 yX4_errors ∈ BIG := big_of (i := 450) rfl rfl
set_option maxRecDepth 100000 in
theorem mi_yX4_errors : Cond.instanceMethod yX4_errors ∈ BIG := big_of (i := 451) rfl rfl
set_option maxRecDepth 100000 in
theorem mx_yX4_errors : Cond.selects RX4 yX4_errors yX4_errors ∈ BIG := big_of (i := 452) rfl rfl
set_option maxRecDepth 100000 in
theorem mc_yX4_errors : Cond.code yX4_errors cX4_errors 1 (some .int) ∈ BIG := big_of (i := 453) rfl rfl
set_option maxRecDepth 100000 in
theorem mm_X4_196 : Cond.methodLink RX4 196 yX4_differences ∈ BIG := big_of (i := 454) rfl rfl
set_option maxRecDepth 100000 in
theorem ms_yX4_differences : Cond.static yX4_differences ∈ BIG := big_of (i := 455) rfl rfl
set_option maxRecDepth 100000 in
theorem mc_yX4_differences : Cond.code yX4_differences cX4_differences 4 (some .int) ∈ BIG := big_of (i := 456) rfl rfl
set_option maxRecDepth 100000 in
theorem mm_L_102 : Cond.methodLink RL 102 yX4_sweep ∈ BIG := big_of (i := 457) rfl rfl
set_option maxRecDepth 100000 in
theorem mi_yX4_sweep : Cond.instanceMethod yX4_sweep ∈ BIG := big_of (i := 458) rfl rfl
set_option maxRecDepth 100000 in
theorem mx_yX4_sweep : Cond.selects RX4 yX4_sweep yX4_sweep ∈ BIG := big_of (i := 459) rfl rfl
set_option maxRecDepth 100000 in
theorem mc_yX4_sweep : Cond.code yX4_sweep cX4_sweep 4 (some .int) ∈ BIG := big_of (i := 460) rfl rfl
set_option maxRecDepth 100000 in
theorem mm_X4_200 : Cond.methodLink RX4 200 yX4_errorsOfSending ∈ BIG := big_of (i := 461) rfl rfl
set_option maxRecDepth 100000 in
theorem mi_yX4_errorsOfSending : Cond.instanceMethod yX4_errorsOfSending ∈ BIG := big_of (i := 463) rfl rfl
set_option maxRecDepth 100000 in
theorem mc_yX4_errorsOfSending : Cond.code yX4_errorsOfSending cX4_errorsOfSending 3 (some .int) ∈ BIG := big_of (i := 464) rfl rfl
set_option maxRecDepth 100000 in
theorem mm_X4_203 : Cond.methodLink RX4 203 arraycopyName ∈ BIG := big_of (i := 465) rfl rfl
set_option maxRecDepth 100000 in
theorem mm_L_106 : Cond.methodLink RL 106 yX4_whole ∈ BIG := big_of (i := 466) rfl rfl
set_option maxRecDepth 100000 in
theorem mi_yX4_whole : Cond.instanceMethod yX4_whole ∈ BIG := big_of (i := 467) rfl rfl
set_option maxRecDepth 100000 in
theorem mx_yX4_whole : Cond.selects RX4 yX4_whole yX4_whole ∈ BIG := big_of (i := 468) rfl rfl
set_option maxRecDepth 100000 in
theorem mc_yX4_whole : Cond.code yX4_whole cX4_whole 3 (some .int) ∈ BIG := big_of (i := 469) rfl rfl
set_option maxRecDepth 100000 in
theorem mm_L_110 : Cond.methodLink RL 110 yX4_count ∈ BIG := big_of (i := 470) rfl rfl
set_option maxRecDepth 100000 in
theorem mi_yX4_count : Cond.instanceMethod yX4_count ∈ BIG := big_of (i := 471) rfl rfl
set_option maxRecDepth 100000 in
theorem mx_yX4_count : Cond.selects RX4 yX4_count yX4_count ∈ BIG := big_of (i := 472) rfl rfl
set_option maxRecDepth 100000 in
theorem mc_yX4_count : Cond.code yX4_count cX4_count 2 (some .int) ∈ BIG := big_of (i := 473) rfl rfl
set_option maxRecDepth 100000 in
theorem mo_L_10 : Cond.classLink RL 10 RX5 ∈ BIG := big_of (i := 474) rfl rfl
set_option maxRecDepth 100000 in
theorem mb_X5 : Cond.instantiable RX5 28 ∈ BIG := big_of (i := 475) rfl rfl
set_option maxRecDepth 100000 in
theorem mm_L_12 : Cond.methodLink RL 12 yX5_init ∈ BIG := big_of (i := 476) rfl rfl
set_option maxRecDepth 100000 in
theorem mi_yX5_init : Cond.instanceMethod yX5_init ∈ BIG := big_of (i := 477) rfl rfl
set_option maxRecDepth 100000 in
theorem mc_yX5_init : Cond.code yX5_init cX5_init 1 none ∈ BIG := big_of (i := 478) rfl rfl
set_option maxRecDepth 100000 in
theorem mm_X5_1 : Cond.methodLink RX5 1 objectInit ∈ BIG := big_of (i := 479) rfl rfl
set_option maxRecDepth 100000 in
theorem mf_X5_83 : Cond.fieldLink RX5 83 "NoiseBenchModel" "bits" "I" ∈ BIG := big_of (i := 480) rfl rfl
set_option maxRecDepth 100000 in
theorem mf_X5_7 : Cond.fieldLink RX5 7 "NoiseBenchModel" "message" "[I" ∈ BIG := big_of (i := 481) rfl rfl
set_option maxRecDepth 100000 in
theorem mf_X5_90 : Cond.fieldLink RX5 90 "NoiseBenchModel" "mask" "I" ∈ BIG := big_of (i := 482) rfl rfl
set_option maxRecDepth 100000 in
theorem mf_X5_13 : Cond.fieldLink RX5 13 "NoiseBenchModel" "g" "I" ∈ BIG := big_of (i := 483) rfl rfl
set_option maxRecDepth 100000 in
theorem mf_X5_17 : Cond.fieldLink RX5 17 "NoiseBenchModel" "h" "I" ∈ BIG := big_of (i := 484) rfl rfl
set_option maxRecDepth 100000 in
theorem mf_X5_20 : Cond.fieldLink RX5 20 "NoiseBenchModel" "amp" "I" ∈ BIG := big_of (i := 485) rfl rfl
set_option maxRecDepth 100000 in
theorem mf_X5_23 : Cond.fieldLink RX5 23 "NoiseBenchModel" "callSize" "I" ∈ BIG := big_of (i := 486) rfl rfl
set_option maxRecDepth 100000 in
theorem mf_X5_26 : Cond.fieldLink RX5 26 "NoiseBenchModel" "callSigns" "I" ∈ BIG := big_of (i := 487) rfl rfl
set_option maxRecDepth 100000 in
theorem mf_X5_29 : Cond.fieldLink RX5 29 "NoiseBenchModel" "tap" "[I" ∈ BIG := big_of (i := 488) rfl rfl
set_option maxRecDepth 100000 in
theorem mf_X5_97 : Cond.fieldLink RX5 97 "NoiseBenchModel" "delay" "I" ∈ BIG := big_of (i := 489) rfl rfl
set_option maxRecDepth 100000 in
theorem mf_X5_100 : Cond.fieldLink RX5 100 "NoiseBenchModel" "noise" "I" ∈ BIG := big_of (i := 490) rfl rfl
set_option maxRecDepth 100000 in
theorem mf_X5_32 : Cond.fieldLink RX5 32 "NoiseBenchModel" "seed" "I" ∈ BIG := big_of (i := 491) rfl rfl
set_option maxRecDepth 100000 in
theorem mf_X5_103 : Cond.fieldLink RX5 103 "NoiseBenchModel" "lostFrom" "I" ∈ BIG := big_of (i := 492) rfl rfl
set_option maxRecDepth 100000 in
theorem mf_X5_106 : Cond.fieldLink RX5 106 "NoiseBenchModel" "lostMany" "I" ∈ BIG := big_of (i := 493) rfl rfl
set_option maxRecDepth 100000 in
theorem mf_X5_35 : Cond.fieldLink RX5 35 "NoiseBenchModel" "low" "I" ∈ BIG := big_of (i := 494) rfl rfl
set_option maxRecDepth 100000 in
theorem mf_X5_72 : Cond.fieldLink RX5 72 "NoiseBenchModel" "isHeard" "Z" ∈ BIG := big_of (i := 495) rfl rfl
set_option maxRecDepth 100000 in
theorem mf_X5_38 : Cond.fieldLink RX5 38 "NoiseBenchModel" "found" "I" ∈ BIG := big_of (i := 496) rfl rfl
set_option maxRecDepth 100000 in
theorem mf_X5_76 : Cond.fieldLink RX5 76 "NoiseBenchModel" "isBrought" "Z" ∈ BIG := big_of (i := 497) rfl rfl
set_option maxRecDepth 100000 in
theorem mf_X5_41 : Cond.fieldLink RX5 41 "NoiseBenchModel" "heard" "[I" ∈ BIG := big_of (i := 498) rfl rfl
set_option maxRecDepth 100000 in
theorem mf_X5_44 : Cond.fieldLink RX5 44 "NoiseBenchModel" "got" "[I" ∈ BIG := big_of (i := 499) rfl rfl
set_option maxRecDepth 100000 in
theorem mf_X5_47 : Cond.fieldLink RX5 47 "NoiseBenchModel" "back" "[I" ∈ BIG := big_of (i := 500) rfl rfl
set_option maxRecDepth 100000 in
theorem mf_X5_50 : Cond.fieldLink RX5 50 "NoiseBenchModel" "mixed" "[I" ∈ BIG := big_of (i := 501) rfl rfl
set_option maxRecDepth 100000 in
theorem mf_X5_53 : Cond.fieldLink RX5 53 "NoiseBenchModel" "voices" "[I" ∈ BIG := big_of (i := 502) rfl rfl
set_option maxRecDepth 100000 in
theorem mf_X5_56 : Cond.fieldLink RX5 56 "NoiseBenchModel" "samples" "[I" ∈ BIG := big_of (i := 503) rfl rfl
set_option maxRecDepth 100000 in
theorem mf_X5_59 : Cond.fieldLink RX5 59 "NoiseBenchModel" "costs" "[J" ∈ BIG := big_of (i := 504) rfl rfl
set_option maxRecDepth 100000 in
theorem mf_X5_63 : Cond.fieldLink RX5 63 "NoiseBenchModel" "guess" "[I" ∈ BIG := big_of (i := 505) rfl rfl
set_option maxRecDepth 100000 in
theorem mf_X5_66 : Cond.fieldLink RX5 66 "NoiseBenchModel" "keptGot" "[I" ∈ BIG := big_of (i := 506) rfl rfl
set_option maxRecDepth 100000 in
theorem mf_X5_69 : Cond.fieldLink RX5 69 "NoiseBenchModel" "keptBack" "[I" ∈ BIG := big_of (i := 507) rfl rfl
set_option maxRecDepth 100000 in
theorem mm_L_19 : Cond.methodLink RL 19 yX5_bits ∈ BIG := big_of (i := 565) rfl rfl
set_option maxRecDepth 100000 in
theorem mi_yX5_bits : Cond.instanceMethod yX5_bits ∈ BIG := big_of (i := 566) rfl rfl
set_option maxRecDepth 100000 in
theorem mx_yX5_bits : Cond.selects RX5 yX5_bits yX5_bits ∈ BIG := big_of (i := 567) rfl rfl
set_option maxRecDepth 100000 in
theorem mc_yX5_bits : Cond.code yX5_bits cX5_bits 5 (some .int) ∈ BIG := big_of (i := 568) rfl rfl
set_option maxRecDepth 100000 in
theorem mm_X5_79 : Cond.methodLink RX5 79 yX5_in ∈ BIG := big_of (i := 569) rfl rfl
set_option maxRecDepth 100000 in
theorem ms_yX5_in : Cond.static yX5_in ∈ BIG := big_of (i := 570) rfl rfl
set_option maxRecDepth 100000 in
theorem mc_yX5_in : Cond.code yX5_in cX5_in 3 (some .boolean) ∈ BIG := big_of (i := 571) rfl rfl
set_option maxRecDepth 100000 in
theorem mm_X5_86 : Cond.methodLink RX5 86 yX5_ended ∈ BIG := big_of (i := 572) rfl rfl
set_option maxRecDepth 100000 in
theorem mi_yX5_ended : Cond.instanceMethod yX5_ended ∈ BIG := big_of (i := 574) rfl rfl
set_option maxRecDepth 100000 in
theorem mc_yX5_ended : Cond.code yX5_ended cX5_ended 1 (some .int) ∈ BIG := big_of (i := 575) rfl rfl
set_option maxRecDepth 100000 in
theorem mm_L_24 : Cond.methodLink RL 24 yX5_clear ∈ BIG := big_of (i := 576) rfl rfl
set_option maxRecDepth 100000 in
theorem mi_yX5_clear : Cond.instanceMethod yX5_clear ∈ BIG := big_of (i := 577) rfl rfl
set_option maxRecDepth 100000 in
theorem mx_yX5_clear : Cond.selects RX5 yX5_clear yX5_clear ∈ BIG := big_of (i := 578) rfl rfl
set_option maxRecDepth 100000 in
theorem mc_yX5_clear : Cond.code yX5_clear cX5_clear 2 (some .int) ∈ BIG := big_of (i := 579) rfl rfl
set_option maxRecDepth 100000 in
theorem mm_L_29 : Cond.methodLink RL 29 yX5_bit ∈ BIG := big_of (i := 580) rfl rfl
set_option maxRecDepth 100000 in
theorem mi_yX5_bit : Cond.instanceMethod yX5_bit ∈ BIG := big_of (i := 581) rfl rfl
set_option maxRecDepth 100000 in
theorem mx_yX5_bit : Cond.selects RX5 yX5_bit yX5_bit ∈ BIG := big_of (i := 582) rfl rfl
set_option maxRecDepth 100000 in
theorem mc_yX5_bit : Cond.code yX5_bit cX5_bit 2 (some .int) ∈ BIG := big_of (i := 583) rfl rfl
set_option maxRecDepth 100000 in
theorem mm_L_33 : Cond.methodLink RL 33 yX5_mask ∈ BIG := big_of (i := 584) rfl rfl
set_option maxRecDepth 100000 in
theorem mi_yX5_mask : Cond.instanceMethod yX5_mask ∈ BIG := big_of (i := 585) rfl rfl
set_option maxRecDepth 100000 in
theorem mx_yX5_mask : Cond.selects RX5 yX5_mask yX5_mask ∈ BIG := big_of (i := 586) rfl rfl
set_option maxRecDepth 100000 in
theorem mc_yX5_mask : Cond.code yX5_mask cX5_mask 2 (some .int) ∈ BIG := big_of (i := 587) rfl rfl
set_option maxRecDepth 100000 in
theorem mm_L_38 : Cond.methodLink RL 38 yX5_code ∈ BIG := big_of (i := 588) rfl rfl
set_option maxRecDepth 100000 in
theorem mi_yX5_code : Cond.instanceMethod yX5_code ∈ BIG := big_of (i := 589) rfl rfl
set_option maxRecDepth 100000 in
theorem mx_yX5_code : Cond.selects RX5 yX5_code yX5_code ∈ BIG := big_of (i := 590) rfl rfl
set_option maxRecDepth 100000 in
theorem mc_yX5_code : Cond.code yX5_code cX5_code 3 (some .int) ∈ BIG := big_of (i := 591) rfl rfl
set_option maxRecDepth 100000 in
theorem mm_L_42 : Cond.methodLink RL 42 yX5_amp ∈ BIG := big_of (i := 592) rfl rfl
set_option maxRecDepth 100000 in
theorem mi_yX5_amp : Cond.instanceMethod yX5_amp ∈ BIG := big_of (i := 593) rfl rfl
set_option maxRecDepth 100000 in
theorem mx_yX5_amp : Cond.selects RX5 yX5_amp yX5_amp ∈ BIG := big_of (i := 594) rfl rfl
set_option maxRecDepth 100000 in
theorem mc_yX5_amp : Cond.code yX5_amp cX5_amp 2 (some .int) ∈ BIG := big_of (i := 595) rfl rfl
set_option maxRecDepth 100000 in
theorem mm_L_46 : Cond.methodLink RL 46 yX5_call ∈ BIG := big_of (i := 596) rfl rfl
set_option maxRecDepth 100000 in
theorem mi_yX5_call : Cond.instanceMethod yX5_call ∈ BIG := big_of (i := 597) rfl rfl
set_option maxRecDepth 100000 in
theorem mx_yX5_call : Cond.selects RX5 yX5_call yX5_call ∈ BIG := big_of (i := 598) rfl rfl
set_option maxRecDepth 100000 in
theorem mc_yX5_call : Cond.code yX5_call cX5_call 3 (some .int) ∈ BIG := big_of (i := 599) rfl rfl
set_option maxRecDepth 100000 in
theorem mm_L_51 : Cond.methodLink RL 51 yX5_taps ∈ BIG := big_of (i := 600) rfl rfl
set_option maxRecDepth 100000 in
theorem mi_yX5_taps : Cond.instanceMethod yX5_taps ∈ BIG := big_of (i := 601) rfl rfl
set_option maxRecDepth 100000 in
theorem mx_yX5_taps : Cond.selects RX5 yX5_taps yX5_taps ∈ BIG := big_of (i := 602) rfl rfl
set_option maxRecDepth 100000 in
theorem mc_yX5_taps : Cond.code yX5_taps cX5_taps 5 (some .int) ∈ BIG := big_of (i := 603) rfl rfl
set_option maxRecDepth 100000 in
theorem mm_X5_93 : Cond.methodLink RX5 93 yX5_areTaps ∈ BIG := big_of (i := 604) rfl rfl
set_option maxRecDepth 100000 in
theorem ms_yX5_areTaps : Cond.static yX5_areTaps ∈ BIG := big_of (i := 605) rfl rfl
set_option maxRecDepth 100000 in
theorem mc_yX5_areTaps : Cond.code yX5_areTaps cX5_areTaps 4 (some .boolean) ∈ BIG := big_of (i := 606) rfl rfl
set_option maxRecDepth 100000 in
theorem mm_L_56 : Cond.methodLink RL 56 yX5_air ∈ BIG := big_of (i := 607) rfl rfl
set_option maxRecDepth 100000 in
theorem mi_yX5_air : Cond.instanceMethod yX5_air ∈ BIG := big_of (i := 608) rfl rfl
set_option maxRecDepth 100000 in
theorem mx_yX5_air : Cond.selects RX5 yX5_air yX5_air ∈ BIG := big_of (i := 609) rfl rfl
set_option maxRecDepth 100000 in
theorem mc_yX5_air : Cond.code yX5_air cX5_air 4 (some .int) ∈ BIG := big_of (i := 610) rfl rfl
set_option maxRecDepth 100000 in
theorem mm_L_60 : Cond.methodLink RL 60 yX5_lose ∈ BIG := big_of (i := 611) rfl rfl
set_option maxRecDepth 100000 in
theorem mi_yX5_lose : Cond.instanceMethod yX5_lose ∈ BIG := big_of (i := 612) rfl rfl
set_option maxRecDepth 100000 in
theorem mx_yX5_lose : Cond.selects RX5 yX5_lose yX5_lose ∈ BIG := big_of (i := 613) rfl rfl
set_option maxRecDepth 100000 in
theorem mc_yX5_lose : Cond.code yX5_lose cX5_lose 3 (some .int) ∈ BIG := big_of (i := 614) rfl rfl
set_option maxRecDepth 100000 in
theorem mm_L_64 : Cond.methodLink RL 64 yX5_scrambled ∈ BIG := big_of (i := 615) rfl rfl
set_option maxRecDepth 100000 in
theorem mi_yX5_scrambled : Cond.instanceMethod yX5_scrambled ∈ BIG := big_of (i := 616) rfl rfl
set_option maxRecDepth 100000 in
theorem mx_yX5_scrambled : Cond.selects RX5 yX5_scrambled yX5_scrambled ∈ BIG := big_of (i := 617) rfl rfl
set_option maxRecDepth 100000 in
theorem mc_yX5_scrambled : Cond.code yX5_scrambled cX5_scrambled 2 (some .int) ∈ BIG := big_of (i := 618) rfl rfl
set_option maxRecDepth 100000 in
theorem mm_X5_113 : Cond.methodLink RX5 113 yX5_mix ∈ BIG := big_of (i := 619) rfl rfl
set_option maxRecDepth 100000 in
theorem mi_yX5_mix : Cond.instanceMethod yX5_mix ∈ BIG := big_of (i := 621) rfl rfl
set_option maxRecDepth 100000 in
theorem mc_yX5_mix : Cond.code yX5_mix cX5_mix 3 none ∈ BIG := big_of (i := 622) rfl rfl
set_option maxRecDepth 100000 in
theorem mm_X5_109 : Cond.methodLink RX5 109 yX5_odd ∈ BIG := big_of (i := 623) rfl rfl
set_option maxRecDepth 100000 in
theorem ms_yX5_odd : Cond.static yX5_odd ∈ BIG := big_of (i := 624) rfl rfl
set_option maxRecDepth 100000 in
theorem mc_yX5_odd : Cond.code yX5_odd cX5_odd 3 (some .int) ∈ BIG := big_of (i := 625) rfl rfl
set_option maxRecDepth 100000 in
theorem mm_L_68 : Cond.methodLink RL 68 yX5_voice ∈ BIG := big_of (i := 626) rfl rfl
set_option maxRecDepth 100000 in
theorem mi_yX5_voice : Cond.instanceMethod yX5_voice ∈ BIG := big_of (i := 627) rfl rfl
set_option maxRecDepth 100000 in
theorem mx_yX5_voice : Cond.selects RX5 yX5_voice yX5_voice ∈ BIG := big_of (i := 628) rfl rfl
set_option maxRecDepth 100000 in
theorem mc_yX5_voice : Cond.code yX5_voice cX5_voice 2 (some .int) ∈ BIG := big_of (i := 629) rfl rfl
set_option maxRecDepth 100000 in
theorem mm_X5_119 : Cond.methodLink RX5 119 yX5_frameSize ∈ BIG := big_of (i := 630) rfl rfl
set_option maxRecDepth 100000 in
theorem mi_yX5_frameSize : Cond.instanceMethod yX5_frameSize ∈ BIG := big_of (i := 632) rfl rfl
set_option maxRecDepth 100000 in
theorem mc_yX5_frameSize : Cond.code yX5_frameSize cX5_frameSize 1 (some .int) ∈ BIG := big_of (i := 633) rfl rfl
set_option maxRecDepth 100000 in
theorem mk_X5_122 : Cond.constant RX5 122 (-2147483648) ∈ BIG := big_of (i := 634) rfl rfl
set_option maxRecDepth 100000 in
theorem mm_X5_123 : Cond.methodLink RX5 123 yX5_layFrame ∈ BIG := big_of (i := 635) rfl rfl
set_option maxRecDepth 100000 in
theorem mi_yX5_layFrame : Cond.instanceMethod yX5_layFrame ∈ BIG := big_of (i := 637) rfl rfl
set_option maxRecDepth 100000 in
theorem mc_yX5_layFrame : Cond.code yX5_layFrame cX5_layFrame 3 none ∈ BIG := big_of (i := 638) rfl rfl
set_option maxRecDepth 100000 in
theorem mm_X5_116 : Cond.methodLink RX5 116 yX5_sign ∈ BIG := big_of (i := 639) rfl rfl
set_option maxRecDepth 100000 in
theorem mi_yX5_sign : Cond.instanceMethod yX5_sign ∈ BIG := big_of (i := 641) rfl rfl
set_option maxRecDepth 100000 in
theorem mc_yX5_sign : Cond.code yX5_sign cX5_sign 2 (some .int) ∈ BIG := big_of (i := 642) rfl rfl
set_option maxRecDepth 100000 in
theorem mm_L_72 : Cond.methodLink RL 72 yX5_hear ∈ BIG := big_of (i := 643) rfl rfl
set_option maxRecDepth 100000 in
theorem mi_yX5_hear : Cond.instanceMethod yX5_hear ∈ BIG := big_of (i := 644) rfl rfl
set_option maxRecDepth 100000 in
theorem mx_yX5_hear : Cond.selects RX5 yX5_hear yX5_hear ∈ BIG := big_of (i := 645) rfl rfl
set_option maxRecDepth 100000 in
theorem mc_yX5_hear : Cond.code yX5_hear cX5_hear 2 (some .int) ∈ BIG := big_of (i := 646) rfl rfl
set_option maxRecDepth 100000 in
theorem mm_X5_132 : Cond.methodLink RX5 132 yX5_listen ∈ BIG := big_of (i := 647) rfl rfl
set_option maxRecDepth 100000 in
theorem mi_yX5_listen : Cond.instanceMethod yX5_listen ∈ BIG := big_of (i := 649) rfl rfl
set_option maxRecDepth 100000 in
theorem mc_yX5_listen : Cond.code yX5_listen cX5_listen 7 none ∈ BIG := big_of (i := 650) rfl rfl
set_option maxRecDepth 100000 in
theorem mm_X5_126 : Cond.methodLink RX5 126 yX5_sampleMany ∈ BIG := big_of (i := 651) rfl rfl
set_option maxRecDepth 100000 in
theorem mi_yX5_sampleMany : Cond.instanceMethod yX5_sampleMany ∈ BIG := big_of (i := 653) rfl rfl
set_option maxRecDepth 100000 in
theorem mc_yX5_sampleMany : Cond.code yX5_sampleMany cX5_sampleMany 1 (some .int) ∈ BIG := big_of (i := 654) rfl rfl
set_option maxRecDepth 100000 in
theorem mk_X5_129 : Cond.constant RX5 129 (1103515245) ∈ BIG := big_of (i := 655) rfl rfl
set_option maxRecDepth 100000 in
theorem mk_X5_130 : Cond.constant RX5 130 (2147483647) ∈ BIG := big_of (i := 656) rfl rfl
set_option maxRecDepth 100000 in
theorem mk_X5_131 : Cond.constant RX5 131 (65536) ∈ BIG := big_of (i := 657) rfl rfl
set_option maxRecDepth 100000 in
theorem mm_L_76 : Cond.methodLink RL 76 yX5_sample ∈ BIG := big_of (i := 658) rfl rfl
set_option maxRecDepth 100000 in
theorem mi_yX5_sample : Cond.instanceMethod yX5_sample ∈ BIG := big_of (i := 659) rfl rfl
set_option maxRecDepth 100000 in
theorem mx_yX5_sample : Cond.selects RX5 yX5_sample yX5_sample ∈ BIG := big_of (i := 660) rfl rfl
set_option maxRecDepth 100000 in
theorem mc_yX5_sample : Cond.code yX5_sample cX5_sample 2 (some .int) ∈ BIG := big_of (i := 661) rfl rfl
set_option maxRecDepth 100000 in
theorem mm_L_80 : Cond.methodLink RL 80 yX5_least ∈ BIG := big_of (i := 662) rfl rfl
set_option maxRecDepth 100000 in
theorem mi_yX5_least : Cond.instanceMethod yX5_least ∈ BIG := big_of (i := 663) rfl rfl
set_option maxRecDepth 100000 in
theorem mx_yX5_least : Cond.selects RX5 yX5_least yX5_least ∈ BIG := big_of (i := 664) rfl rfl
set_option maxRecDepth 100000 in
theorem mc_yX5_least : Cond.code yX5_least cX5_least 3 (some .int) ∈ BIG := big_of (i := 665) rfl rfl
set_option maxRecDepth 100000 in
theorem mk_X5_136 : Cond.constant RX5 136 (1000000) ∈ BIG := big_of (i := 666) rfl rfl
set_option maxRecDepth 100000 in
theorem mm_L_84 : Cond.methodLink RL 84 yX5_find ∈ BIG := big_of (i := 667) rfl rfl
set_option maxRecDepth 100000 in
theorem mi_yX5_find : Cond.instanceMethod yX5_find ∈ BIG := big_of (i := 668) rfl rfl
set_option maxRecDepth 100000 in
theorem mx_yX5_find : Cond.selects RX5 yX5_find yX5_find ∈ BIG := big_of (i := 669) rfl rfl
set_option maxRecDepth 100000 in
theorem mc_yX5_find : Cond.code yX5_find cX5_find 1 (some .int) ∈ BIG := big_of (i := 670) rfl rfl
set_option maxRecDepth 100000 in
theorem mm_X5_141 : Cond.methodLink RX5 141 yX5_placeIn ∈ BIG := big_of (i := 671) rfl rfl
set_option maxRecDepth 100000 in
theorem mi_yX5_placeIn : Cond.instanceMethod yX5_placeIn ∈ BIG := big_of (i := 673) rfl rfl
set_option maxRecDepth 100000 in
theorem mc_yX5_placeIn : Cond.code yX5_placeIn cX5_placeIn 6 (some .int) ∈ BIG := big_of (i := 674) rfl rfl
set_option maxRecDepth 100000 in
theorem mm_X5_137 : Cond.methodLink RX5 137 yX5_likenessOf ∈ BIG := big_of (i := 675) rfl rfl
set_option maxRecDepth 100000 in
theorem ms_yX5_likenessOf : Cond.static yX5_likenessOf ∈ BIG := big_of (i := 676) rfl rfl
set_option maxRecDepth 100000 in
theorem mc_yX5_likenessOf : Cond.code yX5_likenessOf cX5_likenessOf 6 (some .int) ∈ BIG := big_of (i := 677) rfl rfl
set_option maxRecDepth 100000 in
theorem mm_L_88 : Cond.methodLink RL 88 yX5_likeness ∈ BIG := big_of (i := 678) rfl rfl
set_option maxRecDepth 100000 in
theorem mi_yX5_likeness : Cond.instanceMethod yX5_likeness ∈ BIG := big_of (i := 679) rfl rfl
set_option maxRecDepth 100000 in
theorem mx_yX5_likeness : Cond.selects RX5 yX5_likeness yX5_likeness ∈ BIG := big_of (i := 680) rfl rfl
set_option maxRecDepth 100000 in
theorem mc_yX5_likeness : Cond.code yX5_likeness cX5_likeness 2 (some .int) ∈ BIG := big_of (i := 681) rfl rfl
set_option maxRecDepth 100000 in
theorem mm_L_93 : Cond.methodLink RL 93 yX5_bring ∈ BIG := big_of (i := 682) rfl rfl
set_option maxRecDepth 100000 in
theorem mi_yX5_bring : Cond.instanceMethod yX5_bring ∈ BIG := big_of (i := 683) rfl rfl
set_option maxRecDepth 100000 in
theorem mx_yX5_bring : Cond.selects RX5 yX5_bring yX5_bring ∈ BIG := big_of (i := 684) rfl rfl
set_option maxRecDepth 100000 in
theorem mc_yX5_bring : Cond.code yX5_bring cX5_bring 5 (some .long) ∈ BIG := big_of (i := 685) rfl rfl
set_option maxRecDepth 100000 in
theorem mk_X5_157 : Cond.constantLong RX5 157 (-2) ∈ BIG := big_of (i := 686) rfl rfl
set_option maxRecDepth 100000 in
theorem mk_X5_159 : Cond.constantLong RX5 159 (-3) ∈ BIG := big_of (i := 687) rfl rfl
set_option maxRecDepth 100000 in
theorem mm_X5_161 : Cond.methodLink RX5 161 yX5_bringFrom ∈ BIG := big_of (i := 688) rfl rfl
set_option maxRecDepth 100000 in
theorem mi_yX5_bringFrom : Cond.instanceMethod yX5_bringFrom ∈ BIG := big_of (i := 690) rfl rfl
set_option maxRecDepth 100000 in
theorem mc_yX5_bringFrom : Cond.code yX5_bringFrom cX5_bringFrom 10 (some .long) ∈ BIG := big_of (i := 691) rfl rfl
set_option maxRecDepth 100000 in
theorem mm_X5_153 : Cond.methodLink RX5 153 yX5_by ∈ BIG := big_of (i := 692) rfl rfl
set_option maxRecDepth 100000 in
theorem mi_yX5_by : Cond.instanceMethod yX5_by ∈ BIG := big_of (i := 694) rfl rfl
set_option maxRecDepth 100000 in
theorem mc_yX5_by : Cond.code yX5_by cX5_by 7 (some .long) ∈ BIG := big_of (i := 695) rfl rfl
set_option maxRecDepth 100000 in
theorem mm_X5_149 : Cond.methodLink RX5 149 yX5_costOf ∈ BIG := big_of (i := 696) rfl rfl
set_option maxRecDepth 100000 in
theorem mi_yX5_costOf : Cond.instanceMethod yX5_costOf ∈ BIG := big_of (i := 698) rfl rfl
set_option maxRecDepth 100000 in
theorem mc_yX5_costOf : Cond.code yX5_costOf cX5_costOf 11 (some .long) ∈ BIG := big_of (i := 699) rfl rfl
set_option maxRecDepth 100000 in
theorem mm_X5_145 : Cond.methodLink RX5 145 yX5_voiceOf ∈ BIG := big_of (i := 700) rfl rfl
set_option maxRecDepth 100000 in
theorem mi_yX5_voiceOf : Cond.instanceMethod yX5_voiceOf ∈ BIG := big_of (i := 702) rfl rfl
set_option maxRecDepth 100000 in
theorem mc_yX5_voiceOf : Cond.code yX5_voiceOf cX5_voiceOf 5 (some .int) ∈ BIG := big_of (i := 703) rfl rfl
set_option maxRecDepth 100000 in
theorem mm_L_97 : Cond.methodLink RL 97 yX5_brought ∈ BIG := big_of (i := 704) rfl rfl
set_option maxRecDepth 100000 in
theorem mi_yX5_brought : Cond.instanceMethod yX5_brought ∈ BIG := big_of (i := 705) rfl rfl
set_option maxRecDepth 100000 in
theorem mx_yX5_brought : Cond.selects RX5 yX5_brought yX5_brought ∈ BIG := big_of (i := 706) rfl rfl
set_option maxRecDepth 100000 in
theorem mc_yX5_brought : Cond.code yX5_brought cX5_brought 3 (some .int) ∈ BIG := big_of (i := 707) rfl rfl
set_option maxRecDepth 100000 in
theorem mm_L_101 : Cond.methodLink RL 101 yX5_errors ∈ BIG := big_of (i := 708) rfl rfl
set_option maxRecDepth 100000 in
theorem mi_yX5_errors : Cond.instanceMethod yX5_errors ∈ BIG := big_of (i := 709) rfl rfl
set_option maxRecDepth 100000 in
theorem mx_yX5_errors : Cond.selects RX5 yX5_errors yX5_errors ∈ BIG := big_of (i := 710) rfl rfl
set_option maxRecDepth 100000 in
theorem mc_yX5_errors : Cond.code yX5_errors cX5_errors 1 (some .int) ∈ BIG := big_of (i := 711) rfl rfl
set_option maxRecDepth 100000 in
theorem mm_X5_165 : Cond.methodLink RX5 165 yX5_errorMany ∈ BIG := big_of (i := 712) rfl rfl
set_option maxRecDepth 100000 in
theorem mi_yX5_errorMany : Cond.instanceMethod yX5_errorMany ∈ BIG := big_of (i := 714) rfl rfl
set_option maxRecDepth 100000 in
theorem mc_yX5_errorMany : Cond.code yX5_errorMany cX5_errorMany 3 (some .int) ∈ BIG := big_of (i := 715) rfl rfl
set_option maxRecDepth 100000 in
theorem mm_L_105 : Cond.methodLink RL 105 yX5_sweep ∈ BIG := big_of (i := 716) rfl rfl
set_option maxRecDepth 100000 in
theorem mi_yX5_sweep : Cond.instanceMethod yX5_sweep ∈ BIG := big_of (i := 717) rfl rfl
set_option maxRecDepth 100000 in
theorem mx_yX5_sweep : Cond.selects RX5 yX5_sweep yX5_sweep ∈ BIG := big_of (i := 718) rfl rfl
set_option maxRecDepth 100000 in
theorem mc_yX5_sweep : Cond.code yX5_sweep cX5_sweep 4 (some .int) ∈ BIG := big_of (i := 719) rfl rfl
set_option maxRecDepth 100000 in
theorem mm_X5_168 : Cond.methodLink RX5 168 yX5_keep ∈ BIG := big_of (i := 720) rfl rfl
set_option maxRecDepth 100000 in
theorem mi_yX5_keep : Cond.instanceMethod yX5_keep ∈ BIG := big_of (i := 722) rfl rfl
set_option maxRecDepth 100000 in
theorem mc_yX5_keep : Cond.code yX5_keep cX5_keep 3 none ∈ BIG := big_of (i := 723) rfl rfl
set_option maxRecDepth 100000 in
theorem mm_X5_172 : Cond.methodLink RX5 172 yX5_errorsOf ∈ BIG := big_of (i := 724) rfl rfl
set_option maxRecDepth 100000 in
theorem mi_yX5_errorsOf : Cond.instanceMethod yX5_errorsOf ∈ BIG := big_of (i := 726) rfl rfl
set_option maxRecDepth 100000 in
theorem mc_yX5_errorsOf : Cond.code yX5_errorsOf cX5_errorsOf 5 (some .int) ∈ BIG := big_of (i := 727) rfl rfl
set_option maxRecDepth 100000 in
theorem mm_L_109 : Cond.methodLink RL 109 yX5_whole ∈ BIG := big_of (i := 728) rfl rfl
set_option maxRecDepth 100000 in
theorem mi_yX5_whole : Cond.instanceMethod yX5_whole ∈ BIG := big_of (i := 729) rfl rfl
set_option maxRecDepth 100000 in
theorem mx_yX5_whole : Cond.selects RX5 yX5_whole yX5_whole ∈ BIG := big_of (i := 730) rfl rfl
set_option maxRecDepth 100000 in
theorem mc_yX5_whole : Cond.code yX5_whole cX5_whole 4 (some .int) ∈ BIG := big_of (i := 731) rfl rfl
set_option maxRecDepth 100000 in
theorem mm_L_113 : Cond.methodLink RL 113 yX5_count ∈ BIG := big_of (i := 732) rfl rfl
set_option maxRecDepth 100000 in
theorem mi_yX5_count : Cond.instanceMethod yX5_count ∈ BIG := big_of (i := 733) rfl rfl
set_option maxRecDepth 100000 in
theorem mx_yX5_count : Cond.selects RX5 yX5_count yX5_count ∈ BIG := big_of (i := 734) rfl rfl
set_option maxRecDepth 100000 in
theorem mc_yX5_count : Cond.code yX5_count cX5_count 2 (some .int) ∈ BIG := big_of (i := 735) rfl rfl
set_option maxRecDepth 100000 in
theorem mk_L_13 : Cond.constantLong RL 13 (4294967295) ∈ BIG := big_of (i := 736) rfl rfl
theorem mx_yX4_endHeard : Cond.selects RX4 yX4_endHeard yX4_endHeard ∈ BIG := big_of (i := 0) rfl rfl
theorem mx_yX4_isBitPlace : Cond.selects RX4 yX4_isBitPlace yX4_isBitPlace ∈ BIG := big_of (i := 1) rfl rfl
theorem mx_yX4_changed : Cond.selects RX4 yX4_changed yX4_changed ∈ BIG := big_of (i := 2) rfl rfl
theorem mx_yX2_begin : Cond.selects RX2 yX2_begin yX2_begin ∈ BIG := big_of (i := 3) rfl rfl
theorem mx_yX2_tabulate : Cond.selects RX2 yX2_tabulate yX2_tabulate ∈ BIG := big_of (i := 4) rfl rfl
theorem mx_yX2_dueSample : Cond.selects RX2 yX2_dueSample yX2_dueSample ∈ BIG := big_of (i := 5) rfl rfl
theorem mx_yX2_goOn : Cond.selects RX2 yX2_goOn yX2_goOn ∈ BIG := big_of (i := 6) rfl rfl
theorem mx_yX2_offer : Cond.selects RX2 yX2_offer yX2_offer ∈ BIG := big_of (i := 7) rfl rfl
theorem mx_yX2_settle : Cond.selects RX2 yX2_settle yX2_settle ∈ BIG := big_of (i := 8) rfl rfl
theorem mx_yX4_errorsOfSending : Cond.selects RX4 yX4_errorsOfSending yX4_errorsOfSending ∈ BIG := big_of (i := 9) rfl rfl
theorem mx_yX5_ended : Cond.selects RX5 yX5_ended yX5_ended ∈ BIG := big_of (i := 10) rfl rfl
theorem mx_yX5_mix : Cond.selects RX5 yX5_mix yX5_mix ∈ BIG := big_of (i := 11) rfl rfl
theorem mx_yX5_frameSize : Cond.selects RX5 yX5_frameSize yX5_frameSize ∈ BIG := big_of (i := 12) rfl rfl
theorem mx_yX5_layFrame : Cond.selects RX5 yX5_layFrame yX5_layFrame ∈ BIG := big_of (i := 13) rfl rfl
theorem mx_yX5_sign : Cond.selects RX5 yX5_sign yX5_sign ∈ BIG := big_of (i := 14) rfl rfl
theorem mx_yX5_listen : Cond.selects RX5 yX5_listen yX5_listen ∈ BIG := big_of (i := 15) rfl rfl
theorem mx_yX5_sampleMany : Cond.selects RX5 yX5_sampleMany yX5_sampleMany ∈ BIG := big_of (i := 16) rfl rfl
theorem mx_yX5_placeIn : Cond.selects RX5 yX5_placeIn yX5_placeIn ∈ BIG := big_of (i := 17) rfl rfl
theorem mx_yX5_bringFrom : Cond.selects RX5 yX5_bringFrom yX5_bringFrom ∈ BIG := big_of (i := 18) rfl rfl
theorem mx_yX5_by : Cond.selects RX5 yX5_by yX5_by ∈ BIG := big_of (i := 19) rfl rfl
theorem mx_yX5_costOf : Cond.selects RX5 yX5_costOf yX5_costOf ∈ BIG := big_of (i := 20) rfl rfl
theorem mx_yX5_voiceOf : Cond.selects RX5 yX5_voiceOf yX5_voiceOf ∈ BIG := big_of (i := 21) rfl rfl
theorem mx_yX5_errorMany : Cond.selects RX5 yX5_errorMany yX5_errorMany ∈ BIG := big_of (i := 22) rfl rfl
theorem mx_yX5_keep : Cond.selects RX5 yX5_keep yX5_keep ∈ BIG := big_of (i := 23) rfl rfl
theorem mx_yX5_errorsOf : Cond.selects RX5 yX5_errorsOf yX5_errorsOf ∈ BIG := big_of (i := 24) rfl rfl
set_option maxRecDepth 100000 in
theorem ml_X0 : ∀ w ∈ u_ws RX0 TX0 6, w ∈ BIG := big_row [109, 111, 113, 115, 117, 119] (by decide +kernel) (by decide +kernel)
set_option maxRecDepth 100000 in
theorem ml_X1 : ∀ w ∈ u_ws RX1 TX1 2, w ∈ BIG := big_row [132, 134] (by decide +kernel) (by decide +kernel)
set_option maxRecDepth 100000 in
theorem ml_X2 : ∀ w ∈ u_ws RX2 TX2 9, w ∈ BIG := big_row [155, 157, 159, 161, 163, 165, 167, 169, 171] (by decide +kernel) (by decide +kernel)
set_option maxRecDepth 100000 in
theorem ml_X3 : ∀ w ∈ u_ws RX3 TX3 9, w ∈ BIG := big_row [71, 73, 75, 77, 79, 81, 83, 85, 87] (by decide +kernel) (by decide +kernel)
set_option maxRecDepth 100000 in
theorem ml_X4 : ∀ w ∈ u_ws RX4 TX4 11, w ∈ BIG := big_row [186, 188, 190, 192, 194, 196, 198, 200, 202, 204, 206] (by decide +kernel) (by decide +kernel)
set_option maxRecDepth 100000 in
theorem ml_X5 : ∀ w ∈ u_ws RX5 TX5 28, w ∈ BIG := big_row [508, 510, 512, 514, 516, 518, 520, 522, 524, 526, 528, 530, 532, 534, 536, 538, 540, 542, 544, 546, 548, 550, 552, 554, 556, 558, 560, 562] (by decide +kernel) (by decide +kernel)
/-- the links between nest mates -/
def nw (U : State) : Prop := va_Nw (.methodLinkNest RX4 11 yX3_init "NoiseBench") U ∧ va_Nw (.methodLinkNest RX4 18 yX0_init "NoiseBench") U ∧ va_Nw (.methodLinkNest RX4 25 yX1_init "NoiseBench") U ∧ va_Nw (.methodLinkNest RX4 35 yX2_init "NoiseBench") U ∧ va_Nw (.methodLinkNest RX3 40 yX4_mix "NoiseBench") U ∧ va_Nw (.methodLinkNest RX3 48 yX4_within "NoiseBench") U ∧ va_Nw (.methodLinkNest RX3 52 yX4_bitOf "NoiseBench") U ∧ va_Nw (.methodLinkNest RX3 56 yX4_oddness "NoiseBench") U ∧ va_Nw (.methodLinkNest RX1 44 yX4_within "NoiseBench") U ∧ va_Nw (.methodLinkNest RX2 102 yX4_within "NoiseBench") U
