section
-- ===== PART A: goes FIRST, ahead of the names: the tables' words, and 'selects' of the private methods out of them =====
/-- a private method of a class that the tables say can be made, by its rows of tables_1 -/
def lw_okq (q : MethodName × Nat) : Prop := (q.1.cls ≠ "java/lang/invoke/MethodHandle" ∧ q.1.cls ≠ "java/lang/invoke/VarHandle") ∧ Cond.instantiable q.1.cls q.2 ∈ tables_1 ∧ Cond.privateMethod q.1 ∈ tables_1 ∧ Cond.instanceMethod q.1 ∈ tables_1
theorem lw_p0 : lw_okq (⟨"NoiseBench", "endHeard", "()V"⟩, 11) := ⟨⟨by decide +kernel, by decide +kernel⟩, List.mem_of_getElem? (i := 11) (by decide +kernel), List.mem_of_getElem? (i := 212) (by decide +kernel), List.mem_of_getElem? (i := 213) (by decide +kernel)⟩
theorem lw_p1 : lw_okq (⟨"NoiseBench", "isBitPlace", "(I)Z"⟩, 11) := ⟨⟨by decide +kernel, by decide +kernel⟩, List.mem_of_getElem? (i := 11) (by decide +kernel), List.mem_of_getElem? (i := 228) (by decide +kernel), List.mem_of_getElem? (i := 229) (by decide +kernel)⟩
theorem lw_p2 : lw_okq (⟨"NoiseBench", "changed", "()I"⟩, 11) := ⟨⟨by decide +kernel, by decide +kernel⟩, List.mem_of_getElem? (i := 11) (by decide +kernel), List.mem_of_getElem? (i := 240) (by decide +kernel), List.mem_of_getElem? (i := 241) (by decide +kernel)⟩
theorem lw_p3 : lw_okq (⟨"NoiseBench$Path", "begin", "()V"⟩, 9) := ⟨⟨by decide +kernel, by decide +kernel⟩, List.mem_of_getElem? (i := 113) (by decide +kernel), List.mem_of_getElem? (i := 385) (by decide +kernel), List.mem_of_getElem? (i := 386) (by decide +kernel)⟩
theorem lw_p4 : lw_okq (⟨"NoiseBench$Path", "tabulate", "(LNoiseBench$Sender;I)V"⟩, 9) := ⟨⟨by decide +kernel, by decide +kernel⟩, List.mem_of_getElem? (i := 113) (by decide +kernel), List.mem_of_getElem? (i := 391) (by decide +kernel), List.mem_of_getElem? (i := 392) (by decide +kernel)⟩
theorem lw_p5 : lw_okq (⟨"NoiseBench$Path", "dueSample", "(LNoiseBench$Sender;III)I"⟩, 9) := ⟨⟨by decide +kernel, by decide +kernel⟩, List.mem_of_getElem? (i := 113) (by decide +kernel), List.mem_of_getElem? (i := 395) (by decide +kernel), List.mem_of_getElem? (i := 396) (by decide +kernel)⟩
theorem lw_p6 : lw_okq (⟨"NoiseBench$Path", "goOn", "(IIZ)V"⟩, 9) := ⟨⟨by decide +kernel, by decide +kernel⟩, List.mem_of_getElem? (i := 113) (by decide +kernel), List.mem_of_getElem? (i := 402) (by decide +kernel), List.mem_of_getElem? (i := 403) (by decide +kernel)⟩
theorem lw_p7 : lw_okq (⟨"NoiseBench$Path", "offer", "(IJJ)V"⟩, 9) := ⟨⟨by decide +kernel, by decide +kernel⟩, List.mem_of_getElem? (i := 113) (by decide +kernel), List.mem_of_getElem? (i := 407) (by decide +kernel), List.mem_of_getElem? (i := 408) (by decide +kernel)⟩
theorem lw_p8 : lw_okq (⟨"NoiseBench$Path", "settle", "()V"⟩, 9) := ⟨⟨by decide +kernel, by decide +kernel⟩, List.mem_of_getElem? (i := 113) (by decide +kernel), List.mem_of_getElem? (i := 415) (by decide +kernel), List.mem_of_getElem? (i := 416) (by decide +kernel)⟩
theorem lw_p9 : lw_okq (⟨"NoiseBench", "errorsOfSending", "(I)I"⟩, 11) := ⟨⟨by decide +kernel, by decide +kernel⟩, List.mem_of_getElem? (i := 11) (by decide +kernel), List.mem_of_getElem? (i := 437) (by decide +kernel), List.mem_of_getElem? (i := 438) (by decide +kernel)⟩
theorem lw_p10 : lw_okq (⟨"NoiseBenchModel", "ended", "()I"⟩, 28) := ⟨⟨by decide +kernel, by decide +kernel⟩, List.mem_of_getElem? (i := 450) (by decide +kernel), List.mem_of_getElem? (i := 548) (by decide +kernel), List.mem_of_getElem? (i := 549) (by decide +kernel)⟩
theorem lw_p11 : lw_okq (⟨"NoiseBenchModel", "mix", "()V"⟩, 28) := ⟨⟨by decide +kernel, by decide +kernel⟩, List.mem_of_getElem? (i := 450) (by decide +kernel), List.mem_of_getElem? (i := 595) (by decide +kernel), List.mem_of_getElem? (i := 596) (by decide +kernel)⟩
theorem lw_p12 : lw_okq (⟨"NoiseBenchModel", "frameSize", "()I"⟩, 28) := ⟨⟨by decide +kernel, by decide +kernel⟩, List.mem_of_getElem? (i := 450) (by decide +kernel), List.mem_of_getElem? (i := 606) (by decide +kernel), List.mem_of_getElem? (i := 607) (by decide +kernel)⟩
theorem lw_p13 : lw_okq (⟨"NoiseBenchModel", "layFrame", "()V"⟩, 28) := ⟨⟨by decide +kernel, by decide +kernel⟩, List.mem_of_getElem? (i := 450) (by decide +kernel), List.mem_of_getElem? (i := 611) (by decide +kernel), List.mem_of_getElem? (i := 612) (by decide +kernel)⟩
theorem lw_p14 : lw_okq (⟨"NoiseBenchModel", "sign", "(I)I"⟩, 28) := ⟨⟨by decide +kernel, by decide +kernel⟩, List.mem_of_getElem? (i := 450) (by decide +kernel), List.mem_of_getElem? (i := 615) (by decide +kernel), List.mem_of_getElem? (i := 616) (by decide +kernel)⟩
theorem lw_p15 : lw_okq (⟨"NoiseBenchModel", "listen", "(I)V"⟩, 28) := ⟨⟨by decide +kernel, by decide +kernel⟩, List.mem_of_getElem? (i := 450) (by decide +kernel), List.mem_of_getElem? (i := 623) (by decide +kernel), List.mem_of_getElem? (i := 624) (by decide +kernel)⟩
def lw_privs_1 : List (MethodName × Nat) := [(⟨"NoiseBench", "endHeard", "()V"⟩, 11), (⟨"NoiseBench", "isBitPlace", "(I)Z"⟩, 11), (⟨"NoiseBench", "changed", "()I"⟩, 11), (⟨"NoiseBench$Path", "begin", "()V"⟩, 9), (⟨"NoiseBench$Path", "tabulate", "(LNoiseBench$Sender;I)V"⟩, 9), (⟨"NoiseBench$Path", "dueSample", "(LNoiseBench$Sender;III)I"⟩, 9), (⟨"NoiseBench$Path", "goOn", "(IIZ)V"⟩, 9), (⟨"NoiseBench$Path", "offer", "(IJJ)V"⟩, 9), (⟨"NoiseBench$Path", "settle", "()V"⟩, 9), (⟨"NoiseBench", "errorsOfSending", "(I)I"⟩, 11), (⟨"NoiseBenchModel", "ended", "()I"⟩, 28), (⟨"NoiseBenchModel", "mix", "()V"⟩, 28), (⟨"NoiseBenchModel", "frameSize", "()I"⟩, 28), (⟨"NoiseBenchModel", "layFrame", "()V"⟩, 28), (⟨"NoiseBenchModel", "sign", "(I)I"⟩, 28), (⟨"NoiseBenchModel", "listen", "(I)V"⟩, 28)]
theorem lw_r1 : ∀ q ∈ lw_privs_1, lw_okq q := List.forall_mem_cons.mpr ⟨lw_p0, List.forall_mem_cons.mpr ⟨lw_p1, List.forall_mem_cons.mpr ⟨lw_p2, List.forall_mem_cons.mpr ⟨lw_p3, List.forall_mem_cons.mpr ⟨lw_p4, List.forall_mem_cons.mpr ⟨lw_p5, List.forall_mem_cons.mpr ⟨lw_p6, List.forall_mem_cons.mpr ⟨lw_p7, List.forall_mem_cons.mpr ⟨lw_p8, List.forall_mem_cons.mpr ⟨lw_p9, List.forall_mem_cons.mpr ⟨lw_p10, List.forall_mem_cons.mpr ⟨lw_p11, List.forall_mem_cons.mpr ⟨lw_p12, List.forall_mem_cons.mpr ⟨lw_p13, List.forall_mem_cons.mpr ⟨lw_p14, List.forall_mem_cons.mpr ⟨lw_p15, fun _ h => absurd h List.not_mem_nil⟩⟩⟩⟩⟩⟩⟩⟩⟩⟩⟩⟩⟩⟩⟩⟩
theorem lw_p16 : lw_okq (⟨"NoiseBenchModel", "sampleMany", "()I"⟩, 28) := ⟨⟨by decide +kernel, by decide +kernel⟩, List.mem_of_getElem? (i := 450) (by decide +kernel), List.mem_of_getElem? (i := 627) (by decide +kernel), List.mem_of_getElem? (i := 628) (by decide +kernel)⟩
theorem lw_p17 : lw_okq (⟨"NoiseBenchModel", "placeIn", "([I)I"⟩, 28) := ⟨⟨by decide +kernel, by decide +kernel⟩, List.mem_of_getElem? (i := 450) (by decide +kernel), List.mem_of_getElem? (i := 647) (by decide +kernel), List.mem_of_getElem? (i := 648) (by decide +kernel)⟩
theorem lw_p18 : lw_okq (⟨"NoiseBenchModel", "bringFrom", "([II)J"⟩, 28) := ⟨⟨by decide +kernel, by decide +kernel⟩, List.mem_of_getElem? (i := 450) (by decide +kernel), List.mem_of_getElem? (i := 664) (by decide +kernel), List.mem_of_getElem? (i := 665) (by decide +kernel)⟩
theorem lw_p19 : lw_okq (⟨"NoiseBenchModel", "by", "([IIIII)J"⟩, 28) := ⟨⟨by decide +kernel, by decide +kernel⟩, List.mem_of_getElem? (i := 450) (by decide +kernel), List.mem_of_getElem? (i := 668) (by decide +kernel), List.mem_of_getElem? (i := 669) (by decide +kernel)⟩
theorem lw_p20 : lw_okq (⟨"NoiseBenchModel", "costOf", "([IIII)J"⟩, 28) := ⟨⟨by decide +kernel, by decide +kernel⟩, List.mem_of_getElem? (i := 450) (by decide +kernel), List.mem_of_getElem? (i := 672) (by decide +kernel), List.mem_of_getElem? (i := 673) (by decide +kernel)⟩
theorem lw_p21 : lw_okq (⟨"NoiseBenchModel", "voiceOf", "(III)I"⟩, 28) := ⟨⟨by decide +kernel, by decide +kernel⟩, List.mem_of_getElem? (i := 450) (by decide +kernel), List.mem_of_getElem? (i := 676) (by decide +kernel), List.mem_of_getElem? (i := 677) (by decide +kernel)⟩
theorem lw_p22 : lw_okq (⟨"NoiseBenchModel", "errorMany", "()I"⟩, 28) := ⟨⟨by decide +kernel, by decide +kernel⟩, List.mem_of_getElem? (i := 450) (by decide +kernel), List.mem_of_getElem? (i := 688) (by decide +kernel), List.mem_of_getElem? (i := 689) (by decide +kernel)⟩
theorem lw_p23 : lw_okq (⟨"NoiseBenchModel", "keep", "(Z)V"⟩, 28) := ⟨⟨by decide +kernel, by decide +kernel⟩, List.mem_of_getElem? (i := 450) (by decide +kernel), List.mem_of_getElem? (i := 696) (by decide +kernel), List.mem_of_getElem? (i := 697) (by decide +kernel)⟩
theorem lw_p24 : lw_okq (⟨"NoiseBenchModel", "errorsOf", "(I)I"⟩, 28) := ⟨⟨by decide +kernel, by decide +kernel⟩, List.mem_of_getElem? (i := 450) (by decide +kernel), List.mem_of_getElem? (i := 700) (by decide +kernel), List.mem_of_getElem? (i := 701) (by decide +kernel)⟩
def lw_privs_2 : List (MethodName × Nat) := [(⟨"NoiseBenchModel", "sampleMany", "()I"⟩, 28), (⟨"NoiseBenchModel", "placeIn", "([I)I"⟩, 28), (⟨"NoiseBenchModel", "bringFrom", "([II)J"⟩, 28), (⟨"NoiseBenchModel", "by", "([IIIII)J"⟩, 28), (⟨"NoiseBenchModel", "costOf", "([IIII)J"⟩, 28), (⟨"NoiseBenchModel", "voiceOf", "(III)I"⟩, 28), (⟨"NoiseBenchModel", "errorMany", "()I"⟩, 28), (⟨"NoiseBenchModel", "keep", "(Z)V"⟩, 28), (⟨"NoiseBenchModel", "errorsOf", "(I)I"⟩, 28)]
theorem lw_r2 : ∀ q ∈ lw_privs_2, lw_okq q := List.forall_mem_cons.mpr ⟨lw_p16, List.forall_mem_cons.mpr ⟨lw_p17, List.forall_mem_cons.mpr ⟨lw_p18, List.forall_mem_cons.mpr ⟨lw_p19, List.forall_mem_cons.mpr ⟨lw_p20, List.forall_mem_cons.mpr ⟨lw_p21, List.forall_mem_cons.mpr ⟨lw_p22, List.forall_mem_cons.mpr ⟨lw_p23, List.forall_mem_cons.mpr ⟨lw_p24, fun _ h => absurd h List.not_mem_nil⟩⟩⟩⟩⟩⟩⟩⟩⟩
def lw_privs : List (MethodName × Nat) := lw_privs_1 ++ (lw_privs_2)
def lw_tbl : List Cond := k2_sels lw_privs ++ tables_1
theorem lw_privs_ok : ∀ q ∈ lw_privs, lw_okq q := by
  show ∀ q ∈ lw_privs_1 ++ (lw_privs_2), lw_okq q
  exact List.forall_mem_append.mpr ⟨lw_r1, lw_r2⟩
end
section
/-! names (printed by program in the claim, those that are used), and the one list of words -/
def RX0 : String := "NoiseBench$Channel"
def TX0 : u_T := fun k => match k with
  | 0 => ("NoiseBench$Channel", "weights", "[I", true)
  | 1 => ("NoiseBench$Channel", "lag", "I", false)
  | 2 => ("NoiseBench$Channel", "loudness", "I", false)
  | 3 => ("NoiseBench$Channel", "start", "I", false)
  | 4 => ("NoiseBench$Channel", "lostFrom", "I", false)
  | _ => ("NoiseBench$Channel", "lostLength", "I", false)
def tyX0 : Nat → FieldType := fun k => match k with
  | 0 => .array .int
  | 1 => .int
  | 2 => .int
  | 3 => .int
  | 4 => .int
  | _ => .int
theorem nmX0 : ∀ a, a < 6 → ∀ b, b < 6 → a ≠ b → (TX0 a).2.1 ≠ (TX0 b).2.1 := by decide +kernel
theorem tyX0_ok : ∀ k, k < 6 → parseFieldDescriptor (TX0 k).2.2.1 = some (tyX0 k) := by decide +kernel
abbrev cX0_init : ByteArray := prog_2_method_1_code
def yX0_init : MethodName := ⟨RX0, "<init>", "()V"⟩
abbrev cX0_lastPlace : ByteArray := prog_2_method_2_code
def yX0_lastPlace : MethodName := ⟨RX0, "lastPlace", "()I"⟩
abbrev cX0_nextDraw : ByteArray := prog_2_method_3_code
def yX0_nextDraw : MethodName := ⟨RX0, "nextDraw", "(I)I"⟩
abbrev cX0_noiseOf : ByteArray := prog_2_method_4_code
def yX0_noiseOf : MethodName := ⟨RX0, "noiseOf", "(I)I"⟩
abbrev cX0_arrives : ByteArray := prog_2_method_5_code
def yX0_arrives : MethodName := ⟨RX0, "arrives", "(LNoiseBench$Sender;II)I"⟩
def RX1 : String := "NoiseBench$Hearing"
def TX1 : u_T := fun k => match k with
  | 0 => ("NoiseBench$Hearing", "samples", "[I", true)
  | _ => ("NoiseBench$Hearing", "length", "I", false)
def tyX1 : Nat → FieldType := fun k => match k with
  | 0 => .array .int
  | _ => .int
theorem nmX1 : ∀ a, a < 2 → ∀ b, b < 2 → a ≠ b → (TX1 a).2.1 ≠ (TX1 b).2.1 := by decide +kernel
theorem tyX1_ok : ∀ k, k < 2 → parseFieldDescriptor (TX1 k).2.2.1 = some (tyX1 k) := by decide +kernel
abbrev cX1_init : ByteArray := prog_3_method_1_code
def yX1_init : MethodName := ⟨RX1, "<init>", "()V"⟩
abbrev cX1_listen : ByteArray := prog_3_method_2_code
def yX1_listen : MethodName := ⟨RX1, "listen", "(LNoiseBench$Sender;LNoiseBench$Channel;I)V"⟩
abbrev cX1_at : ByteArray := prog_3_method_3_code
def yX1_at : MethodName := ⟨RX1, "at", "(I)I"⟩
abbrev cX1_alike : ByteArray := prog_3_method_4_code
def yX1_alike : MethodName := ⟨RX1, "alike", "(LNoiseBench$Sender;I)I"⟩
abbrev cX1_locate : ByteArray := prog_3_method_5_code
def yX1_locate : MethodName := ⟨RX1, "locate", "(LNoiseBench$Sender;II)I"⟩
def RX2 : String := "NoiseBench$Path"
def TX2 : u_T := fun k => match k with
  | 0 => ("NoiseBench$Path", "guess", "[I", true)
  | 1 => ("NoiseBench$Path", "bestCost", "J", false)
  | 2 => ("NoiseBench$Path", "bestRow", "J", false)
  | 3 => ("NoiseBench$Path", "firstDue", "[I", true)
  | 4 => ("NoiseBench$Path", "secondDue", "[I", true)
  | 5 => ("NoiseBench$Path", "costs", "[J", true)
  | 6 => ("NoiseBench$Path", "rows", "[J", true)
  | 7 => ("NoiseBench$Path", "nextCosts", "[J", true)
  | _ => ("NoiseBench$Path", "nextRows", "[J", true)
def tyX2 : Nat → FieldType := fun k => match k with
  | 0 => .array .int
  | 1 => .long
  | 2 => .long
  | 3 => .array .int
  | 4 => .array .int
  | 5 => .array .long
  | 6 => .array .long
  | 7 => .array .long
  | _ => .array .long
theorem nmX2 : ∀ a, a < 9 → ∀ b, b < 9 → a ≠ b → (TX2 a).2.1 ≠ (TX2 b).2.1 := by decide +kernel
theorem tyX2_ok : ∀ k, k < 9 → parseFieldDescriptor (TX2 k).2.2.1 = some (tyX2 k) := by decide +kernel
abbrev cX2_init : ByteArray := prog_4_method_1_code
def yX2_init : MethodName := ⟨RX2, "<init>", "()V"⟩
abbrev cX2_follow : ByteArray := prog_4_method_2_code
def yX2_follow : MethodName := ⟨RX2, "follow", "(LNoiseBench$Sender;LNoiseBench$Hearing;I)V"⟩
abbrev cX2_begin : ByteArray := prog_4_method_3_code
def yX2_begin : MethodName := ⟨RX2, "begin", "()V"⟩
abbrev cX2_tabulate : ByteArray := prog_4_method_4_code
def yX2_tabulate : MethodName := ⟨RX2, "tabulate", "(LNoiseBench$Sender;I)V"⟩
abbrev cX2_dueSample : ByteArray := prog_4_method_5_code
def yX2_dueSample : MethodName := ⟨RX2, "dueSample", "(LNoiseBench$Sender;III)I"⟩
abbrev cX2_goOn : ByteArray := prog_4_method_6_code
def yX2_goOn : MethodName := ⟨RX2, "goOn", "(IIZ)V"⟩
abbrev cX2_offer : ByteArray := prog_4_method_7_code
def yX2_offer : MethodName := ⟨RX2, "offer", "(IJJ)V"⟩
abbrev cX2_settle : ByteArray := prog_4_method_8_code
def yX2_settle : MethodName := ⟨RX2, "settle", "()V"⟩
def RX3 : String := "NoiseBench$Sender"
def TX3 : u_T := fun k => match k with
  | 0 => ("NoiseBench$Sender", "message", "J", false)
  | 1 => ("NoiseBench$Sender", "mixed", "J", false)
  | 2 => ("NoiseBench$Sender", "size", "I", false)
  | 3 => ("NoiseBench$Sender", "maskBits", "I", false)
  | 4 => ("NoiseBench$Sender", "codeG", "I", false)
  | 5 => ("NoiseBench$Sender", "codeH", "I", false)
  | 6 => ("NoiseBench$Sender", "strength", "I", false)
  | 7 => ("NoiseBench$Sender", "callSize", "I", false)
  | _ => ("NoiseBench$Sender", "callSigns", "I", false)
def tyX3 : Nat → FieldType := fun k => match k with
  | 0 => .long
  | 1 => .long
  | 2 => .int
  | 3 => .int
  | 4 => .int
  | 5 => .int
  | 6 => .int
  | 7 => .int
  | _ => .int
theorem nmX3 : ∀ a, a < 9 → ∀ b, b < 9 → a ≠ b → (TX3 a).2.1 ≠ (TX3 b).2.1 := by decide +kernel
theorem tyX3_ok : ∀ k, k < 9 → parseFieldDescriptor (TX3 k).2.2.1 = some (tyX3 k) := by decide +kernel
abbrev cX3_init : ByteArray := prog_5_method_1_code
def yX3_init : MethodName := ⟨RX3, "<init>", "()V"⟩
abbrev cX3_append : ByteArray := prog_5_method_2_code
def yX3_append : MethodName := ⟨RX3, "append", "(JI)V"⟩
abbrev cX3_empty : ByteArray := prog_5_method_3_code
def yX3_empty : MethodName := ⟨RX3, "empty", "()V"⟩
abbrev cX3_setMask : ByteArray := prog_5_method_4_code
def yX3_setMask : MethodName := ⟨RX3, "setMask", "(I)V"⟩
abbrev cX3_steps : ByteArray := prog_5_method_5_code
def yX3_steps : MethodName := ⟨RX3, "steps", "()I"⟩
abbrev cX3_frameSize : ByteArray := prog_5_method_6_code
def yX3_frameSize : MethodName := ⟨RX3, "frameSize", "()I"⟩
abbrev cX3_sign : ByteArray := prog_5_method_7_code
def yX3_sign : MethodName := ⟨RX3, "sign", "(I)I"⟩
abbrev cX3_codeVoice : ByteArray := prog_5_method_8_code
def yX3_codeVoice : MethodName := ⟨RX3, "codeVoice", "(JI)I"⟩
abbrev cX3_frameVoice : ByteArray := prog_5_method_9_code
def yX3_frameVoice : MethodName := ⟨RX3, "frameVoice", "(I)I"⟩
def RX4 : String := "NoiseBench"
def TX4 : u_T := fun k => match k with
  | 0 => ("NoiseBench", "sender", "LNoiseBench$Sender;", true)
  | 1 => ("NoiseBench", "channel", "LNoiseBench$Channel;", true)
  | 2 => ("NoiseBench", "kept", "LNoiseBench$Hearing;", true)
  | 3 => ("NoiseBench", "trial", "LNoiseBench$Hearing;", true)
  | 4 => ("NoiseBench", "path", "LNoiseBench$Path;", true)
  | 5 => ("NoiseBench", "leastLikeness", "I", false)
  | 6 => ("NoiseBench", "isHeard", "Z", false)
  | 7 => ("NoiseBench", "place", "I", false)
  | 8 => ("NoiseBench", "isBrought", "Z", false)
  | 9 => ("NoiseBench", "broughtMixed", "J", false)
  | _ => ("NoiseBench", "broughtPlain", "J", false)
def tyX4 : Nat → FieldType := fun k => match k with
  | 0 => .object "NoiseBench$Sender"
  | 1 => .object "NoiseBench$Channel"
  | 2 => .object "NoiseBench$Hearing"
  | 3 => .object "NoiseBench$Hearing"
  | 4 => .object "NoiseBench$Path"
  | 5 => .int
  | 6 => .boolean
  | 7 => .int
  | 8 => .boolean
  | 9 => .long
  | _ => .long
theorem nmX4 : ∀ a, a < 11 → ∀ b, b < 11 → a ≠ b → (TX4 a).2.1 ≠ (TX4 b).2.1 := by decide +kernel
theorem tyX4_ok : ∀ k, k < 11 → parseFieldDescriptor (TX4 k).2.2.1 = some (tyX4 k) := by decide +kernel
abbrev cX4_init : ByteArray := prog_1_method_1_code
def yX4_init : MethodName := ⟨RX4, "<init>", "()V"⟩
abbrev cX4_bits : ByteArray := prog_1_method_2_code
def yX4_bits : MethodName := ⟨RX4, "bits", "(JI)I"⟩
abbrev cX4_clear : ByteArray := prog_1_method_3_code
def yX4_clear : MethodName := ⟨RX4, "clear", "()I"⟩
abbrev cX4_bit : ByteArray := prog_1_method_4_code
def yX4_bit : MethodName := ⟨RX4, "bit", "(I)I"⟩
abbrev cX4_mask : ByteArray := prog_1_method_5_code
def yX4_mask : MethodName := ⟨RX4, "mask", "(I)I"⟩
abbrev cX4_code : ByteArray := prog_1_method_6_code
def yX4_code : MethodName := ⟨RX4, "code", "(II)I"⟩
abbrev cX4_amp : ByteArray := prog_1_method_7_code
def yX4_amp : MethodName := ⟨RX4, "amp", "(I)I"⟩
abbrev cX4_call : ByteArray := prog_1_method_8_code
def yX4_call : MethodName := ⟨RX4, "call", "(II)I"⟩
abbrev cX4_taps : ByteArray := prog_1_method_9_code
def yX4_taps : MethodName := ⟨RX4, "taps", "(IIII)I"⟩
abbrev cX4_air : ByteArray := prog_1_method_10_code
def yX4_air : MethodName := ⟨RX4, "air", "(III)I"⟩
abbrev cX4_lose : ByteArray := prog_1_method_11_code
def yX4_lose : MethodName := ⟨RX4, "lose", "(II)I"⟩
abbrev cX4_scrambled : ByteArray := prog_1_method_12_code
def yX4_scrambled : MethodName := ⟨RX4, "scrambled", "(I)I"⟩
abbrev cX4_voice : ByteArray := prog_1_method_13_code
def yX4_voice : MethodName := ⟨RX4, "voice", "(I)I"⟩
abbrev cX4_hear : ByteArray := prog_1_method_14_code
def yX4_hear : MethodName := ⟨RX4, "hear", "()I"⟩
abbrev cX4_sample : ByteArray := prog_1_method_15_code
def yX4_sample : MethodName := ⟨RX4, "sample", "(I)I"⟩
abbrev cX4_least : ByteArray := prog_1_method_16_code
def yX4_least : MethodName := ⟨RX4, "least", "(I)I"⟩
abbrev cX4_find : ByteArray := prog_1_method_17_code
def yX4_find : MethodName := ⟨RX4, "find", "()I"⟩
abbrev cX4_likeness : ByteArray := prog_1_method_18_code
def yX4_likeness : MethodName := ⟨RX4, "likeness", "(I)I"⟩
abbrev cX4_bring : ByteArray := prog_1_method_19_code
def yX4_bring : MethodName := ⟨RX4, "bring", "(IIII)J"⟩
abbrev cX4_brought : ByteArray := prog_1_method_20_code
def yX4_brought : MethodName := ⟨RX4, "brought", "(II)I"⟩
abbrev cX4_errors : ByteArray := prog_1_method_21_code
def yX4_errors : MethodName := ⟨RX4, "errors", "()I"⟩
abbrev cX4_sweep : ByteArray := prog_1_method_22_code
def yX4_sweep : MethodName := ⟨RX4, "sweep", "(I)I"⟩
abbrev cX4_whole : ByteArray := prog_1_method_23_code
def yX4_whole : MethodName := ⟨RX4, "whole", "(I)I"⟩
abbrev cX4_count : ByteArray := prog_1_method_24_code
def yX4_count : MethodName := ⟨RX4, "count", "(I)I"⟩
abbrev cX4_changed : ByteArray := prog_1_method_25_code
def yX4_changed : MethodName := ⟨RX4, "changed", "()I"⟩
abbrev cX4_endHeard : ByteArray := prog_1_method_26_code
def yX4_endHeard : MethodName := ⟨RX4, "endHeard", "()V"⟩
abbrev cX4_isBitPlace : ByteArray := prog_1_method_27_code
def yX4_isBitPlace : MethodName := ⟨RX4, "isBitPlace", "(I)Z"⟩
abbrev cX4_errorsOfSending : ByteArray := prog_1_method_28_code
def yX4_errorsOfSending : MethodName := ⟨RX4, "errorsOfSending", "(I)I"⟩
abbrev cX4_within : ByteArray := prog_1_method_29_code
def yX4_within : MethodName := ⟨RX4, "within", "(III)Z"⟩
abbrev cX4_areTaps : ByteArray := prog_1_method_30_code
def yX4_areTaps : MethodName := ⟨RX4, "areTaps", "(IIII)Z"⟩
abbrev cX4_setFour : ByteArray := prog_1_method_31_code
def yX4_setFour : MethodName := ⟨RX4, "setFour", "([IIIII)V"⟩
abbrev cX4_bitOf : ByteArray := prog_1_method_32_code
def yX4_bitOf : MethodName := ⟨RX4, "bitOf", "(JII)I"⟩
abbrev cX4_differences : ByteArray := prog_1_method_33_code
def yX4_differences : MethodName := ⟨RX4, "differences", "(JJ)I"⟩
abbrev cX4_oddness : ByteArray := prog_1_method_34_code
def yX4_oddness : MethodName := ⟨RX4, "oddness", "(J)I"⟩
abbrev cX4_mix : ByteArray := prog_1_method_35_code
def yX4_mix : MethodName := ⟨RX4, "mix", "(JII)J"⟩
abbrev cX4_unmix : ByteArray := prog_1_method_36_code
def yX4_unmix : MethodName := ⟨RX4, "unmix", "(JII)J"⟩
def RX5 : String := "NoiseBenchModel"
def TX5 : u_T := fun k => match k with
  | 0 => ("NoiseBenchModel", "bits", "I", false)
  | 1 => ("NoiseBenchModel", "message", "[I", true)
  | 2 => ("NoiseBenchModel", "mask", "I", false)
  | 3 => ("NoiseBenchModel", "g", "I", false)
  | 4 => ("NoiseBenchModel", "h", "I", false)
  | 5 => ("NoiseBenchModel", "amp", "I", false)
  | 6 => ("NoiseBenchModel", "callSize", "I", false)
  | 7 => ("NoiseBenchModel", "callSigns", "I", false)
  | 8 => ("NoiseBenchModel", "tap", "[I", true)
  | 9 => ("NoiseBenchModel", "delay", "I", false)
  | 10 => ("NoiseBenchModel", "noise", "I", false)
  | 11 => ("NoiseBenchModel", "seed", "I", false)
  | 12 => ("NoiseBenchModel", "lostFrom", "I", false)
  | 13 => ("NoiseBenchModel", "lostMany", "I", false)
  | 14 => ("NoiseBenchModel", "low", "I", false)
  | 15 => ("NoiseBenchModel", "isHeard", "Z", false)
  | 16 => ("NoiseBenchModel", "found", "I", false)
  | 17 => ("NoiseBenchModel", "isBrought", "Z", false)
  | 18 => ("NoiseBenchModel", "heard", "[I", true)
  | 19 => ("NoiseBenchModel", "got", "[I", true)
  | 20 => ("NoiseBenchModel", "back", "[I", true)
  | 21 => ("NoiseBenchModel", "mixed", "[I", true)
  | 22 => ("NoiseBenchModel", "voices", "[I", true)
  | 23 => ("NoiseBenchModel", "samples", "[I", true)
  | 24 => ("NoiseBenchModel", "costs", "[J", true)
  | 25 => ("NoiseBenchModel", "guess", "[I", true)
  | 26 => ("NoiseBenchModel", "keptGot", "[I", true)
  | _ => ("NoiseBenchModel", "keptBack", "[I", true)
def tyX5 : Nat → FieldType := fun k => match k with
  | 0 => .int
  | 1 => .array .int
  | 2 => .int
  | 3 => .int
  | 4 => .int
  | 5 => .int
  | 6 => .int
  | 7 => .int
  | 8 => .array .int
  | 9 => .int
  | 10 => .int
  | 11 => .int
  | 12 => .int
  | 13 => .int
  | 14 => .int
  | 15 => .boolean
  | 16 => .int
  | 17 => .boolean
  | 18 => .array .int
  | 19 => .array .int
  | 20 => .array .int
  | 21 => .array .int
  | 22 => .array .int
  | 23 => .array .int
  | 24 => .array .long
  | 25 => .array .int
  | 26 => .array .int
  | _ => .array .int
theorem nmX5 : ∀ a, a < 28 → ∀ b, b < 28 → a ≠ b → (TX5 a).2.1 ≠ (TX5 b).2.1 := by decide +kernel
theorem tyX5_ok : ∀ k, k < 28 → parseFieldDescriptor (TX5 k).2.2.1 = some (tyX5 k) := by decide +kernel
abbrev cX5_init : ByteArray := prog_7_method_1_code
def yX5_init : MethodName := ⟨RX5, "<init>", "()V"⟩
abbrev cX5_in : ByteArray := prog_7_method_2_code
def yX5_in : MethodName := ⟨RX5, "in", "(III)Z"⟩
abbrev cX5_odd : ByteArray := prog_7_method_3_code
def yX5_odd : MethodName := ⟨RX5, "odd", "(I)I"⟩
abbrev cX5_ended : ByteArray := prog_7_method_4_code
def yX5_ended : MethodName := ⟨RX5, "ended", "()I"⟩
abbrev cX5_bits : ByteArray := prog_7_method_5_code
def yX5_bits : MethodName := ⟨RX5, "bits", "(JI)I"⟩
abbrev cX5_clear : ByteArray := prog_7_method_6_code
def yX5_clear : MethodName := ⟨RX5, "clear", "()I"⟩
abbrev cX5_bit : ByteArray := prog_7_method_7_code
def yX5_bit : MethodName := ⟨RX5, "bit", "(I)I"⟩
abbrev cX5_mask : ByteArray := prog_7_method_8_code
def yX5_mask : MethodName := ⟨RX5, "mask", "(I)I"⟩
abbrev cX5_code : ByteArray := prog_7_method_9_code
def yX5_code : MethodName := ⟨RX5, "code", "(II)I"⟩
abbrev cX5_amp : ByteArray := prog_7_method_10_code
def yX5_amp : MethodName := ⟨RX5, "amp", "(I)I"⟩
abbrev cX5_call : ByteArray := prog_7_method_11_code
def yX5_call : MethodName := ⟨RX5, "call", "(II)I"⟩
abbrev cX5_areTaps : ByteArray := prog_7_method_12_code
def yX5_areTaps : MethodName := ⟨RX5, "areTaps", "(IIII)Z"⟩
abbrev cX5_taps : ByteArray := prog_7_method_13_code
def yX5_taps : MethodName := ⟨RX5, "taps", "(IIII)I"⟩
abbrev cX5_air : ByteArray := prog_7_method_14_code
def yX5_air : MethodName := ⟨RX5, "air", "(III)I"⟩
abbrev cX5_lose : ByteArray := prog_7_method_15_code
def yX5_lose : MethodName := ⟨RX5, "lose", "(II)I"⟩
abbrev cX5_mix : ByteArray := prog_7_method_16_code
def yX5_mix : MethodName := ⟨RX5, "mix", "()V"⟩
abbrev cX5_scrambled : ByteArray := prog_7_method_17_code
def yX5_scrambled : MethodName := ⟨RX5, "scrambled", "(I)I"⟩
abbrev cX5_frameSize : ByteArray := prog_7_method_18_code
def yX5_frameSize : MethodName := ⟨RX5, "frameSize", "()I"⟩
abbrev cX5_sign : ByteArray := prog_7_method_19_code
def yX5_sign : MethodName := ⟨RX5, "sign", "(I)I"⟩
abbrev cX5_layFrame : ByteArray := prog_7_method_20_code
def yX5_layFrame : MethodName := ⟨RX5, "layFrame", "()V"⟩
abbrev cX5_voice : ByteArray := prog_7_method_21_code
def yX5_voice : MethodName := ⟨RX5, "voice", "(I)I"⟩
abbrev cX5_sampleMany : ByteArray := prog_7_method_22_code
def yX5_sampleMany : MethodName := ⟨RX5, "sampleMany", "()I"⟩
abbrev cX5_listen : ByteArray := prog_7_method_23_code
def yX5_listen : MethodName := ⟨RX5, "listen", "(I)V"⟩
abbrev cX5_hear : ByteArray := prog_7_method_24_code
def yX5_hear : MethodName := ⟨RX5, "hear", "()I"⟩
abbrev cX5_sample : ByteArray := prog_7_method_25_code
def yX5_sample : MethodName := ⟨RX5, "sample", "(I)I"⟩
abbrev cX5_least : ByteArray := prog_7_method_26_code
def yX5_least : MethodName := ⟨RX5, "least", "(I)I"⟩
abbrev cX5_likenessOf : ByteArray := prog_7_method_27_code
def yX5_likenessOf : MethodName := ⟨RX5, "likenessOf", "([IIII)I"⟩
abbrev cX5_placeIn : ByteArray := prog_7_method_28_code
def yX5_placeIn : MethodName := ⟨RX5, "placeIn", "([I)I"⟩
abbrev cX5_find : ByteArray := prog_7_method_29_code
def yX5_find : MethodName := ⟨RX5, "find", "()I"⟩
abbrev cX5_likeness : ByteArray := prog_7_method_30_code
def yX5_likeness : MethodName := ⟨RX5, "likeness", "(I)I"⟩
abbrev cX5_voiceOf : ByteArray := prog_7_method_31_code
def yX5_voiceOf : MethodName := ⟨RX5, "voiceOf", "(III)I"⟩
abbrev cX5_costOf : ByteArray := prog_7_method_32_code
def yX5_costOf : MethodName := ⟨RX5, "costOf", "([IIII)J"⟩
abbrev cX5_by : ByteArray := prog_7_method_33_code
def yX5_by : MethodName := ⟨RX5, "by", "([IIIII)J"⟩
abbrev cX5_bringFrom : ByteArray := prog_7_method_34_code
def yX5_bringFrom : MethodName := ⟨RX5, "bringFrom", "([II)J"⟩
abbrev cX5_bring : ByteArray := prog_7_method_35_code
def yX5_bring : MethodName := ⟨RX5, "bring", "(IIII)J"⟩
abbrev cX5_brought : ByteArray := prog_7_method_36_code
def yX5_brought : MethodName := ⟨RX5, "brought", "(II)I"⟩
abbrev cX5_errorMany : ByteArray := prog_7_method_37_code
def yX5_errorMany : MethodName := ⟨RX5, "errorMany", "()I"⟩
abbrev cX5_errors : ByteArray := prog_7_method_38_code
def yX5_errors : MethodName := ⟨RX5, "errors", "()I"⟩
abbrev cX5_keep : ByteArray := prog_7_method_39_code
def yX5_keep : MethodName := ⟨RX5, "keep", "(Z)V"⟩
abbrev cX5_errorsOf : ByteArray := prog_7_method_40_code
def yX5_errorsOf : MethodName := ⟨RX5, "errorsOf", "(I)I"⟩
abbrev cX5_sweep : ByteArray := prog_7_method_41_code
def yX5_sweep : MethodName := ⟨RX5, "sweep", "(I)I"⟩
abbrev cX5_whole : ByteArray := prog_7_method_42_code
def yX5_whole : MethodName := ⟨RX5, "whole", "(I)I"⟩
abbrev cX5_count : ByteArray := prog_7_method_43_code
def yX5_count : MethodName := ⟨RX5, "count", "(I)I"⟩
def RJ13 : String := "java/lang/Long"
def TJ13 : u_T := fun k => match k with
  | _ => ("", "", "", false)
def tyJ13 : Nat → FieldType := fun k => match k with
  | _ => .int
theorem nmJ13 : ∀ a, a < 0 → ∀ b, b < 0 → a ≠ b → (TJ13 a).2.1 ≠ (TJ13 b).2.1 := by decide +kernel
theorem tyJ13_ok : ∀ k, k < 0 → parseFieldDescriptor (TJ13 k).2.2.1 = some (tyJ13 k) := by decide +kernel
abbrev cJ13_bitCount_95d88 : ByteArray := prog_8_method_50_code
def yJ13_bitCount_95d88 : MethodName := ⟨RJ13, "bitCount", "(J)I"⟩
def RJ9 : String := "java/lang/Math"
def TJ9 : u_T := fun k => match k with
  | _ => ("", "", "", false)
def tyJ9 : Nat → FieldType := fun k => match k with
  | _ => .int
theorem nmJ9 : ∀ a, a < 0 → ∀ b, b < 0 → a ≠ b → (TJ9 a).2.1 ≠ (TJ9 b).2.1 := by decide +kernel
theorem tyJ9_ok : ∀ k, k < 0 → parseFieldDescriptor (TJ9 k).2.2.1 = some (tyJ9 k) := by decide +kernel
abbrev cJ9_max_7cf53 : ByteArray := prog_9_method_65_code
def yJ9_max_7cf53 : MethodName := ⟨RJ9, "max", "(II)I"⟩
abbrev cJ9_min_7cf53 : ByteArray := prog_9_method_69_code
def yJ9_min_7cf53 : MethodName := ⟨RJ9, "min", "(II)I"⟩
def RJ10 : String := "java/lang/System"
def TJ10 : u_T := fun k => match k with
  | _ => ("", "", "", false)
def tyJ10 : Nat → FieldType := fun k => match k with
  | _ => .int
theorem nmJ10 : ∀ a, a < 0 → ∀ b, b < 0 → a ≠ b → (TJ10 a).2.1 ≠ (TJ10 b).2.1 := by decide +kernel
theorem tyJ10_ok : ∀ k, k < 0 → parseFieldDescriptor (TJ10 k).2.2.1 = some (tyJ10 k) := by decide +kernel
def RL : String := "NoiseBenchLaw"
abbrev cL_law : ByteArray := code
def yL_law : MethodName := ⟨RL, "law", "([I)Z"⟩
abbrev vwCl : List vw_C := [(RX0, TX0, 6), (RX1, TX1, 2), (RX2, TX2, 9), (RX3, TX3, 9), (RX4, TX4, 11), (RX5, TX5, 28)]
/-- the words that stay: one list for all methods -/
def BIG : List Cond := lw_tbl.filter goodWord
theorem big_of {w : Cond} {i : Nat} (h : lw_tbl[i]? = some w) (g : goodWord w = true) : w ∈ BIG := List.mem_filter.mpr ⟨List.mem_of_getElem? h, g⟩
theorem big_in : ∀ w ∈ BIG, w ∈ lw_tbl := fun _ h => (List.mem_filter.mp h).1
theorem big_good : GoodIn BIG BIG := fun _ h => ⟨h, good_of_word (List.mem_filter.mp h).2⟩
theorem big_code {w : Cond} (h : w ∈ BIG) : GoodIn BIG (w :: BIG) := fun v hv => by
  rcases List.mem_cons.mp hv with e | e
  · rw [e]; exact big_good w h
  · exact big_good v e
theorem big_row {ws : List Cond} (ps : List Nat) (hp : ws = ps.filterMap (fun i => lw_tbl[i]?)) (hg : ws.all goodWord = true) : ∀ w ∈ ws, w ∈ BIG := by
  intro w hw
  have h1 := List.all_eq_true.mp hg w hw
  rw [hp] at hw
  obtain ⟨i, -, hi⟩ := List.mem_filterMap.mp hw
  exact List.mem_filter.mpr ⟨List.mem_of_getElem? hi, h1⟩
theorem mn_L : Cond.initialized RL ∈ BIG := big_of (i := 25) rfl rfl
theorem mn_X4 : Cond.initialized RX4 ∈ BIG := big_of (i := 26) rfl rfl
theorem mn_X3 : Cond.initialized RX3 ∈ BIG := big_of (i := 27) rfl rfl
theorem mn_X0 : Cond.initialized RX0 ∈ BIG := big_of (i := 28) rfl rfl
theorem mn_X1 : Cond.initialized RX1 ∈ BIG := big_of (i := 29) rfl rfl
theorem mn_X2 : Cond.initialized RX2 ∈ BIG := big_of (i := 30) rfl rfl
theorem mn_X5 : Cond.initialized RX5 ∈ BIG := big_of (i := 31) rfl rfl
theorem mn_J13 : Cond.initialized RJ13 ∈ BIG := big_of (i := 32) rfl rfl
theorem mn_Math : Cond.initialized "java/lang/Math" ∈ BIG := big_of (i := 33) rfl rfl
theorem mn_J9 : Cond.initialized RJ9 ∈ BIG := big_of (i := 33) rfl rfl
theorem mn_System : Cond.initialized "java/lang/System" ∈ BIG := big_of (i := 34) rfl rfl
theorem mn_J10 : Cond.initialized RJ10 ∈ BIG := big_of (i := 34) rfl rfl
theorem mo_L_7 : Cond.classLink RL 7 RX4 ∈ BIG := big_of (i := 35) rfl rfl
theorem mb_X4 : Cond.instantiable RX4 11 ∈ BIG := big_of (i := 36) rfl rfl
theorem mm_L_9 : Cond.methodLink RL 9 yX4_init ∈ BIG := big_of (i := 37) rfl rfl
theorem mi_yX4_init : Cond.instanceMethod yX4_init ∈ BIG := big_of (i := 38) rfl rfl
theorem mc_yX4_init : Cond.code yX4_init cX4_init 1 none ∈ BIG := big_of (i := 39) rfl rfl
theorem mm_X4_3 : Cond.methodLink RX4 3 objectInit ∈ BIG := big_of (i := 40) rfl rfl
theorem mi_objectInit : Cond.instanceMethod objectInit ∈ BIG := big_of (i := 41) rfl rfl
theorem mc_objectInit : Cond.code objectInit ⟨#[0xb1]⟩ 1 none ∈ BIG := big_of (i := 42) rfl rfl
theorem mo_X4_9 : Cond.classLink RX4 9 RX3 ∈ BIG := big_of (i := 43) rfl rfl
theorem mb_X3 : Cond.instantiable RX3 9 ∈ BIG := big_of (i := 44) rfl rfl
theorem mi_yX3_init : Cond.instanceMethod yX3_init ∈ BIG := big_of (i := 46) rfl rfl
theorem mc_yX3_init : Cond.code yX3_init cX3_init 1 none ∈ BIG := big_of (i := 47) rfl rfl
theorem mm_X3_3 : Cond.methodLink RX3 3 objectInit ∈ BIG := big_of (i := 48) rfl rfl
theorem mf_X3_9 : Cond.fieldLink RX3 9 "NoiseBench$Sender" "message" "J" ∈ BIG := big_of (i := 49) rfl rfl
theorem mf_X4_82 : Cond.fieldLink RX4 82 "NoiseBench$Sender" "message" "J" ∈ BIG := big_of (i := 50) rfl rfl
theorem mf_X3_15 : Cond.fieldLink RX3 15 "NoiseBench$Sender" "mixed" "J" ∈ BIG := big_of (i := 51) rfl rfl
theorem mf_X4_139 : Cond.fieldLink RX4 139 "NoiseBench$Sender" "mixed" "J" ∈ BIG := big_of (i := 52) rfl rfl
theorem mf_X3_18 : Cond.fieldLink RX3 18 "NoiseBench$Sender" "size" "I" ∈ BIG := big_of (i := 53) rfl rfl
theorem mf_X4_65 : Cond.fieldLink RX4 65 "NoiseBench$Sender" "size" "I" ∈ BIG := big_of (i := 54) rfl rfl
theorem mf_X2_64 : Cond.fieldLink RX2 64 "NoiseBench$Sender" "size" "I" ∈ BIG := big_of (i := 55) rfl rfl
theorem mf_X3_22 : Cond.fieldLink RX3 22 "NoiseBench$Sender" "maskBits" "I" ∈ BIG := big_of (i := 56) rfl rfl
theorem mf_X4_186 : Cond.fieldLink RX4 186 "NoiseBench$Sender" "maskBits" "I" ∈ BIG := big_of (i := 57) rfl rfl
theorem mf_X3_25 : Cond.fieldLink RX3 25 "NoiseBench$Sender" "codeG" "I" ∈ BIG := big_of (i := 58) rfl rfl
theorem mf_X4_97 : Cond.fieldLink RX4 97 "NoiseBench$Sender" "codeG" "I" ∈ BIG := big_of (i := 59) rfl rfl
theorem mf_X3_28 : Cond.fieldLink RX3 28 "NoiseBench$Sender" "codeH" "I" ∈ BIG := big_of (i := 60) rfl rfl
theorem mf_X4_100 : Cond.fieldLink RX4 100 "NoiseBench$Sender" "codeH" "I" ∈ BIG := big_of (i := 61) rfl rfl
theorem mf_X3_31 : Cond.fieldLink RX3 31 "NoiseBench$Sender" "strength" "I" ∈ BIG := big_of (i := 62) rfl rfl
theorem mf_X2_83 : Cond.fieldLink RX2 83 "NoiseBench$Sender" "strength" "I" ∈ BIG := big_of (i := 63) rfl rfl
theorem mf_X4_103 : Cond.fieldLink RX4 103 "NoiseBench$Sender" "strength" "I" ∈ BIG := big_of (i := 64) rfl rfl
theorem mf_X3_34 : Cond.fieldLink RX3 34 "NoiseBench$Sender" "callSize" "I" ∈ BIG := big_of (i := 65) rfl rfl
theorem mf_X2_44 : Cond.fieldLink RX2 44 "NoiseBench$Sender" "callSize" "I" ∈ BIG := big_of (i := 66) rfl rfl
theorem mf_X1_48 : Cond.fieldLink RX1 48 "NoiseBench$Sender" "callSize" "I" ∈ BIG := big_of (i := 67) rfl rfl
theorem mf_X4_106 : Cond.fieldLink RX4 106 "NoiseBench$Sender" "callSize" "I" ∈ BIG := big_of (i := 68) rfl rfl
theorem mf_X3_37 : Cond.fieldLink RX3 37 "NoiseBench$Sender" "callSigns" "I" ∈ BIG := big_of (i := 69) rfl rfl
theorem mf_X4_109 : Cond.fieldLink RX4 109 "NoiseBench$Sender" "callSigns" "I" ∈ BIG := big_of (i := 70) rfl rfl
theorem mo_X4_16 : Cond.classLink RX4 16 RX0 ∈ BIG := big_of (i := 90) rfl rfl
theorem mb_X0 : Cond.instantiable RX0 6 ∈ BIG := big_of (i := 91) rfl rfl
theorem mi_yX0_init : Cond.instanceMethod yX0_init ∈ BIG := big_of (i := 93) rfl rfl
theorem mc_yX0_init : Cond.code yX0_init cX0_init 1 none ∈ BIG := big_of (i := 94) rfl rfl
theorem mm_X0_3 : Cond.methodLink RX0 3 objectInit ∈ BIG := big_of (i := 95) rfl rfl
theorem mf_X0_9 : Cond.fieldLink RX0 9 "NoiseBench$Channel" "weights" "[I" ∈ BIG := big_of (i := 96) rfl rfl
theorem mf_X4_116 : Cond.fieldLink RX4 116 "NoiseBench$Channel" "weights" "[I" ∈ BIG := big_of (i := 97) rfl rfl
theorem mf_X0_15 : Cond.fieldLink RX0 15 "NoiseBench$Channel" "lag" "I" ∈ BIG := big_of (i := 98) rfl rfl
theorem mf_X1_19 : Cond.fieldLink RX1 19 "NoiseBench$Channel" "lag" "I" ∈ BIG := big_of (i := 99) rfl rfl
theorem mf_X4_124 : Cond.fieldLink RX4 124 "NoiseBench$Channel" "lag" "I" ∈ BIG := big_of (i := 100) rfl rfl
theorem mf_X0_19 : Cond.fieldLink RX0 19 "NoiseBench$Channel" "loudness" "I" ∈ BIG := big_of (i := 101) rfl rfl
theorem mf_X4_127 : Cond.fieldLink RX4 127 "NoiseBench$Channel" "loudness" "I" ∈ BIG := big_of (i := 102) rfl rfl
theorem mf_X0_22 : Cond.fieldLink RX0 22 "NoiseBench$Channel" "start" "I" ∈ BIG := big_of (i := 103) rfl rfl
theorem mf_X4_130 : Cond.fieldLink RX4 130 "NoiseBench$Channel" "start" "I" ∈ BIG := big_of (i := 104) rfl rfl
theorem mf_X0_25 : Cond.fieldLink RX0 25 "NoiseBench$Channel" "lostFrom" "I" ∈ BIG := big_of (i := 105) rfl rfl
theorem mf_X4_133 : Cond.fieldLink RX4 133 "NoiseBench$Channel" "lostFrom" "I" ∈ BIG := big_of (i := 106) rfl rfl
theorem mf_X0_28 : Cond.fieldLink RX0 28 "NoiseBench$Channel" "lostLength" "I" ∈ BIG := big_of (i := 107) rfl rfl
theorem mf_X4_136 : Cond.fieldLink RX4 136 "NoiseBench$Channel" "lostLength" "I" ∈ BIG := big_of (i := 108) rfl rfl
theorem ma_int : Cond.arrayClass .int ∈ BIG := big_of (i := 122) rfl rfl
theorem mo_X4_23 : Cond.classLink RX4 23 RX1 ∈ BIG := big_of (i := 123) rfl rfl
theorem mb_X1 : Cond.instantiable RX1 2 ∈ BIG := big_of (i := 124) rfl rfl
theorem mi_yX1_init : Cond.instanceMethod yX1_init ∈ BIG := big_of (i := 126) rfl rfl
theorem mc_yX1_init : Cond.code yX1_init cX1_init 1 none ∈ BIG := big_of (i := 127) rfl rfl
theorem mm_X1_3 : Cond.methodLink RX1 3 objectInit ∈ BIG := big_of (i := 128) rfl rfl
theorem mf_X1_9 : Cond.fieldLink RX1 9 "NoiseBench$Hearing" "samples" "[I" ∈ BIG := big_of (i := 129) rfl rfl
theorem mf_X1_15 : Cond.fieldLink RX1 15 "NoiseBench$Hearing" "length" "I" ∈ BIG := big_of (i := 130) rfl rfl
theorem mf_X4_154 : Cond.fieldLink RX4 154 "NoiseBench$Hearing" "length" "I" ∈ BIG := big_of (i := 131) rfl rfl
theorem mo_X4_33 : Cond.classLink RX4 33 RX2 ∈ BIG := big_of (i := 137) rfl rfl
theorem mb_X2 : Cond.instantiable RX2 9 ∈ BIG := big_of (i := 138) rfl rfl
theorem mi_yX2_init : Cond.instanceMethod yX2_init ∈ BIG := big_of (i := 140) rfl rfl
theorem mc_yX2_init : Cond.code yX2_init cX2_init 1 none ∈ BIG := big_of (i := 141) rfl rfl
theorem mm_X2_3 : Cond.methodLink RX2 3 objectInit ∈ BIG := big_of (i := 142) rfl rfl
theorem mf_X2_9 : Cond.fieldLink RX2 9 "NoiseBench$Path" "guess" "[I" ∈ BIG := big_of (i := 143) rfl rfl
theorem mf_X4_176 : Cond.fieldLink RX4 176 "NoiseBench$Path" "guess" "[I" ∈ BIG := big_of (i := 144) rfl rfl
theorem mf_X2_15 : Cond.fieldLink RX2 15 "NoiseBench$Path" "bestCost" "J" ∈ BIG := big_of (i := 145) rfl rfl
theorem mf_X4_193 : Cond.fieldLink RX4 193 "NoiseBench$Path" "bestCost" "J" ∈ BIG := big_of (i := 146) rfl rfl
theorem mf_X2_19 : Cond.fieldLink RX2 19 "NoiseBench$Path" "bestRow" "J" ∈ BIG := big_of (i := 147) rfl rfl
theorem mf_X4_183 : Cond.fieldLink RX4 183 "NoiseBench$Path" "bestRow" "J" ∈ BIG := big_of (i := 148) rfl rfl
theorem mf_X2_22 : Cond.fieldLink RX2 22 "NoiseBench$Path" "firstDue" "[I" ∈ BIG := big_of (i := 149) rfl rfl
theorem mf_X2_25 : Cond.fieldLink RX2 25 "NoiseBench$Path" "secondDue" "[I" ∈ BIG := big_of (i := 150) rfl rfl
theorem mf_X2_28 : Cond.fieldLink RX2 28 "NoiseBench$Path" "costs" "[J" ∈ BIG := big_of (i := 151) rfl rfl
theorem mf_X2_32 : Cond.fieldLink RX2 32 "NoiseBench$Path" "rows" "[J" ∈ BIG := big_of (i := 152) rfl rfl
theorem mf_X2_35 : Cond.fieldLink RX2 35 "NoiseBench$Path" "nextCosts" "[J" ∈ BIG := big_of (i := 153) rfl rfl
theorem mf_X2_38 : Cond.fieldLink RX2 38 "NoiseBench$Path" "nextRows" "[J" ∈ BIG := big_of (i := 154) rfl rfl
theorem ma_long : Cond.arrayClass .long ∈ BIG := big_of (i := 174) rfl rfl
theorem mf_X4_12 : Cond.fieldLink RX4 12 "NoiseBench" "sender" "LNoiseBench$Sender;" ∈ BIG := big_of (i := 175) rfl rfl
theorem mf_X4_19 : Cond.fieldLink RX4 19 "NoiseBench" "channel" "LNoiseBench$Channel;" ∈ BIG := big_of (i := 176) rfl rfl
theorem mf_X4_26 : Cond.fieldLink RX4 26 "NoiseBench" "kept" "LNoiseBench$Hearing;" ∈ BIG := big_of (i := 177) rfl rfl
theorem mf_X4_30 : Cond.fieldLink RX4 30 "NoiseBench" "trial" "LNoiseBench$Hearing;" ∈ BIG := big_of (i := 178) rfl rfl
theorem mf_X4_36 : Cond.fieldLink RX4 36 "NoiseBench" "path" "LNoiseBench$Path;" ∈ BIG := big_of (i := 179) rfl rfl
theorem mf_X4_40 : Cond.fieldLink RX4 40 "NoiseBench" "leastLikeness" "I" ∈ BIG := big_of (i := 180) rfl rfl
theorem mf_X4_44 : Cond.fieldLink RX4 44 "NoiseBench" "isHeard" "Z" ∈ BIG := big_of (i := 181) rfl rfl
theorem mf_X4_48 : Cond.fieldLink RX4 48 "NoiseBench" "place" "I" ∈ BIG := big_of (i := 182) rfl rfl
theorem mf_X4_51 : Cond.fieldLink RX4 51 "NoiseBench" "isBrought" "Z" ∈ BIG := big_of (i := 183) rfl rfl
theorem mf_X4_54 : Cond.fieldLink RX4 54 "NoiseBench" "broughtMixed" "J" ∈ BIG := big_of (i := 184) rfl rfl
theorem mf_X4_58 : Cond.fieldLink RX4 58 "NoiseBench" "broughtPlain" "J" ∈ BIG := big_of (i := 185) rfl rfl
theorem mm_L_15 : Cond.methodLink RL 15 yX4_bits ∈ BIG := big_of (i := 209) rfl rfl
theorem mi_yX4_bits : Cond.instanceMethod yX4_bits ∈ BIG := big_of (i := 210) rfl rfl
theorem mx_yX4_bits : Cond.selects RX4 yX4_bits yX4_bits ∈ BIG := big_of (i := 211) rfl rfl
theorem mc_yX4_bits : Cond.code yX4_bits cX4_bits 4 (some .int) ∈ BIG := big_of (i := 212) rfl rfl
theorem mm_X4_61 : Cond.methodLink RX4 61 yX4_within ∈ BIG := big_of (i := 213) rfl rfl
theorem ms_yX4_within : Cond.static yX4_within ∈ BIG := big_of (i := 214) rfl rfl
theorem mc_yX4_within : Cond.code yX4_within cX4_within 3 (some .boolean) ∈ BIG := big_of (i := 215) rfl rfl
theorem mm_X4_68 : Cond.methodLink RX4 68 yX3_append ∈ BIG := big_of (i := 216) rfl rfl
theorem mi_yX3_append : Cond.instanceMethod yX3_append ∈ BIG := big_of (i := 217) rfl rfl
theorem mx_yX3_append : Cond.selects RX3 yX3_append yX3_append ∈ BIG := big_of (i := 218) rfl rfl
theorem mc_yX3_append : Cond.code yX3_append cX3_append 4 none ∈ BIG := big_of (i := 219) rfl rfl
theorem ms_yX4_mix : Cond.static yX4_mix ∈ BIG := big_of (i := 221) rfl rfl
theorem mc_yX4_mix : Cond.code yX4_mix cX4_mix 7 (some .long) ∈ BIG := big_of (i := 222) rfl rfl
theorem mk_X4_215 : Cond.constantLong RX4 215 (2) ∈ BIG := big_of (i := 223) rfl rfl
theorem mm_X4_85 : Cond.methodLink RX4 85 yX4_bitOf ∈ BIG := big_of (i := 224) rfl rfl
theorem ms_yX4_bitOf : Cond.static yX4_bitOf ∈ BIG := big_of (i := 225) rfl rfl
theorem mc_yX4_bitOf : Cond.code yX4_bitOf cX4_bitOf 4 (some .int) ∈ BIG := big_of (i := 226) rfl rfl
theorem mm_X4_217 : Cond.methodLink RX4 217 yX4_oddness ∈ BIG := big_of (i := 227) rfl rfl
theorem ms_yX4_oddness : Cond.static yX4_oddness ∈ BIG := big_of (i := 228) rfl rfl
theorem mc_yX4_oddness : Cond.code yX4_oddness cX4_oddness 2 (some .int) ∈ BIG := big_of (i := 229) rfl rfl
theorem mm_X4_209 : Cond.methodLink RX4 209 yJ13_bitCount_95d88 ∈ BIG := big_of (i := 230) rfl rfl
theorem ms_yJ13_bitCount_95d88 : Cond.static yJ13_bitCount_95d88 ∈ BIG := big_of (i := 231) rfl rfl
theorem mc_yJ13_bitCount_95d88 : Cond.code yJ13_bitCount_95d88 cJ13_bitCount_95d88 2 (some .int) ∈ BIG := big_of (i := 232) rfl rfl
theorem mk_J13_314 : Cond.constantLong RJ13 314 (6148914691236517205) ∈ BIG := big_of (i := 233) rfl rfl
theorem mk_J13_316 : Cond.constantLong RJ13 316 (3689348814741910323) ∈ BIG := big_of (i := 234) rfl rfl
theorem mk_J13_318 : Cond.constantLong RJ13 318 (1085102592571150095) ∈ BIG := big_of (i := 235) rfl rfl
theorem mm_X4_72 : Cond.methodLink RX4 72 yX4_endHeard ∈ BIG := big_of (i := 236) rfl rfl
theorem mi_yX4_endHeard : Cond.instanceMethod yX4_endHeard ∈ BIG := big_of (i := 238) rfl rfl
theorem mc_yX4_endHeard : Cond.code yX4_endHeard cX4_endHeard 1 none ∈ BIG := big_of (i := 239) rfl rfl
theorem mm_L_20 : Cond.methodLink RL 20 yX4_clear ∈ BIG := big_of (i := 240) rfl rfl
theorem mi_yX4_clear : Cond.instanceMethod yX4_clear ∈ BIG := big_of (i := 241) rfl rfl
theorem mx_yX4_clear : Cond.selects RX4 yX4_clear yX4_clear ∈ BIG := big_of (i := 242) rfl rfl
theorem mc_yX4_clear : Cond.code yX4_clear cX4_clear 2 (some .int) ∈ BIG := big_of (i := 243) rfl rfl
theorem mm_X4_75 : Cond.methodLink RX4 75 yX3_empty ∈ BIG := big_of (i := 244) rfl rfl
theorem mi_yX3_empty : Cond.instanceMethod yX3_empty ∈ BIG := big_of (i := 245) rfl rfl
theorem mx_yX3_empty : Cond.selects RX3 yX3_empty yX3_empty ∈ BIG := big_of (i := 246) rfl rfl
theorem mc_yX3_empty : Cond.code yX3_empty cX3_empty 1 none ∈ BIG := big_of (i := 247) rfl rfl
theorem mm_L_25 : Cond.methodLink RL 25 yX4_bit ∈ BIG := big_of (i := 248) rfl rfl
theorem mi_yX4_bit : Cond.instanceMethod yX4_bit ∈ BIG := big_of (i := 249) rfl rfl
theorem mx_yX4_bit : Cond.selects RX4 yX4_bit yX4_bit ∈ BIG := big_of (i := 250) rfl rfl
theorem mc_yX4_bit : Cond.code yX4_bit cX4_bit 2 (some .int) ∈ BIG := big_of (i := 251) rfl rfl
theorem mm_X4_78 : Cond.methodLink RX4 78 yX4_isBitPlace ∈ BIG := big_of (i := 252) rfl rfl
theorem mi_yX4_isBitPlace : Cond.instanceMethod yX4_isBitPlace ∈ BIG := big_of (i := 254) rfl rfl
theorem mc_yX4_isBitPlace : Cond.code yX4_isBitPlace cX4_isBitPlace 2 (some .boolean) ∈ BIG := big_of (i := 255) rfl rfl
theorem mm_L_30 : Cond.methodLink RL 30 yX4_mask ∈ BIG := big_of (i := 256) rfl rfl
theorem mi_yX4_mask : Cond.instanceMethod yX4_mask ∈ BIG := big_of (i := 257) rfl rfl
theorem mx_yX4_mask : Cond.selects RX4 yX4_mask yX4_mask ∈ BIG := big_of (i := 258) rfl rfl
theorem mc_yX4_mask : Cond.code yX4_mask cX4_mask 2 (some .int) ∈ BIG := big_of (i := 259) rfl rfl
theorem mm_X4_89 : Cond.methodLink RX4 89 yX3_setMask ∈ BIG := big_of (i := 260) rfl rfl
theorem mi_yX3_setMask : Cond.instanceMethod yX3_setMask ∈ BIG := big_of (i := 261) rfl rfl
theorem mx_yX3_setMask : Cond.selects RX3 yX3_setMask yX3_setMask ∈ BIG := big_of (i := 262) rfl rfl
theorem mc_yX3_setMask : Cond.code yX3_setMask cX3_setMask 2 none ∈ BIG := big_of (i := 263) rfl rfl
theorem mm_X4_93 : Cond.methodLink RX4 93 yX4_changed ∈ BIG := big_of (i := 264) rfl rfl
theorem mi_yX4_changed : Cond.instanceMethod yX4_changed ∈ BIG := big_of (i := 266) rfl rfl
theorem mc_yX4_changed : Cond.code yX4_changed cX4_changed 1 (some .int) ∈ BIG := big_of (i := 267) rfl rfl
theorem mm_L_34 : Cond.methodLink RL 34 yX4_code ∈ BIG := big_of (i := 268) rfl rfl
theorem mi_yX4_code : Cond.instanceMethod yX4_code ∈ BIG := big_of (i := 269) rfl rfl
theorem mx_yX4_code : Cond.selects RX4 yX4_code yX4_code ∈ BIG := big_of (i := 270) rfl rfl
theorem mc_yX4_code : Cond.code yX4_code cX4_code 3 (some .int) ∈ BIG := big_of (i := 271) rfl rfl
theorem mm_L_39 : Cond.methodLink RL 39 yX4_amp ∈ BIG := big_of (i := 272) rfl rfl
theorem mi_yX4_amp : Cond.instanceMethod yX4_amp ∈ BIG := big_of (i := 273) rfl rfl
theorem mx_yX4_amp : Cond.selects RX4 yX4_amp yX4_amp ∈ BIG := big_of (i := 274) rfl rfl
theorem mc_yX4_amp : Cond.code yX4_amp cX4_amp 2 (some .int) ∈ BIG := big_of (i := 275) rfl rfl
theorem mm_L_43 : Cond.methodLink RL 43 yX4_call ∈ BIG := big_of (i := 276) rfl rfl
theorem mi_yX4_call : Cond.instanceMethod yX4_call ∈ BIG := big_of (i := 277) rfl rfl
theorem mx_yX4_call : Cond.selects RX4 yX4_call yX4_call ∈ BIG := big_of (i := 278) rfl rfl
theorem mc_yX4_call : Cond.code yX4_call cX4_call 3 (some .int) ∈ BIG := big_of (i := 279) rfl rfl
theorem mm_L_47 : Cond.methodLink RL 47 yX4_taps ∈ BIG := big_of (i := 280) rfl rfl
theorem mi_yX4_taps : Cond.instanceMethod yX4_taps ∈ BIG := big_of (i := 281) rfl rfl
theorem mx_yX4_taps : Cond.selects RX4 yX4_taps yX4_taps ∈ BIG := big_of (i := 282) rfl rfl
theorem mc_yX4_taps : Cond.code yX4_taps cX4_taps 5 (some .int) ∈ BIG := big_of (i := 283) rfl rfl
theorem mm_X4_112 : Cond.methodLink RX4 112 yX4_areTaps ∈ BIG := big_of (i := 284) rfl rfl
theorem ms_yX4_areTaps : Cond.static yX4_areTaps ∈ BIG := big_of (i := 285) rfl rfl
theorem mc_yX4_areTaps : Cond.code yX4_areTaps cX4_areTaps 4 (some .boolean) ∈ BIG := big_of (i := 286) rfl rfl
theorem mm_X4_120 : Cond.methodLink RX4 120 yX4_setFour ∈ BIG := big_of (i := 287) rfl rfl
theorem ms_yX4_setFour : Cond.static yX4_setFour ∈ BIG := big_of (i := 288) rfl rfl
theorem mc_yX4_setFour : Cond.code yX4_setFour cX4_setFour 5 none ∈ BIG := big_of (i := 289) rfl rfl
theorem mm_L_52 : Cond.methodLink RL 52 yX4_air ∈ BIG := big_of (i := 290) rfl rfl
theorem mi_yX4_air : Cond.instanceMethod yX4_air ∈ BIG := big_of (i := 291) rfl rfl
theorem mx_yX4_air : Cond.selects RX4 yX4_air yX4_air ∈ BIG := big_of (i := 292) rfl rfl
theorem mc_yX4_air : Cond.code yX4_air cX4_air 4 (some .int) ∈ BIG := big_of (i := 293) rfl rfl
theorem mm_L_57 : Cond.methodLink RL 57 yX4_lose ∈ BIG := big_of (i := 294) rfl rfl
theorem mi_yX4_lose : Cond.instanceMethod yX4_lose ∈ BIG := big_of (i := 295) rfl rfl
theorem mx_yX4_lose : Cond.selects RX4 yX4_lose yX4_lose ∈ BIG := big_of (i := 296) rfl rfl
theorem mc_yX4_lose : Cond.code yX4_lose cX4_lose 3 (some .int) ∈ BIG := big_of (i := 297) rfl rfl
theorem mm_L_61 : Cond.methodLink RL 61 yX4_scrambled ∈ BIG := big_of (i := 298) rfl rfl
theorem mi_yX4_scrambled : Cond.instanceMethod yX4_scrambled ∈ BIG := big_of (i := 299) rfl rfl
set_option maxRecDepth 100000 in
theorem mx_yX4_scrambled : Cond.selects RX4 yX4_scrambled yX4_scrambled ∈ BIG := big_of (i := 300) rfl rfl
set_option maxRecDepth 100000 in
theorem mc_yX4_scrambled : Cond.code yX4_scrambled cX4_scrambled 2 (some .int) ∈ BIG := big_of (i := 301) rfl rfl
set_option maxRecDepth 100000 in
theorem mm_L_65 : Cond.methodLink RL 65 yX4_voice ∈ BIG := big_of (i := 302) rfl rfl
set_option maxRecDepth 100000 in
theorem mi_yX4_voice : Cond.instanceMethod yX4_voice ∈ BIG := big_of (i := 303) rfl rfl
set_option maxRecDepth 100000 in
theorem mx_yX4_voice : Cond.selects RX4 yX4_voice yX4_voice ∈ BIG := big_of (i := 304) rfl rfl
set_option maxRecDepth 100000 in
theorem mc_yX4_voice : Cond.code yX4_voice cX4_voice 2 (some .int) ∈ BIG := big_of (i := 305) rfl rfl
set_option maxRecDepth 100000 in
theorem mm_X4_142 : Cond.methodLink RX4 142 yX3_frameSize ∈ BIG := big_of (i := 306) rfl rfl
set_option maxRecDepth 100000 in
theorem mi_yX3_frameSize : Cond.instanceMethod yX3_frameSize ∈ BIG := big_of (i := 307) rfl rfl
set_option maxRecDepth 100000 in
theorem mx_yX3_frameSize : Cond.selects RX3 yX3_frameSize yX3_frameSize ∈ BIG := big_of (i := 308) rfl rfl
set_option maxRecDepth 100000 in
theorem mc_yX3_frameSize : Cond.code yX3_frameSize cX3_frameSize 1 (some .int) ∈ BIG := big_of (i := 309) rfl rfl
set_option maxRecDepth 100000 in
theorem mm_X3_44 : Cond.methodLink RX3 44 yX3_steps ∈ BIG := big_of (i := 310) rfl rfl
set_option maxRecDepth 100000 in
theorem mi_yX3_steps : Cond.instanceMethod yX3_steps ∈ BIG := big_of (i := 311) rfl rfl
set_option maxRecDepth 100000 in
theorem mx_yX3_steps : Cond.selects RX3 yX3_steps yX3_steps ∈ BIG := big_of (i := 312) rfl rfl
set_option maxRecDepth 100000 in
theorem mc_yX3_steps : Cond.code yX3_steps cX3_steps 1 (some .int) ∈ BIG := big_of (i := 313) rfl rfl
set_option maxRecDepth 100000 in
theorem mm_X4_145 : Cond.methodLink RX4 145 yX3_frameVoice ∈ BIG := big_of (i := 314) rfl rfl
set_option maxRecDepth 100000 in
theorem mi_yX3_frameVoice : Cond.instanceMethod yX3_frameVoice ∈ BIG := big_of (i := 315) rfl rfl
set_option maxRecDepth 100000 in
theorem mx_yX3_frameVoice : Cond.selects RX3 yX3_frameVoice yX3_frameVoice ∈ BIG := big_of (i := 316) rfl rfl
set_option maxRecDepth 100000 in
theorem mc_yX3_frameVoice : Cond.code yX3_frameVoice cX3_frameVoice 6 (some .int) ∈ BIG := big_of (i := 317) rfl rfl
set_option maxRecDepth 100000 in
theorem mm_X3_60 : Cond.methodLink RX3 60 yX3_sign ∈ BIG := big_of (i := 318) rfl rfl
set_option maxRecDepth 100000 in
theorem mi_yX3_sign : Cond.instanceMethod yX3_sign ∈ BIG := big_of (i := 319) rfl rfl
set_option maxRecDepth 100000 in
theorem mx_yX3_sign : Cond.selects RX3 yX3_sign yX3_sign ∈ BIG := big_of (i := 320) rfl rfl
set_option maxRecDepth 100000 in
theorem mc_yX3_sign : Cond.code yX3_sign cX3_sign 2 (some .int) ∈ BIG := big_of (i := 321) rfl rfl
set_option maxRecDepth 100000 in
theorem mm_X3_64 : Cond.methodLink RX3 64 yX3_codeVoice ∈ BIG := big_of (i := 324) rfl rfl
set_option maxRecDepth 100000 in
theorem mi_yX3_codeVoice : Cond.instanceMethod yX3_codeVoice ∈ BIG := big_of (i := 325) rfl rfl
set_option maxRecDepth 100000 in
theorem mx_yX3_codeVoice : Cond.selects RX3 yX3_codeVoice yX3_codeVoice ∈ BIG := big_of (i := 326) rfl rfl
set_option maxRecDepth 100000 in
theorem mc_yX3_codeVoice : Cond.code yX3_codeVoice cX3_codeVoice 5 (some .int) ∈ BIG := big_of (i := 327) rfl rfl
set_option maxRecDepth 100000 in
theorem mk_X4_149 : Cond.constant RX4 149 (-2147483648) ∈ BIG := big_of (i := 329) rfl rfl
set_option maxRecDepth 100000 in
theorem mm_L_69 : Cond.methodLink RL 69 yX4_hear ∈ BIG := big_of (i := 330) rfl rfl
set_option maxRecDepth 100000 in
theorem mi_yX4_hear : Cond.instanceMethod yX4_hear ∈ BIG := big_of (i := 331) rfl rfl
set_option maxRecDepth 100000 in
theorem mx_yX4_hear : Cond.selects RX4 yX4_hear yX4_hear ∈ BIG := big_of (i := 332) rfl rfl
set_option maxRecDepth 100000 in
theorem mc_yX4_hear : Cond.code yX4_hear cX4_hear 1 (some .int) ∈ BIG := big_of (i := 333) rfl rfl
set_option maxRecDepth 100000 in
theorem mm_X4_150 : Cond.methodLink RX4 150 yX1_listen ∈ BIG := big_of (i := 334) rfl rfl
set_option maxRecDepth 100000 in
theorem mi_yX1_listen : Cond.instanceMethod yX1_listen ∈ BIG := big_of (i := 335) rfl rfl
set_option maxRecDepth 100000 in
theorem mx_yX1_listen : Cond.selects RX1 yX1_listen yX1_listen ∈ BIG := big_of (i := 336) rfl rfl
set_option maxRecDepth 100000 in
theorem mc_yX1_listen : Cond.code yX1_listen cX1_listen 6 none ∈ BIG := big_of (i := 337) rfl rfl
set_option maxRecDepth 100000 in
theorem mm_X1_24 : Cond.methodLink RX1 24 yX3_frameSize ∈ BIG := big_of (i := 338) rfl rfl
set_option maxRecDepth 100000 in
theorem mm_X1_30 : Cond.methodLink RX1 30 yJ9_min_7cf53 ∈ BIG := big_of (i := 339) rfl rfl
set_option maxRecDepth 100000 in
theorem ms_yJ9_min_7cf53 : Cond.static yJ9_min_7cf53 ∈ BIG := big_of (i := 340) rfl rfl
set_option maxRecDepth 100000 in
theorem mc_yJ9_min_7cf53 : Cond.code Lib.Math.min.name Lib.Math.min.code 2 (some .int) ∈ BIG := big_of (i := 341) rfl rfl
set_option maxRecDepth 100000 in
theorem mm_X1_36 : Cond.methodLink RX1 36 yX0_nextDraw ∈ BIG := big_of (i := 342) rfl rfl
set_option maxRecDepth 100000 in
theorem mi_yX0_nextDraw : Cond.instanceMethod yX0_nextDraw ∈ BIG := big_of (i := 343) rfl rfl
set_option maxRecDepth 100000 in
theorem mx_yX0_nextDraw : Cond.selects RX0 yX0_nextDraw yX0_nextDraw ∈ BIG := big_of (i := 344) rfl rfl
set_option maxRecDepth 100000 in
theorem mc_yX0_nextDraw : Cond.code yX0_nextDraw cX0_nextDraw 2 (some .int) ∈ BIG := big_of (i := 345) rfl rfl
set_option maxRecDepth 100000 in
theorem mk_X0_31 : Cond.constant RX0 31 (1103515245) ∈ BIG := big_of (i := 346) rfl rfl
set_option maxRecDepth 100000 in
theorem mk_X0_32 : Cond.constant RX0 32 (2147483647) ∈ BIG := big_of (i := 347) rfl rfl
set_option maxRecDepth 100000 in
theorem mm_X1_40 : Cond.methodLink RX1 40 yX0_arrives ∈ BIG := big_of (i := 348) rfl rfl
set_option maxRecDepth 100000 in
theorem mi_yX0_arrives : Cond.instanceMethod yX0_arrives ∈ BIG := big_of (i := 349) rfl rfl
set_option maxRecDepth 100000 in
theorem mx_yX0_arrives : Cond.selects RX0 yX0_arrives yX0_arrives ∈ BIG := big_of (i := 350) rfl rfl
set_option maxRecDepth 100000 in
theorem mc_yX0_arrives : Cond.code yX0_arrives cX0_arrives 6 (some .int) ∈ BIG := big_of (i := 351) rfl rfl
set_option maxRecDepth 100000 in
theorem mm_X0_34 : Cond.methodLink RX0 34 yX0_noiseOf ∈ BIG := big_of (i := 352) rfl rfl
set_option maxRecDepth 100000 in
theorem mi_yX0_noiseOf : Cond.instanceMethod yX0_noiseOf ∈ BIG := big_of (i := 353) rfl rfl
set_option maxRecDepth 100000 in
theorem mx_yX0_noiseOf : Cond.selects RX0 yX0_noiseOf yX0_noiseOf ∈ BIG := big_of (i := 354) rfl rfl
set_option maxRecDepth 100000 in
theorem mc_yX0_noiseOf : Cond.code yX0_noiseOf cX0_noiseOf 3 (some .int) ∈ BIG := big_of (i := 355) rfl rfl
set_option maxRecDepth 100000 in
theorem mk_X0_33 : Cond.constant RX0 33 (65536) ∈ BIG := big_of (i := 356) rfl rfl
set_option maxRecDepth 100000 in
theorem mm_X0_38 : Cond.methodLink RX0 38 yX3_frameVoice ∈ BIG := big_of (i := 357) rfl rfl
set_option maxRecDepth 100000 in
theorem mm_X0_43 : Cond.methodLink RX0 43 yJ9_min_7cf53 ∈ BIG := big_of (i := 358) rfl rfl
set_option maxRecDepth 100000 in
theorem mm_X0_49 : Cond.methodLink RX0 49 yJ9_max_7cf53 ∈ BIG := big_of (i := 359) rfl rfl
set_option maxRecDepth 100000 in
theorem ms_yJ9_max_7cf53 : Cond.static yJ9_max_7cf53 ∈ BIG := big_of (i := 360) rfl rfl
set_option maxRecDepth 100000 in
theorem mc_yJ9_max_7cf53 : Cond.code Lib.Math.max.name Lib.Math.max.code 2 (some .int) ∈ BIG := big_of (i := 361) rfl rfl
set_option maxRecDepth 100000 in
theorem mm_L_73 : Cond.methodLink RL 73 yX4_sample ∈ BIG := big_of (i := 362) rfl rfl
set_option maxRecDepth 100000 in
theorem mi_yX4_sample : Cond.instanceMethod yX4_sample ∈ BIG := big_of (i := 363) rfl rfl
set_option maxRecDepth 100000 in
theorem mx_yX4_sample : Cond.selects RX4 yX4_sample yX4_sample ∈ BIG := big_of (i := 364) rfl rfl
set_option maxRecDepth 100000 in
theorem mc_yX4_sample : Cond.code yX4_sample cX4_sample 2 (some .int) ∈ BIG := big_of (i := 365) rfl rfl
set_option maxRecDepth 100000 in
theorem mm_X4_157 : Cond.methodLink RX4 157 yX1_at ∈ BIG := big_of (i := 366) rfl rfl
set_option maxRecDepth 100000 in
theorem mi_yX1_at : Cond.instanceMethod yX1_at ∈ BIG := big_of (i := 367) rfl rfl
set_option maxRecDepth 100000 in
theorem mx_yX1_at : Cond.selects RX1 yX1_at yX1_at ∈ BIG := big_of (i := 368) rfl rfl
set_option maxRecDepth 100000 in
theorem mc_yX1_at : Cond.code yX1_at cX1_at 2 (some .int) ∈ BIG := big_of (i := 369) rfl rfl
set_option maxRecDepth 100000 in
theorem mm_L_77 : Cond.methodLink RL 77 yX4_least ∈ BIG := big_of (i := 371) rfl rfl
set_option maxRecDepth 100000 in
theorem mi_yX4_least : Cond.instanceMethod yX4_least ∈ BIG := big_of (i := 372) rfl rfl
set_option maxRecDepth 100000 in
theorem mx_yX4_least : Cond.selects RX4 yX4_least yX4_least ∈ BIG := big_of (i := 373) rfl rfl
set_option maxRecDepth 100000 in
theorem mc_yX4_least : Cond.code yX4_least cX4_least 3 (some .int) ∈ BIG := big_of (i := 374) rfl rfl
set_option maxRecDepth 100000 in
theorem mk_X4_160 : Cond.constant RX4 160 (1000000) ∈ BIG := big_of (i := 375) rfl rfl
set_option maxRecDepth 100000 in
theorem mm_L_81 : Cond.methodLink RL 81 yX4_find ∈ BIG := big_of (i := 376) rfl rfl
set_option maxRecDepth 100000 in
theorem mi_yX4_find : Cond.instanceMethod yX4_find ∈ BIG := big_of (i := 377) rfl rfl
set_option maxRecDepth 100000 in
theorem mx_yX4_find : Cond.selects RX4 yX4_find yX4_find ∈ BIG := big_of (i := 378) rfl rfl
set_option maxRecDepth 100000 in
theorem mc_yX4_find : Cond.code yX4_find cX4_find 1 (some .int) ∈ BIG := big_of (i := 379) rfl rfl
set_option maxRecDepth 100000 in
theorem mm_X4_161 : Cond.methodLink RX4 161 yX0_lastPlace ∈ BIG := big_of (i := 380) rfl rfl
set_option maxRecDepth 100000 in
theorem mi_yX0_lastPlace : Cond.instanceMethod yX0_lastPlace ∈ BIG := big_of (i := 381) rfl rfl
set_option maxRecDepth 100000 in
theorem mx_yX0_lastPlace : Cond.selects RX0 yX0_lastPlace yX0_lastPlace ∈ BIG := big_of (i := 382) rfl rfl
set_option maxRecDepth 100000 in
theorem mc_yX0_lastPlace : Cond.code yX0_lastPlace cX0_lastPlace 1 (some .int) ∈ BIG := big_of (i := 383) rfl rfl
set_option maxRecDepth 100000 in
theorem mm_X4_164 : Cond.methodLink RX4 164 yX1_locate ∈ BIG := big_of (i := 384) rfl rfl
set_option maxRecDepth 100000 in
theorem mi_yX1_locate : Cond.instanceMethod yX1_locate ∈ BIG := big_of (i := 385) rfl rfl
set_option maxRecDepth 100000 in
theorem mx_yX1_locate : Cond.selects RX1 yX1_locate yX1_locate ∈ BIG := big_of (i := 386) rfl rfl
set_option maxRecDepth 100000 in
theorem mc_yX1_locate : Cond.code yX1_locate cX1_locate 8 (some .int) ∈ BIG := big_of (i := 387) rfl rfl
set_option maxRecDepth 100000 in
theorem mm_X1_57 : Cond.methodLink RX1 57 yX1_alike ∈ BIG := big_of (i := 388) rfl rfl
set_option maxRecDepth 100000 in
theorem mi_yX1_alike : Cond.instanceMethod yX1_alike ∈ BIG := big_of (i := 389) rfl rfl
set_option maxRecDepth 100000 in
theorem mx_yX1_alike : Cond.selects RX1 yX1_alike yX1_alike ∈ BIG := big_of (i := 390) rfl rfl
set_option maxRecDepth 100000 in
theorem mc_yX1_alike : Cond.code yX1_alike cX1_alike 5 (some .int) ∈ BIG := big_of (i := 391) rfl rfl
set_option maxRecDepth 100000 in
theorem mm_X1_51 : Cond.methodLink RX1 51 yX3_sign ∈ BIG := big_of (i := 392) rfl rfl
set_option maxRecDepth 100000 in
theorem mm_X1_54 : Cond.methodLink RX1 54 yX1_at ∈ BIG := big_of (i := 393) rfl rfl
set_option maxRecDepth 100000 in
theorem mm_L_85 : Cond.methodLink RL 85 yX4_likeness ∈ BIG := big_of (i := 394) rfl rfl
set_option maxRecDepth 100000 in
theorem mi_yX4_likeness : Cond.instanceMethod yX4_likeness ∈ BIG := big_of (i := 395) rfl rfl
set_option maxRecDepth 100000 in
theorem mx_yX4_likeness : Cond.selects RX4 yX4_likeness yX4_likeness ∈ BIG := big_of (i := 396) rfl rfl
set_option maxRecDepth 100000 in
theorem mc_yX4_likeness : Cond.code yX4_likeness cX4_likeness 2 (some .int) ∈ BIG := big_of (i := 397) rfl rfl
set_option maxRecDepth 100000 in
theorem mm_X4_168 : Cond.methodLink RX4 168 yX1_alike ∈ BIG := big_of (i := 398) rfl rfl
set_option maxRecDepth 100000 in
theorem mm_L_89 : Cond.methodLink RL 89 yX4_bring ∈ BIG := big_of (i := 399) rfl rfl
set_option maxRecDepth 100000 in
theorem mi_yX4_bring : Cond.instanceMethod yX4_bring ∈ BIG := big_of (i := 400) rfl rfl
set_option maxRecDepth 100000 in
theorem mx_yX4_bring : Cond.selects RX4 yX4_bring yX4_bring ∈ BIG := big_of (i := 401) rfl rfl
set_option maxRecDepth 100000 in
theorem mc_yX4_bring : Cond.code yX4_bring cX4_bring 5 (some .long) ∈ BIG := big_of (i := 402) rfl rfl
set_option maxRecDepth 100000 in
theorem mk_X4_172 : Cond.constantLong RX4 172 (-2) ∈ BIG := big_of (i := 403) rfl rfl
set_option maxRecDepth 100000 in
theorem mk_X4_174 : Cond.constantLong RX4 174 (-3) ∈ BIG := big_of (i := 404) rfl rfl
set_option maxRecDepth 100000 in
theorem mm_X4_179 : Cond.methodLink RX4 179 yX2_follow ∈ BIG := big_of (i := 405) rfl rfl
set_option maxRecDepth 100000 in
theorem mi_yX2_follow : Cond.instanceMethod yX2_follow ∈ BIG := big_of (i := 406) rfl rfl
set_option maxRecDepth 100000 in
theorem mx_yX2_follow : Cond.selects RX2 yX2_follow yX2_follow ∈ BIG := big_of (i := 407) rfl rfl
set_option maxRecDepth 100000 in
theorem mc_yX2_follow : Cond.code yX2_follow cX2_follow 7 none ∈ BIG := big_of (i := 408) rfl rfl
set_option maxRecDepth 100000 in
theorem mm_X2_41 : Cond.methodLink RX2 41 yX2_begin ∈ BIG := big_of (i := 409) rfl rfl
set_option maxRecDepth 100000 in
theorem mi_yX2_begin : Cond.instanceMethod yX2_begin ∈ BIG := big_of (i := 411) rfl rfl
set_option maxRecDepth 100000 in
theorem mc_yX2_begin : Cond.code yX2_begin cX2_begin 2 none ∈ BIG := big_of (i := 412) rfl rfl
set_option maxRecDepth 100000 in
theorem mk_X2_74 : Cond.constantLong RX2 74 (1152921504606846976) ∈ BIG := big_of (i := 413) rfl rfl
set_option maxRecDepth 100000 in
theorem mm_X2_50 : Cond.methodLink RX2 50 yX3_steps ∈ BIG := big_of (i := 414) rfl rfl
set_option maxRecDepth 100000 in
theorem mm_X2_54 : Cond.methodLink RX2 54 yX2_tabulate ∈ BIG := big_of (i := 415) rfl rfl
set_option maxRecDepth 100000 in
theorem mi_yX2_tabulate : Cond.instanceMethod yX2_tabulate ∈ BIG := big_of (i := 417) rfl rfl
set_option maxRecDepth 100000 in
theorem mc_yX2_tabulate : Cond.code yX2_tabulate cX2_tabulate 4 none ∈ BIG := big_of (i := 418) rfl rfl
set_option maxRecDepth 100000 in
theorem mm_X2_76 : Cond.methodLink RX2 76 yX2_dueSample ∈ BIG := big_of (i := 419) rfl rfl
set_option maxRecDepth 100000 in
theorem mi_yX2_dueSample : Cond.instanceMethod yX2_dueSample ∈ BIG := big_of (i := 421) rfl rfl
set_option maxRecDepth 100000 in
theorem mc_yX2_dueSample : Cond.code yX2_dueSample cX2_dueSample 9 (some .int) ∈ BIG := big_of (i := 422) rfl rfl
set_option maxRecDepth 100000 in
theorem mm_X2_80 : Cond.methodLink RX2 80 yX3_sign ∈ BIG := big_of (i := 423) rfl rfl
set_option maxRecDepth 100000 in
theorem mm_X2_86 : Cond.methodLink RX2 86 yX3_codeVoice ∈ BIG := big_of (i := 424) rfl rfl
set_option maxRecDepth 100000 in
theorem mm_X2_58 : Cond.methodLink RX2 58 yX1_at ∈ BIG := big_of (i := 425) rfl rfl
set_option maxRecDepth 100000 in
theorem mm_X2_67 : Cond.methodLink RX2 67 yX2_goOn ∈ BIG := big_of (i := 426) rfl rfl
set_option maxRecDepth 100000 in
theorem mi_yX2_goOn : Cond.instanceMethod yX2_goOn ∈ BIG := big_of (i := 428) rfl rfl
set_option maxRecDepth 100000 in
theorem mc_yX2_goOn : Cond.code yX2_goOn cX2_goOn 13 none ∈ BIG := big_of (i := 429) rfl rfl
set_option maxRecDepth 100000 in
theorem mk_X2_90 : Cond.constantLong RX2 90 (2) ∈ BIG := big_of (i := 430) rfl rfl
set_option maxRecDepth 100000 in
theorem mm_X2_92 : Cond.methodLink RX2 92 yX2_offer ∈ BIG := big_of (i := 431) rfl rfl
set_option maxRecDepth 100000 in
theorem mi_yX2_offer : Cond.instanceMethod yX2_offer ∈ BIG := big_of (i := 433) rfl rfl
set_option maxRecDepth 100000 in
theorem mc_yX2_offer : Cond.code yX2_offer cX2_offer 6 none ∈ BIG := big_of (i := 434) rfl rfl
set_option maxRecDepth 100000 in
theorem mm_X2_96 : Cond.methodLink RX2 96 arraycopyName ∈ BIG := big_of (i := 436) rfl rfl
set_option maxRecDepth 100000 in
theorem ms_arraycopyName : Cond.static arraycopyName ∈ BIG := big_of (i := 437) rfl rfl
set_option maxRecDepth 100000 in
theorem mv_arraycopyName : Cond.native arraycopyName ∈ BIG := big_of (i := 438) rfl rfl
set_option maxRecDepth 100000 in
theorem mm_X2_71 : Cond.methodLink RX2 71 yX2_settle ∈ BIG := big_of (i := 439) rfl rfl
set_option maxRecDepth 100000 in
theorem mi_yX2_settle : Cond.instanceMethod yX2_settle ∈ BIG := big_of (i := 441) rfl rfl
set_option maxRecDepth 100000 in
theorem mc_yX2_settle : Cond.code yX2_settle cX2_settle 2 none ∈ BIG := big_of (i := 442) rfl rfl
set_option maxRecDepth 100000 in
theorem mm_X4_189 : Cond.methodLink RX4 189 yX4_unmix ∈ BIG := big_of (i := 443) rfl rfl
set_option maxRecDepth 100000 in
theorem ms_yX4_unmix : Cond.static yX4_unmix ∈ BIG := big_of (i := 444) rfl rfl
set_option maxRecDepth 100000 in
theorem mc_yX4_unmix : Cond.code yX4_unmix cX4_unmix 9 (some .long) ∈ BIG := big_of (i := 445) rfl rfl
set_option maxRecDepth 100000 in
theorem mm_L_94 : Cond.methodLink RL 94 yX4_brought ∈ BIG := big_of (i := 446) rfl rfl
set_option maxRecDepth 100000 in
theorem mi_yX4_brought : Cond.instanceMethod yX4_brought ∈ BIG := big_of (i := 447) rfl rfl
set_option maxRecDepth 100000 in
theorem mx_yX4_brought : Cond.selects RX4 yX4_brought yX4_brought ∈ BIG := big_of (i := 448) rfl rfl
set_option maxRecDepth 100000 in
theorem mc_yX4_brought : Cond.code yX4_brought cX4_brought 3 (some .int) ∈ BIG := big_of (i := 449) rfl rfl
set_option maxRecDepth 100000 in
theorem mm_L_98 : Cond.methodLink RL 98 yX4_errors ∈ BIG := big_of (i := 450) rfl rfl
set_option maxRecDepth 100000 in
theorem mi_yX4_errors : Cond.instanceMethod yX4_errors ∈ BIG := big_of (i := 451) rfl rfl
set_option maxRecDepth 100000 in
theorem mx_yX4_errors : Cond.selects RX4 yX4_errors yX4_errors ∈ BIG := big_of (i := 452) rfl rfl
set_option maxRecDepth 100000 in
theorem mc_yX4_errors : Cond.code yX4_errors cX4_errors 1 (some .int) ∈ BIG := big_of (i := 453) rfl rfl
set_option maxRecDepth 100000 in
theorem mm_X4_196 : Cond.methodLink RX4 196 yX4_differences ∈ BIG := big_of (i := 454) rfl rfl
set_option maxRecDepth 100000 in
theorem ms_yX4_differences : Cond.static yX4_differences ∈ BIG := big_of (i := 455) rfl rfl
set_option maxRecDepth 100000 in
theorem mc_yX4_differences : Cond.code yX4_differences cX4_differences 4 (some .int) ∈ BIG := big_of (i := 456) rfl rfl
set_option maxRecDepth 100000 in
theorem mm_L_102 : Cond.methodLink RL 102 yX4_sweep ∈ BIG := big_of (i := 457) rfl rfl
set_option maxRecDepth 100000 in
theorem mi_yX4_sweep : Cond.instanceMethod yX4_sweep ∈ BIG := big_of (i := 458) rfl rfl
set_option maxRecDepth 100000 in
theorem mx_yX4_sweep : Cond.selects RX4 yX4_sweep yX4_sweep ∈ BIG := big_of (i := 459) rfl rfl
set_option maxRecDepth 100000 in
theorem mc_yX4_sweep : Cond.code yX4_sweep cX4_sweep 4 (some .int) ∈ BIG := big_of (i := 460) rfl rfl
set_option maxRecDepth 100000 in
theorem mm_X4_200 : Cond.methodLink RX4 200 yX4_errorsOfSending ∈ BIG := big_of (i := 461) rfl rfl
set_option maxRecDepth 100000 in
theorem mi_yX4_errorsOfSending : Cond.instanceMethod yX4_errorsOfSending ∈ BIG := big_of (i := 463) rfl rfl
set_option maxRecDepth 100000 in
theorem mc_yX4_errorsOfSending : Cond.code yX4_errorsOfSending cX4_errorsOfSending 3 (some .int) ∈ BIG := big_of (i := 464) rfl rfl
set_option maxRecDepth 100000 in
theorem mm_X4_203 : Cond.methodLink RX4 203 arraycopyName ∈ BIG := big_of (i := 465) rfl rfl
set_option maxRecDepth 100000 in
theorem mm_L_106 : Cond.methodLink RL 106 yX4_whole ∈ BIG := big_of (i := 466) rfl rfl
set_option maxRecDepth 100000 in
theorem mi_yX4_whole : Cond.instanceMethod yX4_whole ∈ BIG := big_of (i := 467) rfl rfl
set_option maxRecDepth 100000 in
theorem mx_yX4_whole : Cond.selects RX4 yX4_whole yX4_whole ∈ BIG := big_of (i := 468) rfl rfl
set_option maxRecDepth 100000 in
theorem mc_yX4_whole : Cond.code yX4_whole cX4_whole 3 (some .int) ∈ BIG := big_of (i := 469) rfl rfl
set_option maxRecDepth 100000 in
theorem mm_L_110 : Cond.methodLink RL 110 yX4_count ∈ BIG := big_of (i := 470) rfl rfl
set_option maxRecDepth 100000 in
theorem mi_yX4_count : Cond.instanceMethod yX4_count ∈ BIG := big_of (i := 471) rfl rfl
set_option maxRecDepth 100000 in
theorem mx_yX4_count : Cond.selects RX4 yX4_count yX4_count ∈ BIG := big_of (i := 472) rfl rfl
set_option maxRecDepth 100000 in
theorem mc_yX4_count : Cond.code yX4_count cX4_count 2 (some .int) ∈ BIG := big_of (i := 473) rfl rfl
set_option maxRecDepth 100000 in
theorem mo_L_10 : Cond.classLink RL 10 RX5 ∈ BIG := big_of (i := 474) rfl rfl
set_option maxRecDepth 100000 in
theorem mb_X5 : Cond.instantiable RX5 28 ∈ BIG := big_of (i := 475) rfl rfl
set_option maxRecDepth 100000 in
theorem mm_L_12 : Cond.methodLink RL 12 yX5_init ∈ BIG := big_of (i := 476) rfl rfl
set_option maxRecDepth 100000 in
theorem mi_yX5_init : Cond.instanceMethod yX5_init ∈ BIG := big_of (i := 477) rfl rfl
set_option maxRecDepth 100000 in
theorem mc_yX5_init : Cond.code yX5_init cX5_init 1 none ∈ BIG := big_of (i := 478) rfl rfl
set_option maxRecDepth 100000 in
theorem mm_X5_1 : Cond.methodLink RX5 1 objectInit ∈ BIG := big_of (i := 479) rfl rfl
set_option maxRecDepth 100000 in
theorem mf_X5_83 : Cond.fieldLink RX5 83 "NoiseBenchModel" "bits" "I" ∈ BIG := big_of (i := 480) rfl rfl
set_option maxRecDepth 100000 in
theorem mf_X5_7 : Cond.fieldLink RX5 7 "NoiseBenchModel" "message" "[I" ∈ BIG := big_of (i := 481) rfl rfl
set_option maxRecDepth 100000 in
theorem mf_X5_90 : Cond.fieldLink RX5 90 "NoiseBenchModel" "mask" "I" ∈ BIG := big_of (i := 482) rfl rfl
set_option maxRecDepth 100000 in
theorem mf_X5_13 : Cond.fieldLink RX5 13 "NoiseBenchModel" "g" "I" ∈ BIG := big_of (i := 483) rfl rfl
set_option maxRecDepth 100000 in
theorem mf_X5_17 : Cond.fieldLink RX5 17 "NoiseBenchModel" "h" "I" ∈ BIG := big_of (i := 484) rfl rfl
set_option maxRecDepth 100000 in
theorem mf_X5_20 : Cond.fieldLink RX5 20 "NoiseBenchModel" "amp" "I" ∈ BIG := big_of (i := 485) rfl rfl
set_option maxRecDepth 100000 in
theorem mf_X5_23 : Cond.fieldLink RX5 23 "NoiseBenchModel" "callSize" "I" ∈ BIG := big_of (i := 486) rfl rfl
set_option maxRecDepth 100000 in
theorem mf_X5_26 : Cond.fieldLink RX5 26 "NoiseBenchModel" "callSigns" "I" ∈ BIG := big_of (i := 487) rfl rfl
set_option maxRecDepth 100000 in
theorem mf_X5_29 : Cond.fieldLink RX5 29 "NoiseBenchModel" "tap" "[I" ∈ BIG := big_of (i := 488) rfl rfl
set_option maxRecDepth 100000 in
theorem mf_X5_97 : Cond.fieldLink RX5 97 "NoiseBenchModel" "delay" "I" ∈ BIG := big_of (i := 489) rfl rfl
set_option maxRecDepth 100000 in
theorem mf_X5_100 : Cond.fieldLink RX5 100 "NoiseBenchModel" "noise" "I" ∈ BIG := big_of (i := 490) rfl rfl
set_option maxRecDepth 100000 in
theorem mf_X5_32 : Cond.fieldLink RX5 32 "NoiseBenchModel" "seed" "I" ∈ BIG := big_of (i := 491) rfl rfl
set_option maxRecDepth 100000 in
theorem mf_X5_103 : Cond.fieldLink RX5 103 "NoiseBenchModel" "lostFrom" "I" ∈ BIG := big_of (i := 492) rfl rfl
set_option maxRecDepth 100000 in
theorem mf_X5_106 : Cond.fieldLink RX5 106 "NoiseBenchModel" "lostMany" "I" ∈ BIG := big_of (i := 493) rfl rfl
set_option maxRecDepth 100000 in
theorem mf_X5_35 : Cond.fieldLink RX5 35 "NoiseBenchModel" "low" "I" ∈ BIG := big_of (i := 494) rfl rfl
set_option maxRecDepth 100000 in
theorem mf_X5_72 : Cond.fieldLink RX5 72 "NoiseBenchModel" "isHeard" "Z" ∈ BIG := big_of (i := 495) rfl rfl
set_option maxRecDepth 100000 in
theorem mf_X5_38 : Cond.fieldLink RX5 38 "NoiseBenchModel" "found" "I" ∈ BIG := big_of (i := 496) rfl rfl
set_option maxRecDepth 100000 in
theorem mf_X5_76 : Cond.fieldLink RX5 76 "NoiseBenchModel" "isBrought" "Z" ∈ BIG := big_of (i := 497) rfl rfl
set_option maxRecDepth 100000 in
theorem mf_X5_41 : Cond.fieldLink RX5 41 "NoiseBenchModel" "heard" "[I" ∈ BIG := big_of (i := 498) rfl rfl
set_option maxRecDepth 100000 in
theorem mf_X5_44 : Cond.fieldLink RX5 44 "NoiseBenchModel" "got" "[I" ∈ BIG := big_of (i := 499) rfl rfl
set_option maxRecDepth 100000 in
theorem mf_X5_47 : Cond.fieldLink RX5 47 "NoiseBenchModel" "back" "[I" ∈ BIG := big_of (i := 500) rfl rfl
set_option maxRecDepth 100000 in
theorem mf_X5_50 : Cond.fieldLink RX5 50 "NoiseBenchModel" "mixed" "[I" ∈ BIG := big_of (i := 501) rfl rfl
set_option maxRecDepth 100000 in
theorem mf_X5_53 : Cond.fieldLink RX5 53 "NoiseBenchModel" "voices" "[I" ∈ BIG := big_of (i := 502) rfl rfl
set_option maxRecDepth 100000 in
theorem mf_X5_56 : Cond.fieldLink RX5 56 "NoiseBenchModel" "samples" "[I" ∈ BIG := big_of (i := 503) rfl rfl
set_option maxRecDepth 100000 in
theorem mf_X5_59 : Cond.fieldLink RX5 59 "NoiseBenchModel" "costs" "[J" ∈ BIG := big_of (i := 504) rfl rfl
set_option maxRecDepth 100000 in
theorem mf_X5_63 : Cond.fieldLink RX5 63 "NoiseBenchModel" "guess" "[I" ∈ BIG := big_of (i := 505) rfl rfl
set_option maxRecDepth 100000 in
theorem mf_X5_66 : Cond.fieldLink RX5 66 "NoiseBenchModel" "keptGot" "[I" ∈ BIG := big_of (i := 506) rfl rfl
set_option maxRecDepth 100000 in
theorem mf_X5_69 : Cond.fieldLink RX5 69 "NoiseBenchModel" "keptBack" "[I" ∈ BIG := big_of (i := 507) rfl rfl
set_option maxRecDepth 100000 in
theorem mm_L_19 : Cond.methodLink RL 19 yX5_bits ∈ BIG := big_of (i := 565) rfl rfl
set_option maxRecDepth 100000 in
theorem mi_yX5_bits : Cond.instanceMethod yX5_bits ∈ BIG := big_of (i := 566) rfl rfl
set_option maxRecDepth 100000 in
theorem mx_yX5_bits : Cond.selects RX5 yX5_bits yX5_bits ∈ BIG := big_of (i := 567) rfl rfl
set_option maxRecDepth 100000 in
theorem mc_yX5_bits : Cond.code yX5_bits cX5_bits 5 (some .int) ∈ BIG := big_of (i := 568) rfl rfl
set_option maxRecDepth 100000 in
theorem mm_X5_79 : Cond.methodLink RX5 79 yX5_in ∈ BIG := big_of (i := 569) rfl rfl
set_option maxRecDepth 100000 in
theorem ms_yX5_in : Cond.static yX5_in ∈ BIG := big_of (i := 570) rfl rfl
set_option maxRecDepth 100000 in
theorem mc_yX5_in : Cond.code yX5_in cX5_in 3 (some .boolean) ∈ BIG := big_of (i := 571) rfl rfl
set_option maxRecDepth 100000 in
theorem mm_X5_86 : Cond.methodLink RX5 86 yX5_ended ∈ BIG := big_of (i := 572) rfl rfl
set_option maxRecDepth 100000 in
theorem mi_yX5_ended : Cond.instanceMethod yX5_ended ∈ BIG := big_of (i := 574) rfl rfl
set_option maxRecDepth 100000 in
theorem mc_yX5_ended : Cond.code yX5_ended cX5_ended 1 (some .int) ∈ BIG := big_of (i := 575) rfl rfl
set_option maxRecDepth 100000 in
theorem mm_L_24 : Cond.methodLink RL 24 yX5_clear ∈ BIG := big_of (i := 576) rfl rfl
set_option maxRecDepth 100000 in
theorem mi_yX5_clear : Cond.instanceMethod yX5_clear ∈ BIG := big_of (i := 577) rfl rfl
set_option maxRecDepth 100000 in
theorem mx_yX5_clear : Cond.selects RX5 yX5_clear yX5_clear ∈ BIG := big_of (i := 578) rfl rfl
set_option maxRecDepth 100000 in
theorem mc_yX5_clear : Cond.code yX5_clear cX5_clear 2 (some .int) ∈ BIG := big_of (i := 579) rfl rfl
set_option maxRecDepth 100000 in
theorem mm_L_29 : Cond.methodLink RL 29 yX5_bit ∈ BIG := big_of (i := 580) rfl rfl
set_option maxRecDepth 100000 in
theorem mi_yX5_bit : Cond.instanceMethod yX5_bit ∈ BIG := big_of (i := 581) rfl rfl
set_option maxRecDepth 100000 in
theorem mx_yX5_bit : Cond.selects RX5 yX5_bit yX5_bit ∈ BIG := big_of (i := 582) rfl rfl
set_option maxRecDepth 100000 in
theorem mc_yX5_bit : Cond.code yX5_bit cX5_bit 2 (some .int) ∈ BIG := big_of (i := 583) rfl rfl
set_option maxRecDepth 100000 in
theorem mm_L_33 : Cond.methodLink RL 33 yX5_mask ∈ BIG := big_of (i := 584) rfl rfl
set_option maxRecDepth 100000 in
theorem mi_yX5_mask : Cond.instanceMethod yX5_mask ∈ BIG := big_of (i := 585) rfl rfl
set_option maxRecDepth 100000 in
theorem mx_yX5_mask : Cond.selects RX5 yX5_mask yX5_mask ∈ BIG := big_of (i := 586) rfl rfl
set_option maxRecDepth 100000 in
theorem mc_yX5_mask : Cond.code yX5_mask cX5_mask 2 (some .int) ∈ BIG := big_of (i := 587) rfl rfl
set_option maxRecDepth 100000 in
theorem mm_L_38 : Cond.methodLink RL 38 yX5_code ∈ BIG := big_of (i := 588) rfl rfl
set_option maxRecDepth 100000 in
theorem mi_yX5_code : Cond.instanceMethod yX5_code ∈ BIG := big_of (i := 589) rfl rfl
set_option maxRecDepth 100000 in
theorem mx_yX5_code : Cond.selects RX5 yX5_code yX5_code ∈ BIG := big_of (i := 590) rfl rfl
set_option maxRecDepth 100000 in
theorem mc_yX5_code : Cond.code yX5_code cX5_code 3 (some .int) ∈ BIG := big_of (i := 591) rfl rfl
set_option maxRecDepth 100000 in
theorem mm_L_42 : Cond.methodLink RL 42 yX5_amp ∈ BIG := big_of (i := 592) rfl rfl
set_option maxRecDepth 100000 in
theorem mi_yX5_amp : Cond.instanceMethod yX5_amp ∈ BIG := big_of (i := 593) rfl rfl
set_option maxRecDepth 100000 in
theorem mx_yX5_amp : Cond.selects RX5 yX5_amp yX5_amp ∈ BIG := big_of (i := 594) rfl rfl
set_option maxRecDepth 100000 in
theorem mc_yX5_amp : Cond.code yX5_amp cX5_amp 2 (some .int) ∈ BIG := big_of (i := 595) rfl rfl
set_option maxRecDepth 100000 in
theorem mm_L_46 : Cond.methodLink RL 46 yX5_call ∈ BIG := big_of (i := 596) rfl rfl
set_option maxRecDepth 100000 in
theorem mi_yX5_call : Cond.instanceMethod yX5_call ∈ BIG := big_of (i := 597) rfl rfl
set_option maxRecDepth 100000 in
theorem mx_yX5_call : Cond.selects RX5 yX5_call yX5_call ∈ BIG := big_of (i := 598) rfl rfl
set_option maxRecDepth 100000 in
theorem mc_yX5_call : Cond.code yX5_call cX5_call 3 (some .int) ∈ BIG := big_of (i := 599) rfl rfl
set_option maxRecDepth 100000 in
theorem mm_L_51 : Cond.methodLink RL 51 yX5_taps ∈ BIG := big_of (i := 600) rfl rfl
set_option maxRecDepth 100000 in
theorem mi_yX5_taps : Cond.instanceMethod yX5_taps ∈ BIG := big_of (i := 601) rfl rfl
set_option maxRecDepth 100000 in
theorem mx_yX5_taps : Cond.selects RX5 yX5_taps yX5_taps ∈ BIG := big_of (i := 602) rfl rfl
set_option maxRecDepth 100000 in
theorem mc_yX5_taps : Cond.code yX5_taps cX5_taps 5 (some .int) ∈ BIG := big_of (i := 603) rfl rfl
set_option maxRecDepth 100000 in
theorem mm_X5_93 : Cond.methodLink RX5 93 yX5_areTaps ∈ BIG := big_of (i := 604) rfl rfl
set_option maxRecDepth 100000 in
theorem ms_yX5_areTaps : Cond.static yX5_areTaps ∈ BIG := big_of (i := 605) rfl rfl
set_option maxRecDepth 100000 in
theorem mc_yX5_areTaps : Cond.code yX5_areTaps cX5_areTaps 4 (some .boolean) ∈ BIG := big_of (i := 606) rfl rfl
set_option maxRecDepth 100000 in
theorem mm_L_56 : Cond.methodLink RL 56 yX5_air ∈ BIG := big_of (i := 607) rfl rfl
set_option maxRecDepth 100000 in
theorem mi_yX5_air : Cond.instanceMethod yX5_air ∈ BIG := big_of (i := 608) rfl rfl
set_option maxRecDepth 100000 in
theorem mx_yX5_air : Cond.selects RX5 yX5_air yX5_air ∈ BIG := big_of (i := 609) rfl rfl
set_option maxRecDepth 100000 in
theorem mc_yX5_air : Cond.code yX5_air cX5_air 4 (some .int) ∈ BIG := big_of (i := 610) rfl rfl
set_option maxRecDepth 100000 in
theorem mm_L_60 : Cond.methodLink RL 60 yX5_lose ∈ BIG := big_of (i := 611) rfl rfl
set_option maxRecDepth 100000 in
theorem mi_yX5_lose : Cond.instanceMethod yX5_lose ∈ BIG := big_of (i := 612) rfl rfl
set_option maxRecDepth 100000 in
theorem mx_yX5_lose : Cond.selects RX5 yX5_lose yX5_lose ∈ BIG := big_of (i := 613) rfl rfl
set_option maxRecDepth 100000 in
theorem mc_yX5_lose : Cond.code yX5_lose cX5_lose 3 (some .int) ∈ BIG := big_of (i := 614) rfl rfl
set_option maxRecDepth 100000 in
theorem mm_L_64 : Cond.methodLink RL 64 yX5_scrambled ∈ BIG := big_of (i := 615) rfl rfl
set_option maxRecDepth 100000 in
theorem mi_yX5_scrambled : Cond.instanceMethod yX5_scrambled ∈ BIG := big_of (i := 616) rfl rfl
set_option maxRecDepth 100000 in
theorem mx_yX5_scrambled : Cond.selects RX5 yX5_scrambled yX5_scrambled ∈ BIG := big_of (i := 617) rfl rfl
set_option maxRecDepth 100000 in
theorem mc_yX5_scrambled : Cond.code yX5_scrambled cX5_scrambled 2 (some .int) ∈ BIG := big_of (i := 618) rfl rfl
set_option maxRecDepth 100000 in
theorem mm_X5_113 : Cond.methodLink RX5 113 yX5_mix ∈ BIG := big_of (i := 619) rfl rfl
set_option maxRecDepth 100000 in
theorem mi_yX5_mix : Cond.instanceMethod yX5_mix ∈ BIG := big_of (i := 621) rfl rfl
set_option maxRecDepth 100000 in
theorem mc_yX5_mix : Cond.code yX5_mix cX5_mix 3 none ∈ BIG := big_of (i := 622) rfl rfl
set_option maxRecDepth 100000 in
theorem mm_X5_109 : Cond.methodLink RX5 109 yX5_odd ∈ BIG := big_of (i := 623) rfl rfl
set_option maxRecDepth 100000 in
theorem ms_yX5_odd : Cond.static yX5_odd ∈ BIG := big_of (i := 624) rfl rfl
set_option maxRecDepth 100000 in
theorem mc_yX5_odd : Cond.code yX5_odd cX5_odd 3 (some .int) ∈ BIG := big_of (i := 625) rfl rfl
set_option maxRecDepth 100000 in
theorem mm_L_68 : Cond.methodLink RL 68 yX5_voice ∈ BIG := big_of (i := 626) rfl rfl
set_option maxRecDepth 100000 in
theorem mi_yX5_voice : Cond.instanceMethod yX5_voice ∈ BIG := big_of (i := 627) rfl rfl
set_option maxRecDepth 100000 in
theorem mx_yX5_voice : Cond.selects RX5 yX5_voice yX5_voice ∈ BIG := big_of (i := 628) rfl rfl
set_option maxRecDepth 100000 in
theorem mc_yX5_voice : Cond.code yX5_voice cX5_voice 2 (some .int) ∈ BIG := big_of (i := 629) rfl rfl
set_option maxRecDepth 100000 in
theorem mm_X5_119 : Cond.methodLink RX5 119 yX5_frameSize ∈ BIG := big_of (i := 630) rfl rfl
set_option maxRecDepth 100000 in
theorem mi_yX5_frameSize : Cond.instanceMethod yX5_frameSize ∈ BIG := big_of (i := 632) rfl rfl
set_option maxRecDepth 100000 in
theorem mc_yX5_frameSize : Cond.code yX5_frameSize cX5_frameSize 1 (some .int) ∈ BIG := big_of (i := 633) rfl rfl
set_option maxRecDepth 100000 in
theorem mk_X5_122 : Cond.constant RX5 122 (-2147483648) ∈ BIG := big_of (i := 634) rfl rfl
set_option maxRecDepth 100000 in
theorem mm_X5_123 : Cond.methodLink RX5 123 yX5_layFrame ∈ BIG := big_of (i := 635) rfl rfl
set_option maxRecDepth 100000 in
theorem mi_yX5_layFrame : Cond.instanceMethod yX5_layFrame ∈ BIG := big_of (i := 637) rfl rfl
set_option maxRecDepth 100000 in
theorem mc_yX5_layFrame : Cond.code yX5_layFrame cX5_layFrame 3 none ∈ BIG := big_of (i := 638) rfl rfl
set_option maxRecDepth 100000 in
theorem mm_X5_116 : Cond.methodLink RX5 116 yX5_sign ∈ BIG := big_of (i := 639) rfl rfl
set_option maxRecDepth 100000 in
theorem mi_yX5_sign : Cond.instanceMethod yX5_sign ∈ BIG := big_of (i := 641) rfl rfl
set_option maxRecDepth 100000 in
theorem mc_yX5_sign : Cond.code yX5_sign cX5_sign 2 (some .int) ∈ BIG := big_of (i := 642) rfl rfl
set_option maxRecDepth 100000 in
theorem mm_L_72 : Cond.methodLink RL 72 yX5_hear ∈ BIG := big_of (i := 643) rfl rfl
set_option maxRecDepth 100000 in
theorem mi_yX5_hear : Cond.instanceMethod yX5_hear ∈ BIG := big_of (i := 644) rfl rfl
set_option maxRecDepth 100000 in
theorem mx_yX5_hear : Cond.selects RX5 yX5_hear yX5_hear ∈ BIG := big_of (i := 645) rfl rfl
set_option maxRecDepth 100000 in
theorem mc_yX5_hear : Cond.code yX5_hear cX5_hear 2 (some .int) ∈ BIG := big_of (i := 646) rfl rfl
set_option maxRecDepth 100000 in
theorem mm_X5_132 : Cond.methodLink RX5 132 yX5_listen ∈ BIG := big_of (i := 647) rfl rfl
set_option maxRecDepth 100000 in
theorem mi_yX5_listen : Cond.instanceMethod yX5_listen ∈ BIG := big_of (i := 649) rfl rfl
set_option maxRecDepth 100000 in
theorem mc_yX5_listen : Cond.code yX5_listen cX5_listen 7 none ∈ BIG := big_of (i := 650) rfl rfl
set_option maxRecDepth 100000 in
theorem mm_X5_126 : Cond.methodLink RX5 126 yX5_sampleMany ∈ BIG := big_of (i := 651) rfl rfl
set_option maxRecDepth 100000 in
theorem mi_yX5_sampleMany : Cond.instanceMethod yX5_sampleMany ∈ BIG := big_of (i := 653) rfl rfl
set_option maxRecDepth 100000 in
theorem mc_yX5_sampleMany : Cond.code yX5_sampleMany cX5_sampleMany 1 (some .int) ∈ BIG := big_of (i := 654) rfl rfl
set_option maxRecDepth 100000 in
theorem mk_X5_129 : Cond.constant RX5 129 (1103515245) ∈ BIG := big_of (i := 655) rfl rfl
set_option maxRecDepth 100000 in
theorem mk_X5_130 : Cond.constant RX5 130 (2147483647) ∈ BIG := big_of (i := 656) rfl rfl
set_option maxRecDepth 100000 in
theorem mk_X5_131 : Cond.constant RX5 131 (65536) ∈ BIG := big_of (i := 657) rfl rfl
set_option maxRecDepth 100000 in
theorem mm_L_76 : Cond.methodLink RL 76 yX5_sample ∈ BIG := big_of (i := 658) rfl rfl
set_option maxRecDepth 100000 in
theorem mi_yX5_sample : Cond.instanceMethod yX5_sample ∈ BIG := big_of (i := 659) rfl rfl
set_option maxRecDepth 100000 in
theorem mx_yX5_sample : Cond.selects RX5 yX5_sample yX5_sample ∈ BIG := big_of (i := 660) rfl rfl
set_option maxRecDepth 100000 in
theorem mc_yX5_sample : Cond.code yX5_sample cX5_sample 2 (some .int) ∈ BIG := big_of (i := 661) rfl rfl
set_option maxRecDepth 100000 in
theorem mm_L_80 : Cond.methodLink RL 80 yX5_least ∈ BIG := big_of (i := 662) rfl rfl
set_option maxRecDepth 100000 in
theorem mi_yX5_least : Cond.instanceMethod yX5_least ∈ BIG := big_of (i := 663) rfl rfl
set_option maxRecDepth 100000 in
theorem mx_yX5_least : Cond.selects RX5 yX5_least yX5_least ∈ BIG := big_of (i := 664) rfl rfl
set_option maxRecDepth 100000 in
theorem mc_yX5_least : Cond.code yX5_least cX5_least 3 (some .int) ∈ BIG := big_of (i := 665) rfl rfl
set_option maxRecDepth 100000 in
theorem mk_X5_136 : Cond.constant RX5 136 (1000000) ∈ BIG := big_of (i := 666) rfl rfl
set_option maxRecDepth 100000 in
theorem mm_L_84 : Cond.methodLink RL 84 yX5_find ∈ BIG := big_of (i := 667) rfl rfl
set_option maxRecDepth 100000 in
theorem mi_yX5_find : Cond.instanceMethod yX5_find ∈ BIG := big_of (i := 668) rfl rfl
set_option maxRecDepth 100000 in
theorem mx_yX5_find : Cond.selects RX5 yX5_find yX5_find ∈ BIG := big_of (i := 669) rfl rfl
set_option maxRecDepth 100000 in
theorem mc_yX5_find : Cond.code yX5_find cX5_find 1 (some .int) ∈ BIG := big_of (i := 670) rfl rfl
set_option maxRecDepth 100000 in
theorem mm_X5_141 : Cond.methodLink RX5 141 yX5_placeIn ∈ BIG := big_of (i := 671) rfl rfl
set_option maxRecDepth 100000 in
theorem mi_yX5_placeIn : Cond.instanceMethod yX5_placeIn ∈ BIG := big_of (i := 673) rfl rfl
set_option maxRecDepth 100000 in
theorem mc_yX5_placeIn : Cond.code yX5_placeIn cX5_placeIn 6 (some .int) ∈ BIG := big_of (i := 674) rfl rfl
set_option maxRecDepth 100000 in
theorem mm_X5_137 : Cond.methodLink RX5 137 yX5_likenessOf ∈ BIG := big_of (i := 675) rfl rfl
set_option maxRecDepth 100000 in
theorem ms_yX5_likenessOf : Cond.static yX5_likenessOf ∈ BIG := big_of (i := 676) rfl rfl
set_option maxRecDepth 100000 in
theorem mc_yX5_likenessOf : Cond.code yX5_likenessOf cX5_likenessOf 6 (some .int) ∈ BIG := big_of (i := 677) rfl rfl
set_option maxRecDepth 100000 in
theorem mm_L_88 : Cond.methodLink RL 88 yX5_likeness ∈ BIG := big_of (i := 678) rfl rfl
set_option maxRecDepth 100000 in
theorem mi_yX5_likeness : Cond.instanceMethod yX5_likeness ∈ BIG := big_of (i := 679) rfl rfl
set_option maxRecDepth 100000 in
theorem mx_yX5_likeness : Cond.selects RX5 yX5_likeness yX5_likeness ∈ BIG := big_of (i := 680) rfl rfl
set_option maxRecDepth 100000 in
theorem mc_yX5_likeness : Cond.code yX5_likeness cX5_likeness 2 (some .int) ∈ BIG := big_of (i := 681) rfl rfl
set_option maxRecDepth 100000 in
theorem mm_L_93 : Cond.methodLink RL 93 yX5_bring ∈ BIG := big_of (i := 682) rfl rfl
set_option maxRecDepth 100000 in
theorem mi_yX5_bring : Cond.instanceMethod yX5_bring ∈ BIG := big_of (i := 683) rfl rfl
set_option maxRecDepth 100000 in
theorem mx_yX5_bring : Cond.selects RX5 yX5_bring yX5_bring ∈ BIG := big_of (i := 684) rfl rfl
set_option maxRecDepth 100000 in
theorem mc_yX5_bring : Cond.code yX5_bring cX5_bring 5 (some .long) ∈ BIG := big_of (i := 685) rfl rfl
set_option maxRecDepth 100000 in
theorem mk_X5_157 : Cond.constantLong RX5 157 (-2) ∈ BIG := big_of (i := 686) rfl rfl
set_option maxRecDepth 100000 in
theorem mk_X5_159 : Cond.constantLong RX5 159 (-3) ∈ BIG := big_of (i := 687) rfl rfl
set_option maxRecDepth 100000 in
theorem mm_X5_161 : Cond.methodLink RX5 161 yX5_bringFrom ∈ BIG := big_of (i := 688) rfl rfl
set_option maxRecDepth 100000 in
theorem mi_yX5_bringFrom : Cond.instanceMethod yX5_bringFrom ∈ BIG := big_of (i := 690) rfl rfl
set_option maxRecDepth 100000 in
theorem mc_yX5_bringFrom : Cond.code yX5_bringFrom cX5_bringFrom 10 (some .long) ∈ BIG := big_of (i := 691) rfl rfl
set_option maxRecDepth 100000 in
theorem mm_X5_153 : Cond.methodLink RX5 153 yX5_by ∈ BIG := big_of (i := 692) rfl rfl
set_option maxRecDepth 100000 in
theorem mi_yX5_by : Cond.instanceMethod yX5_by ∈ BIG := big_of (i := 694) rfl rfl
set_option maxRecDepth 100000 in
theorem mc_yX5_by : Cond.code yX5_by cX5_by 7 (some .long) ∈ BIG := big_of (i := 695) rfl rfl
set_option maxRecDepth 100000 in
theorem mm_X5_149 : Cond.methodLink RX5 149 yX5_costOf ∈ BIG := big_of (i := 696) rfl rfl
set_option maxRecDepth 100000 in
theorem mi_yX5_costOf : Cond.instanceMethod yX5_costOf ∈ BIG := big_of (i := 698) rfl rfl
set_option maxRecDepth 100000 in
theorem mc_yX5_costOf : Cond.code yX5_costOf cX5_costOf 11 (some .long) ∈ BIG := big_of (i := 699) rfl rfl
set_option maxRecDepth 100000 in
theorem mm_X5_145 : Cond.methodLink RX5 145 yX5_voiceOf ∈ BIG := big_of (i := 700) rfl rfl
set_option maxRecDepth 100000 in
theorem mi_yX5_voiceOf : Cond.instanceMethod yX5_voiceOf ∈ BIG := big_of (i := 702) rfl rfl
set_option maxRecDepth 100000 in
theorem mc_yX5_voiceOf : Cond.code yX5_voiceOf cX5_voiceOf 5 (some .int) ∈ BIG := big_of (i := 703) rfl rfl
set_option maxRecDepth 100000 in
theorem mm_L_97 : Cond.methodLink RL 97 yX5_brought ∈ BIG := big_of (i := 704) rfl rfl
set_option maxRecDepth 100000 in
theorem mi_yX5_brought : Cond.instanceMethod yX5_brought ∈ BIG := big_of (i := 705) rfl rfl
set_option maxRecDepth 100000 in
theorem mx_yX5_brought : Cond.selects RX5 yX5_brought yX5_brought ∈ BIG := big_of (i := 706) rfl rfl
set_option maxRecDepth 100000 in
theorem mc_yX5_brought : Cond.code yX5_brought cX5_brought 3 (some .int) ∈ BIG := big_of (i := 707) rfl rfl
set_option maxRecDepth 100000 in
theorem mm_L_101 : Cond.methodLink RL 101 yX5_errors ∈ BIG := big_of (i := 708) rfl rfl
set_option maxRecDepth 100000 in
theorem mi_yX5_errors : Cond.instanceMethod yX5_errors ∈ BIG := big_of (i := 709) rfl rfl
set_option maxRecDepth 100000 in
theorem mx_yX5_errors : Cond.selects RX5 yX5_errors yX5_errors ∈ BIG := big_of (i := 710) rfl rfl
set_option maxRecDepth 100000 in
theorem mc_yX5_errors : Cond.code yX5_errors cX5_errors 1 (some .int) ∈ BIG := big_of (i := 711) rfl rfl
set_option maxRecDepth 100000 in
theorem mm_X5_165 : Cond.methodLink RX5 165 yX5_errorMany ∈ BIG := big_of (i := 712) rfl rfl
set_option maxRecDepth 100000 in
theorem mi_yX5_errorMany : Cond.instanceMethod yX5_errorMany ∈ BIG := big_of (i := 714) rfl rfl
set_option maxRecDepth 100000 in
theorem mc_yX5_errorMany : Cond.code yX5_errorMany cX5_errorMany 3 (some .int) ∈ BIG := big_of (i := 715) rfl rfl
set_option maxRecDepth 100000 in
theorem mm_L_105 : Cond.methodLink RL 105 yX5_sweep ∈ BIG := big_of (i := 716) rfl rfl
set_option maxRecDepth 100000 in
theorem mi_yX5_sweep : Cond.instanceMethod yX5_sweep ∈ BIG := big_of (i := 717) rfl rfl
set_option maxRecDepth 100000 in
theorem mx_yX5_sweep : Cond.selects RX5 yX5_sweep yX5_sweep ∈ BIG := big_of (i := 718) rfl rfl
set_option maxRecDepth 100000 in
theorem mc_yX5_sweep : Cond.code yX5_sweep cX5_sweep 4 (some .int) ∈ BIG := big_of (i := 719) rfl rfl
set_option maxRecDepth 100000 in
theorem mm_X5_168 : Cond.methodLink RX5 168 yX5_keep ∈ BIG := big_of (i := 720) rfl rfl
set_option maxRecDepth 100000 in
theorem mi_yX5_keep : Cond.instanceMethod yX5_keep ∈ BIG := big_of (i := 722) rfl rfl
set_option maxRecDepth 100000 in
theorem mc_yX5_keep : Cond.code yX5_keep cX5_keep 3 none ∈ BIG := big_of (i := 723) rfl rfl
set_option maxRecDepth 100000 in
theorem mm_X5_172 : Cond.methodLink RX5 172 yX5_errorsOf ∈ BIG := big_of (i := 724) rfl rfl
set_option maxRecDepth 100000 in
theorem mi_yX5_errorsOf : Cond.instanceMethod yX5_errorsOf ∈ BIG := big_of (i := 726) rfl rfl
set_option maxRecDepth 100000 in
theorem mc_yX5_errorsOf : Cond.code yX5_errorsOf cX5_errorsOf 5 (some .int) ∈ BIG := big_of (i := 727) rfl rfl
set_option maxRecDepth 100000 in
theorem mm_L_109 : Cond.methodLink RL 109 yX5_whole ∈ BIG := big_of (i := 728) rfl rfl
set_option maxRecDepth 100000 in
theorem mi_yX5_whole : Cond.instanceMethod yX5_whole ∈ BIG := big_of (i := 729) rfl rfl
set_option maxRecDepth 100000 in
theorem mx_yX5_whole : Cond.selects RX5 yX5_whole yX5_whole ∈ BIG := big_of (i := 730) rfl rfl
set_option maxRecDepth 100000 in
theorem mc_yX5_whole : Cond.code yX5_whole cX5_whole 4 (some .int) ∈ BIG := big_of (i := 731) rfl rfl
set_option maxRecDepth 100000 in
theorem mm_L_113 : Cond.methodLink RL 113 yX5_count ∈ BIG := big_of (i := 732) rfl rfl
set_option maxRecDepth 100000 in
theorem mi_yX5_count : Cond.instanceMethod yX5_count ∈ BIG := big_of (i := 733) rfl rfl
set_option maxRecDepth 100000 in
theorem mx_yX5_count : Cond.selects RX5 yX5_count yX5_count ∈ BIG := big_of (i := 734) rfl rfl
set_option maxRecDepth 100000 in
theorem mc_yX5_count : Cond.code yX5_count cX5_count 2 (some .int) ∈ BIG := big_of (i := 735) rfl rfl
set_option maxRecDepth 100000 in
theorem mk_L_13 : Cond.constantLong RL 13 (4294967295) ∈ BIG := big_of (i := 736) rfl rfl
theorem mx_yX4_endHeard : Cond.selects RX4 yX4_endHeard yX4_endHeard ∈ BIG := big_of (i := 0) rfl rfl
theorem mx_yX4_isBitPlace : Cond.selects RX4 yX4_isBitPlace yX4_isBitPlace ∈ BIG := big_of (i := 1) rfl rfl
theorem mx_yX4_changed : Cond.selects RX4 yX4_changed yX4_changed ∈ BIG := big_of (i := 2) rfl rfl
theorem mx_yX2_begin : Cond.selects RX2 yX2_begin yX2_begin ∈ BIG := big_of (i := 3) rfl rfl
theorem mx_yX2_tabulate : Cond.selects RX2 yX2_tabulate yX2_tabulate ∈ BIG := big_of (i := 4) rfl rfl
theorem mx_yX2_dueSample : Cond.selects RX2 yX2_dueSample yX2_dueSample ∈ BIG := big_of (i := 5) rfl rfl
theorem mx_yX2_goOn : Cond.selects RX2 yX2_goOn yX2_goOn ∈ BIG := big_of (i := 6) rfl rfl
theorem mx_yX2_offer : Cond.selects RX2 yX2_offer yX2_offer ∈ BIG := big_of (i := 7) rfl rfl
theorem mx_yX2_settle : Cond.selects RX2 yX2_settle yX2_settle ∈ BIG := big_of (i := 8) rfl rfl
theorem mx_yX4_errorsOfSending : Cond.selects RX4 yX4_errorsOfSending yX4_errorsOfSending ∈ BIG := big_of (i := 9) rfl rfl
theorem mx_yX5_ended : Cond.selects RX5 yX5_ended yX5_ended ∈ BIG := big_of (i := 10) rfl rfl
theorem mx_yX5_mix : Cond.selects RX5 yX5_mix yX5_mix ∈ BIG := big_of (i := 11) rfl rfl
theorem mx_yX5_frameSize : Cond.selects RX5 yX5_frameSize yX5_frameSize ∈ BIG := big_of (i := 12) rfl rfl
theorem mx_yX5_layFrame : Cond.selects RX5 yX5_layFrame yX5_layFrame ∈ BIG := big_of (i := 13) rfl rfl
theorem mx_yX5_sign : Cond.selects RX5 yX5_sign yX5_sign ∈ BIG := big_of (i := 14) rfl rfl
theorem mx_yX5_listen : Cond.selects RX5 yX5_listen yX5_listen ∈ BIG := big_of (i := 15) rfl rfl
theorem mx_yX5_sampleMany : Cond.selects RX5 yX5_sampleMany yX5_sampleMany ∈ BIG := big_of (i := 16) rfl rfl
theorem mx_yX5_placeIn : Cond.selects RX5 yX5_placeIn yX5_placeIn ∈ BIG := big_of (i := 17) rfl rfl
theorem mx_yX5_bringFrom : Cond.selects RX5 yX5_bringFrom yX5_bringFrom ∈ BIG := big_of (i := 18) rfl rfl
theorem mx_yX5_by : Cond.selects RX5 yX5_by yX5_by ∈ BIG := big_of (i := 19) rfl rfl
theorem mx_yX5_costOf : Cond.selects RX5 yX5_costOf yX5_costOf ∈ BIG := big_of (i := 20) rfl rfl
theorem mx_yX5_voiceOf : Cond.selects RX5 yX5_voiceOf yX5_voiceOf ∈ BIG := big_of (i := 21) rfl rfl
theorem mx_yX5_errorMany : Cond.selects RX5 yX5_errorMany yX5_errorMany ∈ BIG := big_of (i := 22) rfl rfl
theorem mx_yX5_keep : Cond.selects RX5 yX5_keep yX5_keep ∈ BIG := big_of (i := 23) rfl rfl
theorem mx_yX5_errorsOf : Cond.selects RX5 yX5_errorsOf yX5_errorsOf ∈ BIG := big_of (i := 24) rfl rfl
set_option maxRecDepth 100000 in
theorem ml_X0 : ∀ w ∈ u_ws RX0 TX0 6, w ∈ BIG := big_row [109, 111, 113, 115, 117, 119] (by decide +kernel) (by decide +kernel)
set_option maxRecDepth 100000 in
theorem ml_X1 : ∀ w ∈ u_ws RX1 TX1 2, w ∈ BIG := big_row [132, 134] (by decide +kernel) (by decide +kernel)
set_option maxRecDepth 100000 in
theorem ml_X2 : ∀ w ∈ u_ws RX2 TX2 9, w ∈ BIG := big_row [155, 157, 159, 161, 163, 165, 167, 169, 171] (by decide +kernel) (by decide +kernel)
set_option maxRecDepth 100000 in
theorem ml_X3 : ∀ w ∈ u_ws RX3 TX3 9, w ∈ BIG := big_row [71, 73, 75, 77, 79, 81, 83, 85, 87] (by decide +kernel) (by decide +kernel)
set_option maxRecDepth 100000 in
theorem ml_X4 : ∀ w ∈ u_ws RX4 TX4 11, w ∈ BIG := big_row [186, 188, 190, 192, 194, 196, 198, 200, 202, 204, 206] (by decide +kernel) (by decide +kernel)
set_option maxRecDepth 100000 in
theorem ml_X5 : ∀ w ∈ u_ws RX5 TX5 28, w ∈ BIG := big_row [508, 510, 512, 514, 516, 518, 520, 522, 524, 526, 528, 530, 532, 534, 536, 538, 540, 542, 544, 546, 548, 550, 552, 554, 556, 558, 560, 562] (by decide +kernel) (by decide +kernel)
/-- the links to private members of nest mates -/
def nw (U : State) : Prop := va_Nw (.methodLinkNest RX4 11 yX3_init "NoiseBench") U ∧ va_Nw (.methodLinkNest RX4 18 yX0_init "NoiseBench") U ∧ va_Nw (.methodLinkNest RX4 25 yX1_init "NoiseBench") U ∧ va_Nw (.methodLinkNest RX4 35 yX2_init "NoiseBench") U ∧ va_Nw (.methodLinkNest RX3 40 yX4_mix "NoiseBench") U ∧ va_Nw (.methodLinkNest RX3 48 yX4_within "NoiseBench") U ∧ va_Nw (.methodLinkNest RX3 52 yX4_bitOf "NoiseBench") U ∧ va_Nw (.methodLinkNest RX3 56 yX4_oddness "NoiseBench") U ∧ va_Nw (.methodLinkNest RX1 44 yX4_within "NoiseBench") U ∧ va_Nw (.methodLinkNest RX2 102 yX4_within "NoiseBench") U
end
section
theorem dX0_init_0 : decode cX0_init 0 = .ok (.aload_n 0, 1) := by decide +kernel
theorem dX0_init_1 : decode cX0_init 1 = .ok (.invokespecial 3, 3) := by decide +kernel
theorem dX0_init_4 : decode cX0_init 4 = .ok (.aload_n 0, 1) := by decide +kernel
theorem dX0_init_5 : decode cX0_init 5 = .ok (.iconst 4, 1) := by decide +kernel
theorem dX0_init_6 : decode cX0_init 6 = .ok (.newarray .int, 2) := by decide +kernel
theorem dX0_init_8 : decode cX0_init 8 = .ok (.dup, 1) := by decide +kernel
theorem dX0_init_9 : decode cX0_init 9 = .ok (.iconst 0, 1) := by decide +kernel
theorem dX0_init_10 : decode cX0_init 10 = .ok (.iconst 1, 1) := by decide +kernel
theorem dX0_init_11 : decode cX0_init 11 = .ok (.iastore, 1) := by decide +kernel
theorem dX0_init_12 : decode cX0_init 12 = .ok (.dup, 1) := by decide +kernel
theorem dX0_init_13 : decode cX0_init 13 = .ok (.iconst 1, 1) := by decide +kernel
theorem dX0_init_14 : decode cX0_init 14 = .ok (.iconst 0, 1) := by decide +kernel
theorem dX0_init_15 : decode cX0_init 15 = .ok (.iastore, 1) := by decide +kernel
theorem dX0_init_16 : decode cX0_init 16 = .ok (.dup, 1) := by decide +kernel
theorem dX0_init_17 : decode cX0_init 17 = .ok (.iconst 2, 1) := by decide +kernel
theorem dX0_init_18 : decode cX0_init 18 = .ok (.iconst 0, 1) := by decide +kernel
theorem dX0_init_19 : decode cX0_init 19 = .ok (.iastore, 1) := by decide +kernel
theorem dX0_init_20 : decode cX0_init 20 = .ok (.dup, 1) := by decide +kernel
theorem dX0_init_21 : decode cX0_init 21 = .ok (.iconst 3, 1) := by decide +kernel
theorem dX0_init_22 : decode cX0_init 22 = .ok (.iconst 0, 1) := by decide +kernel
theorem dX0_init_23 : decode cX0_init 23 = .ok (.iastore, 1) := by decide +kernel
theorem dX0_init_24 : decode cX0_init 24 = .ok (.putfield 9, 3) := by decide +kernel
theorem dX0_init_27 : decode cX0_init 27 = .ok (.aload_n 0, 1) := by decide +kernel
theorem dX0_init_28 : decode cX0_init 28 = .ok (.iconst 0, 1) := by decide +kernel
theorem dX0_init_29 : decode cX0_init 29 = .ok (.putfield 15, 3) := by decide +kernel
theorem dX0_init_32 : decode cX0_init 32 = .ok (.aload_n 0, 1) := by decide +kernel
theorem dX0_init_33 : decode cX0_init 33 = .ok (.iconst 0, 1) := by decide +kernel
theorem dX0_init_34 : decode cX0_init 34 = .ok (.putfield 19, 3) := by decide +kernel
theorem dX0_init_37 : decode cX0_init 37 = .ok (.aload_n 0, 1) := by decide +kernel
theorem dX0_init_38 : decode cX0_init 38 = .ok (.iconst 1, 1) := by decide +kernel
theorem dX0_init_39 : decode cX0_init 39 = .ok (.putfield 22, 3) := by decide +kernel
theorem dX0_init_42 : decode cX0_init 42 = .ok (.aload_n 0, 1) := by decide +kernel
theorem dX0_init_43 : decode cX0_init 43 = .ok (.iconst 0, 1) := by decide +kernel
theorem dX0_init_44 : decode cX0_init 44 = .ok (.putfield 25, 3) := by decide +kernel
theorem dX0_init_47 : decode cX0_init 47 = .ok (.aload_n 0, 1) := by decide +kernel
theorem dX0_init_48 : decode cX0_init 48 = .ok (.iconst 0, 1) := by decide +kernel
theorem dX0_init_49 : decode cX0_init 49 = .ok (.putfield 28, 3) := by decide +kernel
theorem dX0_init_52 : decode cX0_init 52 = .ok (.return_, 1) := by decide +kernel
theorem dX0_lastPlace_0 : decode cX0_lastPlace 0 = .ok (.aload_n 0, 1) := by decide +kernel
theorem dX0_lastPlace_1 : decode cX0_lastPlace 1 = .ok (.getfield 15, 3) := by decide +kernel
theorem dX0_lastPlace_4 : decode cX0_lastPlace 4 = .ok (.bipush 8, 2) := by decide +kernel
theorem dX0_lastPlace_6 : decode cX0_lastPlace 6 = .ok (.iadd, 1) := by decide +kernel
theorem dX0_lastPlace_7 : decode cX0_lastPlace 7 = .ok (.ireturn, 1) := by decide +kernel
theorem dX0_nextDraw_0 : decode cX0_nextDraw 0 = .ok (.iload_n 1, 1) := by decide +kernel
theorem dX0_nextDraw_1 : decode cX0_nextDraw 1 = .ok (.ldc 31, 2) := by decide +kernel
theorem dX0_nextDraw_3 : decode cX0_nextDraw 3 = .ok (.imul, 1) := by decide +kernel
theorem dX0_nextDraw_4 : decode cX0_nextDraw 4 = .ok (.sipush 12345, 3) := by decide +kernel
theorem dX0_nextDraw_7 : decode cX0_nextDraw 7 = .ok (.iadd, 1) := by decide +kernel
theorem dX0_nextDraw_8 : decode cX0_nextDraw 8 = .ok (.ldc 32, 2) := by decide +kernel
theorem dX0_nextDraw_10 : decode cX0_nextDraw 10 = .ok (.iand, 1) := by decide +kernel
theorem dX0_nextDraw_11 : decode cX0_nextDraw 11 = .ok (.ireturn, 1) := by decide +kernel
theorem dX0_noiseOf_0 : decode cX0_noiseOf 0 = .ok (.iconst 2, 1) := by decide +kernel
theorem dX0_noiseOf_1 : decode cX0_noiseOf 1 = .ok (.aload_n 0, 1) := by decide +kernel
theorem dX0_noiseOf_2 : decode cX0_noiseOf 2 = .ok (.getfield 19, 3) := by decide +kernel
theorem dX0_noiseOf_5 : decode cX0_noiseOf 5 = .ok (.imul, 1) := by decide +kernel
theorem dX0_noiseOf_6 : decode cX0_noiseOf 6 = .ok (.iconst 1, 1) := by decide +kernel
theorem dX0_noiseOf_7 : decode cX0_noiseOf 7 = .ok (.iadd, 1) := by decide +kernel
theorem dX0_noiseOf_8 : decode cX0_noiseOf 8 = .ok (.istore_n 2, 1) := by decide +kernel
theorem dX0_noiseOf_9 : decode cX0_noiseOf 9 = .ok (.iload_n 2, 1) := by decide +kernel
theorem dX0_noiseOf_10 : decode cX0_noiseOf 10 = .ok (.iconst 1, 1) := by decide +kernel
theorem dX0_noiseOf_11 : decode cX0_noiseOf 11 = .ok (.if_icmp .ge 7, 3) := by decide +kernel
theorem dX0_noiseOf_14 : decode cX0_noiseOf 14 = .ok (.iconst 0, 1) := by decide +kernel
theorem dX0_noiseOf_15 : decode cX0_noiseOf 15 = .ok (.goto 14, 3) := by decide +kernel
theorem dX0_noiseOf_18 : decode cX0_noiseOf 18 = .ok (.iload_n 1, 1) := by decide +kernel
theorem dX0_noiseOf_19 : decode cX0_noiseOf 19 = .ok (.ldc 33, 2) := by decide +kernel
theorem dX0_noiseOf_21 : decode cX0_noiseOf 21 = .ok (.idiv, 1) := by decide +kernel
theorem dX0_noiseOf_22 : decode cX0_noiseOf 22 = .ok (.iload_n 2, 1) := by decide +kernel
theorem dX0_noiseOf_23 : decode cX0_noiseOf 23 = .ok (.irem, 1) := by decide +kernel
theorem dX0_noiseOf_24 : decode cX0_noiseOf 24 = .ok (.aload_n 0, 1) := by decide +kernel
theorem dX0_noiseOf_25 : decode cX0_noiseOf 25 = .ok (.getfield 19, 3) := by decide +kernel
theorem dX0_noiseOf_28 : decode cX0_noiseOf 28 = .ok (.isub, 1) := by decide +kernel
theorem dX0_noiseOf_29 : decode cX0_noiseOf 29 = .ok (.ireturn, 1) := by decide +kernel
theorem dX0_arrives_0 : decode cX0_arrives 0 = .ok (.iload_n 2, 1) := by decide +kernel
theorem dX0_arrives_1 : decode cX0_arrives 1 = .ok (.aload_n 0, 1) := by decide +kernel
theorem dX0_arrives_2 : decode cX0_arrives 2 = .ok (.getfield 25, 3) := by decide +kernel
theorem dX0_arrives_5 : decode cX0_arrives 5 = .ok (.if_icmp .lt 18, 3) := by decide +kernel
theorem dX0_arrives_8 : decode cX0_arrives 8 = .ok (.iload_n 2, 1) := by decide +kernel
theorem dX0_arrives_9 : decode cX0_arrives 9 = .ok (.aload_n 0, 1) := by decide +kernel
theorem dX0_arrives_10 : decode cX0_arrives 10 = .ok (.getfield 25, 3) := by decide +kernel
theorem dX0_arrives_13 : decode cX0_arrives 13 = .ok (.aload_n 0, 1) := by decide +kernel
theorem dX0_arrives_14 : decode cX0_arrives 14 = .ok (.getfield 28, 3) := by decide +kernel
theorem dX0_arrives_17 : decode cX0_arrives 17 = .ok (.iadd, 1) := by decide +kernel
theorem dX0_arrives_18 : decode cX0_arrives 18 = .ok (.if_icmp .ge 5, 3) := by decide +kernel
theorem dX0_arrives_21 : decode cX0_arrives 21 = .ok (.iconst 0, 1) := by decide +kernel
theorem dX0_arrives_22 : decode cX0_arrives 22 = .ok (.ireturn, 1) := by decide +kernel
theorem dX0_arrives_23 : decode cX0_arrives 23 = .ok (.aload_n 0, 1) := by decide +kernel
theorem dX0_arrives_24 : decode cX0_arrives 24 = .ok (.iload_n 3, 1) := by decide +kernel
theorem dX0_arrives_25 : decode cX0_arrives 25 = .ok (.invokevirtual 34, 3) := by decide +kernel
theorem dX0_arrives_28 : decode cX0_arrives 28 = .ok (.istore 4, 2) := by decide +kernel
theorem dX0_arrives_30 : decode cX0_arrives 30 = .ok (.iconst 0, 1) := by decide +kernel
theorem dX0_arrives_31 : decode cX0_arrives 31 = .ok (.istore 5, 2) := by decide +kernel
theorem dX0_arrives_33 : decode cX0_arrives 33 = .ok (.iload 5, 2) := by decide +kernel
theorem dX0_arrives_35 : decode cX0_arrives 35 = .ok (.aload_n 0, 1) := by decide +kernel
theorem dX0_arrives_36 : decode cX0_arrives 36 = .ok (.getfield 9, 3) := by decide +kernel
theorem dX0_arrives_39 : decode cX0_arrives 39 = .ok (.arraylength, 1) := by decide +kernel
theorem dX0_arrives_40 : decode cX0_arrives 40 = .ok (.if_icmp .ge 35, 3) := by decide +kernel
theorem dX0_arrives_43 : decode cX0_arrives 43 = .ok (.iload 4, 2) := by decide +kernel
theorem dX0_arrives_45 : decode cX0_arrives 45 = .ok (.aload_n 0, 1) := by decide +kernel
theorem dX0_arrives_46 : decode cX0_arrives 46 = .ok (.getfield 9, 3) := by decide +kernel
theorem dX0_arrives_49 : decode cX0_arrives 49 = .ok (.iload 5, 2) := by decide +kernel
theorem dX0_arrives_51 : decode cX0_arrives 51 = .ok (.iaload, 1) := by decide +kernel
theorem dX0_arrives_52 : decode cX0_arrives 52 = .ok (.aload_n 1, 1) := by decide +kernel
theorem dX0_arrives_53 : decode cX0_arrives 53 = .ok (.iload_n 2, 1) := by decide +kernel
theorem dX0_arrives_54 : decode cX0_arrives 54 = .ok (.aload_n 0, 1) := by decide +kernel
theorem dX0_arrives_55 : decode cX0_arrives 55 = .ok (.getfield 15, 3) := by decide +kernel
theorem dX0_arrives_58 : decode cX0_arrives 58 = .ok (.isub, 1) := by decide +kernel
theorem dX0_arrives_59 : decode cX0_arrives 59 = .ok (.iload 5, 2) := by decide +kernel
theorem dX0_arrives_61 : decode cX0_arrives 61 = .ok (.isub, 1) := by decide +kernel
theorem dX0_arrives_62 : decode cX0_arrives 62 = .ok (.invokevirtual 38, 3) := by decide +kernel
theorem dX0_arrives_65 : decode cX0_arrives 65 = .ok (.imul, 1) := by decide +kernel
theorem dX0_arrives_66 : decode cX0_arrives 66 = .ok (.iadd, 1) := by decide +kernel
theorem dX0_arrives_67 : decode cX0_arrives 67 = .ok (.istore 4, 2) := by decide +kernel
theorem dX0_arrives_69 : decode cX0_arrives 69 = .ok (.iinc 5 1, 3) := by decide +kernel
theorem dX0_arrives_72 : decode cX0_arrives 72 = .ok (.goto (-39), 3) := by decide +kernel
theorem dX0_arrives_75 : decode cX0_arrives 75 = .ok (.sipush (-4000), 3) := by decide +kernel
theorem dX0_arrives_78 : decode cX0_arrives 78 = .ok (.sipush 4000, 3) := by decide +kernel
theorem dX0_arrives_81 : decode cX0_arrives 81 = .ok (.iload 4, 2) := by decide +kernel
theorem dX0_arrives_83 : decode cX0_arrives 83 = .ok (.invokestatic 43, 3) := by decide +kernel
theorem dX0_arrives_86 : decode cX0_arrives 86 = .ok (.invokestatic 49, 3) := by decide +kernel
theorem dX0_arrives_89 : decode cX0_arrives 89 = .ok (.ireturn, 1) := by decide +kernel
theorem dX1_init_0 : decode cX1_init 0 = .ok (.aload_n 0, 1) := by decide +kernel
theorem dX1_init_1 : decode cX1_init 1 = .ok (.invokespecial 3, 3) := by decide +kernel
theorem dX1_init_4 : decode cX1_init 4 = .ok (.aload_n 0, 1) := by decide +kernel
theorem dX1_init_5 : decode cX1_init 5 = .ok (.sipush 140, 3) := by decide +kernel
theorem dX1_init_8 : decode cX1_init 8 = .ok (.newarray .int, 2) := by decide +kernel
theorem dX1_init_10 : decode cX1_init 10 = .ok (.putfield 9, 3) := by decide +kernel
theorem dX1_init_13 : decode cX1_init 13 = .ok (.aload_n 0, 1) := by decide +kernel
theorem dX1_init_14 : decode cX1_init 14 = .ok (.iconst 0, 1) := by decide +kernel
theorem dX1_init_15 : decode cX1_init 15 = .ok (.putfield 15, 3) := by decide +kernel
theorem dX1_init_18 : decode cX1_init 18 = .ok (.return_, 1) := by decide +kernel
theorem dX1_listen_0 : decode cX1_listen 0 = .ok (.aload_n 0, 1) := by decide +kernel
theorem dX1_listen_1 : decode cX1_listen 1 = .ok (.aload_n 0, 1) := by decide +kernel
theorem dX1_listen_2 : decode cX1_listen 2 = .ok (.getfield 9, 3) := by decide +kernel
theorem dX1_listen_5 : decode cX1_listen 5 = .ok (.arraylength, 1) := by decide +kernel
theorem dX1_listen_6 : decode cX1_listen 6 = .ok (.aload_n 2, 1) := by decide +kernel
theorem dX1_listen_7 : decode cX1_listen 7 = .ok (.getfield 19, 3) := by decide +kernel
theorem dX1_listen_10 : decode cX1_listen 10 = .ok (.aload_n 1, 1) := by decide +kernel
theorem dX1_listen_11 : decode cX1_listen 11 = .ok (.invokevirtual 24, 3) := by decide +kernel
theorem dX1_listen_14 : decode cX1_listen 14 = .ok (.iadd, 1) := by decide +kernel
theorem dX1_listen_15 : decode cX1_listen 15 = .ok (.bipush 8, 2) := by decide +kernel
theorem dX1_listen_17 : decode cX1_listen 17 = .ok (.iadd, 1) := by decide +kernel
theorem dX1_listen_18 : decode cX1_listen 18 = .ok (.invokestatic 30, 3) := by decide +kernel
theorem dX1_listen_21 : decode cX1_listen 21 = .ok (.putfield 15, 3) := by decide +kernel
theorem dX1_listen_24 : decode cX1_listen 24 = .ok (.iload_n 3, 1) := by decide +kernel
theorem dX1_listen_25 : decode cX1_listen 25 = .ok (.istore 4, 2) := by decide +kernel
theorem dX1_listen_27 : decode cX1_listen 27 = .ok (.iconst 0, 1) := by decide +kernel
theorem dX1_listen_28 : decode cX1_listen 28 = .ok (.istore 5, 2) := by decide +kernel
theorem dX1_listen_30 : decode cX1_listen 30 = .ok (.iload 5, 2) := by decide +kernel
theorem dX1_listen_32 : decode cX1_listen 32 = .ok (.aload_n 0, 1) := by decide +kernel
theorem dX1_listen_33 : decode cX1_listen 33 = .ok (.getfield 15, 3) := by decide +kernel
theorem dX1_listen_36 : decode cX1_listen 36 = .ok (.if_icmp .ge 33, 3) := by decide +kernel
theorem dX1_listen_39 : decode cX1_listen 39 = .ok (.aload_n 2, 1) := by decide +kernel
theorem dX1_listen_40 : decode cX1_listen 40 = .ok (.iload 4, 2) := by decide +kernel
theorem dX1_listen_42 : decode cX1_listen 42 = .ok (.invokevirtual 36, 3) := by decide +kernel
theorem dX1_listen_45 : decode cX1_listen 45 = .ok (.istore 4, 2) := by decide +kernel
theorem dX1_listen_47 : decode cX1_listen 47 = .ok (.aload_n 0, 1) := by decide +kernel
theorem dX1_listen_48 : decode cX1_listen 48 = .ok (.getfield 9, 3) := by decide +kernel
theorem dX1_listen_51 : decode cX1_listen 51 = .ok (.iload 5, 2) := by decide +kernel
theorem dX1_listen_53 : decode cX1_listen 53 = .ok (.aload_n 2, 1) := by decide +kernel
theorem dX1_listen_54 : decode cX1_listen 54 = .ok (.aload_n 1, 1) := by decide +kernel
theorem dX1_listen_55 : decode cX1_listen 55 = .ok (.iload 5, 2) := by decide +kernel
theorem dX1_listen_57 : decode cX1_listen 57 = .ok (.iload 4, 2) := by decide +kernel
theorem dX1_listen_59 : decode cX1_listen 59 = .ok (.invokevirtual 40, 3) := by decide +kernel
theorem dX1_listen_62 : decode cX1_listen 62 = .ok (.iastore, 1) := by decide +kernel
theorem dX1_listen_63 : decode cX1_listen 63 = .ok (.iinc 5 1, 3) := by decide +kernel
theorem dX1_listen_66 : decode cX1_listen 66 = .ok (.goto (-36), 3) := by decide +kernel
theorem dX1_listen_69 : decode cX1_listen 69 = .ok (.return_, 1) := by decide +kernel
theorem dX1_at_0 : decode cX1_at 0 = .ok (.iload_n 1, 1) := by decide +kernel
theorem dX1_at_1 : decode cX1_at 1 = .ok (.iconst 0, 1) := by decide +kernel
theorem dX1_at_2 : decode cX1_at 2 = .ok (.aload_n 0, 1) := by decide +kernel
theorem dX1_at_3 : decode cX1_at 3 = .ok (.getfield 9, 3) := by decide +kernel
theorem dX1_at_6 : decode cX1_at 6 = .ok (.arraylength, 1) := by decide +kernel
theorem dX1_at_7 : decode cX1_at 7 = .ok (.iconst 1, 1) := by decide +kernel
theorem dX1_at_8 : decode cX1_at 8 = .ok (.isub, 1) := by decide +kernel
theorem dX1_at_9 : decode cX1_at 9 = .ok (.invokestatic 44, 3) := by decide +kernel
theorem dX1_at_12 : decode cX1_at 12 = .ok (.ifCond .eq 12, 3) := by decide +kernel
theorem dX1_at_15 : decode cX1_at 15 = .ok (.aload_n 0, 1) := by decide +kernel
theorem dX1_at_16 : decode cX1_at 16 = .ok (.getfield 9, 3) := by decide +kernel
theorem dX1_at_19 : decode cX1_at 19 = .ok (.iload_n 1, 1) := by decide +kernel
theorem dX1_at_20 : decode cX1_at 20 = .ok (.iaload, 1) := by decide +kernel
theorem dX1_at_21 : decode cX1_at 21 = .ok (.goto 4, 3) := by decide +kernel
theorem dX1_at_24 : decode cX1_at 24 = .ok (.iconst 0, 1) := by decide +kernel
theorem dX1_at_25 : decode cX1_at 25 = .ok (.ireturn, 1) := by decide +kernel
theorem dX1_alike_0 : decode cX1_alike 0 = .ok (.iconst 0, 1) := by decide +kernel
theorem dX1_alike_1 : decode cX1_alike 1 = .ok (.istore_n 3, 1) := by decide +kernel
theorem dX1_alike_2 : decode cX1_alike 2 = .ok (.iconst 0, 1) := by decide +kernel
theorem dX1_alike_3 : decode cX1_alike 3 = .ok (.istore 4, 2) := by decide +kernel
theorem dX1_alike_5 : decode cX1_alike 5 = .ok (.iload 4, 2) := by decide +kernel
theorem dX1_alike_7 : decode cX1_alike 7 = .ok (.aload_n 1, 1) := by decide +kernel
theorem dX1_alike_8 : decode cX1_alike 8 = .ok (.getfield 48, 3) := by decide +kernel
theorem dX1_alike_11 : decode cX1_alike 11 = .ok (.if_icmp .ge 27, 3) := by decide +kernel
theorem dX1_alike_14 : decode cX1_alike 14 = .ok (.iload_n 3, 1) := by decide +kernel
theorem dX1_alike_15 : decode cX1_alike 15 = .ok (.aload_n 1, 1) := by decide +kernel
theorem dX1_alike_16 : decode cX1_alike 16 = .ok (.iload 4, 2) := by decide +kernel
theorem dX1_alike_18 : decode cX1_alike 18 = .ok (.invokevirtual 51, 3) := by decide +kernel
theorem dX1_alike_21 : decode cX1_alike 21 = .ok (.aload_n 0, 1) := by decide +kernel
theorem dX1_alike_22 : decode cX1_alike 22 = .ok (.iload_n 2, 1) := by decide +kernel
theorem dX1_alike_23 : decode cX1_alike 23 = .ok (.iload 4, 2) := by decide +kernel
theorem dX1_alike_25 : decode cX1_alike 25 = .ok (.iadd, 1) := by decide +kernel
theorem dX1_alike_26 : decode cX1_alike 26 = .ok (.invokevirtual 54, 3) := by decide +kernel
theorem dX1_alike_29 : decode cX1_alike 29 = .ok (.imul, 1) := by decide +kernel
theorem dX1_alike_30 : decode cX1_alike 30 = .ok (.iadd, 1) := by decide +kernel
theorem dX1_alike_31 : decode cX1_alike 31 = .ok (.istore_n 3, 1) := by decide +kernel
theorem dX1_alike_32 : decode cX1_alike 32 = .ok (.iinc 4 1, 3) := by decide +kernel
theorem dX1_alike_35 : decode cX1_alike 35 = .ok (.goto (-30), 3) := by decide +kernel
theorem dX1_alike_38 : decode cX1_alike 38 = .ok (.iload_n 3, 1) := by decide +kernel
theorem dX1_alike_39 : decode cX1_alike 39 = .ok (.ireturn, 1) := by decide +kernel
theorem dX1_locate_0 : decode cX1_locate 0 = .ok (.aload_n 1, 1) := by decide +kernel
theorem dX1_locate_1 : decode cX1_locate 1 = .ok (.getfield 48, 3) := by decide +kernel
theorem dX1_locate_4 : decode cX1_locate 4 = .ok (.ifCond .ne 5, 3) := by decide +kernel
theorem dX1_locate_7 : decode cX1_locate 7 = .ok (.iconst (-1), 1) := by decide +kernel
theorem dX1_locate_8 : decode cX1_locate 8 = .ok (.ireturn, 1) := by decide +kernel
theorem dX1_locate_9 : decode cX1_locate 9 = .ok (.iconst 0, 1) := by decide +kernel
theorem dX1_locate_10 : decode cX1_locate 10 = .ok (.istore 4, 2) := by decide +kernel
theorem dX1_locate_12 : decode cX1_locate 12 = .ok (.aload_n 0, 1) := by decide +kernel
theorem dX1_locate_13 : decode cX1_locate 13 = .ok (.aload_n 1, 1) := by decide +kernel
theorem dX1_locate_14 : decode cX1_locate 14 = .ok (.iconst 0, 1) := by decide +kernel
theorem dX1_locate_15 : decode cX1_locate 15 = .ok (.invokevirtual 57, 3) := by decide +kernel
theorem dX1_locate_18 : decode cX1_locate 18 = .ok (.istore 5, 2) := by decide +kernel
theorem dX1_locate_20 : decode cX1_locate 20 = .ok (.iconst 1, 1) := by decide +kernel
theorem dX1_locate_21 : decode cX1_locate 21 = .ok (.istore 6, 2) := by decide +kernel
theorem dX1_locate_23 : decode cX1_locate 23 = .ok (.iload 6, 2) := by decide +kernel
theorem dX1_locate_25 : decode cX1_locate 25 = .ok (.iload_n 2, 1) := by decide +kernel
theorem dX1_locate_26 : decode cX1_locate 26 = .ok (.if_icmp .gt 33, 3) := by decide +kernel
theorem dX1_locate_29 : decode cX1_locate 29 = .ok (.aload_n 0, 1) := by decide +kernel
theorem dX1_locate_30 : decode cX1_locate 30 = .ok (.aload_n 1, 1) := by decide +kernel
theorem dX1_locate_31 : decode cX1_locate 31 = .ok (.iload 6, 2) := by decide +kernel
theorem dX1_locate_33 : decode cX1_locate 33 = .ok (.invokevirtual 57, 3) := by decide +kernel
theorem dX1_locate_36 : decode cX1_locate 36 = .ok (.istore 7, 2) := by decide +kernel
theorem dX1_locate_38 : decode cX1_locate 38 = .ok (.iload 7, 2) := by decide +kernel
theorem dX1_locate_40 : decode cX1_locate 40 = .ok (.iload 5, 2) := by decide +kernel
theorem dX1_locate_42 : decode cX1_locate 42 = .ok (.if_icmp .le 11, 3) := by decide +kernel
theorem dX1_locate_45 : decode cX1_locate 45 = .ok (.iload 7, 2) := by decide +kernel
theorem dX1_locate_47 : decode cX1_locate 47 = .ok (.istore 5, 2) := by decide +kernel
theorem dX1_locate_49 : decode cX1_locate 49 = .ok (.iload 6, 2) := by decide +kernel
theorem dX1_locate_51 : decode cX1_locate 51 = .ok (.istore 4, 2) := by decide +kernel
theorem dX1_locate_53 : decode cX1_locate 53 = .ok (.iinc 6 1, 3) := by decide +kernel
theorem dX1_locate_56 : decode cX1_locate 56 = .ok (.goto (-33), 3) := by decide +kernel
theorem dX1_locate_59 : decode cX1_locate 59 = .ok (.iload 5, 2) := by decide +kernel
theorem dX1_locate_61 : decode cX1_locate 61 = .ok (.iload_n 3, 1) := by decide +kernel
theorem dX1_locate_62 : decode cX1_locate 62 = .ok (.if_icmp .ge 7, 3) := by decide +kernel
theorem dX1_locate_65 : decode cX1_locate 65 = .ok (.iconst (-1), 1) := by decide +kernel
theorem dX1_locate_66 : decode cX1_locate 66 = .ok (.goto 5, 3) := by decide +kernel
theorem dX1_locate_69 : decode cX1_locate 69 = .ok (.iload 4, 2) := by decide +kernel
theorem dX1_locate_71 : decode cX1_locate 71 = .ok (.ireturn, 1) := by decide +kernel
theorem dX2_init_0 : decode cX2_init 0 = .ok (.aload_n 0, 1) := by decide +kernel
theorem dX2_init_1 : decode cX2_init 1 = .ok (.invokespecial 3, 3) := by decide +kernel
theorem dX2_init_4 : decode cX2_init 4 = .ok (.aload_n 0, 1) := by decide +kernel
theorem dX2_init_5 : decode cX2_init 5 = .ok (.iconst 4, 1) := by decide +kernel
theorem dX2_init_6 : decode cX2_init 6 = .ok (.newarray .int, 2) := by decide +kernel
theorem dX2_init_8 : decode cX2_init 8 = .ok (.putfield 9, 3) := by decide +kernel
theorem dX2_init_11 : decode cX2_init 11 = .ok (.aload_n 0, 1) := by decide +kernel
theorem dX2_init_12 : decode cX2_init 12 = .ok (.lconst 0, 1) := by decide +kernel
theorem dX2_init_13 : decode cX2_init 13 = .ok (.putfield 15, 3) := by decide +kernel
theorem dX2_init_16 : decode cX2_init 16 = .ok (.aload_n 0, 1) := by decide +kernel
theorem dX2_init_17 : decode cX2_init 17 = .ok (.lconst 0, 1) := by decide +kernel
theorem dX2_init_18 : decode cX2_init 18 = .ok (.putfield 19, 3) := by decide +kernel
theorem dX2_init_21 : decode cX2_init 21 = .ok (.aload_n 0, 1) := by decide +kernel
theorem dX2_init_22 : decode cX2_init 22 = .ok (.bipush 64, 2) := by decide +kernel
theorem dX2_init_24 : decode cX2_init 24 = .ok (.newarray .int, 2) := by decide +kernel
theorem dX2_init_26 : decode cX2_init 26 = .ok (.putfield 22, 3) := by decide +kernel
theorem dX2_init_29 : decode cX2_init 29 = .ok (.aload_n 0, 1) := by decide +kernel
theorem dX2_init_30 : decode cX2_init 30 = .ok (.bipush 64, 2) := by decide +kernel
theorem dX2_init_32 : decode cX2_init 32 = .ok (.newarray .int, 2) := by decide +kernel
theorem dX2_init_34 : decode cX2_init 34 = .ok (.putfield 25, 3) := by decide +kernel
theorem dX2_init_37 : decode cX2_init 37 = .ok (.aload_n 0, 1) := by decide +kernel
theorem dX2_init_38 : decode cX2_init 38 = .ok (.bipush 32, 2) := by decide +kernel
theorem dX2_init_40 : decode cX2_init 40 = .ok (.newarray .long, 2) := by decide +kernel
theorem dX2_init_42 : decode cX2_init 42 = .ok (.putfield 28, 3) := by decide +kernel
theorem dX2_init_45 : decode cX2_init 45 = .ok (.aload_n 0, 1) := by decide +kernel
theorem dX2_init_46 : decode cX2_init 46 = .ok (.bipush 32, 2) := by decide +kernel
theorem dX2_init_48 : decode cX2_init 48 = .ok (.newarray .long, 2) := by decide +kernel
theorem dX2_init_50 : decode cX2_init 50 = .ok (.putfield 32, 3) := by decide +kernel
theorem dX2_init_53 : decode cX2_init 53 = .ok (.aload_n 0, 1) := by decide +kernel
theorem dX2_init_54 : decode cX2_init 54 = .ok (.bipush 32, 2) := by decide +kernel
theorem dX2_init_56 : decode cX2_init 56 = .ok (.newarray .long, 2) := by decide +kernel
theorem dX2_init_58 : decode cX2_init 58 = .ok (.putfield 35, 3) := by decide +kernel
theorem dX2_init_61 : decode cX2_init 61 = .ok (.aload_n 0, 1) := by decide +kernel
theorem dX2_init_62 : decode cX2_init 62 = .ok (.bipush 32, 2) := by decide +kernel
theorem dX2_init_64 : decode cX2_init 64 = .ok (.newarray .long, 2) := by decide +kernel
theorem dX2_init_66 : decode cX2_init 66 = .ok (.putfield 38, 3) := by decide +kernel
theorem dX2_init_69 : decode cX2_init 69 = .ok (.return_, 1) := by decide +kernel
theorem dX2_follow_0 : decode cX2_follow 0 = .ok (.aload_n 0, 1) := by decide +kernel
theorem dX2_follow_1 : decode cX2_follow 1 = .ok (.invokevirtual 41, 3) := by decide +kernel
theorem dX2_follow_4 : decode cX2_follow 4 = .ok (.iload_n 3, 1) := by decide +kernel
theorem dX2_follow_5 : decode cX2_follow 5 = .ok (.aload_n 1, 1) := by decide +kernel
theorem dX2_follow_6 : decode cX2_follow 6 = .ok (.getfield 44, 3) := by decide +kernel
theorem dX2_follow_9 : decode cX2_follow 9 = .ok (.iadd, 1) := by decide +kernel
theorem dX2_follow_10 : decode cX2_follow 10 = .ok (.istore 4, 2) := by decide +kernel
theorem dX2_follow_12 : decode cX2_follow 12 = .ok (.aload_n 1, 1) := by decide +kernel
theorem dX2_follow_13 : decode cX2_follow 13 = .ok (.invokevirtual 50, 3) := by decide +kernel
theorem dX2_follow_16 : decode cX2_follow 16 = .ok (.istore 5, 2) := by decide +kernel
theorem dX2_follow_18 : decode cX2_follow 18 = .ok (.iconst 0, 1) := by decide +kernel
theorem dX2_follow_19 : decode cX2_follow 19 = .ok (.istore 6, 2) := by decide +kernel
theorem dX2_follow_21 : decode cX2_follow 21 = .ok (.iload 6, 2) := by decide +kernel
theorem dX2_follow_23 : decode cX2_follow 23 = .ok (.iload 5, 2) := by decide +kernel
theorem dX2_follow_25 : decode cX2_follow 25 = .ok (.if_icmp .ge 64, 3) := by decide +kernel
theorem dX2_follow_28 : decode cX2_follow 28 = .ok (.iload 6, 2) := by decide +kernel
theorem dX2_follow_30 : decode cX2_follow 30 = .ok (.iconst 2, 1) := by decide +kernel
theorem dX2_follow_31 : decode cX2_follow 31 = .ok (.if_icmp .gt 10, 3) := by decide +kernel
theorem dX2_follow_34 : decode cX2_follow 34 = .ok (.aload_n 0, 1) := by decide +kernel
theorem dX2_follow_35 : decode cX2_follow 35 = .ok (.aload_n 1, 1) := by decide +kernel
theorem dX2_follow_36 : decode cX2_follow 36 = .ok (.iload 6, 2) := by decide +kernel
theorem dX2_follow_38 : decode cX2_follow 38 = .ok (.invokevirtual 54, 3) := by decide +kernel
theorem dX2_follow_41 : decode cX2_follow 41 = .ok (.aload_n 0, 1) := by decide +kernel
theorem dX2_follow_42 : decode cX2_follow 42 = .ok (.aload_n 2, 1) := by decide +kernel
theorem dX2_follow_43 : decode cX2_follow 43 = .ok (.iload 4, 2) := by decide +kernel
theorem dX2_follow_45 : decode cX2_follow 45 = .ok (.iconst 2, 1) := by decide +kernel
theorem dX2_follow_46 : decode cX2_follow 46 = .ok (.iload 6, 2) := by decide +kernel
theorem dX2_follow_48 : decode cX2_follow 48 = .ok (.imul, 1) := by decide +kernel
theorem dX2_follow_49 : decode cX2_follow 49 = .ok (.iadd, 1) := by decide +kernel
theorem dX2_follow_50 : decode cX2_follow 50 = .ok (.invokevirtual 58, 3) := by decide +kernel
theorem dX2_follow_53 : decode cX2_follow 53 = .ok (.aload_n 2, 1) := by decide +kernel
theorem dX2_follow_54 : decode cX2_follow 54 = .ok (.iload 4, 2) := by decide +kernel
theorem dX2_follow_56 : decode cX2_follow 56 = .ok (.iconst 2, 1) := by decide +kernel
theorem dX2_follow_57 : decode cX2_follow 57 = .ok (.iload 6, 2) := by decide +kernel
theorem dX2_follow_59 : decode cX2_follow 59 = .ok (.imul, 1) := by decide +kernel
theorem dX2_follow_60 : decode cX2_follow 60 = .ok (.iadd, 1) := by decide +kernel
theorem dX2_follow_61 : decode cX2_follow 61 = .ok (.iconst 1, 1) := by decide +kernel
theorem dX2_follow_62 : decode cX2_follow 62 = .ok (.iadd, 1) := by decide +kernel
theorem dX2_follow_63 : decode cX2_follow 63 = .ok (.invokevirtual 58, 3) := by decide +kernel
theorem dX2_follow_66 : decode cX2_follow 66 = .ok (.iload 6, 2) := by decide +kernel
theorem dX2_follow_68 : decode cX2_follow 68 = .ok (.aload_n 1, 1) := by decide +kernel
theorem dX2_follow_69 : decode cX2_follow 69 = .ok (.getfield 64, 3) := by decide +kernel
theorem dX2_follow_72 : decode cX2_follow 72 = .ok (.if_icmp .ge 7, 3) := by decide +kernel
theorem dX2_follow_75 : decode cX2_follow 75 = .ok (.iconst 1, 1) := by decide +kernel
theorem dX2_follow_76 : decode cX2_follow 76 = .ok (.goto 4, 3) := by decide +kernel
theorem dX2_follow_79 : decode cX2_follow 79 = .ok (.iconst 0, 1) := by decide +kernel
theorem dX2_follow_80 : decode cX2_follow 80 = .ok (.invokevirtual 67, 3) := by decide +kernel
theorem dX2_follow_83 : decode cX2_follow 83 = .ok (.iinc 6 1, 3) := by decide +kernel
theorem dX2_follow_86 : decode cX2_follow 86 = .ok (.goto (-65), 3) := by decide +kernel
theorem dX2_follow_89 : decode cX2_follow 89 = .ok (.aload_n 0, 1) := by decide +kernel
theorem dX2_follow_90 : decode cX2_follow 90 = .ok (.invokevirtual 71, 3) := by decide +kernel
theorem dX2_follow_93 : decode cX2_follow 93 = .ok (.return_, 1) := by decide +kernel
theorem dX2_begin_0 : decode cX2_begin 0 = .ok (.iconst 0, 1) := by decide +kernel
theorem dX2_begin_1 : decode cX2_begin 1 = .ok (.istore_n 1, 1) := by decide +kernel
theorem dX2_begin_2 : decode cX2_begin 2 = .ok (.iload_n 1, 1) := by decide +kernel
theorem dX2_begin_3 : decode cX2_begin 3 = .ok (.bipush 32, 2) := by decide +kernel
theorem dX2_begin_5 : decode cX2_begin 5 = .ok (.if_icmp .ge 25, 3) := by decide +kernel
theorem dX2_begin_8 : decode cX2_begin 8 = .ok (.aload_n 0, 1) := by decide +kernel
theorem dX2_begin_9 : decode cX2_begin 9 = .ok (.getfield 28, 3) := by decide +kernel
theorem dX2_begin_12 : decode cX2_begin 12 = .ok (.iload_n 1, 1) := by decide +kernel
theorem dX2_begin_13 : decode cX2_begin 13 = .ok (.ldc2_w 74, 3) := by decide +kernel
theorem dX2_begin_16 : decode cX2_begin 16 = .ok (.lastore, 1) := by decide +kernel
theorem dX2_begin_17 : decode cX2_begin 17 = .ok (.aload_n 0, 1) := by decide +kernel
theorem dX2_begin_18 : decode cX2_begin 18 = .ok (.getfield 32, 3) := by decide +kernel
theorem dX2_begin_21 : decode cX2_begin 21 = .ok (.iload_n 1, 1) := by decide +kernel
theorem dX2_begin_22 : decode cX2_begin 22 = .ok (.lconst 0, 1) := by decide +kernel
theorem dX2_begin_23 : decode cX2_begin 23 = .ok (.lastore, 1) := by decide +kernel
theorem dX2_begin_24 : decode cX2_begin 24 = .ok (.iinc 1 1, 3) := by decide +kernel
theorem dX2_begin_27 : decode cX2_begin 27 = .ok (.goto (-25), 3) := by decide +kernel
theorem dX2_begin_30 : decode cX2_begin 30 = .ok (.aload_n 0, 1) := by decide +kernel
theorem dX2_begin_31 : decode cX2_begin 31 = .ok (.getfield 28, 3) := by decide +kernel
theorem dX2_begin_34 : decode cX2_begin 34 = .ok (.iconst 0, 1) := by decide +kernel
theorem dX2_begin_35 : decode cX2_begin 35 = .ok (.lconst 0, 1) := by decide +kernel
theorem dX2_begin_36 : decode cX2_begin 36 = .ok (.lastore, 1) := by decide +kernel
theorem dX2_begin_37 : decode cX2_begin 37 = .ok (.return_, 1) := by decide +kernel
theorem dX2_tabulate_0 : decode cX2_tabulate 0 = .ok (.iconst 0, 1) := by decide +kernel
theorem dX2_tabulate_1 : decode cX2_tabulate 1 = .ok (.istore_n 3, 1) := by decide +kernel
theorem dX2_tabulate_2 : decode cX2_tabulate 2 = .ok (.iload_n 3, 1) := by decide +kernel
theorem dX2_tabulate_3 : decode cX2_tabulate 3 = .ok (.bipush 64, 2) := by decide +kernel
theorem dX2_tabulate_5 : decode cX2_tabulate 5 = .ok (.if_icmp .ge 43, 3) := by decide +kernel
theorem dX2_tabulate_8 : decode cX2_tabulate 8 = .ok (.aload_n 0, 1) := by decide +kernel
theorem dX2_tabulate_9 : decode cX2_tabulate 9 = .ok (.getfield 22, 3) := by decide +kernel
theorem dX2_tabulate_12 : decode cX2_tabulate 12 = .ok (.iload_n 3, 1) := by decide +kernel
theorem dX2_tabulate_13 : decode cX2_tabulate 13 = .ok (.aload_n 0, 1) := by decide +kernel
theorem dX2_tabulate_14 : decode cX2_tabulate 14 = .ok (.aload_n 1, 1) := by decide +kernel
theorem dX2_tabulate_15 : decode cX2_tabulate 15 = .ok (.iload_n 2, 1) := by decide +kernel
theorem dX2_tabulate_16 : decode cX2_tabulate 16 = .ok (.iload_n 3, 1) := by decide +kernel
theorem dX2_tabulate_17 : decode cX2_tabulate 17 = .ok (.iconst 2, 1) := by decide +kernel
theorem dX2_tabulate_18 : decode cX2_tabulate 18 = .ok (.iload_n 2, 1) := by decide +kernel
theorem dX2_tabulate_19 : decode cX2_tabulate 19 = .ok (.imul, 1) := by decide +kernel
theorem dX2_tabulate_20 : decode cX2_tabulate 20 = .ok (.invokevirtual 76, 3) := by decide +kernel
theorem dX2_tabulate_23 : decode cX2_tabulate 23 = .ok (.iastore, 1) := by decide +kernel
theorem dX2_tabulate_24 : decode cX2_tabulate 24 = .ok (.aload_n 0, 1) := by decide +kernel
theorem dX2_tabulate_25 : decode cX2_tabulate 25 = .ok (.getfield 25, 3) := by decide +kernel
theorem dX2_tabulate_28 : decode cX2_tabulate 28 = .ok (.iload_n 3, 1) := by decide +kernel
theorem dX2_tabulate_29 : decode cX2_tabulate 29 = .ok (.aload_n 0, 1) := by decide +kernel
theorem dX2_tabulate_30 : decode cX2_tabulate 30 = .ok (.aload_n 1, 1) := by decide +kernel
theorem dX2_tabulate_31 : decode cX2_tabulate 31 = .ok (.iload_n 2, 1) := by decide +kernel
theorem dX2_tabulate_32 : decode cX2_tabulate 32 = .ok (.iload_n 3, 1) := by decide +kernel
theorem dX2_tabulate_33 : decode cX2_tabulate 33 = .ok (.iconst 2, 1) := by decide +kernel
theorem dX2_tabulate_34 : decode cX2_tabulate 34 = .ok (.iload_n 2, 1) := by decide +kernel
theorem dX2_tabulate_35 : decode cX2_tabulate 35 = .ok (.imul, 1) := by decide +kernel
theorem dX2_tabulate_36 : decode cX2_tabulate 36 = .ok (.iconst 1, 1) := by decide +kernel
theorem dX2_tabulate_37 : decode cX2_tabulate 37 = .ok (.iadd, 1) := by decide +kernel
theorem dX2_tabulate_38 : decode cX2_tabulate 38 = .ok (.invokevirtual 76, 3) := by decide +kernel
theorem dX2_tabulate_41 : decode cX2_tabulate 41 = .ok (.iastore, 1) := by decide +kernel
theorem dX2_tabulate_42 : decode cX2_tabulate 42 = .ok (.iinc 3 1, 3) := by decide +kernel
theorem dX2_tabulate_45 : decode cX2_tabulate 45 = .ok (.goto (-43), 3) := by decide +kernel
theorem dX2_tabulate_48 : decode cX2_tabulate 48 = .ok (.return_, 1) := by decide +kernel
theorem dX2_dueSample_0 : decode cX2_dueSample 0 = .ok (.iconst 0, 1) := by decide +kernel
theorem dX2_dueSample_1 : decode cX2_dueSample 1 = .ok (.istore 5, 2) := by decide +kernel
theorem dX2_dueSample_3 : decode cX2_dueSample 3 = .ok (.iconst 0, 1) := by decide +kernel
theorem dX2_dueSample_4 : decode cX2_dueSample 4 = .ok (.istore 6, 2) := by decide +kernel
theorem dX2_dueSample_6 : decode cX2_dueSample 6 = .ok (.iload 6, 2) := by decide +kernel
theorem dX2_dueSample_8 : decode cX2_dueSample 8 = .ok (.aload_n 0, 1) := by decide +kernel
theorem dX2_dueSample_9 : decode cX2_dueSample 9 = .ok (.getfield 9, 3) := by decide +kernel
theorem dX2_dueSample_12 : decode cX2_dueSample 12 = .ok (.arraylength, 1) := by decide +kernel
theorem dX2_dueSample_13 : decode cX2_dueSample 13 = .ok (.if_icmp .ge 74, 3) := by decide +kernel
theorem dX2_dueSample_16 : decode cX2_dueSample 16 = .ok (.iload 4, 2) := by decide +kernel
theorem dX2_dueSample_18 : decode cX2_dueSample 18 = .ok (.iload 6, 2) := by decide +kernel
theorem dX2_dueSample_20 : decode cX2_dueSample 20 = .ok (.isub, 1) := by decide +kernel
theorem dX2_dueSample_21 : decode cX2_dueSample 21 = .ok (.istore 7, 2) := by decide +kernel
theorem dX2_dueSample_23 : decode cX2_dueSample 23 = .ok (.iload 7, 2) := by decide +kernel
theorem dX2_dueSample_25 : decode cX2_dueSample 25 = .ok (.ifCond .ge 22, 3) := by decide +kernel
theorem dX2_dueSample_28 : decode cX2_dueSample 28 = .ok (.aload_n 1, 1) := by decide +kernel
theorem dX2_dueSample_29 : decode cX2_dueSample 29 = .ok (.aload_n 1, 1) := by decide +kernel
theorem dX2_dueSample_30 : decode cX2_dueSample 30 = .ok (.getfield 44, 3) := by decide +kernel
theorem dX2_dueSample_33 : decode cX2_dueSample 33 = .ok (.iload 7, 2) := by decide +kernel
theorem dX2_dueSample_35 : decode cX2_dueSample 35 = .ok (.iadd, 1) := by decide +kernel
theorem dX2_dueSample_36 : decode cX2_dueSample 36 = .ok (.invokevirtual 80, 3) := by decide +kernel
theorem dX2_dueSample_39 : decode cX2_dueSample 39 = .ok (.aload_n 1, 1) := by decide +kernel
theorem dX2_dueSample_40 : decode cX2_dueSample 40 = .ok (.getfield 83, 3) := by decide +kernel
theorem dX2_dueSample_43 : decode cX2_dueSample 43 = .ok (.imul, 1) := by decide +kernel
theorem dX2_dueSample_44 : decode cX2_dueSample 44 = .ok (.goto 20, 3) := by decide +kernel
theorem dX2_dueSample_47 : decode cX2_dueSample 47 = .ok (.aload_n 1, 1) := by decide +kernel
theorem dX2_dueSample_48 : decode cX2_dueSample 48 = .ok (.iload_n 3, 1) := by decide +kernel
theorem dX2_dueSample_49 : decode cX2_dueSample 49 = .ok (.iload_n 2, 1) := by decide +kernel
theorem dX2_dueSample_50 : decode cX2_dueSample 50 = .ok (.iload 7, 2) := by decide +kernel
theorem dX2_dueSample_52 : decode cX2_dueSample 52 = .ok (.iconst 2, 1) := by decide +kernel
theorem dX2_dueSample_53 : decode cX2_dueSample 53 = .ok (.idiv, 1) := by decide +kernel
theorem dX2_dueSample_54 : decode cX2_dueSample 54 = .ok (.isub, 1) := by decide +kernel
theorem dX2_dueSample_55 : decode cX2_dueSample 55 = .ok (.ishr, 1) := by decide +kernel
theorem dX2_dueSample_56 : decode cX2_dueSample 56 = .ok (.i2l, 1) := by decide +kernel
theorem dX2_dueSample_57 : decode cX2_dueSample 57 = .ok (.iload 7, 2) := by decide +kernel
theorem dX2_dueSample_59 : decode cX2_dueSample 59 = .ok (.iconst 2, 1) := by decide +kernel
theorem dX2_dueSample_60 : decode cX2_dueSample 60 = .ok (.irem, 1) := by decide +kernel
theorem dX2_dueSample_61 : decode cX2_dueSample 61 = .ok (.invokevirtual 86, 3) := by decide +kernel
theorem dX2_dueSample_64 : decode cX2_dueSample 64 = .ok (.istore 8, 2) := by decide +kernel
theorem dX2_dueSample_66 : decode cX2_dueSample 66 = .ok (.iload 5, 2) := by decide +kernel
theorem dX2_dueSample_68 : decode cX2_dueSample 68 = .ok (.aload_n 0, 1) := by decide +kernel
theorem dX2_dueSample_69 : decode cX2_dueSample 69 = .ok (.getfield 9, 3) := by decide +kernel
theorem dX2_dueSample_72 : decode cX2_dueSample 72 = .ok (.iload 6, 2) := by decide +kernel
theorem dX2_dueSample_74 : decode cX2_dueSample 74 = .ok (.iaload, 1) := by decide +kernel
theorem dX2_dueSample_75 : decode cX2_dueSample 75 = .ok (.iload 8, 2) := by decide +kernel
theorem dX2_dueSample_77 : decode cX2_dueSample 77 = .ok (.imul, 1) := by decide +kernel
theorem dX2_dueSample_78 : decode cX2_dueSample 78 = .ok (.iadd, 1) := by decide +kernel
theorem dX2_dueSample_79 : decode cX2_dueSample 79 = .ok (.istore 5, 2) := by decide +kernel
theorem dX2_dueSample_81 : decode cX2_dueSample 81 = .ok (.iinc 6 1, 3) := by decide +kernel
theorem dX2_dueSample_84 : decode cX2_dueSample 84 = .ok (.goto (-78), 3) := by decide +kernel
theorem dX2_dueSample_87 : decode cX2_dueSample 87 = .ok (.iload 5, 2) := by decide +kernel
theorem dX2_dueSample_89 : decode cX2_dueSample 89 = .ok (.ireturn, 1) := by decide +kernel
theorem dX2_goOn_0 : decode cX2_goOn 0 = .ok (.iconst 0, 1) := by decide +kernel
theorem dX2_goOn_1 : decode cX2_goOn 1 = .ok (.istore 4, 2) := by decide +kernel
theorem dX2_goOn_3 : decode cX2_goOn 3 = .ok (.iload 4, 2) := by decide +kernel
theorem dX2_goOn_5 : decode cX2_goOn 5 = .ok (.bipush 32, 2) := by decide +kernel
theorem dX2_goOn_7 : decode cX2_goOn 7 = .ok (.if_icmp .ge 19, 3) := by decide +kernel
theorem dX2_goOn_10 : decode cX2_goOn 10 = .ok (.aload_n 0, 1) := by decide +kernel
theorem dX2_goOn_11 : decode cX2_goOn 11 = .ok (.getfield 35, 3) := by decide +kernel
theorem dX2_goOn_14 : decode cX2_goOn 14 = .ok (.iload 4, 2) := by decide +kernel
theorem dX2_goOn_16 : decode cX2_goOn 16 = .ok (.ldc2_w 74, 3) := by decide +kernel
theorem dX2_goOn_19 : decode cX2_goOn 19 = .ok (.lastore, 1) := by decide +kernel
theorem dX2_goOn_20 : decode cX2_goOn 20 = .ok (.iinc 4 1, 3) := by decide +kernel
theorem dX2_goOn_23 : decode cX2_goOn 23 = .ok (.goto (-20), 3) := by decide +kernel
theorem dX2_goOn_26 : decode cX2_goOn 26 = .ok (.iload_n 3, 1) := by decide +kernel
theorem dX2_goOn_27 : decode cX2_goOn 27 = .ok (.ifCond .eq 7, 3) := by decide +kernel
theorem dX2_goOn_30 : decode cX2_goOn 30 = .ok (.iconst 1, 1) := by decide +kernel
theorem dX2_goOn_31 : decode cX2_goOn 31 = .ok (.goto 4, 3) := by decide +kernel
theorem dX2_goOn_34 : decode cX2_goOn 34 = .ok (.iconst 2, 1) := by decide +kernel
theorem dX2_goOn_35 : decode cX2_goOn 35 = .ok (.istore 4, 2) := by decide +kernel
theorem dX2_goOn_37 : decode cX2_goOn 37 = .ok (.iconst 0, 1) := by decide +kernel
theorem dX2_goOn_38 : decode cX2_goOn 38 = .ok (.istore 5, 2) := by decide +kernel
theorem dX2_goOn_40 : decode cX2_goOn 40 = .ok (.iload 5, 2) := by decide +kernel
theorem dX2_goOn_42 : decode cX2_goOn 42 = .ok (.bipush 64, 2) := by decide +kernel
theorem dX2_goOn_44 : decode cX2_goOn 44 = .ok (.if_icmp .ge 120, 3) := by decide +kernel
theorem dX2_goOn_47 : decode cX2_goOn 47 = .ok (.iload 5, 2) := by decide +kernel
theorem dX2_goOn_49 : decode cX2_goOn 49 = .ok (.iconst 2, 1) := by decide +kernel
theorem dX2_goOn_50 : decode cX2_goOn 50 = .ok (.idiv, 1) := by decide +kernel
theorem dX2_goOn_51 : decode cX2_goOn 51 = .ok (.istore 6, 2) := by decide +kernel
theorem dX2_goOn_53 : decode cX2_goOn 53 = .ok (.aload_n 0, 1) := by decide +kernel
theorem dX2_goOn_54 : decode cX2_goOn 54 = .ok (.getfield 28, 3) := by decide +kernel
theorem dX2_goOn_57 : decode cX2_goOn 57 = .ok (.iload 6, 2) := by decide +kernel
theorem dX2_goOn_59 : decode cX2_goOn 59 = .ok (.laload, 1) := by decide +kernel
theorem dX2_goOn_60 : decode cX2_goOn 60 = .ok (.ldc2_w 74, 3) := by decide +kernel
theorem dX2_goOn_63 : decode cX2_goOn 63 = .ok (.lcmp, 1) := by decide +kernel
theorem dX2_goOn_64 : decode cX2_goOn 64 = .ok (.ifCond .ge 90, 3) := by decide +kernel
theorem dX2_goOn_67 : decode cX2_goOn 67 = .ok (.iload_n 1, 1) := by decide +kernel
theorem dX2_goOn_68 : decode cX2_goOn 68 = .ok (.aload_n 0, 1) := by decide +kernel
theorem dX2_goOn_69 : decode cX2_goOn 69 = .ok (.getfield 22, 3) := by decide +kernel
theorem dX2_goOn_72 : decode cX2_goOn 72 = .ok (.iload 5, 2) := by decide +kernel
theorem dX2_goOn_74 : decode cX2_goOn 74 = .ok (.iaload, 1) := by decide +kernel
theorem dX2_goOn_75 : decode cX2_goOn 75 = .ok (.isub, 1) := by decide +kernel
theorem dX2_goOn_76 : decode cX2_goOn 76 = .ok (.i2l, 1) := by decide +kernel
theorem dX2_goOn_77 : decode cX2_goOn 77 = .ok (.lstore 7, 2) := by decide +kernel
theorem dX2_goOn_79 : decode cX2_goOn 79 = .ok (.iload_n 2, 1) := by decide +kernel
theorem dX2_goOn_80 : decode cX2_goOn 80 = .ok (.aload_n 0, 1) := by decide +kernel
theorem dX2_goOn_81 : decode cX2_goOn 81 = .ok (.getfield 25, 3) := by decide +kernel
theorem dX2_goOn_84 : decode cX2_goOn 84 = .ok (.iload 5, 2) := by decide +kernel
theorem dX2_goOn_86 : decode cX2_goOn 86 = .ok (.iaload, 1) := by decide +kernel
theorem dX2_goOn_87 : decode cX2_goOn 87 = .ok (.isub, 1) := by decide +kernel
theorem dX2_goOn_88 : decode cX2_goOn 88 = .ok (.i2l, 1) := by decide +kernel
theorem dX2_goOn_89 : decode cX2_goOn 89 = .ok (.lstore 9, 2) := by decide +kernel
theorem dX2_goOn_91 : decode cX2_goOn 91 = .ok (.iload_n 3, 1) := by decide +kernel
theorem dX2_goOn_92 : decode cX2_goOn 92 = .ok (.ifCond .eq 23, 3) := by decide +kernel
theorem dX2_goOn_95 : decode cX2_goOn 95 = .ok (.ldc2_w 90, 3) := by decide +kernel
theorem dX2_goOn_98 : decode cX2_goOn 98 = .ok (.aload_n 0, 1) := by decide +kernel
theorem dX2_goOn_99 : decode cX2_goOn 99 = .ok (.getfield 32, 3) := by decide +kernel
theorem dX2_goOn_102 : decode cX2_goOn 102 = .ok (.iload 6, 2) := by decide +kernel
theorem dX2_goOn_104 : decode cX2_goOn 104 = .ok (.laload, 1) := by decide +kernel
theorem dX2_goOn_105 : decode cX2_goOn 105 = .ok (.lmul, 1) := by decide +kernel
theorem dX2_goOn_106 : decode cX2_goOn 106 = .ok (.iload 5, 2) := by decide +kernel
theorem dX2_goOn_108 : decode cX2_goOn 108 = .ok (.iconst 2, 1) := by decide +kernel
theorem dX2_goOn_109 : decode cX2_goOn 109 = .ok (.irem, 1) := by decide +kernel
theorem dX2_goOn_110 : decode cX2_goOn 110 = .ok (.i2l, 1) := by decide +kernel
theorem dX2_goOn_111 : decode cX2_goOn 111 = .ok (.ladd, 1) := by decide +kernel
theorem dX2_goOn_112 : decode cX2_goOn 112 = .ok (.goto 10, 3) := by decide +kernel
theorem dX2_goOn_115 : decode cX2_goOn 115 = .ok (.aload_n 0, 1) := by decide +kernel
theorem dX2_goOn_116 : decode cX2_goOn 116 = .ok (.getfield 32, 3) := by decide +kernel
theorem dX2_goOn_119 : decode cX2_goOn 119 = .ok (.iload 6, 2) := by decide +kernel
theorem dX2_goOn_121 : decode cX2_goOn 121 = .ok (.laload, 1) := by decide +kernel
theorem dX2_goOn_122 : decode cX2_goOn 122 = .ok (.lstore 11, 2) := by decide +kernel
theorem dX2_goOn_124 : decode cX2_goOn 124 = .ok (.aload_n 0, 1) := by decide +kernel
theorem dX2_goOn_125 : decode cX2_goOn 125 = .ok (.iload 5, 2) := by decide +kernel
theorem dX2_goOn_127 : decode cX2_goOn 127 = .ok (.bipush 32, 2) := by decide +kernel
theorem dX2_goOn_129 : decode cX2_goOn 129 = .ok (.irem, 1) := by decide +kernel
theorem dX2_goOn_130 : decode cX2_goOn 130 = .ok (.aload_n 0, 1) := by decide +kernel
theorem dX2_goOn_131 : decode cX2_goOn 131 = .ok (.getfield 28, 3) := by decide +kernel
theorem dX2_goOn_134 : decode cX2_goOn 134 = .ok (.iload 6, 2) := by decide +kernel
theorem dX2_goOn_136 : decode cX2_goOn 136 = .ok (.laload, 1) := by decide +kernel
theorem dX2_goOn_137 : decode cX2_goOn 137 = .ok (.lload 7, 2) := by decide +kernel
theorem dX2_goOn_139 : decode cX2_goOn 139 = .ok (.lload 7, 2) := by decide +kernel
theorem dX2_goOn_141 : decode cX2_goOn 141 = .ok (.lmul, 1) := by decide +kernel
theorem dX2_goOn_142 : decode cX2_goOn 142 = .ok (.ladd, 1) := by decide +kernel
theorem dX2_goOn_143 : decode cX2_goOn 143 = .ok (.lload 9, 2) := by decide +kernel
theorem dX2_goOn_145 : decode cX2_goOn 145 = .ok (.lload 9, 2) := by decide +kernel
theorem dX2_goOn_147 : decode cX2_goOn 147 = .ok (.lmul, 1) := by decide +kernel
theorem dX2_goOn_148 : decode cX2_goOn 148 = .ok (.ladd, 1) := by decide +kernel
theorem dX2_goOn_149 : decode cX2_goOn 149 = .ok (.lload 11, 2) := by decide +kernel
theorem dX2_goOn_151 : decode cX2_goOn 151 = .ok (.invokevirtual 92, 3) := by decide +kernel
theorem dX2_goOn_154 : decode cX2_goOn 154 = .ok (.iload 5, 2) := by decide +kernel
theorem dX2_goOn_156 : decode cX2_goOn 156 = .ok (.iload 4, 2) := by decide +kernel
theorem dX2_goOn_158 : decode cX2_goOn 158 = .ok (.iadd, 1) := by decide +kernel
theorem dX2_goOn_159 : decode cX2_goOn 159 = .ok (.istore 5, 2) := by decide +kernel
theorem dX2_goOn_161 : decode cX2_goOn 161 = .ok (.goto (-121), 3) := by decide +kernel
theorem dX2_goOn_164 : decode cX2_goOn 164 = .ok (.aload_n 0, 1) := by decide +kernel
theorem dX2_goOn_165 : decode cX2_goOn 165 = .ok (.getfield 35, 3) := by decide +kernel
theorem dX2_goOn_168 : decode cX2_goOn 168 = .ok (.iconst 0, 1) := by decide +kernel
theorem dX2_goOn_169 : decode cX2_goOn 169 = .ok (.aload_n 0, 1) := by decide +kernel
theorem dX2_goOn_170 : decode cX2_goOn 170 = .ok (.getfield 28, 3) := by decide +kernel
theorem dX2_goOn_173 : decode cX2_goOn 173 = .ok (.iconst 0, 1) := by decide +kernel
theorem dX2_goOn_174 : decode cX2_goOn 174 = .ok (.bipush 32, 2) := by decide +kernel
theorem dX2_goOn_176 : decode cX2_goOn 176 = .ok (.invokestatic 96, 3) := by decide +kernel
theorem dX2_goOn_179 : decode cX2_goOn 179 = .ok (.aload_n 0, 1) := by decide +kernel
theorem dX2_goOn_180 : decode cX2_goOn 180 = .ok (.getfield 38, 3) := by decide +kernel
theorem dX2_goOn_183 : decode cX2_goOn 183 = .ok (.iconst 0, 1) := by decide +kernel
theorem dX2_goOn_184 : decode cX2_goOn 184 = .ok (.aload_n 0, 1) := by decide +kernel
theorem dX2_goOn_185 : decode cX2_goOn 185 = .ok (.getfield 32, 3) := by decide +kernel
theorem dX2_goOn_188 : decode cX2_goOn 188 = .ok (.iconst 0, 1) := by decide +kernel
theorem dX2_goOn_189 : decode cX2_goOn 189 = .ok (.bipush 32, 2) := by decide +kernel
theorem dX2_goOn_191 : decode cX2_goOn 191 = .ok (.invokestatic 96, 3) := by decide +kernel
theorem dX2_goOn_194 : decode cX2_goOn 194 = .ok (.return_, 1) := by decide +kernel
theorem dX2_offer_0 : decode cX2_offer 0 = .ok (.iload_n 1, 1) := by decide +kernel
theorem dX2_offer_1 : decode cX2_offer 1 = .ok (.iconst 0, 1) := by decide +kernel
theorem dX2_offer_2 : decode cX2_offer 2 = .ok (.bipush 31, 2) := by decide +kernel
theorem dX2_offer_4 : decode cX2_offer 4 = .ok (.invokestatic 102, 3) := by decide +kernel
theorem dX2_offer_7 : decode cX2_offer 7 = .ok (.ifCond .ne 4, 3) := by decide +kernel
theorem dX2_offer_10 : decode cX2_offer 10 = .ok (.return_, 1) := by decide +kernel
theorem dX2_offer_11 : decode cX2_offer 11 = .ok (.lload_n 2, 1) := by decide +kernel
theorem dX2_offer_12 : decode cX2_offer 12 = .ok (.aload_n 0, 1) := by decide +kernel
theorem dX2_offer_13 : decode cX2_offer 13 = .ok (.getfield 35, 3) := by decide +kernel
theorem dX2_offer_16 : decode cX2_offer 16 = .ok (.iload_n 1, 1) := by decide +kernel
theorem dX2_offer_17 : decode cX2_offer 17 = .ok (.laload, 1) := by decide +kernel
theorem dX2_offer_18 : decode cX2_offer 18 = .ok (.lcmp, 1) := by decide +kernel
theorem dX2_offer_19 : decode cX2_offer 19 = .ok (.ifCond .lt 26, 3) := by decide +kernel
theorem dX2_offer_22 : decode cX2_offer 22 = .ok (.lload_n 2, 1) := by decide +kernel
theorem dX2_offer_23 : decode cX2_offer 23 = .ok (.aload_n 0, 1) := by decide +kernel
theorem dX2_offer_24 : decode cX2_offer 24 = .ok (.getfield 35, 3) := by decide +kernel
theorem dX2_offer_27 : decode cX2_offer 27 = .ok (.iload_n 1, 1) := by decide +kernel
theorem dX2_offer_28 : decode cX2_offer 28 = .ok (.laload, 1) := by decide +kernel
theorem dX2_offer_29 : decode cX2_offer 29 = .ok (.lcmp, 1) := by decide +kernel
theorem dX2_offer_30 : decode cX2_offer 30 = .ok (.ifCond .ne 30, 3) := by decide +kernel
theorem dX2_offer_33 : decode cX2_offer 33 = .ok (.lload 4, 2) := by decide +kernel
theorem dX2_offer_35 : decode cX2_offer 35 = .ok (.aload_n 0, 1) := by decide +kernel
theorem dX2_offer_36 : decode cX2_offer 36 = .ok (.getfield 38, 3) := by decide +kernel
theorem dX2_offer_39 : decode cX2_offer 39 = .ok (.iload_n 1, 1) := by decide +kernel
theorem dX2_offer_40 : decode cX2_offer 40 = .ok (.laload, 1) := by decide +kernel
theorem dX2_offer_41 : decode cX2_offer 41 = .ok (.lcmp, 1) := by decide +kernel
theorem dX2_offer_42 : decode cX2_offer 42 = .ok (.ifCond .ge 18, 3) := by decide +kernel
theorem dX2_offer_45 : decode cX2_offer 45 = .ok (.aload_n 0, 1) := by decide +kernel
theorem dX2_offer_46 : decode cX2_offer 46 = .ok (.getfield 35, 3) := by decide +kernel
theorem dX2_offer_49 : decode cX2_offer 49 = .ok (.iload_n 1, 1) := by decide +kernel
theorem dX2_offer_50 : decode cX2_offer 50 = .ok (.lload_n 2, 1) := by decide +kernel
theorem dX2_offer_51 : decode cX2_offer 51 = .ok (.lastore, 1) := by decide +kernel
theorem dX2_offer_52 : decode cX2_offer 52 = .ok (.aload_n 0, 1) := by decide +kernel
theorem dX2_offer_53 : decode cX2_offer 53 = .ok (.getfield 38, 3) := by decide +kernel
theorem dX2_offer_56 : decode cX2_offer 56 = .ok (.iload_n 1, 1) := by decide +kernel
theorem dX2_offer_57 : decode cX2_offer 57 = .ok (.lload 4, 2) := by decide +kernel
theorem dX2_offer_59 : decode cX2_offer 59 = .ok (.lastore, 1) := by decide +kernel
theorem dX2_offer_60 : decode cX2_offer 60 = .ok (.return_, 1) := by decide +kernel
theorem dX2_settle_0 : decode cX2_settle 0 = .ok (.aload_n 0, 1) := by decide +kernel
theorem dX2_settle_1 : decode cX2_settle 1 = .ok (.aload_n 0, 1) := by decide +kernel
theorem dX2_settle_2 : decode cX2_settle 2 = .ok (.getfield 28, 3) := by decide +kernel
theorem dX2_settle_5 : decode cX2_settle 5 = .ok (.iconst 0, 1) := by decide +kernel
theorem dX2_settle_6 : decode cX2_settle 6 = .ok (.laload, 1) := by decide +kernel
theorem dX2_settle_7 : decode cX2_settle 7 = .ok (.putfield 15, 3) := by decide +kernel
theorem dX2_settle_10 : decode cX2_settle 10 = .ok (.aload_n 0, 1) := by decide +kernel
theorem dX2_settle_11 : decode cX2_settle 11 = .ok (.aload_n 0, 1) := by decide +kernel
theorem dX2_settle_12 : decode cX2_settle 12 = .ok (.getfield 32, 3) := by decide +kernel
theorem dX2_settle_15 : decode cX2_settle 15 = .ok (.iconst 0, 1) := by decide +kernel
theorem dX2_settle_16 : decode cX2_settle 16 = .ok (.laload, 1) := by decide +kernel
theorem dX2_settle_17 : decode cX2_settle 17 = .ok (.putfield 19, 3) := by decide +kernel
theorem dX2_settle_20 : decode cX2_settle 20 = .ok (.iconst 1, 1) := by decide +kernel
theorem dX2_settle_21 : decode cX2_settle 21 = .ok (.istore_n 1, 1) := by decide +kernel
theorem dX2_settle_22 : decode cX2_settle 22 = .ok (.iload_n 1, 1) := by decide +kernel
theorem dX2_settle_23 : decode cX2_settle 23 = .ok (.bipush 32, 2) := by decide +kernel
theorem dX2_settle_25 : decode cX2_settle 25 = .ok (.if_icmp .ge 71, 3) := by decide +kernel
theorem dX2_settle_28 : decode cX2_settle 28 = .ok (.aload_n 0, 1) := by decide +kernel
theorem dX2_settle_29 : decode cX2_settle 29 = .ok (.getfield 28, 3) := by decide +kernel
theorem dX2_settle_32 : decode cX2_settle 32 = .ok (.iload_n 1, 1) := by decide +kernel
theorem dX2_settle_33 : decode cX2_settle 33 = .ok (.laload, 1) := by decide +kernel
theorem dX2_settle_34 : decode cX2_settle 34 = .ok (.aload_n 0, 1) := by decide +kernel
theorem dX2_settle_35 : decode cX2_settle 35 = .ok (.getfield 15, 3) := by decide +kernel
theorem dX2_settle_38 : decode cX2_settle 38 = .ok (.lcmp, 1) := by decide +kernel
theorem dX2_settle_39 : decode cX2_settle 39 = .ok (.ifCond .lt 31, 3) := by decide +kernel
theorem dX2_settle_42 : decode cX2_settle 42 = .ok (.aload_n 0, 1) := by decide +kernel
theorem dX2_settle_43 : decode cX2_settle 43 = .ok (.getfield 28, 3) := by decide +kernel
theorem dX2_settle_46 : decode cX2_settle 46 = .ok (.iload_n 1, 1) := by decide +kernel
theorem dX2_settle_47 : decode cX2_settle 47 = .ok (.laload, 1) := by decide +kernel
theorem dX2_settle_48 : decode cX2_settle 48 = .ok (.aload_n 0, 1) := by decide +kernel
theorem dX2_settle_49 : decode cX2_settle 49 = .ok (.getfield 15, 3) := by decide +kernel
theorem dX2_settle_52 : decode cX2_settle 52 = .ok (.lcmp, 1) := by decide +kernel
theorem dX2_settle_53 : decode cX2_settle 53 = .ok (.ifCond .ne 37, 3) := by decide +kernel
theorem dX2_settle_56 : decode cX2_settle 56 = .ok (.aload_n 0, 1) := by decide +kernel
theorem dX2_settle_57 : decode cX2_settle 57 = .ok (.getfield 32, 3) := by decide +kernel
theorem dX2_settle_60 : decode cX2_settle 60 = .ok (.iload_n 1, 1) := by decide +kernel
theorem dX2_settle_61 : decode cX2_settle 61 = .ok (.laload, 1) := by decide +kernel
theorem dX2_settle_62 : decode cX2_settle 62 = .ok (.aload_n 0, 1) := by decide +kernel
theorem dX2_settle_63 : decode cX2_settle 63 = .ok (.getfield 19, 3) := by decide +kernel
theorem dX2_settle_66 : decode cX2_settle 66 = .ok (.lcmp, 1) := by decide +kernel
theorem dX2_settle_67 : decode cX2_settle 67 = .ok (.ifCond .ge 23, 3) := by decide +kernel
theorem dX2_settle_70 : decode cX2_settle 70 = .ok (.aload_n 0, 1) := by decide +kernel
theorem dX2_settle_71 : decode cX2_settle 71 = .ok (.aload_n 0, 1) := by decide +kernel
theorem dX2_settle_72 : decode cX2_settle 72 = .ok (.getfield 28, 3) := by decide +kernel
theorem dX2_settle_75 : decode cX2_settle 75 = .ok (.iload_n 1, 1) := by decide +kernel
theorem dX2_settle_76 : decode cX2_settle 76 = .ok (.laload, 1) := by decide +kernel
theorem dX2_settle_77 : decode cX2_settle 77 = .ok (.putfield 15, 3) := by decide +kernel
theorem dX2_settle_80 : decode cX2_settle 80 = .ok (.aload_n 0, 1) := by decide +kernel
theorem dX2_settle_81 : decode cX2_settle 81 = .ok (.aload_n 0, 1) := by decide +kernel
theorem dX2_settle_82 : decode cX2_settle 82 = .ok (.getfield 32, 3) := by decide +kernel
theorem dX2_settle_85 : decode cX2_settle 85 = .ok (.iload_n 1, 1) := by decide +kernel
theorem dX2_settle_86 : decode cX2_settle 86 = .ok (.laload, 1) := by decide +kernel
theorem dX2_settle_87 : decode cX2_settle 87 = .ok (.putfield 19, 3) := by decide +kernel
theorem dX2_settle_90 : decode cX2_settle 90 = .ok (.iinc 1 1, 3) := by decide +kernel
theorem dX2_settle_93 : decode cX2_settle 93 = .ok (.goto (-71), 3) := by decide +kernel
theorem dX2_settle_96 : decode cX2_settle 96 = .ok (.return_, 1) := by decide +kernel
theorem dX3_init_0 : decode cX3_init 0 = .ok (.aload_n 0, 1) := by decide +kernel
theorem dX3_init_1 : decode cX3_init 1 = .ok (.invokespecial 3, 3) := by decide +kernel
theorem dX3_init_4 : decode cX3_init 4 = .ok (.aload_n 0, 1) := by decide +kernel
theorem dX3_init_5 : decode cX3_init 5 = .ok (.lconst 0, 1) := by decide +kernel
theorem dX3_init_6 : decode cX3_init 6 = .ok (.putfield 9, 3) := by decide +kernel
theorem dX3_init_9 : decode cX3_init 9 = .ok (.aload_n 0, 1) := by decide +kernel
theorem dX3_init_10 : decode cX3_init 10 = .ok (.lconst 0, 1) := by decide +kernel
theorem dX3_init_11 : decode cX3_init 11 = .ok (.putfield 15, 3) := by decide +kernel
theorem dX3_init_14 : decode cX3_init 14 = .ok (.aload_n 0, 1) := by decide +kernel
theorem dX3_init_15 : decode cX3_init 15 = .ok (.iconst 0, 1) := by decide +kernel
theorem dX3_init_16 : decode cX3_init 16 = .ok (.putfield 18, 3) := by decide +kernel
theorem dX3_init_19 : decode cX3_init 19 = .ok (.aload_n 0, 1) := by decide +kernel
theorem dX3_init_20 : decode cX3_init 20 = .ok (.iconst 0, 1) := by decide +kernel
theorem dX3_init_21 : decode cX3_init 21 = .ok (.putfield 22, 3) := by decide +kernel
theorem dX3_init_24 : decode cX3_init 24 = .ok (.aload_n 0, 1) := by decide +kernel
theorem dX3_init_25 : decode cX3_init 25 = .ok (.bipush 13, 2) := by decide +kernel
theorem dX3_init_27 : decode cX3_init 27 = .ok (.putfield 25, 3) := by decide +kernel
theorem dX3_init_30 : decode cX3_init 30 = .ok (.aload_n 0, 1) := by decide +kernel
theorem dX3_init_31 : decode cX3_init 31 = .ok (.bipush 15, 2) := by decide +kernel
theorem dX3_init_33 : decode cX3_init 33 = .ok (.putfield 28, 3) := by decide +kernel
theorem dX3_init_36 : decode cX3_init 36 = .ok (.aload_n 0, 1) := by decide +kernel
theorem dX3_init_37 : decode cX3_init 37 = .ok (.bipush 10, 2) := by decide +kernel
theorem dX3_init_39 : decode cX3_init 39 = .ok (.putfield 31, 3) := by decide +kernel
theorem dX3_init_42 : decode cX3_init 42 = .ok (.aload_n 0, 1) := by decide +kernel
theorem dX3_init_43 : decode cX3_init 43 = .ok (.bipush 8, 2) := by decide +kernel
theorem dX3_init_45 : decode cX3_init 45 = .ok (.putfield 34, 3) := by decide +kernel
theorem dX3_init_48 : decode cX3_init 48 = .ok (.aload_n 0, 1) := by decide +kernel
theorem dX3_init_49 : decode cX3_init 49 = .ok (.sipush 212, 3) := by decide +kernel
theorem dX3_init_52 : decode cX3_init 52 = .ok (.putfield 37, 3) := by decide +kernel
theorem dX3_init_55 : decode cX3_init 55 = .ok (.return_, 1) := by decide +kernel
theorem dX3_append_0 : decode cX3_append 0 = .ok (.aload_n 0, 1) := by decide +kernel
theorem dX3_append_1 : decode cX3_append 1 = .ok (.aload_n 0, 1) := by decide +kernel
theorem dX3_append_2 : decode cX3_append 2 = .ok (.getfield 9, 3) := by decide +kernel
theorem dX3_append_5 : decode cX3_append 5 = .ok (.iload_n 3, 1) := by decide +kernel
theorem dX3_append_6 : decode cX3_append 6 = .ok (.lshl, 1) := by decide +kernel
theorem dX3_append_7 : decode cX3_append 7 = .ok (.lload_n 1, 1) := by decide +kernel
theorem dX3_append_8 : decode cX3_append 8 = .ok (.lconst 1, 1) := by decide +kernel
theorem dX3_append_9 : decode cX3_append 9 = .ok (.iload_n 3, 1) := by decide +kernel
theorem dX3_append_10 : decode cX3_append 10 = .ok (.lshl, 1) := by decide +kernel
theorem dX3_append_11 : decode cX3_append 11 = .ok (.lconst 1, 1) := by decide +kernel
theorem dX3_append_12 : decode cX3_append 12 = .ok (.lsub, 1) := by decide +kernel
theorem dX3_append_13 : decode cX3_append 13 = .ok (.land, 1) := by decide +kernel
theorem dX3_append_14 : decode cX3_append 14 = .ok (.lor, 1) := by decide +kernel
theorem dX3_append_15 : decode cX3_append 15 = .ok (.putfield 9, 3) := by decide +kernel
theorem dX3_append_18 : decode cX3_append 18 = .ok (.aload_n 0, 1) := by decide +kernel
theorem dX3_append_19 : decode cX3_append 19 = .ok (.dup, 1) := by decide +kernel
theorem dX3_append_20 : decode cX3_append 20 = .ok (.getfield 18, 3) := by decide +kernel
theorem dX3_append_23 : decode cX3_append 23 = .ok (.iload_n 3, 1) := by decide +kernel
theorem dX3_append_24 : decode cX3_append 24 = .ok (.iadd, 1) := by decide +kernel
theorem dX3_append_25 : decode cX3_append 25 = .ok (.putfield 18, 3) := by decide +kernel
theorem dX3_append_28 : decode cX3_append 28 = .ok (.aload_n 0, 1) := by decide +kernel
theorem dX3_append_29 : decode cX3_append 29 = .ok (.aload_n 0, 1) := by decide +kernel
theorem dX3_append_30 : decode cX3_append 30 = .ok (.getfield 9, 3) := by decide +kernel
theorem dX3_append_33 : decode cX3_append 33 = .ok (.aload_n 0, 1) := by decide +kernel
theorem dX3_append_34 : decode cX3_append 34 = .ok (.getfield 18, 3) := by decide +kernel
theorem dX3_append_37 : decode cX3_append 37 = .ok (.aload_n 0, 1) := by decide +kernel
theorem dX3_append_38 : decode cX3_append 38 = .ok (.getfield 22, 3) := by decide +kernel
theorem dX3_append_41 : decode cX3_append 41 = .ok (.invokestatic 40, 3) := by decide +kernel
theorem dX3_append_44 : decode cX3_append 44 = .ok (.putfield 15, 3) := by decide +kernel
theorem dX3_append_47 : decode cX3_append 47 = .ok (.return_, 1) := by decide +kernel
theorem dX3_empty_0 : decode cX3_empty 0 = .ok (.aload_n 0, 1) := by decide +kernel
theorem dX3_empty_1 : decode cX3_empty 1 = .ok (.lconst 0, 1) := by decide +kernel
theorem dX3_empty_2 : decode cX3_empty 2 = .ok (.putfield 9, 3) := by decide +kernel
theorem dX3_empty_5 : decode cX3_empty 5 = .ok (.aload_n 0, 1) := by decide +kernel
theorem dX3_empty_6 : decode cX3_empty 6 = .ok (.lconst 0, 1) := by decide +kernel
theorem dX3_empty_7 : decode cX3_empty 7 = .ok (.putfield 15, 3) := by decide +kernel
theorem dX3_empty_10 : decode cX3_empty 10 = .ok (.aload_n 0, 1) := by decide +kernel
theorem dX3_empty_11 : decode cX3_empty 11 = .ok (.iconst 0, 1) := by decide +kernel
theorem dX3_empty_12 : decode cX3_empty 12 = .ok (.putfield 18, 3) := by decide +kernel
theorem dX3_empty_15 : decode cX3_empty 15 = .ok (.return_, 1) := by decide +kernel
theorem dX3_setMask_0 : decode cX3_setMask 0 = .ok (.aload_n 0, 1) := by decide +kernel
theorem dX3_setMask_1 : decode cX3_setMask 1 = .ok (.iload_n 1, 1) := by decide +kernel
theorem dX3_setMask_2 : decode cX3_setMask 2 = .ok (.putfield 22, 3) := by decide +kernel
theorem dX3_setMask_5 : decode cX3_setMask 5 = .ok (.aload_n 0, 1) := by decide +kernel
theorem dX3_setMask_6 : decode cX3_setMask 6 = .ok (.aload_n 0, 1) := by decide +kernel
theorem dX3_setMask_7 : decode cX3_setMask 7 = .ok (.getfield 9, 3) := by decide +kernel
theorem dX3_setMask_10 : decode cX3_setMask 10 = .ok (.aload_n 0, 1) := by decide +kernel
theorem dX3_setMask_11 : decode cX3_setMask 11 = .ok (.getfield 18, 3) := by decide +kernel
theorem dX3_setMask_14 : decode cX3_setMask 14 = .ok (.aload_n 0, 1) := by decide +kernel
theorem dX3_setMask_15 : decode cX3_setMask 15 = .ok (.getfield 22, 3) := by decide +kernel
theorem dX3_setMask_18 : decode cX3_setMask 18 = .ok (.invokestatic 40, 3) := by decide +kernel
theorem dX3_setMask_21 : decode cX3_setMask 21 = .ok (.putfield 15, 3) := by decide +kernel
theorem dX3_setMask_24 : decode cX3_setMask 24 = .ok (.return_, 1) := by decide +kernel
theorem dX3_steps_0 : decode cX3_steps 0 = .ok (.aload_n 0, 1) := by decide +kernel
theorem dX3_steps_1 : decode cX3_steps 1 = .ok (.getfield 18, 3) := by decide +kernel
theorem dX3_steps_4 : decode cX3_steps 4 = .ok (.iconst 3, 1) := by decide +kernel
theorem dX3_steps_5 : decode cX3_steps 5 = .ok (.iadd, 1) := by decide +kernel
theorem dX3_steps_6 : decode cX3_steps 6 = .ok (.ireturn, 1) := by decide +kernel
theorem dX3_frameSize_0 : decode cX3_frameSize 0 = .ok (.aload_n 0, 1) := by decide +kernel
theorem dX3_frameSize_1 : decode cX3_frameSize 1 = .ok (.getfield 34, 3) := by decide +kernel
theorem dX3_frameSize_4 : decode cX3_frameSize 4 = .ok (.iconst 2, 1) := by decide +kernel
theorem dX3_frameSize_5 : decode cX3_frameSize 5 = .ok (.aload_n 0, 1) := by decide +kernel
theorem dX3_frameSize_6 : decode cX3_frameSize 6 = .ok (.invokevirtual 44, 3) := by decide +kernel
theorem dX3_frameSize_9 : decode cX3_frameSize 9 = .ok (.imul, 1) := by decide +kernel
theorem dX3_frameSize_10 : decode cX3_frameSize 10 = .ok (.iadd, 1) := by decide +kernel
theorem dX3_frameSize_11 : decode cX3_frameSize 11 = .ok (.ireturn, 1) := by decide +kernel
theorem dX3_sign_0 : decode cX3_sign 0 = .ok (.iload_n 1, 1) := by decide +kernel
theorem dX3_sign_1 : decode cX3_sign 1 = .ok (.iconst 0, 1) := by decide +kernel
theorem dX3_sign_2 : decode cX3_sign 2 = .ok (.aload_n 0, 1) := by decide +kernel
theorem dX3_sign_3 : decode cX3_sign 3 = .ok (.getfield 34, 3) := by decide +kernel
theorem dX3_sign_6 : decode cX3_sign 6 = .ok (.iconst 1, 1) := by decide +kernel
theorem dX3_sign_7 : decode cX3_sign 7 = .ok (.isub, 1) := by decide +kernel
theorem dX3_sign_8 : decode cX3_sign 8 = .ok (.invokestatic 48, 3) := by decide +kernel
theorem dX3_sign_11 : decode cX3_sign 11 = .ok (.ifCond .ne 5, 3) := by decide +kernel
theorem dX3_sign_14 : decode cX3_sign 14 = .ok (.iconst 0, 1) := by decide +kernel
theorem dX3_sign_15 : decode cX3_sign 15 = .ok (.ireturn, 1) := by decide +kernel
theorem dX3_sign_16 : decode cX3_sign 16 = .ok (.aload_n 0, 1) := by decide +kernel
theorem dX3_sign_17 : decode cX3_sign 17 = .ok (.getfield 37, 3) := by decide +kernel
theorem dX3_sign_20 : decode cX3_sign 20 = .ok (.i2l, 1) := by decide +kernel
theorem dX3_sign_21 : decode cX3_sign 21 = .ok (.aload_n 0, 1) := by decide +kernel
theorem dX3_sign_22 : decode cX3_sign 22 = .ok (.getfield 34, 3) := by decide +kernel
theorem dX3_sign_25 : decode cX3_sign 25 = .ok (.iload_n 1, 1) := by decide +kernel
theorem dX3_sign_26 : decode cX3_sign 26 = .ok (.invokestatic 52, 3) := by decide +kernel
theorem dX3_sign_29 : decode cX3_sign 29 = .ok (.iconst 1, 1) := by decide +kernel
theorem dX3_sign_30 : decode cX3_sign 30 = .ok (.if_icmp .ne 7, 3) := by decide +kernel
theorem dX3_sign_33 : decode cX3_sign 33 = .ok (.iconst 1, 1) := by decide +kernel
theorem dX3_sign_34 : decode cX3_sign 34 = .ok (.goto 4, 3) := by decide +kernel
theorem dX3_sign_37 : decode cX3_sign 37 = .ok (.iconst (-1), 1) := by decide +kernel
theorem dX3_sign_38 : decode cX3_sign 38 = .ok (.ireturn, 1) := by decide +kernel
theorem dX3_codeVoice_0 : decode cX3_codeVoice 0 = .ok (.iload_n 3, 1) := by decide +kernel
theorem dX3_codeVoice_1 : decode cX3_codeVoice 1 = .ok (.ifCond .ne 10, 3) := by decide +kernel
theorem dX3_codeVoice_4 : decode cX3_codeVoice 4 = .ok (.aload_n 0, 1) := by decide +kernel
theorem dX3_codeVoice_5 : decode cX3_codeVoice 5 = .ok (.getfield 25, 3) := by decide +kernel
theorem dX3_codeVoice_8 : decode cX3_codeVoice 8 = .ok (.goto 7, 3) := by decide +kernel
theorem dX3_codeVoice_11 : decode cX3_codeVoice 11 = .ok (.aload_n 0, 1) := by decide +kernel
theorem dX3_codeVoice_12 : decode cX3_codeVoice 12 = .ok (.getfield 28, 3) := by decide +kernel
theorem dX3_codeVoice_15 : decode cX3_codeVoice 15 = .ok (.istore 4, 2) := by decide +kernel
theorem dX3_codeVoice_17 : decode cX3_codeVoice 17 = .ok (.lload_n 1, 1) := by decide +kernel
theorem dX3_codeVoice_18 : decode cX3_codeVoice 18 = .ok (.iload 4, 2) := by decide +kernel
theorem dX3_codeVoice_20 : decode cX3_codeVoice 20 = .ok (.i2l, 1) := by decide +kernel
theorem dX3_codeVoice_21 : decode cX3_codeVoice 21 = .ok (.land, 1) := by decide +kernel
theorem dX3_codeVoice_22 : decode cX3_codeVoice 22 = .ok (.invokestatic 56, 3) := by decide +kernel
theorem dX3_codeVoice_25 : decode cX3_codeVoice 25 = .ok (.iconst 1, 1) := by decide +kernel
theorem dX3_codeVoice_26 : decode cX3_codeVoice 26 = .ok (.if_icmp .ne 10, 3) := by decide +kernel
theorem dX3_codeVoice_29 : decode cX3_codeVoice 29 = .ok (.aload_n 0, 1) := by decide +kernel
theorem dX3_codeVoice_30 : decode cX3_codeVoice 30 = .ok (.getfield 31, 3) := by decide +kernel
theorem dX3_codeVoice_33 : decode cX3_codeVoice 33 = .ok (.goto 8, 3) := by decide +kernel
theorem dX3_codeVoice_36 : decode cX3_codeVoice 36 = .ok (.aload_n 0, 1) := by decide +kernel
theorem dX3_codeVoice_37 : decode cX3_codeVoice 37 = .ok (.getfield 31, 3) := by decide +kernel
theorem dX3_codeVoice_40 : decode cX3_codeVoice 40 = .ok (.ineg, 1) := by decide +kernel
theorem dX3_codeVoice_41 : decode cX3_codeVoice 41 = .ok (.ireturn, 1) := by decide +kernel
theorem dX3_frameVoice_0 : decode cX3_frameVoice 0 = .ok (.iload_n 1, 1) := by decide +kernel
theorem dX3_frameVoice_1 : decode cX3_frameVoice 1 = .ok (.aload_n 0, 1) := by decide +kernel
theorem dX3_frameVoice_2 : decode cX3_frameVoice 2 = .ok (.getfield 34, 3) := by decide +kernel
theorem dX3_frameVoice_5 : decode cX3_frameVoice 5 = .ok (.if_icmp .ge 14, 3) := by decide +kernel
theorem dX3_frameVoice_8 : decode cX3_frameVoice 8 = .ok (.aload_n 0, 1) := by decide +kernel
theorem dX3_frameVoice_9 : decode cX3_frameVoice 9 = .ok (.iload_n 1, 1) := by decide +kernel
theorem dX3_frameVoice_10 : decode cX3_frameVoice 10 = .ok (.invokevirtual 60, 3) := by decide +kernel
theorem dX3_frameVoice_13 : decode cX3_frameVoice 13 = .ok (.aload_n 0, 1) := by decide +kernel
theorem dX3_frameVoice_14 : decode cX3_frameVoice 14 = .ok (.getfield 31, 3) := by decide +kernel
theorem dX3_frameVoice_17 : decode cX3_frameVoice 17 = .ok (.imul, 1) := by decide +kernel
theorem dX3_frameVoice_18 : decode cX3_frameVoice 18 = .ok (.ireturn, 1) := by decide +kernel
theorem dX3_frameVoice_19 : decode cX3_frameVoice 19 = .ok (.iload_n 1, 1) := by decide +kernel
theorem dX3_frameVoice_20 : decode cX3_frameVoice 20 = .ok (.aload_n 0, 1) := by decide +kernel
theorem dX3_frameVoice_21 : decode cX3_frameVoice 21 = .ok (.getfield 34, 3) := by decide +kernel
theorem dX3_frameVoice_24 : decode cX3_frameVoice 24 = .ok (.isub, 1) := by decide +kernel
theorem dX3_frameVoice_25 : decode cX3_frameVoice 25 = .ok (.istore_n 2, 1) := by decide +kernel
theorem dX3_frameVoice_26 : decode cX3_frameVoice 26 = .ok (.iload_n 2, 1) := by decide +kernel
theorem dX3_frameVoice_27 : decode cX3_frameVoice 27 = .ok (.iconst 2, 1) := by decide +kernel
theorem dX3_frameVoice_28 : decode cX3_frameVoice 28 = .ok (.idiv, 1) := by decide +kernel
theorem dX3_frameVoice_29 : decode cX3_frameVoice 29 = .ok (.istore_n 3, 1) := by decide +kernel
theorem dX3_frameVoice_30 : decode cX3_frameVoice 30 = .ok (.iload_n 3, 1) := by decide +kernel
theorem dX3_frameVoice_31 : decode cX3_frameVoice 31 = .ok (.aload_n 0, 1) := by decide +kernel
theorem dX3_frameVoice_32 : decode cX3_frameVoice 32 = .ok (.invokevirtual 44, 3) := by decide +kernel
theorem dX3_frameVoice_35 : decode cX3_frameVoice 35 = .ok (.if_icmp .lt 5, 3) := by decide +kernel
theorem dX3_frameVoice_38 : decode cX3_frameVoice 38 = .ok (.iconst 0, 1) := by decide +kernel
theorem dX3_frameVoice_39 : decode cX3_frameVoice 39 = .ok (.ireturn, 1) := by decide +kernel
theorem dX3_frameVoice_40 : decode cX3_frameVoice 40 = .ok (.aload_n 0, 1) := by decide +kernel
theorem dX3_frameVoice_41 : decode cX3_frameVoice 41 = .ok (.getfield 15, 3) := by decide +kernel
theorem dX3_frameVoice_44 : decode cX3_frameVoice 44 = .ok (.iconst 3, 1) := by decide +kernel
theorem dX3_frameVoice_45 : decode cX3_frameVoice 45 = .ok (.lshl, 1) := by decide +kernel
theorem dX3_frameVoice_46 : decode cX3_frameVoice 46 = .ok (.lstore 4, 2) := by decide +kernel
theorem dX3_frameVoice_48 : decode cX3_frameVoice 48 = .ok (.aload_n 0, 1) := by decide +kernel
theorem dX3_frameVoice_49 : decode cX3_frameVoice 49 = .ok (.lload 4, 2) := by decide +kernel
theorem dX3_frameVoice_51 : decode cX3_frameVoice 51 = .ok (.aload_n 0, 1) := by decide +kernel
theorem dX3_frameVoice_52 : decode cX3_frameVoice 52 = .ok (.invokevirtual 44, 3) := by decide +kernel
theorem dX3_frameVoice_55 : decode cX3_frameVoice 55 = .ok (.iconst 1, 1) := by decide +kernel
theorem dX3_frameVoice_56 : decode cX3_frameVoice 56 = .ok (.isub, 1) := by decide +kernel
theorem dX3_frameVoice_57 : decode cX3_frameVoice 57 = .ok (.iload_n 3, 1) := by decide +kernel
theorem dX3_frameVoice_58 : decode cX3_frameVoice 58 = .ok (.isub, 1) := by decide +kernel
theorem dX3_frameVoice_59 : decode cX3_frameVoice 59 = .ok (.lshr, 1) := by decide +kernel
theorem dX3_frameVoice_60 : decode cX3_frameVoice 60 = .ok (.iload_n 2, 1) := by decide +kernel
theorem dX3_frameVoice_61 : decode cX3_frameVoice 61 = .ok (.iconst 2, 1) := by decide +kernel
theorem dX3_frameVoice_62 : decode cX3_frameVoice 62 = .ok (.irem, 1) := by decide +kernel
theorem dX3_frameVoice_63 : decode cX3_frameVoice 63 = .ok (.invokevirtual 64, 3) := by decide +kernel
theorem dX3_frameVoice_66 : decode cX3_frameVoice 66 = .ok (.ireturn, 1) := by decide +kernel
theorem dJ13_bitCount_95d88_0 : decode cJ13_bitCount_95d88 0 = .ok (.lload_n 0, 1) := by decide +kernel
theorem dJ13_bitCount_95d88_1 : decode cJ13_bitCount_95d88 1 = .ok (.lload_n 0, 1) := by decide +kernel
theorem dJ13_bitCount_95d88_2 : decode cJ13_bitCount_95d88 2 = .ok (.iconst 1, 1) := by decide +kernel
theorem dJ13_bitCount_95d88_3 : decode cJ13_bitCount_95d88 3 = .ok (.lushr, 1) := by decide +kernel
theorem dJ13_bitCount_95d88_4 : decode cJ13_bitCount_95d88 4 = .ok (.ldc2_w 314, 3) := by decide +kernel
theorem dJ13_bitCount_95d88_7 : decode cJ13_bitCount_95d88 7 = .ok (.land, 1) := by decide +kernel
theorem dJ13_bitCount_95d88_8 : decode cJ13_bitCount_95d88 8 = .ok (.lsub, 1) := by decide +kernel
theorem dJ13_bitCount_95d88_9 : decode cJ13_bitCount_95d88 9 = .ok (.lstore_n 0, 1) := by decide +kernel
theorem dJ13_bitCount_95d88_10 : decode cJ13_bitCount_95d88 10 = .ok (.lload_n 0, 1) := by decide +kernel
theorem dJ13_bitCount_95d88_11 : decode cJ13_bitCount_95d88 11 = .ok (.ldc2_w 316, 3) := by decide +kernel
theorem dJ13_bitCount_95d88_14 : decode cJ13_bitCount_95d88 14 = .ok (.land, 1) := by decide +kernel
theorem dJ13_bitCount_95d88_15 : decode cJ13_bitCount_95d88 15 = .ok (.lload_n 0, 1) := by decide +kernel
theorem dJ13_bitCount_95d88_16 : decode cJ13_bitCount_95d88 16 = .ok (.iconst 2, 1) := by decide +kernel
theorem dJ13_bitCount_95d88_17 : decode cJ13_bitCount_95d88 17 = .ok (.lushr, 1) := by decide +kernel
theorem dJ13_bitCount_95d88_18 : decode cJ13_bitCount_95d88 18 = .ok (.ldc2_w 316, 3) := by decide +kernel
theorem dJ13_bitCount_95d88_21 : decode cJ13_bitCount_95d88 21 = .ok (.land, 1) := by decide +kernel
theorem dJ13_bitCount_95d88_22 : decode cJ13_bitCount_95d88 22 = .ok (.ladd, 1) := by decide +kernel
theorem dJ13_bitCount_95d88_23 : decode cJ13_bitCount_95d88 23 = .ok (.lstore_n 0, 1) := by decide +kernel
theorem dJ13_bitCount_95d88_24 : decode cJ13_bitCount_95d88 24 = .ok (.lload_n 0, 1) := by decide +kernel
theorem dJ13_bitCount_95d88_25 : decode cJ13_bitCount_95d88 25 = .ok (.lload_n 0, 1) := by decide +kernel
theorem dJ13_bitCount_95d88_26 : decode cJ13_bitCount_95d88 26 = .ok (.iconst 4, 1) := by decide +kernel
theorem dJ13_bitCount_95d88_27 : decode cJ13_bitCount_95d88 27 = .ok (.lushr, 1) := by decide +kernel
theorem dJ13_bitCount_95d88_28 : decode cJ13_bitCount_95d88 28 = .ok (.ladd, 1) := by decide +kernel
theorem dJ13_bitCount_95d88_29 : decode cJ13_bitCount_95d88 29 = .ok (.ldc2_w 318, 3) := by decide +kernel
theorem dJ13_bitCount_95d88_32 : decode cJ13_bitCount_95d88 32 = .ok (.land, 1) := by decide +kernel
theorem dJ13_bitCount_95d88_33 : decode cJ13_bitCount_95d88 33 = .ok (.lstore_n 0, 1) := by decide +kernel
theorem dJ13_bitCount_95d88_34 : decode cJ13_bitCount_95d88 34 = .ok (.lload_n 0, 1) := by decide +kernel
theorem dJ13_bitCount_95d88_35 : decode cJ13_bitCount_95d88 35 = .ok (.lload_n 0, 1) := by decide +kernel
theorem dJ13_bitCount_95d88_36 : decode cJ13_bitCount_95d88 36 = .ok (.bipush 8, 2) := by decide +kernel
theorem dJ13_bitCount_95d88_38 : decode cJ13_bitCount_95d88 38 = .ok (.lushr, 1) := by decide +kernel
theorem dJ13_bitCount_95d88_39 : decode cJ13_bitCount_95d88 39 = .ok (.ladd, 1) := by decide +kernel
theorem dJ13_bitCount_95d88_40 : decode cJ13_bitCount_95d88 40 = .ok (.lstore_n 0, 1) := by decide +kernel
theorem dJ13_bitCount_95d88_41 : decode cJ13_bitCount_95d88 41 = .ok (.lload_n 0, 1) := by decide +kernel
theorem dJ13_bitCount_95d88_42 : decode cJ13_bitCount_95d88 42 = .ok (.lload_n 0, 1) := by decide +kernel
theorem dJ13_bitCount_95d88_43 : decode cJ13_bitCount_95d88 43 = .ok (.bipush 16, 2) := by decide +kernel
theorem dJ13_bitCount_95d88_45 : decode cJ13_bitCount_95d88 45 = .ok (.lushr, 1) := by decide +kernel
theorem dJ13_bitCount_95d88_46 : decode cJ13_bitCount_95d88 46 = .ok (.ladd, 1) := by decide +kernel
theorem dJ13_bitCount_95d88_47 : decode cJ13_bitCount_95d88 47 = .ok (.lstore_n 0, 1) := by decide +kernel
theorem dJ13_bitCount_95d88_48 : decode cJ13_bitCount_95d88 48 = .ok (.lload_n 0, 1) := by decide +kernel
theorem dJ13_bitCount_95d88_49 : decode cJ13_bitCount_95d88 49 = .ok (.lload_n 0, 1) := by decide +kernel
theorem dJ13_bitCount_95d88_50 : decode cJ13_bitCount_95d88 50 = .ok (.bipush 32, 2) := by decide +kernel
theorem dJ13_bitCount_95d88_52 : decode cJ13_bitCount_95d88 52 = .ok (.lushr, 1) := by decide +kernel
theorem dJ13_bitCount_95d88_53 : decode cJ13_bitCount_95d88 53 = .ok (.ladd, 1) := by decide +kernel
theorem dJ13_bitCount_95d88_54 : decode cJ13_bitCount_95d88 54 = .ok (.lstore_n 0, 1) := by decide +kernel
theorem dJ13_bitCount_95d88_55 : decode cJ13_bitCount_95d88 55 = .ok (.lload_n 0, 1) := by decide +kernel
theorem dJ13_bitCount_95d88_56 : decode cJ13_bitCount_95d88 56 = .ok (.l2i, 1) := by decide +kernel
theorem dJ13_bitCount_95d88_57 : decode cJ13_bitCount_95d88 57 = .ok (.bipush 127, 2) := by decide +kernel
theorem dJ13_bitCount_95d88_59 : decode cJ13_bitCount_95d88 59 = .ok (.iand, 1) := by decide +kernel
theorem dJ13_bitCount_95d88_60 : decode cJ13_bitCount_95d88 60 = .ok (.ireturn, 1) := by decide +kernel
end
section
theorem dX4_init_0 : decode cX4_init 0 = .ok (.aload_n 0, 1) := by decide +kernel
theorem dX4_init_1 : decode cX4_init 1 = .ok (.invokespecial 3, 3) := by decide +kernel
theorem dX4_init_4 : decode cX4_init 4 = .ok (.aload_n 0, 1) := by decide +kernel
theorem dX4_init_5 : decode cX4_init 5 = .ok (.new 9, 3) := by decide +kernel
theorem dX4_init_8 : decode cX4_init 8 = .ok (.dup, 1) := by decide +kernel
theorem dX4_init_9 : decode cX4_init 9 = .ok (.invokespecial 11, 3) := by decide +kernel
theorem dX4_init_12 : decode cX4_init 12 = .ok (.putfield 12, 3) := by decide +kernel
theorem dX4_init_15 : decode cX4_init 15 = .ok (.aload_n 0, 1) := by decide +kernel
theorem dX4_init_16 : decode cX4_init 16 = .ok (.new 16, 3) := by decide +kernel
theorem dX4_init_19 : decode cX4_init 19 = .ok (.dup, 1) := by decide +kernel
theorem dX4_init_20 : decode cX4_init 20 = .ok (.invokespecial 18, 3) := by decide +kernel
theorem dX4_init_23 : decode cX4_init 23 = .ok (.putfield 19, 3) := by decide +kernel
theorem dX4_init_26 : decode cX4_init 26 = .ok (.aload_n 0, 1) := by decide +kernel
theorem dX4_init_27 : decode cX4_init 27 = .ok (.new 23, 3) := by decide +kernel
theorem dX4_init_30 : decode cX4_init 30 = .ok (.dup, 1) := by decide +kernel
theorem dX4_init_31 : decode cX4_init 31 = .ok (.invokespecial 25, 3) := by decide +kernel
theorem dX4_init_34 : decode cX4_init 34 = .ok (.putfield 26, 3) := by decide +kernel
theorem dX4_init_37 : decode cX4_init 37 = .ok (.aload_n 0, 1) := by decide +kernel
theorem dX4_init_38 : decode cX4_init 38 = .ok (.new 23, 3) := by decide +kernel
theorem dX4_init_41 : decode cX4_init 41 = .ok (.dup, 1) := by decide +kernel
theorem dX4_init_42 : decode cX4_init 42 = .ok (.invokespecial 25, 3) := by decide +kernel
theorem dX4_init_45 : decode cX4_init 45 = .ok (.putfield 30, 3) := by decide +kernel
theorem dX4_init_48 : decode cX4_init 48 = .ok (.aload_n 0, 1) := by decide +kernel
theorem dX4_init_49 : decode cX4_init 49 = .ok (.new 33, 3) := by decide +kernel
theorem dX4_init_52 : decode cX4_init 52 = .ok (.dup, 1) := by decide +kernel
theorem dX4_init_53 : decode cX4_init 53 = .ok (.invokespecial 35, 3) := by decide +kernel
theorem dX4_init_56 : decode cX4_init 56 = .ok (.putfield 36, 3) := by decide +kernel
theorem dX4_init_59 : decode cX4_init 59 = .ok (.aload_n 0, 1) := by decide +kernel
theorem dX4_init_60 : decode cX4_init 60 = .ok (.iconst 1, 1) := by decide +kernel
theorem dX4_init_61 : decode cX4_init 61 = .ok (.putfield 40, 3) := by decide +kernel
theorem dX4_init_64 : decode cX4_init 64 = .ok (.aload_n 0, 1) := by decide +kernel
theorem dX4_init_65 : decode cX4_init 65 = .ok (.iconst 0, 1) := by decide +kernel
theorem dX4_init_66 : decode cX4_init 66 = .ok (.putfield 44, 3) := by decide +kernel
theorem dX4_init_69 : decode cX4_init 69 = .ok (.aload_n 0, 1) := by decide +kernel
theorem dX4_init_70 : decode cX4_init 70 = .ok (.iconst (-1), 1) := by decide +kernel
theorem dX4_init_71 : decode cX4_init 71 = .ok (.putfield 48, 3) := by decide +kernel
theorem dX4_init_74 : decode cX4_init 74 = .ok (.aload_n 0, 1) := by decide +kernel
theorem dX4_init_75 : decode cX4_init 75 = .ok (.iconst 0, 1) := by decide +kernel
theorem dX4_init_76 : decode cX4_init 76 = .ok (.putfield 51, 3) := by decide +kernel
theorem dX4_init_79 : decode cX4_init 79 = .ok (.aload_n 0, 1) := by decide +kernel
theorem dX4_init_80 : decode cX4_init 80 = .ok (.lconst 0, 1) := by decide +kernel
theorem dX4_init_81 : decode cX4_init 81 = .ok (.putfield 54, 3) := by decide +kernel
theorem dX4_init_84 : decode cX4_init 84 = .ok (.aload_n 0, 1) := by decide +kernel
theorem dX4_init_85 : decode cX4_init 85 = .ok (.lconst 0, 1) := by decide +kernel
theorem dX4_init_86 : decode cX4_init 86 = .ok (.putfield 58, 3) := by decide +kernel
theorem dX4_init_89 : decode cX4_init 89 = .ok (.return_, 1) := by decide +kernel
theorem dX4_bits_0 : decode cX4_bits 0 = .ok (.iload_n 3, 1) := by decide +kernel
theorem dX4_bits_1 : decode cX4_bits 1 = .ok (.iconst 1, 1) := by decide +kernel
theorem dX4_bits_2 : decode cX4_bits 2 = .ok (.bipush 40, 2) := by decide +kernel
theorem dX4_bits_4 : decode cX4_bits 4 = .ok (.invokestatic 61, 3) := by decide +kernel
theorem dX4_bits_7 : decode cX4_bits 7 = .ok (.ifCond .ne 6, 3) := by decide +kernel
theorem dX4_bits_10 : decode cX4_bits 10 = .ok (.bipush (-2), 2) := by decide +kernel
theorem dX4_bits_12 : decode cX4_bits 12 = .ok (.ireturn, 1) := by decide +kernel
theorem dX4_bits_13 : decode cX4_bits 13 = .ok (.aload_n 0, 1) := by decide +kernel
theorem dX4_bits_14 : decode cX4_bits 14 = .ok (.getfield 12, 3) := by decide +kernel
theorem dX4_bits_17 : decode cX4_bits 17 = .ok (.getfield 65, 3) := by decide +kernel
theorem dX4_bits_20 : decode cX4_bits 20 = .ok (.iload_n 3, 1) := by decide +kernel
theorem dX4_bits_21 : decode cX4_bits 21 = .ok (.iadd, 1) := by decide +kernel
theorem dX4_bits_22 : decode cX4_bits 22 = .ok (.bipush 40, 2) := by decide +kernel
theorem dX4_bits_24 : decode cX4_bits 24 = .ok (.if_icmp .le 6, 3) := by decide +kernel
theorem dX4_bits_27 : decode cX4_bits 27 = .ok (.bipush (-4), 2) := by decide +kernel
theorem dX4_bits_29 : decode cX4_bits 29 = .ok (.ireturn, 1) := by decide +kernel
theorem dX4_bits_30 : decode cX4_bits 30 = .ok (.aload_n 0, 1) := by decide +kernel
theorem dX4_bits_31 : decode cX4_bits 31 = .ok (.getfield 12, 3) := by decide +kernel
theorem dX4_bits_34 : decode cX4_bits 34 = .ok (.lload_n 1, 1) := by decide +kernel
theorem dX4_bits_35 : decode cX4_bits 35 = .ok (.iload_n 3, 1) := by decide +kernel
theorem dX4_bits_36 : decode cX4_bits 36 = .ok (.invokevirtual 68, 3) := by decide +kernel
theorem dX4_bits_39 : decode cX4_bits 39 = .ok (.aload_n 0, 1) := by decide +kernel
theorem dX4_bits_40 : decode cX4_bits 40 = .ok (.invokevirtual 72, 3) := by decide +kernel
theorem dX4_bits_43 : decode cX4_bits 43 = .ok (.aload_n 0, 1) := by decide +kernel
theorem dX4_bits_44 : decode cX4_bits 44 = .ok (.getfield 12, 3) := by decide +kernel
theorem dX4_bits_47 : decode cX4_bits 47 = .ok (.getfield 65, 3) := by decide +kernel
theorem dX4_bits_50 : decode cX4_bits 50 = .ok (.ireturn, 1) := by decide +kernel
theorem dX4_clear_0 : decode cX4_clear 0 = .ok (.aload_n 0, 1) := by decide +kernel
theorem dX4_clear_1 : decode cX4_clear 1 = .ok (.getfield 12, 3) := by decide +kernel
theorem dX4_clear_4 : decode cX4_clear 4 = .ok (.getfield 65, 3) := by decide +kernel
theorem dX4_clear_7 : decode cX4_clear 7 = .ok (.istore_n 1, 1) := by decide +kernel
theorem dX4_clear_8 : decode cX4_clear 8 = .ok (.aload_n 0, 1) := by decide +kernel
theorem dX4_clear_9 : decode cX4_clear 9 = .ok (.getfield 12, 3) := by decide +kernel
theorem dX4_clear_12 : decode cX4_clear 12 = .ok (.invokevirtual 75, 3) := by decide +kernel
theorem dX4_clear_15 : decode cX4_clear 15 = .ok (.aload_n 0, 1) := by decide +kernel
theorem dX4_clear_16 : decode cX4_clear 16 = .ok (.invokevirtual 72, 3) := by decide +kernel
theorem dX4_clear_19 : decode cX4_clear 19 = .ok (.iload_n 1, 1) := by decide +kernel
theorem dX4_clear_20 : decode cX4_clear 20 = .ok (.ireturn, 1) := by decide +kernel
theorem dX4_bit_0 : decode cX4_bit 0 = .ok (.aload_n 0, 1) := by decide +kernel
theorem dX4_bit_1 : decode cX4_bit 1 = .ok (.iload_n 1, 1) := by decide +kernel
theorem dX4_bit_2 : decode cX4_bit 2 = .ok (.invokevirtual 78, 3) := by decide +kernel
theorem dX4_bit_5 : decode cX4_bit 5 = .ok (.ifCond .eq 24, 3) := by decide +kernel
theorem dX4_bit_8 : decode cX4_bit 8 = .ok (.aload_n 0, 1) := by decide +kernel
theorem dX4_bit_9 : decode cX4_bit 9 = .ok (.getfield 12, 3) := by decide +kernel
theorem dX4_bit_12 : decode cX4_bit 12 = .ok (.getfield 82, 3) := by decide +kernel
theorem dX4_bit_15 : decode cX4_bit 15 = .ok (.aload_n 0, 1) := by decide +kernel
theorem dX4_bit_16 : decode cX4_bit 16 = .ok (.getfield 12, 3) := by decide +kernel
theorem dX4_bit_19 : decode cX4_bit 19 = .ok (.getfield 65, 3) := by decide +kernel
theorem dX4_bit_22 : decode cX4_bit 22 = .ok (.iload_n 1, 1) := by decide +kernel
theorem dX4_bit_23 : decode cX4_bit 23 = .ok (.invokestatic 85, 3) := by decide +kernel
theorem dX4_bit_26 : decode cX4_bit 26 = .ok (.goto 5, 3) := by decide +kernel
theorem dX4_bit_29 : decode cX4_bit 29 = .ok (.bipush (-2), 2) := by decide +kernel
theorem dX4_bit_31 : decode cX4_bit 31 = .ok (.ireturn, 1) := by decide +kernel
theorem dX4_mask_0 : decode cX4_mask 0 = .ok (.iload_n 1, 1) := by decide +kernel
theorem dX4_mask_1 : decode cX4_mask 1 = .ok (.iconst 0, 1) := by decide +kernel
theorem dX4_mask_2 : decode cX4_mask 2 = .ok (.bipush 127, 2) := by decide +kernel
theorem dX4_mask_4 : decode cX4_mask 4 = .ok (.invokestatic 61, 3) := by decide +kernel
theorem dX4_mask_7 : decode cX4_mask 7 = .ok (.ifCond .ne 6, 3) := by decide +kernel
theorem dX4_mask_10 : decode cX4_mask 10 = .ok (.bipush (-2), 2) := by decide +kernel
theorem dX4_mask_12 : decode cX4_mask 12 = .ok (.ireturn, 1) := by decide +kernel
theorem dX4_mask_13 : decode cX4_mask 13 = .ok (.aload_n 0, 1) := by decide +kernel
theorem dX4_mask_14 : decode cX4_mask 14 = .ok (.getfield 12, 3) := by decide +kernel
theorem dX4_mask_17 : decode cX4_mask 17 = .ok (.iload_n 1, 1) := by decide +kernel
theorem dX4_mask_18 : decode cX4_mask 18 = .ok (.invokevirtual 89, 3) := by decide +kernel
theorem dX4_mask_21 : decode cX4_mask 21 = .ok (.aload_n 0, 1) := by decide +kernel
theorem dX4_mask_22 : decode cX4_mask 22 = .ok (.invokevirtual 93, 3) := by decide +kernel
theorem dX4_mask_25 : decode cX4_mask 25 = .ok (.ireturn, 1) := by decide +kernel
theorem dX4_code_0 : decode cX4_code 0 = .ok (.iload_n 1, 1) := by decide +kernel
theorem dX4_code_1 : decode cX4_code 1 = .ok (.iconst 1, 1) := by decide +kernel
theorem dX4_code_2 : decode cX4_code 2 = .ok (.bipush 15, 2) := by decide +kernel
theorem dX4_code_4 : decode cX4_code 4 = .ok (.invokestatic 61, 3) := by decide +kernel
theorem dX4_code_7 : decode cX4_code 7 = .ok (.ifCond .eq 13, 3) := by decide +kernel
theorem dX4_code_10 : decode cX4_code 10 = .ok (.iload_n 2, 1) := by decide +kernel
theorem dX4_code_11 : decode cX4_code 11 = .ok (.iconst 1, 1) := by decide +kernel
theorem dX4_code_12 : decode cX4_code 12 = .ok (.bipush 15, 2) := by decide +kernel
theorem dX4_code_14 : decode cX4_code 14 = .ok (.invokestatic 61, 3) := by decide +kernel
theorem dX4_code_17 : decode cX4_code 17 = .ok (.ifCond .ne 6, 3) := by decide +kernel
theorem dX4_code_20 : decode cX4_code 20 = .ok (.bipush (-2), 2) := by decide +kernel
theorem dX4_code_22 : decode cX4_code 22 = .ok (.ireturn, 1) := by decide +kernel
theorem dX4_code_23 : decode cX4_code 23 = .ok (.aload_n 0, 1) := by decide +kernel
theorem dX4_code_24 : decode cX4_code 24 = .ok (.getfield 12, 3) := by decide +kernel
theorem dX4_code_27 : decode cX4_code 27 = .ok (.iload_n 1, 1) := by decide +kernel
theorem dX4_code_28 : decode cX4_code 28 = .ok (.putfield 97, 3) := by decide +kernel
theorem dX4_code_31 : decode cX4_code 31 = .ok (.aload_n 0, 1) := by decide +kernel
theorem dX4_code_32 : decode cX4_code 32 = .ok (.getfield 12, 3) := by decide +kernel
theorem dX4_code_35 : decode cX4_code 35 = .ok (.iload_n 2, 1) := by decide +kernel
theorem dX4_code_36 : decode cX4_code 36 = .ok (.putfield 100, 3) := by decide +kernel
theorem dX4_code_39 : decode cX4_code 39 = .ok (.aload_n 0, 1) := by decide +kernel
theorem dX4_code_40 : decode cX4_code 40 = .ok (.invokevirtual 93, 3) := by decide +kernel
theorem dX4_code_43 : decode cX4_code 43 = .ok (.ireturn, 1) := by decide +kernel
theorem dX4_amp_0 : decode cX4_amp 0 = .ok (.iload_n 1, 1) := by decide +kernel
theorem dX4_amp_1 : decode cX4_amp 1 = .ok (.iconst 1, 1) := by decide +kernel
theorem dX4_amp_2 : decode cX4_amp 2 = .ok (.bipush 100, 2) := by decide +kernel
theorem dX4_amp_4 : decode cX4_amp 4 = .ok (.invokestatic 61, 3) := by decide +kernel
theorem dX4_amp_7 : decode cX4_amp 7 = .ok (.ifCond .ne 6, 3) := by decide +kernel
theorem dX4_amp_10 : decode cX4_amp 10 = .ok (.bipush (-2), 2) := by decide +kernel
theorem dX4_amp_12 : decode cX4_amp 12 = .ok (.ireturn, 1) := by decide +kernel
theorem dX4_amp_13 : decode cX4_amp 13 = .ok (.aload_n 0, 1) := by decide +kernel
theorem dX4_amp_14 : decode cX4_amp 14 = .ok (.getfield 12, 3) := by decide +kernel
theorem dX4_amp_17 : decode cX4_amp 17 = .ok (.iload_n 1, 1) := by decide +kernel
theorem dX4_amp_18 : decode cX4_amp 18 = .ok (.putfield 103, 3) := by decide +kernel
theorem dX4_amp_21 : decode cX4_amp 21 = .ok (.aload_n 0, 1) := by decide +kernel
theorem dX4_amp_22 : decode cX4_amp 22 = .ok (.invokevirtual 93, 3) := by decide +kernel
theorem dX4_amp_25 : decode cX4_amp 25 = .ok (.ireturn, 1) := by decide +kernel
theorem dX4_call_0 : decode cX4_call 0 = .ok (.iload_n 1, 1) := by decide +kernel
theorem dX4_call_1 : decode cX4_call 1 = .ok (.iconst 0, 1) := by decide +kernel
theorem dX4_call_2 : decode cX4_call 2 = .ok (.bipush 16, 2) := by decide +kernel
theorem dX4_call_4 : decode cX4_call 4 = .ok (.invokestatic 61, 3) := by decide +kernel
theorem dX4_call_7 : decode cX4_call 7 = .ok (.ifCond .eq 9, 3) := by decide +kernel
theorem dX4_call_10 : decode cX4_call 10 = .ok (.iload_n 2, 1) := by decide +kernel
theorem dX4_call_11 : decode cX4_call 11 = .ok (.iload_n 1, 1) := by decide +kernel
theorem dX4_call_12 : decode cX4_call 12 = .ok (.iushr, 1) := by decide +kernel
theorem dX4_call_13 : decode cX4_call 13 = .ok (.ifCond .eq 6, 3) := by decide +kernel
theorem dX4_call_16 : decode cX4_call 16 = .ok (.bipush (-2), 2) := by decide +kernel
theorem dX4_call_18 : decode cX4_call 18 = .ok (.ireturn, 1) := by decide +kernel
theorem dX4_call_19 : decode cX4_call 19 = .ok (.aload_n 0, 1) := by decide +kernel
theorem dX4_call_20 : decode cX4_call 20 = .ok (.getfield 12, 3) := by decide +kernel
theorem dX4_call_23 : decode cX4_call 23 = .ok (.iload_n 1, 1) := by decide +kernel
theorem dX4_call_24 : decode cX4_call 24 = .ok (.putfield 106, 3) := by decide +kernel
theorem dX4_call_27 : decode cX4_call 27 = .ok (.aload_n 0, 1) := by decide +kernel
theorem dX4_call_28 : decode cX4_call 28 = .ok (.getfield 12, 3) := by decide +kernel
theorem dX4_call_31 : decode cX4_call 31 = .ok (.iload_n 2, 1) := by decide +kernel
theorem dX4_call_32 : decode cX4_call 32 = .ok (.putfield 109, 3) := by decide +kernel
theorem dX4_call_35 : decode cX4_call 35 = .ok (.aload_n 0, 1) := by decide +kernel
theorem dX4_call_36 : decode cX4_call 36 = .ok (.invokevirtual 93, 3) := by decide +kernel
theorem dX4_call_39 : decode cX4_call 39 = .ok (.ireturn, 1) := by decide +kernel
theorem dX4_taps_0 : decode cX4_taps 0 = .ok (.iload_n 1, 1) := by decide +kernel
theorem dX4_taps_1 : decode cX4_taps 1 = .ok (.iload_n 2, 1) := by decide +kernel
theorem dX4_taps_2 : decode cX4_taps 2 = .ok (.iload_n 3, 1) := by decide +kernel
theorem dX4_taps_3 : decode cX4_taps 3 = .ok (.iload 4, 2) := by decide +kernel
theorem dX4_taps_5 : decode cX4_taps 5 = .ok (.invokestatic 112, 3) := by decide +kernel
theorem dX4_taps_8 : decode cX4_taps 8 = .ok (.ifCond .ne 6, 3) := by decide +kernel
theorem dX4_taps_11 : decode cX4_taps 11 = .ok (.bipush (-2), 2) := by decide +kernel
theorem dX4_taps_13 : decode cX4_taps 13 = .ok (.ireturn, 1) := by decide +kernel
theorem dX4_taps_14 : decode cX4_taps 14 = .ok (.aload_n 0, 1) := by decide +kernel
theorem dX4_taps_15 : decode cX4_taps 15 = .ok (.getfield 19, 3) := by decide +kernel
theorem dX4_taps_18 : decode cX4_taps 18 = .ok (.getfield 116, 3) := by decide +kernel
theorem dX4_taps_21 : decode cX4_taps 21 = .ok (.iload_n 1, 1) := by decide +kernel
theorem dX4_taps_22 : decode cX4_taps 22 = .ok (.iload_n 2, 1) := by decide +kernel
theorem dX4_taps_23 : decode cX4_taps 23 = .ok (.iload_n 3, 1) := by decide +kernel
theorem dX4_taps_24 : decode cX4_taps 24 = .ok (.iload 4, 2) := by decide +kernel
theorem dX4_taps_26 : decode cX4_taps 26 = .ok (.invokestatic 120, 3) := by decide +kernel
theorem dX4_taps_29 : decode cX4_taps 29 = .ok (.aload_n 0, 1) := by decide +kernel
theorem dX4_taps_30 : decode cX4_taps 30 = .ok (.invokevirtual 93, 3) := by decide +kernel
theorem dX4_taps_33 : decode cX4_taps 33 = .ok (.ireturn, 1) := by decide +kernel
theorem dX4_air_0 : decode cX4_air 0 = .ok (.iload_n 1, 1) := by decide +kernel
theorem dX4_air_1 : decode cX4_air 1 = .ok (.iconst 0, 1) := by decide +kernel
theorem dX4_air_2 : decode cX4_air 2 = .ok (.bipush 30, 2) := by decide +kernel
theorem dX4_air_4 : decode cX4_air 4 = .ok (.invokestatic 61, 3) := by decide +kernel
theorem dX4_air_7 : decode cX4_air 7 = .ok (.ifCond .eq 14, 3) := by decide +kernel
theorem dX4_air_10 : decode cX4_air 10 = .ok (.iload_n 2, 1) := by decide +kernel
theorem dX4_air_11 : decode cX4_air 11 = .ok (.iconst 0, 1) := by decide +kernel
theorem dX4_air_12 : decode cX4_air 12 = .ok (.sipush 500, 3) := by decide +kernel
theorem dX4_air_15 : decode cX4_air 15 = .ok (.invokestatic 61, 3) := by decide +kernel
theorem dX4_air_18 : decode cX4_air 18 = .ok (.ifCond .ne 6, 3) := by decide +kernel
theorem dX4_air_21 : decode cX4_air 21 = .ok (.bipush (-2), 2) := by decide +kernel
theorem dX4_air_23 : decode cX4_air 23 = .ok (.ireturn, 1) := by decide +kernel
theorem dX4_air_24 : decode cX4_air 24 = .ok (.aload_n 0, 1) := by decide +kernel
theorem dX4_air_25 : decode cX4_air 25 = .ok (.getfield 19, 3) := by decide +kernel
theorem dX4_air_28 : decode cX4_air 28 = .ok (.iload_n 1, 1) := by decide +kernel
theorem dX4_air_29 : decode cX4_air 29 = .ok (.putfield 124, 3) := by decide +kernel
theorem dX4_air_32 : decode cX4_air 32 = .ok (.aload_n 0, 1) := by decide +kernel
theorem dX4_air_33 : decode cX4_air 33 = .ok (.getfield 19, 3) := by decide +kernel
theorem dX4_air_36 : decode cX4_air 36 = .ok (.iload_n 2, 1) := by decide +kernel
theorem dX4_air_37 : decode cX4_air 37 = .ok (.putfield 127, 3) := by decide +kernel
theorem dX4_air_40 : decode cX4_air 40 = .ok (.aload_n 0, 1) := by decide +kernel
theorem dX4_air_41 : decode cX4_air 41 = .ok (.getfield 19, 3) := by decide +kernel
theorem dX4_air_44 : decode cX4_air 44 = .ok (.iload_n 3, 1) := by decide +kernel
theorem dX4_air_45 : decode cX4_air 45 = .ok (.putfield 130, 3) := by decide +kernel
theorem dX4_air_48 : decode cX4_air 48 = .ok (.aload_n 0, 1) := by decide +kernel
theorem dX4_air_49 : decode cX4_air 49 = .ok (.invokevirtual 93, 3) := by decide +kernel
theorem dX4_air_52 : decode cX4_air 52 = .ok (.ireturn, 1) := by decide +kernel
theorem dX4_lose_0 : decode cX4_lose 0 = .ok (.iload_n 1, 1) := by decide +kernel
theorem dX4_lose_1 : decode cX4_lose 1 = .ok (.iconst 0, 1) := by decide +kernel
theorem dX4_lose_2 : decode cX4_lose 2 = .ok (.sipush 200, 3) := by decide +kernel
theorem dX4_lose_5 : decode cX4_lose 5 = .ok (.invokestatic 61, 3) := by decide +kernel
theorem dX4_lose_8 : decode cX4_lose 8 = .ok (.ifCond .eq 14, 3) := by decide +kernel
theorem dX4_lose_11 : decode cX4_lose 11 = .ok (.iload_n 2, 1) := by decide +kernel
theorem dX4_lose_12 : decode cX4_lose 12 = .ok (.iconst 0, 1) := by decide +kernel
theorem dX4_lose_13 : decode cX4_lose 13 = .ok (.sipush 200, 3) := by decide +kernel
theorem dX4_lose_16 : decode cX4_lose 16 = .ok (.invokestatic 61, 3) := by decide +kernel
theorem dX4_lose_19 : decode cX4_lose 19 = .ok (.ifCond .ne 6, 3) := by decide +kernel
theorem dX4_lose_22 : decode cX4_lose 22 = .ok (.bipush (-2), 2) := by decide +kernel
theorem dX4_lose_24 : decode cX4_lose 24 = .ok (.ireturn, 1) := by decide +kernel
theorem dX4_lose_25 : decode cX4_lose 25 = .ok (.aload_n 0, 1) := by decide +kernel
theorem dX4_lose_26 : decode cX4_lose 26 = .ok (.getfield 19, 3) := by decide +kernel
theorem dX4_lose_29 : decode cX4_lose 29 = .ok (.iload_n 1, 1) := by decide +kernel
theorem dX4_lose_30 : decode cX4_lose 30 = .ok (.putfield 133, 3) := by decide +kernel
theorem dX4_lose_33 : decode cX4_lose 33 = .ok (.aload_n 0, 1) := by decide +kernel
theorem dX4_lose_34 : decode cX4_lose 34 = .ok (.getfield 19, 3) := by decide +kernel
theorem dX4_lose_37 : decode cX4_lose 37 = .ok (.iload_n 2, 1) := by decide +kernel
theorem dX4_lose_38 : decode cX4_lose 38 = .ok (.putfield 136, 3) := by decide +kernel
theorem dX4_lose_41 : decode cX4_lose 41 = .ok (.aload_n 0, 1) := by decide +kernel
theorem dX4_lose_42 : decode cX4_lose 42 = .ok (.invokevirtual 93, 3) := by decide +kernel
theorem dX4_lose_45 : decode cX4_lose 45 = .ok (.ireturn, 1) := by decide +kernel
theorem dX4_scrambled_0 : decode cX4_scrambled 0 = .ok (.aload_n 0, 1) := by decide +kernel
theorem dX4_scrambled_1 : decode cX4_scrambled 1 = .ok (.iload_n 1, 1) := by decide +kernel
theorem dX4_scrambled_2 : decode cX4_scrambled 2 = .ok (.invokevirtual 78, 3) := by decide +kernel
theorem dX4_scrambled_5 : decode cX4_scrambled 5 = .ok (.ifCond .eq 24, 3) := by decide +kernel
theorem dX4_scrambled_8 : decode cX4_scrambled 8 = .ok (.aload_n 0, 1) := by decide +kernel
theorem dX4_scrambled_9 : decode cX4_scrambled 9 = .ok (.getfield 12, 3) := by decide +kernel
theorem dX4_scrambled_12 : decode cX4_scrambled 12 = .ok (.getfield 139, 3) := by decide +kernel
theorem dX4_scrambled_15 : decode cX4_scrambled 15 = .ok (.aload_n 0, 1) := by decide +kernel
theorem dX4_scrambled_16 : decode cX4_scrambled 16 = .ok (.getfield 12, 3) := by decide +kernel
theorem dX4_scrambled_19 : decode cX4_scrambled 19 = .ok (.getfield 65, 3) := by decide +kernel
theorem dX4_scrambled_22 : decode cX4_scrambled 22 = .ok (.iload_n 1, 1) := by decide +kernel
theorem dX4_scrambled_23 : decode cX4_scrambled 23 = .ok (.invokestatic 85, 3) := by decide +kernel
theorem dX4_scrambled_26 : decode cX4_scrambled 26 = .ok (.goto 5, 3) := by decide +kernel
theorem dX4_scrambled_29 : decode cX4_scrambled 29 = .ok (.bipush (-2), 2) := by decide +kernel
theorem dX4_scrambled_31 : decode cX4_scrambled 31 = .ok (.ireturn, 1) := by decide +kernel
theorem dX4_voice_0 : decode cX4_voice 0 = .ok (.iload_n 1, 1) := by decide +kernel
theorem dX4_voice_1 : decode cX4_voice 1 = .ok (.iconst 0, 1) := by decide +kernel
theorem dX4_voice_2 : decode cX4_voice 2 = .ok (.aload_n 0, 1) := by decide +kernel
theorem dX4_voice_3 : decode cX4_voice 3 = .ok (.getfield 12, 3) := by decide +kernel
theorem dX4_voice_6 : decode cX4_voice 6 = .ok (.invokevirtual 142, 3) := by decide +kernel
theorem dX4_voice_9 : decode cX4_voice 9 = .ok (.iconst 1, 1) := by decide +kernel
theorem dX4_voice_10 : decode cX4_voice 10 = .ok (.isub, 1) := by decide +kernel
theorem dX4_voice_11 : decode cX4_voice 11 = .ok (.invokestatic 61, 3) := by decide +kernel
theorem dX4_voice_14 : decode cX4_voice 14 = .ok (.ifCond .eq 14, 3) := by decide +kernel
theorem dX4_voice_17 : decode cX4_voice 17 = .ok (.aload_n 0, 1) := by decide +kernel
theorem dX4_voice_18 : decode cX4_voice 18 = .ok (.getfield 12, 3) := by decide +kernel
theorem dX4_voice_21 : decode cX4_voice 21 = .ok (.iload_n 1, 1) := by decide +kernel
theorem dX4_voice_22 : decode cX4_voice 22 = .ok (.invokevirtual 145, 3) := by decide +kernel
theorem dX4_voice_25 : decode cX4_voice 25 = .ok (.goto 5, 3) := by decide +kernel
theorem dX4_voice_28 : decode cX4_voice 28 = .ok (.ldc 149, 2) := by decide +kernel
theorem dX4_voice_30 : decode cX4_voice 30 = .ok (.ireturn, 1) := by decide +kernel
theorem dX4_hear_0 : decode cX4_hear 0 = .ok (.aload_n 0, 1) := by decide +kernel
theorem dX4_hear_1 : decode cX4_hear 1 = .ok (.getfield 26, 3) := by decide +kernel
theorem dX4_hear_4 : decode cX4_hear 4 = .ok (.aload_n 0, 1) := by decide +kernel
theorem dX4_hear_5 : decode cX4_hear 5 = .ok (.getfield 12, 3) := by decide +kernel
theorem dX4_hear_8 : decode cX4_hear 8 = .ok (.aload_n 0, 1) := by decide +kernel
theorem dX4_hear_9 : decode cX4_hear 9 = .ok (.getfield 19, 3) := by decide +kernel
theorem dX4_hear_12 : decode cX4_hear 12 = .ok (.aload_n 0, 1) := by decide +kernel
theorem dX4_hear_13 : decode cX4_hear 13 = .ok (.getfield 19, 3) := by decide +kernel
theorem dX4_hear_16 : decode cX4_hear 16 = .ok (.getfield 130, 3) := by decide +kernel
theorem dX4_hear_19 : decode cX4_hear 19 = .ok (.invokevirtual 150, 3) := by decide +kernel
theorem dX4_hear_22 : decode cX4_hear 22 = .ok (.aload_n 0, 1) := by decide +kernel
theorem dX4_hear_23 : decode cX4_hear 23 = .ok (.iconst 1, 1) := by decide +kernel
theorem dX4_hear_24 : decode cX4_hear 24 = .ok (.putfield 44, 3) := by decide +kernel
theorem dX4_hear_27 : decode cX4_hear 27 = .ok (.aload_n 0, 1) := by decide +kernel
theorem dX4_hear_28 : decode cX4_hear 28 = .ok (.getfield 26, 3) := by decide +kernel
theorem dX4_hear_31 : decode cX4_hear 31 = .ok (.getfield 154, 3) := by decide +kernel
theorem dX4_hear_34 : decode cX4_hear 34 = .ok (.ireturn, 1) := by decide +kernel
theorem dX4_sample_0 : decode cX4_sample 0 = .ok (.aload_n 0, 1) := by decide +kernel
theorem dX4_sample_1 : decode cX4_sample 1 = .ok (.getfield 44, 3) := by decide +kernel
theorem dX4_sample_4 : decode cX4_sample 4 = .ok (.ifCond .eq 31, 3) := by decide +kernel
theorem dX4_sample_7 : decode cX4_sample 7 = .ok (.iload_n 1, 1) := by decide +kernel
theorem dX4_sample_8 : decode cX4_sample 8 = .ok (.iconst 0, 1) := by decide +kernel
theorem dX4_sample_9 : decode cX4_sample 9 = .ok (.aload_n 0, 1) := by decide +kernel
theorem dX4_sample_10 : decode cX4_sample 10 = .ok (.getfield 26, 3) := by decide +kernel
theorem dX4_sample_13 : decode cX4_sample 13 = .ok (.getfield 154, 3) := by decide +kernel
theorem dX4_sample_16 : decode cX4_sample 16 = .ok (.iconst 1, 1) := by decide +kernel
theorem dX4_sample_17 : decode cX4_sample 17 = .ok (.isub, 1) := by decide +kernel
theorem dX4_sample_18 : decode cX4_sample 18 = .ok (.invokestatic 61, 3) := by decide +kernel
theorem dX4_sample_21 : decode cX4_sample 21 = .ok (.ifCond .eq 14, 3) := by decide +kernel
theorem dX4_sample_24 : decode cX4_sample 24 = .ok (.aload_n 0, 1) := by decide +kernel
theorem dX4_sample_25 : decode cX4_sample 25 = .ok (.getfield 26, 3) := by decide +kernel
theorem dX4_sample_28 : decode cX4_sample 28 = .ok (.iload_n 1, 1) := by decide +kernel
theorem dX4_sample_29 : decode cX4_sample 29 = .ok (.invokevirtual 157, 3) := by decide +kernel
theorem dX4_sample_32 : decode cX4_sample 32 = .ok (.goto 5, 3) := by decide +kernel
theorem dX4_sample_35 : decode cX4_sample 35 = .ok (.ldc 149, 2) := by decide +kernel
theorem dX4_sample_37 : decode cX4_sample 37 = .ok (.ireturn, 1) := by decide +kernel
theorem dX4_least_0 : decode cX4_least 0 = .ok (.iload_n 1, 1) := by decide +kernel
theorem dX4_least_1 : decode cX4_least 1 = .ok (.iconst 0, 1) := by decide +kernel
theorem dX4_least_2 : decode cX4_least 2 = .ok (.ldc 160, 2) := by decide +kernel
theorem dX4_least_4 : decode cX4_least 4 = .ok (.invokestatic 61, 3) := by decide +kernel
theorem dX4_least_7 : decode cX4_least 7 = .ok (.ifCond .ne 6, 3) := by decide +kernel
theorem dX4_least_10 : decode cX4_least 10 = .ok (.bipush (-2), 2) := by decide +kernel
theorem dX4_least_12 : decode cX4_least 12 = .ok (.ireturn, 1) := by decide +kernel
theorem dX4_least_13 : decode cX4_least 13 = .ok (.aload_n 0, 1) := by decide +kernel
theorem dX4_least_14 : decode cX4_least 14 = .ok (.getfield 40, 3) := by decide +kernel
theorem dX4_least_17 : decode cX4_least 17 = .ok (.istore_n 2, 1) := by decide +kernel
theorem dX4_least_18 : decode cX4_least 18 = .ok (.aload_n 0, 1) := by decide +kernel
theorem dX4_least_19 : decode cX4_least 19 = .ok (.iload_n 1, 1) := by decide +kernel
theorem dX4_least_20 : decode cX4_least 20 = .ok (.putfield 40, 3) := by decide +kernel
theorem dX4_least_23 : decode cX4_least 23 = .ok (.iload_n 2, 1) := by decide +kernel
theorem dX4_least_24 : decode cX4_least 24 = .ok (.ireturn, 1) := by decide +kernel
theorem dX4_find_0 : decode cX4_find 0 = .ok (.aload_n 0, 1) := by decide +kernel
theorem dX4_find_1 : decode cX4_find 1 = .ok (.getfield 44, 3) := by decide +kernel
theorem dX4_find_4 : decode cX4_find 4 = .ok (.ifCond .ne 6, 3) := by decide +kernel
theorem dX4_find_7 : decode cX4_find 7 = .ok (.bipush (-3), 2) := by decide +kernel
theorem dX4_find_9 : decode cX4_find 9 = .ok (.ireturn, 1) := by decide +kernel
theorem dX4_find_10 : decode cX4_find 10 = .ok (.aload_n 0, 1) := by decide +kernel
theorem dX4_find_11 : decode cX4_find 11 = .ok (.aload_n 0, 1) := by decide +kernel
theorem dX4_find_12 : decode cX4_find 12 = .ok (.getfield 26, 3) := by decide +kernel
theorem dX4_find_15 : decode cX4_find 15 = .ok (.aload_n 0, 1) := by decide +kernel
theorem dX4_find_16 : decode cX4_find 16 = .ok (.getfield 12, 3) := by decide +kernel
theorem dX4_find_19 : decode cX4_find 19 = .ok (.aload_n 0, 1) := by decide +kernel
theorem dX4_find_20 : decode cX4_find 20 = .ok (.getfield 19, 3) := by decide +kernel
theorem dX4_find_23 : decode cX4_find 23 = .ok (.invokevirtual 161, 3) := by decide +kernel
theorem dX4_find_26 : decode cX4_find 26 = .ok (.aload_n 0, 1) := by decide +kernel
theorem dX4_find_27 : decode cX4_find 27 = .ok (.getfield 40, 3) := by decide +kernel
theorem dX4_find_30 : decode cX4_find 30 = .ok (.invokevirtual 164, 3) := by decide +kernel
theorem dX4_find_33 : decode cX4_find 33 = .ok (.putfield 48, 3) := by decide +kernel
theorem dX4_find_36 : decode cX4_find 36 = .ok (.aload_n 0, 1) := by decide +kernel
theorem dX4_find_37 : decode cX4_find 37 = .ok (.getfield 48, 3) := by decide +kernel
theorem dX4_find_40 : decode cX4_find 40 = .ok (.iconst (-1), 1) := by decide +kernel
theorem dX4_find_41 : decode cX4_find 41 = .ok (.if_icmp .ne 8, 3) := by decide +kernel
theorem dX4_find_44 : decode cX4_find 44 = .ok (.aload_n 0, 1) := by decide +kernel
theorem dX4_find_45 : decode cX4_find 45 = .ok (.iconst 0, 1) := by decide +kernel
theorem dX4_find_46 : decode cX4_find 46 = .ok (.putfield 51, 3) := by decide +kernel
theorem dX4_find_49 : decode cX4_find 49 = .ok (.aload_n 0, 1) := by decide +kernel
theorem dX4_find_50 : decode cX4_find 50 = .ok (.getfield 48, 3) := by decide +kernel
theorem dX4_find_53 : decode cX4_find 53 = .ok (.ireturn, 1) := by decide +kernel
theorem dX4_likeness_0 : decode cX4_likeness 0 = .ok (.aload_n 0, 1) := by decide +kernel
theorem dX4_likeness_1 : decode cX4_likeness 1 = .ok (.getfield 44, 3) := by decide +kernel
theorem dX4_likeness_4 : decode cX4_likeness 4 = .ok (.ifCond .eq 33, 3) := by decide +kernel
theorem dX4_likeness_7 : decode cX4_likeness 7 = .ok (.iload_n 1, 1) := by decide +kernel
theorem dX4_likeness_8 : decode cX4_likeness 8 = .ok (.iconst 0, 1) := by decide +kernel
theorem dX4_likeness_9 : decode cX4_likeness 9 = .ok (.aload_n 0, 1) := by decide +kernel
theorem dX4_likeness_10 : decode cX4_likeness 10 = .ok (.getfield 19, 3) := by decide +kernel
theorem dX4_likeness_13 : decode cX4_likeness 13 = .ok (.invokevirtual 161, 3) := by decide +kernel
theorem dX4_likeness_16 : decode cX4_likeness 16 = .ok (.invokestatic 61, 3) := by decide +kernel
theorem dX4_likeness_19 : decode cX4_likeness 19 = .ok (.ifCond .eq 18, 3) := by decide +kernel
theorem dX4_likeness_22 : decode cX4_likeness 22 = .ok (.aload_n 0, 1) := by decide +kernel
theorem dX4_likeness_23 : decode cX4_likeness 23 = .ok (.getfield 26, 3) := by decide +kernel
theorem dX4_likeness_26 : decode cX4_likeness 26 = .ok (.aload_n 0, 1) := by decide +kernel
theorem dX4_likeness_27 : decode cX4_likeness 27 = .ok (.getfield 12, 3) := by decide +kernel
theorem dX4_likeness_30 : decode cX4_likeness 30 = .ok (.iload_n 1, 1) := by decide +kernel
theorem dX4_likeness_31 : decode cX4_likeness 31 = .ok (.invokevirtual 168, 3) := by decide +kernel
theorem dX4_likeness_34 : decode cX4_likeness 34 = .ok (.goto 5, 3) := by decide +kernel
theorem dX4_likeness_37 : decode cX4_likeness 37 = .ok (.ldc 149, 2) := by decide +kernel
theorem dX4_likeness_39 : decode cX4_likeness 39 = .ok (.ireturn, 1) := by decide +kernel
theorem dX4_bring_0 : decode cX4_bring 0 = .ok (.iload_n 1, 1) := by decide +kernel
theorem dX4_bring_1 : decode cX4_bring 1 = .ok (.iload_n 2, 1) := by decide +kernel
theorem dX4_bring_2 : decode cX4_bring 2 = .ok (.iload_n 3, 1) := by decide +kernel
theorem dX4_bring_3 : decode cX4_bring 3 = .ok (.iload 4, 2) := by decide +kernel
theorem dX4_bring_5 : decode cX4_bring 5 = .ok (.invokestatic 112, 3) := by decide +kernel
theorem dX4_bring_8 : decode cX4_bring 8 = .ok (.ifCond .ne 7, 3) := by decide +kernel
theorem dX4_bring_11 : decode cX4_bring 11 = .ok (.ldc2_w 172, 3) := by decide +kernel
theorem dX4_bring_14 : decode cX4_bring 14 = .ok (.lreturn, 1) := by decide +kernel
theorem dX4_bring_15 : decode cX4_bring 15 = .ok (.aload_n 0, 1) := by decide +kernel
theorem dX4_bring_16 : decode cX4_bring 16 = .ok (.getfield 48, 3) := by decide +kernel
theorem dX4_bring_19 : decode cX4_bring 19 = .ok (.iconst (-1), 1) := by decide +kernel
theorem dX4_bring_20 : decode cX4_bring 20 = .ok (.if_icmp .eq 13, 3) := by decide +kernel
theorem dX4_bring_23 : decode cX4_bring 23 = .ok (.aload_n 0, 1) := by decide +kernel
theorem dX4_bring_24 : decode cX4_bring 24 = .ok (.getfield 12, 3) := by decide +kernel
theorem dX4_bring_27 : decode cX4_bring 27 = .ok (.getfield 65, 3) := by decide +kernel
theorem dX4_bring_30 : decode cX4_bring 30 = .ok (.ifCond .ne 7, 3) := by decide +kernel
theorem dX4_bring_33 : decode cX4_bring 33 = .ok (.ldc2_w 174, 3) := by decide +kernel
theorem dX4_bring_36 : decode cX4_bring 36 = .ok (.lreturn, 1) := by decide +kernel
theorem dX4_bring_37 : decode cX4_bring 37 = .ok (.aload_n 0, 1) := by decide +kernel
theorem dX4_bring_38 : decode cX4_bring 38 = .ok (.getfield 36, 3) := by decide +kernel
theorem dX4_bring_41 : decode cX4_bring 41 = .ok (.getfield 176, 3) := by decide +kernel
theorem dX4_bring_44 : decode cX4_bring 44 = .ok (.iload_n 1, 1) := by decide +kernel
theorem dX4_bring_45 : decode cX4_bring 45 = .ok (.iload_n 2, 1) := by decide +kernel
theorem dX4_bring_46 : decode cX4_bring 46 = .ok (.iload_n 3, 1) := by decide +kernel
theorem dX4_bring_47 : decode cX4_bring 47 = .ok (.iload 4, 2) := by decide +kernel
theorem dX4_bring_49 : decode cX4_bring 49 = .ok (.invokestatic 120, 3) := by decide +kernel
theorem dX4_bring_52 : decode cX4_bring 52 = .ok (.aload_n 0, 1) := by decide +kernel
theorem dX4_bring_53 : decode cX4_bring 53 = .ok (.getfield 36, 3) := by decide +kernel
theorem dX4_bring_56 : decode cX4_bring 56 = .ok (.aload_n 0, 1) := by decide +kernel
theorem dX4_bring_57 : decode cX4_bring 57 = .ok (.getfield 12, 3) := by decide +kernel
theorem dX4_bring_60 : decode cX4_bring 60 = .ok (.aload_n 0, 1) := by decide +kernel
theorem dX4_bring_61 : decode cX4_bring 61 = .ok (.getfield 26, 3) := by decide +kernel
theorem dX4_bring_64 : decode cX4_bring 64 = .ok (.aload_n 0, 1) := by decide +kernel
theorem dX4_bring_65 : decode cX4_bring 65 = .ok (.getfield 48, 3) := by decide +kernel
theorem dX4_bring_68 : decode cX4_bring 68 = .ok (.invokevirtual 179, 3) := by decide +kernel
theorem dX4_bring_71 : decode cX4_bring 71 = .ok (.aload_n 0, 1) := by decide +kernel
theorem dX4_bring_72 : decode cX4_bring 72 = .ok (.aload_n 0, 1) := by decide +kernel
theorem dX4_bring_73 : decode cX4_bring 73 = .ok (.getfield 36, 3) := by decide +kernel
theorem dX4_bring_76 : decode cX4_bring 76 = .ok (.getfield 183, 3) := by decide +kernel
theorem dX4_bring_79 : decode cX4_bring 79 = .ok (.putfield 54, 3) := by decide +kernel
theorem dX4_bring_82 : decode cX4_bring 82 = .ok (.aload_n 0, 1) := by decide +kernel
theorem dX4_bring_83 : decode cX4_bring 83 = .ok (.aload_n 0, 1) := by decide +kernel
theorem dX4_bring_84 : decode cX4_bring 84 = .ok (.getfield 36, 3) := by decide +kernel
theorem dX4_bring_87 : decode cX4_bring 87 = .ok (.getfield 183, 3) := by decide +kernel
theorem dX4_bring_90 : decode cX4_bring 90 = .ok (.aload_n 0, 1) := by decide +kernel
theorem dX4_bring_91 : decode cX4_bring 91 = .ok (.getfield 12, 3) := by decide +kernel
theorem dX4_bring_94 : decode cX4_bring 94 = .ok (.getfield 65, 3) := by decide +kernel
theorem dX4_bring_97 : decode cX4_bring 97 = .ok (.aload_n 0, 1) := by decide +kernel
theorem dX4_bring_98 : decode cX4_bring 98 = .ok (.getfield 12, 3) := by decide +kernel
theorem dX4_bring_101 : decode cX4_bring 101 = .ok (.getfield 186, 3) := by decide +kernel
theorem dX4_bring_104 : decode cX4_bring 104 = .ok (.invokestatic 189, 3) := by decide +kernel
theorem dX4_bring_107 : decode cX4_bring 107 = .ok (.putfield 58, 3) := by decide +kernel
theorem dX4_bring_110 : decode cX4_bring 110 = .ok (.aload_n 0, 1) := by decide +kernel
theorem dX4_bring_111 : decode cX4_bring 111 = .ok (.iconst 1, 1) := by decide +kernel
theorem dX4_bring_112 : decode cX4_bring 112 = .ok (.putfield 51, 3) := by decide +kernel
theorem dX4_bring_115 : decode cX4_bring 115 = .ok (.aload_n 0, 1) := by decide +kernel
theorem dX4_bring_116 : decode cX4_bring 116 = .ok (.getfield 36, 3) := by decide +kernel
theorem dX4_bring_119 : decode cX4_bring 119 = .ok (.getfield 193, 3) := by decide +kernel
theorem dX4_bring_122 : decode cX4_bring 122 = .ok (.lreturn, 1) := by decide +kernel
theorem dX4_brought_0 : decode cX4_brought 0 = .ok (.iload_n 1, 1) := by decide +kernel
theorem dX4_brought_1 : decode cX4_brought 1 = .ok (.iconst 0, 1) := by decide +kernel
theorem dX4_brought_2 : decode cX4_brought 2 = .ok (.iconst 1, 1) := by decide +kernel
theorem dX4_brought_3 : decode cX4_brought 3 = .ok (.invokestatic 61, 3) := by decide +kernel
theorem dX4_brought_6 : decode cX4_brought 6 = .ok (.ifCond .eq 11, 3) := by decide +kernel
theorem dX4_brought_9 : decode cX4_brought 9 = .ok (.aload_n 0, 1) := by decide +kernel
theorem dX4_brought_10 : decode cX4_brought 10 = .ok (.iload_n 2, 1) := by decide +kernel
theorem dX4_brought_11 : decode cX4_brought 11 = .ok (.invokevirtual 78, 3) := by decide +kernel
theorem dX4_brought_14 : decode cX4_brought 14 = .ok (.ifCond .ne 6, 3) := by decide +kernel
theorem dX4_brought_17 : decode cX4_brought 17 = .ok (.bipush (-2), 2) := by decide +kernel
theorem dX4_brought_19 : decode cX4_brought 19 = .ok (.ireturn, 1) := by decide +kernel
theorem dX4_brought_20 : decode cX4_brought 20 = .ok (.aload_n 0, 1) := by decide +kernel
theorem dX4_brought_21 : decode cX4_brought 21 = .ok (.getfield 51, 3) := by decide +kernel
theorem dX4_brought_24 : decode cX4_brought 24 = .ok (.ifCond .ne 6, 3) := by decide +kernel
theorem dX4_brought_27 : decode cX4_brought 27 = .ok (.bipush (-3), 2) := by decide +kernel
theorem dX4_brought_29 : decode cX4_brought 29 = .ok (.ireturn, 1) := by decide +kernel
theorem dX4_brought_30 : decode cX4_brought 30 = .ok (.iload_n 1, 1) := by decide +kernel
theorem dX4_brought_31 : decode cX4_brought 31 = .ok (.iconst 1, 1) := by decide +kernel
theorem dX4_brought_32 : decode cX4_brought 32 = .ok (.if_icmp .ne 10, 3) := by decide +kernel
theorem dX4_brought_35 : decode cX4_brought 35 = .ok (.aload_n 0, 1) := by decide +kernel
theorem dX4_brought_36 : decode cX4_brought 36 = .ok (.getfield 54, 3) := by decide +kernel
theorem dX4_brought_39 : decode cX4_brought 39 = .ok (.goto 7, 3) := by decide +kernel
theorem dX4_brought_42 : decode cX4_brought 42 = .ok (.aload_n 0, 1) := by decide +kernel
theorem dX4_brought_43 : decode cX4_brought 43 = .ok (.getfield 58, 3) := by decide +kernel
theorem dX4_brought_46 : decode cX4_brought 46 = .ok (.aload_n 0, 1) := by decide +kernel
theorem dX4_brought_47 : decode cX4_brought 47 = .ok (.getfield 12, 3) := by decide +kernel
theorem dX4_brought_50 : decode cX4_brought 50 = .ok (.getfield 65, 3) := by decide +kernel
theorem dX4_brought_53 : decode cX4_brought 53 = .ok (.iload_n 2, 1) := by decide +kernel
theorem dX4_brought_54 : decode cX4_brought 54 = .ok (.invokestatic 85, 3) := by decide +kernel
theorem dX4_brought_57 : decode cX4_brought 57 = .ok (.ireturn, 1) := by decide +kernel
theorem dX4_errors_0 : decode cX4_errors 0 = .ok (.aload_n 0, 1) := by decide +kernel
theorem dX4_errors_1 : decode cX4_errors 1 = .ok (.getfield 51, 3) := by decide +kernel
theorem dX4_errors_4 : decode cX4_errors 4 = .ok (.ifCond .eq 20, 3) := by decide +kernel
theorem dX4_errors_7 : decode cX4_errors 7 = .ok (.aload_n 0, 1) := by decide +kernel
theorem dX4_errors_8 : decode cX4_errors 8 = .ok (.getfield 58, 3) := by decide +kernel
theorem dX4_errors_11 : decode cX4_errors 11 = .ok (.aload_n 0, 1) := by decide +kernel
theorem dX4_errors_12 : decode cX4_errors 12 = .ok (.getfield 12, 3) := by decide +kernel
theorem dX4_errors_15 : decode cX4_errors 15 = .ok (.getfield 82, 3) := by decide +kernel
theorem dX4_errors_18 : decode cX4_errors 18 = .ok (.invokestatic 196, 3) := by decide +kernel
theorem dX4_errors_21 : decode cX4_errors 21 = .ok (.goto 5, 3) := by decide +kernel
theorem dX4_errors_24 : decode cX4_errors 24 = .ok (.bipush (-3), 2) := by decide +kernel
theorem dX4_errors_26 : decode cX4_errors 26 = .ok (.ireturn, 1) := by decide +kernel
theorem dX4_sweep_0 : decode cX4_sweep 0 = .ok (.iload_n 1, 1) := by decide +kernel
theorem dX4_sweep_1 : decode cX4_sweep 1 = .ok (.iconst 1, 1) := by decide +kernel
theorem dX4_sweep_2 : decode cX4_sweep 2 = .ok (.bipush 20, 2) := by decide +kernel
theorem dX4_sweep_4 : decode cX4_sweep 4 = .ok (.invokestatic 61, 3) := by decide +kernel
theorem dX4_sweep_7 : decode cX4_sweep 7 = .ok (.ifCond .ne 6, 3) := by decide +kernel
theorem dX4_sweep_10 : decode cX4_sweep 10 = .ok (.bipush (-2), 2) := by decide +kernel
theorem dX4_sweep_12 : decode cX4_sweep 12 = .ok (.ireturn, 1) := by decide +kernel
theorem dX4_sweep_13 : decode cX4_sweep 13 = .ok (.iconst 0, 1) := by decide +kernel
theorem dX4_sweep_14 : decode cX4_sweep 14 = .ok (.istore_n 2, 1) := by decide +kernel
theorem dX4_sweep_15 : decode cX4_sweep 15 = .ok (.iconst 0, 1) := by decide +kernel
theorem dX4_sweep_16 : decode cX4_sweep 16 = .ok (.istore_n 3, 1) := by decide +kernel
theorem dX4_sweep_17 : decode cX4_sweep 17 = .ok (.iload_n 3, 1) := by decide +kernel
theorem dX4_sweep_18 : decode cX4_sweep 18 = .ok (.iload_n 1, 1) := by decide +kernel
theorem dX4_sweep_19 : decode cX4_sweep 19 = .ok (.if_icmp .ge 25, 3) := by decide +kernel
theorem dX4_sweep_22 : decode cX4_sweep 22 = .ok (.iload_n 2, 1) := by decide +kernel
theorem dX4_sweep_23 : decode cX4_sweep 23 = .ok (.aload_n 0, 1) := by decide +kernel
theorem dX4_sweep_24 : decode cX4_sweep 24 = .ok (.aload_n 0, 1) := by decide +kernel
theorem dX4_sweep_25 : decode cX4_sweep 25 = .ok (.getfield 19, 3) := by decide +kernel
theorem dX4_sweep_28 : decode cX4_sweep 28 = .ok (.getfield 130, 3) := by decide +kernel
theorem dX4_sweep_31 : decode cX4_sweep 31 = .ok (.iload_n 3, 1) := by decide +kernel
theorem dX4_sweep_32 : decode cX4_sweep 32 = .ok (.iadd, 1) := by decide +kernel
theorem dX4_sweep_33 : decode cX4_sweep 33 = .ok (.invokevirtual 200, 3) := by decide +kernel
theorem dX4_sweep_36 : decode cX4_sweep 36 = .ok (.iadd, 1) := by decide +kernel
theorem dX4_sweep_37 : decode cX4_sweep 37 = .ok (.istore_n 2, 1) := by decide +kernel
theorem dX4_sweep_38 : decode cX4_sweep 38 = .ok (.iinc 3 1, 3) := by decide +kernel
theorem dX4_sweep_41 : decode cX4_sweep 41 = .ok (.goto (-24), 3) := by decide +kernel
theorem dX4_sweep_44 : decode cX4_sweep 44 = .ok (.iload_n 2, 1) := by decide +kernel
theorem dX4_sweep_45 : decode cX4_sweep 45 = .ok (.ireturn, 1) := by decide +kernel
theorem dX4_whole_0 : decode cX4_whole 0 = .ok (.iload_n 1, 1) := by decide +kernel
theorem dX4_whole_1 : decode cX4_whole 1 = .ok (.iconst 1, 1) := by decide +kernel
theorem dX4_whole_2 : decode cX4_whole 2 = .ok (.bipush 20, 2) := by decide +kernel
theorem dX4_whole_4 : decode cX4_whole 4 = .ok (.invokestatic 61, 3) := by decide +kernel
theorem dX4_whole_7 : decode cX4_whole 7 = .ok (.ifCond .ne 6, 3) := by decide +kernel
theorem dX4_whole_10 : decode cX4_whole 10 = .ok (.bipush (-2), 2) := by decide +kernel
theorem dX4_whole_12 : decode cX4_whole 12 = .ok (.ireturn, 1) := by decide +kernel
theorem dX4_whole_13 : decode cX4_whole 13 = .ok (.iconst 0, 1) := by decide +kernel
theorem dX4_whole_14 : decode cX4_whole 14 = .ok (.istore_n 2, 1) := by decide +kernel
theorem dX4_whole_15 : decode cX4_whole 15 = .ok (.iload_n 2, 1) := by decide +kernel
theorem dX4_whole_16 : decode cX4_whole 16 = .ok (.iload_n 1, 1) := by decide +kernel
theorem dX4_whole_17 : decode cX4_whole 17 = .ok (.if_icmp .ge 29, 3) := by decide +kernel
theorem dX4_whole_20 : decode cX4_whole 20 = .ok (.aload_n 0, 1) := by decide +kernel
theorem dX4_whole_21 : decode cX4_whole 21 = .ok (.aload_n 0, 1) := by decide +kernel
theorem dX4_whole_22 : decode cX4_whole 22 = .ok (.getfield 19, 3) := by decide +kernel
theorem dX4_whole_25 : decode cX4_whole 25 = .ok (.getfield 130, 3) := by decide +kernel
theorem dX4_whole_28 : decode cX4_whole 28 = .ok (.iload_n 2, 1) := by decide +kernel
theorem dX4_whole_29 : decode cX4_whole 29 = .ok (.iadd, 1) := by decide +kernel
theorem dX4_whole_30 : decode cX4_whole 30 = .ok (.invokevirtual 200, 3) := by decide +kernel
theorem dX4_whole_33 : decode cX4_whole 33 = .ok (.ifCond .ne 7, 3) := by decide +kernel
theorem dX4_whole_36 : decode cX4_whole 36 = .ok (.iload_n 2, 1) := by decide +kernel
theorem dX4_whole_37 : decode cX4_whole 37 = .ok (.iconst 1, 1) := by decide +kernel
theorem dX4_whole_38 : decode cX4_whole 38 = .ok (.iadd, 1) := by decide +kernel
theorem dX4_whole_39 : decode cX4_whole 39 = .ok (.ireturn, 1) := by decide +kernel
theorem dX4_whole_40 : decode cX4_whole 40 = .ok (.iinc 2 1, 3) := by decide +kernel
theorem dX4_whole_43 : decode cX4_whole 43 = .ok (.goto (-28), 3) := by decide +kernel
theorem dX4_whole_46 : decode cX4_whole 46 = .ok (.iconst (-1), 1) := by decide +kernel
theorem dX4_whole_47 : decode cX4_whole 47 = .ok (.ireturn, 1) := by decide +kernel
theorem dX4_count_0 : decode cX4_count 0 = .ok (.iload_n 1, 1) := by decide +kernel
theorem dX4_count_1 : decode cX4_count 1 = .ok (.tableswitch 88 0 4 #[35, 43, 51, 70, 75], 35) := by decide +kernel
theorem dX4_count_36 : decode cX4_count 36 = .ok (.aload_n 0, 1) := by decide +kernel
theorem dX4_count_37 : decode cX4_count 37 = .ok (.getfield 12, 3) := by decide +kernel
theorem dX4_count_40 : decode cX4_count 40 = .ok (.getfield 65, 3) := by decide +kernel
theorem dX4_count_43 : decode cX4_count 43 = .ok (.ireturn, 1) := by decide +kernel
theorem dX4_count_44 : decode cX4_count 44 = .ok (.aload_n 0, 1) := by decide +kernel
theorem dX4_count_45 : decode cX4_count 45 = .ok (.getfield 12, 3) := by decide +kernel
theorem dX4_count_48 : decode cX4_count 48 = .ok (.invokevirtual 142, 3) := by decide +kernel
theorem dX4_count_51 : decode cX4_count 51 = .ok (.ireturn, 1) := by decide +kernel
theorem dX4_count_52 : decode cX4_count 52 = .ok (.aload_n 0, 1) := by decide +kernel
theorem dX4_count_53 : decode cX4_count 53 = .ok (.getfield 44, 3) := by decide +kernel
theorem dX4_count_56 : decode cX4_count 56 = .ok (.ifCond .eq 13, 3) := by decide +kernel
theorem dX4_count_59 : decode cX4_count 59 = .ok (.aload_n 0, 1) := by decide +kernel
theorem dX4_count_60 : decode cX4_count 60 = .ok (.getfield 26, 3) := by decide +kernel
theorem dX4_count_63 : decode cX4_count 63 = .ok (.getfield 154, 3) := by decide +kernel
theorem dX4_count_66 : decode cX4_count 66 = .ok (.goto 4, 3) := by decide +kernel
theorem dX4_count_69 : decode cX4_count 69 = .ok (.iconst (-1), 1) := by decide +kernel
theorem dX4_count_70 : decode cX4_count 70 = .ok (.ireturn, 1) := by decide +kernel
theorem dX4_count_71 : decode cX4_count 71 = .ok (.aload_n 0, 1) := by decide +kernel
theorem dX4_count_72 : decode cX4_count 72 = .ok (.getfield 48, 3) := by decide +kernel
theorem dX4_count_75 : decode cX4_count 75 = .ok (.ireturn, 1) := by decide +kernel
theorem dX4_count_76 : decode cX4_count 76 = .ok (.aload_n 0, 1) := by decide +kernel
theorem dX4_count_77 : decode cX4_count 77 = .ok (.getfield 51, 3) := by decide +kernel
theorem dX4_count_80 : decode cX4_count 80 = .ok (.ifCond .eq 7, 3) := by decide +kernel
theorem dX4_count_83 : decode cX4_count 83 = .ok (.iconst 1, 1) := by decide +kernel
theorem dX4_count_84 : decode cX4_count 84 = .ok (.goto 4, 3) := by decide +kernel
theorem dX4_count_87 : decode cX4_count 87 = .ok (.iconst 0, 1) := by decide +kernel
theorem dX4_count_88 : decode cX4_count 88 = .ok (.ireturn, 1) := by decide +kernel
theorem dX4_count_89 : decode cX4_count 89 = .ok (.bipush (-2), 2) := by decide +kernel
theorem dX4_count_91 : decode cX4_count 91 = .ok (.ireturn, 1) := by decide +kernel
theorem dX4_changed_0 : decode cX4_changed 0 = .ok (.aload_n 0, 1) := by decide +kernel
theorem dX4_changed_1 : decode cX4_changed 1 = .ok (.invokevirtual 72, 3) := by decide +kernel
theorem dX4_changed_4 : decode cX4_changed 4 = .ok (.iconst 1, 1) := by decide +kernel
theorem dX4_changed_5 : decode cX4_changed 5 = .ok (.ireturn, 1) := by decide +kernel
theorem dX4_endHeard_0 : decode cX4_endHeard 0 = .ok (.aload_n 0, 1) := by decide +kernel
theorem dX4_endHeard_1 : decode cX4_endHeard 1 = .ok (.iconst 0, 1) := by decide +kernel
theorem dX4_endHeard_2 : decode cX4_endHeard 2 = .ok (.putfield 44, 3) := by decide +kernel
theorem dX4_endHeard_5 : decode cX4_endHeard 5 = .ok (.aload_n 0, 1) := by decide +kernel
theorem dX4_endHeard_6 : decode cX4_endHeard 6 = .ok (.iconst (-1), 1) := by decide +kernel
theorem dX4_endHeard_7 : decode cX4_endHeard 7 = .ok (.putfield 48, 3) := by decide +kernel
theorem dX4_endHeard_10 : decode cX4_endHeard 10 = .ok (.aload_n 0, 1) := by decide +kernel
theorem dX4_endHeard_11 : decode cX4_endHeard 11 = .ok (.iconst 0, 1) := by decide +kernel
theorem dX4_endHeard_12 : decode cX4_endHeard 12 = .ok (.putfield 51, 3) := by decide +kernel
theorem dX4_endHeard_15 : decode cX4_endHeard 15 = .ok (.return_, 1) := by decide +kernel
theorem dX4_isBitPlace_0 : decode cX4_isBitPlace 0 = .ok (.iload_n 1, 1) := by decide +kernel
theorem dX4_isBitPlace_1 : decode cX4_isBitPlace 1 = .ok (.iconst 0, 1) := by decide +kernel
theorem dX4_isBitPlace_2 : decode cX4_isBitPlace 2 = .ok (.aload_n 0, 1) := by decide +kernel
theorem dX4_isBitPlace_3 : decode cX4_isBitPlace 3 = .ok (.getfield 12, 3) := by decide +kernel
theorem dX4_isBitPlace_6 : decode cX4_isBitPlace 6 = .ok (.getfield 65, 3) := by decide +kernel
theorem dX4_isBitPlace_9 : decode cX4_isBitPlace 9 = .ok (.iconst 1, 1) := by decide +kernel
theorem dX4_isBitPlace_10 : decode cX4_isBitPlace 10 = .ok (.isub, 1) := by decide +kernel
theorem dX4_isBitPlace_11 : decode cX4_isBitPlace 11 = .ok (.invokestatic 61, 3) := by decide +kernel
theorem dX4_isBitPlace_14 : decode cX4_isBitPlace 14 = .ok (.ireturn, 1) := by decide +kernel
theorem dX4_errorsOfSending_0 : decode cX4_errorsOfSending 0 = .ok (.aload_n 0, 1) := by decide +kernel
theorem dX4_errorsOfSending_1 : decode cX4_errorsOfSending 1 = .ok (.getfield 30, 3) := by decide +kernel
theorem dX4_errorsOfSending_4 : decode cX4_errorsOfSending 4 = .ok (.aload_n 0, 1) := by decide +kernel
theorem dX4_errorsOfSending_5 : decode cX4_errorsOfSending 5 = .ok (.getfield 12, 3) := by decide +kernel
theorem dX4_errorsOfSending_8 : decode cX4_errorsOfSending 8 = .ok (.aload_n 0, 1) := by decide +kernel
theorem dX4_errorsOfSending_9 : decode cX4_errorsOfSending 9 = .ok (.getfield 19, 3) := by decide +kernel
theorem dX4_errorsOfSending_12 : decode cX4_errorsOfSending 12 = .ok (.iload_n 1, 1) := by decide +kernel
theorem dX4_errorsOfSending_13 : decode cX4_errorsOfSending 13 = .ok (.invokevirtual 150, 3) := by decide +kernel
theorem dX4_errorsOfSending_16 : decode cX4_errorsOfSending 16 = .ok (.aload_n 0, 1) := by decide +kernel
theorem dX4_errorsOfSending_17 : decode cX4_errorsOfSending 17 = .ok (.getfield 30, 3) := by decide +kernel
theorem dX4_errorsOfSending_20 : decode cX4_errorsOfSending 20 = .ok (.aload_n 0, 1) := by decide +kernel
theorem dX4_errorsOfSending_21 : decode cX4_errorsOfSending 21 = .ok (.getfield 12, 3) := by decide +kernel
theorem dX4_errorsOfSending_24 : decode cX4_errorsOfSending 24 = .ok (.aload_n 0, 1) := by decide +kernel
theorem dX4_errorsOfSending_25 : decode cX4_errorsOfSending 25 = .ok (.getfield 19, 3) := by decide +kernel
theorem dX4_errorsOfSending_28 : decode cX4_errorsOfSending 28 = .ok (.invokevirtual 161, 3) := by decide +kernel
theorem dX4_errorsOfSending_31 : decode cX4_errorsOfSending 31 = .ok (.aload_n 0, 1) := by decide +kernel
theorem dX4_errorsOfSending_32 : decode cX4_errorsOfSending 32 = .ok (.getfield 40, 3) := by decide +kernel
theorem dX4_errorsOfSending_35 : decode cX4_errorsOfSending 35 = .ok (.invokevirtual 164, 3) := by decide +kernel
theorem dX4_errorsOfSending_38 : decode cX4_errorsOfSending 38 = .ok (.istore_n 2, 1) := by decide +kernel
theorem dX4_errorsOfSending_39 : decode cX4_errorsOfSending 39 = .ok (.iload_n 2, 1) := by decide +kernel
theorem dX4_errorsOfSending_40 : decode cX4_errorsOfSending 40 = .ok (.iconst (-1), 1) := by decide +kernel
theorem dX4_errorsOfSending_41 : decode cX4_errorsOfSending 41 = .ok (.if_icmp .eq 13, 3) := by decide +kernel
theorem dX4_errorsOfSending_44 : decode cX4_errorsOfSending 44 = .ok (.aload_n 0, 1) := by decide +kernel
theorem dX4_errorsOfSending_45 : decode cX4_errorsOfSending 45 = .ok (.getfield 12, 3) := by decide +kernel
theorem dX4_errorsOfSending_48 : decode cX4_errorsOfSending 48 = .ok (.getfield 65, 3) := by decide +kernel
theorem dX4_errorsOfSending_51 : decode cX4_errorsOfSending 51 = .ok (.ifCond .ne 11, 3) := by decide +kernel
theorem dX4_errorsOfSending_54 : decode cX4_errorsOfSending 54 = .ok (.aload_n 0, 1) := by decide +kernel
theorem dX4_errorsOfSending_55 : decode cX4_errorsOfSending 55 = .ok (.getfield 12, 3) := by decide +kernel
theorem dX4_errorsOfSending_58 : decode cX4_errorsOfSending 58 = .ok (.getfield 65, 3) := by decide +kernel
theorem dX4_errorsOfSending_61 : decode cX4_errorsOfSending 61 = .ok (.ireturn, 1) := by decide +kernel
theorem dX4_errorsOfSending_62 : decode cX4_errorsOfSending 62 = .ok (.aload_n 0, 1) := by decide +kernel
theorem dX4_errorsOfSending_63 : decode cX4_errorsOfSending 63 = .ok (.getfield 19, 3) := by decide +kernel
theorem dX4_errorsOfSending_66 : decode cX4_errorsOfSending 66 = .ok (.getfield 116, 3) := by decide +kernel
theorem dX4_errorsOfSending_69 : decode cX4_errorsOfSending 69 = .ok (.iconst 0, 1) := by decide +kernel
theorem dX4_errorsOfSending_70 : decode cX4_errorsOfSending 70 = .ok (.aload_n 0, 1) := by decide +kernel
theorem dX4_errorsOfSending_71 : decode cX4_errorsOfSending 71 = .ok (.getfield 36, 3) := by decide +kernel
theorem dX4_errorsOfSending_74 : decode cX4_errorsOfSending 74 = .ok (.getfield 176, 3) := by decide +kernel
theorem dX4_errorsOfSending_77 : decode cX4_errorsOfSending 77 = .ok (.iconst 0, 1) := by decide +kernel
theorem dX4_errorsOfSending_78 : decode cX4_errorsOfSending 78 = .ok (.iconst 4, 1) := by decide +kernel
theorem dX4_errorsOfSending_79 : decode cX4_errorsOfSending 79 = .ok (.invokestatic 203, 3) := by decide +kernel
theorem dX4_errorsOfSending_82 : decode cX4_errorsOfSending 82 = .ok (.aload_n 0, 1) := by decide +kernel
theorem dX4_errorsOfSending_83 : decode cX4_errorsOfSending 83 = .ok (.getfield 36, 3) := by decide +kernel
theorem dX4_errorsOfSending_86 : decode cX4_errorsOfSending 86 = .ok (.aload_n 0, 1) := by decide +kernel
theorem dX4_errorsOfSending_87 : decode cX4_errorsOfSending 87 = .ok (.getfield 12, 3) := by decide +kernel
theorem dX4_errorsOfSending_90 : decode cX4_errorsOfSending 90 = .ok (.aload_n 0, 1) := by decide +kernel
theorem dX4_errorsOfSending_91 : decode cX4_errorsOfSending 91 = .ok (.getfield 30, 3) := by decide +kernel
theorem dX4_errorsOfSending_94 : decode cX4_errorsOfSending 94 = .ok (.iload_n 2, 1) := by decide +kernel
theorem dX4_errorsOfSending_95 : decode cX4_errorsOfSending 95 = .ok (.invokevirtual 179, 3) := by decide +kernel
theorem dX4_errorsOfSending_98 : decode cX4_errorsOfSending 98 = .ok (.aload_n 0, 1) := by decide +kernel
theorem dX4_errorsOfSending_99 : decode cX4_errorsOfSending 99 = .ok (.getfield 36, 3) := by decide +kernel
theorem dX4_errorsOfSending_102 : decode cX4_errorsOfSending 102 = .ok (.getfield 183, 3) := by decide +kernel
theorem dX4_errorsOfSending_105 : decode cX4_errorsOfSending 105 = .ok (.aload_n 0, 1) := by decide +kernel
theorem dX4_errorsOfSending_106 : decode cX4_errorsOfSending 106 = .ok (.getfield 12, 3) := by decide +kernel
theorem dX4_errorsOfSending_109 : decode cX4_errorsOfSending 109 = .ok (.getfield 65, 3) := by decide +kernel
theorem dX4_errorsOfSending_112 : decode cX4_errorsOfSending 112 = .ok (.aload_n 0, 1) := by decide +kernel
theorem dX4_errorsOfSending_113 : decode cX4_errorsOfSending 113 = .ok (.getfield 12, 3) := by decide +kernel
theorem dX4_errorsOfSending_116 : decode cX4_errorsOfSending 116 = .ok (.getfield 186, 3) := by decide +kernel
theorem dX4_errorsOfSending_119 : decode cX4_errorsOfSending 119 = .ok (.invokestatic 189, 3) := by decide +kernel
theorem dX4_errorsOfSending_122 : decode cX4_errorsOfSending 122 = .ok (.aload_n 0, 1) := by decide +kernel
theorem dX4_errorsOfSending_123 : decode cX4_errorsOfSending 123 = .ok (.getfield 12, 3) := by decide +kernel
theorem dX4_errorsOfSending_126 : decode cX4_errorsOfSending 126 = .ok (.getfield 82, 3) := by decide +kernel
theorem dX4_errorsOfSending_129 : decode cX4_errorsOfSending 129 = .ok (.invokestatic 196, 3) := by decide +kernel
theorem dX4_errorsOfSending_132 : decode cX4_errorsOfSending 132 = .ok (.ireturn, 1) := by decide +kernel
theorem dX4_within_0 : decode cX4_within 0 = .ok (.iload_n 0, 1) := by decide +kernel
theorem dX4_within_1 : decode cX4_within 1 = .ok (.iload_n 1, 1) := by decide +kernel
theorem dX4_within_2 : decode cX4_within 2 = .ok (.if_icmp .lt 12, 3) := by decide +kernel
theorem dX4_within_5 : decode cX4_within 5 = .ok (.iload_n 0, 1) := by decide +kernel
theorem dX4_within_6 : decode cX4_within 6 = .ok (.iload_n 2, 1) := by decide +kernel
theorem dX4_within_7 : decode cX4_within 7 = .ok (.if_icmp .gt 7, 3) := by decide +kernel
theorem dX4_within_10 : decode cX4_within 10 = .ok (.iconst 1, 1) := by decide +kernel
theorem dX4_within_11 : decode cX4_within 11 = .ok (.goto 4, 3) := by decide +kernel
theorem dX4_within_14 : decode cX4_within 14 = .ok (.iconst 0, 1) := by decide +kernel
theorem dX4_within_15 : decode cX4_within 15 = .ok (.ireturn, 1) := by decide +kernel
theorem dX4_areTaps_0 : decode cX4_areTaps 0 = .ok (.iload_n 0, 1) := by decide +kernel
theorem dX4_areTaps_1 : decode cX4_areTaps 1 = .ok (.bipush (-20), 2) := by decide +kernel
theorem dX4_areTaps_3 : decode cX4_areTaps 3 = .ok (.bipush 20, 2) := by decide +kernel
theorem dX4_areTaps_5 : decode cX4_areTaps 5 = .ok (.invokestatic 61, 3) := by decide +kernel
theorem dX4_areTaps_8 : decode cX4_areTaps 8 = .ok (.ifCond .eq 40, 3) := by decide +kernel
theorem dX4_areTaps_11 : decode cX4_areTaps 11 = .ok (.iload_n 1, 1) := by decide +kernel
theorem dX4_areTaps_12 : decode cX4_areTaps 12 = .ok (.bipush (-20), 2) := by decide +kernel
theorem dX4_areTaps_14 : decode cX4_areTaps 14 = .ok (.bipush 20, 2) := by decide +kernel
theorem dX4_areTaps_16 : decode cX4_areTaps 16 = .ok (.invokestatic 61, 3) := by decide +kernel
theorem dX4_areTaps_19 : decode cX4_areTaps 19 = .ok (.ifCond .eq 29, 3) := by decide +kernel
theorem dX4_areTaps_22 : decode cX4_areTaps 22 = .ok (.iload_n 2, 1) := by decide +kernel
theorem dX4_areTaps_23 : decode cX4_areTaps 23 = .ok (.bipush (-20), 2) := by decide +kernel
theorem dX4_areTaps_25 : decode cX4_areTaps 25 = .ok (.bipush 20, 2) := by decide +kernel
theorem dX4_areTaps_27 : decode cX4_areTaps 27 = .ok (.invokestatic 61, 3) := by decide +kernel
theorem dX4_areTaps_30 : decode cX4_areTaps 30 = .ok (.ifCond .eq 18, 3) := by decide +kernel
theorem dX4_areTaps_33 : decode cX4_areTaps 33 = .ok (.iload_n 3, 1) := by decide +kernel
theorem dX4_areTaps_34 : decode cX4_areTaps 34 = .ok (.bipush (-20), 2) := by decide +kernel
theorem dX4_areTaps_36 : decode cX4_areTaps 36 = .ok (.bipush 20, 2) := by decide +kernel
theorem dX4_areTaps_38 : decode cX4_areTaps 38 = .ok (.invokestatic 61, 3) := by decide +kernel
theorem dX4_areTaps_41 : decode cX4_areTaps 41 = .ok (.ifCond .eq 7, 3) := by decide +kernel
theorem dX4_areTaps_44 : decode cX4_areTaps 44 = .ok (.iconst 1, 1) := by decide +kernel
theorem dX4_areTaps_45 : decode cX4_areTaps 45 = .ok (.goto 4, 3) := by decide +kernel
theorem dX4_areTaps_48 : decode cX4_areTaps 48 = .ok (.iconst 0, 1) := by decide +kernel
theorem dX4_areTaps_49 : decode cX4_areTaps 49 = .ok (.ireturn, 1) := by decide +kernel
theorem dX4_setFour_0 : decode cX4_setFour 0 = .ok (.aload_n 0, 1) := by decide +kernel
theorem dX4_setFour_1 : decode cX4_setFour 1 = .ok (.arraylength, 1) := by decide +kernel
theorem dX4_setFour_2 : decode cX4_setFour 2 = .ok (.iconst 4, 1) := by decide +kernel
theorem dX4_setFour_3 : decode cX4_setFour 3 = .ok (.if_icmp .eq 4, 3) := by decide +kernel
theorem dX4_setFour_6 : decode cX4_setFour 6 = .ok (.return_, 1) := by decide +kernel
theorem dX4_setFour_7 : decode cX4_setFour 7 = .ok (.aload_n 0, 1) := by decide +kernel
theorem dX4_setFour_8 : decode cX4_setFour 8 = .ok (.iconst 0, 1) := by decide +kernel
theorem dX4_setFour_9 : decode cX4_setFour 9 = .ok (.iload_n 1, 1) := by decide +kernel
theorem dX4_setFour_10 : decode cX4_setFour 10 = .ok (.iastore, 1) := by decide +kernel
theorem dX4_setFour_11 : decode cX4_setFour 11 = .ok (.aload_n 0, 1) := by decide +kernel
theorem dX4_setFour_12 : decode cX4_setFour 12 = .ok (.iconst 1, 1) := by decide +kernel
theorem dX4_setFour_13 : decode cX4_setFour 13 = .ok (.iload_n 2, 1) := by decide +kernel
theorem dX4_setFour_14 : decode cX4_setFour 14 = .ok (.iastore, 1) := by decide +kernel
theorem dX4_setFour_15 : decode cX4_setFour 15 = .ok (.aload_n 0, 1) := by decide +kernel
theorem dX4_setFour_16 : decode cX4_setFour 16 = .ok (.iconst 2, 1) := by decide +kernel
theorem dX4_setFour_17 : decode cX4_setFour 17 = .ok (.iload_n 3, 1) := by decide +kernel
theorem dX4_setFour_18 : decode cX4_setFour 18 = .ok (.iastore, 1) := by decide +kernel
theorem dX4_setFour_19 : decode cX4_setFour 19 = .ok (.aload_n 0, 1) := by decide +kernel
theorem dX4_setFour_20 : decode cX4_setFour 20 = .ok (.iconst 3, 1) := by decide +kernel
theorem dX4_setFour_21 : decode cX4_setFour 21 = .ok (.iload 4, 2) := by decide +kernel
theorem dX4_setFour_23 : decode cX4_setFour 23 = .ok (.iastore, 1) := by decide +kernel
theorem dX4_setFour_24 : decode cX4_setFour 24 = .ok (.return_, 1) := by decide +kernel
theorem dX4_bitOf_0 : decode cX4_bitOf 0 = .ok (.lload_n 0, 1) := by decide +kernel
theorem dX4_bitOf_1 : decode cX4_bitOf 1 = .ok (.iload_n 2, 1) := by decide +kernel
theorem dX4_bitOf_2 : decode cX4_bitOf 2 = .ok (.iconst 1, 1) := by decide +kernel
theorem dX4_bitOf_3 : decode cX4_bitOf 3 = .ok (.isub, 1) := by decide +kernel
theorem dX4_bitOf_4 : decode cX4_bitOf 4 = .ok (.iload_n 3, 1) := by decide +kernel
theorem dX4_bitOf_5 : decode cX4_bitOf 5 = .ok (.isub, 1) := by decide +kernel
theorem dX4_bitOf_6 : decode cX4_bitOf 6 = .ok (.lshr, 1) := by decide +kernel
theorem dX4_bitOf_7 : decode cX4_bitOf 7 = .ok (.l2i, 1) := by decide +kernel
theorem dX4_bitOf_8 : decode cX4_bitOf 8 = .ok (.iconst 1, 1) := by decide +kernel
theorem dX4_bitOf_9 : decode cX4_bitOf 9 = .ok (.iand, 1) := by decide +kernel
theorem dX4_bitOf_10 : decode cX4_bitOf 10 = .ok (.ireturn, 1) := by decide +kernel
theorem dX4_differences_0 : decode cX4_differences 0 = .ok (.lload_n 0, 1) := by decide +kernel
theorem dX4_differences_1 : decode cX4_differences 1 = .ok (.lload_n 2, 1) := by decide +kernel
theorem dX4_differences_2 : decode cX4_differences 2 = .ok (.lxor, 1) := by decide +kernel
theorem dX4_differences_3 : decode cX4_differences 3 = .ok (.invokestatic 209, 3) := by decide +kernel
theorem dX4_differences_6 : decode cX4_differences 6 = .ok (.ireturn, 1) := by decide +kernel
theorem dX4_oddness_0 : decode cX4_oddness 0 = .ok (.lload_n 0, 1) := by decide +kernel
theorem dX4_oddness_1 : decode cX4_oddness 1 = .ok (.invokestatic 209, 3) := by decide +kernel
theorem dX4_oddness_4 : decode cX4_oddness 4 = .ok (.iconst 1, 1) := by decide +kernel
theorem dX4_oddness_5 : decode cX4_oddness 5 = .ok (.iand, 1) := by decide +kernel
theorem dX4_oddness_6 : decode cX4_oddness 6 = .ok (.ireturn, 1) := by decide +kernel
theorem dX4_mix_0 : decode cX4_mix 0 = .ok (.lconst 0, 1) := by decide +kernel
theorem dX4_mix_1 : decode cX4_mix 1 = .ok (.lstore 4, 2) := by decide +kernel
theorem dX4_mix_3 : decode cX4_mix 3 = .ok (.iconst 0, 1) := by decide +kernel
theorem dX4_mix_4 : decode cX4_mix 4 = .ok (.istore 6, 2) := by decide +kernel
theorem dX4_mix_6 : decode cX4_mix 6 = .ok (.iload 6, 2) := by decide +kernel
theorem dX4_mix_8 : decode cX4_mix 8 = .ok (.iload_n 2, 1) := by decide +kernel
theorem dX4_mix_9 : decode cX4_mix 9 = .ok (.if_icmp .ge 35, 3) := by decide +kernel
theorem dX4_mix_12 : decode cX4_mix 12 = .ok (.ldc2_w 215, 3) := by decide +kernel
theorem dX4_mix_15 : decode cX4_mix 15 = .ok (.lload 4, 2) := by decide +kernel
theorem dX4_mix_17 : decode cX4_mix 17 = .ok (.lmul, 1) := by decide +kernel
theorem dX4_mix_18 : decode cX4_mix 18 = .ok (.lload_n 0, 1) := by decide +kernel
theorem dX4_mix_19 : decode cX4_mix 19 = .ok (.iload_n 2, 1) := by decide +kernel
theorem dX4_mix_20 : decode cX4_mix 20 = .ok (.iload 6, 2) := by decide +kernel
theorem dX4_mix_22 : decode cX4_mix 22 = .ok (.invokestatic 85, 3) := by decide +kernel
theorem dX4_mix_25 : decode cX4_mix 25 = .ok (.lload 4, 2) := by decide +kernel
theorem dX4_mix_27 : decode cX4_mix 27 = .ok (.iload_n 3, 1) := by decide +kernel
theorem dX4_mix_28 : decode cX4_mix 28 = .ok (.i2l, 1) := by decide +kernel
theorem dX4_mix_29 : decode cX4_mix 29 = .ok (.land, 1) := by decide +kernel
theorem dX4_mix_30 : decode cX4_mix 30 = .ok (.invokestatic 217, 3) := by decide +kernel
theorem dX4_mix_33 : decode cX4_mix 33 = .ok (.ixor, 1) := by decide +kernel
theorem dX4_mix_34 : decode cX4_mix 34 = .ok (.i2l, 1) := by decide +kernel
theorem dX4_mix_35 : decode cX4_mix 35 = .ok (.ladd, 1) := by decide +kernel
theorem dX4_mix_36 : decode cX4_mix 36 = .ok (.lstore 4, 2) := by decide +kernel
theorem dX4_mix_38 : decode cX4_mix 38 = .ok (.iinc 6 1, 3) := by decide +kernel
theorem dX4_mix_41 : decode cX4_mix 41 = .ok (.goto (-35), 3) := by decide +kernel
theorem dX4_mix_44 : decode cX4_mix 44 = .ok (.lload 4, 2) := by decide +kernel
theorem dX4_mix_46 : decode cX4_mix 46 = .ok (.lreturn, 1) := by decide +kernel
theorem dX4_unmix_0 : decode cX4_unmix 0 = .ok (.lconst 0, 1) := by decide +kernel
theorem dX4_unmix_1 : decode cX4_unmix 1 = .ok (.lstore 4, 2) := by decide +kernel
theorem dX4_unmix_3 : decode cX4_unmix 3 = .ok (.iconst 0, 1) := by decide +kernel
theorem dX4_unmix_4 : decode cX4_unmix 4 = .ok (.istore 6, 2) := by decide +kernel
theorem dX4_unmix_6 : decode cX4_unmix 6 = .ok (.iload 6, 2) := by decide +kernel
theorem dX4_unmix_8 : decode cX4_unmix 8 = .ok (.iload_n 2, 1) := by decide +kernel
theorem dX4_unmix_9 : decode cX4_unmix 9 = .ok (.if_icmp .ge 43, 3) := by decide +kernel
theorem dX4_unmix_12 : decode cX4_unmix 12 = .ok (.lload_n 0, 1) := by decide +kernel
theorem dX4_unmix_13 : decode cX4_unmix 13 = .ok (.iload_n 2, 1) := by decide +kernel
theorem dX4_unmix_14 : decode cX4_unmix 14 = .ok (.iload 6, 2) := by decide +kernel
theorem dX4_unmix_16 : decode cX4_unmix 16 = .ok (.isub, 1) := by decide +kernel
theorem dX4_unmix_17 : decode cX4_unmix 17 = .ok (.lshr, 1) := by decide +kernel
theorem dX4_unmix_18 : decode cX4_unmix 18 = .ok (.lstore 7, 2) := by decide +kernel
theorem dX4_unmix_20 : decode cX4_unmix 20 = .ok (.ldc2_w 215, 3) := by decide +kernel
theorem dX4_unmix_23 : decode cX4_unmix 23 = .ok (.lload 4, 2) := by decide +kernel
theorem dX4_unmix_25 : decode cX4_unmix 25 = .ok (.lmul, 1) := by decide +kernel
theorem dX4_unmix_26 : decode cX4_unmix 26 = .ok (.lload_n 0, 1) := by decide +kernel
theorem dX4_unmix_27 : decode cX4_unmix 27 = .ok (.iload_n 2, 1) := by decide +kernel
theorem dX4_unmix_28 : decode cX4_unmix 28 = .ok (.iload 6, 2) := by decide +kernel
theorem dX4_unmix_30 : decode cX4_unmix 30 = .ok (.invokestatic 85, 3) := by decide +kernel
theorem dX4_unmix_33 : decode cX4_unmix 33 = .ok (.lload 7, 2) := by decide +kernel
theorem dX4_unmix_35 : decode cX4_unmix 35 = .ok (.iload_n 3, 1) := by decide +kernel
theorem dX4_unmix_36 : decode cX4_unmix 36 = .ok (.i2l, 1) := by decide +kernel
theorem dX4_unmix_37 : decode cX4_unmix 37 = .ok (.land, 1) := by decide +kernel
theorem dX4_unmix_38 : decode cX4_unmix 38 = .ok (.invokestatic 217, 3) := by decide +kernel
theorem dX4_unmix_41 : decode cX4_unmix 41 = .ok (.ixor, 1) := by decide +kernel
theorem dX4_unmix_42 : decode cX4_unmix 42 = .ok (.i2l, 1) := by decide +kernel
theorem dX4_unmix_43 : decode cX4_unmix 43 = .ok (.ladd, 1) := by decide +kernel
theorem dX4_unmix_44 : decode cX4_unmix 44 = .ok (.lstore 4, 2) := by decide +kernel
theorem dX4_unmix_46 : decode cX4_unmix 46 = .ok (.iinc 6 1, 3) := by decide +kernel
theorem dX4_unmix_49 : decode cX4_unmix 49 = .ok (.goto (-43), 3) := by decide +kernel
theorem dX4_unmix_52 : decode cX4_unmix 52 = .ok (.lload 4, 2) := by decide +kernel
theorem dX4_unmix_54 : decode cX4_unmix 54 = .ok (.lreturn, 1) := by decide +kernel
end
section
theorem dX5_init_0 : decode cX5_init 0 = .ok (.aload_n 0, 1) := by decide +kernel
theorem dX5_init_1 : decode cX5_init 1 = .ok (.invokespecial 1, 3) := by decide +kernel
theorem dX5_init_4 : decode cX5_init 4 = .ok (.aload_n 0, 1) := by decide +kernel
theorem dX5_init_5 : decode cX5_init 5 = .ok (.bipush 40, 2) := by decide +kernel
theorem dX5_init_7 : decode cX5_init 7 = .ok (.newarray .int, 2) := by decide +kernel
theorem dX5_init_9 : decode cX5_init 9 = .ok (.putfield 7, 3) := by decide +kernel
theorem dX5_init_12 : decode cX5_init 12 = .ok (.aload_n 0, 1) := by decide +kernel
theorem dX5_init_13 : decode cX5_init 13 = .ok (.bipush 13, 2) := by decide +kernel
theorem dX5_init_15 : decode cX5_init 15 = .ok (.putfield 13, 3) := by decide +kernel
theorem dX5_init_18 : decode cX5_init 18 = .ok (.aload_n 0, 1) := by decide +kernel
theorem dX5_init_19 : decode cX5_init 19 = .ok (.bipush 15, 2) := by decide +kernel
theorem dX5_init_21 : decode cX5_init 21 = .ok (.putfield 17, 3) := by decide +kernel
theorem dX5_init_24 : decode cX5_init 24 = .ok (.aload_n 0, 1) := by decide +kernel
theorem dX5_init_25 : decode cX5_init 25 = .ok (.bipush 10, 2) := by decide +kernel
theorem dX5_init_27 : decode cX5_init 27 = .ok (.putfield 20, 3) := by decide +kernel
theorem dX5_init_30 : decode cX5_init 30 = .ok (.aload_n 0, 1) := by decide +kernel
theorem dX5_init_31 : decode cX5_init 31 = .ok (.bipush 8, 2) := by decide +kernel
theorem dX5_init_33 : decode cX5_init 33 = .ok (.putfield 23, 3) := by decide +kernel
theorem dX5_init_36 : decode cX5_init 36 = .ok (.aload_n 0, 1) := by decide +kernel
theorem dX5_init_37 : decode cX5_init 37 = .ok (.sipush 212, 3) := by decide +kernel
theorem dX5_init_40 : decode cX5_init 40 = .ok (.putfield 26, 3) := by decide +kernel
theorem dX5_init_43 : decode cX5_init 43 = .ok (.aload_n 0, 1) := by decide +kernel
theorem dX5_init_44 : decode cX5_init 44 = .ok (.iconst 4, 1) := by decide +kernel
theorem dX5_init_45 : decode cX5_init 45 = .ok (.newarray .int, 2) := by decide +kernel
theorem dX5_init_47 : decode cX5_init 47 = .ok (.putfield 29, 3) := by decide +kernel
theorem dX5_init_50 : decode cX5_init 50 = .ok (.aload_n 0, 1) := by decide +kernel
theorem dX5_init_51 : decode cX5_init 51 = .ok (.iconst 1, 1) := by decide +kernel
theorem dX5_init_52 : decode cX5_init 52 = .ok (.putfield 32, 3) := by decide +kernel
theorem dX5_init_55 : decode cX5_init 55 = .ok (.aload_n 0, 1) := by decide +kernel
theorem dX5_init_56 : decode cX5_init 56 = .ok (.iconst 1, 1) := by decide +kernel
theorem dX5_init_57 : decode cX5_init 57 = .ok (.putfield 35, 3) := by decide +kernel
theorem dX5_init_60 : decode cX5_init 60 = .ok (.aload_n 0, 1) := by decide +kernel
theorem dX5_init_61 : decode cX5_init 61 = .ok (.iconst (-1), 1) := by decide +kernel
theorem dX5_init_62 : decode cX5_init 62 = .ok (.putfield 38, 3) := by decide +kernel
theorem dX5_init_65 : decode cX5_init 65 = .ok (.aload_n 0, 1) := by decide +kernel
theorem dX5_init_66 : decode cX5_init 66 = .ok (.sipush 160, 3) := by decide +kernel
theorem dX5_init_69 : decode cX5_init 69 = .ok (.newarray .int, 2) := by decide +kernel
theorem dX5_init_71 : decode cX5_init 71 = .ok (.putfield 41, 3) := by decide +kernel
theorem dX5_init_74 : decode cX5_init 74 = .ok (.aload_n 0, 1) := by decide +kernel
theorem dX5_init_75 : decode cX5_init 75 = .ok (.bipush 40, 2) := by decide +kernel
theorem dX5_init_77 : decode cX5_init 77 = .ok (.newarray .int, 2) := by decide +kernel
theorem dX5_init_79 : decode cX5_init 79 = .ok (.putfield 44, 3) := by decide +kernel
theorem dX5_init_82 : decode cX5_init 82 = .ok (.aload_n 0, 1) := by decide +kernel
theorem dX5_init_83 : decode cX5_init 83 = .ok (.bipush 40, 2) := by decide +kernel
theorem dX5_init_85 : decode cX5_init 85 = .ok (.newarray .int, 2) := by decide +kernel
theorem dX5_init_87 : decode cX5_init 87 = .ok (.putfield 47, 3) := by decide +kernel
theorem dX5_init_90 : decode cX5_init 90 = .ok (.aload_n 0, 1) := by decide +kernel
theorem dX5_init_91 : decode cX5_init 91 = .ok (.bipush 43, 2) := by decide +kernel
theorem dX5_init_93 : decode cX5_init 93 = .ok (.newarray .int, 2) := by decide +kernel
theorem dX5_init_95 : decode cX5_init 95 = .ok (.putfield 50, 3) := by decide +kernel
theorem dX5_init_98 : decode cX5_init 98 = .ok (.aload_n 0, 1) := by decide +kernel
theorem dX5_init_99 : decode cX5_init 99 = .ok (.bipush 102, 2) := by decide +kernel
theorem dX5_init_101 : decode cX5_init 101 = .ok (.newarray .int, 2) := by decide +kernel
theorem dX5_init_103 : decode cX5_init 103 = .ok (.putfield 53, 3) := by decide +kernel
theorem dX5_init_106 : decode cX5_init 106 = .ok (.aload_n 0, 1) := by decide +kernel
theorem dX5_init_107 : decode cX5_init 107 = .ok (.sipush 160, 3) := by decide +kernel
theorem dX5_init_110 : decode cX5_init 110 = .ok (.newarray .int, 2) := by decide +kernel
theorem dX5_init_112 : decode cX5_init 112 = .ok (.putfield 56, 3) := by decide +kernel
theorem dX5_init_115 : decode cX5_init 115 = .ok (.aload_n 0, 1) := by decide +kernel
theorem dX5_init_116 : decode cX5_init 116 = .ok (.sipush 1408, 3) := by decide +kernel
theorem dX5_init_119 : decode cX5_init 119 = .ok (.newarray .long, 2) := by decide +kernel
theorem dX5_init_121 : decode cX5_init 121 = .ok (.putfield 59, 3) := by decide +kernel
theorem dX5_init_124 : decode cX5_init 124 = .ok (.aload_n 0, 1) := by decide +kernel
theorem dX5_init_125 : decode cX5_init 125 = .ok (.iconst 4, 1) := by decide +kernel
theorem dX5_init_126 : decode cX5_init 126 = .ok (.newarray .int, 2) := by decide +kernel
theorem dX5_init_128 : decode cX5_init 128 = .ok (.putfield 63, 3) := by decide +kernel
theorem dX5_init_131 : decode cX5_init 131 = .ok (.aload_n 0, 1) := by decide +kernel
theorem dX5_init_132 : decode cX5_init 132 = .ok (.bipush 40, 2) := by decide +kernel
theorem dX5_init_134 : decode cX5_init 134 = .ok (.newarray .int, 2) := by decide +kernel
theorem dX5_init_136 : decode cX5_init 136 = .ok (.putfield 66, 3) := by decide +kernel
theorem dX5_init_139 : decode cX5_init 139 = .ok (.aload_n 0, 1) := by decide +kernel
theorem dX5_init_140 : decode cX5_init 140 = .ok (.bipush 40, 2) := by decide +kernel
theorem dX5_init_142 : decode cX5_init 142 = .ok (.newarray .int, 2) := by decide +kernel
theorem dX5_init_144 : decode cX5_init 144 = .ok (.putfield 69, 3) := by decide +kernel
theorem dX5_init_147 : decode cX5_init 147 = .ok (.aload_n 0, 1) := by decide +kernel
theorem dX5_init_148 : decode cX5_init 148 = .ok (.getfield 29, 3) := by decide +kernel
theorem dX5_init_151 : decode cX5_init 151 = .ok (.iconst 0, 1) := by decide +kernel
theorem dX5_init_152 : decode cX5_init 152 = .ok (.iconst 1, 1) := by decide +kernel
theorem dX5_init_153 : decode cX5_init 153 = .ok (.iastore, 1) := by decide +kernel
theorem dX5_init_154 : decode cX5_init 154 = .ok (.return_, 1) := by decide +kernel
theorem dX5_in_0 : decode cX5_in 0 = .ok (.iload_n 0, 1) := by decide +kernel
theorem dX5_in_1 : decode cX5_in 1 = .ok (.iload_n 1, 1) := by decide +kernel
theorem dX5_in_2 : decode cX5_in 2 = .ok (.if_icmp .lt 12, 3) := by decide +kernel
theorem dX5_in_5 : decode cX5_in 5 = .ok (.iload_n 0, 1) := by decide +kernel
theorem dX5_in_6 : decode cX5_in 6 = .ok (.iload_n 2, 1) := by decide +kernel
theorem dX5_in_7 : decode cX5_in 7 = .ok (.if_icmp .gt 7, 3) := by decide +kernel
theorem dX5_in_10 : decode cX5_in 10 = .ok (.iconst 1, 1) := by decide +kernel
theorem dX5_in_11 : decode cX5_in 11 = .ok (.goto 4, 3) := by decide +kernel
theorem dX5_in_14 : decode cX5_in 14 = .ok (.iconst 0, 1) := by decide +kernel
theorem dX5_in_15 : decode cX5_in 15 = .ok (.ireturn, 1) := by decide +kernel
theorem dX5_odd_0 : decode cX5_odd 0 = .ok (.iconst 0, 1) := by decide +kernel
theorem dX5_odd_1 : decode cX5_odd 1 = .ok (.istore_n 1, 1) := by decide +kernel
theorem dX5_odd_2 : decode cX5_odd 2 = .ok (.iconst 0, 1) := by decide +kernel
theorem dX5_odd_3 : decode cX5_odd 3 = .ok (.istore_n 2, 1) := by decide +kernel
theorem dX5_odd_4 : decode cX5_odd 4 = .ok (.iload_n 2, 1) := by decide +kernel
theorem dX5_odd_5 : decode cX5_odd 5 = .ok (.bipush 8, 2) := by decide +kernel
theorem dX5_odd_7 : decode cX5_odd 7 = .ok (.if_icmp .ge 17, 3) := by decide +kernel
theorem dX5_odd_10 : decode cX5_odd 10 = .ok (.iload_n 1, 1) := by decide +kernel
theorem dX5_odd_11 : decode cX5_odd 11 = .ok (.iload_n 0, 1) := by decide +kernel
theorem dX5_odd_12 : decode cX5_odd 12 = .ok (.iload_n 2, 1) := by decide +kernel
theorem dX5_odd_13 : decode cX5_odd 13 = .ok (.ishr, 1) := by decide +kernel
theorem dX5_odd_14 : decode cX5_odd 14 = .ok (.iconst 1, 1) := by decide +kernel
theorem dX5_odd_15 : decode cX5_odd 15 = .ok (.iand, 1) := by decide +kernel
theorem dX5_odd_16 : decode cX5_odd 16 = .ok (.iadd, 1) := by decide +kernel
theorem dX5_odd_17 : decode cX5_odd 17 = .ok (.istore_n 1, 1) := by decide +kernel
theorem dX5_odd_18 : decode cX5_odd 18 = .ok (.iinc 2 1, 3) := by decide +kernel
theorem dX5_odd_21 : decode cX5_odd 21 = .ok (.goto (-17), 3) := by decide +kernel
theorem dX5_odd_24 : decode cX5_odd 24 = .ok (.iload_n 1, 1) := by decide +kernel
theorem dX5_odd_25 : decode cX5_odd 25 = .ok (.iconst 2, 1) := by decide +kernel
theorem dX5_odd_26 : decode cX5_odd 26 = .ok (.irem, 1) := by decide +kernel
theorem dX5_odd_27 : decode cX5_odd 27 = .ok (.ireturn, 1) := by decide +kernel
theorem dX5_ended_0 : decode cX5_ended 0 = .ok (.aload_n 0, 1) := by decide +kernel
theorem dX5_ended_1 : decode cX5_ended 1 = .ok (.iconst 0, 1) := by decide +kernel
theorem dX5_ended_2 : decode cX5_ended 2 = .ok (.putfield 72, 3) := by decide +kernel
theorem dX5_ended_5 : decode cX5_ended 5 = .ok (.aload_n 0, 1) := by decide +kernel
theorem dX5_ended_6 : decode cX5_ended 6 = .ok (.iconst (-1), 1) := by decide +kernel
theorem dX5_ended_7 : decode cX5_ended 7 = .ok (.putfield 38, 3) := by decide +kernel
theorem dX5_ended_10 : decode cX5_ended 10 = .ok (.aload_n 0, 1) := by decide +kernel
theorem dX5_ended_11 : decode cX5_ended 11 = .ok (.iconst 0, 1) := by decide +kernel
theorem dX5_ended_12 : decode cX5_ended 12 = .ok (.putfield 76, 3) := by decide +kernel
theorem dX5_ended_15 : decode cX5_ended 15 = .ok (.iconst 1, 1) := by decide +kernel
theorem dX5_ended_16 : decode cX5_ended 16 = .ok (.ireturn, 1) := by decide +kernel
theorem dX5_bits_0 : decode cX5_bits 0 = .ok (.iload_n 3, 1) := by decide +kernel
theorem dX5_bits_1 : decode cX5_bits 1 = .ok (.iconst 1, 1) := by decide +kernel
theorem dX5_bits_2 : decode cX5_bits 2 = .ok (.bipush 40, 2) := by decide +kernel
theorem dX5_bits_4 : decode cX5_bits 4 = .ok (.invokestatic 79, 3) := by decide +kernel
theorem dX5_bits_7 : decode cX5_bits 7 = .ok (.ifCond .ne 6, 3) := by decide +kernel
theorem dX5_bits_10 : decode cX5_bits 10 = .ok (.bipush (-2), 2) := by decide +kernel
theorem dX5_bits_12 : decode cX5_bits 12 = .ok (.ireturn, 1) := by decide +kernel
theorem dX5_bits_13 : decode cX5_bits 13 = .ok (.aload_n 0, 1) := by decide +kernel
theorem dX5_bits_14 : decode cX5_bits 14 = .ok (.getfield 83, 3) := by decide +kernel
theorem dX5_bits_17 : decode cX5_bits 17 = .ok (.iload_n 3, 1) := by decide +kernel
theorem dX5_bits_18 : decode cX5_bits 18 = .ok (.iadd, 1) := by decide +kernel
theorem dX5_bits_19 : decode cX5_bits 19 = .ok (.bipush 40, 2) := by decide +kernel
theorem dX5_bits_21 : decode cX5_bits 21 = .ok (.if_icmp .le 6, 3) := by decide +kernel
theorem dX5_bits_24 : decode cX5_bits 24 = .ok (.bipush (-4), 2) := by decide +kernel
theorem dX5_bits_26 : decode cX5_bits 26 = .ok (.ireturn, 1) := by decide +kernel
theorem dX5_bits_27 : decode cX5_bits 27 = .ok (.iload_n 3, 1) := by decide +kernel
theorem dX5_bits_28 : decode cX5_bits 28 = .ok (.iconst 1, 1) := by decide +kernel
theorem dX5_bits_29 : decode cX5_bits 29 = .ok (.isub, 1) := by decide +kernel
theorem dX5_bits_30 : decode cX5_bits 30 = .ok (.istore 4, 2) := by decide +kernel
theorem dX5_bits_32 : decode cX5_bits 32 = .ok (.iload 4, 2) := by decide +kernel
theorem dX5_bits_34 : decode cX5_bits 34 = .ok (.ifCond .lt 35, 3) := by decide +kernel
theorem dX5_bits_37 : decode cX5_bits 37 = .ok (.aload_n 0, 1) := by decide +kernel
theorem dX5_bits_38 : decode cX5_bits 38 = .ok (.getfield 7, 3) := by decide +kernel
theorem dX5_bits_41 : decode cX5_bits 41 = .ok (.aload_n 0, 1) := by decide +kernel
theorem dX5_bits_42 : decode cX5_bits 42 = .ok (.getfield 83, 3) := by decide +kernel
theorem dX5_bits_45 : decode cX5_bits 45 = .ok (.lload_n 1, 1) := by decide +kernel
theorem dX5_bits_46 : decode cX5_bits 46 = .ok (.iload 4, 2) := by decide +kernel
theorem dX5_bits_48 : decode cX5_bits 48 = .ok (.lshr, 1) := by decide +kernel
theorem dX5_bits_49 : decode cX5_bits 49 = .ok (.lconst 1, 1) := by decide +kernel
theorem dX5_bits_50 : decode cX5_bits 50 = .ok (.land, 1) := by decide +kernel
theorem dX5_bits_51 : decode cX5_bits 51 = .ok (.l2i, 1) := by decide +kernel
theorem dX5_bits_52 : decode cX5_bits 52 = .ok (.iastore, 1) := by decide +kernel
theorem dX5_bits_53 : decode cX5_bits 53 = .ok (.aload_n 0, 1) := by decide +kernel
theorem dX5_bits_54 : decode cX5_bits 54 = .ok (.dup, 1) := by decide +kernel
theorem dX5_bits_55 : decode cX5_bits 55 = .ok (.getfield 83, 3) := by decide +kernel
theorem dX5_bits_58 : decode cX5_bits 58 = .ok (.iconst 1, 1) := by decide +kernel
theorem dX5_bits_59 : decode cX5_bits 59 = .ok (.iadd, 1) := by decide +kernel
theorem dX5_bits_60 : decode cX5_bits 60 = .ok (.putfield 83, 3) := by decide +kernel
theorem dX5_bits_63 : decode cX5_bits 63 = .ok (.iinc 4 (-1), 3) := by decide +kernel
theorem dX5_bits_66 : decode cX5_bits 66 = .ok (.goto (-34), 3) := by decide +kernel
theorem dX5_bits_69 : decode cX5_bits 69 = .ok (.aload_n 0, 1) := by decide +kernel
theorem dX5_bits_70 : decode cX5_bits 70 = .ok (.invokevirtual 86, 3) := by decide +kernel
theorem dX5_bits_73 : decode cX5_bits 73 = .ok (.pop, 1) := by decide +kernel
theorem dX5_bits_74 : decode cX5_bits 74 = .ok (.aload_n 0, 1) := by decide +kernel
theorem dX5_bits_75 : decode cX5_bits 75 = .ok (.getfield 83, 3) := by decide +kernel
theorem dX5_bits_78 : decode cX5_bits 78 = .ok (.ireturn, 1) := by decide +kernel
theorem dX5_clear_0 : decode cX5_clear 0 = .ok (.aload_n 0, 1) := by decide +kernel
theorem dX5_clear_1 : decode cX5_clear 1 = .ok (.getfield 83, 3) := by decide +kernel
theorem dX5_clear_4 : decode cX5_clear 4 = .ok (.istore_n 1, 1) := by decide +kernel
theorem dX5_clear_5 : decode cX5_clear 5 = .ok (.aload_n 0, 1) := by decide +kernel
theorem dX5_clear_6 : decode cX5_clear 6 = .ok (.iconst 0, 1) := by decide +kernel
theorem dX5_clear_7 : decode cX5_clear 7 = .ok (.putfield 83, 3) := by decide +kernel
theorem dX5_clear_10 : decode cX5_clear 10 = .ok (.aload_n 0, 1) := by decide +kernel
theorem dX5_clear_11 : decode cX5_clear 11 = .ok (.invokevirtual 86, 3) := by decide +kernel
theorem dX5_clear_14 : decode cX5_clear 14 = .ok (.pop, 1) := by decide +kernel
theorem dX5_clear_15 : decode cX5_clear 15 = .ok (.iload_n 1, 1) := by decide +kernel
theorem dX5_clear_16 : decode cX5_clear 16 = .ok (.ireturn, 1) := by decide +kernel
theorem dX5_bit_0 : decode cX5_bit 0 = .ok (.iload_n 1, 1) := by decide +kernel
theorem dX5_bit_1 : decode cX5_bit 1 = .ok (.iconst 0, 1) := by decide +kernel
theorem dX5_bit_2 : decode cX5_bit 2 = .ok (.aload_n 0, 1) := by decide +kernel
theorem dX5_bit_3 : decode cX5_bit 3 = .ok (.getfield 83, 3) := by decide +kernel
theorem dX5_bit_6 : decode cX5_bit 6 = .ok (.iconst 1, 1) := by decide +kernel
theorem dX5_bit_7 : decode cX5_bit 7 = .ok (.isub, 1) := by decide +kernel
theorem dX5_bit_8 : decode cX5_bit 8 = .ok (.invokestatic 79, 3) := by decide +kernel
theorem dX5_bit_11 : decode cX5_bit 11 = .ok (.ifCond .eq 12, 3) := by decide +kernel
theorem dX5_bit_14 : decode cX5_bit 14 = .ok (.aload_n 0, 1) := by decide +kernel
theorem dX5_bit_15 : decode cX5_bit 15 = .ok (.getfield 7, 3) := by decide +kernel
theorem dX5_bit_18 : decode cX5_bit 18 = .ok (.iload_n 1, 1) := by decide +kernel
theorem dX5_bit_19 : decode cX5_bit 19 = .ok (.iaload, 1) := by decide +kernel
theorem dX5_bit_20 : decode cX5_bit 20 = .ok (.goto 5, 3) := by decide +kernel
theorem dX5_bit_23 : decode cX5_bit 23 = .ok (.bipush (-2), 2) := by decide +kernel
theorem dX5_bit_25 : decode cX5_bit 25 = .ok (.ireturn, 1) := by decide +kernel
theorem dX5_mask_0 : decode cX5_mask 0 = .ok (.iload_n 1, 1) := by decide +kernel
theorem dX5_mask_1 : decode cX5_mask 1 = .ok (.iconst 0, 1) := by decide +kernel
theorem dX5_mask_2 : decode cX5_mask 2 = .ok (.bipush 127, 2) := by decide +kernel
theorem dX5_mask_4 : decode cX5_mask 4 = .ok (.invokestatic 79, 3) := by decide +kernel
theorem dX5_mask_7 : decode cX5_mask 7 = .ok (.ifCond .ne 6, 3) := by decide +kernel
theorem dX5_mask_10 : decode cX5_mask 10 = .ok (.bipush (-2), 2) := by decide +kernel
theorem dX5_mask_12 : decode cX5_mask 12 = .ok (.ireturn, 1) := by decide +kernel
theorem dX5_mask_13 : decode cX5_mask 13 = .ok (.aload_n 0, 1) := by decide +kernel
theorem dX5_mask_14 : decode cX5_mask 14 = .ok (.iload_n 1, 1) := by decide +kernel
theorem dX5_mask_15 : decode cX5_mask 15 = .ok (.putfield 90, 3) := by decide +kernel
theorem dX5_mask_18 : decode cX5_mask 18 = .ok (.aload_n 0, 1) := by decide +kernel
theorem dX5_mask_19 : decode cX5_mask 19 = .ok (.invokevirtual 86, 3) := by decide +kernel
theorem dX5_mask_22 : decode cX5_mask 22 = .ok (.ireturn, 1) := by decide +kernel
theorem dX5_code_0 : decode cX5_code 0 = .ok (.iload_n 1, 1) := by decide +kernel
theorem dX5_code_1 : decode cX5_code 1 = .ok (.iconst 1, 1) := by decide +kernel
theorem dX5_code_2 : decode cX5_code 2 = .ok (.bipush 15, 2) := by decide +kernel
theorem dX5_code_4 : decode cX5_code 4 = .ok (.invokestatic 79, 3) := by decide +kernel
theorem dX5_code_7 : decode cX5_code 7 = .ok (.ifCond .eq 13, 3) := by decide +kernel
theorem dX5_code_10 : decode cX5_code 10 = .ok (.iload_n 2, 1) := by decide +kernel
theorem dX5_code_11 : decode cX5_code 11 = .ok (.iconst 1, 1) := by decide +kernel
theorem dX5_code_12 : decode cX5_code 12 = .ok (.bipush 15, 2) := by decide +kernel
theorem dX5_code_14 : decode cX5_code 14 = .ok (.invokestatic 79, 3) := by decide +kernel
theorem dX5_code_17 : decode cX5_code 17 = .ok (.ifCond .ne 6, 3) := by decide +kernel
theorem dX5_code_20 : decode cX5_code 20 = .ok (.bipush (-2), 2) := by decide +kernel
theorem dX5_code_22 : decode cX5_code 22 = .ok (.ireturn, 1) := by decide +kernel
theorem dX5_code_23 : decode cX5_code 23 = .ok (.aload_n 0, 1) := by decide +kernel
theorem dX5_code_24 : decode cX5_code 24 = .ok (.iload_n 1, 1) := by decide +kernel
theorem dX5_code_25 : decode cX5_code 25 = .ok (.putfield 13, 3) := by decide +kernel
theorem dX5_code_28 : decode cX5_code 28 = .ok (.aload_n 0, 1) := by decide +kernel
theorem dX5_code_29 : decode cX5_code 29 = .ok (.iload_n 2, 1) := by decide +kernel
theorem dX5_code_30 : decode cX5_code 30 = .ok (.putfield 17, 3) := by decide +kernel
theorem dX5_code_33 : decode cX5_code 33 = .ok (.aload_n 0, 1) := by decide +kernel
theorem dX5_code_34 : decode cX5_code 34 = .ok (.invokevirtual 86, 3) := by decide +kernel
theorem dX5_code_37 : decode cX5_code 37 = .ok (.ireturn, 1) := by decide +kernel
theorem dX5_amp_0 : decode cX5_amp 0 = .ok (.iload_n 1, 1) := by decide +kernel
theorem dX5_amp_1 : decode cX5_amp 1 = .ok (.iconst 1, 1) := by decide +kernel
theorem dX5_amp_2 : decode cX5_amp 2 = .ok (.bipush 100, 2) := by decide +kernel
theorem dX5_amp_4 : decode cX5_amp 4 = .ok (.invokestatic 79, 3) := by decide +kernel
theorem dX5_amp_7 : decode cX5_amp 7 = .ok (.ifCond .ne 6, 3) := by decide +kernel
theorem dX5_amp_10 : decode cX5_amp 10 = .ok (.bipush (-2), 2) := by decide +kernel
theorem dX5_amp_12 : decode cX5_amp 12 = .ok (.ireturn, 1) := by decide +kernel
theorem dX5_amp_13 : decode cX5_amp 13 = .ok (.aload_n 0, 1) := by decide +kernel
theorem dX5_amp_14 : decode cX5_amp 14 = .ok (.iload_n 1, 1) := by decide +kernel
theorem dX5_amp_15 : decode cX5_amp 15 = .ok (.putfield 20, 3) := by decide +kernel
theorem dX5_amp_18 : decode cX5_amp 18 = .ok (.aload_n 0, 1) := by decide +kernel
theorem dX5_amp_19 : decode cX5_amp 19 = .ok (.invokevirtual 86, 3) := by decide +kernel
theorem dX5_amp_22 : decode cX5_amp 22 = .ok (.ireturn, 1) := by decide +kernel
theorem dX5_call_0 : decode cX5_call 0 = .ok (.iload_n 1, 1) := by decide +kernel
theorem dX5_call_1 : decode cX5_call 1 = .ok (.iconst 0, 1) := by decide +kernel
theorem dX5_call_2 : decode cX5_call 2 = .ok (.bipush 16, 2) := by decide +kernel
theorem dX5_call_4 : decode cX5_call 4 = .ok (.invokestatic 79, 3) := by decide +kernel
theorem dX5_call_7 : decode cX5_call 7 = .ok (.ifCond .eq 16, 3) := by decide +kernel
theorem dX5_call_10 : decode cX5_call 10 = .ok (.iload_n 2, 1) := by decide +kernel
theorem dX5_call_11 : decode cX5_call 11 = .ok (.iconst 0, 1) := by decide +kernel
theorem dX5_call_12 : decode cX5_call 12 = .ok (.iconst 1, 1) := by decide +kernel
theorem dX5_call_13 : decode cX5_call 13 = .ok (.iload_n 1, 1) := by decide +kernel
theorem dX5_call_14 : decode cX5_call 14 = .ok (.ishl, 1) := by decide +kernel
theorem dX5_call_15 : decode cX5_call 15 = .ok (.iconst 1, 1) := by decide +kernel
theorem dX5_call_16 : decode cX5_call 16 = .ok (.isub, 1) := by decide +kernel
theorem dX5_call_17 : decode cX5_call 17 = .ok (.invokestatic 79, 3) := by decide +kernel
theorem dX5_call_20 : decode cX5_call 20 = .ok (.ifCond .ne 6, 3) := by decide +kernel
theorem dX5_call_23 : decode cX5_call 23 = .ok (.bipush (-2), 2) := by decide +kernel
theorem dX5_call_25 : decode cX5_call 25 = .ok (.ireturn, 1) := by decide +kernel
theorem dX5_call_26 : decode cX5_call 26 = .ok (.aload_n 0, 1) := by decide +kernel
theorem dX5_call_27 : decode cX5_call 27 = .ok (.iload_n 1, 1) := by decide +kernel
theorem dX5_call_28 : decode cX5_call 28 = .ok (.putfield 23, 3) := by decide +kernel
theorem dX5_call_31 : decode cX5_call 31 = .ok (.aload_n 0, 1) := by decide +kernel
theorem dX5_call_32 : decode cX5_call 32 = .ok (.iload_n 2, 1) := by decide +kernel
theorem dX5_call_33 : decode cX5_call 33 = .ok (.putfield 26, 3) := by decide +kernel
theorem dX5_call_36 : decode cX5_call 36 = .ok (.aload_n 0, 1) := by decide +kernel
theorem dX5_call_37 : decode cX5_call 37 = .ok (.invokevirtual 86, 3) := by decide +kernel
theorem dX5_call_40 : decode cX5_call 40 = .ok (.ireturn, 1) := by decide +kernel
theorem dX5_areTaps_0 : decode cX5_areTaps 0 = .ok (.iload_n 0, 1) := by decide +kernel
theorem dX5_areTaps_1 : decode cX5_areTaps 1 = .ok (.bipush (-20), 2) := by decide +kernel
theorem dX5_areTaps_3 : decode cX5_areTaps 3 = .ok (.bipush 20, 2) := by decide +kernel
theorem dX5_areTaps_5 : decode cX5_areTaps 5 = .ok (.invokestatic 79, 3) := by decide +kernel
theorem dX5_areTaps_8 : decode cX5_areTaps 8 = .ok (.ifCond .eq 40, 3) := by decide +kernel
theorem dX5_areTaps_11 : decode cX5_areTaps 11 = .ok (.iload_n 1, 1) := by decide +kernel
theorem dX5_areTaps_12 : decode cX5_areTaps 12 = .ok (.bipush (-20), 2) := by decide +kernel
theorem dX5_areTaps_14 : decode cX5_areTaps 14 = .ok (.bipush 20, 2) := by decide +kernel
theorem dX5_areTaps_16 : decode cX5_areTaps 16 = .ok (.invokestatic 79, 3) := by decide +kernel
theorem dX5_areTaps_19 : decode cX5_areTaps 19 = .ok (.ifCond .eq 29, 3) := by decide +kernel
theorem dX5_areTaps_22 : decode cX5_areTaps 22 = .ok (.iload_n 2, 1) := by decide +kernel
theorem dX5_areTaps_23 : decode cX5_areTaps 23 = .ok (.bipush (-20), 2) := by decide +kernel
theorem dX5_areTaps_25 : decode cX5_areTaps 25 = .ok (.bipush 20, 2) := by decide +kernel
theorem dX5_areTaps_27 : decode cX5_areTaps 27 = .ok (.invokestatic 79, 3) := by decide +kernel
theorem dX5_areTaps_30 : decode cX5_areTaps 30 = .ok (.ifCond .eq 18, 3) := by decide +kernel
theorem dX5_areTaps_33 : decode cX5_areTaps 33 = .ok (.iload_n 3, 1) := by decide +kernel
theorem dX5_areTaps_34 : decode cX5_areTaps 34 = .ok (.bipush (-20), 2) := by decide +kernel
theorem dX5_areTaps_36 : decode cX5_areTaps 36 = .ok (.bipush 20, 2) := by decide +kernel
theorem dX5_areTaps_38 : decode cX5_areTaps 38 = .ok (.invokestatic 79, 3) := by decide +kernel
theorem dX5_areTaps_41 : decode cX5_areTaps 41 = .ok (.ifCond .eq 7, 3) := by decide +kernel
theorem dX5_areTaps_44 : decode cX5_areTaps 44 = .ok (.iconst 1, 1) := by decide +kernel
theorem dX5_areTaps_45 : decode cX5_areTaps 45 = .ok (.goto 4, 3) := by decide +kernel
theorem dX5_areTaps_48 : decode cX5_areTaps 48 = .ok (.iconst 0, 1) := by decide +kernel
theorem dX5_areTaps_49 : decode cX5_areTaps 49 = .ok (.ireturn, 1) := by decide +kernel
theorem dX5_taps_0 : decode cX5_taps 0 = .ok (.iload_n 1, 1) := by decide +kernel
theorem dX5_taps_1 : decode cX5_taps 1 = .ok (.iload_n 2, 1) := by decide +kernel
theorem dX5_taps_2 : decode cX5_taps 2 = .ok (.iload_n 3, 1) := by decide +kernel
theorem dX5_taps_3 : decode cX5_taps 3 = .ok (.iload 4, 2) := by decide +kernel
theorem dX5_taps_5 : decode cX5_taps 5 = .ok (.invokestatic 93, 3) := by decide +kernel
theorem dX5_taps_8 : decode cX5_taps 8 = .ok (.ifCond .ne 6, 3) := by decide +kernel
theorem dX5_taps_11 : decode cX5_taps 11 = .ok (.bipush (-2), 2) := by decide +kernel
theorem dX5_taps_13 : decode cX5_taps 13 = .ok (.ireturn, 1) := by decide +kernel
theorem dX5_taps_14 : decode cX5_taps 14 = .ok (.aload_n 0, 1) := by decide +kernel
theorem dX5_taps_15 : decode cX5_taps 15 = .ok (.getfield 29, 3) := by decide +kernel
theorem dX5_taps_18 : decode cX5_taps 18 = .ok (.iconst 0, 1) := by decide +kernel
theorem dX5_taps_19 : decode cX5_taps 19 = .ok (.iload_n 1, 1) := by decide +kernel
theorem dX5_taps_20 : decode cX5_taps 20 = .ok (.iastore, 1) := by decide +kernel
theorem dX5_taps_21 : decode cX5_taps 21 = .ok (.aload_n 0, 1) := by decide +kernel
theorem dX5_taps_22 : decode cX5_taps 22 = .ok (.getfield 29, 3) := by decide +kernel
theorem dX5_taps_25 : decode cX5_taps 25 = .ok (.iconst 1, 1) := by decide +kernel
theorem dX5_taps_26 : decode cX5_taps 26 = .ok (.iload_n 2, 1) := by decide +kernel
theorem dX5_taps_27 : decode cX5_taps 27 = .ok (.iastore, 1) := by decide +kernel
theorem dX5_taps_28 : decode cX5_taps 28 = .ok (.aload_n 0, 1) := by decide +kernel
theorem dX5_taps_29 : decode cX5_taps 29 = .ok (.getfield 29, 3) := by decide +kernel
theorem dX5_taps_32 : decode cX5_taps 32 = .ok (.iconst 2, 1) := by decide +kernel
theorem dX5_taps_33 : decode cX5_taps 33 = .ok (.iload_n 3, 1) := by decide +kernel
theorem dX5_taps_34 : decode cX5_taps 34 = .ok (.iastore, 1) := by decide +kernel
theorem dX5_taps_35 : decode cX5_taps 35 = .ok (.aload_n 0, 1) := by decide +kernel
theorem dX5_taps_36 : decode cX5_taps 36 = .ok (.getfield 29, 3) := by decide +kernel
theorem dX5_taps_39 : decode cX5_taps 39 = .ok (.iconst 3, 1) := by decide +kernel
theorem dX5_taps_40 : decode cX5_taps 40 = .ok (.iload 4, 2) := by decide +kernel
theorem dX5_taps_42 : decode cX5_taps 42 = .ok (.iastore, 1) := by decide +kernel
theorem dX5_taps_43 : decode cX5_taps 43 = .ok (.aload_n 0, 1) := by decide +kernel
theorem dX5_taps_44 : decode cX5_taps 44 = .ok (.invokevirtual 86, 3) := by decide +kernel
theorem dX5_taps_47 : decode cX5_taps 47 = .ok (.ireturn, 1) := by decide +kernel
theorem dX5_air_0 : decode cX5_air 0 = .ok (.iload_n 1, 1) := by decide +kernel
theorem dX5_air_1 : decode cX5_air 1 = .ok (.iconst 0, 1) := by decide +kernel
theorem dX5_air_2 : decode cX5_air 2 = .ok (.bipush 30, 2) := by decide +kernel
theorem dX5_air_4 : decode cX5_air 4 = .ok (.invokestatic 79, 3) := by decide +kernel
theorem dX5_air_7 : decode cX5_air 7 = .ok (.ifCond .eq 14, 3) := by decide +kernel
theorem dX5_air_10 : decode cX5_air 10 = .ok (.iload_n 2, 1) := by decide +kernel
theorem dX5_air_11 : decode cX5_air 11 = .ok (.iconst 0, 1) := by decide +kernel
theorem dX5_air_12 : decode cX5_air 12 = .ok (.sipush 500, 3) := by decide +kernel
theorem dX5_air_15 : decode cX5_air 15 = .ok (.invokestatic 79, 3) := by decide +kernel
theorem dX5_air_18 : decode cX5_air 18 = .ok (.ifCond .ne 6, 3) := by decide +kernel
theorem dX5_air_21 : decode cX5_air 21 = .ok (.bipush (-2), 2) := by decide +kernel
theorem dX5_air_23 : decode cX5_air 23 = .ok (.ireturn, 1) := by decide +kernel
theorem dX5_air_24 : decode cX5_air 24 = .ok (.aload_n 0, 1) := by decide +kernel
theorem dX5_air_25 : decode cX5_air 25 = .ok (.iload_n 1, 1) := by decide +kernel
theorem dX5_air_26 : decode cX5_air 26 = .ok (.putfield 97, 3) := by decide +kernel
theorem dX5_air_29 : decode cX5_air 29 = .ok (.aload_n 0, 1) := by decide +kernel
theorem dX5_air_30 : decode cX5_air 30 = .ok (.iload_n 2, 1) := by decide +kernel
theorem dX5_air_31 : decode cX5_air 31 = .ok (.putfield 100, 3) := by decide +kernel
theorem dX5_air_34 : decode cX5_air 34 = .ok (.aload_n 0, 1) := by decide +kernel
theorem dX5_air_35 : decode cX5_air 35 = .ok (.iload_n 3, 1) := by decide +kernel
theorem dX5_air_36 : decode cX5_air 36 = .ok (.putfield 32, 3) := by decide +kernel
theorem dX5_air_39 : decode cX5_air 39 = .ok (.aload_n 0, 1) := by decide +kernel
theorem dX5_air_40 : decode cX5_air 40 = .ok (.invokevirtual 86, 3) := by decide +kernel
theorem dX5_air_43 : decode cX5_air 43 = .ok (.ireturn, 1) := by decide +kernel
theorem dX5_lose_0 : decode cX5_lose 0 = .ok (.iload_n 1, 1) := by decide +kernel
theorem dX5_lose_1 : decode cX5_lose 1 = .ok (.iconst 0, 1) := by decide +kernel
theorem dX5_lose_2 : decode cX5_lose 2 = .ok (.sipush 200, 3) := by decide +kernel
theorem dX5_lose_5 : decode cX5_lose 5 = .ok (.invokestatic 79, 3) := by decide +kernel
theorem dX5_lose_8 : decode cX5_lose 8 = .ok (.ifCond .eq 14, 3) := by decide +kernel
theorem dX5_lose_11 : decode cX5_lose 11 = .ok (.iload_n 2, 1) := by decide +kernel
theorem dX5_lose_12 : decode cX5_lose 12 = .ok (.iconst 0, 1) := by decide +kernel
theorem dX5_lose_13 : decode cX5_lose 13 = .ok (.sipush 200, 3) := by decide +kernel
theorem dX5_lose_16 : decode cX5_lose 16 = .ok (.invokestatic 79, 3) := by decide +kernel
theorem dX5_lose_19 : decode cX5_lose 19 = .ok (.ifCond .ne 6, 3) := by decide +kernel
theorem dX5_lose_22 : decode cX5_lose 22 = .ok (.bipush (-2), 2) := by decide +kernel
theorem dX5_lose_24 : decode cX5_lose 24 = .ok (.ireturn, 1) := by decide +kernel
theorem dX5_lose_25 : decode cX5_lose 25 = .ok (.aload_n 0, 1) := by decide +kernel
theorem dX5_lose_26 : decode cX5_lose 26 = .ok (.iload_n 1, 1) := by decide +kernel
theorem dX5_lose_27 : decode cX5_lose 27 = .ok (.putfield 103, 3) := by decide +kernel
theorem dX5_lose_30 : decode cX5_lose 30 = .ok (.aload_n 0, 1) := by decide +kernel
theorem dX5_lose_31 : decode cX5_lose 31 = .ok (.iload_n 2, 1) := by decide +kernel
theorem dX5_lose_32 : decode cX5_lose 32 = .ok (.putfield 106, 3) := by decide +kernel
theorem dX5_lose_35 : decode cX5_lose 35 = .ok (.aload_n 0, 1) := by decide +kernel
theorem dX5_lose_36 : decode cX5_lose 36 = .ok (.invokevirtual 86, 3) := by decide +kernel
theorem dX5_lose_39 : decode cX5_lose 39 = .ok (.ireturn, 1) := by decide +kernel
theorem dX5_mix_0 : decode cX5_mix 0 = .ok (.iconst 0, 1) := by decide +kernel
theorem dX5_mix_1 : decode cX5_mix 1 = .ok (.istore_n 1, 1) := by decide +kernel
theorem dX5_mix_2 : decode cX5_mix 2 = .ok (.iconst 0, 1) := by decide +kernel
theorem dX5_mix_3 : decode cX5_mix 3 = .ok (.istore_n 2, 1) := by decide +kernel
theorem dX5_mix_4 : decode cX5_mix 4 = .ok (.iload_n 2, 1) := by decide +kernel
theorem dX5_mix_5 : decode cX5_mix 5 = .ok (.aload_n 0, 1) := by decide +kernel
theorem dX5_mix_6 : decode cX5_mix 6 = .ok (.getfield 83, 3) := by decide +kernel
theorem dX5_mix_9 : decode cX5_mix 9 = .ok (.if_icmp .ge 46, 3) := by decide +kernel
theorem dX5_mix_12 : decode cX5_mix 12 = .ok (.aload_n 0, 1) := by decide +kernel
theorem dX5_mix_13 : decode cX5_mix 13 = .ok (.getfield 50, 3) := by decide +kernel
theorem dX5_mix_16 : decode cX5_mix 16 = .ok (.iload_n 2, 1) := by decide +kernel
theorem dX5_mix_17 : decode cX5_mix 17 = .ok (.aload_n 0, 1) := by decide +kernel
theorem dX5_mix_18 : decode cX5_mix 18 = .ok (.getfield 7, 3) := by decide +kernel
theorem dX5_mix_21 : decode cX5_mix 21 = .ok (.iload_n 2, 1) := by decide +kernel
theorem dX5_mix_22 : decode cX5_mix 22 = .ok (.iaload, 1) := by decide +kernel
theorem dX5_mix_23 : decode cX5_mix 23 = .ok (.iload_n 1, 1) := by decide +kernel
theorem dX5_mix_24 : decode cX5_mix 24 = .ok (.aload_n 0, 1) := by decide +kernel
theorem dX5_mix_25 : decode cX5_mix 25 = .ok (.getfield 90, 3) := by decide +kernel
theorem dX5_mix_28 : decode cX5_mix 28 = .ok (.iand, 1) := by decide +kernel
theorem dX5_mix_29 : decode cX5_mix 29 = .ok (.invokestatic 109, 3) := by decide +kernel
theorem dX5_mix_32 : decode cX5_mix 32 = .ok (.ixor, 1) := by decide +kernel
theorem dX5_mix_33 : decode cX5_mix 33 = .ok (.iastore, 1) := by decide +kernel
theorem dX5_mix_34 : decode cX5_mix 34 = .ok (.iconst 2, 1) := by decide +kernel
theorem dX5_mix_35 : decode cX5_mix 35 = .ok (.iload_n 1, 1) := by decide +kernel
theorem dX5_mix_36 : decode cX5_mix 36 = .ok (.imul, 1) := by decide +kernel
theorem dX5_mix_37 : decode cX5_mix 37 = .ok (.aload_n 0, 1) := by decide +kernel
theorem dX5_mix_38 : decode cX5_mix 38 = .ok (.getfield 50, 3) := by decide +kernel
theorem dX5_mix_41 : decode cX5_mix 41 = .ok (.iload_n 2, 1) := by decide +kernel
theorem dX5_mix_42 : decode cX5_mix 42 = .ok (.iaload, 1) := by decide +kernel
theorem dX5_mix_43 : decode cX5_mix 43 = .ok (.iadd, 1) := by decide +kernel
theorem dX5_mix_44 : decode cX5_mix 44 = .ok (.sipush 128, 3) := by decide +kernel
theorem dX5_mix_47 : decode cX5_mix 47 = .ok (.irem, 1) := by decide +kernel
theorem dX5_mix_48 : decode cX5_mix 48 = .ok (.istore_n 1, 1) := by decide +kernel
theorem dX5_mix_49 : decode cX5_mix 49 = .ok (.iinc 2 1, 3) := by decide +kernel
theorem dX5_mix_52 : decode cX5_mix 52 = .ok (.goto (-48), 3) := by decide +kernel
theorem dX5_mix_55 : decode cX5_mix 55 = .ok (.aload_n 0, 1) := by decide +kernel
theorem dX5_mix_56 : decode cX5_mix 56 = .ok (.getfield 83, 3) := by decide +kernel
theorem dX5_mix_59 : decode cX5_mix 59 = .ok (.istore_n 2, 1) := by decide +kernel
theorem dX5_mix_60 : decode cX5_mix 60 = .ok (.iload_n 2, 1) := by decide +kernel
theorem dX5_mix_61 : decode cX5_mix 61 = .ok (.aload_n 0, 1) := by decide +kernel
theorem dX5_mix_62 : decode cX5_mix 62 = .ok (.getfield 83, 3) := by decide +kernel
theorem dX5_mix_65 : decode cX5_mix 65 = .ok (.iconst 3, 1) := by decide +kernel
theorem dX5_mix_66 : decode cX5_mix 66 = .ok (.iadd, 1) := by decide +kernel
theorem dX5_mix_67 : decode cX5_mix 67 = .ok (.if_icmp .ge 16, 3) := by decide +kernel
theorem dX5_mix_70 : decode cX5_mix 70 = .ok (.aload_n 0, 1) := by decide +kernel
theorem dX5_mix_71 : decode cX5_mix 71 = .ok (.getfield 50, 3) := by decide +kernel
theorem dX5_mix_74 : decode cX5_mix 74 = .ok (.iload_n 2, 1) := by decide +kernel
theorem dX5_mix_75 : decode cX5_mix 75 = .ok (.iconst 0, 1) := by decide +kernel
theorem dX5_mix_76 : decode cX5_mix 76 = .ok (.iastore, 1) := by decide +kernel
theorem dX5_mix_77 : decode cX5_mix 77 = .ok (.iinc 2 1, 3) := by decide +kernel
theorem dX5_mix_80 : decode cX5_mix 80 = .ok (.goto (-20), 3) := by decide +kernel
theorem dX5_mix_83 : decode cX5_mix 83 = .ok (.return_, 1) := by decide +kernel
theorem dX5_scrambled_0 : decode cX5_scrambled 0 = .ok (.aload_n 0, 1) := by decide +kernel
theorem dX5_scrambled_1 : decode cX5_scrambled 1 = .ok (.invokevirtual 113, 3) := by decide +kernel
theorem dX5_scrambled_4 : decode cX5_scrambled 4 = .ok (.iload_n 1, 1) := by decide +kernel
theorem dX5_scrambled_5 : decode cX5_scrambled 5 = .ok (.iconst 0, 1) := by decide +kernel
theorem dX5_scrambled_6 : decode cX5_scrambled 6 = .ok (.aload_n 0, 1) := by decide +kernel
theorem dX5_scrambled_7 : decode cX5_scrambled 7 = .ok (.getfield 83, 3) := by decide +kernel
theorem dX5_scrambled_10 : decode cX5_scrambled 10 = .ok (.iconst 1, 1) := by decide +kernel
theorem dX5_scrambled_11 : decode cX5_scrambled 11 = .ok (.isub, 1) := by decide +kernel
theorem dX5_scrambled_12 : decode cX5_scrambled 12 = .ok (.invokestatic 79, 3) := by decide +kernel
theorem dX5_scrambled_15 : decode cX5_scrambled 15 = .ok (.ifCond .eq 12, 3) := by decide +kernel
theorem dX5_scrambled_18 : decode cX5_scrambled 18 = .ok (.aload_n 0, 1) := by decide +kernel
theorem dX5_scrambled_19 : decode cX5_scrambled 19 = .ok (.getfield 50, 3) := by decide +kernel
theorem dX5_scrambled_22 : decode cX5_scrambled 22 = .ok (.iload_n 1, 1) := by decide +kernel
theorem dX5_scrambled_23 : decode cX5_scrambled 23 = .ok (.iaload, 1) := by decide +kernel
theorem dX5_scrambled_24 : decode cX5_scrambled 24 = .ok (.goto 5, 3) := by decide +kernel
theorem dX5_scrambled_27 : decode cX5_scrambled 27 = .ok (.bipush (-2), 2) := by decide +kernel
theorem dX5_scrambled_29 : decode cX5_scrambled 29 = .ok (.ireturn, 1) := by decide +kernel
theorem dX5_frameSize_0 : decode cX5_frameSize 0 = .ok (.aload_n 0, 1) := by decide +kernel
theorem dX5_frameSize_1 : decode cX5_frameSize 1 = .ok (.getfield 23, 3) := by decide +kernel
theorem dX5_frameSize_4 : decode cX5_frameSize 4 = .ok (.iconst 2, 1) := by decide +kernel
theorem dX5_frameSize_5 : decode cX5_frameSize 5 = .ok (.aload_n 0, 1) := by decide +kernel
theorem dX5_frameSize_6 : decode cX5_frameSize 6 = .ok (.getfield 83, 3) := by decide +kernel
theorem dX5_frameSize_9 : decode cX5_frameSize 9 = .ok (.imul, 1) := by decide +kernel
theorem dX5_frameSize_10 : decode cX5_frameSize 10 = .ok (.iadd, 1) := by decide +kernel
theorem dX5_frameSize_11 : decode cX5_frameSize 11 = .ok (.bipush 6, 2) := by decide +kernel
theorem dX5_frameSize_13 : decode cX5_frameSize 13 = .ok (.iadd, 1) := by decide +kernel
theorem dX5_frameSize_14 : decode cX5_frameSize 14 = .ok (.ireturn, 1) := by decide +kernel
theorem dX5_sign_0 : decode cX5_sign 0 = .ok (.aload_n 0, 1) := by decide +kernel
theorem dX5_sign_1 : decode cX5_sign 1 = .ok (.getfield 26, 3) := by decide +kernel
theorem dX5_sign_4 : decode cX5_sign 4 = .ok (.aload_n 0, 1) := by decide +kernel
theorem dX5_sign_5 : decode cX5_sign 5 = .ok (.getfield 23, 3) := by decide +kernel
theorem dX5_sign_8 : decode cX5_sign 8 = .ok (.iconst 1, 1) := by decide +kernel
theorem dX5_sign_9 : decode cX5_sign 9 = .ok (.isub, 1) := by decide +kernel
theorem dX5_sign_10 : decode cX5_sign 10 = .ok (.iload_n 1, 1) := by decide +kernel
theorem dX5_sign_11 : decode cX5_sign 11 = .ok (.isub, 1) := by decide +kernel
theorem dX5_sign_12 : decode cX5_sign 12 = .ok (.ishr, 1) := by decide +kernel
theorem dX5_sign_13 : decode cX5_sign 13 = .ok (.iconst 1, 1) := by decide +kernel
theorem dX5_sign_14 : decode cX5_sign 14 = .ok (.iand, 1) := by decide +kernel
theorem dX5_sign_15 : decode cX5_sign 15 = .ok (.iconst 1, 1) := by decide +kernel
theorem dX5_sign_16 : decode cX5_sign 16 = .ok (.if_icmp .ne 7, 3) := by decide +kernel
theorem dX5_sign_19 : decode cX5_sign 19 = .ok (.iconst 1, 1) := by decide +kernel
theorem dX5_sign_20 : decode cX5_sign 20 = .ok (.goto 4, 3) := by decide +kernel
theorem dX5_sign_23 : decode cX5_sign 23 = .ok (.iconst (-1), 1) := by decide +kernel
theorem dX5_sign_24 : decode cX5_sign 24 = .ok (.ireturn, 1) := by decide +kernel
theorem dX5_layFrame_0 : decode cX5_layFrame 0 = .ok (.aload_n 0, 1) := by decide +kernel
theorem dX5_layFrame_1 : decode cX5_layFrame 1 = .ok (.invokevirtual 113, 3) := by decide +kernel
theorem dX5_layFrame_4 : decode cX5_layFrame 4 = .ok (.iconst 0, 1) := by decide +kernel
theorem dX5_layFrame_5 : decode cX5_layFrame 5 = .ok (.istore_n 1, 1) := by decide +kernel
theorem dX5_layFrame_6 : decode cX5_layFrame 6 = .ok (.iload_n 1, 1) := by decide +kernel
theorem dX5_layFrame_7 : decode cX5_layFrame 7 = .ok (.aload_n 0, 1) := by decide +kernel
theorem dX5_layFrame_8 : decode cX5_layFrame 8 = .ok (.getfield 23, 3) := by decide +kernel
theorem dX5_layFrame_11 : decode cX5_layFrame 11 = .ok (.if_icmp .ge 25, 3) := by decide +kernel
theorem dX5_layFrame_14 : decode cX5_layFrame 14 = .ok (.aload_n 0, 1) := by decide +kernel
theorem dX5_layFrame_15 : decode cX5_layFrame 15 = .ok (.getfield 53, 3) := by decide +kernel
theorem dX5_layFrame_18 : decode cX5_layFrame 18 = .ok (.iload_n 1, 1) := by decide +kernel
theorem dX5_layFrame_19 : decode cX5_layFrame 19 = .ok (.aload_n 0, 1) := by decide +kernel
theorem dX5_layFrame_20 : decode cX5_layFrame 20 = .ok (.iload_n 1, 1) := by decide +kernel
theorem dX5_layFrame_21 : decode cX5_layFrame 21 = .ok (.invokevirtual 116, 3) := by decide +kernel
theorem dX5_layFrame_24 : decode cX5_layFrame 24 = .ok (.aload_n 0, 1) := by decide +kernel
theorem dX5_layFrame_25 : decode cX5_layFrame 25 = .ok (.getfield 20, 3) := by decide +kernel
theorem dX5_layFrame_28 : decode cX5_layFrame 28 = .ok (.imul, 1) := by decide +kernel
theorem dX5_layFrame_29 : decode cX5_layFrame 29 = .ok (.iastore, 1) := by decide +kernel
theorem dX5_layFrame_30 : decode cX5_layFrame 30 = .ok (.iinc 1 1, 3) := by decide +kernel
theorem dX5_layFrame_33 : decode cX5_layFrame 33 = .ok (.goto (-27), 3) := by decide +kernel
theorem dX5_layFrame_36 : decode cX5_layFrame 36 = .ok (.iconst 0, 1) := by decide +kernel
theorem dX5_layFrame_37 : decode cX5_layFrame 37 = .ok (.istore_n 1, 1) := by decide +kernel
theorem dX5_layFrame_38 : decode cX5_layFrame 38 = .ok (.iconst 0, 1) := by decide +kernel
theorem dX5_layFrame_39 : decode cX5_layFrame 39 = .ok (.istore_n 2, 1) := by decide +kernel
theorem dX5_layFrame_40 : decode cX5_layFrame 40 = .ok (.iload_n 2, 1) := by decide +kernel
theorem dX5_layFrame_41 : decode cX5_layFrame 41 = .ok (.aload_n 0, 1) := by decide +kernel
theorem dX5_layFrame_42 : decode cX5_layFrame 42 = .ok (.getfield 83, 3) := by decide +kernel
theorem dX5_layFrame_45 : decode cX5_layFrame 45 = .ok (.iconst 3, 1) := by decide +kernel
theorem dX5_layFrame_46 : decode cX5_layFrame 46 = .ok (.iadd, 1) := by decide +kernel
theorem dX5_layFrame_47 : decode cX5_layFrame 47 = .ok (.if_icmp .ge 101, 3) := by decide +kernel
theorem dX5_layFrame_50 : decode cX5_layFrame 50 = .ok (.iconst 2, 1) := by decide +kernel
theorem dX5_layFrame_51 : decode cX5_layFrame 51 = .ok (.iload_n 1, 1) := by decide +kernel
theorem dX5_layFrame_52 : decode cX5_layFrame 52 = .ok (.imul, 1) := by decide +kernel
theorem dX5_layFrame_53 : decode cX5_layFrame 53 = .ok (.aload_n 0, 1) := by decide +kernel
theorem dX5_layFrame_54 : decode cX5_layFrame 54 = .ok (.getfield 50, 3) := by decide +kernel
theorem dX5_layFrame_57 : decode cX5_layFrame 57 = .ok (.iload_n 2, 1) := by decide +kernel
theorem dX5_layFrame_58 : decode cX5_layFrame 58 = .ok (.iaload, 1) := by decide +kernel
theorem dX5_layFrame_59 : decode cX5_layFrame 59 = .ok (.iadd, 1) := by decide +kernel
theorem dX5_layFrame_60 : decode cX5_layFrame 60 = .ok (.bipush 16, 2) := by decide +kernel
theorem dX5_layFrame_62 : decode cX5_layFrame 62 = .ok (.irem, 1) := by decide +kernel
theorem dX5_layFrame_63 : decode cX5_layFrame 63 = .ok (.istore_n 1, 1) := by decide +kernel
theorem dX5_layFrame_64 : decode cX5_layFrame 64 = .ok (.aload_n 0, 1) := by decide +kernel
theorem dX5_layFrame_65 : decode cX5_layFrame 65 = .ok (.getfield 53, 3) := by decide +kernel
theorem dX5_layFrame_68 : decode cX5_layFrame 68 = .ok (.aload_n 0, 1) := by decide +kernel
theorem dX5_layFrame_69 : decode cX5_layFrame 69 = .ok (.getfield 23, 3) := by decide +kernel
theorem dX5_layFrame_72 : decode cX5_layFrame 72 = .ok (.iconst 2, 1) := by decide +kernel
theorem dX5_layFrame_73 : decode cX5_layFrame 73 = .ok (.iload_n 2, 1) := by decide +kernel
theorem dX5_layFrame_74 : decode cX5_layFrame 74 = .ok (.imul, 1) := by decide +kernel
theorem dX5_layFrame_75 : decode cX5_layFrame 75 = .ok (.iadd, 1) := by decide +kernel
theorem dX5_layFrame_76 : decode cX5_layFrame 76 = .ok (.iload_n 1, 1) := by decide +kernel
theorem dX5_layFrame_77 : decode cX5_layFrame 77 = .ok (.aload_n 0, 1) := by decide +kernel
theorem dX5_layFrame_78 : decode cX5_layFrame 78 = .ok (.getfield 13, 3) := by decide +kernel
theorem dX5_layFrame_81 : decode cX5_layFrame 81 = .ok (.iand, 1) := by decide +kernel
theorem dX5_layFrame_82 : decode cX5_layFrame 82 = .ok (.invokestatic 109, 3) := by decide +kernel
theorem dX5_layFrame_85 : decode cX5_layFrame 85 = .ok (.iconst 1, 1) := by decide +kernel
theorem dX5_layFrame_86 : decode cX5_layFrame 86 = .ok (.if_icmp .ne 10, 3) := by decide +kernel
theorem dX5_layFrame_89 : decode cX5_layFrame 89 = .ok (.aload_n 0, 1) := by decide +kernel
theorem dX5_layFrame_90 : decode cX5_layFrame 90 = .ok (.getfield 20, 3) := by decide +kernel
theorem dX5_layFrame_93 : decode cX5_layFrame 93 = .ok (.goto 8, 3) := by decide +kernel
theorem dX5_layFrame_96 : decode cX5_layFrame 96 = .ok (.aload_n 0, 1) := by decide +kernel
theorem dX5_layFrame_97 : decode cX5_layFrame 97 = .ok (.getfield 20, 3) := by decide +kernel
theorem dX5_layFrame_100 : decode cX5_layFrame 100 = .ok (.ineg, 1) := by decide +kernel
theorem dX5_layFrame_101 : decode cX5_layFrame 101 = .ok (.iastore, 1) := by decide +kernel
theorem dX5_layFrame_102 : decode cX5_layFrame 102 = .ok (.aload_n 0, 1) := by decide +kernel
theorem dX5_layFrame_103 : decode cX5_layFrame 103 = .ok (.getfield 53, 3) := by decide +kernel
theorem dX5_layFrame_106 : decode cX5_layFrame 106 = .ok (.aload_n 0, 1) := by decide +kernel
theorem dX5_layFrame_107 : decode cX5_layFrame 107 = .ok (.getfield 23, 3) := by decide +kernel
theorem dX5_layFrame_110 : decode cX5_layFrame 110 = .ok (.iconst 2, 1) := by decide +kernel
theorem dX5_layFrame_111 : decode cX5_layFrame 111 = .ok (.iload_n 2, 1) := by decide +kernel
theorem dX5_layFrame_112 : decode cX5_layFrame 112 = .ok (.imul, 1) := by decide +kernel
theorem dX5_layFrame_113 : decode cX5_layFrame 113 = .ok (.iadd, 1) := by decide +kernel
theorem dX5_layFrame_114 : decode cX5_layFrame 114 = .ok (.iconst 1, 1) := by decide +kernel
theorem dX5_layFrame_115 : decode cX5_layFrame 115 = .ok (.iadd, 1) := by decide +kernel
theorem dX5_layFrame_116 : decode cX5_layFrame 116 = .ok (.iload_n 1, 1) := by decide +kernel
theorem dX5_layFrame_117 : decode cX5_layFrame 117 = .ok (.aload_n 0, 1) := by decide +kernel
theorem dX5_layFrame_118 : decode cX5_layFrame 118 = .ok (.getfield 17, 3) := by decide +kernel
theorem dX5_layFrame_121 : decode cX5_layFrame 121 = .ok (.iand, 1) := by decide +kernel
theorem dX5_layFrame_122 : decode cX5_layFrame 122 = .ok (.invokestatic 109, 3) := by decide +kernel
theorem dX5_layFrame_125 : decode cX5_layFrame 125 = .ok (.iconst 1, 1) := by decide +kernel
theorem dX5_layFrame_126 : decode cX5_layFrame 126 = .ok (.if_icmp .ne 10, 3) := by decide +kernel
theorem dX5_layFrame_129 : decode cX5_layFrame 129 = .ok (.aload_n 0, 1) := by decide +kernel
theorem dX5_layFrame_130 : decode cX5_layFrame 130 = .ok (.getfield 20, 3) := by decide +kernel
theorem dX5_layFrame_133 : decode cX5_layFrame 133 = .ok (.goto 8, 3) := by decide +kernel
theorem dX5_layFrame_136 : decode cX5_layFrame 136 = .ok (.aload_n 0, 1) := by decide +kernel
theorem dX5_layFrame_137 : decode cX5_layFrame 137 = .ok (.getfield 20, 3) := by decide +kernel
theorem dX5_layFrame_140 : decode cX5_layFrame 140 = .ok (.ineg, 1) := by decide +kernel
theorem dX5_layFrame_141 : decode cX5_layFrame 141 = .ok (.iastore, 1) := by decide +kernel
theorem dX5_layFrame_142 : decode cX5_layFrame 142 = .ok (.iinc 2 1, 3) := by decide +kernel
theorem dX5_layFrame_145 : decode cX5_layFrame 145 = .ok (.goto (-105), 3) := by decide +kernel
theorem dX5_layFrame_148 : decode cX5_layFrame 148 = .ok (.return_, 1) := by decide +kernel
theorem dX5_voice_0 : decode cX5_voice 0 = .ok (.iload_n 1, 1) := by decide +kernel
theorem dX5_voice_1 : decode cX5_voice 1 = .ok (.iconst 0, 1) := by decide +kernel
theorem dX5_voice_2 : decode cX5_voice 2 = .ok (.aload_n 0, 1) := by decide +kernel
theorem dX5_voice_3 : decode cX5_voice 3 = .ok (.invokevirtual 119, 3) := by decide +kernel
theorem dX5_voice_6 : decode cX5_voice 6 = .ok (.iconst 1, 1) := by decide +kernel
theorem dX5_voice_7 : decode cX5_voice 7 = .ok (.isub, 1) := by decide +kernel
theorem dX5_voice_8 : decode cX5_voice 8 = .ok (.invokestatic 79, 3) := by decide +kernel
theorem dX5_voice_11 : decode cX5_voice 11 = .ok (.ifCond .ne 6, 3) := by decide +kernel
theorem dX5_voice_14 : decode cX5_voice 14 = .ok (.ldc 122, 2) := by decide +kernel
theorem dX5_voice_16 : decode cX5_voice 16 = .ok (.ireturn, 1) := by decide +kernel
theorem dX5_voice_17 : decode cX5_voice 17 = .ok (.aload_n 0, 1) := by decide +kernel
theorem dX5_voice_18 : decode cX5_voice 18 = .ok (.invokevirtual 123, 3) := by decide +kernel
theorem dX5_voice_21 : decode cX5_voice 21 = .ok (.aload_n 0, 1) := by decide +kernel
theorem dX5_voice_22 : decode cX5_voice 22 = .ok (.getfield 53, 3) := by decide +kernel
theorem dX5_voice_25 : decode cX5_voice 25 = .ok (.iload_n 1, 1) := by decide +kernel
theorem dX5_voice_26 : decode cX5_voice 26 = .ok (.iaload, 1) := by decide +kernel
theorem dX5_voice_27 : decode cX5_voice 27 = .ok (.ireturn, 1) := by decide +kernel
theorem dX5_sampleMany_0 : decode cX5_sampleMany 0 = .ok (.aload_n 0, 1) := by decide +kernel
theorem dX5_sampleMany_1 : decode cX5_sampleMany 1 = .ok (.getfield 97, 3) := by decide +kernel
theorem dX5_sampleMany_4 : decode cX5_sampleMany 4 = .ok (.aload_n 0, 1) := by decide +kernel
theorem dX5_sampleMany_5 : decode cX5_sampleMany 5 = .ok (.invokevirtual 119, 3) := by decide +kernel
theorem dX5_sampleMany_8 : decode cX5_sampleMany 8 = .ok (.iadd, 1) := by decide +kernel
theorem dX5_sampleMany_9 : decode cX5_sampleMany 9 = .ok (.bipush 8, 2) := by decide +kernel
theorem dX5_sampleMany_11 : decode cX5_sampleMany 11 = .ok (.iadd, 1) := by decide +kernel
theorem dX5_sampleMany_12 : decode cX5_sampleMany 12 = .ok (.ireturn, 1) := by decide +kernel
theorem dX5_listen_0 : decode cX5_listen 0 = .ok (.aload_n 0, 1) := by decide +kernel
theorem dX5_listen_1 : decode cX5_listen 1 = .ok (.invokevirtual 123, 3) := by decide +kernel
theorem dX5_listen_4 : decode cX5_listen 4 = .ok (.iload_n 1, 1) := by decide +kernel
theorem dX5_listen_5 : decode cX5_listen 5 = .ok (.istore_n 2, 1) := by decide +kernel
theorem dX5_listen_6 : decode cX5_listen 6 = .ok (.iconst 0, 1) := by decide +kernel
theorem dX5_listen_7 : decode cX5_listen 7 = .ok (.istore_n 3, 1) := by decide +kernel
theorem dX5_listen_8 : decode cX5_listen 8 = .ok (.iload_n 3, 1) := by decide +kernel
theorem dX5_listen_9 : decode cX5_listen 9 = .ok (.aload_n 0, 1) := by decide +kernel
theorem dX5_listen_10 : decode cX5_listen 10 = .ok (.invokevirtual 126, 3) := by decide +kernel
theorem dX5_listen_13 : decode cX5_listen 13 = .ok (.if_icmp .ge 178, 3) := by decide +kernel
theorem dX5_listen_16 : decode cX5_listen 16 = .ok (.iconst 0, 1) := by decide +kernel
theorem dX5_listen_17 : decode cX5_listen 17 = .ok (.istore 4, 2) := by decide +kernel
theorem dX5_listen_19 : decode cX5_listen 19 = .ok (.iconst 0, 1) := by decide +kernel
theorem dX5_listen_20 : decode cX5_listen 20 = .ok (.istore 5, 2) := by decide +kernel
theorem dX5_listen_22 : decode cX5_listen 22 = .ok (.iload 5, 2) := by decide +kernel
theorem dX5_listen_24 : decode cX5_listen 24 = .ok (.iconst 4, 1) := by decide +kernel
theorem dX5_listen_25 : decode cX5_listen 25 = .ok (.if_icmp .ge 59, 3) := by decide +kernel
theorem dX5_listen_28 : decode cX5_listen 28 = .ok (.iload_n 3, 1) := by decide +kernel
theorem dX5_listen_29 : decode cX5_listen 29 = .ok (.aload_n 0, 1) := by decide +kernel
theorem dX5_listen_30 : decode cX5_listen 30 = .ok (.getfield 97, 3) := by decide +kernel
theorem dX5_listen_33 : decode cX5_listen 33 = .ok (.isub, 1) := by decide +kernel
theorem dX5_listen_34 : decode cX5_listen 34 = .ok (.iload 5, 2) := by decide +kernel
theorem dX5_listen_36 : decode cX5_listen 36 = .ok (.isub, 1) := by decide +kernel
theorem dX5_listen_37 : decode cX5_listen 37 = .ok (.istore 6, 2) := by decide +kernel
theorem dX5_listen_39 : decode cX5_listen 39 = .ok (.iload 4, 2) := by decide +kernel
theorem dX5_listen_41 : decode cX5_listen 41 = .ok (.iload 6, 2) := by decide +kernel
theorem dX5_listen_43 : decode cX5_listen 43 = .ok (.iconst 0, 1) := by decide +kernel
theorem dX5_listen_44 : decode cX5_listen 44 = .ok (.aload_n 0, 1) := by decide +kernel
theorem dX5_listen_45 : decode cX5_listen 45 = .ok (.invokevirtual 119, 3) := by decide +kernel
theorem dX5_listen_48 : decode cX5_listen 48 = .ok (.iconst 1, 1) := by decide +kernel
theorem dX5_listen_49 : decode cX5_listen 49 = .ok (.isub, 1) := by decide +kernel
theorem dX5_listen_50 : decode cX5_listen 50 = .ok (.invokestatic 79, 3) := by decide +kernel
theorem dX5_listen_53 : decode cX5_listen 53 = .ok (.ifCond .eq 21, 3) := by decide +kernel
theorem dX5_listen_56 : decode cX5_listen 56 = .ok (.aload_n 0, 1) := by decide +kernel
theorem dX5_listen_57 : decode cX5_listen 57 = .ok (.getfield 29, 3) := by decide +kernel
theorem dX5_listen_60 : decode cX5_listen 60 = .ok (.iload 5, 2) := by decide +kernel
theorem dX5_listen_62 : decode cX5_listen 62 = .ok (.iaload, 1) := by decide +kernel
theorem dX5_listen_63 : decode cX5_listen 63 = .ok (.aload_n 0, 1) := by decide +kernel
theorem dX5_listen_64 : decode cX5_listen 64 = .ok (.getfield 53, 3) := by decide +kernel
theorem dX5_listen_67 : decode cX5_listen 67 = .ok (.iload 6, 2) := by decide +kernel
theorem dX5_listen_69 : decode cX5_listen 69 = .ok (.iaload, 1) := by decide +kernel
theorem dX5_listen_70 : decode cX5_listen 70 = .ok (.imul, 1) := by decide +kernel
theorem dX5_listen_71 : decode cX5_listen 71 = .ok (.goto 4, 3) := by decide +kernel
theorem dX5_listen_74 : decode cX5_listen 74 = .ok (.iconst 0, 1) := by decide +kernel
theorem dX5_listen_75 : decode cX5_listen 75 = .ok (.iadd, 1) := by decide +kernel
theorem dX5_listen_76 : decode cX5_listen 76 = .ok (.istore 4, 2) := by decide +kernel
theorem dX5_listen_78 : decode cX5_listen 78 = .ok (.iinc 5 1, 3) := by decide +kernel
theorem dX5_listen_81 : decode cX5_listen 81 = .ok (.goto (-59), 3) := by decide +kernel
theorem dX5_listen_84 : decode cX5_listen 84 = .ok (.iload_n 2, 1) := by decide +kernel
theorem dX5_listen_85 : decode cX5_listen 85 = .ok (.ldc 129, 2) := by decide +kernel
theorem dX5_listen_87 : decode cX5_listen 87 = .ok (.imul, 1) := by decide +kernel
theorem dX5_listen_88 : decode cX5_listen 88 = .ok (.sipush 12345, 3) := by decide +kernel
theorem dX5_listen_91 : decode cX5_listen 91 = .ok (.iadd, 1) := by decide +kernel
theorem dX5_listen_92 : decode cX5_listen 92 = .ok (.ldc 130, 2) := by decide +kernel
theorem dX5_listen_94 : decode cX5_listen 94 = .ok (.iand, 1) := by decide +kernel
theorem dX5_listen_95 : decode cX5_listen 95 = .ok (.istore_n 2, 1) := by decide +kernel
theorem dX5_listen_96 : decode cX5_listen 96 = .ok (.iload 4, 2) := by decide +kernel
theorem dX5_listen_98 : decode cX5_listen 98 = .ok (.iload_n 2, 1) := by decide +kernel
theorem dX5_listen_99 : decode cX5_listen 99 = .ok (.ldc 131, 2) := by decide +kernel
theorem dX5_listen_101 : decode cX5_listen 101 = .ok (.idiv, 1) := by decide +kernel
theorem dX5_listen_102 : decode cX5_listen 102 = .ok (.iconst 2, 1) := by decide +kernel
theorem dX5_listen_103 : decode cX5_listen 103 = .ok (.aload_n 0, 1) := by decide +kernel
theorem dX5_listen_104 : decode cX5_listen 104 = .ok (.getfield 100, 3) := by decide +kernel
theorem dX5_listen_107 : decode cX5_listen 107 = .ok (.imul, 1) := by decide +kernel
theorem dX5_listen_108 : decode cX5_listen 108 = .ok (.iconst 1, 1) := by decide +kernel
theorem dX5_listen_109 : decode cX5_listen 109 = .ok (.iadd, 1) := by decide +kernel
theorem dX5_listen_110 : decode cX5_listen 110 = .ok (.irem, 1) := by decide +kernel
theorem dX5_listen_111 : decode cX5_listen 111 = .ok (.aload_n 0, 1) := by decide +kernel
theorem dX5_listen_112 : decode cX5_listen 112 = .ok (.getfield 100, 3) := by decide +kernel
theorem dX5_listen_115 : decode cX5_listen 115 = .ok (.isub, 1) := by decide +kernel
theorem dX5_listen_116 : decode cX5_listen 116 = .ok (.iadd, 1) := by decide +kernel
theorem dX5_listen_117 : decode cX5_listen 117 = .ok (.istore 4, 2) := by decide +kernel
theorem dX5_listen_119 : decode cX5_listen 119 = .ok (.iload_n 3, 1) := by decide +kernel
theorem dX5_listen_120 : decode cX5_listen 120 = .ok (.aload_n 0, 1) := by decide +kernel
theorem dX5_listen_121 : decode cX5_listen 121 = .ok (.getfield 103, 3) := by decide +kernel
theorem dX5_listen_124 : decode cX5_listen 124 = .ok (.aload_n 0, 1) := by decide +kernel
theorem dX5_listen_125 : decode cX5_listen 125 = .ok (.getfield 103, 3) := by decide +kernel
theorem dX5_listen_128 : decode cX5_listen 128 = .ok (.aload_n 0, 1) := by decide +kernel
theorem dX5_listen_129 : decode cX5_listen 129 = .ok (.getfield 106, 3) := by decide +kernel
theorem dX5_listen_132 : decode cX5_listen 132 = .ok (.iadd, 1) := by decide +kernel
theorem dX5_listen_133 : decode cX5_listen 133 = .ok (.iconst 1, 1) := by decide +kernel
theorem dX5_listen_134 : decode cX5_listen 134 = .ok (.isub, 1) := by decide +kernel
theorem dX5_listen_135 : decode cX5_listen 135 = .ok (.invokestatic 79, 3) := by decide +kernel
theorem dX5_listen_138 : decode cX5_listen 138 = .ok (.ifCond .eq 7, 3) := by decide +kernel
theorem dX5_listen_141 : decode cX5_listen 141 = .ok (.iconst 0, 1) := by decide +kernel
theorem dX5_listen_142 : decode cX5_listen 142 = .ok (.goto 5, 3) := by decide +kernel
theorem dX5_listen_145 : decode cX5_listen 145 = .ok (.iload 4, 2) := by decide +kernel
theorem dX5_listen_147 : decode cX5_listen 147 = .ok (.istore 4, 2) := by decide +kernel
theorem dX5_listen_149 : decode cX5_listen 149 = .ok (.aload_n 0, 1) := by decide +kernel
theorem dX5_listen_150 : decode cX5_listen 150 = .ok (.getfield 56, 3) := by decide +kernel
theorem dX5_listen_153 : decode cX5_listen 153 = .ok (.iload_n 3, 1) := by decide +kernel
theorem dX5_listen_154 : decode cX5_listen 154 = .ok (.iload 4, 2) := by decide +kernel
theorem dX5_listen_156 : decode cX5_listen 156 = .ok (.sipush 4000, 3) := by decide +kernel
theorem dX5_listen_159 : decode cX5_listen 159 = .ok (.if_icmp .le 9, 3) := by decide +kernel
theorem dX5_listen_162 : decode cX5_listen 162 = .ok (.sipush 4000, 3) := by decide +kernel
theorem dX5_listen_165 : decode cX5_listen 165 = .ok (.goto 19, 3) := by decide +kernel
theorem dX5_listen_168 : decode cX5_listen 168 = .ok (.iload 4, 2) := by decide +kernel
theorem dX5_listen_170 : decode cX5_listen 170 = .ok (.sipush (-4000), 3) := by decide +kernel
theorem dX5_listen_173 : decode cX5_listen 173 = .ok (.if_icmp .ge 9, 3) := by decide +kernel
theorem dX5_listen_176 : decode cX5_listen 176 = .ok (.sipush (-4000), 3) := by decide +kernel
theorem dX5_listen_179 : decode cX5_listen 179 = .ok (.goto 5, 3) := by decide +kernel
theorem dX5_listen_182 : decode cX5_listen 182 = .ok (.iload 4, 2) := by decide +kernel
theorem dX5_listen_184 : decode cX5_listen 184 = .ok (.iastore, 1) := by decide +kernel
theorem dX5_listen_185 : decode cX5_listen 185 = .ok (.iinc 3 1, 3) := by decide +kernel
theorem dX5_listen_188 : decode cX5_listen 188 = .ok (.goto (-180), 3) := by decide +kernel
theorem dX5_listen_191 : decode cX5_listen 191 = .ok (.return_, 1) := by decide +kernel
theorem dX5_hear_0 : decode cX5_hear 0 = .ok (.aload_n 0, 1) := by decide +kernel
theorem dX5_hear_1 : decode cX5_hear 1 = .ok (.aload_n 0, 1) := by decide +kernel
theorem dX5_hear_2 : decode cX5_hear 2 = .ok (.getfield 32, 3) := by decide +kernel
theorem dX5_hear_5 : decode cX5_hear 5 = .ok (.invokevirtual 132, 3) := by decide +kernel
theorem dX5_hear_8 : decode cX5_hear 8 = .ok (.iconst 0, 1) := by decide +kernel
theorem dX5_hear_9 : decode cX5_hear 9 = .ok (.istore_n 1, 1) := by decide +kernel
theorem dX5_hear_10 : decode cX5_hear 10 = .ok (.iload_n 1, 1) := by decide +kernel
theorem dX5_hear_11 : decode cX5_hear 11 = .ok (.aload_n 0, 1) := by decide +kernel
theorem dX5_hear_12 : decode cX5_hear 12 = .ok (.invokevirtual 126, 3) := by decide +kernel
theorem dX5_hear_15 : decode cX5_hear 15 = .ok (.if_icmp .ge 21, 3) := by decide +kernel
theorem dX5_hear_18 : decode cX5_hear 18 = .ok (.aload_n 0, 1) := by decide +kernel
theorem dX5_hear_19 : decode cX5_hear 19 = .ok (.getfield 41, 3) := by decide +kernel
theorem dX5_hear_22 : decode cX5_hear 22 = .ok (.iload_n 1, 1) := by decide +kernel
theorem dX5_hear_23 : decode cX5_hear 23 = .ok (.aload_n 0, 1) := by decide +kernel
theorem dX5_hear_24 : decode cX5_hear 24 = .ok (.getfield 56, 3) := by decide +kernel
theorem dX5_hear_27 : decode cX5_hear 27 = .ok (.iload_n 1, 1) := by decide +kernel
theorem dX5_hear_28 : decode cX5_hear 28 = .ok (.iaload, 1) := by decide +kernel
theorem dX5_hear_29 : decode cX5_hear 29 = .ok (.iastore, 1) := by decide +kernel
theorem dX5_hear_30 : decode cX5_hear 30 = .ok (.iinc 1 1, 3) := by decide +kernel
theorem dX5_hear_33 : decode cX5_hear 33 = .ok (.goto (-23), 3) := by decide +kernel
theorem dX5_hear_36 : decode cX5_hear 36 = .ok (.aload_n 0, 1) := by decide +kernel
theorem dX5_hear_37 : decode cX5_hear 37 = .ok (.invokevirtual 86, 3) := by decide +kernel
theorem dX5_hear_40 : decode cX5_hear 40 = .ok (.pop, 1) := by decide +kernel
theorem dX5_hear_41 : decode cX5_hear 41 = .ok (.aload_n 0, 1) := by decide +kernel
theorem dX5_hear_42 : decode cX5_hear 42 = .ok (.iconst 1, 1) := by decide +kernel
theorem dX5_hear_43 : decode cX5_hear 43 = .ok (.putfield 72, 3) := by decide +kernel
theorem dX5_hear_46 : decode cX5_hear 46 = .ok (.aload_n 0, 1) := by decide +kernel
theorem dX5_hear_47 : decode cX5_hear 47 = .ok (.invokevirtual 126, 3) := by decide +kernel
theorem dX5_hear_50 : decode cX5_hear 50 = .ok (.ireturn, 1) := by decide +kernel
theorem dX5_sample_0 : decode cX5_sample 0 = .ok (.aload_n 0, 1) := by decide +kernel
theorem dX5_sample_1 : decode cX5_sample 1 = .ok (.getfield 72, 3) := by decide +kernel
theorem dX5_sample_4 : decode cX5_sample 4 = .ok (.ifCond .eq 26, 3) := by decide +kernel
theorem dX5_sample_7 : decode cX5_sample 7 = .ok (.iload_n 1, 1) := by decide +kernel
theorem dX5_sample_8 : decode cX5_sample 8 = .ok (.iconst 0, 1) := by decide +kernel
theorem dX5_sample_9 : decode cX5_sample 9 = .ok (.aload_n 0, 1) := by decide +kernel
theorem dX5_sample_10 : decode cX5_sample 10 = .ok (.invokevirtual 126, 3) := by decide +kernel
theorem dX5_sample_13 : decode cX5_sample 13 = .ok (.iconst 1, 1) := by decide +kernel
theorem dX5_sample_14 : decode cX5_sample 14 = .ok (.isub, 1) := by decide +kernel
theorem dX5_sample_15 : decode cX5_sample 15 = .ok (.invokestatic 79, 3) := by decide +kernel
theorem dX5_sample_18 : decode cX5_sample 18 = .ok (.ifCond .eq 12, 3) := by decide +kernel
theorem dX5_sample_21 : decode cX5_sample 21 = .ok (.aload_n 0, 1) := by decide +kernel
theorem dX5_sample_22 : decode cX5_sample 22 = .ok (.getfield 41, 3) := by decide +kernel
theorem dX5_sample_25 : decode cX5_sample 25 = .ok (.iload_n 1, 1) := by decide +kernel
theorem dX5_sample_26 : decode cX5_sample 26 = .ok (.iaload, 1) := by decide +kernel
theorem dX5_sample_27 : decode cX5_sample 27 = .ok (.goto 5, 3) := by decide +kernel
theorem dX5_sample_30 : decode cX5_sample 30 = .ok (.ldc 122, 2) := by decide +kernel
theorem dX5_sample_32 : decode cX5_sample 32 = .ok (.ireturn, 1) := by decide +kernel
theorem dX5_least_0 : decode cX5_least 0 = .ok (.iload_n 1, 1) := by decide +kernel
theorem dX5_least_1 : decode cX5_least 1 = .ok (.iconst 0, 1) := by decide +kernel
theorem dX5_least_2 : decode cX5_least 2 = .ok (.ldc 136, 2) := by decide +kernel
theorem dX5_least_4 : decode cX5_least 4 = .ok (.invokestatic 79, 3) := by decide +kernel
theorem dX5_least_7 : decode cX5_least 7 = .ok (.ifCond .ne 6, 3) := by decide +kernel
theorem dX5_least_10 : decode cX5_least 10 = .ok (.bipush (-2), 2) := by decide +kernel
theorem dX5_least_12 : decode cX5_least 12 = .ok (.ireturn, 1) := by decide +kernel
theorem dX5_least_13 : decode cX5_least 13 = .ok (.aload_n 0, 1) := by decide +kernel
theorem dX5_least_14 : decode cX5_least 14 = .ok (.getfield 35, 3) := by decide +kernel
theorem dX5_least_17 : decode cX5_least 17 = .ok (.istore_n 2, 1) := by decide +kernel
theorem dX5_least_18 : decode cX5_least 18 = .ok (.aload_n 0, 1) := by decide +kernel
theorem dX5_least_19 : decode cX5_least 19 = .ok (.iload_n 1, 1) := by decide +kernel
theorem dX5_least_20 : decode cX5_least 20 = .ok (.putfield 35, 3) := by decide +kernel
theorem dX5_least_23 : decode cX5_least 23 = .ok (.iload_n 2, 1) := by decide +kernel
theorem dX5_least_24 : decode cX5_least 24 = .ok (.ireturn, 1) := by decide +kernel
theorem dX5_likenessOf_0 : decode cX5_likenessOf 0 = .ok (.iconst 0, 1) := by decide +kernel
theorem dX5_likenessOf_1 : decode cX5_likenessOf 1 = .ok (.istore 4, 2) := by decide +kernel
theorem dX5_likenessOf_3 : decode cX5_likenessOf 3 = .ok (.iconst 0, 1) := by decide +kernel
theorem dX5_likenessOf_4 : decode cX5_likenessOf 4 = .ok (.istore 5, 2) := by decide +kernel
theorem dX5_likenessOf_6 : decode cX5_likenessOf 6 = .ok (.iload 5, 2) := by decide +kernel
theorem dX5_likenessOf_8 : decode cX5_likenessOf 8 = .ok (.iload_n 2, 1) := by decide +kernel
theorem dX5_likenessOf_9 : decode cX5_likenessOf 9 = .ok (.if_icmp .ge 44, 3) := by decide +kernel
theorem dX5_likenessOf_12 : decode cX5_likenessOf 12 = .ok (.iload 4, 2) := by decide +kernel
theorem dX5_likenessOf_14 : decode cX5_likenessOf 14 = .ok (.iload_n 3, 1) := by decide +kernel
theorem dX5_likenessOf_15 : decode cX5_likenessOf 15 = .ok (.iload_n 2, 1) := by decide +kernel
theorem dX5_likenessOf_16 : decode cX5_likenessOf 16 = .ok (.iconst 1, 1) := by decide +kernel
theorem dX5_likenessOf_17 : decode cX5_likenessOf 17 = .ok (.isub, 1) := by decide +kernel
theorem dX5_likenessOf_18 : decode cX5_likenessOf 18 = .ok (.iload 5, 2) := by decide +kernel
theorem dX5_likenessOf_20 : decode cX5_likenessOf 20 = .ok (.isub, 1) := by decide +kernel
theorem dX5_likenessOf_21 : decode cX5_likenessOf 21 = .ok (.ishr, 1) := by decide +kernel
theorem dX5_likenessOf_22 : decode cX5_likenessOf 22 = .ok (.iconst 1, 1) := by decide +kernel
theorem dX5_likenessOf_23 : decode cX5_likenessOf 23 = .ok (.iand, 1) := by decide +kernel
theorem dX5_likenessOf_24 : decode cX5_likenessOf 24 = .ok (.iconst 1, 1) := by decide +kernel
theorem dX5_likenessOf_25 : decode cX5_likenessOf 25 = .ok (.if_icmp .ne 12, 3) := by decide +kernel
theorem dX5_likenessOf_28 : decode cX5_likenessOf 28 = .ok (.aload_n 0, 1) := by decide +kernel
theorem dX5_likenessOf_29 : decode cX5_likenessOf 29 = .ok (.iload_n 1, 1) := by decide +kernel
theorem dX5_likenessOf_30 : decode cX5_likenessOf 30 = .ok (.iload 5, 2) := by decide +kernel
theorem dX5_likenessOf_32 : decode cX5_likenessOf 32 = .ok (.iadd, 1) := by decide +kernel
theorem dX5_likenessOf_33 : decode cX5_likenessOf 33 = .ok (.iaload, 1) := by decide +kernel
theorem dX5_likenessOf_34 : decode cX5_likenessOf 34 = .ok (.goto 10, 3) := by decide +kernel
theorem dX5_likenessOf_37 : decode cX5_likenessOf 37 = .ok (.aload_n 0, 1) := by decide +kernel
theorem dX5_likenessOf_38 : decode cX5_likenessOf 38 = .ok (.iload_n 1, 1) := by decide +kernel
theorem dX5_likenessOf_39 : decode cX5_likenessOf 39 = .ok (.iload 5, 2) := by decide +kernel
theorem dX5_likenessOf_41 : decode cX5_likenessOf 41 = .ok (.iadd, 1) := by decide +kernel
theorem dX5_likenessOf_42 : decode cX5_likenessOf 42 = .ok (.iaload, 1) := by decide +kernel
theorem dX5_likenessOf_43 : decode cX5_likenessOf 43 = .ok (.ineg, 1) := by decide +kernel
theorem dX5_likenessOf_44 : decode cX5_likenessOf 44 = .ok (.iadd, 1) := by decide +kernel
theorem dX5_likenessOf_45 : decode cX5_likenessOf 45 = .ok (.istore 4, 2) := by decide +kernel
theorem dX5_likenessOf_47 : decode cX5_likenessOf 47 = .ok (.iinc 5 1, 3) := by decide +kernel
theorem dX5_likenessOf_50 : decode cX5_likenessOf 50 = .ok (.goto (-44), 3) := by decide +kernel
theorem dX5_likenessOf_53 : decode cX5_likenessOf 53 = .ok (.iload 4, 2) := by decide +kernel
theorem dX5_likenessOf_55 : decode cX5_likenessOf 55 = .ok (.ireturn, 1) := by decide +kernel
theorem dX5_placeIn_0 : decode cX5_placeIn 0 = .ok (.iconst (-1), 1) := by decide +kernel
theorem dX5_placeIn_1 : decode cX5_placeIn 1 = .ok (.istore_n 2, 1) := by decide +kernel
theorem dX5_placeIn_2 : decode cX5_placeIn 2 = .ok (.iconst 0, 1) := by decide +kernel
theorem dX5_placeIn_3 : decode cX5_placeIn 3 = .ok (.istore_n 3, 1) := by decide +kernel
theorem dX5_placeIn_4 : decode cX5_placeIn 4 = .ok (.iconst 0, 1) := by decide +kernel
theorem dX5_placeIn_5 : decode cX5_placeIn 5 = .ok (.istore 4, 2) := by decide +kernel
theorem dX5_placeIn_7 : decode cX5_placeIn 7 = .ok (.iload 4, 2) := by decide +kernel
theorem dX5_placeIn_9 : decode cX5_placeIn 9 = .ok (.aload_n 0, 1) := by decide +kernel
theorem dX5_placeIn_10 : decode cX5_placeIn 10 = .ok (.getfield 97, 3) := by decide +kernel
theorem dX5_placeIn_13 : decode cX5_placeIn 13 = .ok (.bipush 8, 2) := by decide +kernel
theorem dX5_placeIn_15 : decode cX5_placeIn 15 = .ok (.iadd, 1) := by decide +kernel
theorem dX5_placeIn_16 : decode cX5_placeIn 16 = .ok (.if_icmp .gt 49, 3) := by decide +kernel
theorem dX5_placeIn_19 : decode cX5_placeIn 19 = .ok (.aload_n 0, 1) := by decide +kernel
theorem dX5_placeIn_20 : decode cX5_placeIn 20 = .ok (.getfield 23, 3) := by decide +kernel
theorem dX5_placeIn_23 : decode cX5_placeIn 23 = .ok (.ifCond .le 42, 3) := by decide +kernel
theorem dX5_placeIn_26 : decode cX5_placeIn 26 = .ok (.aload_n 1, 1) := by decide +kernel
theorem dX5_placeIn_27 : decode cX5_placeIn 27 = .ok (.iload 4, 2) := by decide +kernel
theorem dX5_placeIn_29 : decode cX5_placeIn 29 = .ok (.aload_n 0, 1) := by decide +kernel
theorem dX5_placeIn_30 : decode cX5_placeIn 30 = .ok (.getfield 23, 3) := by decide +kernel
theorem dX5_placeIn_33 : decode cX5_placeIn 33 = .ok (.aload_n 0, 1) := by decide +kernel
theorem dX5_placeIn_34 : decode cX5_placeIn 34 = .ok (.getfield 26, 3) := by decide +kernel
theorem dX5_placeIn_37 : decode cX5_placeIn 37 = .ok (.invokestatic 137, 3) := by decide +kernel
theorem dX5_placeIn_40 : decode cX5_placeIn 40 = .ok (.istore 5, 2) := by decide +kernel
theorem dX5_placeIn_42 : decode cX5_placeIn 42 = .ok (.iload_n 2, 1) := by decide +kernel
theorem dX5_placeIn_43 : decode cX5_placeIn 43 = .ok (.iconst (-1), 1) := by decide +kernel
theorem dX5_placeIn_44 : decode cX5_placeIn 44 = .ok (.if_icmp .eq 9, 3) := by decide +kernel
theorem dX5_placeIn_47 : decode cX5_placeIn 47 = .ok (.iload 5, 2) := by decide +kernel
theorem dX5_placeIn_49 : decode cX5_placeIn 49 = .ok (.iload_n 3, 1) := by decide +kernel
theorem dX5_placeIn_50 : decode cX5_placeIn 50 = .ok (.if_icmp .le 9, 3) := by decide +kernel
theorem dX5_placeIn_53 : decode cX5_placeIn 53 = .ok (.iload 4, 2) := by decide +kernel
theorem dX5_placeIn_55 : decode cX5_placeIn 55 = .ok (.istore_n 2, 1) := by decide +kernel
theorem dX5_placeIn_56 : decode cX5_placeIn 56 = .ok (.iload 5, 2) := by decide +kernel
theorem dX5_placeIn_58 : decode cX5_placeIn 58 = .ok (.istore_n 3, 1) := by decide +kernel
theorem dX5_placeIn_59 : decode cX5_placeIn 59 = .ok (.iinc 4 1, 3) := by decide +kernel
theorem dX5_placeIn_62 : decode cX5_placeIn 62 = .ok (.goto (-55), 3) := by decide +kernel
theorem dX5_placeIn_65 : decode cX5_placeIn 65 = .ok (.iload_n 2, 1) := by decide +kernel
theorem dX5_placeIn_66 : decode cX5_placeIn 66 = .ok (.iconst (-1), 1) := by decide +kernel
theorem dX5_placeIn_67 : decode cX5_placeIn 67 = .ok (.if_icmp .eq 15, 3) := by decide +kernel
theorem dX5_placeIn_70 : decode cX5_placeIn 70 = .ok (.iload_n 3, 1) := by decide +kernel
theorem dX5_placeIn_71 : decode cX5_placeIn 71 = .ok (.aload_n 0, 1) := by decide +kernel
theorem dX5_placeIn_72 : decode cX5_placeIn 72 = .ok (.getfield 35, 3) := by decide +kernel
theorem dX5_placeIn_75 : decode cX5_placeIn 75 = .ok (.if_icmp .lt 7, 3) := by decide +kernel
theorem dX5_placeIn_78 : decode cX5_placeIn 78 = .ok (.iload_n 2, 1) := by decide +kernel
theorem dX5_placeIn_79 : decode cX5_placeIn 79 = .ok (.goto 4, 3) := by decide +kernel
theorem dX5_placeIn_82 : decode cX5_placeIn 82 = .ok (.iconst (-1), 1) := by decide +kernel
theorem dX5_placeIn_83 : decode cX5_placeIn 83 = .ok (.ireturn, 1) := by decide +kernel
theorem dX5_find_0 : decode cX5_find 0 = .ok (.aload_n 0, 1) := by decide +kernel
theorem dX5_find_1 : decode cX5_find 1 = .ok (.getfield 72, 3) := by decide +kernel
theorem dX5_find_4 : decode cX5_find 4 = .ok (.ifCond .ne 6, 3) := by decide +kernel
theorem dX5_find_7 : decode cX5_find 7 = .ok (.bipush (-3), 2) := by decide +kernel
theorem dX5_find_9 : decode cX5_find 9 = .ok (.ireturn, 1) := by decide +kernel
theorem dX5_find_10 : decode cX5_find 10 = .ok (.aload_n 0, 1) := by decide +kernel
theorem dX5_find_11 : decode cX5_find 11 = .ok (.aload_n 0, 1) := by decide +kernel
theorem dX5_find_12 : decode cX5_find 12 = .ok (.aload_n 0, 1) := by decide +kernel
theorem dX5_find_13 : decode cX5_find 13 = .ok (.getfield 41, 3) := by decide +kernel
theorem dX5_find_16 : decode cX5_find 16 = .ok (.invokevirtual 141, 3) := by decide +kernel
theorem dX5_find_19 : decode cX5_find 19 = .ok (.putfield 38, 3) := by decide +kernel
theorem dX5_find_22 : decode cX5_find 22 = .ok (.aload_n 0, 1) := by decide +kernel
theorem dX5_find_23 : decode cX5_find 23 = .ok (.iconst 0, 1) := by decide +kernel
theorem dX5_find_24 : decode cX5_find 24 = .ok (.putfield 76, 3) := by decide +kernel
theorem dX5_find_27 : decode cX5_find 27 = .ok (.aload_n 0, 1) := by decide +kernel
theorem dX5_find_28 : decode cX5_find 28 = .ok (.getfield 38, 3) := by decide +kernel
theorem dX5_find_31 : decode cX5_find 31 = .ok (.ireturn, 1) := by decide +kernel
theorem dX5_likeness_0 : decode cX5_likeness 0 = .ok (.iload_n 1, 1) := by decide +kernel
theorem dX5_likeness_1 : decode cX5_likeness 1 = .ok (.iconst 0, 1) := by decide +kernel
theorem dX5_likeness_2 : decode cX5_likeness 2 = .ok (.aload_n 0, 1) := by decide +kernel
theorem dX5_likeness_3 : decode cX5_likeness 3 = .ok (.getfield 97, 3) := by decide +kernel
theorem dX5_likeness_6 : decode cX5_likeness 6 = .ok (.bipush 8, 2) := by decide +kernel
theorem dX5_likeness_8 : decode cX5_likeness 8 = .ok (.iadd, 1) := by decide +kernel
theorem dX5_likeness_9 : decode cX5_likeness 9 = .ok (.invokestatic 79, 3) := by decide +kernel
theorem dX5_likeness_12 : decode cX5_likeness 12 = .ok (.ifCond .eq 29, 3) := by decide +kernel
theorem dX5_likeness_15 : decode cX5_likeness 15 = .ok (.aload_n 0, 1) := by decide +kernel
theorem dX5_likeness_16 : decode cX5_likeness 16 = .ok (.getfield 72, 3) := by decide +kernel
theorem dX5_likeness_19 : decode cX5_likeness 19 = .ok (.ifCond .eq 22, 3) := by decide +kernel
theorem dX5_likeness_22 : decode cX5_likeness 22 = .ok (.aload_n 0, 1) := by decide +kernel
theorem dX5_likeness_23 : decode cX5_likeness 23 = .ok (.getfield 41, 3) := by decide +kernel
theorem dX5_likeness_26 : decode cX5_likeness 26 = .ok (.iload_n 1, 1) := by decide +kernel
theorem dX5_likeness_27 : decode cX5_likeness 27 = .ok (.aload_n 0, 1) := by decide +kernel
theorem dX5_likeness_28 : decode cX5_likeness 28 = .ok (.getfield 23, 3) := by decide +kernel
theorem dX5_likeness_31 : decode cX5_likeness 31 = .ok (.aload_n 0, 1) := by decide +kernel
theorem dX5_likeness_32 : decode cX5_likeness 32 = .ok (.getfield 26, 3) := by decide +kernel
theorem dX5_likeness_35 : decode cX5_likeness 35 = .ok (.invokestatic 137, 3) := by decide +kernel
theorem dX5_likeness_38 : decode cX5_likeness 38 = .ok (.goto 5, 3) := by decide +kernel
theorem dX5_likeness_41 : decode cX5_likeness 41 = .ok (.ldc 122, 2) := by decide +kernel
theorem dX5_likeness_43 : decode cX5_likeness 43 = .ok (.ireturn, 1) := by decide +kernel
theorem dX5_voiceOf_0 : decode cX5_voiceOf 0 = .ok (.iload_n 1, 1) := by decide +kernel
theorem dX5_voiceOf_1 : decode cX5_voiceOf 1 = .ok (.aload_n 0, 1) := by decide +kernel
theorem dX5_voiceOf_2 : decode cX5_voiceOf 2 = .ok (.getfield 23, 3) := by decide +kernel
theorem dX5_voiceOf_5 : decode cX5_voiceOf 5 = .ok (.ineg, 1) := by decide +kernel
theorem dX5_voiceOf_6 : decode cX5_voiceOf 6 = .ok (.if_icmp .ge 5, 3) := by decide +kernel
theorem dX5_voiceOf_9 : decode cX5_voiceOf 9 = .ok (.iconst 0, 1) := by decide +kernel
theorem dX5_voiceOf_10 : decode cX5_voiceOf 10 = .ok (.ireturn, 1) := by decide +kernel
theorem dX5_voiceOf_11 : decode cX5_voiceOf 11 = .ok (.iload_n 1, 1) := by decide +kernel
theorem dX5_voiceOf_12 : decode cX5_voiceOf 12 = .ok (.ifCond .ge 19, 3) := by decide +kernel
theorem dX5_voiceOf_15 : decode cX5_voiceOf 15 = .ok (.aload_n 0, 1) := by decide +kernel
theorem dX5_voiceOf_16 : decode cX5_voiceOf 16 = .ok (.aload_n 0, 1) := by decide +kernel
theorem dX5_voiceOf_17 : decode cX5_voiceOf 17 = .ok (.getfield 23, 3) := by decide +kernel
theorem dX5_voiceOf_20 : decode cX5_voiceOf 20 = .ok (.iload_n 1, 1) := by decide +kernel
theorem dX5_voiceOf_21 : decode cX5_voiceOf 21 = .ok (.iadd, 1) := by decide +kernel
theorem dX5_voiceOf_22 : decode cX5_voiceOf 22 = .ok (.invokevirtual 116, 3) := by decide +kernel
theorem dX5_voiceOf_25 : decode cX5_voiceOf 25 = .ok (.aload_n 0, 1) := by decide +kernel
theorem dX5_voiceOf_26 : decode cX5_voiceOf 26 = .ok (.getfield 20, 3) := by decide +kernel
theorem dX5_voiceOf_29 : decode cX5_voiceOf 29 = .ok (.imul, 1) := by decide +kernel
theorem dX5_voiceOf_30 : decode cX5_voiceOf 30 = .ok (.ireturn, 1) := by decide +kernel
theorem dX5_voiceOf_31 : decode cX5_voiceOf 31 = .ok (.iload_n 2, 1) := by decide +kernel
theorem dX5_voiceOf_32 : decode cX5_voiceOf 32 = .ok (.iload_n 3, 1) := by decide +kernel
theorem dX5_voiceOf_33 : decode cX5_voiceOf 33 = .ok (.iload_n 1, 1) := by decide +kernel
theorem dX5_voiceOf_34 : decode cX5_voiceOf 34 = .ok (.iconst 2, 1) := by decide +kernel
theorem dX5_voiceOf_35 : decode cX5_voiceOf 35 = .ok (.idiv, 1) := by decide +kernel
theorem dX5_voiceOf_36 : decode cX5_voiceOf 36 = .ok (.isub, 1) := by decide +kernel
theorem dX5_voiceOf_37 : decode cX5_voiceOf 37 = .ok (.ishr, 1) := by decide +kernel
theorem dX5_voiceOf_38 : decode cX5_voiceOf 38 = .ok (.bipush 15, 2) := by decide +kernel
theorem dX5_voiceOf_40 : decode cX5_voiceOf 40 = .ok (.iand, 1) := by decide +kernel
theorem dX5_voiceOf_41 : decode cX5_voiceOf 41 = .ok (.istore 4, 2) := by decide +kernel
theorem dX5_voiceOf_43 : decode cX5_voiceOf 43 = .ok (.iload 4, 2) := by decide +kernel
theorem dX5_voiceOf_45 : decode cX5_voiceOf 45 = .ok (.iload_n 1, 1) := by decide +kernel
theorem dX5_voiceOf_46 : decode cX5_voiceOf 46 = .ok (.iconst 2, 1) := by decide +kernel
theorem dX5_voiceOf_47 : decode cX5_voiceOf 47 = .ok (.irem, 1) := by decide +kernel
theorem dX5_voiceOf_48 : decode cX5_voiceOf 48 = .ok (.ifCond .ne 10, 3) := by decide +kernel
theorem dX5_voiceOf_51 : decode cX5_voiceOf 51 = .ok (.aload_n 0, 1) := by decide +kernel
theorem dX5_voiceOf_52 : decode cX5_voiceOf 52 = .ok (.getfield 13, 3) := by decide +kernel
theorem dX5_voiceOf_55 : decode cX5_voiceOf 55 = .ok (.goto 7, 3) := by decide +kernel
theorem dX5_voiceOf_58 : decode cX5_voiceOf 58 = .ok (.aload_n 0, 1) := by decide +kernel
theorem dX5_voiceOf_59 : decode cX5_voiceOf 59 = .ok (.getfield 17, 3) := by decide +kernel
theorem dX5_voiceOf_62 : decode cX5_voiceOf 62 = .ok (.iand, 1) := by decide +kernel
theorem dX5_voiceOf_63 : decode cX5_voiceOf 63 = .ok (.invokestatic 109, 3) := by decide +kernel
theorem dX5_voiceOf_66 : decode cX5_voiceOf 66 = .ok (.iconst 1, 1) := by decide +kernel
theorem dX5_voiceOf_67 : decode cX5_voiceOf 67 = .ok (.if_icmp .ne 10, 3) := by decide +kernel
theorem dX5_voiceOf_70 : decode cX5_voiceOf 70 = .ok (.aload_n 0, 1) := by decide +kernel
theorem dX5_voiceOf_71 : decode cX5_voiceOf 71 = .ok (.getfield 20, 3) := by decide +kernel
theorem dX5_voiceOf_74 : decode cX5_voiceOf 74 = .ok (.goto 8, 3) := by decide +kernel
theorem dX5_voiceOf_77 : decode cX5_voiceOf 77 = .ok (.aload_n 0, 1) := by decide +kernel
theorem dX5_voiceOf_78 : decode cX5_voiceOf 78 = .ok (.getfield 20, 3) := by decide +kernel
theorem dX5_voiceOf_81 : decode cX5_voiceOf 81 = .ok (.ineg, 1) := by decide +kernel
theorem dX5_voiceOf_82 : decode cX5_voiceOf 82 = .ok (.ireturn, 1) := by decide +kernel
theorem dX5_costOf_0 : decode cX5_costOf 0 = .ok (.lconst 0, 1) := by decide +kernel
theorem dX5_costOf_1 : decode cX5_costOf 1 = .ok (.lstore 5, 2) := by decide +kernel
theorem dX5_costOf_3 : decode cX5_costOf 3 = .ok (.iconst 2, 1) := by decide +kernel
theorem dX5_costOf_4 : decode cX5_costOf 4 = .ok (.iload_n 3, 1) := by decide +kernel
theorem dX5_costOf_5 : decode cX5_costOf 5 = .ok (.imul, 1) := by decide +kernel
theorem dX5_costOf_6 : decode cX5_costOf 6 = .ok (.istore 7, 2) := by decide +kernel
theorem dX5_costOf_8 : decode cX5_costOf 8 = .ok (.iload 7, 2) := by decide +kernel
theorem dX5_costOf_10 : decode cX5_costOf 10 = .ok (.iconst 2, 1) := by decide +kernel
theorem dX5_costOf_11 : decode cX5_costOf 11 = .ok (.iload_n 3, 1) := by decide +kernel
theorem dX5_costOf_12 : decode cX5_costOf 12 = .ok (.imul, 1) := by decide +kernel
theorem dX5_costOf_13 : decode cX5_costOf 13 = .ok (.iconst 2, 1) := by decide +kernel
theorem dX5_costOf_14 : decode cX5_costOf 14 = .ok (.iadd, 1) := by decide +kernel
theorem dX5_costOf_15 : decode cX5_costOf 15 = .ok (.if_icmp .ge 79, 3) := by decide +kernel
theorem dX5_costOf_18 : decode cX5_costOf 18 = .ok (.iconst 0, 1) := by decide +kernel
theorem dX5_costOf_19 : decode cX5_costOf 19 = .ok (.istore 8, 2) := by decide +kernel
theorem dX5_costOf_21 : decode cX5_costOf 21 = .ok (.iconst 0, 1) := by decide +kernel
theorem dX5_costOf_22 : decode cX5_costOf 22 = .ok (.istore 9, 2) := by decide +kernel
theorem dX5_costOf_24 : decode cX5_costOf 24 = .ok (.iload 9, 2) := by decide +kernel
theorem dX5_costOf_26 : decode cX5_costOf 26 = .ok (.iconst 4, 1) := by decide +kernel
theorem dX5_costOf_27 : decode cX5_costOf 27 = .ok (.if_icmp .ge 34, 3) := by decide +kernel
theorem dX5_costOf_30 : decode cX5_costOf 30 = .ok (.iload 8, 2) := by decide +kernel
theorem dX5_costOf_32 : decode cX5_costOf 32 = .ok (.aload_n 0, 1) := by decide +kernel
theorem dX5_costOf_33 : decode cX5_costOf 33 = .ok (.getfield 63, 3) := by decide +kernel
theorem dX5_costOf_36 : decode cX5_costOf 36 = .ok (.iload 9, 2) := by decide +kernel
theorem dX5_costOf_38 : decode cX5_costOf 38 = .ok (.iaload, 1) := by decide +kernel
theorem dX5_costOf_39 : decode cX5_costOf 39 = .ok (.aload_n 0, 1) := by decide +kernel
theorem dX5_costOf_40 : decode cX5_costOf 40 = .ok (.iload 7, 2) := by decide +kernel
theorem dX5_costOf_42 : decode cX5_costOf 42 = .ok (.iload 9, 2) := by decide +kernel
theorem dX5_costOf_44 : decode cX5_costOf 44 = .ok (.isub, 1) := by decide +kernel
theorem dX5_costOf_45 : decode cX5_costOf 45 = .ok (.iload 4, 2) := by decide +kernel
theorem dX5_costOf_47 : decode cX5_costOf 47 = .ok (.iload_n 3, 1) := by decide +kernel
theorem dX5_costOf_48 : decode cX5_costOf 48 = .ok (.invokevirtual 145, 3) := by decide +kernel
theorem dX5_costOf_51 : decode cX5_costOf 51 = .ok (.imul, 1) := by decide +kernel
theorem dX5_costOf_52 : decode cX5_costOf 52 = .ok (.iadd, 1) := by decide +kernel
theorem dX5_costOf_53 : decode cX5_costOf 53 = .ok (.istore 8, 2) := by decide +kernel
theorem dX5_costOf_55 : decode cX5_costOf 55 = .ok (.iinc 9 1, 3) := by decide +kernel
theorem dX5_costOf_58 : decode cX5_costOf 58 = .ok (.goto (-34), 3) := by decide +kernel
theorem dX5_costOf_61 : decode cX5_costOf 61 = .ok (.aload_n 1, 1) := by decide +kernel
theorem dX5_costOf_62 : decode cX5_costOf 62 = .ok (.iload_n 2, 1) := by decide +kernel
theorem dX5_costOf_63 : decode cX5_costOf 63 = .ok (.aload_n 0, 1) := by decide +kernel
theorem dX5_costOf_64 : decode cX5_costOf 64 = .ok (.getfield 23, 3) := by decide +kernel
theorem dX5_costOf_67 : decode cX5_costOf 67 = .ok (.iadd, 1) := by decide +kernel
theorem dX5_costOf_68 : decode cX5_costOf 68 = .ok (.iload 7, 2) := by decide +kernel
theorem dX5_costOf_70 : decode cX5_costOf 70 = .ok (.iadd, 1) := by decide +kernel
theorem dX5_costOf_71 : decode cX5_costOf 71 = .ok (.iaload, 1) := by decide +kernel
theorem dX5_costOf_72 : decode cX5_costOf 72 = .ok (.iload 8, 2) := by decide +kernel
theorem dX5_costOf_74 : decode cX5_costOf 74 = .ok (.isub, 1) := by decide +kernel
theorem dX5_costOf_75 : decode cX5_costOf 75 = .ok (.i2l, 1) := by decide +kernel
theorem dX5_costOf_76 : decode cX5_costOf 76 = .ok (.lstore 9, 2) := by decide +kernel
theorem dX5_costOf_78 : decode cX5_costOf 78 = .ok (.lload 5, 2) := by decide +kernel
theorem dX5_costOf_80 : decode cX5_costOf 80 = .ok (.lload 9, 2) := by decide +kernel
theorem dX5_costOf_82 : decode cX5_costOf 82 = .ok (.lload 9, 2) := by decide +kernel
theorem dX5_costOf_84 : decode cX5_costOf 84 = .ok (.lmul, 1) := by decide +kernel
theorem dX5_costOf_85 : decode cX5_costOf 85 = .ok (.ladd, 1) := by decide +kernel
theorem dX5_costOf_86 : decode cX5_costOf 86 = .ok (.lstore 5, 2) := by decide +kernel
theorem dX5_costOf_88 : decode cX5_costOf 88 = .ok (.iinc 7 1, 3) := by decide +kernel
theorem dX5_costOf_91 : decode cX5_costOf 91 = .ok (.goto (-83), 3) := by decide +kernel
theorem dX5_costOf_94 : decode cX5_costOf 94 = .ok (.lload 5, 2) := by decide +kernel
theorem dX5_costOf_96 : decode cX5_costOf 96 = .ok (.lreturn, 1) := by decide +kernel
theorem dX5_by_0 : decode cX5_by 0 = .ok (.iconst 2, 1) := by decide +kernel
theorem dX5_by_1 : decode cX5_by 1 = .ok (.iload 4, 2) := by decide +kernel
theorem dX5_by_3 : decode cX5_by 3 = .ok (.imul, 1) := by decide +kernel
theorem dX5_by_4 : decode cX5_by 4 = .ok (.iload 5, 2) := by decide +kernel
theorem dX5_by_6 : decode cX5_by 6 = .ok (.iadd, 1) := by decide +kernel
theorem dX5_by_7 : decode cX5_by 7 = .ok (.istore 6, 2) := by decide +kernel
theorem dX5_by_9 : decode cX5_by 9 = .ok (.aload_n 0, 1) := by decide +kernel
theorem dX5_by_10 : decode cX5_by 10 = .ok (.aload_n 1, 1) := by decide +kernel
theorem dX5_by_11 : decode cX5_by 11 = .ok (.iload_n 2, 1) := by decide +kernel
theorem dX5_by_12 : decode cX5_by 12 = .ok (.iload_n 3, 1) := by decide +kernel
theorem dX5_by_13 : decode cX5_by 13 = .ok (.iload 6, 2) := by decide +kernel
theorem dX5_by_15 : decode cX5_by 15 = .ok (.invokevirtual 149, 3) := by decide +kernel
theorem dX5_by_18 : decode cX5_by 18 = .ok (.aload_n 0, 1) := by decide +kernel
theorem dX5_by_19 : decode cX5_by 19 = .ok (.getfield 59, 3) := by decide +kernel
theorem dX5_by_22 : decode cX5_by 22 = .ok (.bipush 32, 2) := by decide +kernel
theorem dX5_by_24 : decode cX5_by 24 = .ok (.iload_n 3, 1) := by decide +kernel
theorem dX5_by_25 : decode cX5_by 25 = .ok (.iconst 1, 1) := by decide +kernel
theorem dX5_by_26 : decode cX5_by 26 = .ok (.iadd, 1) := by decide +kernel
theorem dX5_by_27 : decode cX5_by 27 = .ok (.imul, 1) := by decide +kernel
theorem dX5_by_28 : decode cX5_by 28 = .ok (.iload 6, 2) := by decide +kernel
theorem dX5_by_30 : decode cX5_by 30 = .ok (.bipush 32, 2) := by decide +kernel
theorem dX5_by_32 : decode cX5_by 32 = .ok (.irem, 1) := by decide +kernel
theorem dX5_by_33 : decode cX5_by 33 = .ok (.iadd, 1) := by decide +kernel
theorem dX5_by_34 : decode cX5_by 34 = .ok (.laload, 1) := by decide +kernel
theorem dX5_by_35 : decode cX5_by 35 = .ok (.ladd, 1) := by decide +kernel
theorem dX5_by_36 : decode cX5_by 36 = .ok (.lreturn, 1) := by decide +kernel
theorem dX5_bringFrom_0 : decode cX5_bringFrom 0 = .ok (.aload_n 0, 1) := by decide +kernel
theorem dX5_bringFrom_1 : decode cX5_bringFrom 1 = .ok (.getfield 83, 3) := by decide +kernel
theorem dX5_bringFrom_4 : decode cX5_bringFrom 4 = .ok (.iconst 3, 1) := by decide +kernel
theorem dX5_bringFrom_5 : decode cX5_bringFrom 5 = .ok (.iadd, 1) := by decide +kernel
theorem dX5_bringFrom_6 : decode cX5_bringFrom 6 = .ok (.istore_n 3, 1) := by decide +kernel
theorem dX5_bringFrom_7 : decode cX5_bringFrom 7 = .ok (.iconst 0, 1) := by decide +kernel
theorem dX5_bringFrom_8 : decode cX5_bringFrom 8 = .ok (.istore 4, 2) := by decide +kernel
theorem dX5_bringFrom_10 : decode cX5_bringFrom 10 = .ok (.iload 4, 2) := by decide +kernel
theorem dX5_bringFrom_12 : decode cX5_bringFrom 12 = .ok (.bipush 32, 2) := by decide +kernel
theorem dX5_bringFrom_14 : decode cX5_bringFrom 14 = .ok (.if_icmp .ge 22, 3) := by decide +kernel
theorem dX5_bringFrom_17 : decode cX5_bringFrom 17 = .ok (.aload_n 0, 1) := by decide +kernel
theorem dX5_bringFrom_18 : decode cX5_bringFrom 18 = .ok (.getfield 59, 3) := by decide +kernel
theorem dX5_bringFrom_21 : decode cX5_bringFrom 21 = .ok (.bipush 32, 2) := by decide +kernel
theorem dX5_bringFrom_23 : decode cX5_bringFrom 23 = .ok (.iload_n 3, 1) := by decide +kernel
theorem dX5_bringFrom_24 : decode cX5_bringFrom 24 = .ok (.imul, 1) := by decide +kernel
theorem dX5_bringFrom_25 : decode cX5_bringFrom 25 = .ok (.iload 4, 2) := by decide +kernel
theorem dX5_bringFrom_27 : decode cX5_bringFrom 27 = .ok (.iadd, 1) := by decide +kernel
theorem dX5_bringFrom_28 : decode cX5_bringFrom 28 = .ok (.lconst 0, 1) := by decide +kernel
theorem dX5_bringFrom_29 : decode cX5_bringFrom 29 = .ok (.lastore, 1) := by decide +kernel
theorem dX5_bringFrom_30 : decode cX5_bringFrom 30 = .ok (.iinc 4 1, 3) := by decide +kernel
theorem dX5_bringFrom_33 : decode cX5_bringFrom 33 = .ok (.goto (-23), 3) := by decide +kernel
theorem dX5_bringFrom_36 : decode cX5_bringFrom 36 = .ok (.iload_n 3, 1) := by decide +kernel
theorem dX5_bringFrom_37 : decode cX5_bringFrom 37 = .ok (.iconst 1, 1) := by decide +kernel
theorem dX5_bringFrom_38 : decode cX5_bringFrom 38 = .ok (.isub, 1) := by decide +kernel
theorem dX5_bringFrom_39 : decode cX5_bringFrom 39 = .ok (.istore 4, 2) := by decide +kernel
theorem dX5_bringFrom_41 : decode cX5_bringFrom 41 = .ok (.iload 4, 2) := by decide +kernel
theorem dX5_bringFrom_43 : decode cX5_bringFrom 43 = .ok (.ifCond .lt 93, 3) := by decide +kernel
theorem dX5_bringFrom_46 : decode cX5_bringFrom 46 = .ok (.iconst 0, 1) := by decide +kernel
theorem dX5_bringFrom_47 : decode cX5_bringFrom 47 = .ok (.istore 5, 2) := by decide +kernel
theorem dX5_bringFrom_49 : decode cX5_bringFrom 49 = .ok (.iload 5, 2) := by decide +kernel
theorem dX5_bringFrom_51 : decode cX5_bringFrom 51 = .ok (.bipush 32, 2) := by decide +kernel
theorem dX5_bringFrom_53 : decode cX5_bringFrom 53 = .ok (.if_icmp .ge 77, 3) := by decide +kernel
theorem dX5_bringFrom_56 : decode cX5_bringFrom 56 = .ok (.aload_n 0, 1) := by decide +kernel
theorem dX5_bringFrom_57 : decode cX5_bringFrom 57 = .ok (.aload_n 1, 1) := by decide +kernel
theorem dX5_bringFrom_58 : decode cX5_bringFrom 58 = .ok (.iload_n 2, 1) := by decide +kernel
theorem dX5_bringFrom_59 : decode cX5_bringFrom 59 = .ok (.iload 4, 2) := by decide +kernel
theorem dX5_bringFrom_61 : decode cX5_bringFrom 61 = .ok (.iload 5, 2) := by decide +kernel
theorem dX5_bringFrom_63 : decode cX5_bringFrom 63 = .ok (.iconst 0, 1) := by decide +kernel
theorem dX5_bringFrom_64 : decode cX5_bringFrom 64 = .ok (.invokevirtual 153, 3) := by decide +kernel
theorem dX5_bringFrom_67 : decode cX5_bringFrom 67 = .ok (.lstore 6, 2) := by decide +kernel
theorem dX5_bringFrom_69 : decode cX5_bringFrom 69 = .ok (.iload 4, 2) := by decide +kernel
theorem dX5_bringFrom_71 : decode cX5_bringFrom 71 = .ok (.aload_n 0, 1) := by decide +kernel
theorem dX5_bringFrom_72 : decode cX5_bringFrom 72 = .ok (.getfield 83, 3) := by decide +kernel
theorem dX5_bringFrom_75 : decode cX5_bringFrom 75 = .ok (.if_icmp .ge 17, 3) := by decide +kernel
theorem dX5_bringFrom_78 : decode cX5_bringFrom 78 = .ok (.aload_n 0, 1) := by decide +kernel
theorem dX5_bringFrom_79 : decode cX5_bringFrom 79 = .ok (.aload_n 1, 1) := by decide +kernel
theorem dX5_bringFrom_80 : decode cX5_bringFrom 80 = .ok (.iload_n 2, 1) := by decide +kernel
theorem dX5_bringFrom_81 : decode cX5_bringFrom 81 = .ok (.iload 4, 2) := by decide +kernel
theorem dX5_bringFrom_83 : decode cX5_bringFrom 83 = .ok (.iload 5, 2) := by decide +kernel
theorem dX5_bringFrom_85 : decode cX5_bringFrom 85 = .ok (.iconst 1, 1) := by decide +kernel
theorem dX5_bringFrom_86 : decode cX5_bringFrom 86 = .ok (.invokevirtual 153, 3) := by decide +kernel
theorem dX5_bringFrom_89 : decode cX5_bringFrom 89 = .ok (.goto 5, 3) := by decide +kernel
theorem dX5_bringFrom_92 : decode cX5_bringFrom 92 = .ok (.lload 6, 2) := by decide +kernel
theorem dX5_bringFrom_94 : decode cX5_bringFrom 94 = .ok (.lstore 8, 2) := by decide +kernel
theorem dX5_bringFrom_96 : decode cX5_bringFrom 96 = .ok (.aload_n 0, 1) := by decide +kernel
theorem dX5_bringFrom_97 : decode cX5_bringFrom 97 = .ok (.getfield 59, 3) := by decide +kernel
theorem dX5_bringFrom_100 : decode cX5_bringFrom 100 = .ok (.bipush 32, 2) := by decide +kernel
theorem dX5_bringFrom_102 : decode cX5_bringFrom 102 = .ok (.iload 4, 2) := by decide +kernel
theorem dX5_bringFrom_104 : decode cX5_bringFrom 104 = .ok (.imul, 1) := by decide +kernel
theorem dX5_bringFrom_105 : decode cX5_bringFrom 105 = .ok (.iload 5, 2) := by decide +kernel
theorem dX5_bringFrom_107 : decode cX5_bringFrom 107 = .ok (.iadd, 1) := by decide +kernel
theorem dX5_bringFrom_108 : decode cX5_bringFrom 108 = .ok (.lload 8, 2) := by decide +kernel
theorem dX5_bringFrom_110 : decode cX5_bringFrom 110 = .ok (.lload 6, 2) := by decide +kernel
theorem dX5_bringFrom_112 : decode cX5_bringFrom 112 = .ok (.lcmp, 1) := by decide +kernel
theorem dX5_bringFrom_113 : decode cX5_bringFrom 113 = .ok (.ifCond .ge 8, 3) := by decide +kernel
theorem dX5_bringFrom_116 : decode cX5_bringFrom 116 = .ok (.lload 8, 2) := by decide +kernel
theorem dX5_bringFrom_118 : decode cX5_bringFrom 118 = .ok (.goto 5, 3) := by decide +kernel
theorem dX5_bringFrom_121 : decode cX5_bringFrom 121 = .ok (.lload 6, 2) := by decide +kernel
theorem dX5_bringFrom_123 : decode cX5_bringFrom 123 = .ok (.lastore, 1) := by decide +kernel
theorem dX5_bringFrom_124 : decode cX5_bringFrom 124 = .ok (.iinc 5 1, 3) := by decide +kernel
theorem dX5_bringFrom_127 : decode cX5_bringFrom 127 = .ok (.goto (-78), 3) := by decide +kernel
theorem dX5_bringFrom_130 : decode cX5_bringFrom 130 = .ok (.iinc 4 (-1), 3) := by decide +kernel
theorem dX5_bringFrom_133 : decode cX5_bringFrom 133 = .ok (.goto (-92), 3) := by decide +kernel
theorem dX5_bringFrom_136 : decode cX5_bringFrom 136 = .ok (.iconst 0, 1) := by decide +kernel
theorem dX5_bringFrom_137 : decode cX5_bringFrom 137 = .ok (.istore 4, 2) := by decide +kernel
theorem dX5_bringFrom_139 : decode cX5_bringFrom 139 = .ok (.iconst 0, 1) := by decide +kernel
theorem dX5_bringFrom_140 : decode cX5_bringFrom 140 = .ok (.istore 5, 2) := by decide +kernel
theorem dX5_bringFrom_142 : decode cX5_bringFrom 142 = .ok (.iconst 0, 1) := by decide +kernel
theorem dX5_bringFrom_143 : decode cX5_bringFrom 143 = .ok (.istore 6, 2) := by decide +kernel
theorem dX5_bringFrom_145 : decode cX5_bringFrom 145 = .ok (.iload 6, 2) := by decide +kernel
theorem dX5_bringFrom_147 : decode cX5_bringFrom 147 = .ok (.aload_n 0, 1) := by decide +kernel
theorem dX5_bringFrom_148 : decode cX5_bringFrom 148 = .ok (.getfield 83, 3) := by decide +kernel
theorem dX5_bringFrom_151 : decode cX5_bringFrom 151 = .ok (.if_icmp .ge 109, 3) := by decide +kernel
theorem dX5_bringFrom_154 : decode cX5_bringFrom 154 = .ok (.aload_n 0, 1) := by decide +kernel
theorem dX5_bringFrom_155 : decode cX5_bringFrom 155 = .ok (.getfield 44, 3) := by decide +kernel
theorem dX5_bringFrom_158 : decode cX5_bringFrom 158 = .ok (.iload 6, 2) := by decide +kernel
theorem dX5_bringFrom_160 : decode cX5_bringFrom 160 = .ok (.aload_n 0, 1) := by decide +kernel
theorem dX5_bringFrom_161 : decode cX5_bringFrom 161 = .ok (.aload_n 1, 1) := by decide +kernel
theorem dX5_bringFrom_162 : decode cX5_bringFrom 162 = .ok (.iload_n 2, 1) := by decide +kernel
theorem dX5_bringFrom_163 : decode cX5_bringFrom 163 = .ok (.iload 6, 2) := by decide +kernel
theorem dX5_bringFrom_165 : decode cX5_bringFrom 165 = .ok (.iload 4, 2) := by decide +kernel
theorem dX5_bringFrom_167 : decode cX5_bringFrom 167 = .ok (.iconst 0, 1) := by decide +kernel
theorem dX5_bringFrom_168 : decode cX5_bringFrom 168 = .ok (.invokevirtual 153, 3) := by decide +kernel
theorem dX5_bringFrom_171 : decode cX5_bringFrom 171 = .ok (.aload_n 0, 1) := by decide +kernel
theorem dX5_bringFrom_172 : decode cX5_bringFrom 172 = .ok (.getfield 59, 3) := by decide +kernel
theorem dX5_bringFrom_175 : decode cX5_bringFrom 175 = .ok (.bipush 32, 2) := by decide +kernel
theorem dX5_bringFrom_177 : decode cX5_bringFrom 177 = .ok (.iload 6, 2) := by decide +kernel
theorem dX5_bringFrom_179 : decode cX5_bringFrom 179 = .ok (.imul, 1) := by decide +kernel
theorem dX5_bringFrom_180 : decode cX5_bringFrom 180 = .ok (.iload 4, 2) := by decide +kernel
theorem dX5_bringFrom_182 : decode cX5_bringFrom 182 = .ok (.iadd, 1) := by decide +kernel
theorem dX5_bringFrom_183 : decode cX5_bringFrom 183 = .ok (.laload, 1) := by decide +kernel
theorem dX5_bringFrom_184 : decode cX5_bringFrom 184 = .ok (.lcmp, 1) := by decide +kernel
theorem dX5_bringFrom_185 : decode cX5_bringFrom 185 = .ok (.ifCond .ne 7, 3) := by decide +kernel
theorem dX5_bringFrom_188 : decode cX5_bringFrom 188 = .ok (.iconst 0, 1) := by decide +kernel
theorem dX5_bringFrom_189 : decode cX5_bringFrom 189 = .ok (.goto 4, 3) := by decide +kernel
theorem dX5_bringFrom_192 : decode cX5_bringFrom 192 = .ok (.iconst 1, 1) := by decide +kernel
theorem dX5_bringFrom_193 : decode cX5_bringFrom 193 = .ok (.iastore, 1) := by decide +kernel
theorem dX5_bringFrom_194 : decode cX5_bringFrom 194 = .ok (.iconst 2, 1) := by decide +kernel
theorem dX5_bringFrom_195 : decode cX5_bringFrom 195 = .ok (.iload 4, 2) := by decide +kernel
theorem dX5_bringFrom_197 : decode cX5_bringFrom 197 = .ok (.imul, 1) := by decide +kernel
theorem dX5_bringFrom_198 : decode cX5_bringFrom 198 = .ok (.aload_n 0, 1) := by decide +kernel
theorem dX5_bringFrom_199 : decode cX5_bringFrom 199 = .ok (.getfield 44, 3) := by decide +kernel
theorem dX5_bringFrom_202 : decode cX5_bringFrom 202 = .ok (.iload 6, 2) := by decide +kernel
theorem dX5_bringFrom_204 : decode cX5_bringFrom 204 = .ok (.iaload, 1) := by decide +kernel
theorem dX5_bringFrom_205 : decode cX5_bringFrom 205 = .ok (.iadd, 1) := by decide +kernel
theorem dX5_bringFrom_206 : decode cX5_bringFrom 206 = .ok (.bipush 32, 2) := by decide +kernel
theorem dX5_bringFrom_208 : decode cX5_bringFrom 208 = .ok (.irem, 1) := by decide +kernel
theorem dX5_bringFrom_209 : decode cX5_bringFrom 209 = .ok (.istore 4, 2) := by decide +kernel
theorem dX5_bringFrom_211 : decode cX5_bringFrom 211 = .ok (.aload_n 0, 1) := by decide +kernel
theorem dX5_bringFrom_212 : decode cX5_bringFrom 212 = .ok (.getfield 47, 3) := by decide +kernel
theorem dX5_bringFrom_215 : decode cX5_bringFrom 215 = .ok (.iload 6, 2) := by decide +kernel
theorem dX5_bringFrom_217 : decode cX5_bringFrom 217 = .ok (.aload_n 0, 1) := by decide +kernel
theorem dX5_bringFrom_218 : decode cX5_bringFrom 218 = .ok (.getfield 44, 3) := by decide +kernel
theorem dX5_bringFrom_221 : decode cX5_bringFrom 221 = .ok (.iload 6, 2) := by decide +kernel
theorem dX5_bringFrom_223 : decode cX5_bringFrom 223 = .ok (.iaload, 1) := by decide +kernel
theorem dX5_bringFrom_224 : decode cX5_bringFrom 224 = .ok (.iload 5, 2) := by decide +kernel
theorem dX5_bringFrom_226 : decode cX5_bringFrom 226 = .ok (.aload_n 0, 1) := by decide +kernel
theorem dX5_bringFrom_227 : decode cX5_bringFrom 227 = .ok (.getfield 90, 3) := by decide +kernel
theorem dX5_bringFrom_230 : decode cX5_bringFrom 230 = .ok (.iand, 1) := by decide +kernel
theorem dX5_bringFrom_231 : decode cX5_bringFrom 231 = .ok (.invokestatic 109, 3) := by decide +kernel
theorem dX5_bringFrom_234 : decode cX5_bringFrom 234 = .ok (.ixor, 1) := by decide +kernel
theorem dX5_bringFrom_235 : decode cX5_bringFrom 235 = .ok (.iastore, 1) := by decide +kernel
theorem dX5_bringFrom_236 : decode cX5_bringFrom 236 = .ok (.iconst 2, 1) := by decide +kernel
theorem dX5_bringFrom_237 : decode cX5_bringFrom 237 = .ok (.iload 5, 2) := by decide +kernel
theorem dX5_bringFrom_239 : decode cX5_bringFrom 239 = .ok (.imul, 1) := by decide +kernel
theorem dX5_bringFrom_240 : decode cX5_bringFrom 240 = .ok (.aload_n 0, 1) := by decide +kernel
theorem dX5_bringFrom_241 : decode cX5_bringFrom 241 = .ok (.getfield 44, 3) := by decide +kernel
theorem dX5_bringFrom_244 : decode cX5_bringFrom 244 = .ok (.iload 6, 2) := by decide +kernel
theorem dX5_bringFrom_246 : decode cX5_bringFrom 246 = .ok (.iaload, 1) := by decide +kernel
theorem dX5_bringFrom_247 : decode cX5_bringFrom 247 = .ok (.iadd, 1) := by decide +kernel
theorem dX5_bringFrom_248 : decode cX5_bringFrom 248 = .ok (.sipush 128, 3) := by decide +kernel
theorem dX5_bringFrom_251 : decode cX5_bringFrom 251 = .ok (.irem, 1) := by decide +kernel
theorem dX5_bringFrom_252 : decode cX5_bringFrom 252 = .ok (.istore 5, 2) := by decide +kernel
theorem dX5_bringFrom_254 : decode cX5_bringFrom 254 = .ok (.iinc 6 1, 3) := by decide +kernel
theorem dX5_bringFrom_257 : decode cX5_bringFrom 257 = .ok (.goto (-112), 3) := by decide +kernel
theorem dX5_bringFrom_260 : decode cX5_bringFrom 260 = .ok (.aload_n 0, 1) := by decide +kernel
theorem dX5_bringFrom_261 : decode cX5_bringFrom 261 = .ok (.getfield 59, 3) := by decide +kernel
theorem dX5_bringFrom_264 : decode cX5_bringFrom 264 = .ok (.iconst 0, 1) := by decide +kernel
theorem dX5_bringFrom_265 : decode cX5_bringFrom 265 = .ok (.laload, 1) := by decide +kernel
theorem dX5_bringFrom_266 : decode cX5_bringFrom 266 = .ok (.lreturn, 1) := by decide +kernel
theorem dX5_bring_0 : decode cX5_bring 0 = .ok (.iload_n 1, 1) := by decide +kernel
theorem dX5_bring_1 : decode cX5_bring 1 = .ok (.iload_n 2, 1) := by decide +kernel
theorem dX5_bring_2 : decode cX5_bring 2 = .ok (.iload_n 3, 1) := by decide +kernel
theorem dX5_bring_3 : decode cX5_bring 3 = .ok (.iload 4, 2) := by decide +kernel
theorem dX5_bring_5 : decode cX5_bring 5 = .ok (.invokestatic 93, 3) := by decide +kernel
theorem dX5_bring_8 : decode cX5_bring 8 = .ok (.ifCond .ne 7, 3) := by decide +kernel
theorem dX5_bring_11 : decode cX5_bring 11 = .ok (.ldc2_w 157, 3) := by decide +kernel
theorem dX5_bring_14 : decode cX5_bring 14 = .ok (.lreturn, 1) := by decide +kernel
theorem dX5_bring_15 : decode cX5_bring 15 = .ok (.aload_n 0, 1) := by decide +kernel
theorem dX5_bring_16 : decode cX5_bring 16 = .ok (.getfield 38, 3) := by decide +kernel
theorem dX5_bring_19 : decode cX5_bring 19 = .ok (.iconst (-1), 1) := by decide +kernel
theorem dX5_bring_20 : decode cX5_bring 20 = .ok (.if_icmp .eq 10, 3) := by decide +kernel
theorem dX5_bring_23 : decode cX5_bring 23 = .ok (.aload_n 0, 1) := by decide +kernel
theorem dX5_bring_24 : decode cX5_bring 24 = .ok (.getfield 83, 3) := by decide +kernel
theorem dX5_bring_27 : decode cX5_bring 27 = .ok (.ifCond .ne 7, 3) := by decide +kernel
theorem dX5_bring_30 : decode cX5_bring 30 = .ok (.ldc2_w 159, 3) := by decide +kernel
theorem dX5_bring_33 : decode cX5_bring 33 = .ok (.lreturn, 1) := by decide +kernel
theorem dX5_bring_34 : decode cX5_bring 34 = .ok (.aload_n 0, 1) := by decide +kernel
theorem dX5_bring_35 : decode cX5_bring 35 = .ok (.getfield 63, 3) := by decide +kernel
theorem dX5_bring_38 : decode cX5_bring 38 = .ok (.iconst 0, 1) := by decide +kernel
theorem dX5_bring_39 : decode cX5_bring 39 = .ok (.iload_n 1, 1) := by decide +kernel
theorem dX5_bring_40 : decode cX5_bring 40 = .ok (.iastore, 1) := by decide +kernel
theorem dX5_bring_41 : decode cX5_bring 41 = .ok (.aload_n 0, 1) := by decide +kernel
theorem dX5_bring_42 : decode cX5_bring 42 = .ok (.getfield 63, 3) := by decide +kernel
theorem dX5_bring_45 : decode cX5_bring 45 = .ok (.iconst 1, 1) := by decide +kernel
theorem dX5_bring_46 : decode cX5_bring 46 = .ok (.iload_n 2, 1) := by decide +kernel
theorem dX5_bring_47 : decode cX5_bring 47 = .ok (.iastore, 1) := by decide +kernel
theorem dX5_bring_48 : decode cX5_bring 48 = .ok (.aload_n 0, 1) := by decide +kernel
theorem dX5_bring_49 : decode cX5_bring 49 = .ok (.getfield 63, 3) := by decide +kernel
theorem dX5_bring_52 : decode cX5_bring 52 = .ok (.iconst 2, 1) := by decide +kernel
theorem dX5_bring_53 : decode cX5_bring 53 = .ok (.iload_n 3, 1) := by decide +kernel
theorem dX5_bring_54 : decode cX5_bring 54 = .ok (.iastore, 1) := by decide +kernel
theorem dX5_bring_55 : decode cX5_bring 55 = .ok (.aload_n 0, 1) := by decide +kernel
theorem dX5_bring_56 : decode cX5_bring 56 = .ok (.getfield 63, 3) := by decide +kernel
theorem dX5_bring_59 : decode cX5_bring 59 = .ok (.iconst 3, 1) := by decide +kernel
theorem dX5_bring_60 : decode cX5_bring 60 = .ok (.iload 4, 2) := by decide +kernel
theorem dX5_bring_62 : decode cX5_bring 62 = .ok (.iastore, 1) := by decide +kernel
theorem dX5_bring_63 : decode cX5_bring 63 = .ok (.aload_n 0, 1) := by decide +kernel
theorem dX5_bring_64 : decode cX5_bring 64 = .ok (.iconst 1, 1) := by decide +kernel
theorem dX5_bring_65 : decode cX5_bring 65 = .ok (.putfield 76, 3) := by decide +kernel
theorem dX5_bring_68 : decode cX5_bring 68 = .ok (.aload_n 0, 1) := by decide +kernel
theorem dX5_bring_69 : decode cX5_bring 69 = .ok (.aload_n 0, 1) := by decide +kernel
theorem dX5_bring_70 : decode cX5_bring 70 = .ok (.getfield 41, 3) := by decide +kernel
theorem dX5_bring_73 : decode cX5_bring 73 = .ok (.aload_n 0, 1) := by decide +kernel
theorem dX5_bring_74 : decode cX5_bring 74 = .ok (.getfield 38, 3) := by decide +kernel
theorem dX5_bring_77 : decode cX5_bring 77 = .ok (.invokevirtual 161, 3) := by decide +kernel
theorem dX5_bring_80 : decode cX5_bring 80 = .ok (.lreturn, 1) := by decide +kernel
theorem dX5_brought_0 : decode cX5_brought 0 = .ok (.iload_n 1, 1) := by decide +kernel
theorem dX5_brought_1 : decode cX5_brought 1 = .ok (.iconst 0, 1) := by decide +kernel
theorem dX5_brought_2 : decode cX5_brought 2 = .ok (.iconst 1, 1) := by decide +kernel
theorem dX5_brought_3 : decode cX5_brought 3 = .ok (.invokestatic 79, 3) := by decide +kernel
theorem dX5_brought_6 : decode cX5_brought 6 = .ok (.ifCond .eq 17, 3) := by decide +kernel
theorem dX5_brought_9 : decode cX5_brought 9 = .ok (.iload_n 2, 1) := by decide +kernel
theorem dX5_brought_10 : decode cX5_brought 10 = .ok (.iconst 0, 1) := by decide +kernel
theorem dX5_brought_11 : decode cX5_brought 11 = .ok (.aload_n 0, 1) := by decide +kernel
theorem dX5_brought_12 : decode cX5_brought 12 = .ok (.getfield 83, 3) := by decide +kernel
theorem dX5_brought_15 : decode cX5_brought 15 = .ok (.iconst 1, 1) := by decide +kernel
theorem dX5_brought_16 : decode cX5_brought 16 = .ok (.isub, 1) := by decide +kernel
theorem dX5_brought_17 : decode cX5_brought 17 = .ok (.invokestatic 79, 3) := by decide +kernel
theorem dX5_brought_20 : decode cX5_brought 20 = .ok (.ifCond .ne 6, 3) := by decide +kernel
theorem dX5_brought_23 : decode cX5_brought 23 = .ok (.bipush (-2), 2) := by decide +kernel
theorem dX5_brought_25 : decode cX5_brought 25 = .ok (.ireturn, 1) := by decide +kernel
theorem dX5_brought_26 : decode cX5_brought 26 = .ok (.aload_n 0, 1) := by decide +kernel
theorem dX5_brought_27 : decode cX5_brought 27 = .ok (.getfield 76, 3) := by decide +kernel
theorem dX5_brought_30 : decode cX5_brought 30 = .ok (.ifCond .ne 8, 3) := by decide +kernel
theorem dX5_brought_33 : decode cX5_brought 33 = .ok (.bipush (-3), 2) := by decide +kernel
theorem dX5_brought_35 : decode cX5_brought 35 = .ok (.goto 23, 3) := by decide +kernel
theorem dX5_brought_38 : decode cX5_brought 38 = .ok (.iload_n 1, 1) := by decide +kernel
theorem dX5_brought_39 : decode cX5_brought 39 = .ok (.iconst 1, 1) := by decide +kernel
theorem dX5_brought_40 : decode cX5_brought 40 = .ok (.if_icmp .ne 12, 3) := by decide +kernel
theorem dX5_brought_43 : decode cX5_brought 43 = .ok (.aload_n 0, 1) := by decide +kernel
theorem dX5_brought_44 : decode cX5_brought 44 = .ok (.getfield 44, 3) := by decide +kernel
theorem dX5_brought_47 : decode cX5_brought 47 = .ok (.iload_n 2, 1) := by decide +kernel
theorem dX5_brought_48 : decode cX5_brought 48 = .ok (.iaload, 1) := by decide +kernel
theorem dX5_brought_49 : decode cX5_brought 49 = .ok (.goto 9, 3) := by decide +kernel
theorem dX5_brought_52 : decode cX5_brought 52 = .ok (.aload_n 0, 1) := by decide +kernel
theorem dX5_brought_53 : decode cX5_brought 53 = .ok (.getfield 47, 3) := by decide +kernel
theorem dX5_brought_56 : decode cX5_brought 56 = .ok (.iload_n 2, 1) := by decide +kernel
theorem dX5_brought_57 : decode cX5_brought 57 = .ok (.iaload, 1) := by decide +kernel
theorem dX5_brought_58 : decode cX5_brought 58 = .ok (.ireturn, 1) := by decide +kernel
theorem dX5_errorMany_0 : decode cX5_errorMany 0 = .ok (.iconst 0, 1) := by decide +kernel
theorem dX5_errorMany_1 : decode cX5_errorMany 1 = .ok (.istore_n 1, 1) := by decide +kernel
theorem dX5_errorMany_2 : decode cX5_errorMany 2 = .ok (.iconst 0, 1) := by decide +kernel
theorem dX5_errorMany_3 : decode cX5_errorMany 3 = .ok (.istore_n 2, 1) := by decide +kernel
theorem dX5_errorMany_4 : decode cX5_errorMany 4 = .ok (.iload_n 2, 1) := by decide +kernel
theorem dX5_errorMany_5 : decode cX5_errorMany 5 = .ok (.aload_n 0, 1) := by decide +kernel
theorem dX5_errorMany_6 : decode cX5_errorMany 6 = .ok (.getfield 83, 3) := by decide +kernel
theorem dX5_errorMany_9 : decode cX5_errorMany 9 = .ok (.if_icmp .ge 32, 3) := by decide +kernel
theorem dX5_errorMany_12 : decode cX5_errorMany 12 = .ok (.iload_n 1, 1) := by decide +kernel
theorem dX5_errorMany_13 : decode cX5_errorMany 13 = .ok (.aload_n 0, 1) := by decide +kernel
theorem dX5_errorMany_14 : decode cX5_errorMany 14 = .ok (.getfield 47, 3) := by decide +kernel
theorem dX5_errorMany_17 : decode cX5_errorMany 17 = .ok (.iload_n 2, 1) := by decide +kernel
theorem dX5_errorMany_18 : decode cX5_errorMany 18 = .ok (.iaload, 1) := by decide +kernel
theorem dX5_errorMany_19 : decode cX5_errorMany 19 = .ok (.aload_n 0, 1) := by decide +kernel
theorem dX5_errorMany_20 : decode cX5_errorMany 20 = .ok (.getfield 7, 3) := by decide +kernel
theorem dX5_errorMany_23 : decode cX5_errorMany 23 = .ok (.iload_n 2, 1) := by decide +kernel
theorem dX5_errorMany_24 : decode cX5_errorMany 24 = .ok (.iaload, 1) := by decide +kernel
theorem dX5_errorMany_25 : decode cX5_errorMany 25 = .ok (.if_icmp .eq 7, 3) := by decide +kernel
theorem dX5_errorMany_28 : decode cX5_errorMany 28 = .ok (.iconst 1, 1) := by decide +kernel
theorem dX5_errorMany_29 : decode cX5_errorMany 29 = .ok (.goto 4, 3) := by decide +kernel
theorem dX5_errorMany_32 : decode cX5_errorMany 32 = .ok (.iconst 0, 1) := by decide +kernel
theorem dX5_errorMany_33 : decode cX5_errorMany 33 = .ok (.iadd, 1) := by decide +kernel
theorem dX5_errorMany_34 : decode cX5_errorMany 34 = .ok (.istore_n 1, 1) := by decide +kernel
theorem dX5_errorMany_35 : decode cX5_errorMany 35 = .ok (.iinc 2 1, 3) := by decide +kernel
theorem dX5_errorMany_38 : decode cX5_errorMany 38 = .ok (.goto (-34), 3) := by decide +kernel
theorem dX5_errorMany_41 : decode cX5_errorMany 41 = .ok (.iload_n 1, 1) := by decide +kernel
theorem dX5_errorMany_42 : decode cX5_errorMany 42 = .ok (.ireturn, 1) := by decide +kernel
theorem dX5_errors_0 : decode cX5_errors 0 = .ok (.aload_n 0, 1) := by decide +kernel
theorem dX5_errors_1 : decode cX5_errors 1 = .ok (.getfield 76, 3) := by decide +kernel
theorem dX5_errors_4 : decode cX5_errors 4 = .ok (.ifCond .eq 10, 3) := by decide +kernel
theorem dX5_errors_7 : decode cX5_errors 7 = .ok (.aload_n 0, 1) := by decide +kernel
theorem dX5_errors_8 : decode cX5_errors 8 = .ok (.invokevirtual 165, 3) := by decide +kernel
theorem dX5_errors_11 : decode cX5_errors 11 = .ok (.goto 5, 3) := by decide +kernel
theorem dX5_errors_14 : decode cX5_errors 14 = .ok (.bipush (-3), 2) := by decide +kernel
theorem dX5_errors_16 : decode cX5_errors 16 = .ok (.ireturn, 1) := by decide +kernel
theorem dX5_keep_0 : decode cX5_keep 0 = .ok (.iconst 0, 1) := by decide +kernel
theorem dX5_keep_1 : decode cX5_keep 1 = .ok (.istore_n 2, 1) := by decide +kernel
theorem dX5_keep_2 : decode cX5_keep 2 = .ok (.iload_n 2, 1) := by decide +kernel
theorem dX5_keep_3 : decode cX5_keep 3 = .ok (.bipush 40, 2) := by decide +kernel
theorem dX5_keep_5 : decode cX5_keep 5 = .ok (.if_icmp .ge 64, 3) := by decide +kernel
theorem dX5_keep_8 : decode cX5_keep 8 = .ok (.iload_n 1, 1) := by decide +kernel
theorem dX5_keep_9 : decode cX5_keep 9 = .ok (.ifCond .eq 30, 3) := by decide +kernel
theorem dX5_keep_12 : decode cX5_keep 12 = .ok (.aload_n 0, 1) := by decide +kernel
theorem dX5_keep_13 : decode cX5_keep 13 = .ok (.getfield 44, 3) := by decide +kernel
theorem dX5_keep_16 : decode cX5_keep 16 = .ok (.iload_n 2, 1) := by decide +kernel
theorem dX5_keep_17 : decode cX5_keep 17 = .ok (.aload_n 0, 1) := by decide +kernel
theorem dX5_keep_18 : decode cX5_keep 18 = .ok (.getfield 66, 3) := by decide +kernel
theorem dX5_keep_21 : decode cX5_keep 21 = .ok (.iload_n 2, 1) := by decide +kernel
theorem dX5_keep_22 : decode cX5_keep 22 = .ok (.iaload, 1) := by decide +kernel
theorem dX5_keep_23 : decode cX5_keep 23 = .ok (.iastore, 1) := by decide +kernel
theorem dX5_keep_24 : decode cX5_keep 24 = .ok (.aload_n 0, 1) := by decide +kernel
theorem dX5_keep_25 : decode cX5_keep 25 = .ok (.getfield 47, 3) := by decide +kernel
theorem dX5_keep_28 : decode cX5_keep 28 = .ok (.iload_n 2, 1) := by decide +kernel
theorem dX5_keep_29 : decode cX5_keep 29 = .ok (.aload_n 0, 1) := by decide +kernel
theorem dX5_keep_30 : decode cX5_keep 30 = .ok (.getfield 69, 3) := by decide +kernel
theorem dX5_keep_33 : decode cX5_keep 33 = .ok (.iload_n 2, 1) := by decide +kernel
theorem dX5_keep_34 : decode cX5_keep 34 = .ok (.iaload, 1) := by decide +kernel
theorem dX5_keep_35 : decode cX5_keep 35 = .ok (.iastore, 1) := by decide +kernel
theorem dX5_keep_36 : decode cX5_keep 36 = .ok (.goto 27, 3) := by decide +kernel
theorem dX5_keep_39 : decode cX5_keep 39 = .ok (.aload_n 0, 1) := by decide +kernel
theorem dX5_keep_40 : decode cX5_keep 40 = .ok (.getfield 66, 3) := by decide +kernel
theorem dX5_keep_43 : decode cX5_keep 43 = .ok (.iload_n 2, 1) := by decide +kernel
theorem dX5_keep_44 : decode cX5_keep 44 = .ok (.aload_n 0, 1) := by decide +kernel
theorem dX5_keep_45 : decode cX5_keep 45 = .ok (.getfield 44, 3) := by decide +kernel
theorem dX5_keep_48 : decode cX5_keep 48 = .ok (.iload_n 2, 1) := by decide +kernel
theorem dX5_keep_49 : decode cX5_keep 49 = .ok (.iaload, 1) := by decide +kernel
theorem dX5_keep_50 : decode cX5_keep 50 = .ok (.iastore, 1) := by decide +kernel
theorem dX5_keep_51 : decode cX5_keep 51 = .ok (.aload_n 0, 1) := by decide +kernel
theorem dX5_keep_52 : decode cX5_keep 52 = .ok (.getfield 69, 3) := by decide +kernel
theorem dX5_keep_55 : decode cX5_keep 55 = .ok (.iload_n 2, 1) := by decide +kernel
theorem dX5_keep_56 : decode cX5_keep 56 = .ok (.aload_n 0, 1) := by decide +kernel
theorem dX5_keep_57 : decode cX5_keep 57 = .ok (.getfield 47, 3) := by decide +kernel
theorem dX5_keep_60 : decode cX5_keep 60 = .ok (.iload_n 2, 1) := by decide +kernel
theorem dX5_keep_61 : decode cX5_keep 61 = .ok (.iaload, 1) := by decide +kernel
theorem dX5_keep_62 : decode cX5_keep 62 = .ok (.iastore, 1) := by decide +kernel
theorem dX5_keep_63 : decode cX5_keep 63 = .ok (.iinc 2 1, 3) := by decide +kernel
theorem dX5_keep_66 : decode cX5_keep 66 = .ok (.goto (-64), 3) := by decide +kernel
theorem dX5_keep_69 : decode cX5_keep 69 = .ok (.return_, 1) := by decide +kernel
theorem dX5_errorsOf_0 : decode cX5_errorsOf 0 = .ok (.aload_n 0, 1) := by decide +kernel
theorem dX5_errorsOf_1 : decode cX5_errorsOf 1 = .ok (.iload_n 1, 1) := by decide +kernel
theorem dX5_errorsOf_2 : decode cX5_errorsOf 2 = .ok (.invokevirtual 132, 3) := by decide +kernel
theorem dX5_errorsOf_5 : decode cX5_errorsOf 5 = .ok (.aload_n 0, 1) := by decide +kernel
theorem dX5_errorsOf_6 : decode cX5_errorsOf 6 = .ok (.aload_n 0, 1) := by decide +kernel
theorem dX5_errorsOf_7 : decode cX5_errorsOf 7 = .ok (.getfield 56, 3) := by decide +kernel
theorem dX5_errorsOf_10 : decode cX5_errorsOf 10 = .ok (.invokevirtual 141, 3) := by decide +kernel
theorem dX5_errorsOf_13 : decode cX5_errorsOf 13 = .ok (.istore_n 2, 1) := by decide +kernel
theorem dX5_errorsOf_14 : decode cX5_errorsOf 14 = .ok (.iload_n 2, 1) := by decide +kernel
theorem dX5_errorsOf_15 : decode cX5_errorsOf 15 = .ok (.iconst (-1), 1) := by decide +kernel
theorem dX5_errorsOf_16 : decode cX5_errorsOf 16 = .ok (.if_icmp .eq 10, 3) := by decide +kernel
theorem dX5_errorsOf_19 : decode cX5_errorsOf 19 = .ok (.aload_n 0, 1) := by decide +kernel
theorem dX5_errorsOf_20 : decode cX5_errorsOf 20 = .ok (.getfield 83, 3) := by decide +kernel
theorem dX5_errorsOf_23 : decode cX5_errorsOf 23 = .ok (.ifCond .ne 8, 3) := by decide +kernel
theorem dX5_errorsOf_26 : decode cX5_errorsOf 26 = .ok (.aload_n 0, 1) := by decide +kernel
theorem dX5_errorsOf_27 : decode cX5_errorsOf 27 = .ok (.getfield 83, 3) := by decide +kernel
theorem dX5_errorsOf_30 : decode cX5_errorsOf 30 = .ok (.ireturn, 1) := by decide +kernel
theorem dX5_errorsOf_31 : decode cX5_errorsOf 31 = .ok (.iconst 0, 1) := by decide +kernel
theorem dX5_errorsOf_32 : decode cX5_errorsOf 32 = .ok (.istore_n 3, 1) := by decide +kernel
theorem dX5_errorsOf_33 : decode cX5_errorsOf 33 = .ok (.iload_n 3, 1) := by decide +kernel
theorem dX5_errorsOf_34 : decode cX5_errorsOf 34 = .ok (.iconst 4, 1) := by decide +kernel
theorem dX5_errorsOf_35 : decode cX5_errorsOf 35 = .ok (.if_icmp .ge 21, 3) := by decide +kernel
theorem dX5_errorsOf_38 : decode cX5_errorsOf 38 = .ok (.aload_n 0, 1) := by decide +kernel
theorem dX5_errorsOf_39 : decode cX5_errorsOf 39 = .ok (.getfield 63, 3) := by decide +kernel
theorem dX5_errorsOf_42 : decode cX5_errorsOf 42 = .ok (.iload_n 3, 1) := by decide +kernel
theorem dX5_errorsOf_43 : decode cX5_errorsOf 43 = .ok (.aload_n 0, 1) := by decide +kernel
theorem dX5_errorsOf_44 : decode cX5_errorsOf 44 = .ok (.getfield 29, 3) := by decide +kernel
theorem dX5_errorsOf_47 : decode cX5_errorsOf 47 = .ok (.iload_n 3, 1) := by decide +kernel
theorem dX5_errorsOf_48 : decode cX5_errorsOf 48 = .ok (.iaload, 1) := by decide +kernel
theorem dX5_errorsOf_49 : decode cX5_errorsOf 49 = .ok (.iastore, 1) := by decide +kernel
theorem dX5_errorsOf_50 : decode cX5_errorsOf 50 = .ok (.iinc 3 1, 3) := by decide +kernel
theorem dX5_errorsOf_53 : decode cX5_errorsOf 53 = .ok (.goto (-20), 3) := by decide +kernel
theorem dX5_errorsOf_56 : decode cX5_errorsOf 56 = .ok (.aload_n 0, 1) := by decide +kernel
theorem dX5_errorsOf_57 : decode cX5_errorsOf 57 = .ok (.aload_n 0, 1) := by decide +kernel
theorem dX5_errorsOf_58 : decode cX5_errorsOf 58 = .ok (.getfield 56, 3) := by decide +kernel
theorem dX5_errorsOf_61 : decode cX5_errorsOf 61 = .ok (.iload_n 2, 1) := by decide +kernel
theorem dX5_errorsOf_62 : decode cX5_errorsOf 62 = .ok (.invokevirtual 161, 3) := by decide +kernel
theorem dX5_errorsOf_65 : decode cX5_errorsOf 65 = .ok (.lstore_n 3, 1) := by decide +kernel
theorem dX5_errorsOf_66 : decode cX5_errorsOf 66 = .ok (.lload_n 3, 1) := by decide +kernel
theorem dX5_errorsOf_67 : decode cX5_errorsOf 67 = .ok (.lconst 0, 1) := by decide +kernel
theorem dX5_errorsOf_68 : decode cX5_errorsOf 68 = .ok (.lcmp, 1) := by decide +kernel
theorem dX5_errorsOf_69 : decode cX5_errorsOf 69 = .ok (.ifCond .ge 10, 3) := by decide +kernel
theorem dX5_errorsOf_72 : decode cX5_errorsOf 72 = .ok (.aload_n 0, 1) := by decide +kernel
theorem dX5_errorsOf_73 : decode cX5_errorsOf 73 = .ok (.getfield 83, 3) := by decide +kernel
theorem dX5_errorsOf_76 : decode cX5_errorsOf 76 = .ok (.goto 7, 3) := by decide +kernel
theorem dX5_errorsOf_79 : decode cX5_errorsOf 79 = .ok (.aload_n 0, 1) := by decide +kernel
theorem dX5_errorsOf_80 : decode cX5_errorsOf 80 = .ok (.invokevirtual 165, 3) := by decide +kernel
theorem dX5_errorsOf_83 : decode cX5_errorsOf 83 = .ok (.ireturn, 1) := by decide +kernel
theorem dX5_sweep_0 : decode cX5_sweep 0 = .ok (.iload_n 1, 1) := by decide +kernel
theorem dX5_sweep_1 : decode cX5_sweep 1 = .ok (.iconst 1, 1) := by decide +kernel
theorem dX5_sweep_2 : decode cX5_sweep 2 = .ok (.bipush 20, 2) := by decide +kernel
theorem dX5_sweep_4 : decode cX5_sweep 4 = .ok (.invokestatic 79, 3) := by decide +kernel
theorem dX5_sweep_7 : decode cX5_sweep 7 = .ok (.ifCond .ne 6, 3) := by decide +kernel
theorem dX5_sweep_10 : decode cX5_sweep 10 = .ok (.bipush (-2), 2) := by decide +kernel
theorem dX5_sweep_12 : decode cX5_sweep 12 = .ok (.ireturn, 1) := by decide +kernel
theorem dX5_sweep_13 : decode cX5_sweep 13 = .ok (.aload_n 0, 1) := by decide +kernel
theorem dX5_sweep_14 : decode cX5_sweep 14 = .ok (.iconst 0, 1) := by decide +kernel
theorem dX5_sweep_15 : decode cX5_sweep 15 = .ok (.invokevirtual 168, 3) := by decide +kernel
theorem dX5_sweep_18 : decode cX5_sweep 18 = .ok (.iconst 0, 1) := by decide +kernel
theorem dX5_sweep_19 : decode cX5_sweep 19 = .ok (.istore_n 2, 1) := by decide +kernel
theorem dX5_sweep_20 : decode cX5_sweep 20 = .ok (.iconst 0, 1) := by decide +kernel
theorem dX5_sweep_21 : decode cX5_sweep 21 = .ok (.istore_n 3, 1) := by decide +kernel
theorem dX5_sweep_22 : decode cX5_sweep 22 = .ok (.iload_n 3, 1) := by decide +kernel
theorem dX5_sweep_23 : decode cX5_sweep 23 = .ok (.iload_n 1, 1) := by decide +kernel
theorem dX5_sweep_24 : decode cX5_sweep 24 = .ok (.if_icmp .ge 22, 3) := by decide +kernel
theorem dX5_sweep_27 : decode cX5_sweep 27 = .ok (.iload_n 2, 1) := by decide +kernel
theorem dX5_sweep_28 : decode cX5_sweep 28 = .ok (.aload_n 0, 1) := by decide +kernel
theorem dX5_sweep_29 : decode cX5_sweep 29 = .ok (.aload_n 0, 1) := by decide +kernel
theorem dX5_sweep_30 : decode cX5_sweep 30 = .ok (.getfield 32, 3) := by decide +kernel
theorem dX5_sweep_33 : decode cX5_sweep 33 = .ok (.iload_n 3, 1) := by decide +kernel
theorem dX5_sweep_34 : decode cX5_sweep 34 = .ok (.iadd, 1) := by decide +kernel
theorem dX5_sweep_35 : decode cX5_sweep 35 = .ok (.invokevirtual 172, 3) := by decide +kernel
theorem dX5_sweep_38 : decode cX5_sweep 38 = .ok (.iadd, 1) := by decide +kernel
theorem dX5_sweep_39 : decode cX5_sweep 39 = .ok (.istore_n 2, 1) := by decide +kernel
theorem dX5_sweep_40 : decode cX5_sweep 40 = .ok (.iinc 3 1, 3) := by decide +kernel
theorem dX5_sweep_43 : decode cX5_sweep 43 = .ok (.goto (-21), 3) := by decide +kernel
theorem dX5_sweep_46 : decode cX5_sweep 46 = .ok (.aload_n 0, 1) := by decide +kernel
theorem dX5_sweep_47 : decode cX5_sweep 47 = .ok (.iconst 1, 1) := by decide +kernel
theorem dX5_sweep_48 : decode cX5_sweep 48 = .ok (.invokevirtual 168, 3) := by decide +kernel
theorem dX5_sweep_51 : decode cX5_sweep 51 = .ok (.iload_n 2, 1) := by decide +kernel
theorem dX5_sweep_52 : decode cX5_sweep 52 = .ok (.ireturn, 1) := by decide +kernel
theorem dX5_whole_0 : decode cX5_whole 0 = .ok (.iload_n 1, 1) := by decide +kernel
theorem dX5_whole_1 : decode cX5_whole 1 = .ok (.iconst 1, 1) := by decide +kernel
theorem dX5_whole_2 : decode cX5_whole 2 = .ok (.bipush 20, 2) := by decide +kernel
theorem dX5_whole_4 : decode cX5_whole 4 = .ok (.invokestatic 79, 3) := by decide +kernel
theorem dX5_whole_7 : decode cX5_whole 7 = .ok (.ifCond .ne 6, 3) := by decide +kernel
theorem dX5_whole_10 : decode cX5_whole 10 = .ok (.bipush (-2), 2) := by decide +kernel
theorem dX5_whole_12 : decode cX5_whole 12 = .ok (.ireturn, 1) := by decide +kernel
theorem dX5_whole_13 : decode cX5_whole 13 = .ok (.aload_n 0, 1) := by decide +kernel
theorem dX5_whole_14 : decode cX5_whole 14 = .ok (.iconst 0, 1) := by decide +kernel
theorem dX5_whole_15 : decode cX5_whole 15 = .ok (.invokevirtual 168, 3) := by decide +kernel
theorem dX5_whole_18 : decode cX5_whole 18 = .ok (.iconst (-1), 1) := by decide +kernel
theorem dX5_whole_19 : decode cX5_whole 19 = .ok (.istore_n 2, 1) := by decide +kernel
theorem dX5_whole_20 : decode cX5_whole 20 = .ok (.iconst 0, 1) := by decide +kernel
theorem dX5_whole_21 : decode cX5_whole 21 = .ok (.istore_n 3, 1) := by decide +kernel
theorem dX5_whole_22 : decode cX5_whole 22 = .ok (.iload_n 3, 1) := by decide +kernel
theorem dX5_whole_23 : decode cX5_whole 23 = .ok (.iload_n 1, 1) := by decide +kernel
theorem dX5_whole_24 : decode cX5_whole 24 = .ok (.if_icmp .ge 35, 3) := by decide +kernel
theorem dX5_whole_27 : decode cX5_whole 27 = .ok (.iload_n 2, 1) := by decide +kernel
theorem dX5_whole_28 : decode cX5_whole 28 = .ok (.iconst (-1), 1) := by decide +kernel
theorem dX5_whole_29 : decode cX5_whole 29 = .ok (.if_icmp .ne 30, 3) := by decide +kernel
theorem dX5_whole_32 : decode cX5_whole 32 = .ok (.aload_n 0, 1) := by decide +kernel
theorem dX5_whole_33 : decode cX5_whole 33 = .ok (.aload_n 0, 1) := by decide +kernel
theorem dX5_whole_34 : decode cX5_whole 34 = .ok (.getfield 32, 3) := by decide +kernel
theorem dX5_whole_37 : decode cX5_whole 37 = .ok (.iload_n 3, 1) := by decide +kernel
theorem dX5_whole_38 : decode cX5_whole 38 = .ok (.iadd, 1) := by decide +kernel
theorem dX5_whole_39 : decode cX5_whole 39 = .ok (.invokevirtual 172, 3) := by decide +kernel
theorem dX5_whole_42 : decode cX5_whole 42 = .ok (.ifCond .ne 9, 3) := by decide +kernel
theorem dX5_whole_45 : decode cX5_whole 45 = .ok (.iload_n 3, 1) := by decide +kernel
theorem dX5_whole_46 : decode cX5_whole 46 = .ok (.iconst 1, 1) := by decide +kernel
theorem dX5_whole_47 : decode cX5_whole 47 = .ok (.iadd, 1) := by decide +kernel
theorem dX5_whole_48 : decode cX5_whole 48 = .ok (.goto 4, 3) := by decide +kernel
theorem dX5_whole_51 : decode cX5_whole 51 = .ok (.iconst (-1), 1) := by decide +kernel
theorem dX5_whole_52 : decode cX5_whole 52 = .ok (.istore_n 2, 1) := by decide +kernel
theorem dX5_whole_53 : decode cX5_whole 53 = .ok (.iinc 3 1, 3) := by decide +kernel
theorem dX5_whole_56 : decode cX5_whole 56 = .ok (.goto (-34), 3) := by decide +kernel
theorem dX5_whole_59 : decode cX5_whole 59 = .ok (.aload_n 0, 1) := by decide +kernel
theorem dX5_whole_60 : decode cX5_whole 60 = .ok (.iconst 1, 1) := by decide +kernel
theorem dX5_whole_61 : decode cX5_whole 61 = .ok (.invokevirtual 168, 3) := by decide +kernel
theorem dX5_whole_64 : decode cX5_whole 64 = .ok (.iload_n 2, 1) := by decide +kernel
theorem dX5_whole_65 : decode cX5_whole 65 = .ok (.ireturn, 1) := by decide +kernel
theorem dX5_count_0 : decode cX5_count 0 = .ok (.iload_n 1, 1) := by decide +kernel
theorem dX5_count_1 : decode cX5_count 1 = .ok (.tableswitch 79 0 4 #[35, 40, 45, 61, 66], 35) := by decide +kernel
theorem dX5_count_36 : decode cX5_count 36 = .ok (.aload_n 0, 1) := by decide +kernel
theorem dX5_count_37 : decode cX5_count 37 = .ok (.getfield 83, 3) := by decide +kernel
theorem dX5_count_40 : decode cX5_count 40 = .ok (.ireturn, 1) := by decide +kernel
theorem dX5_count_41 : decode cX5_count 41 = .ok (.aload_n 0, 1) := by decide +kernel
theorem dX5_count_42 : decode cX5_count 42 = .ok (.invokevirtual 119, 3) := by decide +kernel
theorem dX5_count_45 : decode cX5_count 45 = .ok (.ireturn, 1) := by decide +kernel
theorem dX5_count_46 : decode cX5_count 46 = .ok (.aload_n 0, 1) := by decide +kernel
theorem dX5_count_47 : decode cX5_count 47 = .ok (.getfield 72, 3) := by decide +kernel
theorem dX5_count_50 : decode cX5_count 50 = .ok (.ifCond .eq 10, 3) := by decide +kernel
theorem dX5_count_53 : decode cX5_count 53 = .ok (.aload_n 0, 1) := by decide +kernel
theorem dX5_count_54 : decode cX5_count 54 = .ok (.invokevirtual 126, 3) := by decide +kernel
theorem dX5_count_57 : decode cX5_count 57 = .ok (.goto 4, 3) := by decide +kernel
theorem dX5_count_60 : decode cX5_count 60 = .ok (.iconst (-1), 1) := by decide +kernel
theorem dX5_count_61 : decode cX5_count 61 = .ok (.ireturn, 1) := by decide +kernel
theorem dX5_count_62 : decode cX5_count 62 = .ok (.aload_n 0, 1) := by decide +kernel
theorem dX5_count_63 : decode cX5_count 63 = .ok (.getfield 38, 3) := by decide +kernel
theorem dX5_count_66 : decode cX5_count 66 = .ok (.ireturn, 1) := by decide +kernel
theorem dX5_count_67 : decode cX5_count 67 = .ok (.aload_n 0, 1) := by decide +kernel
theorem dX5_count_68 : decode cX5_count 68 = .ok (.getfield 76, 3) := by decide +kernel
theorem dX5_count_71 : decode cX5_count 71 = .ok (.ifCond .eq 7, 3) := by decide +kernel
theorem dX5_count_74 : decode cX5_count 74 = .ok (.iconst 1, 1) := by decide +kernel
theorem dX5_count_75 : decode cX5_count 75 = .ok (.goto 4, 3) := by decide +kernel
theorem dX5_count_78 : decode cX5_count 78 = .ok (.iconst 0, 1) := by decide +kernel
theorem dX5_count_79 : decode cX5_count 79 = .ok (.ireturn, 1) := by decide +kernel
theorem dX5_count_80 : decode cX5_count 80 = .ok (.bipush (-2), 2) := by decide +kernel
theorem dX5_count_82 : decode cX5_count 82 = .ok (.ireturn, 1) := by decide +kernel
end
section
theorem dL_law_0 : decode cL_law 0 = .ok (.new 7, 3) := by decide +kernel
theorem dL_law_3 : decode cL_law 3 = .ok (.dup, 1) := by decide +kernel
theorem dL_law_4 : decode cL_law 4 = .ok (.invokespecial 9, 3) := by decide +kernel
theorem dL_law_7 : decode cL_law 7 = .ok (.astore_n 1, 1) := by decide +kernel
theorem dL_law_8 : decode cL_law 8 = .ok (.new 10, 3) := by decide +kernel
theorem dL_law_11 : decode cL_law 11 = .ok (.dup, 1) := by decide +kernel
theorem dL_law_12 : decode cL_law 12 = .ok (.invokespecial 12, 3) := by decide +kernel
theorem dL_law_15 : decode cL_law 15 = .ok (.astore_n 2, 1) := by decide +kernel
theorem dL_law_16 : decode cL_law 16 = .ok (.iconst 0, 1) := by decide +kernel
theorem dL_law_17 : decode cL_law 17 = .ok (.istore_n 3, 1) := by decide +kernel
theorem dL_law_18 : decode cL_law 18 = .ok (.iload_n 3, 1) := by decide +kernel
theorem dL_law_19 : decode cL_law 19 = .ok (.aload_n 0, 1) := by decide +kernel
theorem dL_law_20 : decode cL_law 20 = .ok (.arraylength, 1) := by decide +kernel
theorem dL_law_21 : decode cL_law 21 = .ok (.iconst 5, 1) := by decide +kernel
theorem dL_law_22 : decode cL_law 22 = .ok (.isub, 1) := by decide +kernel
theorem dL_law_23 : decode cL_law 23 = .ok (.if_icmp .gt 773, 3) := by decide +kernel
theorem dL_law_26 : decode cL_law 26 = .ok (.aload_n 0, 1) := by decide +kernel
theorem dL_law_27 : decode cL_law 27 = .ok (.iload_n 3, 1) := by decide +kernel
theorem dL_law_28 : decode cL_law 28 = .ok (.iaload, 1) := by decide +kernel
theorem dL_law_29 : decode cL_law 29 = .ok (.bipush 31, 2) := by decide +kernel
theorem dL_law_31 : decode cL_law 31 = .ok (.iand, 1) := by decide +kernel
theorem dL_law_32 : decode cL_law 32 = .ok (.tableswitch 758 0 22 #[108, 171, 184, 207, 230, 263, 286, 319, 372, 415, 448, 471, 494, 507, 530, 553, 566, 589, 643, 676, 689, 712, 735], 108) := by decide +kernel
theorem dL_law_140 : decode cL_law 140 = .ok (.aload_n 1, 1) := by decide +kernel
theorem dL_law_141 : decode cL_law 141 = .ok (.aload_n 0, 1) := by decide +kernel
theorem dL_law_142 : decode cL_law 142 = .ok (.iload_n 3, 1) := by decide +kernel
theorem dL_law_143 : decode cL_law 143 = .ok (.iconst 1, 1) := by decide +kernel
theorem dL_law_144 : decode cL_law 144 = .ok (.iadd, 1) := by decide +kernel
theorem dL_law_145 : decode cL_law 145 = .ok (.iaload, 1) := by decide +kernel
theorem dL_law_146 : decode cL_law 146 = .ok (.i2l, 1) := by decide +kernel
theorem dL_law_147 : decode cL_law 147 = .ok (.bipush 32, 2) := by decide +kernel
theorem dL_law_149 : decode cL_law 149 = .ok (.lshl, 1) := by decide +kernel
theorem dL_law_150 : decode cL_law 150 = .ok (.aload_n 0, 1) := by decide +kernel
theorem dL_law_151 : decode cL_law 151 = .ok (.iload_n 3, 1) := by decide +kernel
theorem dL_law_152 : decode cL_law 152 = .ok (.iconst 2, 1) := by decide +kernel
theorem dL_law_153 : decode cL_law 153 = .ok (.iadd, 1) := by decide +kernel
theorem dL_law_154 : decode cL_law 154 = .ok (.iaload, 1) := by decide +kernel
theorem dL_law_155 : decode cL_law 155 = .ok (.i2l, 1) := by decide +kernel
theorem dL_law_156 : decode cL_law 156 = .ok (.ldc2_w 13, 3) := by decide +kernel
theorem dL_law_159 : decode cL_law 159 = .ok (.land, 1) := by decide +kernel
theorem dL_law_160 : decode cL_law 160 = .ok (.lor, 1) := by decide +kernel
theorem dL_law_161 : decode cL_law 161 = .ok (.aload_n 0, 1) := by decide +kernel
theorem dL_law_162 : decode cL_law 162 = .ok (.iload_n 3, 1) := by decide +kernel
theorem dL_law_163 : decode cL_law 163 = .ok (.iconst 3, 1) := by decide +kernel
theorem dL_law_164 : decode cL_law 164 = .ok (.iadd, 1) := by decide +kernel
theorem dL_law_165 : decode cL_law 165 = .ok (.iaload, 1) := by decide +kernel
theorem dL_law_166 : decode cL_law 166 = .ok (.invokevirtual 15, 3) := by decide +kernel
theorem dL_law_169 : decode cL_law 169 = .ok (.aload_n 2, 1) := by decide +kernel
theorem dL_law_170 : decode cL_law 170 = .ok (.aload_n 0, 1) := by decide +kernel
theorem dL_law_171 : decode cL_law 171 = .ok (.iload_n 3, 1) := by decide +kernel
theorem dL_law_172 : decode cL_law 172 = .ok (.iconst 1, 1) := by decide +kernel
theorem dL_law_173 : decode cL_law 173 = .ok (.iadd, 1) := by decide +kernel
theorem dL_law_174 : decode cL_law 174 = .ok (.iaload, 1) := by decide +kernel
theorem dL_law_175 : decode cL_law 175 = .ok (.i2l, 1) := by decide +kernel
theorem dL_law_176 : decode cL_law 176 = .ok (.bipush 32, 2) := by decide +kernel
theorem dL_law_178 : decode cL_law 178 = .ok (.lshl, 1) := by decide +kernel
theorem dL_law_179 : decode cL_law 179 = .ok (.aload_n 0, 1) := by decide +kernel
theorem dL_law_180 : decode cL_law 180 = .ok (.iload_n 3, 1) := by decide +kernel
theorem dL_law_181 : decode cL_law 181 = .ok (.iconst 2, 1) := by decide +kernel
theorem dL_law_182 : decode cL_law 182 = .ok (.iadd, 1) := by decide +kernel
theorem dL_law_183 : decode cL_law 183 = .ok (.iaload, 1) := by decide +kernel
theorem dL_law_184 : decode cL_law 184 = .ok (.i2l, 1) := by decide +kernel
theorem dL_law_185 : decode cL_law 185 = .ok (.ldc2_w 13, 3) := by decide +kernel
theorem dL_law_188 : decode cL_law 188 = .ok (.land, 1) := by decide +kernel
theorem dL_law_189 : decode cL_law 189 = .ok (.lor, 1) := by decide +kernel
theorem dL_law_190 : decode cL_law 190 = .ok (.aload_n 0, 1) := by decide +kernel
theorem dL_law_191 : decode cL_law 191 = .ok (.iload_n 3, 1) := by decide +kernel
theorem dL_law_192 : decode cL_law 192 = .ok (.iconst 3, 1) := by decide +kernel
theorem dL_law_193 : decode cL_law 193 = .ok (.iadd, 1) := by decide +kernel
theorem dL_law_194 : decode cL_law 194 = .ok (.iaload, 1) := by decide +kernel
theorem dL_law_195 : decode cL_law 195 = .ok (.invokevirtual 19, 3) := by decide +kernel
theorem dL_law_198 : decode cL_law 198 = .ok (.if_icmp .eq 592, 3) := by decide +kernel
theorem dL_law_201 : decode cL_law 201 = .ok (.iconst 0, 1) := by decide +kernel
theorem dL_law_202 : decode cL_law 202 = .ok (.ireturn, 1) := by decide +kernel
theorem dL_law_203 : decode cL_law 203 = .ok (.aload_n 1, 1) := by decide +kernel
theorem dL_law_204 : decode cL_law 204 = .ok (.invokevirtual 20, 3) := by decide +kernel
theorem dL_law_207 : decode cL_law 207 = .ok (.aload_n 2, 1) := by decide +kernel
theorem dL_law_208 : decode cL_law 208 = .ok (.invokevirtual 24, 3) := by decide +kernel
theorem dL_law_211 : decode cL_law 211 = .ok (.if_icmp .eq 579, 3) := by decide +kernel
theorem dL_law_214 : decode cL_law 214 = .ok (.iconst 0, 1) := by decide +kernel
theorem dL_law_215 : decode cL_law 215 = .ok (.ireturn, 1) := by decide +kernel
theorem dL_law_216 : decode cL_law 216 = .ok (.aload_n 1, 1) := by decide +kernel
theorem dL_law_217 : decode cL_law 217 = .ok (.aload_n 0, 1) := by decide +kernel
theorem dL_law_218 : decode cL_law 218 = .ok (.iload_n 3, 1) := by decide +kernel
theorem dL_law_219 : decode cL_law 219 = .ok (.iconst 1, 1) := by decide +kernel
theorem dL_law_220 : decode cL_law 220 = .ok (.iadd, 1) := by decide +kernel
theorem dL_law_221 : decode cL_law 221 = .ok (.iaload, 1) := by decide +kernel
theorem dL_law_222 : decode cL_law 222 = .ok (.invokevirtual 25, 3) := by decide +kernel
theorem dL_law_225 : decode cL_law 225 = .ok (.aload_n 2, 1) := by decide +kernel
theorem dL_law_226 : decode cL_law 226 = .ok (.aload_n 0, 1) := by decide +kernel
theorem dL_law_227 : decode cL_law 227 = .ok (.iload_n 3, 1) := by decide +kernel
theorem dL_law_228 : decode cL_law 228 = .ok (.iconst 1, 1) := by decide +kernel
theorem dL_law_229 : decode cL_law 229 = .ok (.iadd, 1) := by decide +kernel
theorem dL_law_230 : decode cL_law 230 = .ok (.iaload, 1) := by decide +kernel
theorem dL_law_231 : decode cL_law 231 = .ok (.invokevirtual 29, 3) := by decide +kernel
theorem dL_law_234 : decode cL_law 234 = .ok (.if_icmp .eq 556, 3) := by decide +kernel
theorem dL_law_237 : decode cL_law 237 = .ok (.iconst 0, 1) := by decide +kernel
theorem dL_law_238 : decode cL_law 238 = .ok (.ireturn, 1) := by decide +kernel
theorem dL_law_239 : decode cL_law 239 = .ok (.aload_n 1, 1) := by decide +kernel
theorem dL_law_240 : decode cL_law 240 = .ok (.aload_n 0, 1) := by decide +kernel
theorem dL_law_241 : decode cL_law 241 = .ok (.iload_n 3, 1) := by decide +kernel
theorem dL_law_242 : decode cL_law 242 = .ok (.iconst 1, 1) := by decide +kernel
theorem dL_law_243 : decode cL_law 243 = .ok (.iadd, 1) := by decide +kernel
theorem dL_law_244 : decode cL_law 244 = .ok (.iaload, 1) := by decide +kernel
theorem dL_law_245 : decode cL_law 245 = .ok (.invokevirtual 30, 3) := by decide +kernel
theorem dL_law_248 : decode cL_law 248 = .ok (.aload_n 2, 1) := by decide +kernel
theorem dL_law_249 : decode cL_law 249 = .ok (.aload_n 0, 1) := by decide +kernel
theorem dL_law_250 : decode cL_law 250 = .ok (.iload_n 3, 1) := by decide +kernel
theorem dL_law_251 : decode cL_law 251 = .ok (.iconst 1, 1) := by decide +kernel
theorem dL_law_252 : decode cL_law 252 = .ok (.iadd, 1) := by decide +kernel
theorem dL_law_253 : decode cL_law 253 = .ok (.iaload, 1) := by decide +kernel
theorem dL_law_254 : decode cL_law 254 = .ok (.invokevirtual 33, 3) := by decide +kernel
theorem dL_law_257 : decode cL_law 257 = .ok (.if_icmp .eq 533, 3) := by decide +kernel
theorem dL_law_260 : decode cL_law 260 = .ok (.iconst 0, 1) := by decide +kernel
theorem dL_law_261 : decode cL_law 261 = .ok (.ireturn, 1) := by decide +kernel
theorem dL_law_262 : decode cL_law 262 = .ok (.aload_n 1, 1) := by decide +kernel
theorem dL_law_263 : decode cL_law 263 = .ok (.aload_n 0, 1) := by decide +kernel
theorem dL_law_264 : decode cL_law 264 = .ok (.iload_n 3, 1) := by decide +kernel
theorem dL_law_265 : decode cL_law 265 = .ok (.iconst 1, 1) := by decide +kernel
theorem dL_law_266 : decode cL_law 266 = .ok (.iadd, 1) := by decide +kernel
theorem dL_law_267 : decode cL_law 267 = .ok (.iaload, 1) := by decide +kernel
theorem dL_law_268 : decode cL_law 268 = .ok (.aload_n 0, 1) := by decide +kernel
theorem dL_law_269 : decode cL_law 269 = .ok (.iload_n 3, 1) := by decide +kernel
theorem dL_law_270 : decode cL_law 270 = .ok (.iconst 2, 1) := by decide +kernel
theorem dL_law_271 : decode cL_law 271 = .ok (.iadd, 1) := by decide +kernel
theorem dL_law_272 : decode cL_law 272 = .ok (.iaload, 1) := by decide +kernel
theorem dL_law_273 : decode cL_law 273 = .ok (.invokevirtual 34, 3) := by decide +kernel
theorem dL_law_276 : decode cL_law 276 = .ok (.aload_n 2, 1) := by decide +kernel
theorem dL_law_277 : decode cL_law 277 = .ok (.aload_n 0, 1) := by decide +kernel
theorem dL_law_278 : decode cL_law 278 = .ok (.iload_n 3, 1) := by decide +kernel
theorem dL_law_279 : decode cL_law 279 = .ok (.iconst 1, 1) := by decide +kernel
theorem dL_law_280 : decode cL_law 280 = .ok (.iadd, 1) := by decide +kernel
theorem dL_law_281 : decode cL_law 281 = .ok (.iaload, 1) := by decide +kernel
theorem dL_law_282 : decode cL_law 282 = .ok (.aload_n 0, 1) := by decide +kernel
theorem dL_law_283 : decode cL_law 283 = .ok (.iload_n 3, 1) := by decide +kernel
theorem dL_law_284 : decode cL_law 284 = .ok (.iconst 2, 1) := by decide +kernel
theorem dL_law_285 : decode cL_law 285 = .ok (.iadd, 1) := by decide +kernel
theorem dL_law_286 : decode cL_law 286 = .ok (.iaload, 1) := by decide +kernel
theorem dL_law_287 : decode cL_law 287 = .ok (.invokevirtual 38, 3) := by decide +kernel
theorem dL_law_290 : decode cL_law 290 = .ok (.if_icmp .eq 500, 3) := by decide +kernel
theorem dL_law_293 : decode cL_law 293 = .ok (.iconst 0, 1) := by decide +kernel
end
section
theorem dL_law_294 : decode cL_law 294 = .ok (.ireturn, 1) := by decide +kernel
theorem dL_law_295 : decode cL_law 295 = .ok (.aload_n 1, 1) := by decide +kernel
theorem dL_law_296 : decode cL_law 296 = .ok (.aload_n 0, 1) := by decide +kernel
theorem dL_law_297 : decode cL_law 297 = .ok (.iload_n 3, 1) := by decide +kernel
theorem dL_law_298 : decode cL_law 298 = .ok (.iconst 1, 1) := by decide +kernel
theorem dL_law_299 : decode cL_law 299 = .ok (.iadd, 1) := by decide +kernel
theorem dL_law_300 : decode cL_law 300 = .ok (.iaload, 1) := by decide +kernel
theorem dL_law_301 : decode cL_law 301 = .ok (.invokevirtual 39, 3) := by decide +kernel
theorem dL_law_304 : decode cL_law 304 = .ok (.aload_n 2, 1) := by decide +kernel
theorem dL_law_305 : decode cL_law 305 = .ok (.aload_n 0, 1) := by decide +kernel
theorem dL_law_306 : decode cL_law 306 = .ok (.iload_n 3, 1) := by decide +kernel
theorem dL_law_307 : decode cL_law 307 = .ok (.iconst 1, 1) := by decide +kernel
theorem dL_law_308 : decode cL_law 308 = .ok (.iadd, 1) := by decide +kernel
theorem dL_law_309 : decode cL_law 309 = .ok (.iaload, 1) := by decide +kernel
theorem dL_law_310 : decode cL_law 310 = .ok (.invokevirtual 42, 3) := by decide +kernel
theorem dL_law_313 : decode cL_law 313 = .ok (.if_icmp .eq 477, 3) := by decide +kernel
theorem dL_law_316 : decode cL_law 316 = .ok (.iconst 0, 1) := by decide +kernel
theorem dL_law_317 : decode cL_law 317 = .ok (.ireturn, 1) := by decide +kernel
theorem dL_law_318 : decode cL_law 318 = .ok (.aload_n 1, 1) := by decide +kernel
theorem dL_law_319 : decode cL_law 319 = .ok (.aload_n 0, 1) := by decide +kernel
theorem dL_law_320 : decode cL_law 320 = .ok (.iload_n 3, 1) := by decide +kernel
theorem dL_law_321 : decode cL_law 321 = .ok (.iconst 1, 1) := by decide +kernel
theorem dL_law_322 : decode cL_law 322 = .ok (.iadd, 1) := by decide +kernel
theorem dL_law_323 : decode cL_law 323 = .ok (.iaload, 1) := by decide +kernel
theorem dL_law_324 : decode cL_law 324 = .ok (.aload_n 0, 1) := by decide +kernel
theorem dL_law_325 : decode cL_law 325 = .ok (.iload_n 3, 1) := by decide +kernel
theorem dL_law_326 : decode cL_law 326 = .ok (.iconst 2, 1) := by decide +kernel
theorem dL_law_327 : decode cL_law 327 = .ok (.iadd, 1) := by decide +kernel
theorem dL_law_328 : decode cL_law 328 = .ok (.iaload, 1) := by decide +kernel
theorem dL_law_329 : decode cL_law 329 = .ok (.invokevirtual 43, 3) := by decide +kernel
theorem dL_law_332 : decode cL_law 332 = .ok (.aload_n 2, 1) := by decide +kernel
theorem dL_law_333 : decode cL_law 333 = .ok (.aload_n 0, 1) := by decide +kernel
theorem dL_law_334 : decode cL_law 334 = .ok (.iload_n 3, 1) := by decide +kernel
theorem dL_law_335 : decode cL_law 335 = .ok (.iconst 1, 1) := by decide +kernel
theorem dL_law_336 : decode cL_law 336 = .ok (.iadd, 1) := by decide +kernel
theorem dL_law_337 : decode cL_law 337 = .ok (.iaload, 1) := by decide +kernel
theorem dL_law_338 : decode cL_law 338 = .ok (.aload_n 0, 1) := by decide +kernel
theorem dL_law_339 : decode cL_law 339 = .ok (.iload_n 3, 1) := by decide +kernel
theorem dL_law_340 : decode cL_law 340 = .ok (.iconst 2, 1) := by decide +kernel
theorem dL_law_341 : decode cL_law 341 = .ok (.iadd, 1) := by decide +kernel
theorem dL_law_342 : decode cL_law 342 = .ok (.iaload, 1) := by decide +kernel
theorem dL_law_343 : decode cL_law 343 = .ok (.invokevirtual 46, 3) := by decide +kernel
theorem dL_law_346 : decode cL_law 346 = .ok (.if_icmp .eq 444, 3) := by decide +kernel
theorem dL_law_349 : decode cL_law 349 = .ok (.iconst 0, 1) := by decide +kernel
theorem dL_law_350 : decode cL_law 350 = .ok (.ireturn, 1) := by decide +kernel
theorem dL_law_351 : decode cL_law 351 = .ok (.aload_n 1, 1) := by decide +kernel
theorem dL_law_352 : decode cL_law 352 = .ok (.aload_n 0, 1) := by decide +kernel
theorem dL_law_353 : decode cL_law 353 = .ok (.iload_n 3, 1) := by decide +kernel
theorem dL_law_354 : decode cL_law 354 = .ok (.iconst 1, 1) := by decide +kernel
theorem dL_law_355 : decode cL_law 355 = .ok (.iadd, 1) := by decide +kernel
theorem dL_law_356 : decode cL_law 356 = .ok (.iaload, 1) := by decide +kernel
theorem dL_law_357 : decode cL_law 357 = .ok (.aload_n 0, 1) := by decide +kernel
theorem dL_law_358 : decode cL_law 358 = .ok (.iload_n 3, 1) := by decide +kernel
theorem dL_law_359 : decode cL_law 359 = .ok (.iconst 2, 1) := by decide +kernel
theorem dL_law_360 : decode cL_law 360 = .ok (.iadd, 1) := by decide +kernel
theorem dL_law_361 : decode cL_law 361 = .ok (.iaload, 1) := by decide +kernel
theorem dL_law_362 : decode cL_law 362 = .ok (.aload_n 0, 1) := by decide +kernel
theorem dL_law_363 : decode cL_law 363 = .ok (.iload_n 3, 1) := by decide +kernel
theorem dL_law_364 : decode cL_law 364 = .ok (.iconst 3, 1) := by decide +kernel
theorem dL_law_365 : decode cL_law 365 = .ok (.iadd, 1) := by decide +kernel
theorem dL_law_366 : decode cL_law 366 = .ok (.iaload, 1) := by decide +kernel
theorem dL_law_367 : decode cL_law 367 = .ok (.aload_n 0, 1) := by decide +kernel
theorem dL_law_368 : decode cL_law 368 = .ok (.iload_n 3, 1) := by decide +kernel
theorem dL_law_369 : decode cL_law 369 = .ok (.iconst 4, 1) := by decide +kernel
theorem dL_law_370 : decode cL_law 370 = .ok (.iadd, 1) := by decide +kernel
theorem dL_law_371 : decode cL_law 371 = .ok (.iaload, 1) := by decide +kernel
theorem dL_law_372 : decode cL_law 372 = .ok (.invokevirtual 47, 3) := by decide +kernel
theorem dL_law_375 : decode cL_law 375 = .ok (.aload_n 2, 1) := by decide +kernel
theorem dL_law_376 : decode cL_law 376 = .ok (.aload_n 0, 1) := by decide +kernel
theorem dL_law_377 : decode cL_law 377 = .ok (.iload_n 3, 1) := by decide +kernel
theorem dL_law_378 : decode cL_law 378 = .ok (.iconst 1, 1) := by decide +kernel
theorem dL_law_379 : decode cL_law 379 = .ok (.iadd, 1) := by decide +kernel
theorem dL_law_380 : decode cL_law 380 = .ok (.iaload, 1) := by decide +kernel
theorem dL_law_381 : decode cL_law 381 = .ok (.aload_n 0, 1) := by decide +kernel
theorem dL_law_382 : decode cL_law 382 = .ok (.iload_n 3, 1) := by decide +kernel
theorem dL_law_383 : decode cL_law 383 = .ok (.iconst 2, 1) := by decide +kernel
theorem dL_law_384 : decode cL_law 384 = .ok (.iadd, 1) := by decide +kernel
theorem dL_law_385 : decode cL_law 385 = .ok (.iaload, 1) := by decide +kernel
theorem dL_law_386 : decode cL_law 386 = .ok (.aload_n 0, 1) := by decide +kernel
theorem dL_law_387 : decode cL_law 387 = .ok (.iload_n 3, 1) := by decide +kernel
theorem dL_law_388 : decode cL_law 388 = .ok (.iconst 3, 1) := by decide +kernel
theorem dL_law_389 : decode cL_law 389 = .ok (.iadd, 1) := by decide +kernel
theorem dL_law_390 : decode cL_law 390 = .ok (.iaload, 1) := by decide +kernel
theorem dL_law_391 : decode cL_law 391 = .ok (.aload_n 0, 1) := by decide +kernel
theorem dL_law_392 : decode cL_law 392 = .ok (.iload_n 3, 1) := by decide +kernel
theorem dL_law_393 : decode cL_law 393 = .ok (.iconst 4, 1) := by decide +kernel
theorem dL_law_394 : decode cL_law 394 = .ok (.iadd, 1) := by decide +kernel
theorem dL_law_395 : decode cL_law 395 = .ok (.iaload, 1) := by decide +kernel
theorem dL_law_396 : decode cL_law 396 = .ok (.invokevirtual 51, 3) := by decide +kernel
theorem dL_law_399 : decode cL_law 399 = .ok (.if_icmp .eq 391, 3) := by decide +kernel
theorem dL_law_402 : decode cL_law 402 = .ok (.iconst 0, 1) := by decide +kernel
theorem dL_law_403 : decode cL_law 403 = .ok (.ireturn, 1) := by decide +kernel
theorem dL_law_404 : decode cL_law 404 = .ok (.aload_n 1, 1) := by decide +kernel
theorem dL_law_405 : decode cL_law 405 = .ok (.aload_n 0, 1) := by decide +kernel
theorem dL_law_406 : decode cL_law 406 = .ok (.iload_n 3, 1) := by decide +kernel
theorem dL_law_407 : decode cL_law 407 = .ok (.iconst 1, 1) := by decide +kernel
theorem dL_law_408 : decode cL_law 408 = .ok (.iadd, 1) := by decide +kernel
theorem dL_law_409 : decode cL_law 409 = .ok (.iaload, 1) := by decide +kernel
theorem dL_law_410 : decode cL_law 410 = .ok (.aload_n 0, 1) := by decide +kernel
theorem dL_law_411 : decode cL_law 411 = .ok (.iload_n 3, 1) := by decide +kernel
theorem dL_law_412 : decode cL_law 412 = .ok (.iconst 2, 1) := by decide +kernel
theorem dL_law_413 : decode cL_law 413 = .ok (.iadd, 1) := by decide +kernel
theorem dL_law_414 : decode cL_law 414 = .ok (.iaload, 1) := by decide +kernel
theorem dL_law_415 : decode cL_law 415 = .ok (.aload_n 0, 1) := by decide +kernel
theorem dL_law_416 : decode cL_law 416 = .ok (.iload_n 3, 1) := by decide +kernel
theorem dL_law_417 : decode cL_law 417 = .ok (.iconst 3, 1) := by decide +kernel
theorem dL_law_418 : decode cL_law 418 = .ok (.iadd, 1) := by decide +kernel
theorem dL_law_419 : decode cL_law 419 = .ok (.iaload, 1) := by decide +kernel
theorem dL_law_420 : decode cL_law 420 = .ok (.invokevirtual 52, 3) := by decide +kernel
theorem dL_law_423 : decode cL_law 423 = .ok (.aload_n 2, 1) := by decide +kernel
theorem dL_law_424 : decode cL_law 424 = .ok (.aload_n 0, 1) := by decide +kernel
theorem dL_law_425 : decode cL_law 425 = .ok (.iload_n 3, 1) := by decide +kernel
theorem dL_law_426 : decode cL_law 426 = .ok (.iconst 1, 1) := by decide +kernel
theorem dL_law_427 : decode cL_law 427 = .ok (.iadd, 1) := by decide +kernel
theorem dL_law_428 : decode cL_law 428 = .ok (.iaload, 1) := by decide +kernel
theorem dL_law_429 : decode cL_law 429 = .ok (.aload_n 0, 1) := by decide +kernel
theorem dL_law_430 : decode cL_law 430 = .ok (.iload_n 3, 1) := by decide +kernel
theorem dL_law_431 : decode cL_law 431 = .ok (.iconst 2, 1) := by decide +kernel
theorem dL_law_432 : decode cL_law 432 = .ok (.iadd, 1) := by decide +kernel
theorem dL_law_433 : decode cL_law 433 = .ok (.iaload, 1) := by decide +kernel
theorem dL_law_434 : decode cL_law 434 = .ok (.aload_n 0, 1) := by decide +kernel
theorem dL_law_435 : decode cL_law 435 = .ok (.iload_n 3, 1) := by decide +kernel
theorem dL_law_436 : decode cL_law 436 = .ok (.iconst 3, 1) := by decide +kernel
theorem dL_law_437 : decode cL_law 437 = .ok (.iadd, 1) := by decide +kernel
theorem dL_law_438 : decode cL_law 438 = .ok (.iaload, 1) := by decide +kernel
theorem dL_law_439 : decode cL_law 439 = .ok (.invokevirtual 56, 3) := by decide +kernel
theorem dL_law_442 : decode cL_law 442 = .ok (.if_icmp .eq 348, 3) := by decide +kernel
theorem dL_law_445 : decode cL_law 445 = .ok (.iconst 0, 1) := by decide +kernel
theorem dL_law_446 : decode cL_law 446 = .ok (.ireturn, 1) := by decide +kernel
theorem dL_law_447 : decode cL_law 447 = .ok (.aload_n 1, 1) := by decide +kernel
theorem dL_law_448 : decode cL_law 448 = .ok (.aload_n 0, 1) := by decide +kernel
theorem dL_law_449 : decode cL_law 449 = .ok (.iload_n 3, 1) := by decide +kernel
theorem dL_law_450 : decode cL_law 450 = .ok (.iconst 1, 1) := by decide +kernel
theorem dL_law_451 : decode cL_law 451 = .ok (.iadd, 1) := by decide +kernel
theorem dL_law_452 : decode cL_law 452 = .ok (.iaload, 1) := by decide +kernel
theorem dL_law_453 : decode cL_law 453 = .ok (.aload_n 0, 1) := by decide +kernel
theorem dL_law_454 : decode cL_law 454 = .ok (.iload_n 3, 1) := by decide +kernel
theorem dL_law_455 : decode cL_law 455 = .ok (.iconst 2, 1) := by decide +kernel
theorem dL_law_456 : decode cL_law 456 = .ok (.iadd, 1) := by decide +kernel
theorem dL_law_457 : decode cL_law 457 = .ok (.iaload, 1) := by decide +kernel
end
section
theorem dL_law_458 : decode cL_law 458 = .ok (.invokevirtual 57, 3) := by decide +kernel
theorem dL_law_461 : decode cL_law 461 = .ok (.aload_n 2, 1) := by decide +kernel
theorem dL_law_462 : decode cL_law 462 = .ok (.aload_n 0, 1) := by decide +kernel
theorem dL_law_463 : decode cL_law 463 = .ok (.iload_n 3, 1) := by decide +kernel
theorem dL_law_464 : decode cL_law 464 = .ok (.iconst 1, 1) := by decide +kernel
theorem dL_law_465 : decode cL_law 465 = .ok (.iadd, 1) := by decide +kernel
theorem dL_law_466 : decode cL_law 466 = .ok (.iaload, 1) := by decide +kernel
theorem dL_law_467 : decode cL_law 467 = .ok (.aload_n 0, 1) := by decide +kernel
theorem dL_law_468 : decode cL_law 468 = .ok (.iload_n 3, 1) := by decide +kernel
theorem dL_law_469 : decode cL_law 469 = .ok (.iconst 2, 1) := by decide +kernel
theorem dL_law_470 : decode cL_law 470 = .ok (.iadd, 1) := by decide +kernel
theorem dL_law_471 : decode cL_law 471 = .ok (.iaload, 1) := by decide +kernel
theorem dL_law_472 : decode cL_law 472 = .ok (.invokevirtual 60, 3) := by decide +kernel
theorem dL_law_475 : decode cL_law 475 = .ok (.if_icmp .eq 315, 3) := by decide +kernel
theorem dL_law_478 : decode cL_law 478 = .ok (.iconst 0, 1) := by decide +kernel
theorem dL_law_479 : decode cL_law 479 = .ok (.ireturn, 1) := by decide +kernel
theorem dL_law_480 : decode cL_law 480 = .ok (.aload_n 1, 1) := by decide +kernel
theorem dL_law_481 : decode cL_law 481 = .ok (.aload_n 0, 1) := by decide +kernel
theorem dL_law_482 : decode cL_law 482 = .ok (.iload_n 3, 1) := by decide +kernel
theorem dL_law_483 : decode cL_law 483 = .ok (.iconst 1, 1) := by decide +kernel
theorem dL_law_484 : decode cL_law 484 = .ok (.iadd, 1) := by decide +kernel
theorem dL_law_485 : decode cL_law 485 = .ok (.iaload, 1) := by decide +kernel
theorem dL_law_486 : decode cL_law 486 = .ok (.invokevirtual 61, 3) := by decide +kernel
theorem dL_law_489 : decode cL_law 489 = .ok (.aload_n 2, 1) := by decide +kernel
theorem dL_law_490 : decode cL_law 490 = .ok (.aload_n 0, 1) := by decide +kernel
theorem dL_law_491 : decode cL_law 491 = .ok (.iload_n 3, 1) := by decide +kernel
theorem dL_law_492 : decode cL_law 492 = .ok (.iconst 1, 1) := by decide +kernel
theorem dL_law_493 : decode cL_law 493 = .ok (.iadd, 1) := by decide +kernel
theorem dL_law_494 : decode cL_law 494 = .ok (.iaload, 1) := by decide +kernel
theorem dL_law_495 : decode cL_law 495 = .ok (.invokevirtual 64, 3) := by decide +kernel
theorem dL_law_498 : decode cL_law 498 = .ok (.if_icmp .eq 292, 3) := by decide +kernel
theorem dL_law_501 : decode cL_law 501 = .ok (.iconst 0, 1) := by decide +kernel
theorem dL_law_502 : decode cL_law 502 = .ok (.ireturn, 1) := by decide +kernel
theorem dL_law_503 : decode cL_law 503 = .ok (.aload_n 1, 1) := by decide +kernel
theorem dL_law_504 : decode cL_law 504 = .ok (.aload_n 0, 1) := by decide +kernel
theorem dL_law_505 : decode cL_law 505 = .ok (.iload_n 3, 1) := by decide +kernel
theorem dL_law_506 : decode cL_law 506 = .ok (.iconst 1, 1) := by decide +kernel
theorem dL_law_507 : decode cL_law 507 = .ok (.iadd, 1) := by decide +kernel
theorem dL_law_508 : decode cL_law 508 = .ok (.iaload, 1) := by decide +kernel
theorem dL_law_509 : decode cL_law 509 = .ok (.invokevirtual 65, 3) := by decide +kernel
theorem dL_law_512 : decode cL_law 512 = .ok (.aload_n 2, 1) := by decide +kernel
theorem dL_law_513 : decode cL_law 513 = .ok (.aload_n 0, 1) := by decide +kernel
theorem dL_law_514 : decode cL_law 514 = .ok (.iload_n 3, 1) := by decide +kernel
theorem dL_law_515 : decode cL_law 515 = .ok (.iconst 1, 1) := by decide +kernel
theorem dL_law_516 : decode cL_law 516 = .ok (.iadd, 1) := by decide +kernel
theorem dL_law_517 : decode cL_law 517 = .ok (.iaload, 1) := by decide +kernel
theorem dL_law_518 : decode cL_law 518 = .ok (.invokevirtual 68, 3) := by decide +kernel
theorem dL_law_521 : decode cL_law 521 = .ok (.if_icmp .eq 269, 3) := by decide +kernel
theorem dL_law_524 : decode cL_law 524 = .ok (.iconst 0, 1) := by decide +kernel
theorem dL_law_525 : decode cL_law 525 = .ok (.ireturn, 1) := by decide +kernel
theorem dL_law_526 : decode cL_law 526 = .ok (.aload_n 1, 1) := by decide +kernel
theorem dL_law_527 : decode cL_law 527 = .ok (.invokevirtual 69, 3) := by decide +kernel
theorem dL_law_530 : decode cL_law 530 = .ok (.aload_n 2, 1) := by decide +kernel
theorem dL_law_531 : decode cL_law 531 = .ok (.invokevirtual 72, 3) := by decide +kernel
theorem dL_law_534 : decode cL_law 534 = .ok (.if_icmp .eq 256, 3) := by decide +kernel
theorem dL_law_537 : decode cL_law 537 = .ok (.iconst 0, 1) := by decide +kernel
theorem dL_law_538 : decode cL_law 538 = .ok (.ireturn, 1) := by decide +kernel
theorem dL_law_539 : decode cL_law 539 = .ok (.aload_n 1, 1) := by decide +kernel
theorem dL_law_540 : decode cL_law 540 = .ok (.aload_n 0, 1) := by decide +kernel
theorem dL_law_541 : decode cL_law 541 = .ok (.iload_n 3, 1) := by decide +kernel
theorem dL_law_542 : decode cL_law 542 = .ok (.iconst 1, 1) := by decide +kernel
theorem dL_law_543 : decode cL_law 543 = .ok (.iadd, 1) := by decide +kernel
theorem dL_law_544 : decode cL_law 544 = .ok (.iaload, 1) := by decide +kernel
theorem dL_law_545 : decode cL_law 545 = .ok (.invokevirtual 73, 3) := by decide +kernel
theorem dL_law_548 : decode cL_law 548 = .ok (.aload_n 2, 1) := by decide +kernel
theorem dL_law_549 : decode cL_law 549 = .ok (.aload_n 0, 1) := by decide +kernel
theorem dL_law_550 : decode cL_law 550 = .ok (.iload_n 3, 1) := by decide +kernel
theorem dL_law_551 : decode cL_law 551 = .ok (.iconst 1, 1) := by decide +kernel
theorem dL_law_552 : decode cL_law 552 = .ok (.iadd, 1) := by decide +kernel
theorem dL_law_553 : decode cL_law 553 = .ok (.iaload, 1) := by decide +kernel
theorem dL_law_554 : decode cL_law 554 = .ok (.invokevirtual 76, 3) := by decide +kernel
theorem dL_law_557 : decode cL_law 557 = .ok (.if_icmp .eq 233, 3) := by decide +kernel
theorem dL_law_560 : decode cL_law 560 = .ok (.iconst 0, 1) := by decide +kernel
theorem dL_law_561 : decode cL_law 561 = .ok (.ireturn, 1) := by decide +kernel
theorem dL_law_562 : decode cL_law 562 = .ok (.aload_n 1, 1) := by decide +kernel
theorem dL_law_563 : decode cL_law 563 = .ok (.aload_n 0, 1) := by decide +kernel
theorem dL_law_564 : decode cL_law 564 = .ok (.iload_n 3, 1) := by decide +kernel
theorem dL_law_565 : decode cL_law 565 = .ok (.iconst 1, 1) := by decide +kernel
theorem dL_law_566 : decode cL_law 566 = .ok (.iadd, 1) := by decide +kernel
theorem dL_law_567 : decode cL_law 567 = .ok (.iaload, 1) := by decide +kernel
theorem dL_law_568 : decode cL_law 568 = .ok (.invokevirtual 77, 3) := by decide +kernel
theorem dL_law_571 : decode cL_law 571 = .ok (.aload_n 2, 1) := by decide +kernel
theorem dL_law_572 : decode cL_law 572 = .ok (.aload_n 0, 1) := by decide +kernel
theorem dL_law_573 : decode cL_law 573 = .ok (.iload_n 3, 1) := by decide +kernel
theorem dL_law_574 : decode cL_law 574 = .ok (.iconst 1, 1) := by decide +kernel
theorem dL_law_575 : decode cL_law 575 = .ok (.iadd, 1) := by decide +kernel
theorem dL_law_576 : decode cL_law 576 = .ok (.iaload, 1) := by decide +kernel
theorem dL_law_577 : decode cL_law 577 = .ok (.invokevirtual 80, 3) := by decide +kernel
theorem dL_law_580 : decode cL_law 580 = .ok (.if_icmp .eq 210, 3) := by decide +kernel
theorem dL_law_583 : decode cL_law 583 = .ok (.iconst 0, 1) := by decide +kernel
theorem dL_law_584 : decode cL_law 584 = .ok (.ireturn, 1) := by decide +kernel
theorem dL_law_585 : decode cL_law 585 = .ok (.aload_n 1, 1) := by decide +kernel
theorem dL_law_586 : decode cL_law 586 = .ok (.invokevirtual 81, 3) := by decide +kernel
theorem dL_law_589 : decode cL_law 589 = .ok (.aload_n 2, 1) := by decide +kernel
theorem dL_law_590 : decode cL_law 590 = .ok (.invokevirtual 84, 3) := by decide +kernel
theorem dL_law_593 : decode cL_law 593 = .ok (.if_icmp .eq 197, 3) := by decide +kernel
theorem dL_law_596 : decode cL_law 596 = .ok (.iconst 0, 1) := by decide +kernel
theorem dL_law_597 : decode cL_law 597 = .ok (.ireturn, 1) := by decide +kernel
theorem dL_law_598 : decode cL_law 598 = .ok (.aload_n 1, 1) := by decide +kernel
theorem dL_law_599 : decode cL_law 599 = .ok (.aload_n 0, 1) := by decide +kernel
theorem dL_law_600 : decode cL_law 600 = .ok (.iload_n 3, 1) := by decide +kernel
theorem dL_law_601 : decode cL_law 601 = .ok (.iconst 1, 1) := by decide +kernel
theorem dL_law_602 : decode cL_law 602 = .ok (.iadd, 1) := by decide +kernel
theorem dL_law_603 : decode cL_law 603 = .ok (.iaload, 1) := by decide +kernel
theorem dL_law_604 : decode cL_law 604 = .ok (.invokevirtual 85, 3) := by decide +kernel
theorem dL_law_607 : decode cL_law 607 = .ok (.aload_n 2, 1) := by decide +kernel
theorem dL_law_608 : decode cL_law 608 = .ok (.aload_n 0, 1) := by decide +kernel
theorem dL_law_609 : decode cL_law 609 = .ok (.iload_n 3, 1) := by decide +kernel
theorem dL_law_610 : decode cL_law 610 = .ok (.iconst 1, 1) := by decide +kernel
theorem dL_law_611 : decode cL_law 611 = .ok (.iadd, 1) := by decide +kernel
theorem dL_law_612 : decode cL_law 612 = .ok (.iaload, 1) := by decide +kernel
theorem dL_law_613 : decode cL_law 613 = .ok (.invokevirtual 88, 3) := by decide +kernel
theorem dL_law_616 : decode cL_law 616 = .ok (.if_icmp .eq 174, 3) := by decide +kernel
theorem dL_law_619 : decode cL_law 619 = .ok (.iconst 0, 1) := by decide +kernel
theorem dL_law_620 : decode cL_law 620 = .ok (.ireturn, 1) := by decide +kernel
theorem dL_law_621 : decode cL_law 621 = .ok (.aload_n 1, 1) := by decide +kernel
theorem dL_law_622 : decode cL_law 622 = .ok (.aload_n 0, 1) := by decide +kernel
theorem dL_law_623 : decode cL_law 623 = .ok (.iload_n 3, 1) := by decide +kernel
theorem dL_law_624 : decode cL_law 624 = .ok (.iconst 1, 1) := by decide +kernel
theorem dL_law_625 : decode cL_law 625 = .ok (.iadd, 1) := by decide +kernel
theorem dL_law_626 : decode cL_law 626 = .ok (.iaload, 1) := by decide +kernel
theorem dL_law_627 : decode cL_law 627 = .ok (.aload_n 0, 1) := by decide +kernel
theorem dL_law_628 : decode cL_law 628 = .ok (.iload_n 3, 1) := by decide +kernel
theorem dL_law_629 : decode cL_law 629 = .ok (.iconst 2, 1) := by decide +kernel
theorem dL_law_630 : decode cL_law 630 = .ok (.iadd, 1) := by decide +kernel
theorem dL_law_631 : decode cL_law 631 = .ok (.iaload, 1) := by decide +kernel
theorem dL_law_632 : decode cL_law 632 = .ok (.aload_n 0, 1) := by decide +kernel
theorem dL_law_633 : decode cL_law 633 = .ok (.iload_n 3, 1) := by decide +kernel
theorem dL_law_634 : decode cL_law 634 = .ok (.iconst 3, 1) := by decide +kernel
theorem dL_law_635 : decode cL_law 635 = .ok (.iadd, 1) := by decide +kernel
theorem dL_law_636 : decode cL_law 636 = .ok (.iaload, 1) := by decide +kernel
theorem dL_law_637 : decode cL_law 637 = .ok (.aload_n 0, 1) := by decide +kernel
theorem dL_law_638 : decode cL_law 638 = .ok (.iload_n 3, 1) := by decide +kernel
theorem dL_law_639 : decode cL_law 639 = .ok (.iconst 4, 1) := by decide +kernel
theorem dL_law_640 : decode cL_law 640 = .ok (.iadd, 1) := by decide +kernel
theorem dL_law_641 : decode cL_law 641 = .ok (.iaload, 1) := by decide +kernel
theorem dL_law_642 : decode cL_law 642 = .ok (.invokevirtual 89, 3) := by decide +kernel
theorem dL_law_645 : decode cL_law 645 = .ok (.aload_n 2, 1) := by decide +kernel
theorem dL_law_646 : decode cL_law 646 = .ok (.aload_n 0, 1) := by decide +kernel
theorem dL_law_647 : decode cL_law 647 = .ok (.iload_n 3, 1) := by decide +kernel
end
section
theorem dL_law_648 : decode cL_law 648 = .ok (.iconst 1, 1) := by decide +kernel
theorem dL_law_649 : decode cL_law 649 = .ok (.iadd, 1) := by decide +kernel
theorem dL_law_650 : decode cL_law 650 = .ok (.iaload, 1) := by decide +kernel
theorem dL_law_651 : decode cL_law 651 = .ok (.aload_n 0, 1) := by decide +kernel
theorem dL_law_652 : decode cL_law 652 = .ok (.iload_n 3, 1) := by decide +kernel
theorem dL_law_653 : decode cL_law 653 = .ok (.iconst 2, 1) := by decide +kernel
theorem dL_law_654 : decode cL_law 654 = .ok (.iadd, 1) := by decide +kernel
theorem dL_law_655 : decode cL_law 655 = .ok (.iaload, 1) := by decide +kernel
theorem dL_law_656 : decode cL_law 656 = .ok (.aload_n 0, 1) := by decide +kernel
theorem dL_law_657 : decode cL_law 657 = .ok (.iload_n 3, 1) := by decide +kernel
theorem dL_law_658 : decode cL_law 658 = .ok (.iconst 3, 1) := by decide +kernel
theorem dL_law_659 : decode cL_law 659 = .ok (.iadd, 1) := by decide +kernel
theorem dL_law_660 : decode cL_law 660 = .ok (.iaload, 1) := by decide +kernel
theorem dL_law_661 : decode cL_law 661 = .ok (.aload_n 0, 1) := by decide +kernel
theorem dL_law_662 : decode cL_law 662 = .ok (.iload_n 3, 1) := by decide +kernel
theorem dL_law_663 : decode cL_law 663 = .ok (.iconst 4, 1) := by decide +kernel
theorem dL_law_664 : decode cL_law 664 = .ok (.iadd, 1) := by decide +kernel
theorem dL_law_665 : decode cL_law 665 = .ok (.iaload, 1) := by decide +kernel
theorem dL_law_666 : decode cL_law 666 = .ok (.invokevirtual 93, 3) := by decide +kernel
theorem dL_law_669 : decode cL_law 669 = .ok (.lcmp, 1) := by decide +kernel
theorem dL_law_670 : decode cL_law 670 = .ok (.ifCond .eq 120, 3) := by decide +kernel
theorem dL_law_673 : decode cL_law 673 = .ok (.iconst 0, 1) := by decide +kernel
theorem dL_law_674 : decode cL_law 674 = .ok (.ireturn, 1) := by decide +kernel
theorem dL_law_675 : decode cL_law 675 = .ok (.aload_n 1, 1) := by decide +kernel
theorem dL_law_676 : decode cL_law 676 = .ok (.aload_n 0, 1) := by decide +kernel
theorem dL_law_677 : decode cL_law 677 = .ok (.iload_n 3, 1) := by decide +kernel
theorem dL_law_678 : decode cL_law 678 = .ok (.iconst 1, 1) := by decide +kernel
theorem dL_law_679 : decode cL_law 679 = .ok (.iadd, 1) := by decide +kernel
theorem dL_law_680 : decode cL_law 680 = .ok (.iaload, 1) := by decide +kernel
theorem dL_law_681 : decode cL_law 681 = .ok (.aload_n 0, 1) := by decide +kernel
theorem dL_law_682 : decode cL_law 682 = .ok (.iload_n 3, 1) := by decide +kernel
theorem dL_law_683 : decode cL_law 683 = .ok (.iconst 2, 1) := by decide +kernel
theorem dL_law_684 : decode cL_law 684 = .ok (.iadd, 1) := by decide +kernel
theorem dL_law_685 : decode cL_law 685 = .ok (.iaload, 1) := by decide +kernel
theorem dL_law_686 : decode cL_law 686 = .ok (.invokevirtual 94, 3) := by decide +kernel
theorem dL_law_689 : decode cL_law 689 = .ok (.aload_n 2, 1) := by decide +kernel
theorem dL_law_690 : decode cL_law 690 = .ok (.aload_n 0, 1) := by decide +kernel
theorem dL_law_691 : decode cL_law 691 = .ok (.iload_n 3, 1) := by decide +kernel
theorem dL_law_692 : decode cL_law 692 = .ok (.iconst 1, 1) := by decide +kernel
theorem dL_law_693 : decode cL_law 693 = .ok (.iadd, 1) := by decide +kernel
theorem dL_law_694 : decode cL_law 694 = .ok (.iaload, 1) := by decide +kernel
theorem dL_law_695 : decode cL_law 695 = .ok (.aload_n 0, 1) := by decide +kernel
theorem dL_law_696 : decode cL_law 696 = .ok (.iload_n 3, 1) := by decide +kernel
theorem dL_law_697 : decode cL_law 697 = .ok (.iconst 2, 1) := by decide +kernel
theorem dL_law_698 : decode cL_law 698 = .ok (.iadd, 1) := by decide +kernel
theorem dL_law_699 : decode cL_law 699 = .ok (.iaload, 1) := by decide +kernel
theorem dL_law_700 : decode cL_law 700 = .ok (.invokevirtual 97, 3) := by decide +kernel
theorem dL_law_703 : decode cL_law 703 = .ok (.if_icmp .eq 87, 3) := by decide +kernel
theorem dL_law_706 : decode cL_law 706 = .ok (.iconst 0, 1) := by decide +kernel
theorem dL_law_707 : decode cL_law 707 = .ok (.ireturn, 1) := by decide +kernel
theorem dL_law_708 : decode cL_law 708 = .ok (.aload_n 1, 1) := by decide +kernel
theorem dL_law_709 : decode cL_law 709 = .ok (.invokevirtual 98, 3) := by decide +kernel
theorem dL_law_712 : decode cL_law 712 = .ok (.aload_n 2, 1) := by decide +kernel
theorem dL_law_713 : decode cL_law 713 = .ok (.invokevirtual 101, 3) := by decide +kernel
theorem dL_law_716 : decode cL_law 716 = .ok (.if_icmp .eq 74, 3) := by decide +kernel
theorem dL_law_719 : decode cL_law 719 = .ok (.iconst 0, 1) := by decide +kernel
theorem dL_law_720 : decode cL_law 720 = .ok (.ireturn, 1) := by decide +kernel
theorem dL_law_721 : decode cL_law 721 = .ok (.aload_n 1, 1) := by decide +kernel
theorem dL_law_722 : decode cL_law 722 = .ok (.aload_n 0, 1) := by decide +kernel
theorem dL_law_723 : decode cL_law 723 = .ok (.iload_n 3, 1) := by decide +kernel
theorem dL_law_724 : decode cL_law 724 = .ok (.iconst 1, 1) := by decide +kernel
theorem dL_law_725 : decode cL_law 725 = .ok (.iadd, 1) := by decide +kernel
theorem dL_law_726 : decode cL_law 726 = .ok (.iaload, 1) := by decide +kernel
theorem dL_law_727 : decode cL_law 727 = .ok (.invokevirtual 102, 3) := by decide +kernel
theorem dL_law_730 : decode cL_law 730 = .ok (.aload_n 2, 1) := by decide +kernel
theorem dL_law_731 : decode cL_law 731 = .ok (.aload_n 0, 1) := by decide +kernel
theorem dL_law_732 : decode cL_law 732 = .ok (.iload_n 3, 1) := by decide +kernel
theorem dL_law_733 : decode cL_law 733 = .ok (.iconst 1, 1) := by decide +kernel
theorem dL_law_734 : decode cL_law 734 = .ok (.iadd, 1) := by decide +kernel
theorem dL_law_735 : decode cL_law 735 = .ok (.iaload, 1) := by decide +kernel
theorem dL_law_736 : decode cL_law 736 = .ok (.invokevirtual 105, 3) := by decide +kernel
theorem dL_law_739 : decode cL_law 739 = .ok (.if_icmp .eq 51, 3) := by decide +kernel
theorem dL_law_742 : decode cL_law 742 = .ok (.iconst 0, 1) := by decide +kernel
theorem dL_law_743 : decode cL_law 743 = .ok (.ireturn, 1) := by decide +kernel
theorem dL_law_744 : decode cL_law 744 = .ok (.aload_n 1, 1) := by decide +kernel
theorem dL_law_745 : decode cL_law 745 = .ok (.aload_n 0, 1) := by decide +kernel
theorem dL_law_746 : decode cL_law 746 = .ok (.iload_n 3, 1) := by decide +kernel
theorem dL_law_747 : decode cL_law 747 = .ok (.iconst 1, 1) := by decide +kernel
theorem dL_law_748 : decode cL_law 748 = .ok (.iadd, 1) := by decide +kernel
theorem dL_law_749 : decode cL_law 749 = .ok (.iaload, 1) := by decide +kernel
theorem dL_law_750 : decode cL_law 750 = .ok (.invokevirtual 106, 3) := by decide +kernel
theorem dL_law_753 : decode cL_law 753 = .ok (.aload_n 2, 1) := by decide +kernel
theorem dL_law_754 : decode cL_law 754 = .ok (.aload_n 0, 1) := by decide +kernel
theorem dL_law_755 : decode cL_law 755 = .ok (.iload_n 3, 1) := by decide +kernel
theorem dL_law_756 : decode cL_law 756 = .ok (.iconst 1, 1) := by decide +kernel
theorem dL_law_757 : decode cL_law 757 = .ok (.iadd, 1) := by decide +kernel
theorem dL_law_758 : decode cL_law 758 = .ok (.iaload, 1) := by decide +kernel
theorem dL_law_759 : decode cL_law 759 = .ok (.invokevirtual 109, 3) := by decide +kernel
theorem dL_law_762 : decode cL_law 762 = .ok (.if_icmp .eq 28, 3) := by decide +kernel
theorem dL_law_765 : decode cL_law 765 = .ok (.iconst 0, 1) := by decide +kernel
theorem dL_law_766 : decode cL_law 766 = .ok (.ireturn, 1) := by decide +kernel
theorem dL_law_767 : decode cL_law 767 = .ok (.aload_n 1, 1) := by decide +kernel
theorem dL_law_768 : decode cL_law 768 = .ok (.aload_n 0, 1) := by decide +kernel
theorem dL_law_769 : decode cL_law 769 = .ok (.iload_n 3, 1) := by decide +kernel
theorem dL_law_770 : decode cL_law 770 = .ok (.iconst 1, 1) := by decide +kernel
theorem dL_law_771 : decode cL_law 771 = .ok (.iadd, 1) := by decide +kernel
theorem dL_law_772 : decode cL_law 772 = .ok (.iaload, 1) := by decide +kernel
theorem dL_law_773 : decode cL_law 773 = .ok (.invokevirtual 110, 3) := by decide +kernel
theorem dL_law_776 : decode cL_law 776 = .ok (.aload_n 2, 1) := by decide +kernel
theorem dL_law_777 : decode cL_law 777 = .ok (.aload_n 0, 1) := by decide +kernel
theorem dL_law_778 : decode cL_law 778 = .ok (.iload_n 3, 1) := by decide +kernel
theorem dL_law_779 : decode cL_law 779 = .ok (.iconst 1, 1) := by decide +kernel
theorem dL_law_780 : decode cL_law 780 = .ok (.iadd, 1) := by decide +kernel
theorem dL_law_781 : decode cL_law 781 = .ok (.iaload, 1) := by decide +kernel
theorem dL_law_782 : decode cL_law 782 = .ok (.invokevirtual 113, 3) := by decide +kernel
theorem dL_law_785 : decode cL_law 785 = .ok (.if_icmp .eq 5, 3) := by decide +kernel
theorem dL_law_788 : decode cL_law 788 = .ok (.iconst 0, 1) := by decide +kernel
theorem dL_law_789 : decode cL_law 789 = .ok (.ireturn, 1) := by decide +kernel
theorem dL_law_790 : decode cL_law 790 = .ok (.iinc 3 5, 3) := by decide +kernel
theorem dL_law_793 : decode cL_law 793 = .ok (.goto (-775), 3) := by decide +kernel
theorem dL_law_796 : decode cL_law 796 = .ok (.iconst 1, 1) := by decide +kernel
theorem dL_law_797 : decode cL_law 797 = .ok (.ireturn, 1) := by decide +kernel
end
section
/-! what every contract speaks: its world at the start, its frame -/
def pr_R (D : va_G) (cI cJ : ClassId) (ws : va_W) (sz : Nat) : State → Prop := fun U => U.heap.size = sz ∧ va_P D vwCl ws U.heap ∧ va_K D vwCl [(cI, .int), (cJ, .long)] U ∧ nw U
def pr_W (D : va_G) (cI cJ : ClassId) (ws : va_W) (sz : Nat) : State → Prop := fun U => U.heap.size = sz ∧ va_P D vwCl ws U.heap ∧ va_K D vwCl [(cI, .int), (cJ, .long)] U ∧ nw U ∧ va_D (fun _ => True) ws
theorem nw_warm {s U : State} (hW : s.WarmedH U.vm) (h : nw s) : nw U := by
  obtain ⟨h1, h2, h3, h4, h5, h6, h7, h8, h9, h10⟩ := h
  exact ⟨va_Nw.warmM hW h1, va_Nw.warmM hW h2, va_Nw.warmM hW h3, va_Nw.warmM hW h4, va_Nw.warmM hW h5, va_Nw.warmM hW h6, va_Nw.warmM hW h7, va_Nw.warmM hW h8, va_Nw.warmM hW h9, va_Nw.warmM hW h10⟩
theorem nw_same {s U : State} (e : s.vm = U.vm) (h : nw s) : nw U := by
  obtain ⟨h1, h2, h3, h4, h5, h6, h7, h8, h9, h10⟩ := h
  exact ⟨va_Nw.same rfl e h1, va_Nw.same rfl e h2, va_Nw.same rfl e h3, va_Nw.same rfl e h4, va_Nw.same rfl e h5, va_Nw.same rfl e h6, va_Nw.same rfl e h7, va_Nw.same rfl e h8, va_Nw.same rfl e h9, va_Nw.same rfl e h10⟩
theorem bl_R {D : va_G} {cI cJ : ClassId} {ws : va_W} {sz : Nat} {av : List Value} : FrameBlind (va_Pc av (pr_R D cI cJ ws sz)) := fun a U g mk q => by
  obtain ⟨q0, q1, qP, qK, qN⟩ := q
  exact ⟨q0, q1, qP, va_K.moved (u := U) (U := U.calling g mk a) (Vm.Alike.refl U.vm) qK, nw_same rfl qN⟩
theorem bl_W {D : va_G} {cI cJ : ClassId} {ws : va_W} {sz : Nat} {av : List Value} : FrameBlind (va_Pc av (pr_W D cI cJ ws sz)) := fun a U g mk q => by
  obtain ⟨q0, q1, qP, qK, qN, qD⟩ := q
  exact ⟨q0, q1, qP, va_K.moved (u := U) (U := U.calling g mk a) (Vm.Alike.refl U.vm) qK, nw_same rfl qN, qD⟩
theorem pre_R {s : State} {H : Heap} {D : va_G} {cI cJ : ClassId} {ws : va_W} {av : List Value} (hP : va_P D vwCl ws H) (hK : va_K D vwCl [(cI, .int), (cJ, .long)] s) (hN : nw s) : ∀ U : State, U.heap = H → s.WarmedH U.vm → va_Pc av (pr_R D cI cJ ws H.size) av.toArray U :=
  fun U hU hW => ⟨rfl, by rw [hU], by rw [hU]; exact hP, va_K.moved hW.alike hK, nw_warm hW hN⟩
theorem pre_W {s : State} {H : Heap} {D : va_G} {cI cJ : ClassId} {ws : va_W} {av : List Value} {A : Nat → Prop} (hP : va_P D vwCl ws H) (hK : va_K D vwCl [(cI, .int), (cJ, .long)] s) (hN : nw s) (hD : va_D A ws) : ∀ U : State, U.heap = H → s.WarmedH U.vm → va_Pc av (pr_W D cI cJ ws H.size) av.toArray U :=
  fun U hU hW => ⟨rfl, by rw [hU], by rw [hU]; exact hP, va_K.moved hW.alike hK, nw_warm hW hN, hD.weaken (fun _ _ _ _ => trivial)⟩
theorem va_nil {D : va_G} {H : Heap} : va_P D vwCl [] H := fun k q h => by simp at h
theorem ro_no {H : Heap} {q : Nat} (h1 : q < H.size) : ¬ va_A [] H.size q := by
  rintro (⟨k, e, h⟩ | h)
  · simp at h
  · omega
theorem ro_P {D : va_G} {ws : va_W} {H H1 : Heap} (hP : va_P D vwCl ws H) (hk : ∀ q : Nat, q < H.size → ¬ va_A [] H.size q → H1[q]? = H[q]?) : va_P D vwCl ws H1 :=
  hP.kept (fun k q hq => hk q.1 ((hP k q hq).lt) (ro_no ((hP k q hq).lt)))
theorem ro_A {A : Nat → Prop} {H : Heap} : ∀ q, q < H.size → va_A [] H.size q → A q := fun _ h1 h2 => absurd h2 (ro_no h1)
theorem ro_F {A : Nat → Prop} {H0 H : Heap} {locs : List Loc} (hS : va_S A H0 H locs) (hA : ∀ q, H0.size ≤ q → A q) : ∀ q, va_A [] H.size q → A q := by
  rintro q (⟨k, e, h⟩ | h)
  · simp at h
  · exact hA q (Nat.le_trans hS.1 h)
/-- what the tables say of a method that is called -/
def mt_ok (y : MethodName) (C : String) (b : ByteArray) (maxL : Nat) (ret : Option FieldType) (n : Nat) : Prop := Cond.code y b maxL ret ∈ BIG ∧ Cond.initialized C ∈ BIG ∧ y.cls = C ∧ (y.cls ≠ "java/lang/invoke/MethodHandle" ∧ y.cls ≠ "java/lang/invoke/VarHandle" ∧ (parseMethodDescriptor y.desc).map (fun d => d.parameters.length) = some n)
section CB
variable {R : Room} {s : State} {args : Array Value} {own C host : String} {index n f L maxL mc ms : Nat} {y : MethodName} {b : ByteArray} {ret : Option FieldType}
theorem cb_B (ht : ∀ w ∈ BIG, w.before args s = true) (hm : mt_ok y C b maxL ret n) (hl : Cond.methodLink own index y ∈ BIG) (hR : f + 1 ≤ R.frames ∧ 8 + (maxL + 11) + L ≤ R.locals) : CallB R s args own index y b maxL ret (Cond.code y b maxL ret :: BIG) { frames := f, cells := mc, slots := ms, locals := L } mc ms n :=
  callB_of n ht (big_code hm.1) rfl rfl rfl (by rw [hm.2.2.1]; exact ht _ hm.2.1) (ht _ hl) hm.2.2.2 hR
theorem cb_V (ht : ∀ w ∈ BIG, w.before args s = true) (hm : mt_ok y C b maxL ret n) (hi : Cond.instanceMethod y ∈ BIG) (hx : Cond.selects C y y ∈ BIG) (hl : Cond.methodLink own index y ∈ BIG) (hR : f + 1 ≤ R.frames ∧ 8 + (maxL + 11) + L ≤ R.locals) : CallW R s args own C index y b maxL ret (Cond.code y b maxL ret :: BIG) { frames := f, cells := mc, slots := ms, locals := L } mc ms n :=
  ⟨cb_B ht hm hl hR, ht _ hi, ht _ hx⟩
theorem cb_S (ht : ∀ w ∈ BIG, w.before args s = true) (hm : mt_ok y C b maxL ret n) (hs : Cond.static y ∈ BIG) (hl : Cond.methodLink own index y ∈ BIG) (hR : f + 1 ≤ R.frames ∧ 8 + (maxL + 11) + L ≤ R.locals) : CallB R s args own index y b maxL ret (Cond.code y b maxL ret :: BIG) { frames := f, cells := mc, slots := ms, locals := L } mc ms n ∧ (Cond.static y).before args s = true :=
  ⟨cb_B ht hm hl hR, ht _ hs⟩
theorem cb_SN (ht : ∀ w ∈ BIG, w.before args s = true) (hm : mt_ok y C b maxL ret n) (hs : Cond.static y ∈ BIG) (hl : va_Nw (.methodLinkNest own index y host) s) (hR : f + 1 ≤ R.frames ∧ 8 + (maxL + 11) + L ≤ R.locals) : va_CN R s args own index y host b maxL ret (Cond.code y b maxL ret :: BIG) { frames := f, cells := mc, slots := ms, locals := L } mc ms n ∧ (Cond.static y).before args s = true ∧ True :=
  ⟨va_cnB n ht (big_code hm.1) rfl rfl rfl hl (by rw [hm.2.2.1]; exact ht _ hm.2.1) hm.2.2.2 hR, ht _ hs, trivial⟩
theorem cb_I (ht : ∀ w ∈ BIG, w.before args s = true) (hm : mt_ok y C b maxL none n) (hy : y.name = "<init>") (hi : Cond.instanceMethod y ∈ BIG) (hl : Cond.methodLink own index y ∈ BIG) (hR : f + 1 ≤ R.frames ∧ 8 + (maxL + 11) + L ≤ R.locals) : CallB R s args own index y b maxL none (Cond.code y b maxL none :: BIG) { frames := f, cells := mc, slots := ms, locals := L } mc ms n ∧ y.name = "<init>" ∧ (Cond.instanceMethod y).before args s = true :=
  ⟨cb_B ht hm hl hR, hy, ht _ hi⟩
theorem cb_IN (ht : ∀ w ∈ BIG, w.before args s = true) (hm : mt_ok y C b maxL none n) (hy : y.name = "<init>") (hi : Cond.instanceMethod y ∈ BIG) (hl : va_Nw (.methodLinkNest own index y host) s) (hR : f + 1 ≤ R.frames ∧ 8 + (maxL + 11) + L ≤ R.locals) : va_CN R s args own index y host b maxL none (Cond.code y b maxL none :: BIG) { frames := f, cells := mc, slots := ms, locals := L } mc ms n ∧ y.name = "<init>" ∧ (Cond.instanceMethod y).before args s = true :=
  ⟨va_cnB n ht (big_code hm.1) rfl rfl rfl hl (by rw [hm.2.2.1]; exact ht _ hm.2.1) hm.2.2.2 hR, hy, ht _ hi⟩
end CB
section LV
variable {p : Program} {l : Launch} {e : Env} {R : Room} {s : State} {m : MethodId} {args : Array Value} {below : List Frame} {meth : Method} {c : Code} {H : Heap} {locs : List Loc} {cells slots : Nat} {Q : State → Prop} {pc : Nat} {ls : Array Slot} {rest : List Value}
theorem lv_eqi {x y : Int32} (h : x = y) (k : W p l e R s m args below meth c H locs cells slots Q (F0 m pc ls (.int y :: rest))) : W p l e R s m args below meth c H locs cells slots Q (F0 m pc ls (.int x :: rest)) := h ▸ k
theorem lv_eql {x y : Int64} (h : x = y) (k : W p l e R s m args below meth c H locs cells slots Q (F0 m pc ls (.long y :: rest))) : W p l e R s m args below meth c H locs cells slots Q (F0 m pc ls (.long x :: rest)) := h ▸ k
end LV
/-! whole numbers -/
def nB (b : Int32) : Nat := b.toInt.toNat
theorem i_hi (x : Int32) : x.toInt < 2147483648 := by have := x.toInt_lt; omega
theorem i_lo (x : Int32) : -2147483648 ≤ x.toInt := by have := x.le_toInt; omega
theorem nB_lt (b : Int32) : nB b < 2 ^ 31 := by have := i_hi b; unfold nB; omega
theorem nI_int {k : Nat} (h : k < 2 ^ 31) : (nI k).toInt = (k : Int) := nI_toInt h
theorem lp_go {k : Nat} {b : Int32} (hk : k ≤ nB b) (h : ¬ b ≤ nI k) : k < nB b := by
  have h1 := nB_lt b
  have h2 : (nI k).toInt = (k : Int) := nI_int (by omega)
  rw [Int32.le_iff_toInt_le, h2] at h
  unfold nB at *
  omega
theorem lp_out {k : Nat} {b : Int32} (hk : k ≤ nB b) (h : b ≤ nI k) : k = nB b := by
  have h1 := nB_lt b
  have h2 : (nI k).toInt = (k : Int) := nI_int (by omega)
  rw [Int32.le_iff_toInt_le, h2] at h
  unfold nB at *
  omega
theorem nI_s (k : Nat) : nI k + Int32.ofInt 1 = nI (k + 1) := nI_1 k
end
section
/-! the class's pure numbers, as its code makes them -/
def b_in (v lo hi : Int32) : Int32 := if v < lo then 0 else if hi < v then 0 else 1
theorem b_in_01 (v lo hi : Int32) : b_in v lo hi = 0 ∨ b_in v lo hi = 1 := by unfold b_in; split; exact Or.inl rfl; split; exact Or.inl rfl; exact Or.inr rfl
theorem b_in_yes {v lo hi : Int32} (h : ¬ b_in v lo hi = 0) : lo.toInt ≤ v.toInt ∧ v.toInt ≤ hi.toInt := by
  unfold b_in at h
  split at h
  · exact absurd rfl h
  · split at h
    · exact absurd rfl h
    · rename_i h1 h2
      rw [Int32.lt_iff_toInt_lt] at h1 h2
      omega
theorem b_in_no {v lo hi : Int32} (h : b_in v lo hi = 0) : v.toInt < lo.toInt ∨ hi.toInt < v.toInt := by
  unfold b_in at h
  split at h
  · rename_i h1
    rw [Int32.lt_iff_toInt_lt] at h1
    exact Or.inl h1
  · split at h
    · rename_i h1 h2
      rw [Int32.lt_iff_toInt_lt] at h2
      exact Or.inr h2
    · exact absurd h (by decide)
theorem b_in_z {v lo hi r : Int32} (h : r = b_in v lo hi) : narrow .boolean (.int r) = .int r := by
  rcases b_in_01 v lo hi with e | e <;> rw [h, e] <;> rfl
def c_b1 (x : Int64) : Int64 := x - ((x.toUInt64 >>> ((1 : Int32).toInt64.toUInt64 &&& Int64.toUInt64 63)).toInt64 &&& 6148914691236517205)
def c_b2 (x : Int64) : Int64 := (x &&& 3689348814741910323) + ((x.toUInt64 >>> ((2 : Int32).toInt64.toUInt64 &&& Int64.toUInt64 63)).toInt64 &&& 3689348814741910323)
def c_b3 (x : Int64) : Int64 := (x + (x.toUInt64 >>> ((4 : Int32).toInt64.toUInt64 &&& Int64.toUInt64 63)).toInt64) &&& 1085102592571150095
def c_b4 (k : Int32) (x : Int64) : Int64 := x + (x.toUInt64 >>> (k.toInt64.toUInt64 &&& Int64.toUInt64 63)).toInt64
/-- Long.bitCount -/
def c_bc (x : Int64) : Int32 := (c_b4 32 (c_b4 16 (c_b4 8 (c_b3 (c_b2 (c_b1 x)))))).toInt32 &&& 127
def c_odd (x : Int64) : Int32 := c_bc x &&& 1
def c_bit (row : Int64) (size i : Int32) : Int32 := (row >>> ((size - 1 - i).toInt64 &&& 63)).toInt32 &&& 1
def c_mixN (row : Int64) (size mask : Int32) : Nat → Int64
  | 0 => 0
  | k + 1 => 2 * c_mixN row size mask k + (c_bit row size (nI k) ^^^ c_odd (c_mixN row size mask k &&& mask.toInt64)).toInt64
def c_unmixN (row : Int64) (size mask : Int32) : Nat → Int64
  | 0 => 0
  | k + 1 => 2 * c_unmixN row size mask k + (c_bit row size (nI k) ^^^ c_odd ((row >>> ((size - nI k).toInt64 &&& 63)) &&& mask.toInt64)).toInt64
end
section
theorem mt_X4_within : mt_ok yX4_within RX4 cX4_within 3 (some .boolean) 3 := ⟨mc_yX4_within, mn_X4, rfl, by decide +kernel⟩
set_option maxHeartbeats 4000000 in
set_option maxRecDepth 100000 in
theorem b_X4_within {p : Program} {l : Launch} {e : Env} {R : Room} {s : State} {m : MethodId} {args : Array Value} {below : List Frame} {meth : Method} {c : Code} {Q : State → Prop} {A : Nat → Prop} (D : va_G) (cI cJ : ClassId) (v : Int32) (lo : Int32) (hi : Int32)  {ls : Array Slot} (hx : p.tables.exec = Jvm.exec) (hb : c.code = cX4_within) (hml : c.maxLocals = 3) (hown : s.vm.findClass RX4 = some m.cls) (htb : ∀ w ∈ BIG, w.before args s = true) (hRf : 0 ≤ R.frames) (hRl : 0 ≤ R.locals) (hK : va_K D vwCl [(cI, .int), (cJ, .long)] s) (hN : nw s) (hA : ∀ q, s.heap.size ≤ q → A q) (hP : va_P D vwCl [] s.heap) (hl : lv_has ls 3 [(0, .int v), (1, .int lo), (2, .int hi)])
    (hret : ∀ (r : Int32)  (H : Heap) (locs : List Loc) (pc : Nat) (ls : Array Slot), decode cX4_within pc = .ok (.ireturn, 1) → (r = b_in v lo hi) → va_S A s.heap H locs → W p l e R s m args below meth c H locs 0 0 Q (F0 m pc ls [.int r])) : W p l e R s m args below meth c s.heap [] 0 0 Q (F0 m 0 ls []) := by
  generalize hHe : s.heap = H at hP ⊢
  have hS : va_S A s.heap H [] := by rw [← hHe]; exact va_S.rf
  clear hHe
  refine lv_iload_n hx hb dX4_within_0 rfl (lv_at hl 0 rfl) ?_
  refine lv_iload_n hx hb dX4_within_1 rfl (lv_at hl 1 rfl) ?_
  refine lv_icmp_lt (tgt := 14) hx hb dX4_within_2 (by decide) (fun c_2 => ?_) (fun c_2 => ?_)
  · skip
    refine lv_iconst (v := 0) hx hb dX4_within_14 (by decide) ?_
    exact hret 0 _ _ _ _ dX4_within_15 (by simp [b_in, *]) hS
  · skip
    refine lv_iload_n hx hb dX4_within_5 rfl (lv_at hl 0 rfl) ?_
    refine lv_iload_n hx hb dX4_within_6 rfl (lv_at hl 2 rfl) ?_
    refine lv_icmp_gt (tgt := 14) hx hb dX4_within_7 (by decide) (fun c_7 => ?_) (fun c_7 => ?_)
    · skip
      refine lv_iconst (v := 0) hx hb dX4_within_14 (by decide) ?_
      exact hret 0 _ _ _ _ dX4_within_15 (by simp [b_in, *]) hS
    · skip
      refine lv_iconst (v := 1) hx hb dX4_within_10 (by decide) ?_
      refine lv_goto (tgt := 15) hx hb dX4_within_11 (by decide) ?_
      exact hret 1 _ _ _ _ dX4_within_15 (by simp [b_in, *]) hS
set_option maxHeartbeats 4000000 in
set_option maxRecDepth 100000 in
theorem c_X4_within (l : Launch) (D : va_G) (cI cJ : ClassId) (v : Int32) (lo : Int32) (hi : Int32) (sz : Nat)  : Met l yX4_within (Cond.code yX4_within cX4_within 3 (some .boolean) :: BIG) ({ frames := 0, cells := 0, slots := 0, locals := 0 }) (va_Pc [.int v, .int lo, .int hi] (pr_R D cI cJ [] sz)) (va_Qi (fun (r u : Int32) => u = r) (fun (u : Int32) (t : State) => u = b_in v lo hi) (va_A [] sz)) 0 0 (va_A [] sz) := by
  refine Met.ofW (cc := cX4_within) (maxL := 3) (ret := (some .boolean)) (by decide) rfl ?_
  intro p e s m args below meth c s₁ B hml hv
  obtain ⟨rfl, hsz, hP, hK, hN⟩ := hv
  have hl := lv_entry ([.int v, .int lo, .int hi]) (n := 3) (Nat.le_of_ble_eq_true rfl)
  rw [lg_entry_eq]
  subst hsz
  generalize (lg_sl ([.int v, .int lo, .int hi]) ++ List.replicate (3 - (lg_sl ([.int v, .int lo, .int hi])).length) Slot.unset).toArray = ls at hl ⊢
  exact b_X4_within (A := va_A [] s.heap.size) D cI cJ v lo hi  B.exec B.bytes hml (findClass_of_methodNamed B.named) (fun w h => atoms_spec B.pre w (List.mem_cons_of_mem _ h)) (Nat.le_of_ble_eq_true rfl) (Nat.le_of_ble_eq_true rfl) hK hN (fun q h => Or.inr h) hP hl (fun r  H locs pc ls hdg hpost hS => W.zret B.exec B.bytes B.returns (b_in_z hpost) (fun t ht hW => ⟨⟨r, r, rfl, rfl, hpost⟩, hS.F ht⟩) hS.2.2 hdg B.notSynchronized)
theorem mt_X4_bitOf : mt_ok yX4_bitOf RX4 cX4_bitOf 4 (some .int) 3 := ⟨mc_yX4_bitOf, mn_X4, rfl, by decide +kernel⟩
set_option maxHeartbeats 4000000 in
set_option maxRecDepth 100000 in
theorem b_X4_bitOf {p : Program} {l : Launch} {e : Env} {R : Room} {s : State} {m : MethodId} {args : Array Value} {below : List Frame} {meth : Method} {c : Code} {Q : State → Prop} {A : Nat → Prop} (D : va_G) (cI cJ : ClassId) (row : Int64) (size : Int32) (i : Int32)  {ls : Array Slot} (hx : p.tables.exec = Jvm.exec) (hb : c.code = cX4_bitOf) (hml : c.maxLocals = 4) (hown : s.vm.findClass RX4 = some m.cls) (htb : ∀ w ∈ BIG, w.before args s = true) (hRf : 0 ≤ R.frames) (hRl : 0 ≤ R.locals) (hK : va_K D vwCl [(cI, .int), (cJ, .long)] s) (hN : nw s) (hA : ∀ q, s.heap.size ≤ q → A q) (hP : va_P D vwCl [] s.heap) (hl : lv_has ls 4 [(0, .long row), (2, .int size), (3, .int i)])
    (hret : ∀ (r : Int32)  (H : Heap) (locs : List Loc) (pc : Nat) (ls : Array Slot), decode cX4_bitOf pc = .ok (.ireturn, 1) → (r = c_bit row size i) → va_S A s.heap H locs → W p l e R s m args below meth c H locs 0 0 Q (F0 m pc ls [.int r])) : W p l e R s m args below meth c s.heap [] 0 0 Q (F0 m 0 ls []) := by
  generalize hHe : s.heap = H at hP ⊢
  have hS : va_S A s.heap H [] := by rw [← hHe]; exact va_S.rf
  clear hHe
  refine lv_lload_n hx hb dX4_bitOf_0 rfl (lv_at hl 0 rfl) ?_
  refine lv_iload_n hx hb dX4_bitOf_1 rfl (lv_at hl 1 rfl) ?_
  refine lv_iconst (v := 1) hx hb dX4_bitOf_2 (by decide) ?_
  refine lv_isub hx hb dX4_bitOf_3 ?_
  refine lv_iload_n hx hb dX4_bitOf_4 rfl (lv_at hl 2 rfl) ?_
  refine lv_isub hx hb dX4_bitOf_5 ?_
  refine lv_lshr hx hb dX4_bitOf_6 rfl ?_
  refine lv_l2i hx hb dX4_bitOf_7 rfl ?_
  refine lv_iconst (v := 1) hx hb dX4_bitOf_8 (by decide) ?_
  refine lv_iand hx hb dX4_bitOf_9 ?_
  exact hret (((row >>> (((size - 1) - i).toInt64 &&& 63)).toInt32) &&& 1) _ _ _ _ dX4_bitOf_10 (rfl) hS
set_option maxHeartbeats 4000000 in
set_option maxRecDepth 100000 in
theorem c_X4_bitOf (l : Launch) (D : va_G) (cI cJ : ClassId) (row : Int64) (size : Int32) (i : Int32) (sz : Nat)  : Met l yX4_bitOf (Cond.code yX4_bitOf cX4_bitOf 4 (some .int) :: BIG) ({ frames := 0, cells := 0, slots := 0, locals := 0 }) (va_Pc [.long row, .int size, .int i] (pr_R D cI cJ [] sz)) (va_Qi (fun (r u : Int32) => u = r) (fun (u : Int32) (t : State) => u = c_bit row size i) (va_A [] sz)) 0 0 (va_A [] sz) := by
  refine Met.ofW (cc := cX4_bitOf) (maxL := 4) (ret := (some .int)) (by decide) rfl ?_
  intro p e s m args below meth c s₁ B hml hv
  obtain ⟨rfl, hsz, hP, hK, hN⟩ := hv
  have hl := lv_entry ([.long row, .int size, .int i]) (n := 4) (Nat.le_of_ble_eq_true rfl)
  rw [lg_entry_eq]
  subst hsz
  generalize (lg_sl ([.long row, .int size, .int i]) ++ List.replicate (4 - (lg_sl ([.long row, .int size, .int i])).length) Slot.unset).toArray = ls at hl ⊢
  exact b_X4_bitOf (A := va_A [] s.heap.size) D cI cJ row size i  B.exec B.bytes hml (findClass_of_methodNamed B.named) (fun w h => atoms_spec B.pre w (List.mem_cons_of_mem _ h)) (Nat.le_of_ble_eq_true rfl) (Nat.le_of_ble_eq_true rfl) hK hN (fun q h => Or.inr h) hP hl (fun r  H locs pc ls hdg hpost hS => W.iret B.exec B.bytes B.returns (fun t ht hW => ⟨⟨r, r, rfl, rfl, hpost⟩, hS.F ht⟩) hS.2.2 hdg B.notSynchronized)
theorem mt_J13_bitCount_95d88 : mt_ok yJ13_bitCount_95d88 RJ13 cJ13_bitCount_95d88 2 (some .int) 1 := ⟨mc_yJ13_bitCount_95d88, mn_J13, rfl, by decide +kernel⟩
set_option maxHeartbeats 4000000 in
set_option maxRecDepth 100000 in
theorem b_J13_bitCount_95d88 {p : Program} {l : Launch} {e : Env} {R : Room} {s : State} {m : MethodId} {args : Array Value} {below : List Frame} {meth : Method} {c : Code} {Q : State → Prop} {A : Nat → Prop} (D : va_G) (cI cJ : ClassId) (x : Int64)  {ls : Array Slot} (hx : p.tables.exec = Jvm.exec) (hb : c.code = cJ13_bitCount_95d88) (hml : c.maxLocals = 2) (hown : s.vm.findClass RJ13 = some m.cls) (htb : ∀ w ∈ BIG, w.before args s = true) (hRf : 0 ≤ R.frames) (hRl : 0 ≤ R.locals) (hK : va_K D vwCl [(cI, .int), (cJ, .long)] s) (hN : nw s) (hA : ∀ q, s.heap.size ≤ q → A q) (hP : va_P D vwCl [] s.heap) (hl : lv_has ls 2 [(0, .long x)])
    (hret : ∀ (r : Int32)  (H : Heap) (locs : List Loc) (pc : Nat) (ls : Array Slot), decode cJ13_bitCount_95d88 pc = .ok (.ireturn, 1) → (r = c_bc x) → va_S A s.heap H locs → W p l e R s m args below meth c H locs 0 0 Q (F0 m pc ls [.int r])) : W p l e R s m args below meth c s.heap [] 0 0 Q (F0 m 0 ls []) := by
  generalize hHe : s.heap = H at hP ⊢
  have hS : va_S A s.heap H [] := by rw [← hHe]; exact va_S.rf
  clear hHe
  refine lv_lload_n hx hb dJ13_bitCount_95d88_0 rfl (lv_at hl 0 rfl) ?_
  refine lv_lload_n hx hb dJ13_bitCount_95d88_1 rfl (lv_at hl 0 rfl) ?_
  refine lv_iconst (v := 1) hx hb dJ13_bitCount_95d88_2 (by decide) ?_
  refine lv_lushr hx hb dJ13_bitCount_95d88_3 rfl ?_
  refine lv_ldc2 (v := 6148914691236517205) hx hb hown (htb _ mk_J13_314) dJ13_bitCount_95d88_4 ?_
  refine lv_land hx hb dJ13_bitCount_95d88_7 ?_
  refine lv_lsub hx hb dJ13_bitCount_95d88_8 ?_
  refine lv_eql (y := c_b1 x) rfl ?_
  refine lv_lstore_n (lv' := [(0, .long (c_b1 x))]) hx hb dJ13_bitCount_95d88_9 rfl hl (by decide) rfl (fun ls hl => ?_)
  refine lv_lload_n hx hb dJ13_bitCount_95d88_10 rfl (lv_at hl 0 rfl) ?_
  refine lv_ldc2 (v := 3689348814741910323) hx hb hown (htb _ mk_J13_316) dJ13_bitCount_95d88_11 ?_
  refine lv_land hx hb dJ13_bitCount_95d88_14 ?_
  refine lv_lload_n hx hb dJ13_bitCount_95d88_15 rfl (lv_at hl 0 rfl) ?_
  refine lv_iconst (v := 2) hx hb dJ13_bitCount_95d88_16 (by decide) ?_
  refine lv_lushr hx hb dJ13_bitCount_95d88_17 rfl ?_
  refine lv_ldc2 (v := 3689348814741910323) hx hb hown (htb _ mk_J13_316) dJ13_bitCount_95d88_18 ?_
  refine lv_land hx hb dJ13_bitCount_95d88_21 ?_
  refine lv_ladd hx hb dJ13_bitCount_95d88_22 ?_
  refine lv_eql (y := c_b2 (c_b1 x)) rfl ?_
  refine lv_lstore_n (lv' := [(0, .long (c_b2 (c_b1 x)))]) hx hb dJ13_bitCount_95d88_23 rfl hl (by decide) rfl (fun ls hl => ?_)
  refine lv_lload_n hx hb dJ13_bitCount_95d88_24 rfl (lv_at hl 0 rfl) ?_
  refine lv_lload_n hx hb dJ13_bitCount_95d88_25 rfl (lv_at hl 0 rfl) ?_
  refine lv_iconst (v := 4) hx hb dJ13_bitCount_95d88_26 (by decide) ?_
  refine lv_lushr hx hb dJ13_bitCount_95d88_27 rfl ?_
  refine lv_ladd hx hb dJ13_bitCount_95d88_28 ?_
  refine lv_ldc2 (v := 1085102592571150095) hx hb hown (htb _ mk_J13_318) dJ13_bitCount_95d88_29 ?_
  refine lv_land hx hb dJ13_bitCount_95d88_32 ?_
  refine lv_eql (y := c_b3 (c_b2 (c_b1 x))) rfl ?_
  refine lv_lstore_n (lv' := [(0, .long (c_b3 (c_b2 (c_b1 x))))]) hx hb dJ13_bitCount_95d88_33 rfl hl (by decide) rfl (fun ls hl => ?_)
  refine lv_lload_n hx hb dJ13_bitCount_95d88_34 rfl (lv_at hl 0 rfl) ?_
  refine lv_lload_n hx hb dJ13_bitCount_95d88_35 rfl (lv_at hl 0 rfl) ?_
  refine lv_bipush (v := 8) hx hb dJ13_bitCount_95d88_36 (by decide) ?_
  refine lv_lushr hx hb dJ13_bitCount_95d88_38 rfl ?_
  refine lv_ladd hx hb dJ13_bitCount_95d88_39 ?_
  refine lv_eql (y := c_b4 8 (c_b3 (c_b2 (c_b1 x)))) rfl ?_
  refine lv_lstore_n (lv' := [(0, .long (c_b4 8 (c_b3 (c_b2 (c_b1 x)))))]) hx hb dJ13_bitCount_95d88_40 rfl hl (by decide) rfl (fun ls hl => ?_)
  refine lv_lload_n hx hb dJ13_bitCount_95d88_41 rfl (lv_at hl 0 rfl) ?_
  refine lv_lload_n hx hb dJ13_bitCount_95d88_42 rfl (lv_at hl 0 rfl) ?_
  refine lv_bipush (v := 16) hx hb dJ13_bitCount_95d88_43 (by decide) ?_
  refine lv_lushr hx hb dJ13_bitCount_95d88_45 rfl ?_
  refine lv_ladd hx hb dJ13_bitCount_95d88_46 ?_
  refine lv_eql (y := c_b4 16 (c_b4 8 (c_b3 (c_b2 (c_b1 x))))) rfl ?_
  refine lv_lstore_n (lv' := [(0, .long (c_b4 16 (c_b4 8 (c_b3 (c_b2 (c_b1 x))))))]) hx hb dJ13_bitCount_95d88_47 rfl hl (by decide) rfl (fun ls hl => ?_)
  refine lv_lload_n hx hb dJ13_bitCount_95d88_48 rfl (lv_at hl 0 rfl) ?_
  refine lv_lload_n hx hb dJ13_bitCount_95d88_49 rfl (lv_at hl 0 rfl) ?_
  refine lv_bipush (v := 32) hx hb dJ13_bitCount_95d88_50 (by decide) ?_
  refine lv_lushr hx hb dJ13_bitCount_95d88_52 rfl ?_
  refine lv_ladd hx hb dJ13_bitCount_95d88_53 ?_
  refine lv_eql (y := c_b4 32 (c_b4 16 (c_b4 8 (c_b3 (c_b2 (c_b1 x)))))) rfl ?_
  refine lv_lstore_n (lv' := [(0, .long (c_b4 32 (c_b4 16 (c_b4 8 (c_b3 (c_b2 (c_b1 x)))))))]) hx hb dJ13_bitCount_95d88_54 rfl hl (by decide) rfl (fun ls hl => ?_)
  refine lv_lload_n hx hb dJ13_bitCount_95d88_55 rfl (lv_at hl 0 rfl) ?_
  refine lv_l2i hx hb dJ13_bitCount_95d88_56 rfl ?_
  refine lv_bipush (v := 127) hx hb dJ13_bitCount_95d88_57 (by decide) ?_
  refine lv_iand hx hb dJ13_bitCount_95d88_59 ?_
  exact hret (((c_b4 32 (c_b4 16 (c_b4 8 (c_b3 (c_b2 (c_b1 x)))))).toInt32) &&& 127) _ _ _ _ dJ13_bitCount_95d88_60 (rfl) hS
set_option maxHeartbeats 4000000 in
set_option maxRecDepth 100000 in
theorem c_J13_bitCount_95d88 (l : Launch) (D : va_G) (cI cJ : ClassId) (x : Int64) (sz : Nat)  : Met l yJ13_bitCount_95d88 (Cond.code yJ13_bitCount_95d88 cJ13_bitCount_95d88 2 (some .int) :: BIG) ({ frames := 0, cells := 0, slots := 0, locals := 0 }) (va_Pc [.long x] (pr_R D cI cJ [] sz)) (va_Qi (fun (r u : Int32) => u = r) (fun (u : Int32) (t : State) => u = c_bc x) (va_A [] sz)) 0 0 (va_A [] sz) := by
  refine Met.ofW (cc := cJ13_bitCount_95d88) (maxL := 2) (ret := (some .int)) (by decide) rfl ?_
  intro p e s m args below meth c s₁ B hml hv
  obtain ⟨rfl, hsz, hP, hK, hN⟩ := hv
  have hl := lv_entry ([.long x]) (n := 2) (Nat.le_of_ble_eq_true rfl)
  rw [lg_entry_eq]
  subst hsz
  generalize (lg_sl ([.long x]) ++ List.replicate (2 - (lg_sl ([.long x])).length) Slot.unset).toArray = ls at hl ⊢
  exact b_J13_bitCount_95d88 (A := va_A [] s.heap.size) D cI cJ x  B.exec B.bytes hml (findClass_of_methodNamed B.named) (fun w h => atoms_spec B.pre w (List.mem_cons_of_mem _ h)) (Nat.le_of_ble_eq_true rfl) (Nat.le_of_ble_eq_true rfl) hK hN (fun q h => Or.inr h) hP hl (fun r  H locs pc ls hdg hpost hS => W.iret B.exec B.bytes B.returns (fun t ht hW => ⟨⟨r, r, rfl, rfl, hpost⟩, hS.F ht⟩) hS.2.2 hdg B.notSynchronized)
theorem mt_X4_oddness : mt_ok yX4_oddness RX4 cX4_oddness 2 (some .int) 1 := ⟨mc_yX4_oddness, mn_X4, rfl, by decide +kernel⟩
set_option maxHeartbeats 4000000 in
set_option maxRecDepth 100000 in
theorem b_X4_oddness {p : Program} {l : Launch} {e : Env} {R : Room} {s : State} {m : MethodId} {args : Array Value} {below : List Frame} {meth : Method} {c : Code} {Q : State → Prop} {A : Nat → Prop} (D : va_G) (cI cJ : ClassId) (x : Int64)  {ls : Array Slot} (hx : p.tables.exec = Jvm.exec) (hb : c.code = cX4_oddness) (hml : c.maxLocals = 2) (hown : s.vm.findClass RX4 = some m.cls) (htb : ∀ w ∈ BIG, w.before args s = true) (hRf : 1 ≤ R.frames) (hRl : 21 ≤ R.locals) (hK : va_K D vwCl [(cI, .int), (cJ, .long)] s) (hN : nw s) (hA : ∀ q, s.heap.size ≤ q → A q) (hP : va_P D vwCl [] s.heap) (hl : lv_has ls 2 [(0, .long x)])
    (hret : ∀ (r : Int32)  (H : Heap) (locs : List Loc) (pc : Nat) (ls : Array Slot), decode cX4_oddness pc = .ok (.ireturn, 1) → (r = c_odd x) → va_S A s.heap H locs → W p l e R s m args below meth c H locs 0 0 Q (F0 m pc ls [.int r])) : W p l e R s m args below meth c s.heap [] 0 0 Q (F0 m 0 ls []) := by
  generalize hHe : s.heap = H at hP ⊢
  have hS : va_S A s.heap H [] := by rw [← hHe]; exact va_S.rf
  clear hHe
  refine lv_lload_n hx hb dX4_oddness_0 rfl (lv_at hl 0 rfl) ?_
  refine va_calli (va_runS (As := [.long x]) (rest := []) ⟨hx, hb, hml, hown, htb⟩ (c_J13_bitCount_95d88 l D cI cJ x H.size ) (cb_S htb mt_J13_bitCount_95d88 ms_yJ13_bitCount_95d88 mm_X4_209 ⟨Nat.le_trans (Nat.le_of_ble_eq_true rfl) hRf, Nat.le_trans (Nat.le_of_ble_eq_true rfl) hRl⟩) ⟨bl_R, pre_R va_nil hK hN⟩ rfl rfl hl.1 rfl (lv_room (Nat.le_of_ble_eq_true rfl)) dX4_oddness_1 ⟨Nat.zero_le _, Nat.zero_le _⟩) hS ro_A (ro_F hS hA) (fun r_1 u t H1 locs ht hvm hu hB hz1 hk1 hS => ?_)
  have hu2 := hu.symm; subst hu2
  replace hP := ro_P hP hk1
  clear hk1 hz1 hvm ht
  generalize H1 = H at hP hS ⊢
  obtain rfl : r_1 = c_bc x := hB
  refine lv_iconst (v := 1) hx hb dX4_oddness_4 (by decide) ?_
  refine lv_iand hx hb dX4_oddness_5 ?_
  exact hret ((c_bc x) &&& 1) _ _ _ _ dX4_oddness_6 (rfl) hS
set_option maxHeartbeats 4000000 in
set_option maxRecDepth 100000 in
theorem c_X4_oddness (l : Launch) (D : va_G) (cI cJ : ClassId) (x : Int64) (sz : Nat)  : Met l yX4_oddness (Cond.code yX4_oddness cX4_oddness 2 (some .int) :: BIG) ({ frames := 1, cells := 0, slots := 0, locals := 21 }) (va_Pc [.long x] (pr_R D cI cJ [] sz)) (va_Qi (fun (r u : Int32) => u = r) (fun (u : Int32) (t : State) => u = c_odd x) (va_A [] sz)) 0 0 (va_A [] sz) := by
  refine Met.ofW (cc := cX4_oddness) (maxL := 2) (ret := (some .int)) (by decide) rfl ?_
  intro p e s m args below meth c s₁ B hml hv
  obtain ⟨rfl, hsz, hP, hK, hN⟩ := hv
  have hl := lv_entry ([.long x]) (n := 2) (Nat.le_of_ble_eq_true rfl)
  rw [lg_entry_eq]
  subst hsz
  generalize (lg_sl ([.long x]) ++ List.replicate (2 - (lg_sl ([.long x])).length) Slot.unset).toArray = ls at hl ⊢
  exact b_X4_oddness (A := va_A [] s.heap.size) D cI cJ x  B.exec B.bytes hml (findClass_of_methodNamed B.named) (fun w h => atoms_spec B.pre w (List.mem_cons_of_mem _ h)) (Nat.le_of_ble_eq_true rfl) (Nat.le_of_ble_eq_true rfl) hK hN (fun q h => Or.inr h) hP hl (fun r  H locs pc ls hdg hpost hS => W.iret B.exec B.bytes B.returns (fun t ht hW => ⟨⟨r, r, rfl, rfl, hpost⟩, hS.F ht⟩) hS.2.2 hdg B.notSynchronized)
theorem mt_X4_differences : mt_ok yX4_differences RX4 cX4_differences 4 (some .int) 2 := ⟨mc_yX4_differences, mn_X4, rfl, by decide +kernel⟩
set_option maxHeartbeats 4000000 in
set_option maxRecDepth 100000 in
theorem b_X4_differences {p : Program} {l : Launch} {e : Env} {R : Room} {s : State} {m : MethodId} {args : Array Value} {below : List Frame} {meth : Method} {c : Code} {Q : State → Prop} {A : Nat → Prop} (D : va_G) (cI cJ : ClassId) (x : Int64) (y : Int64)  {ls : Array Slot} (hx : p.tables.exec = Jvm.exec) (hb : c.code = cX4_differences) (hml : c.maxLocals = 4) (hown : s.vm.findClass RX4 = some m.cls) (htb : ∀ w ∈ BIG, w.before args s = true) (hRf : 1 ≤ R.frames) (hRl : 21 ≤ R.locals) (hK : va_K D vwCl [(cI, .int), (cJ, .long)] s) (hN : nw s) (hA : ∀ q, s.heap.size ≤ q → A q) (hP : va_P D vwCl [] s.heap) (hl : lv_has ls 4 [(0, .long x), (2, .long y)])
    (hret : ∀ (r : Int32)  (H : Heap) (locs : List Loc) (pc : Nat) (ls : Array Slot), decode cX4_differences pc = .ok (.ireturn, 1) → (r = c_bc (x ^^^ y)) → va_S A s.heap H locs → W p l e R s m args below meth c H locs 0 0 Q (F0 m pc ls [.int r])) : W p l e R s m args below meth c s.heap [] 0 0 Q (F0 m 0 ls []) := by
  generalize hHe : s.heap = H at hP ⊢
  have hS : va_S A s.heap H [] := by rw [← hHe]; exact va_S.rf
  clear hHe
  refine lv_lload_n hx hb dX4_differences_0 rfl (lv_at hl 0 rfl) ?_
  refine lv_lload_n hx hb dX4_differences_1 rfl (lv_at hl 1 rfl) ?_
  refine lv_lxor hx hb dX4_differences_2 ?_
  refine va_calli (va_runS (As := [.long (x ^^^ y)]) (rest := []) ⟨hx, hb, hml, hown, htb⟩ (c_J13_bitCount_95d88 l D cI cJ (x ^^^ y) H.size ) (cb_S htb mt_J13_bitCount_95d88 ms_yJ13_bitCount_95d88 mm_X4_209 ⟨Nat.le_trans (Nat.le_of_ble_eq_true rfl) hRf, Nat.le_trans (Nat.le_of_ble_eq_true rfl) hRl⟩) ⟨bl_R, pre_R va_nil hK hN⟩ rfl rfl hl.1 rfl (lv_room (Nat.le_of_ble_eq_true rfl)) dX4_differences_3 ⟨Nat.zero_le _, Nat.zero_le _⟩) hS ro_A (ro_F hS hA) (fun r_3 u t H1 locs ht hvm hu hB hz1 hk1 hS => ?_)
  have hu2 := hu.symm; subst hu2
  replace hP := ro_P hP hk1
  clear hk1 hz1 hvm ht
  generalize H1 = H at hP hS ⊢
  obtain rfl : r_3 = c_bc (x ^^^ y) := hB
  exact hret (c_bc (x ^^^ y)) _ _ _ _ dX4_differences_6 (rfl) hS
set_option maxHeartbeats 4000000 in
set_option maxRecDepth 100000 in
theorem c_X4_differences (l : Launch) (D : va_G) (cI cJ : ClassId) (x : Int64) (y : Int64) (sz : Nat)  : Met l yX4_differences (Cond.code yX4_differences cX4_differences 4 (some .int) :: BIG) ({ frames := 1, cells := 0, slots := 0, locals := 21 }) (va_Pc [.long x, .long y] (pr_R D cI cJ [] sz)) (va_Qi (fun (r u : Int32) => u = r) (fun (u : Int32) (t : State) => u = c_bc (x ^^^ y)) (va_A [] sz)) 0 0 (va_A [] sz) := by
  refine Met.ofW (cc := cX4_differences) (maxL := 4) (ret := (some .int)) (by decide) rfl ?_
  intro p e s m args below meth c s₁ B hml hv
  obtain ⟨rfl, hsz, hP, hK, hN⟩ := hv
  have hl := lv_entry ([.long x, .long y]) (n := 4) (Nat.le_of_ble_eq_true rfl)
  rw [lg_entry_eq]
  subst hsz
  generalize (lg_sl ([.long x, .long y]) ++ List.replicate (4 - (lg_sl ([.long x, .long y])).length) Slot.unset).toArray = ls at hl ⊢
  exact b_X4_differences (A := va_A [] s.heap.size) D cI cJ x y  B.exec B.bytes hml (findClass_of_methodNamed B.named) (fun w h => atoms_spec B.pre w (List.mem_cons_of_mem _ h)) (Nat.le_of_ble_eq_true rfl) (Nat.le_of_ble_eq_true rfl) hK hN (fun q h => Or.inr h) hP hl (fun r  H locs pc ls hdg hpost hS => W.iret B.exec B.bytes B.returns (fun t ht hW => ⟨⟨r, r, rfl, rfl, hpost⟩, hS.F ht⟩) hS.2.2 hdg B.notSynchronized)
theorem mt_X4_mix : mt_ok yX4_mix RX4 cX4_mix 7 (some .long) 3 := ⟨mc_yX4_mix, mn_X4, rfl, by decide +kernel⟩
set_option maxHeartbeats 4000000 in
set_option maxRecDepth 100000 in
theorem b_X4_mix {p : Program} {l : Launch} {e : Env} {R : Room} {s : State} {m : MethodId} {args : Array Value} {below : List Frame} {meth : Method} {c : Code} {Q : State → Prop} {A : Nat → Prop} (D : va_G) (cI cJ : ClassId) (row : Int64) (size : Int32) (mask : Int32)  {ls : Array Slot} (hx : p.tables.exec = Jvm.exec) (hb : c.code = cX4_mix) (hml : c.maxLocals = 7) (hown : s.vm.findClass RX4 = some m.cls) (htb : ∀ w ∈ BIG, w.before args s = true) (hRf : 2 ≤ R.frames) (hRl : 42 ≤ R.locals) (hK : va_K D vwCl [(cI, .int), (cJ, .long)] s) (hN : nw s) (hA : ∀ q, s.heap.size ≤ q → A q) (hP : va_P D vwCl [] s.heap) (hl : lv_has ls 7 [(0, .long row), (2, .int size), (3, .int mask)])
    (hret : ∀ (r : Int64)  (H : Heap) (locs : List Loc) (pc : Nat) (ls : Array Slot), decode cX4_mix pc = .ok (.lreturn, 1) → (r = c_mixN row size mask (nB size)) → va_S A s.heap H locs → W p l e R s m args below meth c H locs 0 0 Q (F0 m pc ls [.long r])) : W p l e R s m args below meth c s.heap [] 0 0 Q (F0 m 0 ls []) := by
  generalize hHe : s.heap = H at hP ⊢
  have hS : va_S A s.heap H [] := by rw [← hHe]; exact va_S.rf
  clear hHe
  refine lv_lconst (v := 0) hx hb dX4_mix_0 (by decide) ?_
  refine lv_lstore (lv' := [(4, .long 0), (0, .long row), (2, .int size), (3, .int mask)]) hx hb dX4_mix_1 hl (by decide) rfl (fun ls hl => ?_)
  refine lv_iconst (v := 0) hx hb dX4_mix_3 (by decide) ?_
  refine lv_istore (lv' := [(6, .int 0), (4, .long 0), (0, .long row), (2, .int size), (3, .int mask)]) hx hb dX4_mix_4 hl (by decide) rfl (fun ls hl => ?_)
  have LOOP_6 : ∀ (fu : Nat) (k : Nat) (H : Heap) (locs : List Loc) (ls : Array Slot), (k ≤ nB size) → nB size - k < fu → va_P D vwCl [] H → va_S A s.heap H locs → lv_has ls 7 [(6, .int (nI k)), (4, .long (c_mixN row size mask k)), (0, .long row), (2, .int size), (3, .int mask)] → W p l e R s m args below meth c H locs 0 0 Q (F0 m 6 ls []) := by
    intro fu
    induction fu with
    | zero => intro k H locs ls hk hn; exact absurd hn (Nat.not_lt_zero _)
    | succ fu ih_6 =>
      intro k H locs ls hk hn hP hS hl
      refine lv_iload hx hb dX4_mix_6 (lv_at hl 0 rfl) ?_
      refine lv_iload_n hx hb dX4_mix_8 rfl (lv_at hl 3 rfl) ?_
      refine lv_icmp_ge (tgt := 44) hx hb dX4_mix_9 (by decide) (fun c_9 => ?_) (fun c_9 => ?_)
      · skip
        refine lv_lload hx hb dX4_mix_44 (lv_at hl 1 rfl) ?_
        exact hret (c_mixN row size mask k) _ _ _ _ dX4_mix_46 (by rw [← lp_out hk c_9]) hS
      · skip
        refine lv_ldc2 (v := 2) hx hb hown (htb _ mk_X4_215) dX4_mix_12 ?_
        refine lv_lload hx hb dX4_mix_15 (lv_at hl 1 rfl) ?_
        refine lv_lmul hx hb dX4_mix_17 ?_
        refine lv_lload_n hx hb dX4_mix_18 rfl (lv_at hl 2 rfl) ?_
        refine lv_iload_n hx hb dX4_mix_19 rfl (lv_at hl 3 rfl) ?_
        refine lv_iload hx hb dX4_mix_20 (lv_at hl 0 rfl) ?_
        refine va_calli (va_runS (As := [.long row, .int size, .int (nI k)]) (rest := [.long (2 * c_mixN row size mask k)]) ⟨hx, hb, hml, hown, htb⟩ (c_X4_bitOf l D cI cJ row size (nI k) H.size ) (cb_S htb mt_X4_bitOf ms_yX4_bitOf mm_X4_85 ⟨Nat.le_trans (Nat.le_of_ble_eq_true rfl) hRf, Nat.le_trans (Nat.le_of_ble_eq_true rfl) hRl⟩) ⟨bl_R, pre_R va_nil hK hN⟩ rfl rfl hl.1 rfl (lv_room (Nat.le_of_ble_eq_true rfl)) dX4_mix_22 ⟨Nat.zero_le _, Nat.zero_le _⟩) hS ro_A (ro_F hS hA) (fun r_22 u t H1 locs ht hvm hu hB hz1 hk1 hS => ?_)
        have hu2 := hu.symm; subst hu2
        replace hP := ro_P hP hk1
        clear hk1 hz1 hvm ht
        generalize H1 = H at hP hS ⊢
        obtain rfl : r_22 = c_bit row size (nI k) := hB
        refine lv_lload hx hb dX4_mix_25 (lv_at hl 1 rfl) ?_
        refine lv_iload_n hx hb dX4_mix_27 rfl (lv_at hl 4 rfl) ?_
        refine lv_i2l hx hb dX4_mix_28 rfl ?_
        refine lv_land hx hb dX4_mix_29 ?_
        refine va_calli (va_runS (As := [.long (c_mixN row size mask k &&& (mask.toInt64))]) (rest := [.int (c_bit row size (nI k)), .long (2 * c_mixN row size mask k)]) ⟨hx, hb, hml, hown, htb⟩ (c_X4_oddness l D cI cJ (c_mixN row size mask k &&& (mask.toInt64)) H.size ) (cb_S htb mt_X4_oddness ms_yX4_oddness mm_X4_217 ⟨Nat.le_trans (Nat.le_of_ble_eq_true rfl) hRf, Nat.le_trans (Nat.le_of_ble_eq_true rfl) hRl⟩) ⟨bl_R, pre_R va_nil hK hN⟩ rfl rfl hl.1 rfl (lv_room (Nat.le_of_ble_eq_true rfl)) dX4_mix_30 ⟨Nat.zero_le _, Nat.zero_le _⟩) hS ro_A (ro_F hS hA) (fun r_30 u t H1 locs ht hvm hu hB hz1 hk1 hS => ?_)
        have hu2 := hu.symm; subst hu2
        replace hP := ro_P hP hk1
        clear hk1 hz1 hvm ht
        generalize H1 = H at hP hS ⊢
        obtain rfl : r_30 = c_odd (c_mixN row size mask k &&& (mask.toInt64)) := hB
        refine lv_ixor hx hb dX4_mix_33 ?_
        refine lv_i2l hx hb dX4_mix_34 rfl ?_
        refine lv_ladd hx hb dX4_mix_35 ?_
        refine lv_eql (y := c_mixN row size mask (k + 1)) rfl ?_
        refine lv_lstore (lv' := [(4, .long (c_mixN row size mask (k + 1))), (6, .int (nI k)), (0, .long row), (2, .int size), (3, .int mask)]) hx hb dX4_mix_36 hl (by decide) rfl (fun ls hl => ?_)
        refine lv_iinc (v := nI (k + 1)) (lv' := [(6, .int (nI (k + 1))), (4, .long (c_mixN row size mask (k + 1))), (0, .long row), (2, .int size), (3, .int mask)]) hx hb dX4_mix_38 hl (k := 1) rfl (nI_s k) (by decide) rfl (fun ls hl => ?_)
        refine lv_goto (tgt := 6) hx hb dX4_mix_41 (by decide) ?_
        exact ih_6 (k + 1) _ _ _ (lp_go hk c_9) (by have := lp_go hk c_9; omega) hP hS (lv_sub hl [0, 1, 2, 3, 4] rfl)
  exact LOOP_6 _ 0 _ _ _ (Nat.zero_le _) (Nat.lt_succ_self _) hP hS (lv_sub hl [0, 1, 2, 3, 4] rfl)
set_option maxHeartbeats 4000000 in
set_option maxRecDepth 100000 in
theorem c_X4_mix (l : Launch) (D : va_G) (cI cJ : ClassId) (row : Int64) (size : Int32) (mask : Int32) (sz : Nat)  : Met l yX4_mix (Cond.code yX4_mix cX4_mix 7 (some .long) :: BIG) ({ frames := 2, cells := 0, slots := 0, locals := 42 }) (va_Pc [.long row, .int size, .int mask] (pr_R D cI cJ [] sz)) (va_Ql (fun (r u : Int64) => u = r) (fun (u : Int64) (t : State) => u = c_mixN row size mask (nB size)) (va_A [] sz)) 0 0 (va_A [] sz) := by
  refine Met.ofW (cc := cX4_mix) (maxL := 7) (ret := (some .long)) (by decide) rfl ?_
  intro p e s m args below meth c s₁ B hml hv
  obtain ⟨rfl, hsz, hP, hK, hN⟩ := hv
  have hl := lv_entry ([.long row, .int size, .int mask]) (n := 7) (Nat.le_of_ble_eq_true rfl)
  rw [lg_entry_eq]
  subst hsz
  generalize (lg_sl ([.long row, .int size, .int mask]) ++ List.replicate (7 - (lg_sl ([.long row, .int size, .int mask])).length) Slot.unset).toArray = ls at hl ⊢
  exact b_X4_mix (A := va_A [] s.heap.size) D cI cJ row size mask  B.exec B.bytes hml (findClass_of_methodNamed B.named) (fun w h => atoms_spec B.pre w (List.mem_cons_of_mem _ h)) (Nat.le_of_ble_eq_true rfl) (Nat.le_of_ble_eq_true rfl) hK hN (fun q h => Or.inr h) hP hl (fun r  H locs pc ls hdg hpost hS => W.lret B.exec B.bytes B.returns (fun t ht hW => ⟨⟨r, r, rfl, rfl, hpost⟩, hS.F ht⟩) hS.2.2 hdg B.notSynchronized)
theorem mt_X4_unmix : mt_ok yX4_unmix RX4 cX4_unmix 9 (some .long) 3 := ⟨mc_yX4_unmix, mn_X4, rfl, by decide +kernel⟩
set_option maxHeartbeats 4000000 in
set_option maxRecDepth 100000 in
theorem b_X4_unmix {p : Program} {l : Launch} {e : Env} {R : Room} {s : State} {m : MethodId} {args : Array Value} {below : List Frame} {meth : Method} {c : Code} {Q : State → Prop} {A : Nat → Prop} (D : va_G) (cI cJ : ClassId) (row : Int64) (size : Int32) (mask : Int32)  {ls : Array Slot} (hx : p.tables.exec = Jvm.exec) (hb : c.code = cX4_unmix) (hml : c.maxLocals = 9) (hown : s.vm.findClass RX4 = some m.cls) (htb : ∀ w ∈ BIG, w.before args s = true) (hRf : 2 ≤ R.frames) (hRl : 42 ≤ R.locals) (hK : va_K D vwCl [(cI, .int), (cJ, .long)] s) (hN : nw s) (hA : ∀ q, s.heap.size ≤ q → A q) (hP : va_P D vwCl [] s.heap) (hl : lv_has ls 9 [(0, .long row), (2, .int size), (3, .int mask)])
    (hret : ∀ (r : Int64)  (H : Heap) (locs : List Loc) (pc : Nat) (ls : Array Slot), decode cX4_unmix pc = .ok (.lreturn, 1) → (r = c_unmixN row size mask (nB size)) → va_S A s.heap H locs → W p l e R s m args below meth c H locs 0 0 Q (F0 m pc ls [.long r])) : W p l e R s m args below meth c s.heap [] 0 0 Q (F0 m 0 ls []) := by
  generalize hHe : s.heap = H at hP ⊢
  have hS : va_S A s.heap H [] := by rw [← hHe]; exact va_S.rf
  clear hHe
  refine lv_lconst (v := 0) hx hb dX4_unmix_0 (by decide) ?_
  refine lv_lstore (lv' := [(4, .long 0), (0, .long row), (2, .int size), (3, .int mask)]) hx hb dX4_unmix_1 hl (by decide) rfl (fun ls hl => ?_)
  refine lv_iconst (v := 0) hx hb dX4_unmix_3 (by decide) ?_
  refine lv_istore (lv' := [(6, .int 0), (4, .long 0), (0, .long row), (2, .int size), (3, .int mask)]) hx hb dX4_unmix_4 hl (by decide) rfl (fun ls hl => ?_)
  have LOOP_6 : ∀ (fu : Nat) (k : Nat) (H : Heap) (locs : List Loc) (ls : Array Slot), (k ≤ nB size) → nB size - k < fu → va_P D vwCl [] H → va_S A s.heap H locs → lv_has ls 9 [(6, .int (nI k)), (4, .long (c_unmixN row size mask k)), (0, .long row), (2, .int size), (3, .int mask)] → W p l e R s m args below meth c H locs 0 0 Q (F0 m 6 ls []) := by
    intro fu
    induction fu with
    | zero => intro k H locs ls hk hn; exact absurd hn (Nat.not_lt_zero _)
    | succ fu ih_6 =>
      intro k H locs ls hk hn hP hS hl
      refine lv_iload hx hb dX4_unmix_6 (lv_at hl 0 rfl) ?_
      refine lv_iload_n hx hb dX4_unmix_8 rfl (lv_at hl 3 rfl) ?_
      refine lv_icmp_ge (tgt := 52) hx hb dX4_unmix_9 (by decide) (fun c_9 => ?_) (fun c_9 => ?_)
      · skip
        refine lv_lload hx hb dX4_unmix_52 (lv_at hl 1 rfl) ?_
        exact hret (c_unmixN row size mask k) _ _ _ _ dX4_unmix_54 (by rw [← lp_out hk c_9]) hS
      · skip
        refine lv_lload_n hx hb dX4_unmix_12 rfl (lv_at hl 2 rfl) ?_
        refine lv_iload_n hx hb dX4_unmix_13 rfl (lv_at hl 3 rfl) ?_
        refine lv_iload hx hb dX4_unmix_14 (lv_at hl 0 rfl) ?_
        refine lv_isub hx hb dX4_unmix_16 ?_
        refine lv_lshr hx hb dX4_unmix_17 rfl ?_
        refine lv_lstore (lv' := [(7, .long (row >>> ((size - nI k).toInt64 &&& 63))), (6, .int (nI k)), (4, .long (c_unmixN row size mask k)), (0, .long row), (2, .int size), (3, .int mask)]) hx hb dX4_unmix_18 hl (by decide) rfl (fun ls hl => ?_)
        refine lv_ldc2 (v := 2) hx hb hown (htb _ mk_X4_215) dX4_unmix_20 ?_
        refine lv_lload hx hb dX4_unmix_23 (lv_at hl 2 rfl) ?_
        refine lv_lmul hx hb dX4_unmix_25 ?_
        refine lv_lload_n hx hb dX4_unmix_26 rfl (lv_at hl 3 rfl) ?_
        refine lv_iload_n hx hb dX4_unmix_27 rfl (lv_at hl 4 rfl) ?_
        refine lv_iload hx hb dX4_unmix_28 (lv_at hl 1 rfl) ?_
        refine va_calli (va_runS (As := [.long row, .int size, .int (nI k)]) (rest := [.long (2 * c_unmixN row size mask k)]) ⟨hx, hb, hml, hown, htb⟩ (c_X4_bitOf l D cI cJ row size (nI k) H.size ) (cb_S htb mt_X4_bitOf ms_yX4_bitOf mm_X4_85 ⟨Nat.le_trans (Nat.le_of_ble_eq_true rfl) hRf, Nat.le_trans (Nat.le_of_ble_eq_true rfl) hRl⟩) ⟨bl_R, pre_R va_nil hK hN⟩ rfl rfl hl.1 rfl (lv_room (Nat.le_of_ble_eq_true rfl)) dX4_unmix_30 ⟨Nat.zero_le _, Nat.zero_le _⟩) hS ro_A (ro_F hS hA) (fun r_30 u t H1 locs ht hvm hu hB hz1 hk1 hS => ?_)
        have hu2 := hu.symm; subst hu2
        replace hP := ro_P hP hk1
        clear hk1 hz1 hvm ht
        generalize H1 = H at hP hS ⊢
        obtain rfl : r_30 = c_bit row size (nI k) := hB
        refine lv_lload hx hb dX4_unmix_33 (lv_at hl 0 rfl) ?_
        refine lv_iload_n hx hb dX4_unmix_35 rfl (lv_at hl 5 rfl) ?_
        refine lv_i2l hx hb dX4_unmix_36 rfl ?_
        refine lv_land hx hb dX4_unmix_37 ?_
        refine va_calli (va_runS (As := [.long ((row >>> ((size - nI k).toInt64 &&& 63)) &&& (mask.toInt64))]) (rest := [.int (c_bit row size (nI k)), .long (2 * c_unmixN row size mask k)]) ⟨hx, hb, hml, hown, htb⟩ (c_X4_oddness l D cI cJ ((row >>> ((size - nI k).toInt64 &&& 63)) &&& (mask.toInt64)) H.size ) (cb_S htb mt_X4_oddness ms_yX4_oddness mm_X4_217 ⟨Nat.le_trans (Nat.le_of_ble_eq_true rfl) hRf, Nat.le_trans (Nat.le_of_ble_eq_true rfl) hRl⟩) ⟨bl_R, pre_R va_nil hK hN⟩ rfl rfl hl.1 rfl (lv_room (Nat.le_of_ble_eq_true rfl)) dX4_unmix_38 ⟨Nat.zero_le _, Nat.zero_le _⟩) hS ro_A (ro_F hS hA) (fun r_38 u t H1 locs ht hvm hu hB hz1 hk1 hS => ?_)
        have hu2 := hu.symm; subst hu2
        replace hP := ro_P hP hk1
        clear hk1 hz1 hvm ht
        generalize H1 = H at hP hS ⊢
        obtain rfl : r_38 = c_odd ((row >>> ((size - nI k).toInt64 &&& 63)) &&& (mask.toInt64)) := hB
        refine lv_ixor hx hb dX4_unmix_41 ?_
        refine lv_i2l hx hb dX4_unmix_42 rfl ?_
        refine lv_ladd hx hb dX4_unmix_43 ?_
        refine lv_eql (y := c_unmixN row size mask (k + 1)) rfl ?_
        refine lv_lstore (lv' := [(4, .long (c_unmixN row size mask (k + 1))), (7, .long (row >>> ((size - nI k).toInt64 &&& 63))), (6, .int (nI k)), (0, .long row), (2, .int size), (3, .int mask)]) hx hb dX4_unmix_44 hl (by decide) rfl (fun ls hl => ?_)
        refine lv_iinc (v := nI (k + 1)) (lv' := [(6, .int (nI (k + 1))), (4, .long (c_unmixN row size mask (k + 1))), (7, .long (row >>> ((size - nI k).toInt64 &&& 63))), (0, .long row), (2, .int size), (3, .int mask)]) hx hb dX4_unmix_46 hl (k := 2) rfl (nI_s k) (by decide) rfl (fun ls hl => ?_)
        refine lv_goto (tgt := 6) hx hb dX4_unmix_49 (by decide) ?_
        exact ih_6 (k + 1) _ _ _ (lp_go hk c_9) (by have := lp_go hk c_9; omega) hP hS (lv_sub hl [0, 1, 3, 4, 5] rfl)
  exact LOOP_6 _ 0 _ _ _ (Nat.zero_le _) (Nat.lt_succ_self _) hP hS (lv_sub hl [0, 1, 2, 3, 4] rfl)
set_option maxHeartbeats 4000000 in
set_option maxRecDepth 100000 in
theorem c_X4_unmix (l : Launch) (D : va_G) (cI cJ : ClassId) (row : Int64) (size : Int32) (mask : Int32) (sz : Nat)  : Met l yX4_unmix (Cond.code yX4_unmix cX4_unmix 9 (some .long) :: BIG) ({ frames := 2, cells := 0, slots := 0, locals := 42 }) (va_Pc [.long row, .int size, .int mask] (pr_R D cI cJ [] sz)) (va_Ql (fun (r u : Int64) => u = r) (fun (u : Int64) (t : State) => u = c_unmixN row size mask (nB size)) (va_A [] sz)) 0 0 (va_A [] sz) := by
  refine Met.ofW (cc := cX4_unmix) (maxL := 9) (ret := (some .long)) (by decide) rfl ?_
  intro p e s m args below meth c s₁ B hml hv
  obtain ⟨rfl, hsz, hP, hK, hN⟩ := hv
  have hl := lv_entry ([.long row, .int size, .int mask]) (n := 9) (Nat.le_of_ble_eq_true rfl)
  rw [lg_entry_eq]
  subst hsz
  generalize (lg_sl ([.long row, .int size, .int mask]) ++ List.replicate (9 - (lg_sl ([.long row, .int size, .int mask])).length) Slot.unset).toArray = ls at hl ⊢
  exact b_X4_unmix (A := va_A [] s.heap.size) D cI cJ row size mask  B.exec B.bytes hml (findClass_of_methodNamed B.named) (fun w h => atoms_spec B.pre w (List.mem_cons_of_mem _ h)) (Nat.le_of_ble_eq_true rfl) (Nat.le_of_ble_eq_true rfl) hK hN (fun q h => Or.inr h) hP hl (fun r  H locs pc ls hdg hpost hS => W.lret B.exec B.bytes B.returns (fun t ht hW => ⟨⟨r, r, rfl, rfl, hpost⟩, hS.F ht⟩) hS.2.2 hdg B.notSynchronized)
end
section
/-! Sender, Channel, Hearing: what they answer, as their code makes it -/
def c_app (ms w : Int64) (k : Int32) : Int64 := (ms <<< (k.toInt64 &&& 63)) ||| (w &&& (((1 : Int64) <<< (k.toInt64 &&& 63)) - 1))
def c_sign (cn cs i : Int32) : Int32 := if b_in i 0 (cn - 1) = 0 then 0 else if c_bit cs.toInt64 cn i = 1 then 1 else -1
def c_cv (g h st : Int32) (row : Int64) (half : Int32) : Int32 := if c_odd (row &&& (if half = 0 then g else h).toInt64) = 1 then st else -st
def c_fv (mx : Int64) (n g h st cn cs i : Int32) : Int32 := if cn ≤ i then (if (i - cn) / 2 < n + 3 then c_cv g h st ((mx <<< ((3 : Int32).toInt64 &&& 63)) >>> ((n + 3 - 1 - (i - cn) / 2).toInt64 &&& 63)) (i - cn - (i - cn) / 2 * 2) else 0) else c_sign cn cs i * st
def c_noise (ld z : Int32) : Int32 := if 1 ≤ 2 * ld + 1 then (z / 65536 - z / 65536 / (2 * ld + 1) * (2 * ld + 1)) - ld else 0
def c_draw (z : Int32) : Int32 := (z * 1103515245 + 12345) &&& 2147483647
def c_drawN (z : Int32) : Nat → Int32
  | 0 => z
  | k + 1 => c_draw (c_drawN z k)
def c_arrN (w : Nat → Int32) (lag ld : Int32) (mx : Int64) (n g h st cn cs i z : Int32) : Nat → Int32
  | 0 => c_noise ld z
  | k + 1 => c_arrN w lag ld mx n g h st cn cs i z k + w (nI k).toNatClampNeg * c_fv mx n g h st cn cs (i - lag - nI k)
def c_clip (v : Int32) : Int32 := if -4000 < (if v < 4000 then v else 4000) then (if v < 4000 then v else 4000) else -4000
def c_arr (w : Nat → Int32) (lag ld lf ll : Int32) (mx : Int64) (n g h st cn cs i z : Int32) : Int32 := if i < lf ∨ lf + ll ≤ i then c_clip (c_arrN w lag ld mx n g h st cn cs i z 4) else 0
def c_len (lag n cn : Int32) : Int32 := if lag + (cn + 2 * (n + 3)) + 8 < 140 then lag + (cn + 2 * (n + 3)) + 8 else 140
theorem c_len_le (lag n cn : Int32) : nB (c_len lag n cn) ≤ 140 := by
  unfold c_len nB
  split
  · rename_i h
    rw [Int32.lt_iff_toInt_lt] at h
    have : ((140 : Int32)).toInt = 140 := by decide
    omega
  · decide
def c_lisN (f : Nat → Int32) (w : Nat → Int32) (lag ld lf ll : Int32) (mx : Int64) (n g h st cn cs z : Int32) : Nat → (Nat → Int32)
  | 0 => f
  | k + 1 => upd (c_lisN f w lag ld lf ll mx n g h st cn cs z k) (nI k).toNatClampNeg (c_arr w lag ld lf ll mx n g h st cn cs (nI k) (c_drawN z (k + 1)))
def c_lis (f : Nat → Int32) (w : Nat → Int32) (lag ld lf ll : Int32) (mx : Int64) (n g h st cn cs z : Int32) : Nat → Int32 := c_lisN f w lag ld lf ll mx n g h st cn cs z (nB (c_len lag n cn))
def c_at (f : Nat → Int32) (i : Int32) : Int32 := if b_in i 0 (140 - 1) = 0 then 0 else f i.toNatClampNeg
theorem b_in_140 {i : Int32} (h : ¬ b_in i 0 (140 - 1) = 0) : vp_in i 140 := by
  have h1 := b_in_yes h
  have e : ((140 - 1 : Int32)).toInt = 139 := by decide
  have e0 : ((0 : Int32)).toInt = 0 := by decide
  rw [vp_in_iff]
  omega
def c_alN (f : Nat → Int32) (cn cs q : Int32) : Nat → Int32
  | 0 => 0
  | k + 1 => c_alN f cn cs q k + c_sign cn cs (nI k) * c_at f (q + nI k)
def c_al (f : Nat → Int32) (cn cs q : Int32) : Int32 := c_alN f cn cs q (nB cn)
def c_locN (f : Nat → Int32) (cn cs : Int32) : Nat → Int32 × Int32
  | 0 => (0, c_al f cn cs 0)
  | k + 1 => if c_al f cn cs (nI (k + 1)) ≤ (c_locN f cn cs k).2 then c_locN f cn cs k else (nI (k + 1), c_al f cn cs (nI (k + 1)))
def c_loc (f : Nat → Int32) (cn cs last least : Int32) : Int32 := if cn = 0 then -1 else if least ≤ (c_locN f cn cs (nB last)).2 then (c_locN f cn cs (nB last)).1 else -1
theorem lq_go {k : Nat} {b : Int32} (hb : b.toInt < 2147483647) (hk : k ≤ nB b) (h : ¬ b < nI (k + 1)) : k + 1 ≤ nB b := by
  have h2 : (nI (k + 1)).toInt = ((k + 1 : Nat) : Int) := nI_int (by unfold nB at hk; omega)
  rw [Int32.lt_iff_toInt_lt, h2] at h
  unfold nB at *
  omega
theorem lq_out {k : Nat} {b : Int32} (hb : b.toInt < 2147483647) (hk : k ≤ nB b) (h : b < nI (k + 1)) : k = nB b := by
  have h2 : (nI (k + 1)).toInt = ((k + 1 : Nat) : Int) := nI_int (by unfold nB at hk; omega)
  rw [Int32.lt_iff_toInt_lt, h2] at h
  unfold nB at *
  omega
end
section
theorem mt_X3_append : mt_ok yX3_append RX3 cX3_append 4 none 2 := ⟨mc_yX3_append, mn_X3, rfl, by decide +kernel⟩
set_option maxHeartbeats 4000000 in
set_option maxRecDepth 100000 in
theorem b_X3_append {p : Program} {l : Launch} {e : Env} {R : Room} {s : State} {m : MethodId} {args : Array Value} {below : List Frame} {meth : Method} {c : Code} {Q : State → Prop} {A : Nat → Prop} (D : va_G) (cI cJ : ClassId) (oS : Nat) (ms : Int64) (mx : Int64) (n : Int32) (mk : Int32) (g : Int32) (h : Int32) (st : Int32) (cn : Int32) (cs : Int32) (wv : Int64) (kv : Int32)  {ls : Array Slot} (hx : p.tables.exec = Jvm.exec) (hb : c.code = cX3_append) (hml : c.maxLocals = 4) (hown : s.vm.findClass RX3 = some m.cls) (htb : ∀ w ∈ BIG, w.before args s = true) (hRf : 3 ≤ R.frames) (hRl : 68 ≤ R.locals) (hK : va_K D vwCl [(cI, .int), (cJ, .long)] s) (hN : nw s) (hA : ∀ q, s.heap.size ≤ q → A q) (hP : va_P D vwCl [(oS, .inr (3, [.long ms, .long mx, .int n, .int mk, .int g, .int h, .int st, .int cn, .int cs]))] s.heap) (hD : va_D A [(oS, .inr (3, [.long ms, .long mx, .int n, .int mk, .int g, .int h, .int st, .int cn, .int cs]))]) (hl : lv_has ls 4 [(0, .ref oS), (1, .long wv), (3, .int kv)])
    (hret : ∀  (H : Heap) (locs : List Loc) (pc : Nat) (ls : Array Slot), decode cX3_append pc = .ok (.return_, 1) → (True) → va_P D vwCl [(oS, .inr (3, [.long (c_app ms wv kv), .long (c_mixN (c_app ms wv kv) (n + kv) mk (nB (n + kv))), .int (n + kv), .int mk, .int g, .int h, .int st, .int cn, .int cs]))] H → va_D A [(oS, .inr (3, [.long (c_app ms wv kv), .long (c_mixN (c_app ms wv kv) (n + kv) mk (nB (n + kv))), .int (n + kv), .int mk, .int g, .int h, .int st, .int cn, .int cs]))] → va_S A s.heap H locs → W p l e R s m args below meth c H locs 0 0 Q (F0 m pc ls [])) : W p l e R s m args below meth c s.heap [] 0 0 Q (F0 m 0 ls []) := by
  generalize hHe : s.heap = H at hP ⊢
  have hS : va_S A s.heap H [] := by rw [← hHe]; exact va_S.rf
  clear hHe
  refine lv_aload_n hx hb dX3_append_0 rfl (lv_at hl 0 rfl) ?_
  refine lv_aload_n hx hb dX3_append_1 rfl (lv_at hl 0 rfl) ?_
  refine va_get (D := D) (ci := 3) (v := .long ms) (C := RX3) (T := TX3) (N := 9) hx hb htb ml_X3 hown hK hP 0 rfl rfl 0 (by decide) (htb _ mf_X3_9) (fun _ h9 => h9) rfl dX3_append_2 ?_
  refine lv_iload_n hx hb dX3_append_5 rfl (lv_at hl 2 rfl) ?_
  refine lv_lshl hx hb dX3_append_6 rfl ?_
  refine lv_lload_n hx hb dX3_append_7 rfl (lv_at hl 1 rfl) ?_
  refine lv_lconst (v := 1) hx hb dX3_append_8 (by decide) ?_
  refine lv_iload_n hx hb dX3_append_9 rfl (lv_at hl 2 rfl) ?_
  refine lv_lshl hx hb dX3_append_10 rfl ?_
  refine lv_lconst (v := 1) hx hb dX3_append_11 (by decide) ?_
  refine lv_lsub hx hb dX3_append_12 ?_
  refine lv_land hx hb dX3_append_13 ?_
  refine lv_lor hx hb dX3_append_14 ?_
  refine lv_eql (y := c_app ms wv kv) rfl ?_
  refine va_put (D := D) (ci := 3) (v := .long (c_app ms wv kv)) (ty := .long) (C := RX3) (T := TX3) (N := 9) hx hb htb ml_X3 tyX3 tyX3_ok nmX3 hown hK hP hD hS 0 rfl rfl 0 (by decide) (htb _ mf_X3_9) (fun _ h9 => h9) rfl (by decide +kernel) rfl rfl (Nat.le_of_ble_eq_true rfl) dX3_append_15 (fun H locs hP hD hS => ?_)
  have hP : va_P D vwCl [(oS, .inr (3, [.long (c_app ms wv kv), .long mx, .int n, .int mk, .int g, .int h, .int st, .int cn, .int cs]))] H := hP
  have hD : va_D A [(oS, .inr (3, [.long (c_app ms wv kv), .long mx, .int n, .int mk, .int g, .int h, .int st, .int cn, .int cs]))] := hD
  refine lv_aload_n hx hb dX3_append_18 rfl (lv_at hl 0 rfl) ?_
  refine lv_dup hx hb dX3_append_19 rfl ?_
  refine va_get (D := D) (ci := 3) (v := .int n) (C := RX3) (T := TX3) (N := 9) hx hb htb ml_X3 hown hK hP 0 rfl rfl 2 (by decide) (htb _ mf_X3_18) (fun _ h9 => h9) rfl dX3_append_20 ?_
  refine lv_iload_n hx hb dX3_append_23 rfl (lv_at hl 2 rfl) ?_
  refine lv_iadd hx hb dX3_append_24 ?_
  refine va_put (D := D) (ci := 3) (v := .int (n + kv)) (ty := .int) (C := RX3) (T := TX3) (N := 9) hx hb htb ml_X3 tyX3 tyX3_ok nmX3 hown hK hP hD hS 0 rfl rfl 2 (by decide) (htb _ mf_X3_18) (fun _ h9 => h9) rfl (by decide +kernel) rfl rfl (Nat.le_of_ble_eq_true rfl) dX3_append_25 (fun H locs hP hD hS => ?_)
  have hP : va_P D vwCl [(oS, .inr (3, [.long (c_app ms wv kv), .long mx, .int (n + kv), .int mk, .int g, .int h, .int st, .int cn, .int cs]))] H := hP
  have hD : va_D A [(oS, .inr (3, [.long (c_app ms wv kv), .long mx, .int (n + kv), .int mk, .int g, .int h, .int st, .int cn, .int cs]))] := hD
  refine lv_aload_n hx hb dX3_append_28 rfl (lv_at hl 0 rfl) ?_
  refine lv_aload_n hx hb dX3_append_29 rfl (lv_at hl 0 rfl) ?_
  refine va_get (D := D) (ci := 3) (v := .long (c_app ms wv kv)) (C := RX3) (T := TX3) (N := 9) hx hb htb ml_X3 hown hK hP 0 rfl rfl 0 (by decide) (htb _ mf_X3_9) (fun _ h9 => h9) rfl dX3_append_30 ?_
  refine lv_aload_n hx hb dX3_append_33 rfl (lv_at hl 0 rfl) ?_
  refine va_get (D := D) (ci := 3) (v := .int (n + kv)) (C := RX3) (T := TX3) (N := 9) hx hb htb ml_X3 hown hK hP 0 rfl rfl 2 (by decide) (htb _ mf_X3_18) (fun _ h9 => h9) rfl dX3_append_34 ?_
  refine lv_aload_n hx hb dX3_append_37 rfl (lv_at hl 0 rfl) ?_
  refine va_get (D := D) (ci := 3) (v := .int mk) (C := RX3) (T := TX3) (N := 9) hx hb htb ml_X3 hown hK hP 0 rfl rfl 3 (by decide) (htb _ mf_X3_22) (fun _ h9 => h9) rfl dX3_append_38 ?_
  refine va_calll (va_runSN (As := [.long (c_app ms wv kv), .int (n + kv), .int mk]) (rest := [.ref oS]) ⟨hx, hb, hml, hown, htb⟩ (c_X4_mix l D cI cJ (c_app ms wv kv) (n + kv) mk H.size ) (cb_SN htb mt_X4_mix ms_yX4_mix hN.2.2.2.2.1 ⟨Nat.le_trans (Nat.le_of_ble_eq_true rfl) hRf, Nat.le_trans (Nat.le_of_ble_eq_true rfl) hRl⟩) ⟨bl_R, pre_R va_nil hK hN⟩ rfl rfl hl.1 rfl (lv_room (Nat.le_of_ble_eq_true rfl)) dX3_append_41 ⟨Nat.zero_le _, Nat.zero_le _⟩) hS ro_A (ro_F hS hA) (fun r_41 u t H1 locs ht hvm hu hB hz1 hk1 hS => ?_)
  have hu2 := hu.symm; subst hu2
  replace hP := ro_P hP hk1
  clear hk1 hz1 hvm ht
  generalize H1 = H at hP hS ⊢
  have hP : va_P D vwCl [(oS, .inr (3, [.long (c_app ms wv kv), .long mx, .int (n + kv), .int mk, .int g, .int h, .int st, .int cn, .int cs]))] H := hP
  obtain rfl : r_41 = c_mixN (c_app ms wv kv) (n + kv) mk (nB (n + kv)) := hB
  refine va_put (D := D) (ci := 3) (v := .long (c_mixN (c_app ms wv kv) (n + kv) mk (nB (n + kv)))) (ty := .long) (C := RX3) (T := TX3) (N := 9) hx hb htb ml_X3 tyX3 tyX3_ok nmX3 hown hK hP hD hS 0 rfl rfl 1 (by decide) (htb _ mf_X3_15) (fun _ h9 => h9) rfl (by decide +kernel) rfl rfl (Nat.le_of_ble_eq_true rfl) dX3_append_44 (fun H locs hP hD hS => ?_)
  have hP : va_P D vwCl [(oS, .inr (3, [.long (c_app ms wv kv), .long (c_mixN (c_app ms wv kv) (n + kv) mk (nB (n + kv))), .int (n + kv), .int mk, .int g, .int h, .int st, .int cn, .int cs]))] H := hP
  have hD : va_D A [(oS, .inr (3, [.long (c_app ms wv kv), .long (c_mixN (c_app ms wv kv) (n + kv) mk (nB (n + kv))), .int (n + kv), .int mk, .int g, .int h, .int st, .int cn, .int cs]))] := hD
  exact hret _ _ _ _ dX3_append_47 (trivial) hP hD hS
set_option maxHeartbeats 4000000 in
set_option maxRecDepth 100000 in
theorem c_X3_append (l : Launch) (D : va_G) (cI cJ : ClassId) (oS : Nat) (ms : Int64) (mx : Int64) (n : Int32) (mk : Int32) (g : Int32) (h : Int32) (st : Int32) (cn : Int32) (cs : Int32) (wv : Int64) (kv : Int32) (sz : Nat)  : Met l yX3_append (Cond.code yX3_append cX3_append 4 none :: BIG) ({ frames := 3, cells := 0, slots := 0, locals := 68 }) (va_Pc [.ref oS, .long wv, .int kv] (pr_W D cI cJ [(oS, .inr (3, [.long ms, .long mx, .int n, .int mk, .int g, .int h, .int st, .int cn, .int cs]))] sz)) (va_Qv (fun (_ : Unit) => True) (fun (_ : Unit) (t : State) => (True) ∧ va_P D vwCl [(oS, .inr (3, [.long (c_app ms wv kv), .long (c_mixN (c_app ms wv kv) (n + kv) mk (nB (n + kv))), .int (n + kv), .int mk, .int g, .int h, .int st, .int cn, .int cs]))] t.heap ∧ va_D (va_A [(oS, .inr (3, [.long ms, .long mx, .int n, .int mk, .int g, .int h, .int st, .int cn, .int cs]))] sz) [(oS, .inr (3, [.long (c_app ms wv kv), .long (c_mixN (c_app ms wv kv) (n + kv) mk (nB (n + kv))), .int (n + kv), .int mk, .int g, .int h, .int st, .int cn, .int cs]))]) (va_A [(oS, .inr (3, [.long ms, .long mx, .int n, .int mk, .int g, .int h, .int st, .int cn, .int cs]))] sz)) 0 0 (va_A [(oS, .inr (3, [.long ms, .long mx, .int n, .int mk, .int g, .int h, .int st, .int cn, .int cs]))] sz) := by
  refine Met.ofW (cc := cX3_append) (maxL := 4) (ret := none) (by decide) rfl ?_
  intro p e s m args below meth c s₁ B hml hv
  obtain ⟨rfl, hsz, hP, hK, hN, hD0⟩ := hv
  have hl := lv_entry ([.ref oS, .long wv, .int kv]) (n := 4) (Nat.le_of_ble_eq_true rfl)
  rw [lg_entry_eq]
  subst hsz
  generalize (lg_sl ([.ref oS, .long wv, .int kv]) ++ List.replicate (4 - (lg_sl ([.ref oS, .long wv, .int kv])).length) Slot.unset).toArray = ls at hl ⊢
  exact b_X3_append (A := va_A [(oS, .inr (3, [.long ms, .long mx, .int n, .int mk, .int g, .int h, .int st, .int cn, .int cs]))] s.heap.size) D cI cJ oS ms mx n mk g h st cn cs wv kv  B.exec B.bytes hml (findClass_of_methodNamed B.named) (fun w h => atoms_spec B.pre w (List.mem_cons_of_mem _ h)) (Nat.le_of_ble_eq_true rfl) (Nat.le_of_ble_eq_true rfl) hK hN (fun q h => Or.inr h) hP (hD0.self (sz := s.heap.size)) hl (fun  H locs pc ls hdg hpost hP hD hS => W.vret B.exec B.bytes B.returns (fun t ht hW => ⟨⟨(), rfl, trivial, hpost, by rw [ht]; exact hP, hD⟩, hS.F ht⟩) hS.2.2 hdg B.notSynchronized)
theorem mt_X3_empty : mt_ok yX3_empty RX3 cX3_empty 1 none 0 := ⟨mc_yX3_empty, mn_X3, rfl, by decide +kernel⟩
set_option maxHeartbeats 4000000 in
set_option maxRecDepth 100000 in
theorem b_X3_empty {p : Program} {l : Launch} {e : Env} {R : Room} {s : State} {m : MethodId} {args : Array Value} {below : List Frame} {meth : Method} {c : Code} {Q : State → Prop} {A : Nat → Prop} (D : va_G) (cI cJ : ClassId) (oS : Nat) (ms : Int64) (mx : Int64) (n : Int32) (mk : Int32) (g : Int32) (h : Int32) (st : Int32) (cn : Int32) (cs : Int32)  {ls : Array Slot} (hx : p.tables.exec = Jvm.exec) (hb : c.code = cX3_empty) (hml : c.maxLocals = 1) (hown : s.vm.findClass RX3 = some m.cls) (htb : ∀ w ∈ BIG, w.before args s = true) (hRf : 0 ≤ R.frames) (hRl : 0 ≤ R.locals) (hK : va_K D vwCl [(cI, .int), (cJ, .long)] s) (hN : nw s) (hA : ∀ q, s.heap.size ≤ q → A q) (hP : va_P D vwCl [(oS, .inr (3, [.long ms, .long mx, .int n, .int mk, .int g, .int h, .int st, .int cn, .int cs]))] s.heap) (hD : va_D A [(oS, .inr (3, [.long ms, .long mx, .int n, .int mk, .int g, .int h, .int st, .int cn, .int cs]))]) (hl : lv_has ls 1 [(0, .ref oS)])
    (hret : ∀  (H : Heap) (locs : List Loc) (pc : Nat) (ls : Array Slot), decode cX3_empty pc = .ok (.return_, 1) → (True) → va_P D vwCl [(oS, .inr (3, [.long 0, .long 0, .int 0, .int mk, .int g, .int h, .int st, .int cn, .int cs]))] H → va_D A [(oS, .inr (3, [.long 0, .long 0, .int 0, .int mk, .int g, .int h, .int st, .int cn, .int cs]))] → va_S A s.heap H locs → W p l e R s m args below meth c H locs 0 0 Q (F0 m pc ls [])) : W p l e R s m args below meth c s.heap [] 0 0 Q (F0 m 0 ls []) := by
  generalize hHe : s.heap = H at hP ⊢
  have hS : va_S A s.heap H [] := by rw [← hHe]; exact va_S.rf
  clear hHe
  refine lv_aload_n hx hb dX3_empty_0 rfl (lv_at hl 0 rfl) ?_
  refine lv_lconst (v := 0) hx hb dX3_empty_1 (by decide) ?_
  refine va_put (D := D) (ci := 3) (v := .long 0) (ty := .long) (C := RX3) (T := TX3) (N := 9) hx hb htb ml_X3 tyX3 tyX3_ok nmX3 hown hK hP hD hS 0 rfl rfl 0 (by decide) (htb _ mf_X3_9) (fun _ h9 => h9) rfl (by decide +kernel) rfl rfl (Nat.le_of_ble_eq_true rfl) dX3_empty_2 (fun H locs hP hD hS => ?_)
  have hP : va_P D vwCl [(oS, .inr (3, [.long 0, .long mx, .int n, .int mk, .int g, .int h, .int st, .int cn, .int cs]))] H := hP
  have hD : va_D A [(oS, .inr (3, [.long 0, .long mx, .int n, .int mk, .int g, .int h, .int st, .int cn, .int cs]))] := hD
  refine lv_aload_n hx hb dX3_empty_5 rfl (lv_at hl 0 rfl) ?_
  refine lv_lconst (v := 0) hx hb dX3_empty_6 (by decide) ?_
  refine va_put (D := D) (ci := 3) (v := .long 0) (ty := .long) (C := RX3) (T := TX3) (N := 9) hx hb htb ml_X3 tyX3 tyX3_ok nmX3 hown hK hP hD hS 0 rfl rfl 1 (by decide) (htb _ mf_X3_15) (fun _ h9 => h9) rfl (by decide +kernel) rfl rfl (Nat.le_of_ble_eq_true rfl) dX3_empty_7 (fun H locs hP hD hS => ?_)
  have hP : va_P D vwCl [(oS, .inr (3, [.long 0, .long 0, .int n, .int mk, .int g, .int h, .int st, .int cn, .int cs]))] H := hP
  have hD : va_D A [(oS, .inr (3, [.long 0, .long 0, .int n, .int mk, .int g, .int h, .int st, .int cn, .int cs]))] := hD
  refine lv_aload_n hx hb dX3_empty_10 rfl (lv_at hl 0 rfl) ?_
  refine lv_iconst (v := 0) hx hb dX3_empty_11 (by decide) ?_
  refine va_put (D := D) (ci := 3) (v := .int 0) (ty := .int) (C := RX3) (T := TX3) (N := 9) hx hb htb ml_X3 tyX3 tyX3_ok nmX3 hown hK hP hD hS 0 rfl rfl 2 (by decide) (htb _ mf_X3_18) (fun _ h9 => h9) rfl (by decide +kernel) rfl rfl (Nat.le_of_ble_eq_true rfl) dX3_empty_12 (fun H locs hP hD hS => ?_)
  have hP : va_P D vwCl [(oS, .inr (3, [.long 0, .long 0, .int 0, .int mk, .int g, .int h, .int st, .int cn, .int cs]))] H := hP
  have hD : va_D A [(oS, .inr (3, [.long 0, .long 0, .int 0, .int mk, .int g, .int h, .int st, .int cn, .int cs]))] := hD
  exact hret _ _ _ _ dX3_empty_15 (trivial) hP hD hS
set_option maxHeartbeats 4000000 in
set_option maxRecDepth 100000 in
theorem c_X3_empty (l : Launch) (D : va_G) (cI cJ : ClassId) (oS : Nat) (ms : Int64) (mx : Int64) (n : Int32) (mk : Int32) (g : Int32) (h : Int32) (st : Int32) (cn : Int32) (cs : Int32) (sz : Nat)  : Met l yX3_empty (Cond.code yX3_empty cX3_empty 1 none :: BIG) ({ frames := 0, cells := 0, slots := 0, locals := 0 }) (va_Pc [.ref oS] (pr_W D cI cJ [(oS, .inr (3, [.long ms, .long mx, .int n, .int mk, .int g, .int h, .int st, .int cn, .int cs]))] sz)) (va_Qv (fun (_ : Unit) => True) (fun (_ : Unit) (t : State) => (True) ∧ va_P D vwCl [(oS, .inr (3, [.long 0, .long 0, .int 0, .int mk, .int g, .int h, .int st, .int cn, .int cs]))] t.heap ∧ va_D (va_A [(oS, .inr (3, [.long ms, .long mx, .int n, .int mk, .int g, .int h, .int st, .int cn, .int cs]))] sz) [(oS, .inr (3, [.long 0, .long 0, .int 0, .int mk, .int g, .int h, .int st, .int cn, .int cs]))]) (va_A [(oS, .inr (3, [.long ms, .long mx, .int n, .int mk, .int g, .int h, .int st, .int cn, .int cs]))] sz)) 0 0 (va_A [(oS, .inr (3, [.long ms, .long mx, .int n, .int mk, .int g, .int h, .int st, .int cn, .int cs]))] sz) := by
  refine Met.ofW (cc := cX3_empty) (maxL := 1) (ret := none) (by decide) rfl ?_
  intro p e s m args below meth c s₁ B hml hv
  obtain ⟨rfl, hsz, hP, hK, hN, hD0⟩ := hv
  have hl := lv_entry ([.ref oS]) (n := 1) (Nat.le_of_ble_eq_true rfl)
  rw [lg_entry_eq]
  subst hsz
  generalize (lg_sl ([.ref oS]) ++ List.replicate (1 - (lg_sl ([.ref oS])).length) Slot.unset).toArray = ls at hl ⊢
  exact b_X3_empty (A := va_A [(oS, .inr (3, [.long ms, .long mx, .int n, .int mk, .int g, .int h, .int st, .int cn, .int cs]))] s.heap.size) D cI cJ oS ms mx n mk g h st cn cs  B.exec B.bytes hml (findClass_of_methodNamed B.named) (fun w h => atoms_spec B.pre w (List.mem_cons_of_mem _ h)) (Nat.le_of_ble_eq_true rfl) (Nat.le_of_ble_eq_true rfl) hK hN (fun q h => Or.inr h) hP (hD0.self (sz := s.heap.size)) hl (fun  H locs pc ls hdg hpost hP hD hS => W.vret B.exec B.bytes B.returns (fun t ht hW => ⟨⟨(), rfl, trivial, hpost, by rw [ht]; exact hP, hD⟩, hS.F ht⟩) hS.2.2 hdg B.notSynchronized)
theorem mt_X3_setMask : mt_ok yX3_setMask RX3 cX3_setMask 2 none 1 := ⟨mc_yX3_setMask, mn_X3, rfl, by decide +kernel⟩
set_option maxHeartbeats 4000000 in
set_option maxRecDepth 100000 in
theorem b_X3_setMask {p : Program} {l : Launch} {e : Env} {R : Room} {s : State} {m : MethodId} {args : Array Value} {below : List Frame} {meth : Method} {c : Code} {Q : State → Prop} {A : Nat → Prop} (D : va_G) (cI cJ : ClassId) (oS : Nat) (ms : Int64) (mx : Int64) (n : Int32) (mk : Int32) (g : Int32) (h : Int32) (st : Int32) (cn : Int32) (cs : Int32) (mv : Int32)  {ls : Array Slot} (hx : p.tables.exec = Jvm.exec) (hb : c.code = cX3_setMask) (hml : c.maxLocals = 2) (hown : s.vm.findClass RX3 = some m.cls) (htb : ∀ w ∈ BIG, w.before args s = true) (hRf : 3 ≤ R.frames) (hRl : 68 ≤ R.locals) (hK : va_K D vwCl [(cI, .int), (cJ, .long)] s) (hN : nw s) (hA : ∀ q, s.heap.size ≤ q → A q) (hP : va_P D vwCl [(oS, .inr (3, [.long ms, .long mx, .int n, .int mk, .int g, .int h, .int st, .int cn, .int cs]))] s.heap) (hD : va_D A [(oS, .inr (3, [.long ms, .long mx, .int n, .int mk, .int g, .int h, .int st, .int cn, .int cs]))]) (hl : lv_has ls 2 [(0, .ref oS), (1, .int mv)])
    (hret : ∀  (H : Heap) (locs : List Loc) (pc : Nat) (ls : Array Slot), decode cX3_setMask pc = .ok (.return_, 1) → (True) → va_P D vwCl [(oS, .inr (3, [.long ms, .long (c_mixN ms n mv (nB n)), .int n, .int mv, .int g, .int h, .int st, .int cn, .int cs]))] H → va_D A [(oS, .inr (3, [.long ms, .long (c_mixN ms n mv (nB n)), .int n, .int mv, .int g, .int h, .int st, .int cn, .int cs]))] → va_S A s.heap H locs → W p l e R s m args below meth c H locs 0 0 Q (F0 m pc ls [])) : W p l e R s m args below meth c s.heap [] 0 0 Q (F0 m 0 ls []) := by
  generalize hHe : s.heap = H at hP ⊢
  have hS : va_S A s.heap H [] := by rw [← hHe]; exact va_S.rf
  clear hHe
  refine lv_aload_n hx hb dX3_setMask_0 rfl (lv_at hl 0 rfl) ?_
  refine lv_iload_n hx hb dX3_setMask_1 rfl (lv_at hl 1 rfl) ?_
  refine va_put (D := D) (ci := 3) (v := .int mv) (ty := .int) (C := RX3) (T := TX3) (N := 9) hx hb htb ml_X3 tyX3 tyX3_ok nmX3 hown hK hP hD hS 0 rfl rfl 3 (by decide) (htb _ mf_X3_22) (fun _ h9 => h9) rfl (by decide +kernel) rfl rfl (Nat.le_of_ble_eq_true rfl) dX3_setMask_2 (fun H locs hP hD hS => ?_)
  have hP : va_P D vwCl [(oS, .inr (3, [.long ms, .long mx, .int n, .int mv, .int g, .int h, .int st, .int cn, .int cs]))] H := hP
  have hD : va_D A [(oS, .inr (3, [.long ms, .long mx, .int n, .int mv, .int g, .int h, .int st, .int cn, .int cs]))] := hD
  refine lv_aload_n hx hb dX3_setMask_5 rfl (lv_at hl 0 rfl) ?_
  refine lv_aload_n hx hb dX3_setMask_6 rfl (lv_at hl 0 rfl) ?_
  refine va_get (D := D) (ci := 3) (v := .long ms) (C := RX3) (T := TX3) (N := 9) hx hb htb ml_X3 hown hK hP 0 rfl rfl 0 (by decide) (htb _ mf_X3_9) (fun _ h9 => h9) rfl dX3_setMask_7 ?_
  refine lv_aload_n hx hb dX3_setMask_10 rfl (lv_at hl 0 rfl) ?_
  refine va_get (D := D) (ci := 3) (v := .int n) (C := RX3) (T := TX3) (N := 9) hx hb htb ml_X3 hown hK hP 0 rfl rfl 2 (by decide) (htb _ mf_X3_18) (fun _ h9 => h9) rfl dX3_setMask_11 ?_
  refine lv_aload_n hx hb dX3_setMask_14 rfl (lv_at hl 0 rfl) ?_
  refine va_get (D := D) (ci := 3) (v := .int mv) (C := RX3) (T := TX3) (N := 9) hx hb htb ml_X3 hown hK hP 0 rfl rfl 3 (by decide) (htb _ mf_X3_22) (fun _ h9 => h9) rfl dX3_setMask_15 ?_
  refine va_calll (va_runSN (As := [.long ms, .int n, .int mv]) (rest := [.ref oS]) ⟨hx, hb, hml, hown, htb⟩ (c_X4_mix l D cI cJ ms n mv H.size ) (cb_SN htb mt_X4_mix ms_yX4_mix hN.2.2.2.2.1 ⟨Nat.le_trans (Nat.le_of_ble_eq_true rfl) hRf, Nat.le_trans (Nat.le_of_ble_eq_true rfl) hRl⟩) ⟨bl_R, pre_R va_nil hK hN⟩ rfl rfl hl.1 rfl (lv_room (Nat.le_of_ble_eq_true rfl)) dX3_setMask_18 ⟨Nat.zero_le _, Nat.zero_le _⟩) hS ro_A (ro_F hS hA) (fun r_18 u t H1 locs ht hvm hu hB hz1 hk1 hS => ?_)
  have hu2 := hu.symm; subst hu2
  replace hP := ro_P hP hk1
  clear hk1 hz1 hvm ht
  generalize H1 = H at hP hS ⊢
  have hP : va_P D vwCl [(oS, .inr (3, [.long ms, .long mx, .int n, .int mv, .int g, .int h, .int st, .int cn, .int cs]))] H := hP
  obtain rfl : r_18 = c_mixN ms n mv (nB n) := hB
  refine va_put (D := D) (ci := 3) (v := .long (c_mixN ms n mv (nB n))) (ty := .long) (C := RX3) (T := TX3) (N := 9) hx hb htb ml_X3 tyX3 tyX3_ok nmX3 hown hK hP hD hS 0 rfl rfl 1 (by decide) (htb _ mf_X3_15) (fun _ h9 => h9) rfl (by decide +kernel) rfl rfl (Nat.le_of_ble_eq_true rfl) dX3_setMask_21 (fun H locs hP hD hS => ?_)
  have hP : va_P D vwCl [(oS, .inr (3, [.long ms, .long (c_mixN ms n mv (nB n)), .int n, .int mv, .int g, .int h, .int st, .int cn, .int cs]))] H := hP
  have hD : va_D A [(oS, .inr (3, [.long ms, .long (c_mixN ms n mv (nB n)), .int n, .int mv, .int g, .int h, .int st, .int cn, .int cs]))] := hD
  exact hret _ _ _ _ dX3_setMask_24 (trivial) hP hD hS
set_option maxHeartbeats 4000000 in
set_option maxRecDepth 100000 in
theorem c_X3_setMask (l : Launch) (D : va_G) (cI cJ : ClassId) (oS : Nat) (ms : Int64) (mx : Int64) (n : Int32) (mk : Int32) (g : Int32) (h : Int32) (st : Int32) (cn : Int32) (cs : Int32) (mv : Int32) (sz : Nat)  : Met l yX3_setMask (Cond.code yX3_setMask cX3_setMask 2 none :: BIG) ({ frames := 3, cells := 0, slots := 0, locals := 68 }) (va_Pc [.ref oS, .int mv] (pr_W D cI cJ [(oS, .inr (3, [.long ms, .long mx, .int n, .int mk, .int g, .int h, .int st, .int cn, .int cs]))] sz)) (va_Qv (fun (_ : Unit) => True) (fun (_ : Unit) (t : State) => (True) ∧ va_P D vwCl [(oS, .inr (3, [.long ms, .long (c_mixN ms n mv (nB n)), .int n, .int mv, .int g, .int h, .int st, .int cn, .int cs]))] t.heap ∧ va_D (va_A [(oS, .inr (3, [.long ms, .long mx, .int n, .int mk, .int g, .int h, .int st, .int cn, .int cs]))] sz) [(oS, .inr (3, [.long ms, .long (c_mixN ms n mv (nB n)), .int n, .int mv, .int g, .int h, .int st, .int cn, .int cs]))]) (va_A [(oS, .inr (3, [.long ms, .long mx, .int n, .int mk, .int g, .int h, .int st, .int cn, .int cs]))] sz)) 0 0 (va_A [(oS, .inr (3, [.long ms, .long mx, .int n, .int mk, .int g, .int h, .int st, .int cn, .int cs]))] sz) := by
  refine Met.ofW (cc := cX3_setMask) (maxL := 2) (ret := none) (by decide) rfl ?_
  intro p e s m args below meth c s₁ B hml hv
  obtain ⟨rfl, hsz, hP, hK, hN, hD0⟩ := hv
  have hl := lv_entry ([.ref oS, .int mv]) (n := 2) (Nat.le_of_ble_eq_true rfl)
  rw [lg_entry_eq]
  subst hsz
  generalize (lg_sl ([.ref oS, .int mv]) ++ List.replicate (2 - (lg_sl ([.ref oS, .int mv])).length) Slot.unset).toArray = ls at hl ⊢
  exact b_X3_setMask (A := va_A [(oS, .inr (3, [.long ms, .long mx, .int n, .int mk, .int g, .int h, .int st, .int cn, .int cs]))] s.heap.size) D cI cJ oS ms mx n mk g h st cn cs mv  B.exec B.bytes hml (findClass_of_methodNamed B.named) (fun w h => atoms_spec B.pre w (List.mem_cons_of_mem _ h)) (Nat.le_of_ble_eq_true rfl) (Nat.le_of_ble_eq_true rfl) hK hN (fun q h => Or.inr h) hP (hD0.self (sz := s.heap.size)) hl (fun  H locs pc ls hdg hpost hP hD hS => W.vret B.exec B.bytes B.returns (fun t ht hW => ⟨⟨(), rfl, trivial, hpost, by rw [ht]; exact hP, hD⟩, hS.F ht⟩) hS.2.2 hdg B.notSynchronized)
theorem mt_X3_steps : mt_ok yX3_steps RX3 cX3_steps 1 (some .int) 0 := ⟨mc_yX3_steps, mn_X3, rfl, by decide +kernel⟩
set_option maxHeartbeats 4000000 in
set_option maxRecDepth 100000 in
theorem b_X3_steps {p : Program} {l : Launch} {e : Env} {R : Room} {s : State} {m : MethodId} {args : Array Value} {below : List Frame} {meth : Method} {c : Code} {Q : State → Prop} {A : Nat → Prop} (D : va_G) (cI cJ : ClassId) (oS : Nat) (ms : Int64) (mx : Int64) (n : Int32) (mk : Int32) (g : Int32) (h : Int32) (st : Int32) (cn : Int32) (cs : Int32)  {ls : Array Slot} (hx : p.tables.exec = Jvm.exec) (hb : c.code = cX3_steps) (hml : c.maxLocals = 1) (hown : s.vm.findClass RX3 = some m.cls) (htb : ∀ w ∈ BIG, w.before args s = true) (hRf : 0 ≤ R.frames) (hRl : 0 ≤ R.locals) (hK : va_K D vwCl [(cI, .int), (cJ, .long)] s) (hN : nw s) (hA : ∀ q, s.heap.size ≤ q → A q) (hP : va_P D vwCl [(oS, .inr (3, [.long ms, .long mx, .int n, .int mk, .int g, .int h, .int st, .int cn, .int cs]))] s.heap) (hl : lv_has ls 1 [(0, .ref oS)])
    (hret : ∀ (r : Int32)  (H : Heap) (locs : List Loc) (pc : Nat) (ls : Array Slot), decode cX3_steps pc = .ok (.ireturn, 1) → (r = n + 3) → va_S A s.heap H locs → W p l e R s m args below meth c H locs 0 0 Q (F0 m pc ls [.int r])) : W p l e R s m args below meth c s.heap [] 0 0 Q (F0 m 0 ls []) := by
  generalize hHe : s.heap = H at hP ⊢
  have hS : va_S A s.heap H [] := by rw [← hHe]; exact va_S.rf
  clear hHe
  refine lv_aload_n hx hb dX3_steps_0 rfl (lv_at hl 0 rfl) ?_
  refine va_get (D := D) (ci := 3) (v := .int n) (C := RX3) (T := TX3) (N := 9) hx hb htb ml_X3 hown hK hP 0 rfl rfl 2 (by decide) (htb _ mf_X3_18) (fun _ h9 => h9) rfl dX3_steps_1 ?_
  refine lv_iconst (v := 3) hx hb dX3_steps_4 (by decide) ?_
  refine lv_iadd hx hb dX3_steps_5 ?_
  exact hret (n + 3) _ _ _ _ dX3_steps_6 (rfl) hS
set_option maxHeartbeats 4000000 in
set_option maxRecDepth 100000 in
theorem c_X3_steps (l : Launch) (D : va_G) (cI cJ : ClassId) (oS : Nat) (ms : Int64) (mx : Int64) (n : Int32) (mk : Int32) (g : Int32) (h : Int32) (st : Int32) (cn : Int32) (cs : Int32) (sz : Nat)  : Met l yX3_steps (Cond.code yX3_steps cX3_steps 1 (some .int) :: BIG) ({ frames := 0, cells := 0, slots := 0, locals := 0 }) (va_Pc [.ref oS] (pr_R D cI cJ [(oS, .inr (3, [.long ms, .long mx, .int n, .int mk, .int g, .int h, .int st, .int cn, .int cs]))] sz)) (va_Qi (fun (r u : Int32) => u = r) (fun (u : Int32) (t : State) => u = n + 3) (va_A [] sz)) 0 0 (va_A [] sz) := by
  refine Met.ofW (cc := cX3_steps) (maxL := 1) (ret := (some .int)) (by decide) rfl ?_
  intro p e s m args below meth c s₁ B hml hv
  obtain ⟨rfl, hsz, hP, hK, hN⟩ := hv
  have hl := lv_entry ([.ref oS]) (n := 1) (Nat.le_of_ble_eq_true rfl)
  rw [lg_entry_eq]
  subst hsz
  generalize (lg_sl ([.ref oS]) ++ List.replicate (1 - (lg_sl ([.ref oS])).length) Slot.unset).toArray = ls at hl ⊢
  exact b_X3_steps (A := va_A [] s.heap.size) D cI cJ oS ms mx n mk g h st cn cs  B.exec B.bytes hml (findClass_of_methodNamed B.named) (fun w h => atoms_spec B.pre w (List.mem_cons_of_mem _ h)) (Nat.le_of_ble_eq_true rfl) (Nat.le_of_ble_eq_true rfl) hK hN (fun q h => Or.inr h) hP hl (fun r  H locs pc ls hdg hpost hS => W.iret B.exec B.bytes B.returns (fun t ht hW => ⟨⟨r, r, rfl, rfl, hpost⟩, hS.F ht⟩) hS.2.2 hdg B.notSynchronized)
theorem mt_X3_frameSize : mt_ok yX3_frameSize RX3 cX3_frameSize 1 (some .int) 0 := ⟨mc_yX3_frameSize, mn_X3, rfl, by decide +kernel⟩
set_option maxHeartbeats 4000000 in
set_option maxRecDepth 100000 in
theorem b_X3_frameSize {p : Program} {l : Launch} {e : Env} {R : Room} {s : State} {m : MethodId} {args : Array Value} {below : List Frame} {meth : Method} {c : Code} {Q : State → Prop} {A : Nat → Prop} (D : va_G) (cI cJ : ClassId) (oS : Nat) (ms : Int64) (mx : Int64) (n : Int32) (mk : Int32) (g : Int32) (h : Int32) (st : Int32) (cn : Int32) (cs : Int32)  {ls : Array Slot} (hx : p.tables.exec = Jvm.exec) (hb : c.code = cX3_frameSize) (hml : c.maxLocals = 1) (hown : s.vm.findClass RX3 = some m.cls) (htb : ∀ w ∈ BIG, w.before args s = true) (hRf : 1 ≤ R.frames) (hRl : 20 ≤ R.locals) (hK : va_K D vwCl [(cI, .int), (cJ, .long)] s) (hN : nw s) (hA : ∀ q, s.heap.size ≤ q → A q) (hP : va_P D vwCl [(oS, .inr (3, [.long ms, .long mx, .int n, .int mk, .int g, .int h, .int st, .int cn, .int cs]))] s.heap) (hl : lv_has ls 1 [(0, .ref oS)])
    (hret : ∀ (r : Int32)  (H : Heap) (locs : List Loc) (pc : Nat) (ls : Array Slot), decode cX3_frameSize pc = .ok (.ireturn, 1) → (r = cn + 2 * (n + 3)) → va_S A s.heap H locs → W p l e R s m args below meth c H locs 0 0 Q (F0 m pc ls [.int r])) : W p l e R s m args below meth c s.heap [] 0 0 Q (F0 m 0 ls []) := by
  generalize hHe : s.heap = H at hP ⊢
  have hS : va_S A s.heap H [] := by rw [← hHe]; exact va_S.rf
  clear hHe
  refine lv_aload_n hx hb dX3_frameSize_0 rfl (lv_at hl 0 rfl) ?_
  refine va_get (D := D) (ci := 3) (v := .int cn) (C := RX3) (T := TX3) (N := 9) hx hb htb ml_X3 hown hK hP 0 rfl rfl 7 (by decide) (htb _ mf_X3_34) (fun _ h9 => h9) rfl dX3_frameSize_1 ?_
  refine lv_iconst (v := 2) hx hb dX3_frameSize_4 (by decide) ?_
  refine lv_aload_n hx hb dX3_frameSize_5 rfl (lv_at hl 0 rfl) ?_
  refine va_calli (va_runV (As := []) (rest := [.int 2, .int cn]) ⟨hx, hb, hml, hown, htb⟩ (c_X3_steps l D cI cJ oS ms mx n mk g h st cn cs H.size ) (cb_V htb mt_X3_steps mi_yX3_steps mx_yX3_steps mm_X3_44 ⟨Nat.le_trans (Nat.le_of_ble_eq_true rfl) hRf, Nat.le_trans (Nat.le_of_ble_eq_true rfl) hRl⟩) ⟨bl_R, va_recv hK hP (ci := 3) (q0 := 0) rfl rfl, pre_R (hP.sub (ws' := [(oS, .inr (3, [.long ms, .long mx, .int n, .int mk, .int g, .int h, .int st, .int cn, .int cs]))]) [0] rfl) hK hN⟩ rfl rfl hl.1 rfl (lv_room (Nat.le_of_ble_eq_true rfl)) dX3_frameSize_6 ⟨Nat.zero_le _, Nat.zero_le _⟩) hS ro_A (ro_F hS hA) (fun r_6 u t H1 locs ht hvm hu hB hz1 hk1 hS => ?_)
  have hu2 := hu.symm; subst hu2
  replace hP := ro_P hP hk1
  clear hk1 hz1 hvm ht
  generalize H1 = H at hP hS ⊢
  have hP : va_P D vwCl [(oS, .inr (3, [.long ms, .long mx, .int n, .int mk, .int g, .int h, .int st, .int cn, .int cs]))] H := hP
  obtain rfl : r_6 = n + 3 := hB
  refine lv_imul hx hb dX3_frameSize_9 ?_
  refine lv_iadd hx hb dX3_frameSize_10 ?_
  exact hret (cn + (2 * (n + 3))) _ _ _ _ dX3_frameSize_11 (rfl) hS
set_option maxHeartbeats 4000000 in
set_option maxRecDepth 100000 in
theorem c_X3_frameSize (l : Launch) (D : va_G) (cI cJ : ClassId) (oS : Nat) (ms : Int64) (mx : Int64) (n : Int32) (mk : Int32) (g : Int32) (h : Int32) (st : Int32) (cn : Int32) (cs : Int32) (sz : Nat)  : Met l yX3_frameSize (Cond.code yX3_frameSize cX3_frameSize 1 (some .int) :: BIG) ({ frames := 1, cells := 0, slots := 0, locals := 20 }) (va_Pc [.ref oS] (pr_R D cI cJ [(oS, .inr (3, [.long ms, .long mx, .int n, .int mk, .int g, .int h, .int st, .int cn, .int cs]))] sz)) (va_Qi (fun (r u : Int32) => u = r) (fun (u : Int32) (t : State) => u = cn + 2 * (n + 3)) (va_A [] sz)) 0 0 (va_A [] sz) := by
  refine Met.ofW (cc := cX3_frameSize) (maxL := 1) (ret := (some .int)) (by decide) rfl ?_
  intro p e s m args below meth c s₁ B hml hv
  obtain ⟨rfl, hsz, hP, hK, hN⟩ := hv
  have hl := lv_entry ([.ref oS]) (n := 1) (Nat.le_of_ble_eq_true rfl)
  rw [lg_entry_eq]
  subst hsz
  generalize (lg_sl ([.ref oS]) ++ List.replicate (1 - (lg_sl ([.ref oS])).length) Slot.unset).toArray = ls at hl ⊢
  exact b_X3_frameSize (A := va_A [] s.heap.size) D cI cJ oS ms mx n mk g h st cn cs  B.exec B.bytes hml (findClass_of_methodNamed B.named) (fun w h => atoms_spec B.pre w (List.mem_cons_of_mem _ h)) (Nat.le_of_ble_eq_true rfl) (Nat.le_of_ble_eq_true rfl) hK hN (fun q h => Or.inr h) hP hl (fun r  H locs pc ls hdg hpost hS => W.iret B.exec B.bytes B.returns (fun t ht hW => ⟨⟨r, r, rfl, rfl, hpost⟩, hS.F ht⟩) hS.2.2 hdg B.notSynchronized)
theorem mt_X3_sign : mt_ok yX3_sign RX3 cX3_sign 2 (some .int) 1 := ⟨mc_yX3_sign, mn_X3, rfl, by decide +kernel⟩
set_option maxHeartbeats 4000000 in
set_option maxRecDepth 100000 in
theorem b_X3_sign {p : Program} {l : Launch} {e : Env} {R : Room} {s : State} {m : MethodId} {args : Array Value} {below : List Frame} {meth : Method} {c : Code} {Q : State → Prop} {A : Nat → Prop} (D : va_G) (cI cJ : ClassId) (oS : Nat) (ms : Int64) (mx : Int64) (n : Int32) (mk : Int32) (g : Int32) (h : Int32) (st : Int32) (cn : Int32) (cs : Int32) (i : Int32)  {ls : Array Slot} (hx : p.tables.exec = Jvm.exec) (hb : c.code = cX3_sign) (hml : c.maxLocals = 2) (hown : s.vm.findClass RX3 = some m.cls) (htb : ∀ w ∈ BIG, w.before args s = true) (hRf : 1 ≤ R.frames) (hRl : 23 ≤ R.locals) (hK : va_K D vwCl [(cI, .int), (cJ, .long)] s) (hN : nw s) (hA : ∀ q, s.heap.size ≤ q → A q) (hP : va_P D vwCl [(oS, .inr (3, [.long ms, .long mx, .int n, .int mk, .int g, .int h, .int st, .int cn, .int cs]))] s.heap) (hl : lv_has ls 2 [(0, .ref oS), (1, .int i)])
    (hret : ∀ (r : Int32)  (H : Heap) (locs : List Loc) (pc : Nat) (ls : Array Slot), decode cX3_sign pc = .ok (.ireturn, 1) → (r = c_sign cn cs i) → va_S A s.heap H locs → W p l e R s m args below meth c H locs 0 0 Q (F0 m pc ls [.int r])) : W p l e R s m args below meth c s.heap [] 0 0 Q (F0 m 0 ls []) := by
  generalize hHe : s.heap = H at hP ⊢
  have hS : va_S A s.heap H [] := by rw [← hHe]; exact va_S.rf
  clear hHe
  refine lv_iload_n hx hb dX3_sign_0 rfl (lv_at hl 1 rfl) ?_
  refine lv_iconst (v := 0) hx hb dX3_sign_1 (by decide) ?_
  refine lv_aload_n hx hb dX3_sign_2 rfl (lv_at hl 0 rfl) ?_
  refine va_get (D := D) (ci := 3) (v := .int cn) (C := RX3) (T := TX3) (N := 9) hx hb htb ml_X3 hown hK hP 0 rfl rfl 7 (by decide) (htb _ mf_X3_34) (fun _ h9 => h9) rfl dX3_sign_3 ?_
  refine lv_iconst (v := 1) hx hb dX3_sign_6 (by decide) ?_
  refine lv_isub hx hb dX3_sign_7 ?_
  refine va_calli (va_runSN (As := [.int i, .int 0, .int (cn - 1)]) (rest := []) ⟨hx, hb, hml, hown, htb⟩ (c_X4_within l D cI cJ i 0 (cn - 1) H.size ) (cb_SN htb mt_X4_within ms_yX4_within hN.2.2.2.2.2.1 ⟨Nat.le_trans (Nat.le_of_ble_eq_true rfl) hRf, Nat.le_trans (Nat.le_of_ble_eq_true rfl) hRl⟩) ⟨bl_R, pre_R va_nil hK hN⟩ rfl rfl hl.1 rfl (lv_room (Nat.le_of_ble_eq_true rfl)) dX3_sign_8 ⟨Nat.zero_le _, Nat.zero_le _⟩) hS ro_A (ro_F hS hA) (fun r_8 u t H1 locs ht hvm hu hB hz1 hk1 hS => ?_)
  have hu2 := hu.symm; subst hu2
  replace hP := ro_P hP hk1
  clear hk1 hz1 hvm ht
  generalize H1 = H at hP hS ⊢
  have hP : va_P D vwCl [(oS, .inr (3, [.long ms, .long mx, .int n, .int mk, .int g, .int h, .int st, .int cn, .int cs]))] H := hP
  obtain rfl : r_8 = b_in i 0 (cn - 1) := hB
  refine lv_if_ne (tgt := 16) hx hb dX3_sign_11 (by decide) (fun c_11 => ?_) (fun c_11 => ?_)
  · skip
    refine lv_aload_n hx hb dX3_sign_16 rfl (lv_at hl 0 rfl) ?_
    refine va_get (D := D) (ci := 3) (v := .int cs) (C := RX3) (T := TX3) (N := 9) hx hb htb ml_X3 hown hK hP 0 rfl rfl 8 (by decide) (htb _ mf_X3_37) (fun _ h9 => h9) rfl dX3_sign_17 ?_
    refine lv_i2l hx hb dX3_sign_20 rfl ?_
    refine lv_aload_n hx hb dX3_sign_21 rfl (lv_at hl 0 rfl) ?_
    refine va_get (D := D) (ci := 3) (v := .int cn) (C := RX3) (T := TX3) (N := 9) hx hb htb ml_X3 hown hK hP 0 rfl rfl 7 (by decide) (htb _ mf_X3_34) (fun _ h9 => h9) rfl dX3_sign_22 ?_
    refine lv_iload_n hx hb dX3_sign_25 rfl (lv_at hl 1 rfl) ?_
    refine va_calli (va_runSN (As := [.long (cs.toInt64), .int cn, .int i]) (rest := []) ⟨hx, hb, hml, hown, htb⟩ (c_X4_bitOf l D cI cJ (cs.toInt64) cn i H.size ) (cb_SN htb mt_X4_bitOf ms_yX4_bitOf hN.2.2.2.2.2.2.1 ⟨Nat.le_trans (Nat.le_of_ble_eq_true rfl) hRf, Nat.le_trans (Nat.le_of_ble_eq_true rfl) hRl⟩) ⟨bl_R, pre_R va_nil hK hN⟩ rfl rfl hl.1 rfl (lv_room (Nat.le_of_ble_eq_true rfl)) dX3_sign_26 ⟨Nat.zero_le _, Nat.zero_le _⟩) hS ro_A (ro_F hS hA) (fun r_26 u t H1 locs ht hvm hu hB hz1 hk1 hS => ?_)
    have hu2 := hu.symm; subst hu2
    replace hP := ro_P hP hk1
    clear hk1 hz1 hvm ht
    generalize H1 = H at hP hS ⊢
    have hP : va_P D vwCl [(oS, .inr (3, [.long ms, .long mx, .int n, .int mk, .int g, .int h, .int st, .int cn, .int cs]))] H := hP
    obtain rfl : r_26 = c_bit (cs.toInt64) cn i := hB
    refine lv_iconst (v := 1) hx hb dX3_sign_29 (by decide) ?_
    refine lv_icmp_ne (tgt := 37) hx hb dX3_sign_30 (by decide) (fun c_30 => ?_) (fun c_30 => ?_)
    · skip
      refine lv_iconst (v := (-1)) hx hb dX3_sign_37 (by decide) ?_
      exact hret (-1) _ _ _ _ dX3_sign_38 (by simp [c_sign, *]) hS
    · skip
      refine lv_iconst (v := 1) hx hb dX3_sign_33 (by decide) ?_
      refine lv_goto (tgt := 38) hx hb dX3_sign_34 (by decide) ?_
      exact hret 1 _ _ _ _ dX3_sign_38 (by simp [c_sign, *]) hS
  · skip
    refine lv_iconst (v := 0) hx hb dX3_sign_14 (by decide) ?_
    exact hret 0 _ _ _ _ dX3_sign_15 (by simp [c_sign, *]) hS
set_option maxHeartbeats 4000000 in
set_option maxRecDepth 100000 in
theorem c_X3_sign (l : Launch) (D : va_G) (cI cJ : ClassId) (oS : Nat) (ms : Int64) (mx : Int64) (n : Int32) (mk : Int32) (g : Int32) (h : Int32) (st : Int32) (cn : Int32) (cs : Int32) (i : Int32) (sz : Nat)  : Met l yX3_sign (Cond.code yX3_sign cX3_sign 2 (some .int) :: BIG) ({ frames := 1, cells := 0, slots := 0, locals := 23 }) (va_Pc [.ref oS, .int i] (pr_R D cI cJ [(oS, .inr (3, [.long ms, .long mx, .int n, .int mk, .int g, .int h, .int st, .int cn, .int cs]))] sz)) (va_Qi (fun (r u : Int32) => u = r) (fun (u : Int32) (t : State) => u = c_sign cn cs i) (va_A [] sz)) 0 0 (va_A [] sz) := by
  refine Met.ofW (cc := cX3_sign) (maxL := 2) (ret := (some .int)) (by decide) rfl ?_
  intro p e s m args below meth c s₁ B hml hv
  obtain ⟨rfl, hsz, hP, hK, hN⟩ := hv
  have hl := lv_entry ([.ref oS, .int i]) (n := 2) (Nat.le_of_ble_eq_true rfl)
  rw [lg_entry_eq]
  subst hsz
  generalize (lg_sl ([.ref oS, .int i]) ++ List.replicate (2 - (lg_sl ([.ref oS, .int i])).length) Slot.unset).toArray = ls at hl ⊢
  exact b_X3_sign (A := va_A [] s.heap.size) D cI cJ oS ms mx n mk g h st cn cs i  B.exec B.bytes hml (findClass_of_methodNamed B.named) (fun w h => atoms_spec B.pre w (List.mem_cons_of_mem _ h)) (Nat.le_of_ble_eq_true rfl) (Nat.le_of_ble_eq_true rfl) hK hN (fun q h => Or.inr h) hP hl (fun r  H locs pc ls hdg hpost hS => W.iret B.exec B.bytes B.returns (fun t ht hW => ⟨⟨r, r, rfl, rfl, hpost⟩, hS.F ht⟩) hS.2.2 hdg B.notSynchronized)
theorem mt_X3_codeVoice : mt_ok yX3_codeVoice RX3 cX3_codeVoice 5 (some .int) 2 := ⟨mc_yX3_codeVoice, mn_X3, rfl, by decide +kernel⟩
set_option maxHeartbeats 4000000 in
set_option maxRecDepth 100000 in
theorem b_X3_codeVoice {p : Program} {l : Launch} {e : Env} {R : Room} {s : State} {m : MethodId} {args : Array Value} {below : List Frame} {meth : Method} {c : Code} {Q : State → Prop} {A : Nat → Prop} (D : va_G) (cI cJ : ClassId) (oS : Nat) (ms : Int64) (mx : Int64) (n : Int32) (mk : Int32) (g : Int32) (h : Int32) (st : Int32) (cn : Int32) (cs : Int32) (row : Int64) (half : Int32)  {ls : Array Slot} (hx : p.tables.exec = Jvm.exec) (hb : c.code = cX3_codeVoice) (hml : c.maxLocals = 5) (hown : s.vm.findClass RX3 = some m.cls) (htb : ∀ w ∈ BIG, w.before args s = true) (hRf : 2 ≤ R.frames) (hRl : 42 ≤ R.locals) (hK : va_K D vwCl [(cI, .int), (cJ, .long)] s) (hN : nw s) (hA : ∀ q, s.heap.size ≤ q → A q) (hP : va_P D vwCl [(oS, .inr (3, [.long ms, .long mx, .int n, .int mk, .int g, .int h, .int st, .int cn, .int cs]))] s.heap) (hl : lv_has ls 5 [(0, .ref oS), (1, .long row), (3, .int half)])
    (hret : ∀ (r : Int32)  (H : Heap) (locs : List Loc) (pc : Nat) (ls : Array Slot), decode cX3_codeVoice pc = .ok (.ireturn, 1) → (r = c_cv g h st row half) → va_S A s.heap H locs → W p l e R s m args below meth c H locs 0 0 Q (F0 m pc ls [.int r])) : W p l e R s m args below meth c s.heap [] 0 0 Q (F0 m 0 ls []) := by
  generalize hHe : s.heap = H at hP ⊢
  have hS : va_S A s.heap H [] := by rw [← hHe]; exact va_S.rf
  clear hHe
  refine lv_iload_n hx hb dX3_codeVoice_0 rfl (lv_at hl 2 rfl) ?_
  refine lv_if_ne (tgt := 11) hx hb dX3_codeVoice_1 (by decide) (fun c_1 => ?_) (fun c_1 => ?_)
  · skip
    refine lv_aload_n hx hb dX3_codeVoice_11 rfl (lv_at hl 0 rfl) ?_
    refine va_get (D := D) (ci := 3) (v := .int h) (C := RX3) (T := TX3) (N := 9) hx hb htb ml_X3 hown hK hP 0 rfl rfl 5 (by decide) (htb _ mf_X3_28) (fun _ h9 => h9) rfl dX3_codeVoice_12 ?_
    refine lv_istore (lv' := [(4, .int h), (0, .ref oS), (1, .long row), (3, .int half)]) hx hb dX3_codeVoice_15 hl (by decide) rfl (fun ls hl => ?_)
    refine lv_lload_n hx hb dX3_codeVoice_17 rfl (lv_at hl 2 rfl) ?_
    refine lv_iload hx hb dX3_codeVoice_18 (lv_at hl 0 rfl) ?_
    refine lv_i2l hx hb dX3_codeVoice_20 rfl ?_
    refine lv_land hx hb dX3_codeVoice_21 ?_
    refine va_calli (va_runSN (As := [.long (row &&& (h.toInt64))]) (rest := []) ⟨hx, hb, hml, hown, htb⟩ (c_X4_oddness l D cI cJ (row &&& (h.toInt64)) H.size ) (cb_SN htb mt_X4_oddness ms_yX4_oddness hN.2.2.2.2.2.2.2.1 ⟨Nat.le_trans (Nat.le_of_ble_eq_true rfl) hRf, Nat.le_trans (Nat.le_of_ble_eq_true rfl) hRl⟩) ⟨bl_R, pre_R va_nil hK hN⟩ rfl rfl hl.1 rfl (lv_room (Nat.le_of_ble_eq_true rfl)) dX3_codeVoice_22 ⟨Nat.zero_le _, Nat.zero_le _⟩) hS ro_A (ro_F hS hA) (fun r_22 u t H1 locs ht hvm hu hB hz1 hk1 hS => ?_)
    have hu2 := hu.symm; subst hu2
    replace hP := ro_P hP hk1
    clear hk1 hz1 hvm ht
    generalize H1 = H at hP hS ⊢
    have hP : va_P D vwCl [(oS, .inr (3, [.long ms, .long mx, .int n, .int mk, .int g, .int h, .int st, .int cn, .int cs]))] H := hP
    obtain rfl : r_22 = c_odd (row &&& (h.toInt64)) := hB
    refine lv_iconst (v := 1) hx hb dX3_codeVoice_25 (by decide) ?_
    refine lv_icmp_ne (tgt := 36) hx hb dX3_codeVoice_26 (by decide) (fun c_26 => ?_) (fun c_26 => ?_)
    · skip
      refine lv_aload_n hx hb dX3_codeVoice_36 rfl (lv_at hl 1 rfl) ?_
      refine va_get (D := D) (ci := 3) (v := .int st) (C := RX3) (T := TX3) (N := 9) hx hb htb ml_X3 hown hK hP 0 rfl rfl 6 (by decide) (htb _ mf_X3_31) (fun _ h9 => h9) rfl dX3_codeVoice_37 ?_
      refine lv_ineg hx hb dX3_codeVoice_40 ?_
      exact hret (-st) _ _ _ _ dX3_codeVoice_41 (by simp [c_cv, *]) hS
    · skip
      refine lv_aload_n hx hb dX3_codeVoice_29 rfl (lv_at hl 1 rfl) ?_
      refine va_get (D := D) (ci := 3) (v := .int st) (C := RX3) (T := TX3) (N := 9) hx hb htb ml_X3 hown hK hP 0 rfl rfl 6 (by decide) (htb _ mf_X3_31) (fun _ h9 => h9) rfl dX3_codeVoice_30 ?_
      refine lv_goto (tgt := 41) hx hb dX3_codeVoice_33 (by decide) ?_
      exact hret st _ _ _ _ dX3_codeVoice_41 (by simp [c_cv, *]) hS
  · skip
    refine lv_aload_n hx hb dX3_codeVoice_4 rfl (lv_at hl 0 rfl) ?_
    refine va_get (D := D) (ci := 3) (v := .int g) (C := RX3) (T := TX3) (N := 9) hx hb htb ml_X3 hown hK hP 0 rfl rfl 4 (by decide) (htb _ mf_X3_25) (fun _ h9 => h9) rfl dX3_codeVoice_5 ?_
    refine lv_goto (tgt := 15) hx hb dX3_codeVoice_8 (by decide) ?_
    refine lv_istore (lv' := [(4, .int g), (0, .ref oS), (1, .long row), (3, .int half)]) hx hb dX3_codeVoice_15 hl (by decide) rfl (fun ls hl => ?_)
    refine lv_lload_n hx hb dX3_codeVoice_17 rfl (lv_at hl 2 rfl) ?_
    refine lv_iload hx hb dX3_codeVoice_18 (lv_at hl 0 rfl) ?_
    refine lv_i2l hx hb dX3_codeVoice_20 rfl ?_
    refine lv_land hx hb dX3_codeVoice_21 ?_
    refine va_calli (va_runSN (As := [.long (row &&& (g.toInt64))]) (rest := []) ⟨hx, hb, hml, hown, htb⟩ (c_X4_oddness l D cI cJ (row &&& (g.toInt64)) H.size ) (cb_SN htb mt_X4_oddness ms_yX4_oddness hN.2.2.2.2.2.2.2.1 ⟨Nat.le_trans (Nat.le_of_ble_eq_true rfl) hRf, Nat.le_trans (Nat.le_of_ble_eq_true rfl) hRl⟩) ⟨bl_R, pre_R va_nil hK hN⟩ rfl rfl hl.1 rfl (lv_room (Nat.le_of_ble_eq_true rfl)) dX3_codeVoice_22 ⟨Nat.zero_le _, Nat.zero_le _⟩) hS ro_A (ro_F hS hA) (fun r_22 u t H1 locs ht hvm hu hB hz1 hk1 hS => ?_)
    have hu2 := hu.symm; subst hu2
    replace hP := ro_P hP hk1
    clear hk1 hz1 hvm ht
    generalize H1 = H at hP hS ⊢
    have hP : va_P D vwCl [(oS, .inr (3, [.long ms, .long mx, .int n, .int mk, .int g, .int h, .int st, .int cn, .int cs]))] H := hP
    obtain rfl : r_22 = c_odd (row &&& (g.toInt64)) := hB
    refine lv_iconst (v := 1) hx hb dX3_codeVoice_25 (by decide) ?_
    refine lv_icmp_ne (tgt := 36) hx hb dX3_codeVoice_26 (by decide) (fun c_26 => ?_) (fun c_26 => ?_)
    · skip
      refine lv_aload_n hx hb dX3_codeVoice_36 rfl (lv_at hl 1 rfl) ?_
      refine va_get (D := D) (ci := 3) (v := .int st) (C := RX3) (T := TX3) (N := 9) hx hb htb ml_X3 hown hK hP 0 rfl rfl 6 (by decide) (htb _ mf_X3_31) (fun _ h9 => h9) rfl dX3_codeVoice_37 ?_
      refine lv_ineg hx hb dX3_codeVoice_40 ?_
      exact hret (-st) _ _ _ _ dX3_codeVoice_41 (by simp [c_cv, *]) hS
    · skip
      refine lv_aload_n hx hb dX3_codeVoice_29 rfl (lv_at hl 1 rfl) ?_
      refine va_get (D := D) (ci := 3) (v := .int st) (C := RX3) (T := TX3) (N := 9) hx hb htb ml_X3 hown hK hP 0 rfl rfl 6 (by decide) (htb _ mf_X3_31) (fun _ h9 => h9) rfl dX3_codeVoice_30 ?_
      refine lv_goto (tgt := 41) hx hb dX3_codeVoice_33 (by decide) ?_
      exact hret st _ _ _ _ dX3_codeVoice_41 (by simp [c_cv, *]) hS
set_option maxHeartbeats 4000000 in
set_option maxRecDepth 100000 in
theorem c_X3_codeVoice (l : Launch) (D : va_G) (cI cJ : ClassId) (oS : Nat) (ms : Int64) (mx : Int64) (n : Int32) (mk : Int32) (g : Int32) (h : Int32) (st : Int32) (cn : Int32) (cs : Int32) (row : Int64) (half : Int32) (sz : Nat)  : Met l yX3_codeVoice (Cond.code yX3_codeVoice cX3_codeVoice 5 (some .int) :: BIG) ({ frames := 2, cells := 0, slots := 0, locals := 42 }) (va_Pc [.ref oS, .long row, .int half] (pr_R D cI cJ [(oS, .inr (3, [.long ms, .long mx, .int n, .int mk, .int g, .int h, .int st, .int cn, .int cs]))] sz)) (va_Qi (fun (r u : Int32) => u = r) (fun (u : Int32) (t : State) => u = c_cv g h st row half) (va_A [] sz)) 0 0 (va_A [] sz) := by
  refine Met.ofW (cc := cX3_codeVoice) (maxL := 5) (ret := (some .int)) (by decide) rfl ?_
  intro p e s m args below meth c s₁ B hml hv
  obtain ⟨rfl, hsz, hP, hK, hN⟩ := hv
  have hl := lv_entry ([.ref oS, .long row, .int half]) (n := 5) (Nat.le_of_ble_eq_true rfl)
  rw [lg_entry_eq]
  subst hsz
  generalize (lg_sl ([.ref oS, .long row, .int half]) ++ List.replicate (5 - (lg_sl ([.ref oS, .long row, .int half])).length) Slot.unset).toArray = ls at hl ⊢
  exact b_X3_codeVoice (A := va_A [] s.heap.size) D cI cJ oS ms mx n mk g h st cn cs row half  B.exec B.bytes hml (findClass_of_methodNamed B.named) (fun w h => atoms_spec B.pre w (List.mem_cons_of_mem _ h)) (Nat.le_of_ble_eq_true rfl) (Nat.le_of_ble_eq_true rfl) hK hN (fun q h => Or.inr h) hP hl (fun r  H locs pc ls hdg hpost hS => W.iret B.exec B.bytes B.returns (fun t ht hW => ⟨⟨r, r, rfl, rfl, hpost⟩, hS.F ht⟩) hS.2.2 hdg B.notSynchronized)
theorem mt_X3_frameVoice : mt_ok yX3_frameVoice RX3 cX3_frameVoice 6 (some .int) 1 := ⟨mc_yX3_frameVoice, mn_X3, rfl, by decide +kernel⟩
set_option maxHeartbeats 4000000 in
set_option maxRecDepth 100000 in
theorem b_X3_frameVoice {p : Program} {l : Launch} {e : Env} {R : Room} {s : State} {m : MethodId} {args : Array Value} {below : List Frame} {meth : Method} {c : Code} {Q : State → Prop} {A : Nat → Prop} (D : va_G) (cI cJ : ClassId) (oS : Nat) (ms : Int64) (mx : Int64) (n : Int32) (mk : Int32) (g : Int32) (h : Int32) (st : Int32) (cn : Int32) (cs : Int32) (i : Int32)  {ls : Array Slot} (hx : p.tables.exec = Jvm.exec) (hb : c.code = cX3_frameVoice) (hml : c.maxLocals = 6) (hown : s.vm.findClass RX3 = some m.cls) (htb : ∀ w ∈ BIG, w.before args s = true) (hRf : 3 ≤ R.frames) (hRl : 66 ≤ R.locals) (hK : va_K D vwCl [(cI, .int), (cJ, .long)] s) (hN : nw s) (hA : ∀ q, s.heap.size ≤ q → A q) (hP : va_P D vwCl [(oS, .inr (3, [.long ms, .long mx, .int n, .int mk, .int g, .int h, .int st, .int cn, .int cs]))] s.heap) (hl : lv_has ls 6 [(0, .ref oS), (1, .int i)])
    (hret : ∀ (r : Int32)  (H : Heap) (locs : List Loc) (pc : Nat) (ls : Array Slot), decode cX3_frameVoice pc = .ok (.ireturn, 1) → (r = c_fv mx n g h st cn cs i) → va_S A s.heap H locs → W p l e R s m args below meth c H locs 0 0 Q (F0 m pc ls [.int r])) : W p l e R s m args below meth c s.heap [] 0 0 Q (F0 m 0 ls []) := by
  generalize hHe : s.heap = H at hP ⊢
  have hS : va_S A s.heap H [] := by rw [← hHe]; exact va_S.rf
  clear hHe
  refine lv_iload_n hx hb dX3_frameVoice_0 rfl (lv_at hl 1 rfl) ?_
  refine lv_aload_n hx hb dX3_frameVoice_1 rfl (lv_at hl 0 rfl) ?_
  refine va_get (D := D) (ci := 3) (v := .int cn) (C := RX3) (T := TX3) (N := 9) hx hb htb ml_X3 hown hK hP 0 rfl rfl 7 (by decide) (htb _ mf_X3_34) (fun _ h9 => h9) rfl dX3_frameVoice_2 ?_
  refine lv_icmp_ge (tgt := 19) hx hb dX3_frameVoice_5 (by decide) (fun c_5 => ?_) (fun c_5 => ?_)
  · skip
    refine lv_iload_n hx hb dX3_frameVoice_19 rfl (lv_at hl 1 rfl) ?_
    refine lv_aload_n hx hb dX3_frameVoice_20 rfl (lv_at hl 0 rfl) ?_
    refine va_get (D := D) (ci := 3) (v := .int cn) (C := RX3) (T := TX3) (N := 9) hx hb htb ml_X3 hown hK hP 0 rfl rfl 7 (by decide) (htb _ mf_X3_34) (fun _ h9 => h9) rfl dX3_frameVoice_21 ?_
    refine lv_isub hx hb dX3_frameVoice_24 ?_
    refine lv_istore_n (lv' := [(2, .int (i - cn)), (0, .ref oS), (1, .int i)]) hx hb dX3_frameVoice_25 rfl hl (by decide) rfl (fun ls hl => ?_)
    refine lv_iload_n hx hb dX3_frameVoice_26 rfl (lv_at hl 0 rfl) ?_
    refine lv_iconst (v := 2) hx hb dX3_frameVoice_27 (by decide) ?_
    refine lv_idiv hx hb dX3_frameVoice_28 (by decide) ?_
    refine lv_istore_n (lv' := [(3, .int ((i - cn) / 2)), (2, .int (i - cn)), (0, .ref oS), (1, .int i)]) hx hb dX3_frameVoice_29 rfl hl (by decide) rfl (fun ls hl => ?_)
    refine lv_iload_n hx hb dX3_frameVoice_30 rfl (lv_at hl 0 rfl) ?_
    refine lv_aload_n hx hb dX3_frameVoice_31 rfl (lv_at hl 2 rfl) ?_
    refine va_calli (va_runV (As := []) (rest := [.int ((i - cn) / 2)]) ⟨hx, hb, hml, hown, htb⟩ (c_X3_steps l D cI cJ oS ms mx n mk g h st cn cs H.size ) (cb_V htb mt_X3_steps mi_yX3_steps mx_yX3_steps mm_X3_44 ⟨Nat.le_trans (Nat.le_of_ble_eq_true rfl) hRf, Nat.le_trans (Nat.le_of_ble_eq_true rfl) hRl⟩) ⟨bl_R, va_recv hK hP (ci := 3) (q0 := 0) rfl rfl, pre_R (hP.sub (ws' := [(oS, .inr (3, [.long ms, .long mx, .int n, .int mk, .int g, .int h, .int st, .int cn, .int cs]))]) [0] rfl) hK hN⟩ rfl rfl hl.1 rfl (lv_room (Nat.le_of_ble_eq_true rfl)) dX3_frameVoice_32 ⟨Nat.zero_le _, Nat.zero_le _⟩) hS ro_A (ro_F hS hA) (fun r_32 u t H1 locs ht hvm hu hB hz1 hk1 hS => ?_)
    have hu2 := hu.symm; subst hu2
    replace hP := ro_P hP hk1
    clear hk1 hz1 hvm ht
    generalize H1 = H at hP hS ⊢
    have hP : va_P D vwCl [(oS, .inr (3, [.long ms, .long mx, .int n, .int mk, .int g, .int h, .int st, .int cn, .int cs]))] H := hP
    obtain rfl : r_32 = n + 3 := hB
    refine lv_icmp_lt (tgt := 40) hx hb dX3_frameVoice_35 (by decide) (fun c_35 => ?_) (fun c_35 => ?_)
    · skip
      refine lv_aload_n hx hb dX3_frameVoice_40 rfl (lv_at hl 2 rfl) ?_
      refine va_get (D := D) (ci := 3) (v := .long mx) (C := RX3) (T := TX3) (N := 9) hx hb htb ml_X3 hown hK hP 0 rfl rfl 1 (by decide) (htb _ mf_X3_15) (fun _ h9 => h9) rfl dX3_frameVoice_41 ?_
      refine lv_iconst (v := 3) hx hb dX3_frameVoice_44 (by decide) ?_
      refine lv_lshl hx hb dX3_frameVoice_45 rfl ?_
      refine lv_lstore (lv' := [(4, .long (mx <<< ((3 : Int32).toInt64 &&& 63))), (3, .int ((i - cn) / 2)), (2, .int (i - cn)), (0, .ref oS), (1, .int i)]) hx hb dX3_frameVoice_46 hl (by decide) rfl (fun ls hl => ?_)
      refine lv_aload_n hx hb dX3_frameVoice_48 rfl (lv_at hl 3 rfl) ?_
      refine lv_lload hx hb dX3_frameVoice_49 (lv_at hl 0 rfl) ?_
      refine lv_aload_n hx hb dX3_frameVoice_51 rfl (lv_at hl 3 rfl) ?_
      refine va_calli (va_runV (As := []) (rest := [.long (mx <<< ((3 : Int32).toInt64 &&& 63)), .ref oS]) ⟨hx, hb, hml, hown, htb⟩ (c_X3_steps l D cI cJ oS ms mx n mk g h st cn cs H.size ) (cb_V htb mt_X3_steps mi_yX3_steps mx_yX3_steps mm_X3_44 ⟨Nat.le_trans (Nat.le_of_ble_eq_true rfl) hRf, Nat.le_trans (Nat.le_of_ble_eq_true rfl) hRl⟩) ⟨bl_R, va_recv hK hP (ci := 3) (q0 := 0) rfl rfl, pre_R (hP.sub (ws' := [(oS, .inr (3, [.long ms, .long mx, .int n, .int mk, .int g, .int h, .int st, .int cn, .int cs]))]) [0] rfl) hK hN⟩ rfl rfl hl.1 rfl (lv_room (Nat.le_of_ble_eq_true rfl)) dX3_frameVoice_52 ⟨Nat.zero_le _, Nat.zero_le _⟩) hS ro_A (ro_F hS hA) (fun r_52 u t H1 locs ht hvm hu hB hz1 hk1 hS => ?_)
      have hu2 := hu.symm; subst hu2
      replace hP := ro_P hP hk1
      clear hk1 hz1 hvm ht
      generalize H1 = H at hP hS ⊢
      have hP : va_P D vwCl [(oS, .inr (3, [.long ms, .long mx, .int n, .int mk, .int g, .int h, .int st, .int cn, .int cs]))] H := hP
      obtain rfl : r_52 = n + 3 := hB
      refine lv_iconst (v := 1) hx hb dX3_frameVoice_55 (by decide) ?_
      refine lv_isub hx hb dX3_frameVoice_56 ?_
      refine lv_iload_n hx hb dX3_frameVoice_57 rfl (lv_at hl 1 rfl) ?_
      refine lv_isub hx hb dX3_frameVoice_58 ?_
      refine lv_lshr hx hb dX3_frameVoice_59 rfl ?_
      refine lv_iload_n hx hb dX3_frameVoice_60 rfl (lv_at hl 2 rfl) ?_
      refine lv_iconst (v := 2) hx hb dX3_frameVoice_61 (by decide) ?_
      refine lv_irem hx hb dX3_frameVoice_62 (by decide) ?_
      refine va_calli (va_runV (As := [.long ((mx <<< ((3 : Int32).toInt64 &&& 63)) >>> ((((n + 3) - 1) - ((i - cn) / 2)).toInt64 &&& 63)), .int ((i - cn) - (i - cn) / 2 * 2)]) (rest := []) ⟨hx, hb, hml, hown, htb⟩ (c_X3_codeVoice l D cI cJ oS ms mx n mk g h st cn cs ((mx <<< ((3 : Int32).toInt64 &&& 63)) >>> ((((n + 3) - 1) - ((i - cn) / 2)).toInt64 &&& 63)) ((i - cn) - (i - cn) / 2 * 2) H.size ) (cb_V htb mt_X3_codeVoice mi_yX3_codeVoice mx_yX3_codeVoice mm_X3_64 ⟨Nat.le_trans (Nat.le_of_ble_eq_true rfl) hRf, Nat.le_trans (Nat.le_of_ble_eq_true rfl) hRl⟩) ⟨bl_R, va_recv hK hP (ci := 3) (q0 := 0) rfl rfl, pre_R (hP.sub (ws' := [(oS, .inr (3, [.long ms, .long mx, .int n, .int mk, .int g, .int h, .int st, .int cn, .int cs]))]) [0] rfl) hK hN⟩ rfl rfl hl.1 rfl (lv_room (Nat.le_of_ble_eq_true rfl)) dX3_frameVoice_63 ⟨Nat.zero_le _, Nat.zero_le _⟩) hS ro_A (ro_F hS hA) (fun r_63 u t H1 locs ht hvm hu hB hz1 hk1 hS => ?_)
      have hu2 := hu.symm; subst hu2
      replace hP := ro_P hP hk1
      clear hk1 hz1 hvm ht
      generalize H1 = H at hP hS ⊢
      have hP : va_P D vwCl [(oS, .inr (3, [.long ms, .long mx, .int n, .int mk, .int g, .int h, .int st, .int cn, .int cs]))] H := hP
      obtain rfl : r_63 = c_cv g h st ((mx <<< ((3 : Int32).toInt64 &&& 63)) >>> ((((n + 3) - 1) - ((i - cn) / 2)).toInt64 &&& 63)) ((i - cn) - (i - cn) / 2 * 2) := hB
      exact hret (c_cv g h st ((mx <<< ((3 : Int32).toInt64 &&& 63)) >>> ((((n + 3) - 1) - ((i - cn) / 2)).toInt64 &&& 63)) ((i - cn) - (i - cn) / 2 * 2)) _ _ _ _ dX3_frameVoice_66 (by simp only [c_fv]; first | (rw [if_neg c_5]; done) | (rw [if_pos c_5, if_pos c_35]; done) | (rw [if_pos c_5, if_neg c_35]; done)) hS
    · skip
      refine lv_iconst (v := 0) hx hb dX3_frameVoice_38 (by decide) ?_
      exact hret 0 _ _ _ _ dX3_frameVoice_39 (by simp only [c_fv]; first | (rw [if_neg c_5]; done) | (rw [if_pos c_5, if_pos c_35]; done) | (rw [if_pos c_5, if_neg c_35]; done)) hS
  · skip
    refine lv_aload_n hx hb dX3_frameVoice_8 rfl (lv_at hl 0 rfl) ?_
    refine lv_iload_n hx hb dX3_frameVoice_9 rfl (lv_at hl 1 rfl) ?_
    refine va_calli (va_runV (As := [.int i]) (rest := []) ⟨hx, hb, hml, hown, htb⟩ (c_X3_sign l D cI cJ oS ms mx n mk g h st cn cs i H.size ) (cb_V htb mt_X3_sign mi_yX3_sign mx_yX3_sign mm_X3_60 ⟨Nat.le_trans (Nat.le_of_ble_eq_true rfl) hRf, Nat.le_trans (Nat.le_of_ble_eq_true rfl) hRl⟩) ⟨bl_R, va_recv hK hP (ci := 3) (q0 := 0) rfl rfl, pre_R (hP.sub (ws' := [(oS, .inr (3, [.long ms, .long mx, .int n, .int mk, .int g, .int h, .int st, .int cn, .int cs]))]) [0] rfl) hK hN⟩ rfl rfl hl.1 rfl (lv_room (Nat.le_of_ble_eq_true rfl)) dX3_frameVoice_10 ⟨Nat.zero_le _, Nat.zero_le _⟩) hS ro_A (ro_F hS hA) (fun r_10 u t H1 locs ht hvm hu hB hz1 hk1 hS => ?_)
    have hu2 := hu.symm; subst hu2
    replace hP := ro_P hP hk1
    clear hk1 hz1 hvm ht
    generalize H1 = H at hP hS ⊢
    have hP : va_P D vwCl [(oS, .inr (3, [.long ms, .long mx, .int n, .int mk, .int g, .int h, .int st, .int cn, .int cs]))] H := hP
    obtain rfl : r_10 = c_sign cn cs i := hB
    refine lv_aload_n hx hb dX3_frameVoice_13 rfl (lv_at hl 0 rfl) ?_
    refine va_get (D := D) (ci := 3) (v := .int st) (C := RX3) (T := TX3) (N := 9) hx hb htb ml_X3 hown hK hP 0 rfl rfl 6 (by decide) (htb _ mf_X3_31) (fun _ h9 => h9) rfl dX3_frameVoice_14 ?_
    refine lv_imul hx hb dX3_frameVoice_17 ?_
    exact hret ((c_sign cn cs i) * st) _ _ _ _ dX3_frameVoice_18 (by simp only [c_fv]; first | (rw [if_neg c_5]; done) | (rw [if_pos c_5, if_pos c_35]; done) | (rw [if_pos c_5, if_neg c_35]; done)) hS
set_option maxHeartbeats 4000000 in
set_option maxRecDepth 100000 in
theorem c_X3_frameVoice (l : Launch) (D : va_G) (cI cJ : ClassId) (oS : Nat) (ms : Int64) (mx : Int64) (n : Int32) (mk : Int32) (g : Int32) (h : Int32) (st : Int32) (cn : Int32) (cs : Int32) (i : Int32) (sz : Nat)  : Met l yX3_frameVoice (Cond.code yX3_frameVoice cX3_frameVoice 6 (some .int) :: BIG) ({ frames := 3, cells := 0, slots := 0, locals := 66 }) (va_Pc [.ref oS, .int i] (pr_R D cI cJ [(oS, .inr (3, [.long ms, .long mx, .int n, .int mk, .int g, .int h, .int st, .int cn, .int cs]))] sz)) (va_Qi (fun (r u : Int32) => u = r) (fun (u : Int32) (t : State) => u = c_fv mx n g h st cn cs i) (va_A [] sz)) 0 0 (va_A [] sz) := by
  refine Met.ofW (cc := cX3_frameVoice) (maxL := 6) (ret := (some .int)) (by decide) rfl ?_
  intro p e s m args below meth c s₁ B hml hv
  obtain ⟨rfl, hsz, hP, hK, hN⟩ := hv
  have hl := lv_entry ([.ref oS, .int i]) (n := 6) (Nat.le_of_ble_eq_true rfl)
  rw [lg_entry_eq]
  subst hsz
  generalize (lg_sl ([.ref oS, .int i]) ++ List.replicate (6 - (lg_sl ([.ref oS, .int i])).length) Slot.unset).toArray = ls at hl ⊢
  exact b_X3_frameVoice (A := va_A [] s.heap.size) D cI cJ oS ms mx n mk g h st cn cs i  B.exec B.bytes hml (findClass_of_methodNamed B.named) (fun w h => atoms_spec B.pre w (List.mem_cons_of_mem _ h)) (Nat.le_of_ble_eq_true rfl) (Nat.le_of_ble_eq_true rfl) hK hN (fun q h => Or.inr h) hP hl (fun r  H locs pc ls hdg hpost hS => W.iret B.exec B.bytes B.returns (fun t ht hW => ⟨⟨r, r, rfl, rfl, hpost⟩, hS.F ht⟩) hS.2.2 hdg B.notSynchronized)
end
section
theorem mt_X0_lastPlace : mt_ok yX0_lastPlace RX0 cX0_lastPlace 1 (some .int) 0 := ⟨mc_yX0_lastPlace, mn_X0, rfl, by decide +kernel⟩
set_option maxHeartbeats 4000000 in
set_option maxRecDepth 100000 in
theorem b_X0_lastPlace {p : Program} {l : Launch} {e : Env} {R : Room} {s : State} {m : MethodId} {args : Array Value} {below : List Frame} {meth : Method} {c : Code} {Q : State → Prop} {A : Nat → Prop} (D : va_G) (cI cJ : ClassId) (oC : Nat) (aW : Nat) (lag : Int32) (ld : Int32) (sd : Int32) (lf : Int32) (ll : Int32) (w : Nat → Int32)  {ls : Array Slot} (hx : p.tables.exec = Jvm.exec) (hb : c.code = cX0_lastPlace) (hml : c.maxLocals = 1) (hown : s.vm.findClass RX0 = some m.cls) (htb : ∀ w ∈ BIG, w.before args s = true) (hRf : 0 ≤ R.frames) (hRl : 0 ≤ R.locals) (hK : va_K D vwCl [(cI, .int), (cJ, .long)] s) (hN : nw s) (hA : ∀ q, s.heap.size ≤ q → A q) (hP : va_P D vwCl [(oC, .inr (0, [.ref aW, .int lag, .int ld, .int sd, .int lf, .int ll])), (aW, .inl (cI, 4, .inl w))] s.heap) (hl : lv_has ls 1 [(0, .ref oC)])
    (hret : ∀ (r : Int32)  (H : Heap) (locs : List Loc) (pc : Nat) (ls : Array Slot), decode cX0_lastPlace pc = .ok (.ireturn, 1) → (r = lag + 8) → va_S A s.heap H locs → W p l e R s m args below meth c H locs 0 0 Q (F0 m pc ls [.int r])) : W p l e R s m args below meth c s.heap [] 0 0 Q (F0 m 0 ls []) := by
  generalize hHe : s.heap = H at hP ⊢
  have hS : va_S A s.heap H [] := by rw [← hHe]; exact va_S.rf
  clear hHe
  refine lv_aload_n hx hb dX0_lastPlace_0 rfl (lv_at hl 0 rfl) ?_
  refine va_get (D := D) (ci := 0) (v := .int lag) (C := RX0) (T := TX0) (N := 6) hx hb htb ml_X0 hown hK hP 0 rfl rfl 1 (by decide) (htb _ mf_X0_15) (fun _ h9 => h9) rfl dX0_lastPlace_1 ?_
  refine lv_bipush (v := 8) hx hb dX0_lastPlace_4 (by decide) ?_
  refine lv_iadd hx hb dX0_lastPlace_6 ?_
  exact hret (lag + 8) _ _ _ _ dX0_lastPlace_7 (rfl) hS
set_option maxHeartbeats 4000000 in
set_option maxRecDepth 100000 in
theorem c_X0_lastPlace (l : Launch) (D : va_G) (cI cJ : ClassId) (oC : Nat) (aW : Nat) (lag : Int32) (ld : Int32) (sd : Int32) (lf : Int32) (ll : Int32) (w : Nat → Int32) (sz : Nat)  : Met l yX0_lastPlace (Cond.code yX0_lastPlace cX0_lastPlace 1 (some .int) :: BIG) ({ frames := 0, cells := 0, slots := 0, locals := 0 }) (va_Pc [.ref oC] (pr_R D cI cJ [(oC, .inr (0, [.ref aW, .int lag, .int ld, .int sd, .int lf, .int ll])), (aW, .inl (cI, 4, .inl w))] sz)) (va_Qi (fun (r u : Int32) => u = r) (fun (u : Int32) (t : State) => u = lag + 8) (va_A [] sz)) 0 0 (va_A [] sz) := by
  refine Met.ofW (cc := cX0_lastPlace) (maxL := 1) (ret := (some .int)) (by decide) rfl ?_
  intro p e s m args below meth c s₁ B hml hv
  obtain ⟨rfl, hsz, hP, hK, hN⟩ := hv
  have hl := lv_entry ([.ref oC]) (n := 1) (Nat.le_of_ble_eq_true rfl)
  rw [lg_entry_eq]
  subst hsz
  generalize (lg_sl ([.ref oC]) ++ List.replicate (1 - (lg_sl ([.ref oC])).length) Slot.unset).toArray = ls at hl ⊢
  exact b_X0_lastPlace (A := va_A [] s.heap.size) D cI cJ oC aW lag ld sd lf ll w  B.exec B.bytes hml (findClass_of_methodNamed B.named) (fun w h => atoms_spec B.pre w (List.mem_cons_of_mem _ h)) (Nat.le_of_ble_eq_true rfl) (Nat.le_of_ble_eq_true rfl) hK hN (fun q h => Or.inr h) hP hl (fun r  H locs pc ls hdg hpost hS => W.iret B.exec B.bytes B.returns (fun t ht hW => ⟨⟨r, r, rfl, rfl, hpost⟩, hS.F ht⟩) hS.2.2 hdg B.notSynchronized)
theorem mt_X0_nextDraw : mt_ok yX0_nextDraw RX0 cX0_nextDraw 2 (some .int) 1 := ⟨mc_yX0_nextDraw, mn_X0, rfl, by decide +kernel⟩
set_option maxHeartbeats 4000000 in
set_option maxRecDepth 100000 in
theorem b_X0_nextDraw {p : Program} {l : Launch} {e : Env} {R : Room} {s : State} {m : MethodId} {args : Array Value} {below : List Frame} {meth : Method} {c : Code} {Q : State → Prop} {A : Nat → Prop} (D : va_G) (cI cJ : ClassId) (oC : Nat) (aW : Nat) (lag : Int32) (ld : Int32) (sd : Int32) (lf : Int32) (ll : Int32) (w : Nat → Int32) (z : Int32)  {ls : Array Slot} (hx : p.tables.exec = Jvm.exec) (hb : c.code = cX0_nextDraw) (hml : c.maxLocals = 2) (hown : s.vm.findClass RX0 = some m.cls) (htb : ∀ w ∈ BIG, w.before args s = true) (hRf : 0 ≤ R.frames) (hRl : 0 ≤ R.locals) (hK : va_K D vwCl [(cI, .int), (cJ, .long)] s) (hN : nw s) (hA : ∀ q, s.heap.size ≤ q → A q) (hP : va_P D vwCl [(oC, .inr (0, [.ref aW, .int lag, .int ld, .int sd, .int lf, .int ll])), (aW, .inl (cI, 4, .inl w))] s.heap) (hl : lv_has ls 2 [(0, .ref oC), (1, .int z)])
    (hret : ∀ (r : Int32)  (H : Heap) (locs : List Loc) (pc : Nat) (ls : Array Slot), decode cX0_nextDraw pc = .ok (.ireturn, 1) → (r = c_draw z) → va_S A s.heap H locs → W p l e R s m args below meth c H locs 0 0 Q (F0 m pc ls [.int r])) : W p l e R s m args below meth c s.heap [] 0 0 Q (F0 m 0 ls []) := by
  generalize hHe : s.heap = H at hP ⊢
  have hS : va_S A s.heap H [] := by rw [← hHe]; exact va_S.rf
  clear hHe
  refine lv_iload_n hx hb dX0_nextDraw_0 rfl (lv_at hl 1 rfl) ?_
  refine lv_ldc (v := 1103515245) hx hb hown (htb _ mk_X0_31) dX0_nextDraw_1 ?_
  refine lv_imul hx hb dX0_nextDraw_3 ?_
  refine lv_sipush (v := 12345) hx hb dX0_nextDraw_4 (by decide) ?_
  refine lv_iadd hx hb dX0_nextDraw_7 ?_
  refine lv_ldc (v := 2147483647) hx hb hown (htb _ mk_X0_32) dX0_nextDraw_8 ?_
  refine lv_iand hx hb dX0_nextDraw_10 ?_
  exact hret (((z * 1103515245) + 12345) &&& 2147483647) _ _ _ _ dX0_nextDraw_11 (rfl) hS
set_option maxHeartbeats 4000000 in
set_option maxRecDepth 100000 in
theorem c_X0_nextDraw (l : Launch) (D : va_G) (cI cJ : ClassId) (oC : Nat) (aW : Nat) (lag : Int32) (ld : Int32) (sd : Int32) (lf : Int32) (ll : Int32) (w : Nat → Int32) (z : Int32) (sz : Nat)  : Met l yX0_nextDraw (Cond.code yX0_nextDraw cX0_nextDraw 2 (some .int) :: BIG) ({ frames := 0, cells := 0, slots := 0, locals := 0 }) (va_Pc [.ref oC, .int z] (pr_R D cI cJ [(oC, .inr (0, [.ref aW, .int lag, .int ld, .int sd, .int lf, .int ll])), (aW, .inl (cI, 4, .inl w))] sz)) (va_Qi (fun (r u : Int32) => u = r) (fun (u : Int32) (t : State) => u = c_draw z) (va_A [] sz)) 0 0 (va_A [] sz) := by
  refine Met.ofW (cc := cX0_nextDraw) (maxL := 2) (ret := (some .int)) (by decide) rfl ?_
  intro p e s m args below meth c s₁ B hml hv
  obtain ⟨rfl, hsz, hP, hK, hN⟩ := hv
  have hl := lv_entry ([.ref oC, .int z]) (n := 2) (Nat.le_of_ble_eq_true rfl)
  rw [lg_entry_eq]
  subst hsz
  generalize (lg_sl ([.ref oC, .int z]) ++ List.replicate (2 - (lg_sl ([.ref oC, .int z])).length) Slot.unset).toArray = ls at hl ⊢
  exact b_X0_nextDraw (A := va_A [] s.heap.size) D cI cJ oC aW lag ld sd lf ll w z  B.exec B.bytes hml (findClass_of_methodNamed B.named) (fun w h => atoms_spec B.pre w (List.mem_cons_of_mem _ h)) (Nat.le_of_ble_eq_true rfl) (Nat.le_of_ble_eq_true rfl) hK hN (fun q h => Or.inr h) hP hl (fun r  H locs pc ls hdg hpost hS => W.iret B.exec B.bytes B.returns (fun t ht hW => ⟨⟨r, r, rfl, rfl, hpost⟩, hS.F ht⟩) hS.2.2 hdg B.notSynchronized)
theorem mt_X0_noiseOf : mt_ok yX0_noiseOf RX0 cX0_noiseOf 3 (some .int) 1 := ⟨mc_yX0_noiseOf, mn_X0, rfl, by decide +kernel⟩
set_option maxHeartbeats 4000000 in
set_option maxRecDepth 100000 in
theorem b_X0_noiseOf {p : Program} {l : Launch} {e : Env} {R : Room} {s : State} {m : MethodId} {args : Array Value} {below : List Frame} {meth : Method} {c : Code} {Q : State → Prop} {A : Nat → Prop} (D : va_G) (cI cJ : ClassId) (oC : Nat) (aW : Nat) (lag : Int32) (ld : Int32) (sd : Int32) (lf : Int32) (ll : Int32) (w : Nat → Int32) (z : Int32)  {ls : Array Slot} (hx : p.tables.exec = Jvm.exec) (hb : c.code = cX0_noiseOf) (hml : c.maxLocals = 3) (hown : s.vm.findClass RX0 = some m.cls) (htb : ∀ w ∈ BIG, w.before args s = true) (hRf : 0 ≤ R.frames) (hRl : 0 ≤ R.locals) (hK : va_K D vwCl [(cI, .int), (cJ, .long)] s) (hN : nw s) (hA : ∀ q, s.heap.size ≤ q → A q) (hP : va_P D vwCl [(oC, .inr (0, [.ref aW, .int lag, .int ld, .int sd, .int lf, .int ll])), (aW, .inl (cI, 4, .inl w))] s.heap) (hl : lv_has ls 3 [(0, .ref oC), (1, .int z)])
    (hret : ∀ (r : Int32)  (H : Heap) (locs : List Loc) (pc : Nat) (ls : Array Slot), decode cX0_noiseOf pc = .ok (.ireturn, 1) → (r = c_noise ld z) → va_S A s.heap H locs → W p l e R s m args below meth c H locs 0 0 Q (F0 m pc ls [.int r])) : W p l e R s m args below meth c s.heap [] 0 0 Q (F0 m 0 ls []) := by
  generalize hHe : s.heap = H at hP ⊢
  have hS : va_S A s.heap H [] := by rw [← hHe]; exact va_S.rf
  clear hHe
  refine lv_iconst (v := 2) hx hb dX0_noiseOf_0 (by decide) ?_
  refine lv_aload_n hx hb dX0_noiseOf_1 rfl (lv_at hl 0 rfl) ?_
  refine va_get (D := D) (ci := 0) (v := .int ld) (C := RX0) (T := TX0) (N := 6) hx hb htb ml_X0 hown hK hP 0 rfl rfl 2 (by decide) (htb _ mf_X0_19) (fun _ h9 => h9) rfl dX0_noiseOf_2 ?_
  refine lv_imul hx hb dX0_noiseOf_5 ?_
  refine lv_iconst (v := 1) hx hb dX0_noiseOf_6 (by decide) ?_
  refine lv_iadd hx hb dX0_noiseOf_7 ?_
  refine lv_istore_n (lv' := [(2, .int ((2 * ld) + 1)), (0, .ref oC), (1, .int z)]) hx hb dX0_noiseOf_8 rfl hl (by decide) rfl (fun ls hl => ?_)
  refine lv_iload_n hx hb dX0_noiseOf_9 rfl (lv_at hl 0 rfl) ?_
  refine lv_iconst (v := 1) hx hb dX0_noiseOf_10 (by decide) ?_
  refine lv_icmp_ge (tgt := 18) hx hb dX0_noiseOf_11 (by decide) (fun c_11 => ?_) (fun c_11 => ?_)
  · skip
    refine lv_iload_n hx hb dX0_noiseOf_18 rfl (lv_at hl 2 rfl) ?_
    refine lv_ldc (v := 65536) hx hb hown (htb _ mk_X0_33) dX0_noiseOf_19 ?_
    refine lv_idiv hx hb dX0_noiseOf_21 (by decide) ?_
    refine lv_iload_n hx hb dX0_noiseOf_22 rfl (lv_at hl 0 rfl) ?_
    refine lv_irem hx hb dX0_noiseOf_23 (fun h => absurd (h ▸ c_11) (by decide)) ?_
    refine lv_aload_n hx hb dX0_noiseOf_24 rfl (lv_at hl 1 rfl) ?_
    refine va_get (D := D) (ci := 0) (v := .int ld) (C := RX0) (T := TX0) (N := 6) hx hb htb ml_X0 hown hK hP 0 rfl rfl 2 (by decide) (htb _ mf_X0_19) (fun _ h9 => h9) rfl dX0_noiseOf_25 ?_
    refine lv_isub hx hb dX0_noiseOf_28 ?_
    exact hret (((z / 65536) - (z / 65536) / ((2 * ld) + 1) * ((2 * ld) + 1)) - ld) _ _ _ _ dX0_noiseOf_29 (by simp only [c_noise]; first | (rw [if_pos c_11]; done) | (rw [if_neg c_11]; done)) hS
  · skip
    refine lv_iconst (v := 0) hx hb dX0_noiseOf_14 (by decide) ?_
    refine lv_goto (tgt := 29) hx hb dX0_noiseOf_15 (by decide) ?_
    exact hret 0 _ _ _ _ dX0_noiseOf_29 (by simp only [c_noise]; first | (rw [if_pos c_11]; done) | (rw [if_neg c_11]; done)) hS
set_option maxHeartbeats 4000000 in
set_option maxRecDepth 100000 in
theorem c_X0_noiseOf (l : Launch) (D : va_G) (cI cJ : ClassId) (oC : Nat) (aW : Nat) (lag : Int32) (ld : Int32) (sd : Int32) (lf : Int32) (ll : Int32) (w : Nat → Int32) (z : Int32) (sz : Nat)  : Met l yX0_noiseOf (Cond.code yX0_noiseOf cX0_noiseOf 3 (some .int) :: BIG) ({ frames := 0, cells := 0, slots := 0, locals := 0 }) (va_Pc [.ref oC, .int z] (pr_R D cI cJ [(oC, .inr (0, [.ref aW, .int lag, .int ld, .int sd, .int lf, .int ll])), (aW, .inl (cI, 4, .inl w))] sz)) (va_Qi (fun (r u : Int32) => u = r) (fun (u : Int32) (t : State) => u = c_noise ld z) (va_A [] sz)) 0 0 (va_A [] sz) := by
  refine Met.ofW (cc := cX0_noiseOf) (maxL := 3) (ret := (some .int)) (by decide) rfl ?_
  intro p e s m args below meth c s₁ B hml hv
  obtain ⟨rfl, hsz, hP, hK, hN⟩ := hv
  have hl := lv_entry ([.ref oC, .int z]) (n := 3) (Nat.le_of_ble_eq_true rfl)
  rw [lg_entry_eq]
  subst hsz
  generalize (lg_sl ([.ref oC, .int z]) ++ List.replicate (3 - (lg_sl ([.ref oC, .int z])).length) Slot.unset).toArray = ls at hl ⊢
  exact b_X0_noiseOf (A := va_A [] s.heap.size) D cI cJ oC aW lag ld sd lf ll w z  B.exec B.bytes hml (findClass_of_methodNamed B.named) (fun w h => atoms_spec B.pre w (List.mem_cons_of_mem _ h)) (Nat.le_of_ble_eq_true rfl) (Nat.le_of_ble_eq_true rfl) hK hN (fun q h => Or.inr h) hP hl (fun r  H locs pc ls hdg hpost hS => W.iret B.exec B.bytes B.returns (fun t ht hW => ⟨⟨r, r, rfl, rfl, hpost⟩, hS.F ht⟩) hS.2.2 hdg B.notSynchronized)
theorem mt_X0_arrives : mt_ok yX0_arrives RX0 cX0_arrives 6 (some .int) 3 := ⟨mc_yX0_arrives, mn_X0, rfl, by decide +kernel⟩
set_option maxHeartbeats 4000000 in
set_option maxRecDepth 100000 in
theorem b_X0_arrives {p : Program} {l : Launch} {e : Env} {R : Room} {s : State} {m : MethodId} {args : Array Value} {below : List Frame} {meth : Method} {c : Code} {Q : State → Prop} {A : Nat → Prop} (D : va_G) (cI cJ : ClassId) (oC : Nat) (aW : Nat) (lag : Int32) (ld : Int32) (sd : Int32) (lf : Int32) (ll : Int32) (w : Nat → Int32) (oS : Nat) (ms : Int64) (mx : Int64) (n : Int32) (mk : Int32) (g : Int32) (h : Int32) (st : Int32) (cn : Int32) (cs : Int32) (i : Int32) (z : Int32)  {ls : Array Slot} (hx : p.tables.exec = Jvm.exec) (hb : c.code = cX0_arrives) (hml : c.maxLocals = 6) (hown : s.vm.findClass RX0 = some m.cls) (htb : ∀ w ∈ BIG, w.before args s = true) (hRf : 4 ≤ R.frames) (hRl : 91 ≤ R.locals) (hK : va_K D vwCl [(cI, .int), (cJ, .long)] s) (hN : nw s) (hA : ∀ q, s.heap.size ≤ q → A q) (hP : va_P D vwCl [(oC, .inr (0, [.ref aW, .int lag, .int ld, .int sd, .int lf, .int ll])), (aW, .inl (cI, 4, .inl w)), (oS, .inr (3, [.long ms, .long mx, .int n, .int mk, .int g, .int h, .int st, .int cn, .int cs]))] s.heap) (hl : lv_has ls 6 [(0, .ref oC), (1, .ref oS), (2, .int i), (3, .int z)])
    (hret : ∀ (r : Int32)  (H : Heap) (locs : List Loc) (pc : Nat) (ls : Array Slot), decode cX0_arrives pc = .ok (.ireturn, 1) → (r = c_arr w lag ld lf ll mx n g h st cn cs i z) → va_S A s.heap H locs → W p l e R s m args below meth c H locs 0 0 Q (F0 m pc ls [.int r])) : W p l e R s m args below meth c s.heap [] 0 0 Q (F0 m 0 ls []) := by
  generalize hHe : s.heap = H at hP ⊢
  have hS : va_S A s.heap H [] := by rw [← hHe]; exact va_S.rf
  clear hHe
  refine lv_iload_n hx hb dX0_arrives_0 rfl (lv_at hl 2 rfl) ?_
  refine lv_aload_n hx hb dX0_arrives_1 rfl (lv_at hl 0 rfl) ?_
  refine va_get (D := D) (ci := 0) (v := .int lf) (C := RX0) (T := TX0) (N := 6) hx hb htb ml_X0 hown hK hP 0 rfl rfl 4 (by decide) (htb _ mf_X0_25) (fun _ h9 => h9) rfl dX0_arrives_2 ?_
  refine lv_icmp_lt (tgt := 23) hx hb dX0_arrives_5 (by decide) (fun c_5 => ?_) (fun c_5 => ?_)
  · skip
    refine lv_aload_n hx hb dX0_arrives_23 rfl (lv_at hl 0 rfl) ?_
    refine lv_iload_n hx hb dX0_arrives_24 rfl (lv_at hl 3 rfl) ?_
    refine va_calli (va_runV (As := [.int z]) (rest := []) ⟨hx, hb, hml, hown, htb⟩ (c_X0_noiseOf l D cI cJ oC aW lag ld sd lf ll w z H.size ) (cb_V htb mt_X0_noiseOf mi_yX0_noiseOf mx_yX0_noiseOf mm_X0_34 ⟨Nat.le_trans (Nat.le_of_ble_eq_true rfl) hRf, Nat.le_trans (Nat.le_of_ble_eq_true rfl) hRl⟩) ⟨bl_R, va_recv hK hP (ci := 0) (q0 := 0) rfl rfl, pre_R (hP.sub (ws' := [(oC, .inr (0, [.ref aW, .int lag, .int ld, .int sd, .int lf, .int ll])), (aW, .inl (cI, 4, .inl w))]) [0, 1] rfl) hK hN⟩ rfl rfl hl.1 rfl (lv_room (Nat.le_of_ble_eq_true rfl)) dX0_arrives_25 ⟨Nat.zero_le _, Nat.zero_le _⟩) hS ro_A (ro_F hS hA) (fun r_25 u t H1 locs ht hvm hu hB hz1 hk1 hS => ?_)
    have hu2 := hu.symm; subst hu2
    replace hP := ro_P hP hk1
    clear hk1 hz1 hvm ht
    generalize H1 = H at hP hS ⊢
    have hP : va_P D vwCl [(oC, .inr (0, [.ref aW, .int lag, .int ld, .int sd, .int lf, .int ll])), (aW, .inl (cI, 4, .inl w)), (oS, .inr (3, [.long ms, .long mx, .int n, .int mk, .int g, .int h, .int st, .int cn, .int cs]))] H := hP
    obtain rfl : r_25 = c_noise ld z := hB
    refine lv_istore (lv' := [(4, .int (c_noise ld z)), (0, .ref oC), (1, .ref oS), (2, .int i), (3, .int z)]) hx hb dX0_arrives_28 hl (by decide) rfl (fun ls hl => ?_)
    refine lv_iconst (v := 0) hx hb dX0_arrives_30 (by decide) ?_
    refine lv_istore (lv' := [(5, .int 0), (4, .int (c_noise ld z)), (0, .ref oC), (1, .ref oS), (2, .int i), (3, .int z)]) hx hb dX0_arrives_31 hl (by decide) rfl (fun ls hl => ?_)
    have LOOP_33 : ∀ (fu : Nat) (k : Nat) (H : Heap) (locs : List Loc) (ls : Array Slot), (k ≤ nB 4) → nB 4 - k < fu → va_P D vwCl [(oC, .inr (0, [.ref aW, .int lag, .int ld, .int sd, .int lf, .int ll])), (aW, .inl (cI, 4, .inl w)), (oS, .inr (3, [.long ms, .long mx, .int n, .int mk, .int g, .int h, .int st, .int cn, .int cs]))] H → va_S A s.heap H locs → lv_has ls 6 [(5, .int (nI k)), (4, .int (c_arrN w lag ld mx n g h st cn cs i z k)), (0, .ref oC), (1, .ref oS), (2, .int i), (3, .int z)] → W p l e R s m args below meth c H locs 0 0 Q (F0 m 33 ls []) := by
      intro fu
      induction fu with
      | zero => intro k H locs ls hk hn; exact absurd hn (Nat.not_lt_zero _)
      | succ fu ih_33 =>
        intro k H locs ls hk hn hP hS hl
        refine lv_iload hx hb dX0_arrives_33 (lv_at hl 0 rfl) ?_
        refine lv_aload_n hx hb dX0_arrives_35 rfl (lv_at hl 2 rfl) ?_
        refine va_get (D := D) (ci := 0) (v := .ref aW) (C := RX0) (T := TX0) (N := 6) hx hb htb ml_X0 hown hK hP 0 rfl rfl 0 (by decide) (htb _ mf_X0_9) (fun _ h9 => h9) rfl dX0_arrives_36 ?_
        refine va_alen (D := D) hx hb hK hP 1 0 rfl rfl (v := 4) rfl dX0_arrives_39 ?_
        refine lv_icmp_ge (tgt := 75) hx hb dX0_arrives_40 (by decide) (fun c_40 => ?_) (fun c_40 => ?_)
        · skip
          refine lv_sipush (v := (-4000)) hx hb dX0_arrives_75 (by decide) ?_
          refine lv_sipush (v := 4000) hx hb dX0_arrives_78 (by decide) ?_
          refine lv_iload hx hb dX0_arrives_81 (lv_at hl 1 rfl) ?_
          refine va_mmin hx hb (by rw [hml]; exact hl.1.symm) hown (htb _ mm_X0_43) (htb _ ms_yJ9_min_7cf53) (htb _ mn_Math) (htb _ mc_yJ9_min_7cf53) (Nat.le_trans (Nat.le_of_ble_eq_true rfl) hRf) (Nat.le_trans (Nat.le_of_ble_eq_true rfl) hRl) (Nat.zero_le _) (Nat.zero_le _) (x := 4000) (y := c_arrN w lag ld mx n g h st cn cs i z k) dX0_arrives_83 ?_
          refine va_mmax hx hb (by rw [hml]; exact hl.1.symm) hown (htb _ mm_X0_49) (htb _ ms_yJ9_max_7cf53) (htb _ mn_Math) (htb _ mc_yJ9_max_7cf53) (Nat.le_trans (Nat.le_of_ble_eq_true rfl) hRf) (Nat.le_trans (Nat.le_of_ble_eq_true rfl) hRl) (Nat.zero_le _) (Nat.zero_le _) (x := (-4000)) (y := (if c_arrN w lag ld mx n g h st cn cs i z k < 4000 then c_arrN w lag ld mx n g h st cn cs i z k else 4000)) dX0_arrives_86 ?_
          refine lv_eqi (y := c_clip (c_arrN w lag ld mx n g h st cn cs i z k)) rfl ?_
          exact hret (c_clip (c_arrN w lag ld mx n g h st cn cs i z k)) _ _ _ _ dX0_arrives_89 (by have e4 : k = 4 := lp_out hk c_40; subst e4; exact (if_pos (by first | exact Or.inl c_5 | exact Or.inr c_18)).symm) hS
        · skip
          refine lv_iload hx hb dX0_arrives_43 (lv_at hl 1 rfl) ?_
          refine lv_aload_n hx hb dX0_arrives_45 rfl (lv_at hl 2 rfl) ?_
          refine va_get (D := D) (ci := 0) (v := .ref aW) (C := RX0) (T := TX0) (N := 6) hx hb htb ml_X0 hown hK hP 0 rfl rfl 0 (by decide) (htb _ mf_X0_9) (fun _ h9 => h9) rfl dX0_arrives_46 ?_
          refine lv_iload hx hb dX0_arrives_49 (lv_at hl 0 rfl) ?_
          refine va_iald (D := D) hx hb hK hP 1 0 rfl rfl (vp_in_nI (show k < 4 from lp_go hk c_40) (by decide)) dX0_arrives_51 ?_
          refine lv_aload_n hx hb dX0_arrives_52 rfl (lv_at hl 3 rfl) ?_
          refine lv_iload_n hx hb dX0_arrives_53 rfl (lv_at hl 4 rfl) ?_
          refine lv_aload_n hx hb dX0_arrives_54 rfl (lv_at hl 2 rfl) ?_
          refine va_get (D := D) (ci := 0) (v := .int lag) (C := RX0) (T := TX0) (N := 6) hx hb htb ml_X0 hown hK hP 0 rfl rfl 1 (by decide) (htb _ mf_X0_15) (fun _ h9 => h9) rfl dX0_arrives_55 ?_
          refine lv_isub hx hb dX0_arrives_58 ?_
          refine lv_iload hx hb dX0_arrives_59 (lv_at hl 0 rfl) ?_
          refine lv_isub hx hb dX0_arrives_61 ?_
          refine va_calli (va_runV (As := [.int ((i - lag) - nI k)]) (rest := [.int (w (nI k).toNatClampNeg), .int (c_arrN w lag ld mx n g h st cn cs i z k)]) ⟨hx, hb, hml, hown, htb⟩ (c_X3_frameVoice l D cI cJ oS ms mx n mk g h st cn cs ((i - lag) - nI k) H.size ) (cb_V htb mt_X3_frameVoice mi_yX3_frameVoice mx_yX3_frameVoice mm_X0_38 ⟨Nat.le_trans (Nat.le_of_ble_eq_true rfl) hRf, Nat.le_trans (Nat.le_of_ble_eq_true rfl) hRl⟩) ⟨bl_R, va_recv hK hP (ci := 3) (q0 := 2) rfl rfl, pre_R (hP.sub (ws' := [(oS, .inr (3, [.long ms, .long mx, .int n, .int mk, .int g, .int h, .int st, .int cn, .int cs]))]) [2] rfl) hK hN⟩ rfl rfl hl.1 rfl (lv_room (Nat.le_of_ble_eq_true rfl)) dX0_arrives_62 ⟨Nat.zero_le _, Nat.zero_le _⟩) hS ro_A (ro_F hS hA) (fun r_62 u t H1 locs ht hvm hu hB hz1 hk1 hS => ?_)
          have hu2 := hu.symm; subst hu2
          replace hP := ro_P hP hk1
          clear hk1 hz1 hvm ht
          generalize H1 = H at hP hS ⊢
          have hP : va_P D vwCl [(oC, .inr (0, [.ref aW, .int lag, .int ld, .int sd, .int lf, .int ll])), (aW, .inl (cI, 4, .inl w)), (oS, .inr (3, [.long ms, .long mx, .int n, .int mk, .int g, .int h, .int st, .int cn, .int cs]))] H := hP
          obtain rfl : r_62 = c_fv mx n g h st cn cs ((i - lag) - nI k) := hB
          refine lv_imul hx hb dX0_arrives_65 ?_
          refine lv_iadd hx hb dX0_arrives_66 ?_
          refine lv_eqi (y := c_arrN w lag ld mx n g h st cn cs i z (k + 1)) rfl ?_
          refine lv_istore (lv' := [(4, .int (c_arrN w lag ld mx n g h st cn cs i z (k + 1))), (5, .int (nI k)), (0, .ref oC), (1, .ref oS), (2, .int i), (3, .int z)]) hx hb dX0_arrives_67 hl (by decide) rfl (fun ls hl => ?_)
          refine lv_iinc (v := nI (k + 1)) (lv' := [(5, .int (nI (k + 1))), (4, .int (c_arrN w lag ld mx n g h st cn cs i z (k + 1))), (0, .ref oC), (1, .ref oS), (2, .int i), (3, .int z)]) hx hb dX0_arrives_69 hl (k := 1) rfl (nI_s k) (by decide) rfl (fun ls hl => ?_)
          refine lv_goto (tgt := 33) hx hb dX0_arrives_72 (by decide) ?_
          exact ih_33 (k + 1) _ _ _ (lp_go hk c_40) (by have := lp_go hk c_40; omega) hP hS (lv_sub hl [0, 1, 2, 3, 4, 5] rfl)
    exact LOOP_33 _ 0 _ _ _ (Nat.zero_le _) (Nat.lt_succ_self _) hP hS (lv_sub hl [0, 1, 2, 3, 4, 5] rfl)
  · skip
    refine lv_iload_n hx hb dX0_arrives_8 rfl (lv_at hl 2 rfl) ?_
    refine lv_aload_n hx hb dX0_arrives_9 rfl (lv_at hl 0 rfl) ?_
    refine va_get (D := D) (ci := 0) (v := .int lf) (C := RX0) (T := TX0) (N := 6) hx hb htb ml_X0 hown hK hP 0 rfl rfl 4 (by decide) (htb _ mf_X0_25) (fun _ h9 => h9) rfl dX0_arrives_10 ?_
    refine lv_aload_n hx hb dX0_arrives_13 rfl (lv_at hl 0 rfl) ?_
    refine va_get (D := D) (ci := 0) (v := .int ll) (C := RX0) (T := TX0) (N := 6) hx hb htb ml_X0 hown hK hP 0 rfl rfl 5 (by decide) (htb _ mf_X0_28) (fun _ h9 => h9) rfl dX0_arrives_14 ?_
    refine lv_iadd hx hb dX0_arrives_17 ?_
    refine lv_icmp_ge (tgt := 23) hx hb dX0_arrives_18 (by decide) (fun c_18 => ?_) (fun c_18 => ?_)
    · skip
      refine lv_aload_n hx hb dX0_arrives_23 rfl (lv_at hl 0 rfl) ?_
      refine lv_iload_n hx hb dX0_arrives_24 rfl (lv_at hl 3 rfl) ?_
      refine va_calli (va_runV (As := [.int z]) (rest := []) ⟨hx, hb, hml, hown, htb⟩ (c_X0_noiseOf l D cI cJ oC aW lag ld sd lf ll w z H.size ) (cb_V htb mt_X0_noiseOf mi_yX0_noiseOf mx_yX0_noiseOf mm_X0_34 ⟨Nat.le_trans (Nat.le_of_ble_eq_true rfl) hRf, Nat.le_trans (Nat.le_of_ble_eq_true rfl) hRl⟩) ⟨bl_R, va_recv hK hP (ci := 0) (q0 := 0) rfl rfl, pre_R (hP.sub (ws' := [(oC, .inr (0, [.ref aW, .int lag, .int ld, .int sd, .int lf, .int ll])), (aW, .inl (cI, 4, .inl w))]) [0, 1] rfl) hK hN⟩ rfl rfl hl.1 rfl (lv_room (Nat.le_of_ble_eq_true rfl)) dX0_arrives_25 ⟨Nat.zero_le _, Nat.zero_le _⟩) hS ro_A (ro_F hS hA) (fun r_25 u t H1 locs ht hvm hu hB hz1 hk1 hS => ?_)
      have hu2 := hu.symm; subst hu2
      replace hP := ro_P hP hk1
      clear hk1 hz1 hvm ht
      generalize H1 = H at hP hS ⊢
      have hP : va_P D vwCl [(oC, .inr (0, [.ref aW, .int lag, .int ld, .int sd, .int lf, .int ll])), (aW, .inl (cI, 4, .inl w)), (oS, .inr (3, [.long ms, .long mx, .int n, .int mk, .int g, .int h, .int st, .int cn, .int cs]))] H := hP
      obtain rfl : r_25 = c_noise ld z := hB
      refine lv_istore (lv' := [(4, .int (c_noise ld z)), (0, .ref oC), (1, .ref oS), (2, .int i), (3, .int z)]) hx hb dX0_arrives_28 hl (by decide) rfl (fun ls hl => ?_)
      refine lv_iconst (v := 0) hx hb dX0_arrives_30 (by decide) ?_
      refine lv_istore (lv' := [(5, .int 0), (4, .int (c_noise ld z)), (0, .ref oC), (1, .ref oS), (2, .int i), (3, .int z)]) hx hb dX0_arrives_31 hl (by decide) rfl (fun ls hl => ?_)
      have LOOP_33 : ∀ (fu : Nat) (k : Nat) (H : Heap) (locs : List Loc) (ls : Array Slot), (k ≤ nB 4) → nB 4 - k < fu → va_P D vwCl [(oC, .inr (0, [.ref aW, .int lag, .int ld, .int sd, .int lf, .int ll])), (aW, .inl (cI, 4, .inl w)), (oS, .inr (3, [.long ms, .long mx, .int n, .int mk, .int g, .int h, .int st, .int cn, .int cs]))] H → va_S A s.heap H locs → lv_has ls 6 [(5, .int (nI k)), (4, .int (c_arrN w lag ld mx n g h st cn cs i z k)), (0, .ref oC), (1, .ref oS), (2, .int i), (3, .int z)] → W p l e R s m args below meth c H locs 0 0 Q (F0 m 33 ls []) := by
        intro fu
        induction fu with
        | zero => intro k H locs ls hk hn; exact absurd hn (Nat.not_lt_zero _)
        | succ fu ih_33 =>
          intro k H locs ls hk hn hP hS hl
          refine lv_iload hx hb dX0_arrives_33 (lv_at hl 0 rfl) ?_
          refine lv_aload_n hx hb dX0_arrives_35 rfl (lv_at hl 2 rfl) ?_
          refine va_get (D := D) (ci := 0) (v := .ref aW) (C := RX0) (T := TX0) (N := 6) hx hb htb ml_X0 hown hK hP 0 rfl rfl 0 (by decide) (htb _ mf_X0_9) (fun _ h9 => h9) rfl dX0_arrives_36 ?_
          refine va_alen (D := D) hx hb hK hP 1 0 rfl rfl (v := 4) rfl dX0_arrives_39 ?_
          refine lv_icmp_ge (tgt := 75) hx hb dX0_arrives_40 (by decide) (fun c_40 => ?_) (fun c_40 => ?_)
          · skip
            refine lv_sipush (v := (-4000)) hx hb dX0_arrives_75 (by decide) ?_
            refine lv_sipush (v := 4000) hx hb dX0_arrives_78 (by decide) ?_
            refine lv_iload hx hb dX0_arrives_81 (lv_at hl 1 rfl) ?_
            refine va_mmin hx hb (by rw [hml]; exact hl.1.symm) hown (htb _ mm_X0_43) (htb _ ms_yJ9_min_7cf53) (htb _ mn_Math) (htb _ mc_yJ9_min_7cf53) (Nat.le_trans (Nat.le_of_ble_eq_true rfl) hRf) (Nat.le_trans (Nat.le_of_ble_eq_true rfl) hRl) (Nat.zero_le _) (Nat.zero_le _) (x := 4000) (y := c_arrN w lag ld mx n g h st cn cs i z k) dX0_arrives_83 ?_
            refine va_mmax hx hb (by rw [hml]; exact hl.1.symm) hown (htb _ mm_X0_49) (htb _ ms_yJ9_max_7cf53) (htb _ mn_Math) (htb _ mc_yJ9_max_7cf53) (Nat.le_trans (Nat.le_of_ble_eq_true rfl) hRf) (Nat.le_trans (Nat.le_of_ble_eq_true rfl) hRl) (Nat.zero_le _) (Nat.zero_le _) (x := (-4000)) (y := (if c_arrN w lag ld mx n g h st cn cs i z k < 4000 then c_arrN w lag ld mx n g h st cn cs i z k else 4000)) dX0_arrives_86 ?_
            refine lv_eqi (y := c_clip (c_arrN w lag ld mx n g h st cn cs i z k)) rfl ?_
            exact hret (c_clip (c_arrN w lag ld mx n g h st cn cs i z k)) _ _ _ _ dX0_arrives_89 (by have e4 : k = 4 := lp_out hk c_40; subst e4; exact (if_pos (by first | exact Or.inl c_5 | exact Or.inr c_18)).symm) hS
          · skip
            refine lv_iload hx hb dX0_arrives_43 (lv_at hl 1 rfl) ?_
            refine lv_aload_n hx hb dX0_arrives_45 rfl (lv_at hl 2 rfl) ?_
            refine va_get (D := D) (ci := 0) (v := .ref aW) (C := RX0) (T := TX0) (N := 6) hx hb htb ml_X0 hown hK hP 0 rfl rfl 0 (by decide) (htb _ mf_X0_9) (fun _ h9 => h9) rfl dX0_arrives_46 ?_
            refine lv_iload hx hb dX0_arrives_49 (lv_at hl 0 rfl) ?_
            refine va_iald (D := D) hx hb hK hP 1 0 rfl rfl (vp_in_nI (show k < 4 from lp_go hk c_40) (by decide)) dX0_arrives_51 ?_
            refine lv_aload_n hx hb dX0_arrives_52 rfl (lv_at hl 3 rfl) ?_
            refine lv_iload_n hx hb dX0_arrives_53 rfl (lv_at hl 4 rfl) ?_
            refine lv_aload_n hx hb dX0_arrives_54 rfl (lv_at hl 2 rfl) ?_
            refine va_get (D := D) (ci := 0) (v := .int lag) (C := RX0) (T := TX0) (N := 6) hx hb htb ml_X0 hown hK hP 0 rfl rfl 1 (by decide) (htb _ mf_X0_15) (fun _ h9 => h9) rfl dX0_arrives_55 ?_
            refine lv_isub hx hb dX0_arrives_58 ?_
            refine lv_iload hx hb dX0_arrives_59 (lv_at hl 0 rfl) ?_
            refine lv_isub hx hb dX0_arrives_61 ?_
            refine va_calli (va_runV (As := [.int ((i - lag) - nI k)]) (rest := [.int (w (nI k).toNatClampNeg), .int (c_arrN w lag ld mx n g h st cn cs i z k)]) ⟨hx, hb, hml, hown, htb⟩ (c_X3_frameVoice l D cI cJ oS ms mx n mk g h st cn cs ((i - lag) - nI k) H.size ) (cb_V htb mt_X3_frameVoice mi_yX3_frameVoice mx_yX3_frameVoice mm_X0_38 ⟨Nat.le_trans (Nat.le_of_ble_eq_true rfl) hRf, Nat.le_trans (Nat.le_of_ble_eq_true rfl) hRl⟩) ⟨bl_R, va_recv hK hP (ci := 3) (q0 := 2) rfl rfl, pre_R (hP.sub (ws' := [(oS, .inr (3, [.long ms, .long mx, .int n, .int mk, .int g, .int h, .int st, .int cn, .int cs]))]) [2] rfl) hK hN⟩ rfl rfl hl.1 rfl (lv_room (Nat.le_of_ble_eq_true rfl)) dX0_arrives_62 ⟨Nat.zero_le _, Nat.zero_le _⟩) hS ro_A (ro_F hS hA) (fun r_62 u t H1 locs ht hvm hu hB hz1 hk1 hS => ?_)
            have hu2 := hu.symm; subst hu2
            replace hP := ro_P hP hk1
            clear hk1 hz1 hvm ht
            generalize H1 = H at hP hS ⊢
            have hP : va_P D vwCl [(oC, .inr (0, [.ref aW, .int lag, .int ld, .int sd, .int lf, .int ll])), (aW, .inl (cI, 4, .inl w)), (oS, .inr (3, [.long ms, .long mx, .int n, .int mk, .int g, .int h, .int st, .int cn, .int cs]))] H := hP
            obtain rfl : r_62 = c_fv mx n g h st cn cs ((i - lag) - nI k) := hB
            refine lv_imul hx hb dX0_arrives_65 ?_
            refine lv_iadd hx hb dX0_arrives_66 ?_
            refine lv_eqi (y := c_arrN w lag ld mx n g h st cn cs i z (k + 1)) rfl ?_
            refine lv_istore (lv' := [(4, .int (c_arrN w lag ld mx n g h st cn cs i z (k + 1))), (5, .int (nI k)), (0, .ref oC), (1, .ref oS), (2, .int i), (3, .int z)]) hx hb dX0_arrives_67 hl (by decide) rfl (fun ls hl => ?_)
            refine lv_iinc (v := nI (k + 1)) (lv' := [(5, .int (nI (k + 1))), (4, .int (c_arrN w lag ld mx n g h st cn cs i z (k + 1))), (0, .ref oC), (1, .ref oS), (2, .int i), (3, .int z)]) hx hb dX0_arrives_69 hl (k := 1) rfl (nI_s k) (by decide) rfl (fun ls hl => ?_)
            refine lv_goto (tgt := 33) hx hb dX0_arrives_72 (by decide) ?_
            exact ih_33 (k + 1) _ _ _ (lp_go hk c_40) (by have := lp_go hk c_40; omega) hP hS (lv_sub hl [0, 1, 2, 3, 4, 5] rfl)
      exact LOOP_33 _ 0 _ _ _ (Nat.zero_le _) (Nat.lt_succ_self _) hP hS (lv_sub hl [0, 1, 2, 3, 4, 5] rfl)
    · skip
      refine lv_iconst (v := 0) hx hb dX0_arrives_21 (by decide) ?_
      exact hret 0 _ _ _ _ dX0_arrives_22 (by simp only [c_arr]; rw [if_neg (fun hh => hh.elim c_5 c_18)]) hS
set_option maxHeartbeats 4000000 in
set_option maxRecDepth 100000 in
theorem c_X0_arrives (l : Launch) (D : va_G) (cI cJ : ClassId) (oC : Nat) (aW : Nat) (lag : Int32) (ld : Int32) (sd : Int32) (lf : Int32) (ll : Int32) (w : Nat → Int32) (oS : Nat) (ms : Int64) (mx : Int64) (n : Int32) (mk : Int32) (g : Int32) (h : Int32) (st : Int32) (cn : Int32) (cs : Int32) (i : Int32) (z : Int32) (sz : Nat)  : Met l yX0_arrives (Cond.code yX0_arrives cX0_arrives 6 (some .int) :: BIG) ({ frames := 4, cells := 0, slots := 0, locals := 91 }) (va_Pc [.ref oC, .ref oS, .int i, .int z] (pr_R D cI cJ [(oC, .inr (0, [.ref aW, .int lag, .int ld, .int sd, .int lf, .int ll])), (aW, .inl (cI, 4, .inl w)), (oS, .inr (3, [.long ms, .long mx, .int n, .int mk, .int g, .int h, .int st, .int cn, .int cs]))] sz)) (va_Qi (fun (r u : Int32) => u = r) (fun (u : Int32) (t : State) => u = c_arr w lag ld lf ll mx n g h st cn cs i z) (va_A [] sz)) 0 0 (va_A [] sz) := by
  refine Met.ofW (cc := cX0_arrives) (maxL := 6) (ret := (some .int)) (by decide) rfl ?_
  intro p e s m args below meth c s₁ B hml hv
  obtain ⟨rfl, hsz, hP, hK, hN⟩ := hv
  have hl := lv_entry ([.ref oC, .ref oS, .int i, .int z]) (n := 6) (Nat.le_of_ble_eq_true rfl)
  rw [lg_entry_eq]
  subst hsz
  generalize (lg_sl ([.ref oC, .ref oS, .int i, .int z]) ++ List.replicate (6 - (lg_sl ([.ref oC, .ref oS, .int i, .int z])).length) Slot.unset).toArray = ls at hl ⊢
  exact b_X0_arrives (A := va_A [] s.heap.size) D cI cJ oC aW lag ld sd lf ll w oS ms mx n mk g h st cn cs i z  B.exec B.bytes hml (findClass_of_methodNamed B.named) (fun w h => atoms_spec B.pre w (List.mem_cons_of_mem _ h)) (Nat.le_of_ble_eq_true rfl) (Nat.le_of_ble_eq_true rfl) hK hN (fun q h => Or.inr h) hP hl (fun r  H locs pc ls hdg hpost hS => W.iret B.exec B.bytes B.returns (fun t ht hW => ⟨⟨r, r, rfl, rfl, hpost⟩, hS.F ht⟩) hS.2.2 hdg B.notSynchronized)
theorem mt_X1_at : mt_ok yX1_at RX1 cX1_at 2 (some .int) 1 := ⟨mc_yX1_at, mn_X1, rfl, by decide +kernel⟩
set_option maxHeartbeats 4000000 in
set_option maxRecDepth 100000 in
theorem b_X1_at {p : Program} {l : Launch} {e : Env} {R : Room} {s : State} {m : MethodId} {args : Array Value} {below : List Frame} {meth : Method} {c : Code} {Q : State → Prop} {A : Nat → Prop} (D : va_G) (cI cJ : ClassId) (oH : Nat) (aS : Nat) (ln : Int32) (f : Nat → Int32) (i : Int32)  {ls : Array Slot} (hx : p.tables.exec = Jvm.exec) (hb : c.code = cX1_at) (hml : c.maxLocals = 2) (hown : s.vm.findClass RX1 = some m.cls) (htb : ∀ w ∈ BIG, w.before args s = true) (hRf : 1 ≤ R.frames) (hRl : 22 ≤ R.locals) (hK : va_K D vwCl [(cI, .int), (cJ, .long)] s) (hN : nw s) (hA : ∀ q, s.heap.size ≤ q → A q) (hP : va_P D vwCl [(oH, .inr (1, [.ref aS, .int ln])), (aS, .inl (cI, 140, .inl f))] s.heap) (hl : lv_has ls 2 [(0, .ref oH), (1, .int i)])
    (hret : ∀ (r : Int32)  (H : Heap) (locs : List Loc) (pc : Nat) (ls : Array Slot), decode cX1_at pc = .ok (.ireturn, 1) → (r = c_at f i) → va_S A s.heap H locs → W p l e R s m args below meth c H locs 0 0 Q (F0 m pc ls [.int r])) : W p l e R s m args below meth c s.heap [] 0 0 Q (F0 m 0 ls []) := by
  generalize hHe : s.heap = H at hP ⊢
  have hS : va_S A s.heap H [] := by rw [← hHe]; exact va_S.rf
  clear hHe
  refine lv_iload_n hx hb dX1_at_0 rfl (lv_at hl 1 rfl) ?_
  refine lv_iconst (v := 0) hx hb dX1_at_1 (by decide) ?_
  refine lv_aload_n hx hb dX1_at_2 rfl (lv_at hl 0 rfl) ?_
  refine va_get (D := D) (ci := 1) (v := .ref aS) (C := RX1) (T := TX1) (N := 2) hx hb htb ml_X1 hown hK hP 0 rfl rfl 0 (by decide) (htb _ mf_X1_9) (fun _ h9 => h9) rfl dX1_at_3 ?_
  refine va_alen (D := D) hx hb hK hP 1 0 rfl rfl (v := 140) rfl dX1_at_6 ?_
  refine lv_iconst (v := 1) hx hb dX1_at_7 (by decide) ?_
  refine lv_isub hx hb dX1_at_8 ?_
  refine va_calli (va_runSN (As := [.int i, .int 0, .int (140 - 1)]) (rest := []) ⟨hx, hb, hml, hown, htb⟩ (c_X4_within l D cI cJ i 0 (140 - 1) H.size ) (cb_SN htb mt_X4_within ms_yX4_within hN.2.2.2.2.2.2.2.2.1 ⟨Nat.le_trans (Nat.le_of_ble_eq_true rfl) hRf, Nat.le_trans (Nat.le_of_ble_eq_true rfl) hRl⟩) ⟨bl_R, pre_R va_nil hK hN⟩ rfl rfl hl.1 rfl (lv_room (Nat.le_of_ble_eq_true rfl)) dX1_at_9 ⟨Nat.zero_le _, Nat.zero_le _⟩) hS ro_A (ro_F hS hA) (fun r_9 u t H1 locs ht hvm hu hB hz1 hk1 hS => ?_)
  have hu2 := hu.symm; subst hu2
  replace hP := ro_P hP hk1
  clear hk1 hz1 hvm ht
  generalize H1 = H at hP hS ⊢
  have hP : va_P D vwCl [(oH, .inr (1, [.ref aS, .int ln])), (aS, .inl (cI, 140, .inl f))] H := hP
  obtain rfl : r_9 = b_in i 0 (140 - 1) := hB
  refine lv_if_eq (tgt := 24) hx hb dX1_at_12 (by decide) (fun c_12 => ?_) (fun c_12 => ?_)
  · skip
    refine lv_iconst (v := 0) hx hb dX1_at_24 (by decide) ?_
    exact hret 0 _ _ _ _ dX1_at_25 (by simp only [c_at]; first | (rw [if_pos c_12]; done) | (rw [if_neg c_12]; done)) hS
  · skip
    refine lv_aload_n hx hb dX1_at_15 rfl (lv_at hl 0 rfl) ?_
    refine va_get (D := D) (ci := 1) (v := .ref aS) (C := RX1) (T := TX1) (N := 2) hx hb htb ml_X1 hown hK hP 0 rfl rfl 0 (by decide) (htb _ mf_X1_9) (fun _ h9 => h9) rfl dX1_at_16 ?_
    refine lv_iload_n hx hb dX1_at_19 rfl (lv_at hl 1 rfl) ?_
    refine va_iald (D := D) hx hb hK hP 1 0 rfl rfl (b_in_140 c_12) dX1_at_20 ?_
    refine lv_goto (tgt := 25) hx hb dX1_at_21 (by decide) ?_
    exact hret (f i.toNatClampNeg) _ _ _ _ dX1_at_25 (by simp only [c_at]; first | (rw [if_pos c_12]; done) | (rw [if_neg c_12]; done)) hS
set_option maxHeartbeats 4000000 in
set_option maxRecDepth 100000 in
theorem c_X1_at (l : Launch) (D : va_G) (cI cJ : ClassId) (oH : Nat) (aS : Nat) (ln : Int32) (f : Nat → Int32) (i : Int32) (sz : Nat)  : Met l yX1_at (Cond.code yX1_at cX1_at 2 (some .int) :: BIG) ({ frames := 1, cells := 0, slots := 0, locals := 22 }) (va_Pc [.ref oH, .int i] (pr_R D cI cJ [(oH, .inr (1, [.ref aS, .int ln])), (aS, .inl (cI, 140, .inl f))] sz)) (va_Qi (fun (r u : Int32) => u = r) (fun (u : Int32) (t : State) => u = c_at f i) (va_A [] sz)) 0 0 (va_A [] sz) := by
  refine Met.ofW (cc := cX1_at) (maxL := 2) (ret := (some .int)) (by decide) rfl ?_
  intro p e s m args below meth c s₁ B hml hv
  obtain ⟨rfl, hsz, hP, hK, hN⟩ := hv
  have hl := lv_entry ([.ref oH, .int i]) (n := 2) (Nat.le_of_ble_eq_true rfl)
  rw [lg_entry_eq]
  subst hsz
  generalize (lg_sl ([.ref oH, .int i]) ++ List.replicate (2 - (lg_sl ([.ref oH, .int i])).length) Slot.unset).toArray = ls at hl ⊢
  exact b_X1_at (A := va_A [] s.heap.size) D cI cJ oH aS ln f i  B.exec B.bytes hml (findClass_of_methodNamed B.named) (fun w h => atoms_spec B.pre w (List.mem_cons_of_mem _ h)) (Nat.le_of_ble_eq_true rfl) (Nat.le_of_ble_eq_true rfl) hK hN (fun q h => Or.inr h) hP hl (fun r  H locs pc ls hdg hpost hS => W.iret B.exec B.bytes B.returns (fun t ht hW => ⟨⟨r, r, rfl, rfl, hpost⟩, hS.F ht⟩) hS.2.2 hdg B.notSynchronized)
theorem mt_X1_listen : mt_ok yX1_listen RX1 cX1_listen 6 none 3 := ⟨mc_yX1_listen, mn_X1, rfl, by decide +kernel⟩
set_option maxHeartbeats 4000000 in
set_option maxRecDepth 100000 in
theorem b_X1_listen {p : Program} {l : Launch} {e : Env} {R : Room} {s : State} {m : MethodId} {args : Array Value} {below : List Frame} {meth : Method} {c : Code} {Q : State → Prop} {A : Nat → Prop} (D : va_G) (cI cJ : ClassId) (oH : Nat) (aS : Nat) (ln : Int32) (f : Nat → Int32) (oS : Nat) (ms : Int64) (mx : Int64) (n : Int32) (mk : Int32) (g : Int32) (h : Int32) (st : Int32) (cn : Int32) (cs : Int32) (oC : Nat) (aW : Nat) (lag : Int32) (ld : Int32) (sd : Int32) (lf : Int32) (ll : Int32) (w : Nat → Int32) (z : Int32)  {ls : Array Slot} (hx : p.tables.exec = Jvm.exec) (hb : c.code = cX1_listen) (hml : c.maxLocals = 6) (hown : s.vm.findClass RX1 = some m.cls) (htb : ∀ w ∈ BIG, w.before args s = true) (hRf : 5 ≤ R.frames) (hRl : 116 ≤ R.locals) (hK : va_K D vwCl [(cI, .int), (cJ, .long)] s) (hN : nw s) (hA : ∀ q, s.heap.size ≤ q → A q) (hP : va_P D vwCl [(oH, .inr (1, [.ref aS, .int ln])), (aS, .inl (cI, 140, .inl f)), (oS, .inr (3, [.long ms, .long mx, .int n, .int mk, .int g, .int h, .int st, .int cn, .int cs])), (oC, .inr (0, [.ref aW, .int lag, .int ld, .int sd, .int lf, .int ll])), (aW, .inl (cI, 4, .inl w))] s.heap) (hD : va_D A [(oH, .inr (1, [.ref aS, .int ln])), (aS, .inl (cI, 140, .inl f)), (oS, .inr (3, [.long ms, .long mx, .int n, .int mk, .int g, .int h, .int st, .int cn, .int cs])), (oC, .inr (0, [.ref aW, .int lag, .int ld, .int sd, .int lf, .int ll])), (aW, .inl (cI, 4, .inl w))]) (hl : lv_has ls 6 [(0, .ref oH), (1, .ref oS), (2, .ref oC), (3, .int z)])
    (hret : ∀  (H : Heap) (locs : List Loc) (pc : Nat) (ls : Array Slot), decode cX1_listen pc = .ok (.return_, 1) → (True) → va_P D vwCl [(oH, .inr (1, [.ref aS, .int (c_len lag n cn)])), (aS, .inl (cI, 140, .inl (c_lis f w lag ld lf ll mx n g h st cn cs z))), (oS, .inr (3, [.long ms, .long mx, .int n, .int mk, .int g, .int h, .int st, .int cn, .int cs])), (oC, .inr (0, [.ref aW, .int lag, .int ld, .int sd, .int lf, .int ll])), (aW, .inl (cI, 4, .inl w))] H → va_D A [(oH, .inr (1, [.ref aS, .int (c_len lag n cn)])), (aS, .inl (cI, 140, .inl (c_lis f w lag ld lf ll mx n g h st cn cs z))), (oS, .inr (3, [.long ms, .long mx, .int n, .int mk, .int g, .int h, .int st, .int cn, .int cs])), (oC, .inr (0, [.ref aW, .int lag, .int ld, .int sd, .int lf, .int ll])), (aW, .inl (cI, 4, .inl w))] → va_S A s.heap H locs → W p l e R s m args below meth c H locs 0 0 Q (F0 m pc ls [])) : W p l e R s m args below meth c s.heap [] 0 0 Q (F0 m 0 ls []) := by
  generalize hHe : s.heap = H at hP ⊢
  have hS : va_S A s.heap H [] := by rw [← hHe]; exact va_S.rf
  clear hHe
  refine lv_aload_n hx hb dX1_listen_0 rfl (lv_at hl 0 rfl) ?_
  refine lv_aload_n hx hb dX1_listen_1 rfl (lv_at hl 0 rfl) ?_
  refine va_get (D := D) (ci := 1) (v := .ref aS) (C := RX1) (T := TX1) (N := 2) hx hb htb ml_X1 hown hK hP 0 rfl rfl 0 (by decide) (htb _ mf_X1_9) (fun _ h9 => h9) rfl dX1_listen_2 ?_
  refine va_alen (D := D) hx hb hK hP 1 0 rfl rfl (v := 140) rfl dX1_listen_5 ?_
  refine lv_aload_n hx hb dX1_listen_6 rfl (lv_at hl 2 rfl) ?_
  refine va_get (D := D) (ci := 0) (v := .int lag) (C := RX0) (T := TX0) (N := 6) hx hb htb ml_X0 hown hK hP 3 rfl rfl 1 (by decide) (htb _ mf_X1_19) (fun _ h9 => h9) rfl dX1_listen_7 ?_
  refine lv_aload_n hx hb dX1_listen_10 rfl (lv_at hl 1 rfl) ?_
  refine va_calli (va_runV (As := []) (rest := [.int lag, .int 140, .ref oH]) ⟨hx, hb, hml, hown, htb⟩ (c_X3_frameSize l D cI cJ oS ms mx n mk g h st cn cs H.size ) (cb_V htb mt_X3_frameSize mi_yX3_frameSize mx_yX3_frameSize mm_X1_24 ⟨Nat.le_trans (Nat.le_of_ble_eq_true rfl) hRf, Nat.le_trans (Nat.le_of_ble_eq_true rfl) hRl⟩) ⟨bl_R, va_recv hK hP (ci := 3) (q0 := 2) rfl rfl, pre_R (hP.sub (ws' := [(oS, .inr (3, [.long ms, .long mx, .int n, .int mk, .int g, .int h, .int st, .int cn, .int cs]))]) [2] rfl) hK hN⟩ rfl rfl hl.1 rfl (lv_room (Nat.le_of_ble_eq_true rfl)) dX1_listen_11 ⟨Nat.zero_le _, Nat.zero_le _⟩) hS ro_A (ro_F hS hA) (fun r_11 u t H1 locs ht hvm hu hB hz1 hk1 hS => ?_)
  have hu2 := hu.symm; subst hu2
  replace hP := ro_P hP hk1
  clear hk1 hz1 hvm ht
  generalize H1 = H at hP hS ⊢
  have hP : va_P D vwCl [(oH, .inr (1, [.ref aS, .int ln])), (aS, .inl (cI, 140, .inl f)), (oS, .inr (3, [.long ms, .long mx, .int n, .int mk, .int g, .int h, .int st, .int cn, .int cs])), (oC, .inr (0, [.ref aW, .int lag, .int ld, .int sd, .int lf, .int ll])), (aW, .inl (cI, 4, .inl w))] H := hP
  obtain rfl : r_11 = cn + 2 * (n + 3) := hB
  refine lv_iadd hx hb dX1_listen_14 ?_
  refine lv_bipush (v := 8) hx hb dX1_listen_15 (by decide) ?_
  refine lv_iadd hx hb dX1_listen_17 ?_
  refine va_mmin hx hb (by rw [hml]; exact hl.1.symm) hown (htb _ mm_X1_30) (htb _ ms_yJ9_min_7cf53) (htb _ mn_Math) (htb _ mc_yJ9_min_7cf53) (Nat.le_trans (Nat.le_of_ble_eq_true rfl) hRf) (Nat.le_trans (Nat.le_of_ble_eq_true rfl) hRl) (Nat.zero_le _) (Nat.zero_le _) (x := 140) (y := ((lag + (cn + 2 * (n + 3))) + 8)) dX1_listen_18 ?_
  refine lv_eqi (y := c_len lag n cn) rfl ?_
  refine va_put (D := D) (ci := 1) (v := .int (c_len lag n cn)) (ty := .int) (C := RX1) (T := TX1) (N := 2) hx hb htb ml_X1 tyX1 tyX1_ok nmX1 hown hK hP hD hS 0 rfl rfl 1 (by decide) (htb _ mf_X1_15) (fun _ h9 => h9) rfl (by decide +kernel) rfl rfl (Nat.le_of_ble_eq_true rfl) dX1_listen_21 (fun H locs hP hD hS => ?_)
  have hP : va_P D vwCl [(oH, .inr (1, [.ref aS, .int (c_len lag n cn)])), (aS, .inl (cI, 140, .inl f)), (oS, .inr (3, [.long ms, .long mx, .int n, .int mk, .int g, .int h, .int st, .int cn, .int cs])), (oC, .inr (0, [.ref aW, .int lag, .int ld, .int sd, .int lf, .int ll])), (aW, .inl (cI, 4, .inl w))] H := hP
  have hD : va_D A [(oH, .inr (1, [.ref aS, .int (c_len lag n cn)])), (aS, .inl (cI, 140, .inl f)), (oS, .inr (3, [.long ms, .long mx, .int n, .int mk, .int g, .int h, .int st, .int cn, .int cs])), (oC, .inr (0, [.ref aW, .int lag, .int ld, .int sd, .int lf, .int ll])), (aW, .inl (cI, 4, .inl w))] := hD
  refine lv_iload_n hx hb dX1_listen_24 rfl (lv_at hl 3 rfl) ?_
  refine lv_istore (lv' := [(4, .int z), (0, .ref oH), (1, .ref oS), (2, .ref oC), (3, .int z)]) hx hb dX1_listen_25 hl (by decide) rfl (fun ls hl => ?_)
  refine lv_iconst (v := 0) hx hb dX1_listen_27 (by decide) ?_
  refine lv_istore (lv' := [(5, .int 0), (4, .int z), (0, .ref oH), (1, .ref oS), (2, .ref oC), (3, .int z)]) hx hb dX1_listen_28 hl (by decide) rfl (fun ls hl => ?_)
  have LOOP_30 : ∀ (fu : Nat) (k : Nat) (H : Heap) (locs : List Loc) (ls : Array Slot), (k ≤ nB (c_len lag n cn)) → nB (c_len lag n cn) - k < fu → va_P D vwCl [(oH, .inr (1, [.ref aS, .int (c_len lag n cn)])), (aS, .inl (cI, 140, .inl (c_lisN f w lag ld lf ll mx n g h st cn cs z k))), (oS, .inr (3, [.long ms, .long mx, .int n, .int mk, .int g, .int h, .int st, .int cn, .int cs])), (oC, .inr (0, [.ref aW, .int lag, .int ld, .int sd, .int lf, .int ll])), (aW, .inl (cI, 4, .inl w))] H → va_D A [(oH, .inr (1, [.ref aS, .int (c_len lag n cn)])), (aS, .inl (cI, 140, .inl (c_lisN f w lag ld lf ll mx n g h st cn cs z k))), (oS, .inr (3, [.long ms, .long mx, .int n, .int mk, .int g, .int h, .int st, .int cn, .int cs])), (oC, .inr (0, [.ref aW, .int lag, .int ld, .int sd, .int lf, .int ll])), (aW, .inl (cI, 4, .inl w))] → va_S A s.heap H locs → lv_has ls 6 [(5, .int (nI k)), (4, .int (c_drawN z k)), (0, .ref oH), (1, .ref oS), (2, .ref oC), (3, .int z)] → W p l e R s m args below meth c H locs 0 0 Q (F0 m 30 ls []) := by
    intro fu
    induction fu with
    | zero => intro k H locs ls hk hn; exact absurd hn (Nat.not_lt_zero _)
    | succ fu ih_30 =>
      intro k H locs ls hk hn hP hD hS hl
      refine lv_iload hx hb dX1_listen_30 (lv_at hl 0 rfl) ?_
      refine lv_aload_n hx hb dX1_listen_32 rfl (lv_at hl 2 rfl) ?_
      refine va_get (D := D) (ci := 1) (v := .int (c_len lag n cn)) (C := RX1) (T := TX1) (N := 2) hx hb htb ml_X1 hown hK hP 0 rfl rfl 1 (by decide) (htb _ mf_X1_15) (fun _ h9 => h9) rfl dX1_listen_33 ?_
      refine lv_icmp_ge (tgt := 69) hx hb dX1_listen_36 (by decide) (fun c_36 => ?_) (fun c_36 => ?_)
      · skip
        have ek := lp_out hk c_36
        subst ek
        exact hret _ _ _ _ dX1_listen_69 (trivial) hP hD hS
      · skip
        refine lv_aload_n hx hb dX1_listen_39 rfl (lv_at hl 4 rfl) ?_
        refine lv_iload hx hb dX1_listen_40 (lv_at hl 1 rfl) ?_
        refine va_calli (va_runV (As := [.int (c_drawN z k)]) (rest := []) ⟨hx, hb, hml, hown, htb⟩ (c_X0_nextDraw l D cI cJ oC aW lag ld sd lf ll w (c_drawN z k) H.size ) (cb_V htb mt_X0_nextDraw mi_yX0_nextDraw mx_yX0_nextDraw mm_X1_36 ⟨Nat.le_trans (Nat.le_of_ble_eq_true rfl) hRf, Nat.le_trans (Nat.le_of_ble_eq_true rfl) hRl⟩) ⟨bl_R, va_recv hK hP (ci := 0) (q0 := 3) rfl rfl, pre_R (hP.sub (ws' := [(oC, .inr (0, [.ref aW, .int lag, .int ld, .int sd, .int lf, .int ll])), (aW, .inl (cI, 4, .inl w))]) [3, 4] rfl) hK hN⟩ rfl rfl hl.1 rfl (lv_room (Nat.le_of_ble_eq_true rfl)) dX1_listen_42 ⟨Nat.zero_le _, Nat.zero_le _⟩) hS ro_A (ro_F hS hA) (fun r_42 u t H1 locs ht hvm hu hB hz1 hk1 hS => ?_)
        have hu2 := hu.symm; subst hu2
        replace hP := ro_P hP hk1
        clear hk1 hz1 hvm ht
        generalize H1 = H at hP hS ⊢
        have hP : va_P D vwCl [(oH, .inr (1, [.ref aS, .int (c_len lag n cn)])), (aS, .inl (cI, 140, .inl (c_lisN f w lag ld lf ll mx n g h st cn cs z k))), (oS, .inr (3, [.long ms, .long mx, .int n, .int mk, .int g, .int h, .int st, .int cn, .int cs])), (oC, .inr (0, [.ref aW, .int lag, .int ld, .int sd, .int lf, .int ll])), (aW, .inl (cI, 4, .inl w))] H := hP
        obtain rfl : r_42 = c_draw (c_drawN z k) := hB
        refine lv_eqi (y := c_drawN z (k + 1)) rfl ?_
        refine lv_istore (lv' := [(4, .int (c_drawN z (k + 1))), (5, .int (nI k)), (0, .ref oH), (1, .ref oS), (2, .ref oC), (3, .int z)]) hx hb dX1_listen_45 hl (by decide) rfl (fun ls hl => ?_)
        refine lv_aload_n hx hb dX1_listen_47 rfl (lv_at hl 2 rfl) ?_
        refine va_get (D := D) (ci := 1) (v := .ref aS) (C := RX1) (T := TX1) (N := 2) hx hb htb ml_X1 hown hK hP 0 rfl rfl 0 (by decide) (htb _ mf_X1_9) (fun _ h9 => h9) rfl dX1_listen_48 ?_
        refine lv_iload hx hb dX1_listen_51 (lv_at hl 1 rfl) ?_
        refine lv_aload_n hx hb dX1_listen_53 rfl (lv_at hl 4 rfl) ?_
        refine lv_aload_n hx hb dX1_listen_54 rfl (lv_at hl 3 rfl) ?_
        refine lv_iload hx hb dX1_listen_55 (lv_at hl 1 rfl) ?_
        refine lv_iload hx hb dX1_listen_57 (lv_at hl 0 rfl) ?_
        refine va_calli (va_runV (As := [.ref oS, .int (nI k), .int (c_drawN z (k + 1))]) (rest := [.int (nI k), .ref aS]) ⟨hx, hb, hml, hown, htb⟩ (c_X0_arrives l D cI cJ oC aW lag ld sd lf ll w oS ms mx n mk g h st cn cs (nI k) (c_drawN z (k + 1)) H.size ) (cb_V htb mt_X0_arrives mi_yX0_arrives mx_yX0_arrives mm_X1_40 ⟨Nat.le_trans (Nat.le_of_ble_eq_true rfl) hRf, Nat.le_trans (Nat.le_of_ble_eq_true rfl) hRl⟩) ⟨bl_R, va_recv hK hP (ci := 0) (q0 := 3) rfl rfl, pre_R (hP.sub (ws' := [(oC, .inr (0, [.ref aW, .int lag, .int ld, .int sd, .int lf, .int ll])), (aW, .inl (cI, 4, .inl w)), (oS, .inr (3, [.long ms, .long mx, .int n, .int mk, .int g, .int h, .int st, .int cn, .int cs]))]) [3, 4, 2] rfl) hK hN⟩ rfl rfl hl.1 rfl (lv_room (Nat.le_of_ble_eq_true rfl)) dX1_listen_59 ⟨Nat.zero_le _, Nat.zero_le _⟩) hS ro_A (ro_F hS hA) (fun r_59 u t H1 locs ht hvm hu hB hz1 hk1 hS => ?_)
        have hu2 := hu.symm; subst hu2
        replace hP := ro_P hP hk1
        clear hk1 hz1 hvm ht
        generalize H1 = H at hP hS ⊢
        have hP : va_P D vwCl [(oH, .inr (1, [.ref aS, .int (c_len lag n cn)])), (aS, .inl (cI, 140, .inl (c_lisN f w lag ld lf ll mx n g h st cn cs z k))), (oS, .inr (3, [.long ms, .long mx, .int n, .int mk, .int g, .int h, .int st, .int cn, .int cs])), (oC, .inr (0, [.ref aW, .int lag, .int ld, .int sd, .int lf, .int ll])), (aW, .inl (cI, 4, .inl w))] H := hP
        obtain rfl : r_59 = c_arr w lag ld lf ll mx n g h st cn cs (nI k) (c_drawN z (k + 1)) := hB
        refine va_iast (D := D) hx hb hK hP hD hS 1 0 rfl rfl (vp_in_nI (Nat.lt_of_lt_of_le (lp_go hk c_36) (c_len_le lag n cn)) (by decide)) dX1_listen_62 (fun H locs hP hD hS => ?_)
        have hP : va_P D vwCl [(oH, .inr (1, [.ref aS, .int (c_len lag n cn)])), (aS, .inl (cI, 140, .inl (upd (c_lisN f w lag ld lf ll mx n g h st cn cs z k) (nI k).toNatClampNeg (c_arr w lag ld lf ll mx n g h st cn cs (nI k) (c_drawN z (k + 1)))))), (oS, .inr (3, [.long ms, .long mx, .int n, .int mk, .int g, .int h, .int st, .int cn, .int cs])), (oC, .inr (0, [.ref aW, .int lag, .int ld, .int sd, .int lf, .int ll])), (aW, .inl (cI, 4, .inl w))] H := hP
        have hD : va_D A [(oH, .inr (1, [.ref aS, .int (c_len lag n cn)])), (aS, .inl (cI, 140, .inl (upd (c_lisN f w lag ld lf ll mx n g h st cn cs z k) (nI k).toNatClampNeg (c_arr w lag ld lf ll mx n g h st cn cs (nI k) (c_drawN z (k + 1)))))), (oS, .inr (3, [.long ms, .long mx, .int n, .int mk, .int g, .int h, .int st, .int cn, .int cs])), (oC, .inr (0, [.ref aW, .int lag, .int ld, .int sd, .int lf, .int ll])), (aW, .inl (cI, 4, .inl w))] := hD
        refine lv_iinc (v := nI (k + 1)) (lv' := [(5, .int (nI (k + 1))), (4, .int (c_drawN z (k + 1))), (0, .ref oH), (1, .ref oS), (2, .ref oC), (3, .int z)]) hx hb dX1_listen_63 hl (k := 1) rfl (nI_s k) (by decide) rfl (fun ls hl => ?_)
        refine lv_goto (tgt := 30) hx hb dX1_listen_66 (by decide) ?_
        exact ih_30 (k + 1) _ _ _ (lp_go hk c_36) (by have := lp_go hk c_36; omega) hP hD hS (lv_sub hl [0, 1, 2, 3, 4, 5] rfl)
  exact LOOP_30 _ 0 _ _ _ (Nat.zero_le _) (Nat.lt_succ_self _) hP hD hS (lv_sub hl [0, 1, 2, 3, 4, 5] rfl)
set_option maxHeartbeats 4000000 in
set_option maxRecDepth 100000 in
theorem c_X1_listen (l : Launch) (D : va_G) (cI cJ : ClassId) (oH : Nat) (aS : Nat) (ln : Int32) (f : Nat → Int32) (oS : Nat) (ms : Int64) (mx : Int64) (n : Int32) (mk : Int32) (g : Int32) (h : Int32) (st : Int32) (cn : Int32) (cs : Int32) (oC : Nat) (aW : Nat) (lag : Int32) (ld : Int32) (sd : Int32) (lf : Int32) (ll : Int32) (w : Nat → Int32) (z : Int32) (sz : Nat)  : Met l yX1_listen (Cond.code yX1_listen cX1_listen 6 none :: BIG) ({ frames := 5, cells := 0, slots := 0, locals := 116 }) (va_Pc [.ref oH, .ref oS, .ref oC, .int z] (pr_W D cI cJ [(oH, .inr (1, [.ref aS, .int ln])), (aS, .inl (cI, 140, .inl f)), (oS, .inr (3, [.long ms, .long mx, .int n, .int mk, .int g, .int h, .int st, .int cn, .int cs])), (oC, .inr (0, [.ref aW, .int lag, .int ld, .int sd, .int lf, .int ll])), (aW, .inl (cI, 4, .inl w))] sz)) (va_Qv (fun (_ : Unit) => True) (fun (_ : Unit) (t : State) => (True) ∧ va_P D vwCl [(oH, .inr (1, [.ref aS, .int (c_len lag n cn)])), (aS, .inl (cI, 140, .inl (c_lis f w lag ld lf ll mx n g h st cn cs z))), (oS, .inr (3, [.long ms, .long mx, .int n, .int mk, .int g, .int h, .int st, .int cn, .int cs])), (oC, .inr (0, [.ref aW, .int lag, .int ld, .int sd, .int lf, .int ll])), (aW, .inl (cI, 4, .inl w))] t.heap ∧ va_D (va_A [(oH, .inr (1, [.ref aS, .int ln])), (aS, .inl (cI, 140, .inl f)), (oS, .inr (3, [.long ms, .long mx, .int n, .int mk, .int g, .int h, .int st, .int cn, .int cs])), (oC, .inr (0, [.ref aW, .int lag, .int ld, .int sd, .int lf, .int ll])), (aW, .inl (cI, 4, .inl w))] sz) [(oH, .inr (1, [.ref aS, .int (c_len lag n cn)])), (aS, .inl (cI, 140, .inl (c_lis f w lag ld lf ll mx n g h st cn cs z))), (oS, .inr (3, [.long ms, .long mx, .int n, .int mk, .int g, .int h, .int st, .int cn, .int cs])), (oC, .inr (0, [.ref aW, .int lag, .int ld, .int sd, .int lf, .int ll])), (aW, .inl (cI, 4, .inl w))]) (va_A [(oH, .inr (1, [.ref aS, .int ln])), (aS, .inl (cI, 140, .inl f)), (oS, .inr (3, [.long ms, .long mx, .int n, .int mk, .int g, .int h, .int st, .int cn, .int cs])), (oC, .inr (0, [.ref aW, .int lag, .int ld, .int sd, .int lf, .int ll])), (aW, .inl (cI, 4, .inl w))] sz)) 0 0 (va_A [(oH, .inr (1, [.ref aS, .int ln])), (aS, .inl (cI, 140, .inl f)), (oS, .inr (3, [.long ms, .long mx, .int n, .int mk, .int g, .int h, .int st, .int cn, .int cs])), (oC, .inr (0, [.ref aW, .int lag, .int ld, .int sd, .int lf, .int ll])), (aW, .inl (cI, 4, .inl w))] sz) := by
  refine Met.ofW (cc := cX1_listen) (maxL := 6) (ret := none) (by decide) rfl ?_
  intro p e s m args below meth c s₁ B hml hv
  obtain ⟨rfl, hsz, hP, hK, hN, hD0⟩ := hv
  have hl := lv_entry ([.ref oH, .ref oS, .ref oC, .int z]) (n := 6) (Nat.le_of_ble_eq_true rfl)
  rw [lg_entry_eq]
  subst hsz
  generalize (lg_sl ([.ref oH, .ref oS, .ref oC, .int z]) ++ List.replicate (6 - (lg_sl ([.ref oH, .ref oS, .ref oC, .int z])).length) Slot.unset).toArray = ls at hl ⊢
  exact b_X1_listen (A := va_A [(oH, .inr (1, [.ref aS, .int ln])), (aS, .inl (cI, 140, .inl f)), (oS, .inr (3, [.long ms, .long mx, .int n, .int mk, .int g, .int h, .int st, .int cn, .int cs])), (oC, .inr (0, [.ref aW, .int lag, .int ld, .int sd, .int lf, .int ll])), (aW, .inl (cI, 4, .inl w))] s.heap.size) D cI cJ oH aS ln f oS ms mx n mk g h st cn cs oC aW lag ld sd lf ll w z  B.exec B.bytes hml (findClass_of_methodNamed B.named) (fun w h => atoms_spec B.pre w (List.mem_cons_of_mem _ h)) (Nat.le_of_ble_eq_true rfl) (Nat.le_of_ble_eq_true rfl) hK hN (fun q h => Or.inr h) hP (hD0.self (sz := s.heap.size)) hl (fun  H locs pc ls hdg hpost hP hD hS => W.vret B.exec B.bytes B.returns (fun t ht hW => ⟨⟨(), rfl, trivial, hpost, by rw [ht]; exact hP, hD⟩, hS.F ht⟩) hS.2.2 hdg B.notSynchronized)
theorem mt_X1_alike : mt_ok yX1_alike RX1 cX1_alike 5 (some .int) 2 := ⟨mc_yX1_alike, mn_X1, rfl, by decide +kernel⟩
set_option maxHeartbeats 4000000 in
set_option maxRecDepth 100000 in
theorem b_X1_alike {p : Program} {l : Launch} {e : Env} {R : Room} {s : State} {m : MethodId} {args : Array Value} {below : List Frame} {meth : Method} {c : Code} {Q : State → Prop} {A : Nat → Prop} (D : va_G) (cI cJ : ClassId) (oH : Nat) (aS : Nat) (ln : Int32) (f : Nat → Int32) (oS : Nat) (ms : Int64) (mx : Int64) (n : Int32) (mk : Int32) (g : Int32) (h : Int32) (st : Int32) (cn : Int32) (cs : Int32) (q : Int32)  {ls : Array Slot} (hx : p.tables.exec = Jvm.exec) (hb : c.code = cX1_alike) (hml : c.maxLocals = 5) (hown : s.vm.findClass RX1 = some m.cls) (htb : ∀ w ∈ BIG, w.before args s = true) (hRf : 2 ≤ R.frames) (hRl : 44 ≤ R.locals) (hK : va_K D vwCl [(cI, .int), (cJ, .long)] s) (hN : nw s) (hA : ∀ q, s.heap.size ≤ q → A q) (hP : va_P D vwCl [(oH, .inr (1, [.ref aS, .int ln])), (aS, .inl (cI, 140, .inl f)), (oS, .inr (3, [.long ms, .long mx, .int n, .int mk, .int g, .int h, .int st, .int cn, .int cs]))] s.heap) (hl : lv_has ls 5 [(0, .ref oH), (1, .ref oS), (2, .int q)])
    (hret : ∀ (r : Int32)  (H : Heap) (locs : List Loc) (pc : Nat) (ls : Array Slot), decode cX1_alike pc = .ok (.ireturn, 1) → (r = c_al f cn cs q) → va_S A s.heap H locs → W p l e R s m args below meth c H locs 0 0 Q (F0 m pc ls [.int r])) : W p l e R s m args below meth c s.heap [] 0 0 Q (F0 m 0 ls []) := by
  generalize hHe : s.heap = H at hP ⊢
  have hS : va_S A s.heap H [] := by rw [← hHe]; exact va_S.rf
  clear hHe
  refine lv_iconst (v := 0) hx hb dX1_alike_0 (by decide) ?_
  refine lv_istore_n (lv' := [(3, .int 0), (0, .ref oH), (1, .ref oS), (2, .int q)]) hx hb dX1_alike_1 rfl hl (by decide) rfl (fun ls hl => ?_)
  refine lv_iconst (v := 0) hx hb dX1_alike_2 (by decide) ?_
  refine lv_istore (lv' := [(4, .int 0), (3, .int 0), (0, .ref oH), (1, .ref oS), (2, .int q)]) hx hb dX1_alike_3 hl (by decide) rfl (fun ls hl => ?_)
  have LOOP_5 : ∀ (fu : Nat) (k : Nat) (H : Heap) (locs : List Loc) (ls : Array Slot), (k ≤ nB cn) → nB cn - k < fu → va_P D vwCl [(oH, .inr (1, [.ref aS, .int ln])), (aS, .inl (cI, 140, .inl f)), (oS, .inr (3, [.long ms, .long mx, .int n, .int mk, .int g, .int h, .int st, .int cn, .int cs]))] H → va_S A s.heap H locs → lv_has ls 5 [(4, .int (nI k)), (3, .int (c_alN f cn cs q k)), (0, .ref oH), (1, .ref oS), (2, .int q)] → W p l e R s m args below meth c H locs 0 0 Q (F0 m 5 ls []) := by
    intro fu
    induction fu with
    | zero => intro k H locs ls hk hn; exact absurd hn (Nat.not_lt_zero _)
    | succ fu ih_5 =>
      intro k H locs ls hk hn hP hS hl
      refine lv_iload hx hb dX1_alike_5 (lv_at hl 0 rfl) ?_
      refine lv_aload_n hx hb dX1_alike_7 rfl (lv_at hl 3 rfl) ?_
      refine va_get (D := D) (ci := 3) (v := .int cn) (C := RX3) (T := TX3) (N := 9) hx hb htb ml_X3 hown hK hP 2 rfl rfl 7 (by decide) (htb _ mf_X1_48) (fun _ h9 => h9) rfl dX1_alike_8 ?_
      refine lv_icmp_ge (tgt := 38) hx hb dX1_alike_11 (by decide) (fun c_11 => ?_) (fun c_11 => ?_)
      · skip
        refine lv_iload_n hx hb dX1_alike_38 rfl (lv_at hl 1 rfl) ?_
        exact hret (c_alN f cn cs q k) _ _ _ _ dX1_alike_39 (by rw [lp_out hk c_11]; rfl) hS
      · skip
        refine lv_iload_n hx hb dX1_alike_14 rfl (lv_at hl 1 rfl) ?_
        refine lv_aload_n hx hb dX1_alike_15 rfl (lv_at hl 3 rfl) ?_
        refine lv_iload hx hb dX1_alike_16 (lv_at hl 0 rfl) ?_
        refine va_calli (va_runV (As := [.int (nI k)]) (rest := [.int (c_alN f cn cs q k)]) ⟨hx, hb, hml, hown, htb⟩ (c_X3_sign l D cI cJ oS ms mx n mk g h st cn cs (nI k) H.size ) (cb_V htb mt_X3_sign mi_yX3_sign mx_yX3_sign mm_X1_51 ⟨Nat.le_trans (Nat.le_of_ble_eq_true rfl) hRf, Nat.le_trans (Nat.le_of_ble_eq_true rfl) hRl⟩) ⟨bl_R, va_recv hK hP (ci := 3) (q0 := 2) rfl rfl, pre_R (hP.sub (ws' := [(oS, .inr (3, [.long ms, .long mx, .int n, .int mk, .int g, .int h, .int st, .int cn, .int cs]))]) [2] rfl) hK hN⟩ rfl rfl hl.1 rfl (lv_room (Nat.le_of_ble_eq_true rfl)) dX1_alike_18 ⟨Nat.zero_le _, Nat.zero_le _⟩) hS ro_A (ro_F hS hA) (fun r_18 u t H1 locs ht hvm hu hB hz1 hk1 hS => ?_)
        have hu2 := hu.symm; subst hu2
        replace hP := ro_P hP hk1
        clear hk1 hz1 hvm ht
        generalize H1 = H at hP hS ⊢
        have hP : va_P D vwCl [(oH, .inr (1, [.ref aS, .int ln])), (aS, .inl (cI, 140, .inl f)), (oS, .inr (3, [.long ms, .long mx, .int n, .int mk, .int g, .int h, .int st, .int cn, .int cs]))] H := hP
        obtain rfl : r_18 = c_sign cn cs (nI k) := hB
        refine lv_aload_n hx hb dX1_alike_21 rfl (lv_at hl 2 rfl) ?_
        refine lv_iload_n hx hb dX1_alike_22 rfl (lv_at hl 4 rfl) ?_
        refine lv_iload hx hb dX1_alike_23 (lv_at hl 0 rfl) ?_
        refine lv_iadd hx hb dX1_alike_25 ?_
        refine va_calli (va_runV (As := [.int (q + nI k)]) (rest := [.int (c_sign cn cs (nI k)), .int (c_alN f cn cs q k)]) ⟨hx, hb, hml, hown, htb⟩ (c_X1_at l D cI cJ oH aS ln f (q + nI k) H.size ) (cb_V htb mt_X1_at mi_yX1_at mx_yX1_at mm_X1_54 ⟨Nat.le_trans (Nat.le_of_ble_eq_true rfl) hRf, Nat.le_trans (Nat.le_of_ble_eq_true rfl) hRl⟩) ⟨bl_R, va_recv hK hP (ci := 1) (q0 := 0) rfl rfl, pre_R (hP.sub (ws' := [(oH, .inr (1, [.ref aS, .int ln])), (aS, .inl (cI, 140, .inl f))]) [0, 1] rfl) hK hN⟩ rfl rfl hl.1 rfl (lv_room (Nat.le_of_ble_eq_true rfl)) dX1_alike_26 ⟨Nat.zero_le _, Nat.zero_le _⟩) hS ro_A (ro_F hS hA) (fun r_26 u t H1 locs ht hvm hu hB hz1 hk1 hS => ?_)
        have hu2 := hu.symm; subst hu2
        replace hP := ro_P hP hk1
        clear hk1 hz1 hvm ht
        generalize H1 = H at hP hS ⊢
        have hP : va_P D vwCl [(oH, .inr (1, [.ref aS, .int ln])), (aS, .inl (cI, 140, .inl f)), (oS, .inr (3, [.long ms, .long mx, .int n, .int mk, .int g, .int h, .int st, .int cn, .int cs]))] H := hP
        obtain rfl : r_26 = c_at f (q + nI k) := hB
        refine lv_imul hx hb dX1_alike_29 ?_
        refine lv_iadd hx hb dX1_alike_30 ?_
        refine lv_eqi (y := c_alN f cn cs q (k + 1)) rfl ?_
        refine lv_istore_n (lv' := [(3, .int (c_alN f cn cs q (k + 1))), (4, .int (nI k)), (0, .ref oH), (1, .ref oS), (2, .int q)]) hx hb dX1_alike_31 rfl hl (by decide) rfl (fun ls hl => ?_)
        refine lv_iinc (v := nI (k + 1)) (lv' := [(4, .int (nI (k + 1))), (3, .int (c_alN f cn cs q (k + 1))), (0, .ref oH), (1, .ref oS), (2, .int q)]) hx hb dX1_alike_32 hl (k := 1) rfl (nI_s k) (by decide) rfl (fun ls hl => ?_)
        refine lv_goto (tgt := 5) hx hb dX1_alike_35 (by decide) ?_
        exact ih_5 (k + 1) _ _ _ (lp_go hk c_11) (by have := lp_go hk c_11; omega) hP hS (lv_sub hl [0, 1, 2, 3, 4] rfl)
  exact LOOP_5 _ 0 _ _ _ (Nat.zero_le _) (Nat.lt_succ_self _) hP hS (lv_sub hl [0, 1, 2, 3, 4] rfl)
set_option maxHeartbeats 4000000 in
set_option maxRecDepth 100000 in
theorem c_X1_alike (l : Launch) (D : va_G) (cI cJ : ClassId) (oH : Nat) (aS : Nat) (ln : Int32) (f : Nat → Int32) (oS : Nat) (ms : Int64) (mx : Int64) (n : Int32) (mk : Int32) (g : Int32) (h : Int32) (st : Int32) (cn : Int32) (cs : Int32) (q : Int32) (sz : Nat)  : Met l yX1_alike (Cond.code yX1_alike cX1_alike 5 (some .int) :: BIG) ({ frames := 2, cells := 0, slots := 0, locals := 44 }) (va_Pc [.ref oH, .ref oS, .int q] (pr_R D cI cJ [(oH, .inr (1, [.ref aS, .int ln])), (aS, .inl (cI, 140, .inl f)), (oS, .inr (3, [.long ms, .long mx, .int n, .int mk, .int g, .int h, .int st, .int cn, .int cs]))] sz)) (va_Qi (fun (r u : Int32) => u = r) (fun (u : Int32) (t : State) => u = c_al f cn cs q) (va_A [] sz)) 0 0 (va_A [] sz) := by
  refine Met.ofW (cc := cX1_alike) (maxL := 5) (ret := (some .int)) (by decide) rfl ?_
  intro p e s m args below meth c s₁ B hml hv
  obtain ⟨rfl, hsz, hP, hK, hN⟩ := hv
  have hl := lv_entry ([.ref oH, .ref oS, .int q]) (n := 5) (Nat.le_of_ble_eq_true rfl)
  rw [lg_entry_eq]
  subst hsz
  generalize (lg_sl ([.ref oH, .ref oS, .int q]) ++ List.replicate (5 - (lg_sl ([.ref oH, .ref oS, .int q])).length) Slot.unset).toArray = ls at hl ⊢
  exact b_X1_alike (A := va_A [] s.heap.size) D cI cJ oH aS ln f oS ms mx n mk g h st cn cs q  B.exec B.bytes hml (findClass_of_methodNamed B.named) (fun w h => atoms_spec B.pre w (List.mem_cons_of_mem _ h)) (Nat.le_of_ble_eq_true rfl) (Nat.le_of_ble_eq_true rfl) hK hN (fun q h => Or.inr h) hP hl (fun r  H locs pc ls hdg hpost hS => W.iret B.exec B.bytes B.returns (fun t ht hW => ⟨⟨r, r, rfl, rfl, hpost⟩, hS.F ht⟩) hS.2.2 hdg B.notSynchronized)
theorem mt_X1_locate : mt_ok yX1_locate RX1 cX1_locate 8 (some .int) 3 := ⟨mc_yX1_locate, mn_X1, rfl, by decide +kernel⟩
set_option maxHeartbeats 4000000 in
set_option maxRecDepth 100000 in
theorem b_X1_locate {p : Program} {l : Launch} {e : Env} {R : Room} {s : State} {m : MethodId} {args : Array Value} {below : List Frame} {meth : Method} {c : Code} {Q : State → Prop} {A : Nat → Prop} (D : va_G) (cI cJ : ClassId) (oH : Nat) (aS : Nat) (ln : Int32) (f : Nat → Int32) (oS : Nat) (ms : Int64) (mx : Int64) (n : Int32) (mk : Int32) (g : Int32) (h : Int32) (st : Int32) (cn : Int32) (cs : Int32) (last : Int32) (least : Int32) (hlast : last.toInt < 2147483647) {ls : Array Slot} (hx : p.tables.exec = Jvm.exec) (hb : c.code = cX1_locate) (hml : c.maxLocals = 8) (hown : s.vm.findClass RX1 = some m.cls) (htb : ∀ w ∈ BIG, w.before args s = true) (hRf : 3 ≤ R.frames) (hRl : 68 ≤ R.locals) (hK : va_K D vwCl [(cI, .int), (cJ, .long)] s) (hN : nw s) (hA : ∀ q, s.heap.size ≤ q → A q) (hP : va_P D vwCl [(oH, .inr (1, [.ref aS, .int ln])), (aS, .inl (cI, 140, .inl f)), (oS, .inr (3, [.long ms, .long mx, .int n, .int mk, .int g, .int h, .int st, .int cn, .int cs]))] s.heap) (hl : lv_has ls 8 [(0, .ref oH), (1, .ref oS), (2, .int last), (3, .int least)])
    (hret : ∀ (r : Int32)  (H : Heap) (locs : List Loc) (pc : Nat) (ls : Array Slot), decode cX1_locate pc = .ok (.ireturn, 1) → (r = c_loc f cn cs last least) → va_S A s.heap H locs → W p l e R s m args below meth c H locs 0 0 Q (F0 m pc ls [.int r])) : W p l e R s m args below meth c s.heap [] 0 0 Q (F0 m 0 ls []) := by
  generalize hHe : s.heap = H at hP ⊢
  have hS : va_S A s.heap H [] := by rw [← hHe]; exact va_S.rf
  clear hHe
  refine lv_aload_n hx hb dX1_locate_0 rfl (lv_at hl 1 rfl) ?_
  refine va_get (D := D) (ci := 3) (v := .int cn) (C := RX3) (T := TX3) (N := 9) hx hb htb ml_X3 hown hK hP 2 rfl rfl 7 (by decide) (htb _ mf_X1_48) (fun _ h9 => h9) rfl dX1_locate_1 ?_
  refine lv_if_ne (tgt := 9) hx hb dX1_locate_4 (by decide) (fun c_4 => ?_) (fun c_4 => ?_)
  · skip
    refine lv_iconst (v := 0) hx hb dX1_locate_9 (by decide) ?_
    refine lv_istore (lv' := [(4, .int 0), (0, .ref oH), (1, .ref oS), (2, .int last), (3, .int least)]) hx hb dX1_locate_10 hl (by decide) rfl (fun ls hl => ?_)
    refine lv_aload_n hx hb dX1_locate_12 rfl (lv_at hl 1 rfl) ?_
    refine lv_aload_n hx hb dX1_locate_13 rfl (lv_at hl 2 rfl) ?_
    refine lv_iconst (v := 0) hx hb dX1_locate_14 (by decide) ?_
    refine va_calli (va_runV (As := [.ref oS, .int 0]) (rest := []) ⟨hx, hb, hml, hown, htb⟩ (c_X1_alike l D cI cJ oH aS ln f oS ms mx n mk g h st cn cs 0 H.size ) (cb_V htb mt_X1_alike mi_yX1_alike mx_yX1_alike mm_X1_57 ⟨Nat.le_trans (Nat.le_of_ble_eq_true rfl) hRf, Nat.le_trans (Nat.le_of_ble_eq_true rfl) hRl⟩) ⟨bl_R, va_recv hK hP (ci := 1) (q0 := 0) rfl rfl, pre_R (hP.sub (ws' := [(oH, .inr (1, [.ref aS, .int ln])), (aS, .inl (cI, 140, .inl f)), (oS, .inr (3, [.long ms, .long mx, .int n, .int mk, .int g, .int h, .int st, .int cn, .int cs]))]) [0, 1, 2] rfl) hK hN⟩ rfl rfl hl.1 rfl (lv_room (Nat.le_of_ble_eq_true rfl)) dX1_locate_15 ⟨Nat.zero_le _, Nat.zero_le _⟩) hS ro_A (ro_F hS hA) (fun r_15 u t H1 locs ht hvm hu hB hz1 hk1 hS => ?_)
    have hu2 := hu.symm; subst hu2
    replace hP := ro_P hP hk1
    clear hk1 hz1 hvm ht
    generalize H1 = H at hP hS ⊢
    have hP : va_P D vwCl [(oH, .inr (1, [.ref aS, .int ln])), (aS, .inl (cI, 140, .inl f)), (oS, .inr (3, [.long ms, .long mx, .int n, .int mk, .int g, .int h, .int st, .int cn, .int cs]))] H := hP
    obtain rfl : r_15 = c_al f cn cs 0 := hB
    refine lv_istore (lv' := [(5, .int (c_al f cn cs 0)), (4, .int 0), (0, .ref oH), (1, .ref oS), (2, .int last), (3, .int least)]) hx hb dX1_locate_18 hl (by decide) rfl (fun ls hl => ?_)
    refine lv_iconst (v := 1) hx hb dX1_locate_20 (by decide) ?_
    refine lv_istore (lv' := [(6, .int 1), (5, .int (c_al f cn cs 0)), (4, .int 0), (0, .ref oH), (1, .ref oS), (2, .int last), (3, .int least)]) hx hb dX1_locate_21 hl (by decide) rfl (fun ls hl => ?_)
    have LOOP_23 : ∀ (fu : Nat) (k : Nat) (best : Int32) (most : Int32) (H : Heap) (locs : List Loc) (ls : Array Slot), (k ≤ nB last) → ((best, most) = c_locN f cn cs k) → nB last - k < fu → va_P D vwCl [(oH, .inr (1, [.ref aS, .int ln])), (aS, .inl (cI, 140, .inl f)), (oS, .inr (3, [.long ms, .long mx, .int n, .int mk, .int g, .int h, .int st, .int cn, .int cs]))] H → va_S A s.heap H locs → lv_has ls 8 [(6, .int (nI (k + 1))), (5, .int most), (4, .int best), (0, .ref oH), (1, .ref oS), (2, .int last), (3, .int least)] → W p l e R s m args below meth c H locs 0 0 Q (F0 m 23 ls []) := by
      intro fu
      induction fu with
      | zero => intro k best most H locs ls hk hbm hn; exact absurd hn (Nat.not_lt_zero _)
      | succ fu ih_23 =>
        intro k best most H locs ls hk hbm hn hP hS hl
        refine lv_iload hx hb dX1_locate_23 (lv_at hl 0 rfl) ?_
        refine lv_iload_n hx hb dX1_locate_25 rfl (lv_at hl 5 rfl) ?_
        refine lv_icmp_gt (tgt := 59) hx hb dX1_locate_26 (by decide) (fun c_26 => ?_) (fun c_26 => ?_)
        · skip
          refine lv_iload hx hb dX1_locate_59 (lv_at hl 1 rfl) ?_
          refine lv_iload_n hx hb dX1_locate_61 rfl (lv_at hl 6 rfl) ?_
          refine lv_icmp_ge (tgt := 69) hx hb dX1_locate_62 (by decide) (fun c_62 => ?_) (fun c_62 => ?_)
          · skip
            refine lv_iload hx hb dX1_locate_69 (lv_at hl 2 rfl) ?_
            exact hret best _ _ _ _ dX1_locate_71 (by have ek := lq_out hlast hk c_26; subst ek; simp only [c_loc, ← hbm]; rw [if_neg c_4]; first | (rw [if_pos c_62]; done) | (rw [if_neg c_62]; done)) hS
          · skip
            refine lv_iconst (v := (-1)) hx hb dX1_locate_65 (by decide) ?_
            refine lv_goto (tgt := 71) hx hb dX1_locate_66 (by decide) ?_
            exact hret (-1) _ _ _ _ dX1_locate_71 (by have ek := lq_out hlast hk c_26; subst ek; simp only [c_loc, ← hbm]; rw [if_neg c_4]; first | (rw [if_pos c_62]; done) | (rw [if_neg c_62]; done)) hS
        · skip
          refine lv_aload_n hx hb dX1_locate_29 rfl (lv_at hl 3 rfl) ?_
          refine lv_aload_n hx hb dX1_locate_30 rfl (lv_at hl 4 rfl) ?_
          refine lv_iload hx hb dX1_locate_31 (lv_at hl 0 rfl) ?_
          refine va_calli (va_runV (As := [.ref oS, .int (nI (k + 1))]) (rest := []) ⟨hx, hb, hml, hown, htb⟩ (c_X1_alike l D cI cJ oH aS ln f oS ms mx n mk g h st cn cs (nI (k + 1)) H.size ) (cb_V htb mt_X1_alike mi_yX1_alike mx_yX1_alike mm_X1_57 ⟨Nat.le_trans (Nat.le_of_ble_eq_true rfl) hRf, Nat.le_trans (Nat.le_of_ble_eq_true rfl) hRl⟩) ⟨bl_R, va_recv hK hP (ci := 1) (q0 := 0) rfl rfl, pre_R (hP.sub (ws' := [(oH, .inr (1, [.ref aS, .int ln])), (aS, .inl (cI, 140, .inl f)), (oS, .inr (3, [.long ms, .long mx, .int n, .int mk, .int g, .int h, .int st, .int cn, .int cs]))]) [0, 1, 2] rfl) hK hN⟩ rfl rfl hl.1 rfl (lv_room (Nat.le_of_ble_eq_true rfl)) dX1_locate_33 ⟨Nat.zero_le _, Nat.zero_le _⟩) hS ro_A (ro_F hS hA) (fun r_33 u t H1 locs ht hvm hu hB hz1 hk1 hS => ?_)
          have hu2 := hu.symm; subst hu2
          replace hP := ro_P hP hk1
          clear hk1 hz1 hvm ht
          generalize H1 = H at hP hS ⊢
          have hP : va_P D vwCl [(oH, .inr (1, [.ref aS, .int ln])), (aS, .inl (cI, 140, .inl f)), (oS, .inr (3, [.long ms, .long mx, .int n, .int mk, .int g, .int h, .int st, .int cn, .int cs]))] H := hP
          obtain rfl : r_33 = c_al f cn cs (nI (k + 1)) := hB
          refine lv_istore (lv' := [(7, .int (c_al f cn cs (nI (k + 1)))), (6, .int (nI (k + 1))), (5, .int most), (4, .int best), (0, .ref oH), (1, .ref oS), (2, .int last), (3, .int least)]) hx hb dX1_locate_36 hl (by decide) rfl (fun ls hl => ?_)
          refine lv_iload hx hb dX1_locate_38 (lv_at hl 0 rfl) ?_
          refine lv_iload hx hb dX1_locate_40 (lv_at hl 2 rfl) ?_
          refine lv_icmp_le (tgt := 53) hx hb dX1_locate_42 (by decide) (fun c_42 => ?_) (fun c_42 => ?_)
          · skip
            refine lv_iinc (v := nI (k + 1 + 1)) (lv' := [(6, .int (nI (k + 1 + 1))), (7, .int (c_al f cn cs (nI (k + 1)))), (5, .int most), (4, .int best), (0, .ref oH), (1, .ref oS), (2, .int last), (3, .int least)]) hx hb dX1_locate_53 hl (k := 1) rfl (nI_s (k + 1)) (by decide) rfl (fun ls hl => ?_)
            refine lv_goto (tgt := 23) hx hb dX1_locate_56 (by decide) ?_
            exact ih_23 (k + 1) best most _ _ _ (lq_go hlast hk c_26) (by rw [c_locN, ← hbm]; first | (rw [if_pos c_42]; done) | (rw [if_neg c_42]; done)) (by have := lq_go hlast hk c_26; omega) hP hS (lv_sub hl [0, 2, 3, 4, 5, 6, 7] rfl)
          · skip
            refine lv_iload hx hb dX1_locate_45 (lv_at hl 0 rfl) ?_
            refine lv_istore (lv' := [(5, .int (c_al f cn cs (nI (k + 1)))), (7, .int (c_al f cn cs (nI (k + 1)))), (6, .int (nI (k + 1))), (4, .int best), (0, .ref oH), (1, .ref oS), (2, .int last), (3, .int least)]) hx hb dX1_locate_47 hl (by decide) rfl (fun ls hl => ?_)
            refine lv_iload hx hb dX1_locate_49 (lv_at hl 2 rfl) ?_
            refine lv_istore (lv' := [(4, .int (nI (k + 1))), (5, .int (c_al f cn cs (nI (k + 1)))), (7, .int (c_al f cn cs (nI (k + 1)))), (6, .int (nI (k + 1))), (0, .ref oH), (1, .ref oS), (2, .int last), (3, .int least)]) hx hb dX1_locate_51 hl (by decide) rfl (fun ls hl => ?_)
            refine lv_iinc (v := nI (k + 1 + 1)) (lv' := [(6, .int (nI (k + 1 + 1))), (4, .int (nI (k + 1))), (5, .int (c_al f cn cs (nI (k + 1)))), (7, .int (c_al f cn cs (nI (k + 1)))), (0, .ref oH), (1, .ref oS), (2, .int last), (3, .int least)]) hx hb dX1_locate_53 hl (k := 3) rfl (nI_s (k + 1)) (by decide) rfl (fun ls hl => ?_)
            refine lv_goto (tgt := 23) hx hb dX1_locate_56 (by decide) ?_
            exact ih_23 (k + 1) (nI (k + 1)) (c_al f cn cs (nI (k + 1))) _ _ _ (lq_go hlast hk c_26) (by rw [c_locN, ← hbm]; first | (rw [if_pos c_42]; done) | (rw [if_neg c_42]; done)) (by have := lq_go hlast hk c_26; omega) hP hS (lv_sub hl [0, 2, 1, 4, 5, 6, 7] rfl)
    exact LOOP_23 _ 0 0 (c_al f cn cs 0) _ _ _ (Nat.zero_le _) (rfl) (Nat.lt_succ_self _) hP hS (lv_sub hl [0, 1, 2, 3, 4, 5, 6] rfl)
  · skip
    refine lv_iconst (v := (-1)) hx hb dX1_locate_7 (by decide) ?_
    exact hret (-1) _ _ _ _ dX1_locate_8 (by simp [c_loc, *]) hS
set_option maxHeartbeats 4000000 in
set_option maxRecDepth 100000 in
theorem c_X1_locate (l : Launch) (D : va_G) (cI cJ : ClassId) (oH : Nat) (aS : Nat) (ln : Int32) (f : Nat → Int32) (oS : Nat) (ms : Int64) (mx : Int64) (n : Int32) (mk : Int32) (g : Int32) (h : Int32) (st : Int32) (cn : Int32) (cs : Int32) (last : Int32) (least : Int32) (sz : Nat) (hlast : last.toInt < 2147483647) : Met l yX1_locate (Cond.code yX1_locate cX1_locate 8 (some .int) :: BIG) ({ frames := 3, cells := 0, slots := 0, locals := 68 }) (va_Pc [.ref oH, .ref oS, .int last, .int least] (pr_R D cI cJ [(oH, .inr (1, [.ref aS, .int ln])), (aS, .inl (cI, 140, .inl f)), (oS, .inr (3, [.long ms, .long mx, .int n, .int mk, .int g, .int h, .int st, .int cn, .int cs]))] sz)) (va_Qi (fun (r u : Int32) => u = r) (fun (u : Int32) (t : State) => u = c_loc f cn cs last least) (va_A [] sz)) 0 0 (va_A [] sz) := by
  refine Met.ofW (cc := cX1_locate) (maxL := 8) (ret := (some .int)) (by decide) rfl ?_
  intro p e s m args below meth c s₁ B hml hv
  obtain ⟨rfl, hsz, hP, hK, hN⟩ := hv
  have hl := lv_entry ([.ref oH, .ref oS, .int last, .int least]) (n := 8) (Nat.le_of_ble_eq_true rfl)
  rw [lg_entry_eq]
  subst hsz
  generalize (lg_sl ([.ref oH, .ref oS, .int last, .int least]) ++ List.replicate (8 - (lg_sl ([.ref oH, .ref oS, .int last, .int least])).length) Slot.unset).toArray = ls at hl ⊢
  exact b_X1_locate (A := va_A [] s.heap.size) D cI cJ oH aS ln f oS ms mx n mk g h st cn cs last least hlast B.exec B.bytes hml (findClass_of_methodNamed B.named) (fun w h => atoms_spec B.pre w (List.mem_cons_of_mem _ h)) (Nat.le_of_ble_eq_true rfl) (Nat.le_of_ble_eq_true rfl) hK hN (fun q h => Or.inr h) hP hl (fun r  H locs pc ls hdg hpost hS => W.iret B.exec B.bytes B.returns (fun t ht hW => ⟨⟨r, r, rfl, rfl, hpost⟩, hS.F ht⟩) hS.2.2 hdg B.notSynchronized)
end
section
theorem lk_go {k N : Nat} {b : Int32} (hb : b = nI N) (hN : N < 2 ^ 30) (hk : k ≤ N + 2) (h : ¬ b ≤ nI k) : k < N := by
  have h2 : (nI k).toInt = (k : Int) := nI_int (by omega)
  have h3 : (nI N).toInt = (N : Int) := nI_int (by omega)
  rw [hb, Int32.le_iff_toInt_le, h2, h3] at h
  omega
theorem vp_lt {k N M : Nat} (h : k < N) (hM : N ≤ M) (hM2 : M < 2 ^ 31) : vp_in (nI k) M := vp_in_nI (Nat.lt_of_lt_of_le h hM) hM2
theorem vp_half {j : Nat} (h : j < 64) : vp_in (nI j / 2) 32 := by
  have e : nI j / 2 = nI (j / 2) := pk_div (a := j) (d := 2) (by omega) (by decide) (by decide)
  rw [e]
  exact vp_in_nI (by omega) (by decide)
theorem nI_s2 (k : Nat) : nI k + 2 = nI (k + 2) := nI_add k 2
theorem b_in_31 {i : Int32} (h : ¬ b_in i 0 31 = 0) : vp_in i 32 := by
  have h1 := b_in_yes h
  have e : ((31 : Int32)).toInt = 31 := by decide
  have e0 : ((0 : Int32)).toInt = 0 := by decide
  rw [vp_in_iff]
  omega
end
section
theorem mt_X2_begin : mt_ok yX2_begin RX2 cX2_begin 2 none 0 := ⟨mc_yX2_begin, mn_X2, rfl, by decide +kernel⟩
set_option maxHeartbeats 4000000 in
set_option maxRecDepth 100000 in
theorem b_X2_begin {p : Program} {l : Launch} {e : Env} {R : Room} {s : State} {m : MethodId} {args : Array Value} {below : List Frame} {meth : Method} {c : Code} {Q : State → Prop} {A : Nat → Prop} (D : va_G) (cI cJ : ClassId) (oP : Nat) (aG : Nat) (aF : Nat) (aE : Nat) (aC : Nat) (aR : Nat) (aN : Nat) (aM : Nat) (bc : Int64) (br : Int64) (co : Nat → Int64) (ro : Nat → Int64)  {ls : Array Slot} (hx : p.tables.exec = Jvm.exec) (hb : c.code = cX2_begin) (hml : c.maxLocals = 2) (hown : s.vm.findClass RX2 = some m.cls) (htb : ∀ w ∈ BIG, w.before args s = true) (hRf : 0 ≤ R.frames) (hRl : 0 ≤ R.locals) (hK : va_K D vwCl [(cI, .int), (cJ, .long)] s) (hN : nw s) (hA : ∀ q, s.heap.size ≤ q → A q) (hP : va_P D vwCl [(oP, .inr (2, [.ref aG, .long bc, .long br, .ref aF, .ref aE, .ref aC, .ref aR, .ref aN, .ref aM])), (aC, .inl (cJ, 32, .inr (.inl co))), (aR, .inl (cJ, 32, .inr (.inl ro)))] s.heap) (hD : va_D A [(oP, .inr (2, [.ref aG, .long bc, .long br, .ref aF, .ref aE, .ref aC, .ref aR, .ref aN, .ref aM])), (aC, .inl (cJ, 32, .inr (.inl co))), (aR, .inl (cJ, 32, .inr (.inl ro)))]) (hl : lv_has ls 2 [(0, .ref oP)])
    (hret : ∀ (co2 : Nat → Int64) (ro2 : Nat → Int64) (H : Heap) (locs : List Loc) (pc : Nat) (ls : Array Slot), decode cX2_begin pc = .ok (.return_, 1) → (True) → va_P D vwCl [(oP, .inr (2, [.ref aG, .long bc, .long br, .ref aF, .ref aE, .ref aC, .ref aR, .ref aN, .ref aM])), (aC, .inl (cJ, 32, .inr (.inl co2))), (aR, .inl (cJ, 32, .inr (.inl ro2)))] H → va_D A [(oP, .inr (2, [.ref aG, .long bc, .long br, .ref aF, .ref aE, .ref aC, .ref aR, .ref aN, .ref aM])), (aC, .inl (cJ, 32, .inr (.inl co2))), (aR, .inl (cJ, 32, .inr (.inl ro2)))] → va_S A s.heap H locs → W p l e R s m args below meth c H locs 0 0 Q (F0 m pc ls [])) : W p l e R s m args below meth c s.heap [] 0 0 Q (F0 m 0 ls []) := by
  generalize hHe : s.heap = H at hP ⊢
  have hS : va_S A s.heap H [] := by rw [← hHe]; exact va_S.rf
  clear hHe
  refine lv_iconst (v := 0) hx hb dX2_begin_0 (by decide) ?_
  refine lv_istore_n (lv' := [(1, .int 0), (0, .ref oP)]) hx hb dX2_begin_1 rfl hl (by decide) rfl (fun ls hl => ?_)
  have LOOP_2 : ∀ (fu : Nat) (k : Nat) (cf : Nat → Int64) (rf : Nat → Int64) (H : Heap) (locs : List Loc) (ls : Array Slot), (k ≤ 32 + 2) → 32 + 2 - k < fu → va_P D vwCl [(oP, .inr (2, [.ref aG, .long bc, .long br, .ref aF, .ref aE, .ref aC, .ref aR, .ref aN, .ref aM])), (aC, .inl (cJ, 32, .inr (.inl cf))), (aR, .inl (cJ, 32, .inr (.inl rf)))] H → va_D A [(oP, .inr (2, [.ref aG, .long bc, .long br, .ref aF, .ref aE, .ref aC, .ref aR, .ref aN, .ref aM])), (aC, .inl (cJ, 32, .inr (.inl cf))), (aR, .inl (cJ, 32, .inr (.inl rf)))] → va_S A s.heap H locs → lv_has ls 2 [(1, .int (nI k)), (0, .ref oP)] → W p l e R s m args below meth c H locs 0 0 Q (F0 m 2 ls []) := by
    intro fu
    induction fu with
    | zero => intro k cf rf H locs ls hk hn; exact absurd hn (Nat.not_lt_zero _)
    | succ fu ih_2 =>
      intro k cf rf H locs ls hk hn hP hD hS hl
      refine lv_iload_n hx hb dX2_begin_2 rfl (lv_at hl 0 rfl) ?_
      refine lv_bipush (v := 32) hx hb dX2_begin_3 (by decide) ?_
      refine lv_icmp_ge (tgt := 30) hx hb dX2_begin_5 (by decide) (fun c_5 => ?_) (fun c_5 => ?_)
      · skip
        refine lv_aload_n hx hb dX2_begin_30 rfl (lv_at hl 1 rfl) ?_
        refine va_get (D := D) (ci := 2) (v := .ref aC) (C := RX2) (T := TX2) (N := 9) hx hb htb ml_X2 hown hK hP 0 rfl rfl 5 (by decide) (htb _ mf_X2_28) (fun _ h9 => h9) rfl dX2_begin_31 ?_
        refine lv_iconst (v := 0) hx hb dX2_begin_34 (by decide) ?_
        refine lv_lconst (v := 0) hx hb dX2_begin_35 (by decide) ?_
        refine va_last (D := D) hx hb hK hP hD hS 1 1 rfl rfl (vp_in_iff.mpr (by decide)) dX2_begin_36 (fun H locs hP hD hS => ?_)
        have hP : va_P D vwCl [(oP, .inr (2, [.ref aG, .long bc, .long br, .ref aF, .ref aE, .ref aC, .ref aR, .ref aN, .ref aM])), (aC, .inl (cJ, 32, .inr (.inl (vp_updL cf (0 : Int32).toNatClampNeg 0)))), (aR, .inl (cJ, 32, .inr (.inl rf)))] H := hP
        have hD : va_D A [(oP, .inr (2, [.ref aG, .long bc, .long br, .ref aF, .ref aE, .ref aC, .ref aR, .ref aN, .ref aM])), (aC, .inl (cJ, 32, .inr (.inl (vp_updL cf (0 : Int32).toNatClampNeg 0)))), (aR, .inl (cJ, 32, .inr (.inl rf)))] := hD
        obtain ⟨f_36, e_f_36⟩ : ∃ g, g = (vp_updL cf (0 : Int32).toNatClampNeg 0) := ⟨_, rfl⟩
        rw [← e_f_36] at hP hD
        have hP : va_P D vwCl [(oP, .inr (2, [.ref aG, .long bc, .long br, .ref aF, .ref aE, .ref aC, .ref aR, .ref aN, .ref aM])), (aC, .inl (cJ, 32, .inr (.inl f_36))), (aR, .inl (cJ, 32, .inr (.inl rf)))] H := hP
        have hD : va_D A [(oP, .inr (2, [.ref aG, .long bc, .long br, .ref aF, .ref aE, .ref aC, .ref aR, .ref aN, .ref aM])), (aC, .inl (cJ, 32, .inr (.inl f_36))), (aR, .inl (cJ, 32, .inr (.inl rf)))] := hD
        exact hret f_36 rf _ _ _ _ dX2_begin_37 (trivial) hP hD hS
      · skip
        refine lv_aload_n hx hb dX2_begin_8 rfl (lv_at hl 1 rfl) ?_
        refine va_get (D := D) (ci := 2) (v := .ref aC) (C := RX2) (T := TX2) (N := 9) hx hb htb ml_X2 hown hK hP 0 rfl rfl 5 (by decide) (htb _ mf_X2_28) (fun _ h9 => h9) rfl dX2_begin_9 ?_
        refine lv_iload_n hx hb dX2_begin_12 rfl (lv_at hl 0 rfl) ?_
        refine lv_ldc2 (v := 1152921504606846976) hx hb hown (htb _ mk_X2_74) dX2_begin_13 ?_
        refine va_last (D := D) hx hb hK hP hD hS 1 1 rfl rfl (vp_lt (lk_go (N := 32) rfl (by decide) hk c_5) (by decide) (by decide)) dX2_begin_16 (fun H locs hP hD hS => ?_)
        have hP : va_P D vwCl [(oP, .inr (2, [.ref aG, .long bc, .long br, .ref aF, .ref aE, .ref aC, .ref aR, .ref aN, .ref aM])), (aC, .inl (cJ, 32, .inr (.inl (vp_updL cf (nI k).toNatClampNeg 1152921504606846976)))), (aR, .inl (cJ, 32, .inr (.inl rf)))] H := hP
        have hD : va_D A [(oP, .inr (2, [.ref aG, .long bc, .long br, .ref aF, .ref aE, .ref aC, .ref aR, .ref aN, .ref aM])), (aC, .inl (cJ, 32, .inr (.inl (vp_updL cf (nI k).toNatClampNeg 1152921504606846976)))), (aR, .inl (cJ, 32, .inr (.inl rf)))] := hD
        obtain ⟨f_16, e_f_16⟩ : ∃ g, g = (vp_updL cf (nI k).toNatClampNeg 1152921504606846976) := ⟨_, rfl⟩
        rw [← e_f_16] at hP hD
        have hP : va_P D vwCl [(oP, .inr (2, [.ref aG, .long bc, .long br, .ref aF, .ref aE, .ref aC, .ref aR, .ref aN, .ref aM])), (aC, .inl (cJ, 32, .inr (.inl f_16))), (aR, .inl (cJ, 32, .inr (.inl rf)))] H := hP
        have hD : va_D A [(oP, .inr (2, [.ref aG, .long bc, .long br, .ref aF, .ref aE, .ref aC, .ref aR, .ref aN, .ref aM])), (aC, .inl (cJ, 32, .inr (.inl f_16))), (aR, .inl (cJ, 32, .inr (.inl rf)))] := hD
        refine lv_aload_n hx hb dX2_begin_17 rfl (lv_at hl 1 rfl) ?_
        refine va_get (D := D) (ci := 2) (v := .ref aR) (C := RX2) (T := TX2) (N := 9) hx hb htb ml_X2 hown hK hP 0 rfl rfl 6 (by decide) (htb _ mf_X2_32) (fun _ h9 => h9) rfl dX2_begin_18 ?_
        refine lv_iload_n hx hb dX2_begin_21 rfl (lv_at hl 0 rfl) ?_
        refine lv_lconst (v := 0) hx hb dX2_begin_22 (by decide) ?_
        refine va_last (D := D) hx hb hK hP hD hS 2 1 rfl rfl (vp_lt (lk_go (N := 32) rfl (by decide) hk c_5) (by decide) (by decide)) dX2_begin_23 (fun H locs hP hD hS => ?_)
        have hP : va_P D vwCl [(oP, .inr (2, [.ref aG, .long bc, .long br, .ref aF, .ref aE, .ref aC, .ref aR, .ref aN, .ref aM])), (aC, .inl (cJ, 32, .inr (.inl f_16))), (aR, .inl (cJ, 32, .inr (.inl (vp_updL rf (nI k).toNatClampNeg 0))))] H := hP
        have hD : va_D A [(oP, .inr (2, [.ref aG, .long bc, .long br, .ref aF, .ref aE, .ref aC, .ref aR, .ref aN, .ref aM])), (aC, .inl (cJ, 32, .inr (.inl f_16))), (aR, .inl (cJ, 32, .inr (.inl (vp_updL rf (nI k).toNatClampNeg 0))))] := hD
        obtain ⟨f_23, e_f_23⟩ : ∃ g, g = (vp_updL rf (nI k).toNatClampNeg 0) := ⟨_, rfl⟩
        rw [← e_f_23] at hP hD
        have hP : va_P D vwCl [(oP, .inr (2, [.ref aG, .long bc, .long br, .ref aF, .ref aE, .ref aC, .ref aR, .ref aN, .ref aM])), (aC, .inl (cJ, 32, .inr (.inl f_16))), (aR, .inl (cJ, 32, .inr (.inl f_23)))] H := hP
        have hD : va_D A [(oP, .inr (2, [.ref aG, .long bc, .long br, .ref aF, .ref aE, .ref aC, .ref aR, .ref aN, .ref aM])), (aC, .inl (cJ, 32, .inr (.inl f_16))), (aR, .inl (cJ, 32, .inr (.inl f_23)))] := hD
        refine lv_iinc (v := nI (k + 1)) (lv' := [(1, .int (nI (k + 1))), (0, .ref oP)]) hx hb dX2_begin_24 hl (k := 0) rfl (nI_s k) (by decide) rfl (fun ls hl => ?_)
        refine lv_goto (tgt := 2) hx hb dX2_begin_27 (by decide) ?_
        exact ih_2 (k + 1) f_16 f_23 _ _ _ (by have := lk_go (N := 32) rfl (by decide) hk c_5; omega) (by have := lk_go (N := 32) rfl (by decide) hk c_5; omega) hP hD hS (lv_sub hl [0, 1] rfl)
  exact LOOP_2 _ 0 co ro _ _ _ (by decide) (Nat.lt_succ_self _) hP hD hS (lv_sub hl [0, 1] rfl)
set_option maxHeartbeats 4000000 in
set_option maxRecDepth 100000 in
theorem c_X2_begin (l : Launch) (D : va_G) (cI cJ : ClassId) (oP : Nat) (aG : Nat) (aF : Nat) (aE : Nat) (aC : Nat) (aR : Nat) (aN : Nat) (aM : Nat) (bc : Int64) (br : Int64) (co : Nat → Int64) (ro : Nat → Int64) (sz : Nat)  : Met l yX2_begin (Cond.code yX2_begin cX2_begin 2 none :: BIG) ({ frames := 0, cells := 0, slots := 0, locals := 0 }) (va_Pc [.ref oP] (pr_W D cI cJ [(oP, .inr (2, [.ref aG, .long bc, .long br, .ref aF, .ref aE, .ref aC, .ref aR, .ref aN, .ref aM])), (aC, .inl (cJ, 32, .inr (.inl co))), (aR, .inl (cJ, 32, .inr (.inl ro)))] sz)) (va_Qv (fun (_ : Unit) => True) (fun (_ : Unit) (t : State) => ∃ (co2 : Nat → Int64) (ro2 : Nat → Int64), (True) ∧ va_P D vwCl [(oP, .inr (2, [.ref aG, .long bc, .long br, .ref aF, .ref aE, .ref aC, .ref aR, .ref aN, .ref aM])), (aC, .inl (cJ, 32, .inr (.inl co2))), (aR, .inl (cJ, 32, .inr (.inl ro2)))] t.heap ∧ va_D (va_A [(oP, .inr (2, [.ref aG, .long bc, .long br, .ref aF, .ref aE, .ref aC, .ref aR, .ref aN, .ref aM])), (aC, .inl (cJ, 32, .inr (.inl co))), (aR, .inl (cJ, 32, .inr (.inl ro)))] sz) [(oP, .inr (2, [.ref aG, .long bc, .long br, .ref aF, .ref aE, .ref aC, .ref aR, .ref aN, .ref aM])), (aC, .inl (cJ, 32, .inr (.inl co2))), (aR, .inl (cJ, 32, .inr (.inl ro2)))]) (va_A [(oP, .inr (2, [.ref aG, .long bc, .long br, .ref aF, .ref aE, .ref aC, .ref aR, .ref aN, .ref aM])), (aC, .inl (cJ, 32, .inr (.inl co))), (aR, .inl (cJ, 32, .inr (.inl ro)))] sz)) 0 0 (va_A [(oP, .inr (2, [.ref aG, .long bc, .long br, .ref aF, .ref aE, .ref aC, .ref aR, .ref aN, .ref aM])), (aC, .inl (cJ, 32, .inr (.inl co))), (aR, .inl (cJ, 32, .inr (.inl ro)))] sz) := by
  refine Met.ofW (cc := cX2_begin) (maxL := 2) (ret := none) (by decide) rfl ?_
  intro p e s m args below meth c s₁ B hml hv
  obtain ⟨rfl, hsz, hP, hK, hN, hD0⟩ := hv
  have hl := lv_entry ([.ref oP]) (n := 2) (Nat.le_of_ble_eq_true rfl)
  rw [lg_entry_eq]
  subst hsz
  generalize (lg_sl ([.ref oP]) ++ List.replicate (2 - (lg_sl ([.ref oP])).length) Slot.unset).toArray = ls at hl ⊢
  exact b_X2_begin (A := va_A [(oP, .inr (2, [.ref aG, .long bc, .long br, .ref aF, .ref aE, .ref aC, .ref aR, .ref aN, .ref aM])), (aC, .inl (cJ, 32, .inr (.inl co))), (aR, .inl (cJ, 32, .inr (.inl ro)))] s.heap.size) D cI cJ oP aG aF aE aC aR aN aM bc br co ro  B.exec B.bytes hml (findClass_of_methodNamed B.named) (fun w h => atoms_spec B.pre w (List.mem_cons_of_mem _ h)) (Nat.le_of_ble_eq_true rfl) (Nat.le_of_ble_eq_true rfl) hK hN (fun q h => Or.inr h) hP (hD0.self (sz := s.heap.size)) hl (fun co2 ro2 H locs pc ls hdg hpost hP hD hS => W.vret B.exec B.bytes B.returns (fun t ht hW => ⟨⟨(), rfl, trivial, co2, ro2, hpost, by rw [ht]; exact hP, hD⟩, hS.F ht⟩) hS.2.2 hdg B.notSynchronized)
theorem mt_X2_dueSample : mt_ok yX2_dueSample RX2 cX2_dueSample 9 (some .int) 4 := ⟨mc_yX2_dueSample, mn_X2, rfl, by decide +kernel⟩
set_option maxHeartbeats 4000000 in
set_option maxRecDepth 100000 in
theorem b_X2_dueSample {p : Program} {l : Launch} {e : Env} {R : Room} {s : State} {m : MethodId} {args : Array Value} {below : List Frame} {meth : Method} {c : Code} {Q : State → Prop} {A : Nat → Prop} (D : va_G) (cI cJ : ClassId) (oP : Nat) (aG : Nat) (aF : Nat) (aE : Nat) (aC : Nat) (aR : Nat) (aN : Nat) (aM : Nat) (bc : Int64) (br : Int64) (gu : Nat → Int32) (oS : Nat) (ms : Int64) (mx : Int64) (n : Int32) (mk : Int32) (g : Int32) (h : Int32) (st : Int32) (cn : Int32) (cs : Int32) (t_ : Int32) (wi : Int32) (v : Int32)  {ls : Array Slot} (hx : p.tables.exec = Jvm.exec) (hb : c.code = cX2_dueSample) (hml : c.maxLocals = 9) (hown : s.vm.findClass RX2 = some m.cls) (htb : ∀ w ∈ BIG, w.before args s = true) (hRf : 3 ≤ R.frames) (hRl : 66 ≤ R.locals) (hK : va_K D vwCl [(cI, .int), (cJ, .long)] s) (hN : nw s) (hA : ∀ q, s.heap.size ≤ q → A q) (hP : va_P D vwCl [(oP, .inr (2, [.ref aG, .long bc, .long br, .ref aF, .ref aE, .ref aC, .ref aR, .ref aN, .ref aM])), (aG, .inl (cI, 4, .inl gu)), (oS, .inr (3, [.long ms, .long mx, .int n, .int mk, .int g, .int h, .int st, .int cn, .int cs]))] s.heap) (hl : lv_has ls 9 [(0, .ref oP), (1, .ref oS), (2, .int t_), (3, .int wi), (4, .int v)])
    (hret : ∀ (r : Int32)  (H : Heap) (locs : List Loc) (pc : Nat) (ls : Array Slot), decode cX2_dueSample pc = .ok (.ireturn, 1) → (True) → va_S A s.heap H locs → W p l e R s m args below meth c H locs 0 0 Q (F0 m pc ls [.int r])) : W p l e R s m args below meth c s.heap [] 0 0 Q (F0 m 0 ls []) := by
  generalize hHe : s.heap = H at hP ⊢
  have hS : va_S A s.heap H [] := by rw [← hHe]; exact va_S.rf
  clear hHe
  refine lv_iconst (v := 0) hx hb dX2_dueSample_0 (by decide) ?_
  refine lv_istore (lv' := [(5, .int 0), (0, .ref oP), (1, .ref oS), (2, .int t_), (3, .int wi), (4, .int v)]) hx hb dX2_dueSample_1 hl (by decide) rfl (fun ls hl => ?_)
  refine lv_iconst (v := 0) hx hb dX2_dueSample_3 (by decide) ?_
  refine lv_istore (lv' := [(6, .int 0), (5, .int 0), (0, .ref oP), (1, .ref oS), (2, .int t_), (3, .int wi), (4, .int v)]) hx hb dX2_dueSample_4 hl (by decide) rfl (fun ls hl => ?_)
  have LOOP_6 : ∀ (fu : Nat) (k : Nat) (su : Int32) (H : Heap) (locs : List Loc) (ls : Array Slot), (k ≤ 4 + 2) → 4 + 2 - k < fu → va_P D vwCl [(oP, .inr (2, [.ref aG, .long bc, .long br, .ref aF, .ref aE, .ref aC, .ref aR, .ref aN, .ref aM])), (aG, .inl (cI, 4, .inl gu)), (oS, .inr (3, [.long ms, .long mx, .int n, .int mk, .int g, .int h, .int st, .int cn, .int cs]))] H → va_S A s.heap H locs → lv_has ls 9 [(6, .int (nI k)), (5, .int su), (0, .ref oP), (1, .ref oS), (2, .int t_), (3, .int wi), (4, .int v)] → W p l e R s m args below meth c H locs 0 0 Q (F0 m 6 ls []) := by
    intro fu
    induction fu with
    | zero => intro k su H locs ls hk hn; exact absurd hn (Nat.not_lt_zero _)
    | succ fu ih_6 =>
      intro k su H locs ls hk hn hP hS hl
      refine lv_iload hx hb dX2_dueSample_6 (lv_at hl 0 rfl) ?_
      refine lv_aload_n hx hb dX2_dueSample_8 rfl (lv_at hl 2 rfl) ?_
      refine va_get (D := D) (ci := 2) (v := .ref aG) (C := RX2) (T := TX2) (N := 9) hx hb htb ml_X2 hown hK hP 0 rfl rfl 0 (by decide) (htb _ mf_X2_9) (fun _ h9 => h9) rfl dX2_dueSample_9 ?_
      refine va_alen (D := D) hx hb hK hP 1 0 rfl rfl (v := 4) rfl dX2_dueSample_12 ?_
      refine lv_icmp_ge (tgt := 87) hx hb dX2_dueSample_13 (by decide) (fun c_13 => ?_) (fun c_13 => ?_)
      · skip
        refine lv_iload hx hb dX2_dueSample_87 (lv_at hl 1 rfl) ?_
        exact hret su _ _ _ _ dX2_dueSample_89 (trivial) hS
      · skip
        refine lv_iload hx hb dX2_dueSample_16 (lv_at hl 6 rfl) ?_
        refine lv_iload hx hb dX2_dueSample_18 (lv_at hl 0 rfl) ?_
        refine lv_isub hx hb dX2_dueSample_20 ?_
        refine lv_istore (lv' := [(7, .int (v - nI k)), (6, .int (nI k)), (5, .int su), (0, .ref oP), (1, .ref oS), (2, .int t_), (3, .int wi), (4, .int v)]) hx hb dX2_dueSample_21 hl (by decide) rfl (fun ls hl => ?_)
        refine lv_iload hx hb dX2_dueSample_23 (lv_at hl 0 rfl) ?_
        refine lv_if_ge (tgt := 47) hx hb dX2_dueSample_25 (by decide) (fun c_25 => ?_) (fun c_25 => ?_)
        · skip
          refine lv_aload_n hx hb dX2_dueSample_47 rfl (lv_at hl 4 rfl) ?_
          refine lv_iload_n hx hb dX2_dueSample_48 rfl (lv_at hl 6 rfl) ?_
          refine lv_iload_n hx hb dX2_dueSample_49 rfl (lv_at hl 5 rfl) ?_
          refine lv_iload hx hb dX2_dueSample_50 (lv_at hl 0 rfl) ?_
          refine lv_iconst (v := 2) hx hb dX2_dueSample_52 (by decide) ?_
          refine lv_idiv hx hb dX2_dueSample_53 (by decide) ?_
          refine lv_isub hx hb dX2_dueSample_54 ?_
          refine lv_ishr hx hb dX2_dueSample_55 ?_
          refine lv_i2l hx hb dX2_dueSample_56 rfl ?_
          refine lv_iload hx hb dX2_dueSample_57 (lv_at hl 0 rfl) ?_
          refine lv_iconst (v := 2) hx hb dX2_dueSample_59 (by decide) ?_
          refine lv_irem hx hb dX2_dueSample_60 (by decide) ?_
          refine va_calli (va_runV (As := [.long ((wi >>> ((t_ - ((v - nI k) / 2)) &&& 31)).toInt64), .int ((v - nI k) - (v - nI k) / 2 * 2)]) (rest := []) ⟨hx, hb, hml, hown, htb⟩ (c_X3_codeVoice l D cI cJ oS ms mx n mk g h st cn cs ((wi >>> ((t_ - ((v - nI k) / 2)) &&& 31)).toInt64) ((v - nI k) - (v - nI k) / 2 * 2) H.size ) (cb_V htb mt_X3_codeVoice mi_yX3_codeVoice mx_yX3_codeVoice mm_X2_86 ⟨Nat.le_trans (Nat.le_of_ble_eq_true rfl) hRf, Nat.le_trans (Nat.le_of_ble_eq_true rfl) hRl⟩) ⟨bl_R, va_recv hK hP (ci := 3) (q0 := 2) rfl rfl, pre_R (hP.sub (ws' := [(oS, .inr (3, [.long ms, .long mx, .int n, .int mk, .int g, .int h, .int st, .int cn, .int cs]))]) [2] rfl) hK hN⟩ rfl rfl hl.1 rfl (lv_room (Nat.le_of_ble_eq_true rfl)) dX2_dueSample_61 ⟨Nat.zero_le _, Nat.zero_le _⟩) hS ro_A (ro_F hS hA) (fun r_61 u t H1 locs ht hvm hu hB hz1 hk1 hS => ?_)
          have hu2 := hu.symm; subst hu2
          replace hP := ro_P hP hk1
          clear hk1 hz1 hvm ht
          generalize H1 = H at hP hS ⊢
          have hP : va_P D vwCl [(oP, .inr (2, [.ref aG, .long bc, .long br, .ref aF, .ref aE, .ref aC, .ref aR, .ref aN, .ref aM])), (aG, .inl (cI, 4, .inl gu)), (oS, .inr (3, [.long ms, .long mx, .int n, .int mk, .int g, .int h, .int st, .int cn, .int cs]))] H := hP
          obtain rfl : r_61 = c_cv g h st ((wi >>> ((t_ - ((v - nI k) / 2)) &&& 31)).toInt64) ((v - nI k) - (v - nI k) / 2 * 2) := hB
          refine lv_topi (fun r_61 e_r_61 => ?_)
          refine lv_istore (lv' := [(8, .int r_61), (7, .int (v - nI k)), (6, .int (nI k)), (5, .int su), (0, .ref oP), (1, .ref oS), (2, .int t_), (3, .int wi), (4, .int v)]) hx hb dX2_dueSample_64 hl (by decide) rfl (fun ls hl => ?_)
          refine lv_iload hx hb dX2_dueSample_66 (lv_at hl 3 rfl) ?_
          refine lv_aload_n hx hb dX2_dueSample_68 rfl (lv_at hl 4 rfl) ?_
          refine va_get (D := D) (ci := 2) (v := .ref aG) (C := RX2) (T := TX2) (N := 9) hx hb htb ml_X2 hown hK hP 0 rfl rfl 0 (by decide) (htb _ mf_X2_9) (fun _ h9 => h9) rfl dX2_dueSample_69 ?_
          refine lv_iload hx hb dX2_dueSample_72 (lv_at hl 2 rfl) ?_
          refine va_iald (D := D) hx hb hK hP 1 0 rfl rfl (vp_lt (lk_go (N := 4) rfl (by decide) hk c_13) (by decide) (by decide)) dX2_dueSample_74 ?_
          refine lv_iload hx hb dX2_dueSample_75 (lv_at hl 0 rfl) ?_
          refine lv_imul hx hb dX2_dueSample_77 ?_
          refine lv_iadd hx hb dX2_dueSample_78 ?_
          refine lv_istore (lv' := [(5, .int (su + ((gu (nI k).toNatClampNeg) * r_61))), (8, .int r_61), (7, .int (v - nI k)), (6, .int (nI k)), (0, .ref oP), (1, .ref oS), (2, .int t_), (3, .int wi), (4, .int v)]) hx hb dX2_dueSample_79 hl (by decide) rfl (fun ls hl => ?_)
          refine lv_iinc (v := nI (k + 1)) (lv' := [(6, .int (nI (k + 1))), (5, .int (su + ((gu (nI k).toNatClampNeg) * r_61))), (8, .int r_61), (7, .int (v - nI k)), (0, .ref oP), (1, .ref oS), (2, .int t_), (3, .int wi), (4, .int v)]) hx hb dX2_dueSample_81 hl (k := 3) rfl (nI_s k) (by decide) rfl (fun ls hl => ?_)
          refine lv_goto (tgt := 6) hx hb dX2_dueSample_84 (by decide) ?_
          exact ih_6 (k + 1) (su + ((gu (nI k).toNatClampNeg) * r_61)) _ _ _ (by have := lk_go (N := 4) rfl (by decide) hk c_13; omega) (by have := lk_go (N := 4) rfl (by decide) hk c_13; omega) hP hS (lv_sub hl [0, 1, 4, 5, 6, 7, 8] rfl)
        · skip
          refine lv_aload_n hx hb dX2_dueSample_28 rfl (lv_at hl 4 rfl) ?_
          refine lv_aload_n hx hb dX2_dueSample_29 rfl (lv_at hl 4 rfl) ?_
          refine va_get (D := D) (ci := 3) (v := .int cn) (C := RX3) (T := TX3) (N := 9) hx hb htb ml_X3 hown hK hP 2 rfl rfl 7 (by decide) (htb _ mf_X2_44) (fun _ h9 => h9) rfl dX2_dueSample_30 ?_
          refine lv_iload hx hb dX2_dueSample_33 (lv_at hl 0 rfl) ?_
          refine lv_iadd hx hb dX2_dueSample_35 ?_
          refine va_calli (va_runV (As := [.int (cn + (v - nI k))]) (rest := []) ⟨hx, hb, hml, hown, htb⟩ (c_X3_sign l D cI cJ oS ms mx n mk g h st cn cs (cn + (v - nI k)) H.size ) (cb_V htb mt_X3_sign mi_yX3_sign mx_yX3_sign mm_X2_80 ⟨Nat.le_trans (Nat.le_of_ble_eq_true rfl) hRf, Nat.le_trans (Nat.le_of_ble_eq_true rfl) hRl⟩) ⟨bl_R, va_recv hK hP (ci := 3) (q0 := 2) rfl rfl, pre_R (hP.sub (ws' := [(oS, .inr (3, [.long ms, .long mx, .int n, .int mk, .int g, .int h, .int st, .int cn, .int cs]))]) [2] rfl) hK hN⟩ rfl rfl hl.1 rfl (lv_room (Nat.le_of_ble_eq_true rfl)) dX2_dueSample_36 ⟨Nat.zero_le _, Nat.zero_le _⟩) hS ro_A (ro_F hS hA) (fun r_36 u t H1 locs ht hvm hu hB hz1 hk1 hS => ?_)
          have hu2 := hu.symm; subst hu2
          replace hP := ro_P hP hk1
          clear hk1 hz1 hvm ht
          generalize H1 = H at hP hS ⊢
          have hP : va_P D vwCl [(oP, .inr (2, [.ref aG, .long bc, .long br, .ref aF, .ref aE, .ref aC, .ref aR, .ref aN, .ref aM])), (aG, .inl (cI, 4, .inl gu)), (oS, .inr (3, [.long ms, .long mx, .int n, .int mk, .int g, .int h, .int st, .int cn, .int cs]))] H := hP
          obtain rfl : r_36 = c_sign cn cs (cn + (v - nI k)) := hB
          refine lv_aload_n hx hb dX2_dueSample_39 rfl (lv_at hl 4 rfl) ?_
          refine va_get (D := D) (ci := 3) (v := .int st) (C := RX3) (T := TX3) (N := 9) hx hb htb ml_X3 hown hK hP 2 rfl rfl 6 (by decide) (htb _ mf_X2_83) (fun _ h9 => h9) rfl dX2_dueSample_40 ?_
          refine lv_imul hx hb dX2_dueSample_43 ?_
          refine lv_goto (tgt := 64) hx hb dX2_dueSample_44 (by decide) ?_
          refine lv_istore (lv' := [(8, .int ((c_sign cn cs (cn + (v - nI k))) * st)), (7, .int (v - nI k)), (6, .int (nI k)), (5, .int su), (0, .ref oP), (1, .ref oS), (2, .int t_), (3, .int wi), (4, .int v)]) hx hb dX2_dueSample_64 hl (by decide) rfl (fun ls hl => ?_)
          refine lv_iload hx hb dX2_dueSample_66 (lv_at hl 3 rfl) ?_
          refine lv_aload_n hx hb dX2_dueSample_68 rfl (lv_at hl 4 rfl) ?_
          refine va_get (D := D) (ci := 2) (v := .ref aG) (C := RX2) (T := TX2) (N := 9) hx hb htb ml_X2 hown hK hP 0 rfl rfl 0 (by decide) (htb _ mf_X2_9) (fun _ h9 => h9) rfl dX2_dueSample_69 ?_
          refine lv_iload hx hb dX2_dueSample_72 (lv_at hl 2 rfl) ?_
          refine va_iald (D := D) hx hb hK hP 1 0 rfl rfl (vp_lt (lk_go (N := 4) rfl (by decide) hk c_13) (by decide) (by decide)) dX2_dueSample_74 ?_
          refine lv_iload hx hb dX2_dueSample_75 (lv_at hl 0 rfl) ?_
          refine lv_imul hx hb dX2_dueSample_77 ?_
          refine lv_iadd hx hb dX2_dueSample_78 ?_
          refine lv_topi (fun v_78 e_v_78 => ?_)
          refine lv_istore (lv' := [(5, .int v_78), (8, .int ((c_sign cn cs (cn + (v - nI k))) * st)), (7, .int (v - nI k)), (6, .int (nI k)), (0, .ref oP), (1, .ref oS), (2, .int t_), (3, .int wi), (4, .int v)]) hx hb dX2_dueSample_79 hl (by decide) rfl (fun ls hl => ?_)
          refine lv_iinc (v := nI (k + 1)) (lv' := [(6, .int (nI (k + 1))), (5, .int v_78), (8, .int ((c_sign cn cs (cn + (v - nI k))) * st)), (7, .int (v - nI k)), (0, .ref oP), (1, .ref oS), (2, .int t_), (3, .int wi), (4, .int v)]) hx hb dX2_dueSample_81 hl (k := 3) rfl (nI_s k) (by decide) rfl (fun ls hl => ?_)
          refine lv_goto (tgt := 6) hx hb dX2_dueSample_84 (by decide) ?_
          exact ih_6 (k + 1) v_78 _ _ _ (by have := lk_go (N := 4) rfl (by decide) hk c_13; omega) (by have := lk_go (N := 4) rfl (by decide) hk c_13; omega) hP hS (lv_sub hl [0, 1, 4, 5, 6, 7, 8] rfl)
  exact LOOP_6 _ 0 0 _ _ _ (by decide) (Nat.lt_succ_self _) hP hS (lv_sub hl [0, 1, 2, 3, 4, 5, 6] rfl)
set_option maxHeartbeats 4000000 in
set_option maxRecDepth 100000 in
theorem c_X2_dueSample (l : Launch) (D : va_G) (cI cJ : ClassId) (oP : Nat) (aG : Nat) (aF : Nat) (aE : Nat) (aC : Nat) (aR : Nat) (aN : Nat) (aM : Nat) (bc : Int64) (br : Int64) (gu : Nat → Int32) (oS : Nat) (ms : Int64) (mx : Int64) (n : Int32) (mk : Int32) (g : Int32) (h : Int32) (st : Int32) (cn : Int32) (cs : Int32) (t_ : Int32) (wi : Int32) (v : Int32) (sz : Nat)  : Met l yX2_dueSample (Cond.code yX2_dueSample cX2_dueSample 9 (some .int) :: BIG) ({ frames := 3, cells := 0, slots := 0, locals := 66 }) (va_Pc [.ref oP, .ref oS, .int t_, .int wi, .int v] (pr_R D cI cJ [(oP, .inr (2, [.ref aG, .long bc, .long br, .ref aF, .ref aE, .ref aC, .ref aR, .ref aN, .ref aM])), (aG, .inl (cI, 4, .inl gu)), (oS, .inr (3, [.long ms, .long mx, .int n, .int mk, .int g, .int h, .int st, .int cn, .int cs]))] sz)) (va_Qi (fun (r u : Int32) => u = r) (fun (u : Int32) (t : State) => True) (va_A [] sz)) 0 0 (va_A [] sz) := by
  refine Met.ofW (cc := cX2_dueSample) (maxL := 9) (ret := (some .int)) (by decide) rfl ?_
  intro p e s m args below meth c s₁ B hml hv
  obtain ⟨rfl, hsz, hP, hK, hN⟩ := hv
  have hl := lv_entry ([.ref oP, .ref oS, .int t_, .int wi, .int v]) (n := 9) (Nat.le_of_ble_eq_true rfl)
  rw [lg_entry_eq]
  subst hsz
  generalize (lg_sl ([.ref oP, .ref oS, .int t_, .int wi, .int v]) ++ List.replicate (9 - (lg_sl ([.ref oP, .ref oS, .int t_, .int wi, .int v])).length) Slot.unset).toArray = ls at hl ⊢
  exact b_X2_dueSample (A := va_A [] s.heap.size) D cI cJ oP aG aF aE aC aR aN aM bc br gu oS ms mx n mk g h st cn cs t_ wi v  B.exec B.bytes hml (findClass_of_methodNamed B.named) (fun w h => atoms_spec B.pre w (List.mem_cons_of_mem _ h)) (Nat.le_of_ble_eq_true rfl) (Nat.le_of_ble_eq_true rfl) hK hN (fun q h => Or.inr h) hP hl (fun r  H locs pc ls hdg hpost hS => W.iret B.exec B.bytes B.returns (fun t ht hW => ⟨⟨r, r, rfl, rfl, hpost⟩, hS.F ht⟩) hS.2.2 hdg B.notSynchronized)
theorem mt_X2_tabulate : mt_ok yX2_tabulate RX2 cX2_tabulate 4 none 2 := ⟨mc_yX2_tabulate, mn_X2, rfl, by decide +kernel⟩
set_option maxHeartbeats 4000000 in
set_option maxRecDepth 100000 in
theorem b_X2_tabulate {p : Program} {l : Launch} {e : Env} {R : Room} {s : State} {m : MethodId} {args : Array Value} {below : List Frame} {meth : Method} {c : Code} {Q : State → Prop} {A : Nat → Prop} (D : va_G) (cI cJ : ClassId) (oP : Nat) (aG : Nat) (aF : Nat) (aE : Nat) (aC : Nat) (aR : Nat) (aN : Nat) (aM : Nat) (bc : Int64) (br : Int64) (gu : Nat → Int32) (fd : Nat → Int32) (se : Nat → Int32) (oS : Nat) (ms : Int64) (mx : Int64) (n : Int32) (mk : Int32) (g : Int32) (h : Int32) (st : Int32) (cn : Int32) (cs : Int32) (t_ : Int32)  {ls : Array Slot} (hx : p.tables.exec = Jvm.exec) (hb : c.code = cX2_tabulate) (hml : c.maxLocals = 4) (hown : s.vm.findClass RX2 = some m.cls) (htb : ∀ w ∈ BIG, w.before args s = true) (hRf : 4 ≤ R.frames) (hRl : 94 ≤ R.locals) (hK : va_K D vwCl [(cI, .int), (cJ, .long)] s) (hN : nw s) (hA : ∀ q, s.heap.size ≤ q → A q) (hP : va_P D vwCl [(oP, .inr (2, [.ref aG, .long bc, .long br, .ref aF, .ref aE, .ref aC, .ref aR, .ref aN, .ref aM])), (aG, .inl (cI, 4, .inl gu)), (aF, .inl (cI, 64, .inl fd)), (aE, .inl (cI, 64, .inl se)), (oS, .inr (3, [.long ms, .long mx, .int n, .int mk, .int g, .int h, .int st, .int cn, .int cs]))] s.heap) (hD : va_D A [(oP, .inr (2, [.ref aG, .long bc, .long br, .ref aF, .ref aE, .ref aC, .ref aR, .ref aN, .ref aM])), (aG, .inl (cI, 4, .inl gu)), (aF, .inl (cI, 64, .inl fd)), (aE, .inl (cI, 64, .inl se)), (oS, .inr (3, [.long ms, .long mx, .int n, .int mk, .int g, .int h, .int st, .int cn, .int cs]))]) (hl : lv_has ls 4 [(0, .ref oP), (1, .ref oS), (2, .int t_)])
    (hret : ∀ (fd2 : Nat → Int32) (se2 : Nat → Int32) (H : Heap) (locs : List Loc) (pc : Nat) (ls : Array Slot), decode cX2_tabulate pc = .ok (.return_, 1) → (True) → va_P D vwCl [(oP, .inr (2, [.ref aG, .long bc, .long br, .ref aF, .ref aE, .ref aC, .ref aR, .ref aN, .ref aM])), (aG, .inl (cI, 4, .inl gu)), (aF, .inl (cI, 64, .inl fd2)), (aE, .inl (cI, 64, .inl se2)), (oS, .inr (3, [.long ms, .long mx, .int n, .int mk, .int g, .int h, .int st, .int cn, .int cs]))] H → va_D A [(oP, .inr (2, [.ref aG, .long bc, .long br, .ref aF, .ref aE, .ref aC, .ref aR, .ref aN, .ref aM])), (aG, .inl (cI, 4, .inl gu)), (aF, .inl (cI, 64, .inl fd2)), (aE, .inl (cI, 64, .inl se2)), (oS, .inr (3, [.long ms, .long mx, .int n, .int mk, .int g, .int h, .int st, .int cn, .int cs]))] → va_S A s.heap H locs → W p l e R s m args below meth c H locs 0 0 Q (F0 m pc ls [])) : W p l e R s m args below meth c s.heap [] 0 0 Q (F0 m 0 ls []) := by
  generalize hHe : s.heap = H at hP ⊢
  have hS : va_S A s.heap H [] := by rw [← hHe]; exact va_S.rf
  clear hHe
  refine lv_iconst (v := 0) hx hb dX2_tabulate_0 (by decide) ?_
  refine lv_istore_n (lv' := [(3, .int 0), (0, .ref oP), (1, .ref oS), (2, .int t_)]) hx hb dX2_tabulate_1 rfl hl (by decide) rfl (fun ls hl => ?_)
  have LOOP_2 : ∀ (fu : Nat) (k : Nat) (cf : Nat → Int32) (rf : Nat → Int32) (H : Heap) (locs : List Loc) (ls : Array Slot), (k ≤ 64 + 2) → 64 + 2 - k < fu → va_P D vwCl [(oP, .inr (2, [.ref aG, .long bc, .long br, .ref aF, .ref aE, .ref aC, .ref aR, .ref aN, .ref aM])), (aG, .inl (cI, 4, .inl gu)), (aF, .inl (cI, 64, .inl cf)), (aE, .inl (cI, 64, .inl rf)), (oS, .inr (3, [.long ms, .long mx, .int n, .int mk, .int g, .int h, .int st, .int cn, .int cs]))] H → va_D A [(oP, .inr (2, [.ref aG, .long bc, .long br, .ref aF, .ref aE, .ref aC, .ref aR, .ref aN, .ref aM])), (aG, .inl (cI, 4, .inl gu)), (aF, .inl (cI, 64, .inl cf)), (aE, .inl (cI, 64, .inl rf)), (oS, .inr (3, [.long ms, .long mx, .int n, .int mk, .int g, .int h, .int st, .int cn, .int cs]))] → va_S A s.heap H locs → lv_has ls 4 [(3, .int (nI k)), (0, .ref oP), (1, .ref oS), (2, .int t_)] → W p l e R s m args below meth c H locs 0 0 Q (F0 m 2 ls []) := by
    intro fu
    induction fu with
    | zero => intro k cf rf H locs ls hk hn; exact absurd hn (Nat.not_lt_zero _)
    | succ fu ih_2 =>
      intro k cf rf H locs ls hk hn hP hD hS hl
      refine lv_iload_n hx hb dX2_tabulate_2 rfl (lv_at hl 0 rfl) ?_
      refine lv_bipush (v := 64) hx hb dX2_tabulate_3 (by decide) ?_
      refine lv_icmp_ge (tgt := 48) hx hb dX2_tabulate_5 (by decide) (fun c_5 => ?_) (fun c_5 => ?_)
      · skip
        exact hret cf rf _ _ _ _ dX2_tabulate_48 (trivial) hP hD hS
      · skip
        refine lv_aload_n hx hb dX2_tabulate_8 rfl (lv_at hl 1 rfl) ?_
        refine va_get (D := D) (ci := 2) (v := .ref aF) (C := RX2) (T := TX2) (N := 9) hx hb htb ml_X2 hown hK hP 0 rfl rfl 3 (by decide) (htb _ mf_X2_22) (fun _ h9 => h9) rfl dX2_tabulate_9 ?_
        refine lv_iload_n hx hb dX2_tabulate_12 rfl (lv_at hl 0 rfl) ?_
        refine lv_aload_n hx hb dX2_tabulate_13 rfl (lv_at hl 1 rfl) ?_
        refine lv_aload_n hx hb dX2_tabulate_14 rfl (lv_at hl 2 rfl) ?_
        refine lv_iload_n hx hb dX2_tabulate_15 rfl (lv_at hl 3 rfl) ?_
        refine lv_iload_n hx hb dX2_tabulate_16 rfl (lv_at hl 0 rfl) ?_
        refine lv_iconst (v := 2) hx hb dX2_tabulate_17 (by decide) ?_
        refine lv_iload_n hx hb dX2_tabulate_18 rfl (lv_at hl 3 rfl) ?_
        refine lv_imul hx hb dX2_tabulate_19 ?_
        refine va_calli (va_runV (As := [.ref oS, .int t_, .int (nI k), .int (2 * t_)]) (rest := [.int (nI k), .ref aF]) ⟨hx, hb, hml, hown, htb⟩ (c_X2_dueSample l D cI cJ oP aG aF aE aC aR aN aM bc br gu oS ms mx n mk g h st cn cs t_ (nI k) (2 * t_) H.size ) (cb_V htb mt_X2_dueSample mi_yX2_dueSample mx_yX2_dueSample mm_X2_76 ⟨Nat.le_trans (Nat.le_of_ble_eq_true rfl) hRf, Nat.le_trans (Nat.le_of_ble_eq_true rfl) hRl⟩) ⟨bl_R, va_recv hK hP (ci := 2) (q0 := 0) rfl rfl, pre_R (hP.sub (ws' := [(oP, .inr (2, [.ref aG, .long bc, .long br, .ref aF, .ref aE, .ref aC, .ref aR, .ref aN, .ref aM])), (aG, .inl (cI, 4, .inl gu)), (oS, .inr (3, [.long ms, .long mx, .int n, .int mk, .int g, .int h, .int st, .int cn, .int cs]))]) [0, 1, 4] rfl) hK hN⟩ rfl rfl hl.1 rfl (lv_room (Nat.le_of_ble_eq_true rfl)) dX2_tabulate_20 ⟨Nat.zero_le _, Nat.zero_le _⟩) hS ro_A (ro_F hS hA) (fun r_20 u t H1 locs ht hvm hu hB hz1 hk1 hS => ?_)
        have hu2 := hu.symm; subst hu2
        replace hP := ro_P hP hk1
        clear hk1 hz1 hvm ht
        generalize H1 = H at hP hS ⊢
        have hP : va_P D vwCl [(oP, .inr (2, [.ref aG, .long bc, .long br, .ref aF, .ref aE, .ref aC, .ref aR, .ref aN, .ref aM])), (aG, .inl (cI, 4, .inl gu)), (aF, .inl (cI, 64, .inl cf)), (aE, .inl (cI, 64, .inl rf)), (oS, .inr (3, [.long ms, .long mx, .int n, .int mk, .int g, .int h, .int st, .int cn, .int cs]))] H := hP
        have h_20 := hB
        refine va_iast (D := D) hx hb hK hP hD hS 2 0 rfl rfl (vp_lt (lk_go (N := 64) rfl (by decide) hk c_5) (by decide) (by decide)) dX2_tabulate_23 (fun H locs hP hD hS => ?_)
        have hP : va_P D vwCl [(oP, .inr (2, [.ref aG, .long bc, .long br, .ref aF, .ref aE, .ref aC, .ref aR, .ref aN, .ref aM])), (aG, .inl (cI, 4, .inl gu)), (aF, .inl (cI, 64, .inl (upd cf (nI k).toNatClampNeg r_20))), (aE, .inl (cI, 64, .inl rf)), (oS, .inr (3, [.long ms, .long mx, .int n, .int mk, .int g, .int h, .int st, .int cn, .int cs]))] H := hP
        have hD : va_D A [(oP, .inr (2, [.ref aG, .long bc, .long br, .ref aF, .ref aE, .ref aC, .ref aR, .ref aN, .ref aM])), (aG, .inl (cI, 4, .inl gu)), (aF, .inl (cI, 64, .inl (upd cf (nI k).toNatClampNeg r_20))), (aE, .inl (cI, 64, .inl rf)), (oS, .inr (3, [.long ms, .long mx, .int n, .int mk, .int g, .int h, .int st, .int cn, .int cs]))] := hD
        obtain ⟨f_23, e_f_23⟩ : ∃ g, g = (upd cf (nI k).toNatClampNeg r_20) := ⟨_, rfl⟩
        rw [← e_f_23] at hP hD
        have hP : va_P D vwCl [(oP, .inr (2, [.ref aG, .long bc, .long br, .ref aF, .ref aE, .ref aC, .ref aR, .ref aN, .ref aM])), (aG, .inl (cI, 4, .inl gu)), (aF, .inl (cI, 64, .inl f_23)), (aE, .inl (cI, 64, .inl rf)), (oS, .inr (3, [.long ms, .long mx, .int n, .int mk, .int g, .int h, .int st, .int cn, .int cs]))] H := hP
        have hD : va_D A [(oP, .inr (2, [.ref aG, .long bc, .long br, .ref aF, .ref aE, .ref aC, .ref aR, .ref aN, .ref aM])), (aG, .inl (cI, 4, .inl gu)), (aF, .inl (cI, 64, .inl f_23)), (aE, .inl (cI, 64, .inl rf)), (oS, .inr (3, [.long ms, .long mx, .int n, .int mk, .int g, .int h, .int st, .int cn, .int cs]))] := hD
        refine lv_aload_n hx hb dX2_tabulate_24 rfl (lv_at hl 1 rfl) ?_
        refine va_get (D := D) (ci := 2) (v := .ref aE) (C := RX2) (T := TX2) (N := 9) hx hb htb ml_X2 hown hK hP 0 rfl rfl 4 (by decide) (htb _ mf_X2_25) (fun _ h9 => h9) rfl dX2_tabulate_25 ?_
        refine lv_iload_n hx hb dX2_tabulate_28 rfl (lv_at hl 0 rfl) ?_
        refine lv_aload_n hx hb dX2_tabulate_29 rfl (lv_at hl 1 rfl) ?_
        refine lv_aload_n hx hb dX2_tabulate_30 rfl (lv_at hl 2 rfl) ?_
        refine lv_iload_n hx hb dX2_tabulate_31 rfl (lv_at hl 3 rfl) ?_
        refine lv_iload_n hx hb dX2_tabulate_32 rfl (lv_at hl 0 rfl) ?_
        refine lv_iconst (v := 2) hx hb dX2_tabulate_33 (by decide) ?_
        refine lv_iload_n hx hb dX2_tabulate_34 rfl (lv_at hl 3 rfl) ?_
        refine lv_imul hx hb dX2_tabulate_35 ?_
        refine lv_iconst (v := 1) hx hb dX2_tabulate_36 (by decide) ?_
        refine lv_iadd hx hb dX2_tabulate_37 ?_
        refine va_calli (va_runV (As := [.ref oS, .int t_, .int (nI k), .int ((2 * t_) + 1)]) (rest := [.int (nI k), .ref aE]) ⟨hx, hb, hml, hown, htb⟩ (c_X2_dueSample l D cI cJ oP aG aF aE aC aR aN aM bc br gu oS ms mx n mk g h st cn cs t_ (nI k) ((2 * t_) + 1) H.size ) (cb_V htb mt_X2_dueSample mi_yX2_dueSample mx_yX2_dueSample mm_X2_76 ⟨Nat.le_trans (Nat.le_of_ble_eq_true rfl) hRf, Nat.le_trans (Nat.le_of_ble_eq_true rfl) hRl⟩) ⟨bl_R, va_recv hK hP (ci := 2) (q0 := 0) rfl rfl, pre_R (hP.sub (ws' := [(oP, .inr (2, [.ref aG, .long bc, .long br, .ref aF, .ref aE, .ref aC, .ref aR, .ref aN, .ref aM])), (aG, .inl (cI, 4, .inl gu)), (oS, .inr (3, [.long ms, .long mx, .int n, .int mk, .int g, .int h, .int st, .int cn, .int cs]))]) [0, 1, 4] rfl) hK hN⟩ rfl rfl hl.1 rfl (lv_room (Nat.le_of_ble_eq_true rfl)) dX2_tabulate_38 ⟨Nat.zero_le _, Nat.zero_le _⟩) hS ro_A (ro_F hS hA) (fun r_38 u t H1 locs ht hvm hu hB hz1 hk1 hS => ?_)
        have hu2 := hu.symm; subst hu2
        replace hP := ro_P hP hk1
        clear hk1 hz1 hvm ht
        generalize H1 = H at hP hS ⊢
        have hP : va_P D vwCl [(oP, .inr (2, [.ref aG, .long bc, .long br, .ref aF, .ref aE, .ref aC, .ref aR, .ref aN, .ref aM])), (aG, .inl (cI, 4, .inl gu)), (aF, .inl (cI, 64, .inl f_23)), (aE, .inl (cI, 64, .inl rf)), (oS, .inr (3, [.long ms, .long mx, .int n, .int mk, .int g, .int h, .int st, .int cn, .int cs]))] H := hP
        have h_38 := hB
        refine va_iast (D := D) hx hb hK hP hD hS 3 0 rfl rfl (vp_lt (lk_go (N := 64) rfl (by decide) hk c_5) (by decide) (by decide)) dX2_tabulate_41 (fun H locs hP hD hS => ?_)
        have hP : va_P D vwCl [(oP, .inr (2, [.ref aG, .long bc, .long br, .ref aF, .ref aE, .ref aC, .ref aR, .ref aN, .ref aM])), (aG, .inl (cI, 4, .inl gu)), (aF, .inl (cI, 64, .inl f_23)), (aE, .inl (cI, 64, .inl (upd rf (nI k).toNatClampNeg r_38))), (oS, .inr (3, [.long ms, .long mx, .int n, .int mk, .int g, .int h, .int st, .int cn, .int cs]))] H := hP
        have hD : va_D A [(oP, .inr (2, [.ref aG, .long bc, .long br, .ref aF, .ref aE, .ref aC, .ref aR, .ref aN, .ref aM])), (aG, .inl (cI, 4, .inl gu)), (aF, .inl (cI, 64, .inl f_23)), (aE, .inl (cI, 64, .inl (upd rf (nI k).toNatClampNeg r_38))), (oS, .inr (3, [.long ms, .long mx, .int n, .int mk, .int g, .int h, .int st, .int cn, .int cs]))] := hD
        obtain ⟨f_41, e_f_41⟩ : ∃ g, g = (upd rf (nI k).toNatClampNeg r_38) := ⟨_, rfl⟩
        rw [← e_f_41] at hP hD
        have hP : va_P D vwCl [(oP, .inr (2, [.ref aG, .long bc, .long br, .ref aF, .ref aE, .ref aC, .ref aR, .ref aN, .ref aM])), (aG, .inl (cI, 4, .inl gu)), (aF, .inl (cI, 64, .inl f_23)), (aE, .inl (cI, 64, .inl f_41)), (oS, .inr (3, [.long ms, .long mx, .int n, .int mk, .int g, .int h, .int st, .int cn, .int cs]))] H := hP
        have hD : va_D A [(oP, .inr (2, [.ref aG, .long bc, .long br, .ref aF, .ref aE, .ref aC, .ref aR, .ref aN, .ref aM])), (aG, .inl (cI, 4, .inl gu)), (aF, .inl (cI, 64, .inl f_23)), (aE, .inl (cI, 64, .inl f_41)), (oS, .inr (3, [.long ms, .long mx, .int n, .int mk, .int g, .int h, .int st, .int cn, .int cs]))] := hD
        refine lv_iinc (v := nI (k + 1)) (lv' := [(3, .int (nI (k + 1))), (0, .ref oP), (1, .ref oS), (2, .int t_)]) hx hb dX2_tabulate_42 hl (k := 0) rfl (nI_s k) (by decide) rfl (fun ls hl => ?_)
        refine lv_goto (tgt := 2) hx hb dX2_tabulate_45 (by decide) ?_
        exact ih_2 (k + 1) f_23 f_41 _ _ _ (by have := lk_go (N := 64) rfl (by decide) hk c_5; omega) (by have := lk_go (N := 64) rfl (by decide) hk c_5; omega) hP hD hS (lv_sub hl [0, 1, 2, 3] rfl)
  exact LOOP_2 _ 0 fd se _ _ _ (by decide) (Nat.lt_succ_self _) hP hD hS (lv_sub hl [0, 1, 2, 3] rfl)
set_option maxHeartbeats 4000000 in
set_option maxRecDepth 100000 in
theorem c_X2_tabulate (l : Launch) (D : va_G) (cI cJ : ClassId) (oP : Nat) (aG : Nat) (aF : Nat) (aE : Nat) (aC : Nat) (aR : Nat) (aN : Nat) (aM : Nat) (bc : Int64) (br : Int64) (gu : Nat → Int32) (fd : Nat → Int32) (se : Nat → Int32) (oS : Nat) (ms : Int64) (mx : Int64) (n : Int32) (mk : Int32) (g : Int32) (h : Int32) (st : Int32) (cn : Int32) (cs : Int32) (t_ : Int32) (sz : Nat)  : Met l yX2_tabulate (Cond.code yX2_tabulate cX2_tabulate 4 none :: BIG) ({ frames := 4, cells := 0, slots := 0, locals := 94 }) (va_Pc [.ref oP, .ref oS, .int t_] (pr_W D cI cJ [(oP, .inr (2, [.ref aG, .long bc, .long br, .ref aF, .ref aE, .ref aC, .ref aR, .ref aN, .ref aM])), (aG, .inl (cI, 4, .inl gu)), (aF, .inl (cI, 64, .inl fd)), (aE, .inl (cI, 64, .inl se)), (oS, .inr (3, [.long ms, .long mx, .int n, .int mk, .int g, .int h, .int st, .int cn, .int cs]))] sz)) (va_Qv (fun (_ : Unit) => True) (fun (_ : Unit) (t : State) => ∃ (fd2 : Nat → Int32) (se2 : Nat → Int32), (True) ∧ va_P D vwCl [(oP, .inr (2, [.ref aG, .long bc, .long br, .ref aF, .ref aE, .ref aC, .ref aR, .ref aN, .ref aM])), (aG, .inl (cI, 4, .inl gu)), (aF, .inl (cI, 64, .inl fd2)), (aE, .inl (cI, 64, .inl se2)), (oS, .inr (3, [.long ms, .long mx, .int n, .int mk, .int g, .int h, .int st, .int cn, .int cs]))] t.heap ∧ va_D (va_A [(oP, .inr (2, [.ref aG, .long bc, .long br, .ref aF, .ref aE, .ref aC, .ref aR, .ref aN, .ref aM])), (aG, .inl (cI, 4, .inl gu)), (aF, .inl (cI, 64, .inl fd)), (aE, .inl (cI, 64, .inl se)), (oS, .inr (3, [.long ms, .long mx, .int n, .int mk, .int g, .int h, .int st, .int cn, .int cs]))] sz) [(oP, .inr (2, [.ref aG, .long bc, .long br, .ref aF, .ref aE, .ref aC, .ref aR, .ref aN, .ref aM])), (aG, .inl (cI, 4, .inl gu)), (aF, .inl (cI, 64, .inl fd2)), (aE, .inl (cI, 64, .inl se2)), (oS, .inr (3, [.long ms, .long mx, .int n, .int mk, .int g, .int h, .int st, .int cn, .int cs]))]) (va_A [(oP, .inr (2, [.ref aG, .long bc, .long br, .ref aF, .ref aE, .ref aC, .ref aR, .ref aN, .ref aM])), (aG, .inl (cI, 4, .inl gu)), (aF, .inl (cI, 64, .inl fd)), (aE, .inl (cI, 64, .inl se)), (oS, .inr (3, [.long ms, .long mx, .int n, .int mk, .int g, .int h, .int st, .int cn, .int cs]))] sz)) 0 0 (va_A [(oP, .inr (2, [.ref aG, .long bc, .long br, .ref aF, .ref aE, .ref aC, .ref aR, .ref aN, .ref aM])), (aG, .inl (cI, 4, .inl gu)), (aF, .inl (cI, 64, .inl fd)), (aE, .inl (cI, 64, .inl se)), (oS, .inr (3, [.long ms, .long mx, .int n, .int mk, .int g, .int h, .int st, .int cn, .int cs]))] sz) := by
  refine Met.ofW (cc := cX2_tabulate) (maxL := 4) (ret := none) (by decide) rfl ?_
  intro p e s m args below meth c s₁ B hml hv
  obtain ⟨rfl, hsz, hP, hK, hN, hD0⟩ := hv
  have hl := lv_entry ([.ref oP, .ref oS, .int t_]) (n := 4) (Nat.le_of_ble_eq_true rfl)
  rw [lg_entry_eq]
  subst hsz
  generalize (lg_sl ([.ref oP, .ref oS, .int t_]) ++ List.replicate (4 - (lg_sl ([.ref oP, .ref oS, .int t_])).length) Slot.unset).toArray = ls at hl ⊢
  exact b_X2_tabulate (A := va_A [(oP, .inr (2, [.ref aG, .long bc, .long br, .ref aF, .ref aE, .ref aC, .ref aR, .ref aN, .ref aM])), (aG, .inl (cI, 4, .inl gu)), (aF, .inl (cI, 64, .inl fd)), (aE, .inl (cI, 64, .inl se)), (oS, .inr (3, [.long ms, .long mx, .int n, .int mk, .int g, .int h, .int st, .int cn, .int cs]))] s.heap.size) D cI cJ oP aG aF aE aC aR aN aM bc br gu fd se oS ms mx n mk g h st cn cs t_  B.exec B.bytes hml (findClass_of_methodNamed B.named) (fun w h => atoms_spec B.pre w (List.mem_cons_of_mem _ h)) (Nat.le_of_ble_eq_true rfl) (Nat.le_of_ble_eq_true rfl) hK hN (fun q h => Or.inr h) hP (hD0.self (sz := s.heap.size)) hl (fun fd2 se2 H locs pc ls hdg hpost hP hD hS => W.vret B.exec B.bytes B.returns (fun t ht hW => ⟨⟨(), rfl, trivial, fd2, se2, hpost, by rw [ht]; exact hP, hD⟩, hS.F ht⟩) hS.2.2 hdg B.notSynchronized)
theorem mt_X2_offer : mt_ok yX2_offer RX2 cX2_offer 6 none 3 := ⟨mc_yX2_offer, mn_X2, rfl, by decide +kernel⟩
set_option maxHeartbeats 4000000 in
set_option maxRecDepth 100000 in
theorem b_X2_offer {p : Program} {l : Launch} {e : Env} {R : Room} {s : State} {m : MethodId} {args : Array Value} {below : List Frame} {meth : Method} {c : Code} {Q : State → Prop} {A : Nat → Prop} (D : va_G) (cI cJ : ClassId) (oP : Nat) (aG : Nat) (aF : Nat) (aE : Nat) (aC : Nat) (aR : Nat) (aN : Nat) (aM : Nat) (bc : Int64) (br : Int64) (nc : Nat → Int64) (nr : Nat → Int64) (to : Int32) (cost : Int64) (row : Int64)  {ls : Array Slot} (hx : p.tables.exec = Jvm.exec) (hb : c.code = cX2_offer) (hml : c.maxLocals = 6) (hown : s.vm.findClass RX2 = some m.cls) (htb : ∀ w ∈ BIG, w.before args s = true) (hRf : 1 ≤ R.frames) (hRl : 22 ≤ R.locals) (hK : va_K D vwCl [(cI, .int), (cJ, .long)] s) (hN : nw s) (hA : ∀ q, s.heap.size ≤ q → A q) (hP : va_P D vwCl [(oP, .inr (2, [.ref aG, .long bc, .long br, .ref aF, .ref aE, .ref aC, .ref aR, .ref aN, .ref aM])), (aN, .inl (cJ, 32, .inr (.inl nc))), (aM, .inl (cJ, 32, .inr (.inl nr)))] s.heap) (hD : va_D A [(oP, .inr (2, [.ref aG, .long bc, .long br, .ref aF, .ref aE, .ref aC, .ref aR, .ref aN, .ref aM])), (aN, .inl (cJ, 32, .inr (.inl nc))), (aM, .inl (cJ, 32, .inr (.inl nr)))]) (hl : lv_has ls 6 [(0, .ref oP), (1, .int to), (2, .long cost), (4, .long row)])
    (hret : ∀ (nc2 : Nat → Int64) (nr2 : Nat → Int64) (H : Heap) (locs : List Loc) (pc : Nat) (ls : Array Slot), decode cX2_offer pc = .ok (.return_, 1) → (True) → va_P D vwCl [(oP, .inr (2, [.ref aG, .long bc, .long br, .ref aF, .ref aE, .ref aC, .ref aR, .ref aN, .ref aM])), (aN, .inl (cJ, 32, .inr (.inl nc2))), (aM, .inl (cJ, 32, .inr (.inl nr2)))] H → va_D A [(oP, .inr (2, [.ref aG, .long bc, .long br, .ref aF, .ref aE, .ref aC, .ref aR, .ref aN, .ref aM])), (aN, .inl (cJ, 32, .inr (.inl nc2))), (aM, .inl (cJ, 32, .inr (.inl nr2)))] → va_S A s.heap H locs → W p l e R s m args below meth c H locs 0 0 Q (F0 m pc ls [])) : W p l e R s m args below meth c s.heap [] 0 0 Q (F0 m 0 ls []) := by
  generalize hHe : s.heap = H at hP ⊢
  have hS : va_S A s.heap H [] := by rw [← hHe]; exact va_S.rf
  clear hHe
  refine lv_iload_n hx hb dX2_offer_0 rfl (lv_at hl 1 rfl) ?_
  refine lv_iconst (v := 0) hx hb dX2_offer_1 (by decide) ?_
  refine lv_bipush (v := 31) hx hb dX2_offer_2 (by decide) ?_
  refine va_calli (va_runSN (As := [.int to, .int 0, .int 31]) (rest := []) ⟨hx, hb, hml, hown, htb⟩ (c_X4_within l D cI cJ to 0 31 H.size ) (cb_SN htb mt_X4_within ms_yX4_within hN.2.2.2.2.2.2.2.2.2 ⟨Nat.le_trans (Nat.le_of_ble_eq_true rfl) hRf, Nat.le_trans (Nat.le_of_ble_eq_true rfl) hRl⟩) ⟨bl_R, pre_R va_nil hK hN⟩ rfl rfl hl.1 rfl (lv_room (Nat.le_of_ble_eq_true rfl)) dX2_offer_4 ⟨Nat.zero_le _, Nat.zero_le _⟩) hS ro_A (ro_F hS hA) (fun r_4 u t H1 locs ht hvm hu hB hz1 hk1 hS => ?_)
  have hu2 := hu.symm; subst hu2
  replace hP := ro_P hP hk1
  clear hk1 hz1 hvm ht
  generalize H1 = H at hP hS ⊢
  have hP : va_P D vwCl [(oP, .inr (2, [.ref aG, .long bc, .long br, .ref aF, .ref aE, .ref aC, .ref aR, .ref aN, .ref aM])), (aN, .inl (cJ, 32, .inr (.inl nc))), (aM, .inl (cJ, 32, .inr (.inl nr)))] H := hP
  obtain rfl : r_4 = b_in to 0 31 := hB
  refine lv_if_ne (tgt := 11) hx hb dX2_offer_7 (by decide) (fun c_7 => ?_) (fun c_7 => ?_)
  · skip
    refine lv_lload_n hx hb dX2_offer_11 rfl (lv_at hl 2 rfl) ?_
    refine lv_aload_n hx hb dX2_offer_12 rfl (lv_at hl 0 rfl) ?_
    refine va_get (D := D) (ci := 2) (v := .ref aN) (C := RX2) (T := TX2) (N := 9) hx hb htb ml_X2 hown hK hP 0 rfl rfl 7 (by decide) (htb _ mf_X2_35) (fun _ h9 => h9) rfl dX2_offer_13 ?_
    refine lv_iload_n hx hb dX2_offer_16 rfl (lv_at hl 1 rfl) ?_
    refine va_lald (D := D) hx hb hK hP 1 1 rfl rfl (b_in_31 c_7) dX2_offer_17 ?_
    refine W.lcmp hx hb dX2_offer_18 ?_
    refine lv_if_lt (tgt := 45) hx hb dX2_offer_19 (by decide) (fun c_19 => ?_) (fun c_19 => ?_)
    · skip
      refine lv_aload_n hx hb dX2_offer_45 rfl (lv_at hl 0 rfl) ?_
      refine va_get (D := D) (ci := 2) (v := .ref aN) (C := RX2) (T := TX2) (N := 9) hx hb htb ml_X2 hown hK hP 0 rfl rfl 7 (by decide) (htb _ mf_X2_35) (fun _ h9 => h9) rfl dX2_offer_46 ?_
      refine lv_iload_n hx hb dX2_offer_49 rfl (lv_at hl 1 rfl) ?_
      refine lv_lload_n hx hb dX2_offer_50 rfl (lv_at hl 2 rfl) ?_
      refine va_last (D := D) hx hb hK hP hD hS 1 1 rfl rfl (b_in_31 c_7) dX2_offer_51 (fun H locs hP hD hS => ?_)
      have hP : va_P D vwCl [(oP, .inr (2, [.ref aG, .long bc, .long br, .ref aF, .ref aE, .ref aC, .ref aR, .ref aN, .ref aM])), (aN, .inl (cJ, 32, .inr (.inl (vp_updL nc to.toNatClampNeg cost)))), (aM, .inl (cJ, 32, .inr (.inl nr)))] H := hP
      have hD : va_D A [(oP, .inr (2, [.ref aG, .long bc, .long br, .ref aF, .ref aE, .ref aC, .ref aR, .ref aN, .ref aM])), (aN, .inl (cJ, 32, .inr (.inl (vp_updL nc to.toNatClampNeg cost)))), (aM, .inl (cJ, 32, .inr (.inl nr)))] := hD
      obtain ⟨f_51, e_f_51⟩ : ∃ g, g = (vp_updL nc to.toNatClampNeg cost) := ⟨_, rfl⟩
      rw [← e_f_51] at hP hD
      have hP : va_P D vwCl [(oP, .inr (2, [.ref aG, .long bc, .long br, .ref aF, .ref aE, .ref aC, .ref aR, .ref aN, .ref aM])), (aN, .inl (cJ, 32, .inr (.inl f_51))), (aM, .inl (cJ, 32, .inr (.inl nr)))] H := hP
      have hD : va_D A [(oP, .inr (2, [.ref aG, .long bc, .long br, .ref aF, .ref aE, .ref aC, .ref aR, .ref aN, .ref aM])), (aN, .inl (cJ, 32, .inr (.inl f_51))), (aM, .inl (cJ, 32, .inr (.inl nr)))] := hD
      refine lv_aload_n hx hb dX2_offer_52 rfl (lv_at hl 0 rfl) ?_
      refine va_get (D := D) (ci := 2) (v := .ref aM) (C := RX2) (T := TX2) (N := 9) hx hb htb ml_X2 hown hK hP 0 rfl rfl 8 (by decide) (htb _ mf_X2_38) (fun _ h9 => h9) rfl dX2_offer_53 ?_
      refine lv_iload_n hx hb dX2_offer_56 rfl (lv_at hl 1 rfl) ?_
      refine lv_lload hx hb dX2_offer_57 (lv_at hl 3 rfl) ?_
      refine va_last (D := D) hx hb hK hP hD hS 2 1 rfl rfl (b_in_31 c_7) dX2_offer_59 (fun H locs hP hD hS => ?_)
      have hP : va_P D vwCl [(oP, .inr (2, [.ref aG, .long bc, .long br, .ref aF, .ref aE, .ref aC, .ref aR, .ref aN, .ref aM])), (aN, .inl (cJ, 32, .inr (.inl f_51))), (aM, .inl (cJ, 32, .inr (.inl (vp_updL nr to.toNatClampNeg row))))] H := hP
      have hD : va_D A [(oP, .inr (2, [.ref aG, .long bc, .long br, .ref aF, .ref aE, .ref aC, .ref aR, .ref aN, .ref aM])), (aN, .inl (cJ, 32, .inr (.inl f_51))), (aM, .inl (cJ, 32, .inr (.inl (vp_updL nr to.toNatClampNeg row))))] := hD
      obtain ⟨f_59, e_f_59⟩ : ∃ g, g = (vp_updL nr to.toNatClampNeg row) := ⟨_, rfl⟩
      rw [← e_f_59] at hP hD
      have hP : va_P D vwCl [(oP, .inr (2, [.ref aG, .long bc, .long br, .ref aF, .ref aE, .ref aC, .ref aR, .ref aN, .ref aM])), (aN, .inl (cJ, 32, .inr (.inl f_51))), (aM, .inl (cJ, 32, .inr (.inl f_59)))] H := hP
      have hD : va_D A [(oP, .inr (2, [.ref aG, .long bc, .long br, .ref aF, .ref aE, .ref aC, .ref aR, .ref aN, .ref aM])), (aN, .inl (cJ, 32, .inr (.inl f_51))), (aM, .inl (cJ, 32, .inr (.inl f_59)))] := hD
      exact hret f_51 f_59 _ _ _ _ dX2_offer_60 (trivial) hP hD hS
    · skip
      refine lv_lload_n hx hb dX2_offer_22 rfl (lv_at hl 2 rfl) ?_
      refine lv_aload_n hx hb dX2_offer_23 rfl (lv_at hl 0 rfl) ?_
      refine va_get (D := D) (ci := 2) (v := .ref aN) (C := RX2) (T := TX2) (N := 9) hx hb htb ml_X2 hown hK hP 0 rfl rfl 7 (by decide) (htb _ mf_X2_35) (fun _ h9 => h9) rfl dX2_offer_24 ?_
      refine lv_iload_n hx hb dX2_offer_27 rfl (lv_at hl 1 rfl) ?_
      refine va_lald (D := D) hx hb hK hP 1 1 rfl rfl (b_in_31 c_7) dX2_offer_28 ?_
      refine W.lcmp hx hb dX2_offer_29 ?_
      refine lv_if_ne (tgt := 60) hx hb dX2_offer_30 (by decide) (fun c_30 => ?_) (fun c_30 => ?_)
      · skip
        exact hret nc nr _ _ _ _ dX2_offer_60 (trivial) hP hD hS
      · skip
        refine lv_lload hx hb dX2_offer_33 (lv_at hl 3 rfl) ?_
        refine lv_aload_n hx hb dX2_offer_35 rfl (lv_at hl 0 rfl) ?_
        refine va_get (D := D) (ci := 2) (v := .ref aM) (C := RX2) (T := TX2) (N := 9) hx hb htb ml_X2 hown hK hP 0 rfl rfl 8 (by decide) (htb _ mf_X2_38) (fun _ h9 => h9) rfl dX2_offer_36 ?_
        refine lv_iload_n hx hb dX2_offer_39 rfl (lv_at hl 1 rfl) ?_
        refine va_lald (D := D) hx hb hK hP 2 1 rfl rfl (b_in_31 c_7) dX2_offer_40 ?_
        refine W.lcmp hx hb dX2_offer_41 ?_
        refine lv_if_ge (tgt := 60) hx hb dX2_offer_42 (by decide) (fun c_42 => ?_) (fun c_42 => ?_)
        · skip
          exact hret nc nr _ _ _ _ dX2_offer_60 (trivial) hP hD hS
        · skip
          refine lv_aload_n hx hb dX2_offer_45 rfl (lv_at hl 0 rfl) ?_
          refine va_get (D := D) (ci := 2) (v := .ref aN) (C := RX2) (T := TX2) (N := 9) hx hb htb ml_X2 hown hK hP 0 rfl rfl 7 (by decide) (htb _ mf_X2_35) (fun _ h9 => h9) rfl dX2_offer_46 ?_
          refine lv_iload_n hx hb dX2_offer_49 rfl (lv_at hl 1 rfl) ?_
          refine lv_lload_n hx hb dX2_offer_50 rfl (lv_at hl 2 rfl) ?_
          refine va_last (D := D) hx hb hK hP hD hS 1 1 rfl rfl (b_in_31 c_7) dX2_offer_51 (fun H locs hP hD hS => ?_)
          have hP : va_P D vwCl [(oP, .inr (2, [.ref aG, .long bc, .long br, .ref aF, .ref aE, .ref aC, .ref aR, .ref aN, .ref aM])), (aN, .inl (cJ, 32, .inr (.inl (vp_updL nc to.toNatClampNeg cost)))), (aM, .inl (cJ, 32, .inr (.inl nr)))] H := hP
          have hD : va_D A [(oP, .inr (2, [.ref aG, .long bc, .long br, .ref aF, .ref aE, .ref aC, .ref aR, .ref aN, .ref aM])), (aN, .inl (cJ, 32, .inr (.inl (vp_updL nc to.toNatClampNeg cost)))), (aM, .inl (cJ, 32, .inr (.inl nr)))] := hD
          obtain ⟨f_51, e_f_51⟩ : ∃ g, g = (vp_updL nc to.toNatClampNeg cost) := ⟨_, rfl⟩
          rw [← e_f_51] at hP hD
          have hP : va_P D vwCl [(oP, .inr (2, [.ref aG, .long bc, .long br, .ref aF, .ref aE, .ref aC, .ref aR, .ref aN, .ref aM])), (aN, .inl (cJ, 32, .inr (.inl f_51))), (aM, .inl (cJ, 32, .inr (.inl nr)))] H := hP
          have hD : va_D A [(oP, .inr (2, [.ref aG, .long bc, .long br, .ref aF, .ref aE, .ref aC, .ref aR, .ref aN, .ref aM])), (aN, .inl (cJ, 32, .inr (.inl f_51))), (aM, .inl (cJ, 32, .inr (.inl nr)))] := hD
          refine lv_aload_n hx hb dX2_offer_52 rfl (lv_at hl 0 rfl) ?_
          refine va_get (D := D) (ci := 2) (v := .ref aM) (C := RX2) (T := TX2) (N := 9) hx hb htb ml_X2 hown hK hP 0 rfl rfl 8 (by decide) (htb _ mf_X2_38) (fun _ h9 => h9) rfl dX2_offer_53 ?_
          refine lv_iload_n hx hb dX2_offer_56 rfl (lv_at hl 1 rfl) ?_
          refine lv_lload hx hb dX2_offer_57 (lv_at hl 3 rfl) ?_
          refine va_last (D := D) hx hb hK hP hD hS 2 1 rfl rfl (b_in_31 c_7) dX2_offer_59 (fun H locs hP hD hS => ?_)
          have hP : va_P D vwCl [(oP, .inr (2, [.ref aG, .long bc, .long br, .ref aF, .ref aE, .ref aC, .ref aR, .ref aN, .ref aM])), (aN, .inl (cJ, 32, .inr (.inl f_51))), (aM, .inl (cJ, 32, .inr (.inl (vp_updL nr to.toNatClampNeg row))))] H := hP
          have hD : va_D A [(oP, .inr (2, [.ref aG, .long bc, .long br, .ref aF, .ref aE, .ref aC, .ref aR, .ref aN, .ref aM])), (aN, .inl (cJ, 32, .inr (.inl f_51))), (aM, .inl (cJ, 32, .inr (.inl (vp_updL nr to.toNatClampNeg row))))] := hD
          obtain ⟨f_59, e_f_59⟩ : ∃ g, g = (vp_updL nr to.toNatClampNeg row) := ⟨_, rfl⟩
          rw [← e_f_59] at hP hD
          have hP : va_P D vwCl [(oP, .inr (2, [.ref aG, .long bc, .long br, .ref aF, .ref aE, .ref aC, .ref aR, .ref aN, .ref aM])), (aN, .inl (cJ, 32, .inr (.inl f_51))), (aM, .inl (cJ, 32, .inr (.inl f_59)))] H := hP
          have hD : va_D A [(oP, .inr (2, [.ref aG, .long bc, .long br, .ref aF, .ref aE, .ref aC, .ref aR, .ref aN, .ref aM])), (aN, .inl (cJ, 32, .inr (.inl f_51))), (aM, .inl (cJ, 32, .inr (.inl f_59)))] := hD
          exact hret f_51 f_59 _ _ _ _ dX2_offer_60 (trivial) hP hD hS
  · skip
    exact hret nc nr _ _ _ _ dX2_offer_10 (trivial) hP hD hS
set_option maxHeartbeats 4000000 in
set_option maxRecDepth 100000 in
theorem c_X2_offer (l : Launch) (D : va_G) (cI cJ : ClassId) (oP : Nat) (aG : Nat) (aF : Nat) (aE : Nat) (aC : Nat) (aR : Nat) (aN : Nat) (aM : Nat) (bc : Int64) (br : Int64) (nc : Nat → Int64) (nr : Nat → Int64) (to : Int32) (cost : Int64) (row : Int64) (sz : Nat)  : Met l yX2_offer (Cond.code yX2_offer cX2_offer 6 none :: BIG) ({ frames := 1, cells := 0, slots := 0, locals := 22 }) (va_Pc [.ref oP, .int to, .long cost, .long row] (pr_W D cI cJ [(oP, .inr (2, [.ref aG, .long bc, .long br, .ref aF, .ref aE, .ref aC, .ref aR, .ref aN, .ref aM])), (aN, .inl (cJ, 32, .inr (.inl nc))), (aM, .inl (cJ, 32, .inr (.inl nr)))] sz)) (va_Qv (fun (_ : Unit) => True) (fun (_ : Unit) (t : State) => ∃ (nc2 : Nat → Int64) (nr2 : Nat → Int64), (True) ∧ va_P D vwCl [(oP, .inr (2, [.ref aG, .long bc, .long br, .ref aF, .ref aE, .ref aC, .ref aR, .ref aN, .ref aM])), (aN, .inl (cJ, 32, .inr (.inl nc2))), (aM, .inl (cJ, 32, .inr (.inl nr2)))] t.heap ∧ va_D (va_A [(oP, .inr (2, [.ref aG, .long bc, .long br, .ref aF, .ref aE, .ref aC, .ref aR, .ref aN, .ref aM])), (aN, .inl (cJ, 32, .inr (.inl nc))), (aM, .inl (cJ, 32, .inr (.inl nr)))] sz) [(oP, .inr (2, [.ref aG, .long bc, .long br, .ref aF, .ref aE, .ref aC, .ref aR, .ref aN, .ref aM])), (aN, .inl (cJ, 32, .inr (.inl nc2))), (aM, .inl (cJ, 32, .inr (.inl nr2)))]) (va_A [(oP, .inr (2, [.ref aG, .long bc, .long br, .ref aF, .ref aE, .ref aC, .ref aR, .ref aN, .ref aM])), (aN, .inl (cJ, 32, .inr (.inl nc))), (aM, .inl (cJ, 32, .inr (.inl nr)))] sz)) 0 0 (va_A [(oP, .inr (2, [.ref aG, .long bc, .long br, .ref aF, .ref aE, .ref aC, .ref aR, .ref aN, .ref aM])), (aN, .inl (cJ, 32, .inr (.inl nc))), (aM, .inl (cJ, 32, .inr (.inl nr)))] sz) := by
  refine Met.ofW (cc := cX2_offer) (maxL := 6) (ret := none) (by decide) rfl ?_
  intro p e s m args below meth c s₁ B hml hv
  obtain ⟨rfl, hsz, hP, hK, hN, hD0⟩ := hv
  have hl := lv_entry ([.ref oP, .int to, .long cost, .long row]) (n := 6) (Nat.le_of_ble_eq_true rfl)
  rw [lg_entry_eq]
  subst hsz
  generalize (lg_sl ([.ref oP, .int to, .long cost, .long row]) ++ List.replicate (6 - (lg_sl ([.ref oP, .int to, .long cost, .long row])).length) Slot.unset).toArray = ls at hl ⊢
  exact b_X2_offer (A := va_A [(oP, .inr (2, [.ref aG, .long bc, .long br, .ref aF, .ref aE, .ref aC, .ref aR, .ref aN, .ref aM])), (aN, .inl (cJ, 32, .inr (.inl nc))), (aM, .inl (cJ, 32, .inr (.inl nr)))] s.heap.size) D cI cJ oP aG aF aE aC aR aN aM bc br nc nr to cost row  B.exec B.bytes hml (findClass_of_methodNamed B.named) (fun w h => atoms_spec B.pre w (List.mem_cons_of_mem _ h)) (Nat.le_of_ble_eq_true rfl) (Nat.le_of_ble_eq_true rfl) hK hN (fun q h => Or.inr h) hP (hD0.self (sz := s.heap.size)) hl (fun nc2 nr2 H locs pc ls hdg hpost hP hD hS => W.vret B.exec B.bytes B.returns (fun t ht hW => ⟨⟨(), rfl, trivial, nc2, nr2, hpost, by rw [ht]; exact hP, hD⟩, hS.F ht⟩) hS.2.2 hdg B.notSynchronized)
theorem mt_X2_goOn : mt_ok yX2_goOn RX2 cX2_goOn 13 none 3 := ⟨mc_yX2_goOn, mn_X2, rfl, by decide +kernel⟩
set_option maxHeartbeats 4000000 in
set_option maxRecDepth 100000 in
theorem b_X2_goOn {p : Program} {l : Launch} {e : Env} {R : Room} {s : State} {m : MethodId} {args : Array Value} {below : List Frame} {meth : Method} {c : Code} {Q : State → Prop} {A : Nat → Prop} (D : va_G) (cI cJ : ClassId) (oP : Nat) (aG : Nat) (aF : Nat) (aE : Nat) (aC : Nat) (aR : Nat) (aN : Nat) (aM : Nat) (bc : Int64) (br : Int64) (fd : Nat → Int32) (se : Nat → Int32) (co : Nat → Int64) (ro : Nat → Int64) (nc : Nat → Int64) (nr : Nat → Int64) (fi : Int32) (sc : Int32) (fr : Int32)  {ls : Array Slot} (hx : p.tables.exec = Jvm.exec) (hb : c.code = cX2_goOn) (hml : c.maxLocals = 13) (hown : s.vm.findClass RX2 = some m.cls) (htb : ∀ w ∈ BIG, w.before args s = true) (hRf : 2 ≤ R.frames) (hRl : 60 ≤ R.locals) (hK : va_K D vwCl [(cI, .int), (cJ, .long)] s) (hN : nw s) (hA : ∀ q, s.heap.size ≤ q → A q) (hP : va_P D vwCl [(oP, .inr (2, [.ref aG, .long bc, .long br, .ref aF, .ref aE, .ref aC, .ref aR, .ref aN, .ref aM])), (aF, .inl (cI, 64, .inl fd)), (aE, .inl (cI, 64, .inl se)), (aC, .inl (cJ, 32, .inr (.inl co))), (aR, .inl (cJ, 32, .inr (.inl ro))), (aN, .inl (cJ, 32, .inr (.inl nc))), (aM, .inl (cJ, 32, .inr (.inl nr)))] s.heap) (hD : va_D A [(oP, .inr (2, [.ref aG, .long bc, .long br, .ref aF, .ref aE, .ref aC, .ref aR, .ref aN, .ref aM])), (aF, .inl (cI, 64, .inl fd)), (aE, .inl (cI, 64, .inl se)), (aC, .inl (cJ, 32, .inr (.inl co))), (aR, .inl (cJ, 32, .inr (.inl ro))), (aN, .inl (cJ, 32, .inr (.inl nc))), (aM, .inl (cJ, 32, .inr (.inl nr)))]) (hl : lv_has ls 13 [(0, .ref oP), (1, .int fi), (2, .int sc), (3, .int fr)])
    (hret : ∀ (co2 : Nat → Int64) (ro2 : Nat → Int64) (nc2 : Nat → Int64) (nr2 : Nat → Int64) (H : Heap) (locs : List Loc) (pc : Nat) (ls : Array Slot), decode cX2_goOn pc = .ok (.return_, 1) → (True) → va_P D vwCl [(oP, .inr (2, [.ref aG, .long bc, .long br, .ref aF, .ref aE, .ref aC, .ref aR, .ref aN, .ref aM])), (aF, .inl (cI, 64, .inl fd)), (aE, .inl (cI, 64, .inl se)), (aC, .inl (cJ, 32, .inr (.inl co2))), (aR, .inl (cJ, 32, .inr (.inl ro2))), (aN, .inl (cJ, 32, .inr (.inl nc2))), (aM, .inl (cJ, 32, .inr (.inl nr2)))] H → va_D A [(oP, .inr (2, [.ref aG, .long bc, .long br, .ref aF, .ref aE, .ref aC, .ref aR, .ref aN, .ref aM])), (aF, .inl (cI, 64, .inl fd)), (aE, .inl (cI, 64, .inl se)), (aC, .inl (cJ, 32, .inr (.inl co2))), (aR, .inl (cJ, 32, .inr (.inl ro2))), (aN, .inl (cJ, 32, .inr (.inl nc2))), (aM, .inl (cJ, 32, .inr (.inl nr2)))] → va_S A s.heap H locs → W p l e R s m args below meth c H locs 0 0 Q (F0 m pc ls [])) : W p l e R s m args below meth c s.heap [] 0 0 Q (F0 m 0 ls []) := by
  generalize hHe : s.heap = H at hP ⊢
  have hS : va_S A s.heap H [] := by rw [← hHe]; exact va_S.rf
  clear hHe
  refine lv_iconst (v := 0) hx hb dX2_goOn_0 (by decide) ?_
  refine lv_istore (lv' := [(4, .int 0), (0, .ref oP), (1, .int fi), (2, .int sc), (3, .int fr)]) hx hb dX2_goOn_1 hl (by decide) rfl (fun ls hl => ?_)
  have LOOP_3 : ∀ (fu : Nat) (k : Nat) (cf : Nat → Int64) (H : Heap) (locs : List Loc) (ls : Array Slot), (k ≤ 32 + 2) → 32 + 2 - k < fu → va_P D vwCl [(oP, .inr (2, [.ref aG, .long bc, .long br, .ref aF, .ref aE, .ref aC, .ref aR, .ref aN, .ref aM])), (aF, .inl (cI, 64, .inl fd)), (aE, .inl (cI, 64, .inl se)), (aC, .inl (cJ, 32, .inr (.inl co))), (aR, .inl (cJ, 32, .inr (.inl ro))), (aN, .inl (cJ, 32, .inr (.inl cf))), (aM, .inl (cJ, 32, .inr (.inl nr)))] H → va_D A [(oP, .inr (2, [.ref aG, .long bc, .long br, .ref aF, .ref aE, .ref aC, .ref aR, .ref aN, .ref aM])), (aF, .inl (cI, 64, .inl fd)), (aE, .inl (cI, 64, .inl se)), (aC, .inl (cJ, 32, .inr (.inl co))), (aR, .inl (cJ, 32, .inr (.inl ro))), (aN, .inl (cJ, 32, .inr (.inl cf))), (aM, .inl (cJ, 32, .inr (.inl nr)))] → va_S A s.heap H locs → lv_has ls 13 [(4, .int (nI k)), (0, .ref oP), (1, .int fi), (2, .int sc), (3, .int fr)] → W p l e R s m args below meth c H locs 0 0 Q (F0 m 3 ls []) := by
    intro fu
    induction fu with
    | zero => intro k cf H locs ls hk hn; exact absurd hn (Nat.not_lt_zero _)
    | succ fu ih_3 =>
      intro k cf H locs ls hk hn hP hD hS hl
      refine lv_iload hx hb dX2_goOn_3 (lv_at hl 0 rfl) ?_
      refine lv_bipush (v := 32) hx hb dX2_goOn_5 (by decide) ?_
      refine lv_icmp_ge (tgt := 26) hx hb dX2_goOn_7 (by decide) (fun c_7 => ?_) (fun c_7 => ?_)
      · skip
        refine lv_iload_n hx hb dX2_goOn_26 rfl (lv_at hl 4 rfl) ?_
        refine lv_if_eq (tgt := 34) hx hb dX2_goOn_27 (by decide) (fun c_27 => ?_) (fun c_27 => ?_)
        · skip
          refine lv_iconst (v := 2) hx hb dX2_goOn_34 (by decide) ?_
          refine lv_istore (lv' := [(4, .int 2), (0, .ref oP), (1, .int fi), (2, .int sc), (3, .int fr)]) hx hb dX2_goOn_35 hl (by decide) rfl (fun ls hl => ?_)
          refine lv_iconst (v := 0) hx hb dX2_goOn_37 (by decide) ?_
          refine lv_istore (lv' := [(5, .int 0), (4, .int 2), (0, .ref oP), (1, .int fi), (2, .int sc), (3, .int fr)]) hx hb dX2_goOn_38 hl (by decide) rfl (fun ls hl => ?_)
          have LOOP_40 : ∀ (fu : Nat) (k : Nat) (cf : Nat → Int64) (rf : Nat → Int64) (H : Heap) (locs : List Loc) (ls : Array Slot), (k ≤ 64 + 2) → 64 + 2 - k < fu → va_P D vwCl [(oP, .inr (2, [.ref aG, .long bc, .long br, .ref aF, .ref aE, .ref aC, .ref aR, .ref aN, .ref aM])), (aF, .inl (cI, 64, .inl fd)), (aE, .inl (cI, 64, .inl se)), (aC, .inl (cJ, 32, .inr (.inl co))), (aR, .inl (cJ, 32, .inr (.inl ro))), (aN, .inl (cJ, 32, .inr (.inl cf))), (aM, .inl (cJ, 32, .inr (.inl rf)))] H → va_D A [(oP, .inr (2, [.ref aG, .long bc, .long br, .ref aF, .ref aE, .ref aC, .ref aR, .ref aN, .ref aM])), (aF, .inl (cI, 64, .inl fd)), (aE, .inl (cI, 64, .inl se)), (aC, .inl (cJ, 32, .inr (.inl co))), (aR, .inl (cJ, 32, .inr (.inl ro))), (aN, .inl (cJ, 32, .inr (.inl cf))), (aM, .inl (cJ, 32, .inr (.inl rf)))] → va_S A s.heap H locs → lv_has ls 13 [(5, .int (nI k)), (4, .int 2), (0, .ref oP), (1, .int fi), (2, .int sc), (3, .int fr)] → W p l e R s m args below meth c H locs 0 0 Q (F0 m 40 ls []) := by
            intro fu
            induction fu with
            | zero => intro k cf rf H locs ls hk hn; exact absurd hn (Nat.not_lt_zero _)
            | succ fu ih_40 =>
              intro k cf rf H locs ls hk hn hP hD hS hl
              refine lv_iload hx hb dX2_goOn_40 (lv_at hl 0 rfl) ?_
              refine lv_bipush (v := 64) hx hb dX2_goOn_42 (by decide) ?_
              refine lv_icmp_ge (tgt := 164) hx hb dX2_goOn_44 (by decide) (fun c_44 => ?_) (fun c_44 => ?_)
              · skip
                refine lv_aload_n hx hb dX2_goOn_164 rfl (lv_at hl 2 rfl) ?_
                refine va_get (D := D) (ci := 2) (v := .ref aN) (C := RX2) (T := TX2) (N := 9) hx hb htb ml_X2 hown hK hP 0 rfl rfl 7 (by decide) (htb _ mf_X2_35) (fun _ h9 => h9) rfl dX2_goOn_165 ?_
                refine lv_iconst (v := 0) hx hb dX2_goOn_168 (by decide) ?_
                refine lv_aload_n hx hb dX2_goOn_169 rfl (lv_at hl 2 rfl) ?_
                refine va_get (D := D) (ci := 2) (v := .ref aC) (C := RX2) (T := TX2) (N := 9) hx hb htb ml_X2 hown hK hP 0 rfl rfl 5 (by decide) (htb _ mf_X2_28) (fun _ h9 => h9) rfl dX2_goOn_170 ?_
                refine lv_iconst (v := 0) hx hb dX2_goOn_173 (by decide) ?_
                refine lv_bipush (v := 32) hx hb dX2_goOn_174 (by decide) ?_
                refine va_copyl (D := D) hx hb (by rw [hml]; exact hl.1.symm) hown (htb _ mm_X2_96) (htb _ mv_arraycopyName) (htb _ ms_arraycopyName) (htb _ mn_System) hK hP hD hS 5 3 1 1 rfl rfl rfl rfl rfl (sp := 0) (dp := 0) (n := 32) (by decide) (by decide) (by decide) (by decide) (by decide) (fun _ _ => rfl) (Nat.le_trans (Nat.le_of_ble_eq_true rfl) hRf) (Nat.le_trans (by decide) hRl) dX2_goOn_176 (fun H locs hP hD hS => ?_)
                have hP : va_P D vwCl [(oP, .inr (2, [.ref aG, .long bc, .long br, .ref aF, .ref aE, .ref aC, .ref aR, .ref aN, .ref aM])), (aF, .inl (cI, 64, .inl fd)), (aE, .inl (cI, 64, .inl se)), (aC, .inl (cJ, 32, .inr (.inl (va_cpy cf co (0 : Int32).toNatClampNeg (0 : Int32).toNatClampNeg (32 : Int32).toNatClampNeg)))), (aR, .inl (cJ, 32, .inr (.inl ro))), (aN, .inl (cJ, 32, .inr (.inl cf))), (aM, .inl (cJ, 32, .inr (.inl rf)))] H := hP
                have hD : va_D A [(oP, .inr (2, [.ref aG, .long bc, .long br, .ref aF, .ref aE, .ref aC, .ref aR, .ref aN, .ref aM])), (aF, .inl (cI, 64, .inl fd)), (aE, .inl (cI, 64, .inl se)), (aC, .inl (cJ, 32, .inr (.inl (va_cpy cf co (0 : Int32).toNatClampNeg (0 : Int32).toNatClampNeg (32 : Int32).toNatClampNeg)))), (aR, .inl (cJ, 32, .inr (.inl ro))), (aN, .inl (cJ, 32, .inr (.inl cf))), (aM, .inl (cJ, 32, .inr (.inl rf)))] := hD
                obtain ⟨f_176, e_f_176⟩ : ∃ g, g = (va_cpy cf co (0 : Int32).toNatClampNeg (0 : Int32).toNatClampNeg (32 : Int32).toNatClampNeg) := ⟨_, rfl⟩
                rw [← e_f_176] at hP hD
                have hP : va_P D vwCl [(oP, .inr (2, [.ref aG, .long bc, .long br, .ref aF, .ref aE, .ref aC, .ref aR, .ref aN, .ref aM])), (aF, .inl (cI, 64, .inl fd)), (aE, .inl (cI, 64, .inl se)), (aC, .inl (cJ, 32, .inr (.inl f_176))), (aR, .inl (cJ, 32, .inr (.inl ro))), (aN, .inl (cJ, 32, .inr (.inl cf))), (aM, .inl (cJ, 32, .inr (.inl rf)))] H := hP
                have hD : va_D A [(oP, .inr (2, [.ref aG, .long bc, .long br, .ref aF, .ref aE, .ref aC, .ref aR, .ref aN, .ref aM])), (aF, .inl (cI, 64, .inl fd)), (aE, .inl (cI, 64, .inl se)), (aC, .inl (cJ, 32, .inr (.inl f_176))), (aR, .inl (cJ, 32, .inr (.inl ro))), (aN, .inl (cJ, 32, .inr (.inl cf))), (aM, .inl (cJ, 32, .inr (.inl rf)))] := hD
                refine lv_aload_n hx hb dX2_goOn_179 rfl (lv_at hl 2 rfl) ?_
                refine va_get (D := D) (ci := 2) (v := .ref aM) (C := RX2) (T := TX2) (N := 9) hx hb htb ml_X2 hown hK hP 0 rfl rfl 8 (by decide) (htb _ mf_X2_38) (fun _ h9 => h9) rfl dX2_goOn_180 ?_
                refine lv_iconst (v := 0) hx hb dX2_goOn_183 (by decide) ?_
                refine lv_aload_n hx hb dX2_goOn_184 rfl (lv_at hl 2 rfl) ?_
                refine va_get (D := D) (ci := 2) (v := .ref aR) (C := RX2) (T := TX2) (N := 9) hx hb htb ml_X2 hown hK hP 0 rfl rfl 6 (by decide) (htb _ mf_X2_32) (fun _ h9 => h9) rfl dX2_goOn_185 ?_
                refine lv_iconst (v := 0) hx hb dX2_goOn_188 (by decide) ?_
                refine lv_bipush (v := 32) hx hb dX2_goOn_189 (by decide) ?_
                refine va_copyl (D := D) hx hb (by rw [hml]; exact hl.1.symm) hown (htb _ mm_X2_96) (htb _ mv_arraycopyName) (htb _ ms_arraycopyName) (htb _ mn_System) hK hP hD hS 6 4 1 1 rfl rfl rfl rfl rfl (sp := 0) (dp := 0) (n := 32) (by decide) (by decide) (by decide) (by decide) (by decide) (fun _ _ => rfl) (Nat.le_trans (Nat.le_of_ble_eq_true rfl) hRf) (Nat.le_trans (by decide) hRl) dX2_goOn_191 (fun H locs hP hD hS => ?_)
                have hP : va_P D vwCl [(oP, .inr (2, [.ref aG, .long bc, .long br, .ref aF, .ref aE, .ref aC, .ref aR, .ref aN, .ref aM])), (aF, .inl (cI, 64, .inl fd)), (aE, .inl (cI, 64, .inl se)), (aC, .inl (cJ, 32, .inr (.inl f_176))), (aR, .inl (cJ, 32, .inr (.inl (va_cpy rf ro (0 : Int32).toNatClampNeg (0 : Int32).toNatClampNeg (32 : Int32).toNatClampNeg)))), (aN, .inl (cJ, 32, .inr (.inl cf))), (aM, .inl (cJ, 32, .inr (.inl rf)))] H := hP
                have hD : va_D A [(oP, .inr (2, [.ref aG, .long bc, .long br, .ref aF, .ref aE, .ref aC, .ref aR, .ref aN, .ref aM])), (aF, .inl (cI, 64, .inl fd)), (aE, .inl (cI, 64, .inl se)), (aC, .inl (cJ, 32, .inr (.inl f_176))), (aR, .inl (cJ, 32, .inr (.inl (va_cpy rf ro (0 : Int32).toNatClampNeg (0 : Int32).toNatClampNeg (32 : Int32).toNatClampNeg)))), (aN, .inl (cJ, 32, .inr (.inl cf))), (aM, .inl (cJ, 32, .inr (.inl rf)))] := hD
                obtain ⟨f_191, e_f_191⟩ : ∃ g, g = (va_cpy rf ro (0 : Int32).toNatClampNeg (0 : Int32).toNatClampNeg (32 : Int32).toNatClampNeg) := ⟨_, rfl⟩
                rw [← e_f_191] at hP hD
                have hP : va_P D vwCl [(oP, .inr (2, [.ref aG, .long bc, .long br, .ref aF, .ref aE, .ref aC, .ref aR, .ref aN, .ref aM])), (aF, .inl (cI, 64, .inl fd)), (aE, .inl (cI, 64, .inl se)), (aC, .inl (cJ, 32, .inr (.inl f_176))), (aR, .inl (cJ, 32, .inr (.inl f_191))), (aN, .inl (cJ, 32, .inr (.inl cf))), (aM, .inl (cJ, 32, .inr (.inl rf)))] H := hP
                have hD : va_D A [(oP, .inr (2, [.ref aG, .long bc, .long br, .ref aF, .ref aE, .ref aC, .ref aR, .ref aN, .ref aM])), (aF, .inl (cI, 64, .inl fd)), (aE, .inl (cI, 64, .inl se)), (aC, .inl (cJ, 32, .inr (.inl f_176))), (aR, .inl (cJ, 32, .inr (.inl f_191))), (aN, .inl (cJ, 32, .inr (.inl cf))), (aM, .inl (cJ, 32, .inr (.inl rf)))] := hD
                exact hret f_176 f_191 cf rf _ _ _ _ dX2_goOn_194 (trivial) hP hD hS
              · skip
                refine lv_iload hx hb dX2_goOn_47 (lv_at hl 0 rfl) ?_
                refine lv_iconst (v := 2) hx hb dX2_goOn_49 (by decide) ?_
                refine lv_idiv hx hb dX2_goOn_50 (by decide) ?_
                refine lv_istore (lv' := [(6, .int (nI k / 2)), (5, .int (nI k)), (4, .int 2), (0, .ref oP), (1, .int fi), (2, .int sc), (3, .int fr)]) hx hb dX2_goOn_51 hl (by decide) rfl (fun ls hl => ?_)
                refine lv_aload_n hx hb dX2_goOn_53 rfl (lv_at hl 3 rfl) ?_
                refine va_get (D := D) (ci := 2) (v := .ref aC) (C := RX2) (T := TX2) (N := 9) hx hb htb ml_X2 hown hK hP 0 rfl rfl 5 (by decide) (htb _ mf_X2_28) (fun _ h9 => h9) rfl dX2_goOn_54 ?_
                refine lv_iload hx hb dX2_goOn_57 (lv_at hl 0 rfl) ?_
                refine va_lald (D := D) hx hb hK hP 3 1 rfl rfl (vp_half (lk_go (N := 64) rfl (by decide) hk c_44)) dX2_goOn_59 ?_
                refine lv_ldc2 (v := 1152921504606846976) hx hb hown (htb _ mk_X2_74) dX2_goOn_60 ?_
                refine W.lcmp hx hb dX2_goOn_63 ?_
                refine lv_if_ge (tgt := 154) hx hb dX2_goOn_64 (by decide) (fun c_64 => ?_) (fun c_64 => ?_)
                · skip
                  refine lv_iload hx hb dX2_goOn_154 (lv_at hl 1 rfl) ?_
                  refine lv_iload hx hb dX2_goOn_156 (lv_at hl 2 rfl) ?_
                  refine lv_iadd hx hb dX2_goOn_158 ?_
                  refine lv_eqi (y := nI (k + 2)) (nI_s2 k) ?_
                  refine lv_istore (lv' := [(5, .int (nI (k + 2))), (6, .int (nI k / 2)), (4, .int 2), (0, .ref oP), (1, .int fi), (2, .int sc), (3, .int fr)]) hx hb dX2_goOn_159 hl (by decide) rfl (fun ls hl => ?_)
                  refine lv_goto (tgt := 40) hx hb dX2_goOn_161 (by decide) ?_
                  exact ih_40 (k + 2) cf rf _ _ _ (by have := lk_go (N := 64) rfl (by decide) hk c_44; omega) (by have := lk_go (N := 64) rfl (by decide) hk c_44; omega) hP hD hS (lv_sub hl [0, 2, 3, 4, 5, 6] rfl)
                · skip
                  refine lv_iload_n hx hb dX2_goOn_67 rfl (lv_at hl 4 rfl) ?_
                  refine lv_aload_n hx hb dX2_goOn_68 rfl (lv_at hl 3 rfl) ?_
                  refine va_get (D := D) (ci := 2) (v := .ref aF) (C := RX2) (T := TX2) (N := 9) hx hb htb ml_X2 hown hK hP 0 rfl rfl 3 (by decide) (htb _ mf_X2_22) (fun _ h9 => h9) rfl dX2_goOn_69 ?_
                  refine lv_iload hx hb dX2_goOn_72 (lv_at hl 1 rfl) ?_
                  refine va_iald (D := D) hx hb hK hP 1 0 rfl rfl (vp_lt (lk_go (N := 64) rfl (by decide) hk c_44) (by decide) (by decide)) dX2_goOn_74 ?_
                  refine lv_isub hx hb dX2_goOn_75 ?_
                  refine lv_i2l hx hb dX2_goOn_76 rfl ?_
                  refine lv_lstore (lv' := [(7, .long ((fi - (fd (nI k).toNatClampNeg)).toInt64)), (6, .int (nI k / 2)), (5, .int (nI k)), (4, .int 2), (0, .ref oP), (1, .int fi), (2, .int sc), (3, .int fr)]) hx hb dX2_goOn_77 hl (by decide) rfl (fun ls hl => ?_)
                  refine lv_iload_n hx hb dX2_goOn_79 rfl (lv_at hl 6 rfl) ?_
                  refine lv_aload_n hx hb dX2_goOn_80 rfl (lv_at hl 4 rfl) ?_
                  refine va_get (D := D) (ci := 2) (v := .ref aE) (C := RX2) (T := TX2) (N := 9) hx hb htb ml_X2 hown hK hP 0 rfl rfl 4 (by decide) (htb _ mf_X2_25) (fun _ h9 => h9) rfl dX2_goOn_81 ?_
                  refine lv_iload hx hb dX2_goOn_84 (lv_at hl 2 rfl) ?_
                  refine va_iald (D := D) hx hb hK hP 2 0 rfl rfl (vp_lt (lk_go (N := 64) rfl (by decide) hk c_44) (by decide) (by decide)) dX2_goOn_86 ?_
                  refine lv_isub hx hb dX2_goOn_87 ?_
                  refine lv_i2l hx hb dX2_goOn_88 rfl ?_
                  refine lv_lstore (lv' := [(9, .long ((sc - (se (nI k).toNatClampNeg)).toInt64)), (7, .long ((fi - (fd (nI k).toNatClampNeg)).toInt64)), (6, .int (nI k / 2)), (5, .int (nI k)), (4, .int 2), (0, .ref oP), (1, .int fi), (2, .int sc), (3, .int fr)]) hx hb dX2_goOn_89 hl (by decide) rfl (fun ls hl => ?_)
                  refine lv_iload_n hx hb dX2_goOn_91 rfl (lv_at hl 8 rfl) ?_
                  refine lv_if_eq (tgt := 115) hx hb dX2_goOn_92 (by decide) (fun c_92 => ?_) (fun c_92 => ?_)
                  · skip
                    refine lv_aload_n hx hb dX2_goOn_115 rfl (lv_at hl 5 rfl) ?_
                    refine va_get (D := D) (ci := 2) (v := .ref aR) (C := RX2) (T := TX2) (N := 9) hx hb htb ml_X2 hown hK hP 0 rfl rfl 6 (by decide) (htb _ mf_X2_32) (fun _ h9 => h9) rfl dX2_goOn_116 ?_
                    refine lv_iload hx hb dX2_goOn_119 (lv_at hl 2 rfl) ?_
                    refine va_lald (D := D) hx hb hK hP 4 1 rfl rfl (vp_half (lk_go (N := 64) rfl (by decide) hk c_44)) dX2_goOn_121 ?_
                    refine lv_lstore (lv' := [(11, .long (ro (nI k / 2).toNatClampNeg)), (9, .long ((sc - (se (nI k).toNatClampNeg)).toInt64)), (7, .long ((fi - (fd (nI k).toNatClampNeg)).toInt64)), (6, .int (nI k / 2)), (5, .int (nI k)), (4, .int 2), (0, .ref oP), (1, .int fi), (2, .int sc), (3, .int fr)]) hx hb dX2_goOn_122 hl (by decide) rfl (fun ls hl => ?_)
                    refine lv_aload_n hx hb dX2_goOn_124 rfl (lv_at hl 6 rfl) ?_
                    refine lv_iload hx hb dX2_goOn_125 (lv_at hl 4 rfl) ?_
                    refine lv_bipush (v := 32) hx hb dX2_goOn_127 (by decide) ?_
                    refine lv_irem hx hb dX2_goOn_129 (by decide) ?_
                    refine lv_aload_n hx hb dX2_goOn_130 rfl (lv_at hl 6 rfl) ?_
                    refine va_get (D := D) (ci := 2) (v := .ref aC) (C := RX2) (T := TX2) (N := 9) hx hb htb ml_X2 hown hK hP 0 rfl rfl 5 (by decide) (htb _ mf_X2_28) (fun _ h9 => h9) rfl dX2_goOn_131 ?_
                    refine lv_iload hx hb dX2_goOn_134 (lv_at hl 3 rfl) ?_
                    refine va_lald (D := D) hx hb hK hP 3 1 rfl rfl (vp_half (lk_go (N := 64) rfl (by decide) hk c_44)) dX2_goOn_136 ?_
                    refine lv_lload hx hb dX2_goOn_137 (lv_at hl 2 rfl) ?_
                    refine lv_lload hx hb dX2_goOn_139 (lv_at hl 2 rfl) ?_
                    refine lv_lmul hx hb dX2_goOn_141 ?_
                    refine lv_topl (fun v_141 e_v_141 => ?_)
                    refine lv_ladd hx hb dX2_goOn_142 ?_
                    refine lv_lload hx hb dX2_goOn_143 (lv_at hl 1 rfl) ?_
                    refine lv_lload hx hb dX2_goOn_145 (lv_at hl 1 rfl) ?_
                    refine lv_lmul hx hb dX2_goOn_147 ?_
                    refine lv_topl (fun v_147 e_v_147 => ?_)
                    refine lv_ladd hx hb dX2_goOn_148 ?_
                    refine lv_lload hx hb dX2_goOn_149 (lv_at hl 0 rfl) ?_
                    have hDc := hD.sub (ws' := [(oP, .inr (2, [.ref aG, .long bc, .long br, .ref aF, .ref aE, .ref aC, .ref aR, .ref aN, .ref aM])), (aN, .inl (cJ, 32, .inr (.inl cf))), (aM, .inl (cJ, 32, .inr (.inl rf)))]) [0, 5, 6] (by decide) rfl
                    have hFc := va_free (wc := [(oP, .inr (2, [.ref aG, .long bc, .long br, .ref aF, .ref aE, .ref aC, .ref aR, .ref aN, .ref aM])), (aN, .inl (cJ, 32, .inr (.inl cf))), (aM, .inl (cJ, 32, .inr (.inl rf)))]) hD hS hA [0, 5, 6] rfl
                    refine va_callv (va_runV (As := [.int (nI k - nI k / 32 * 32), .long (((co (nI k / 2).toNatClampNeg) + v_141) + v_147), .long (ro (nI k / 2).toNatClampNeg)]) (rest := []) ⟨hx, hb, hml, hown, htb⟩ (c_X2_offer l D cI cJ oP aG aF aE aC aR aN aM bc br cf rf (nI k - nI k / 32 * 32) (((co (nI k / 2).toNatClampNeg) + v_141) + v_147) (ro (nI k / 2).toNatClampNeg) H.size ) (cb_V htb mt_X2_offer mi_yX2_offer mx_yX2_offer mm_X2_92 ⟨Nat.le_trans (Nat.le_of_ble_eq_true rfl) hRf, Nat.le_trans (Nat.le_of_ble_eq_true rfl) hRl⟩) ⟨bl_W, va_recv hK hP (ci := 2) (q0 := 0) rfl rfl, pre_W (hP.sub (ws' := [(oP, .inr (2, [.ref aG, .long bc, .long br, .ref aF, .ref aE, .ref aC, .ref aR, .ref aN, .ref aM])), (aN, .inl (cJ, 32, .inr (.inl cf))), (aM, .inl (cJ, 32, .inr (.inl rf)))]) [0, 5, 6] rfl) hK hN hDc⟩ rfl rfl hl.1 rfl (lv_room (Nat.le_of_ble_eq_true rfl)) dX2_goOn_151 ⟨Nat.zero_le _, Nat.zero_le _⟩) hS (fun q _ h => hFc q h) hFc (fun u t H1 locs ht hvm hu hB hz1 hk1 hS => ?_)
                    obtain ⟨nc2_151, nr2_151, h_151, hP1, hD1⟩ := hB
                    rw [ht] at hP1
                    obtain ⟨hP, hD⟩ := va_join (wr := [(aF, .inl (cI, 64, .inl fd)), (aE, .inl (cI, 64, .inl se)), (aC, .inl (cJ, 32, .inr (.inl co))), (aR, .inl (cJ, 32, .inr (.inl ro)))]) (w1 := [(oP, .inr (2, [.ref aG, .long bc, .long br, .ref aF, .ref aE, .ref aC, .ref aR, .ref aN, .ref aM])), (aN, .inl (cJ, 32, .inr (.inl nc2_151))), (aM, .inl (cJ, 32, .inr (.inl nr2_151)))]) hP hD [0, 5, 6] [1, 2, 3, 4] rfl rfl (by decide) (by decide) hk1 hFc hP1 hD1
                    clear hk1 hz1 hvm ht hP1 hD1 hFc hDc
                    generalize H1 = H at hP hS ⊢
                    have hP : va_P D vwCl [(oP, .inr (2, [.ref aG, .long bc, .long br, .ref aF, .ref aE, .ref aC, .ref aR, .ref aN, .ref aM])), (aF, .inl (cI, 64, .inl fd)), (aE, .inl (cI, 64, .inl se)), (aC, .inl (cJ, 32, .inr (.inl co))), (aR, .inl (cJ, 32, .inr (.inl ro))), (aN, .inl (cJ, 32, .inr (.inl nc2_151))), (aM, .inl (cJ, 32, .inr (.inl nr2_151)))] H := hP.sub [4, 0, 1, 2, 3, 5, 6] rfl
                    have hD : va_D A [(oP, .inr (2, [.ref aG, .long bc, .long br, .ref aF, .ref aE, .ref aC, .ref aR, .ref aN, .ref aM])), (aF, .inl (cI, 64, .inl fd)), (aE, .inl (cI, 64, .inl se)), (aC, .inl (cJ, 32, .inr (.inl co))), (aR, .inl (cJ, 32, .inr (.inl ro))), (aN, .inl (cJ, 32, .inr (.inl nc2_151))), (aM, .inl (cJ, 32, .inr (.inl nr2_151)))] := hD.sub [4, 0, 1, 2, 3, 5, 6] (by decide) rfl
                    refine lv_iload hx hb dX2_goOn_154 (lv_at hl 4 rfl) ?_
                    refine lv_iload hx hb dX2_goOn_156 (lv_at hl 5 rfl) ?_
                    refine lv_iadd hx hb dX2_goOn_158 ?_
                    refine lv_eqi (y := nI (k + 2)) (nI_s2 k) ?_
                    refine lv_istore (lv' := [(5, .int (nI (k + 2))), (11, .long (ro (nI k / 2).toNatClampNeg)), (9, .long ((sc - (se (nI k).toNatClampNeg)).toInt64)), (7, .long ((fi - (fd (nI k).toNatClampNeg)).toInt64)), (6, .int (nI k / 2)), (4, .int 2), (0, .ref oP), (1, .int fi), (2, .int sc), (3, .int fr)]) hx hb dX2_goOn_159 hl (by decide) rfl (fun ls hl => ?_)
                    refine lv_goto (tgt := 40) hx hb dX2_goOn_161 (by decide) ?_
                    exact ih_40 (k + 2) nc2_151 nr2_151 _ _ _ (by have := lk_go (N := 64) rfl (by decide) hk c_44; omega) (by have := lk_go (N := 64) rfl (by decide) hk c_44; omega) hP hD hS (lv_sub hl [0, 5, 6, 7, 8, 9] rfl)
                  · skip
                    refine lv_ldc2 (v := 2) hx hb hown (htb _ mk_X2_90) dX2_goOn_95 ?_
                    refine lv_aload_n hx hb dX2_goOn_98 rfl (lv_at hl 5 rfl) ?_
                    refine va_get (D := D) (ci := 2) (v := .ref aR) (C := RX2) (T := TX2) (N := 9) hx hb htb ml_X2 hown hK hP 0 rfl rfl 6 (by decide) (htb _ mf_X2_32) (fun _ h9 => h9) rfl dX2_goOn_99 ?_
                    refine lv_iload hx hb dX2_goOn_102 (lv_at hl 2 rfl) ?_
                    refine va_lald (D := D) hx hb hK hP 4 1 rfl rfl (vp_half (lk_go (N := 64) rfl (by decide) hk c_44)) dX2_goOn_104 ?_
                    refine lv_lmul hx hb dX2_goOn_105 ?_
                    refine lv_iload hx hb dX2_goOn_106 (lv_at hl 3 rfl) ?_
                    refine lv_iconst (v := 2) hx hb dX2_goOn_108 (by decide) ?_
                    refine lv_irem hx hb dX2_goOn_109 (by decide) ?_
                    refine lv_i2l hx hb dX2_goOn_110 rfl ?_
                    refine lv_ladd hx hb dX2_goOn_111 ?_
                    refine lv_topl (fun v_111 e_v_111 => ?_)
                    refine lv_goto (tgt := 122) hx hb dX2_goOn_112 (by decide) ?_
                    refine lv_lstore (lv' := [(11, .long v_111), (9, .long ((sc - (se (nI k).toNatClampNeg)).toInt64)), (7, .long ((fi - (fd (nI k).toNatClampNeg)).toInt64)), (6, .int (nI k / 2)), (5, .int (nI k)), (4, .int 2), (0, .ref oP), (1, .int fi), (2, .int sc), (3, .int fr)]) hx hb dX2_goOn_122 hl (by decide) rfl (fun ls hl => ?_)
                    refine lv_aload_n hx hb dX2_goOn_124 rfl (lv_at hl 6 rfl) ?_
                    refine lv_iload hx hb dX2_goOn_125 (lv_at hl 4 rfl) ?_
                    refine lv_bipush (v := 32) hx hb dX2_goOn_127 (by decide) ?_
                    refine lv_irem hx hb dX2_goOn_129 (by decide) ?_
                    refine lv_aload_n hx hb dX2_goOn_130 rfl (lv_at hl 6 rfl) ?_
                    refine va_get (D := D) (ci := 2) (v := .ref aC) (C := RX2) (T := TX2) (N := 9) hx hb htb ml_X2 hown hK hP 0 rfl rfl 5 (by decide) (htb _ mf_X2_28) (fun _ h9 => h9) rfl dX2_goOn_131 ?_
                    refine lv_iload hx hb dX2_goOn_134 (lv_at hl 3 rfl) ?_
                    refine va_lald (D := D) hx hb hK hP 3 1 rfl rfl (vp_half (lk_go (N := 64) rfl (by decide) hk c_44)) dX2_goOn_136 ?_
                    refine lv_lload hx hb dX2_goOn_137 (lv_at hl 2 rfl) ?_
                    refine lv_lload hx hb dX2_goOn_139 (lv_at hl 2 rfl) ?_
                    refine lv_lmul hx hb dX2_goOn_141 ?_
                    refine lv_topl (fun v_141 e_v_141 => ?_)
                    refine lv_ladd hx hb dX2_goOn_142 ?_
                    refine lv_lload hx hb dX2_goOn_143 (lv_at hl 1 rfl) ?_
                    refine lv_lload hx hb dX2_goOn_145 (lv_at hl 1 rfl) ?_
                    refine lv_lmul hx hb dX2_goOn_147 ?_
                    refine lv_topl (fun v_147 e_v_147 => ?_)
                    refine lv_ladd hx hb dX2_goOn_148 ?_
                    refine lv_lload hx hb dX2_goOn_149 (lv_at hl 0 rfl) ?_
                    have hDc := hD.sub (ws' := [(oP, .inr (2, [.ref aG, .long bc, .long br, .ref aF, .ref aE, .ref aC, .ref aR, .ref aN, .ref aM])), (aN, .inl (cJ, 32, .inr (.inl cf))), (aM, .inl (cJ, 32, .inr (.inl rf)))]) [0, 5, 6] (by decide) rfl
                    have hFc := va_free (wc := [(oP, .inr (2, [.ref aG, .long bc, .long br, .ref aF, .ref aE, .ref aC, .ref aR, .ref aN, .ref aM])), (aN, .inl (cJ, 32, .inr (.inl cf))), (aM, .inl (cJ, 32, .inr (.inl rf)))]) hD hS hA [0, 5, 6] rfl
                    refine va_callv (va_runV (As := [.int (nI k - nI k / 32 * 32), .long (((co (nI k / 2).toNatClampNeg) + v_141) + v_147), .long v_111]) (rest := []) ⟨hx, hb, hml, hown, htb⟩ (c_X2_offer l D cI cJ oP aG aF aE aC aR aN aM bc br cf rf (nI k - nI k / 32 * 32) (((co (nI k / 2).toNatClampNeg) + v_141) + v_147) v_111 H.size ) (cb_V htb mt_X2_offer mi_yX2_offer mx_yX2_offer mm_X2_92 ⟨Nat.le_trans (Nat.le_of_ble_eq_true rfl) hRf, Nat.le_trans (Nat.le_of_ble_eq_true rfl) hRl⟩) ⟨bl_W, va_recv hK hP (ci := 2) (q0 := 0) rfl rfl, pre_W (hP.sub (ws' := [(oP, .inr (2, [.ref aG, .long bc, .long br, .ref aF, .ref aE, .ref aC, .ref aR, .ref aN, .ref aM])), (aN, .inl (cJ, 32, .inr (.inl cf))), (aM, .inl (cJ, 32, .inr (.inl rf)))]) [0, 5, 6] rfl) hK hN hDc⟩ rfl rfl hl.1 rfl (lv_room (Nat.le_of_ble_eq_true rfl)) dX2_goOn_151 ⟨Nat.zero_le _, Nat.zero_le _⟩) hS (fun q _ h => hFc q h) hFc (fun u t H1 locs ht hvm hu hB hz1 hk1 hS => ?_)
                    obtain ⟨nc2_151, nr2_151, h_151, hP1, hD1⟩ := hB
                    rw [ht] at hP1
                    obtain ⟨hP, hD⟩ := va_join (wr := [(aF, .inl (cI, 64, .inl fd)), (aE, .inl (cI, 64, .inl se)), (aC, .inl (cJ, 32, .inr (.inl co))), (aR, .inl (cJ, 32, .inr (.inl ro)))]) (w1 := [(oP, .inr (2, [.ref aG, .long bc, .long br, .ref aF, .ref aE, .ref aC, .ref aR, .ref aN, .ref aM])), (aN, .inl (cJ, 32, .inr (.inl nc2_151))), (aM, .inl (cJ, 32, .inr (.inl nr2_151)))]) hP hD [0, 5, 6] [1, 2, 3, 4] rfl rfl (by decide) (by decide) hk1 hFc hP1 hD1
                    clear hk1 hz1 hvm ht hP1 hD1 hFc hDc
                    generalize H1 = H at hP hS ⊢
                    have hP : va_P D vwCl [(oP, .inr (2, [.ref aG, .long bc, .long br, .ref aF, .ref aE, .ref aC, .ref aR, .ref aN, .ref aM])), (aF, .inl (cI, 64, .inl fd)), (aE, .inl (cI, 64, .inl se)), (aC, .inl (cJ, 32, .inr (.inl co))), (aR, .inl (cJ, 32, .inr (.inl ro))), (aN, .inl (cJ, 32, .inr (.inl nc2_151))), (aM, .inl (cJ, 32, .inr (.inl nr2_151)))] H := hP.sub [4, 0, 1, 2, 3, 5, 6] rfl
                    have hD : va_D A [(oP, .inr (2, [.ref aG, .long bc, .long br, .ref aF, .ref aE, .ref aC, .ref aR, .ref aN, .ref aM])), (aF, .inl (cI, 64, .inl fd)), (aE, .inl (cI, 64, .inl se)), (aC, .inl (cJ, 32, .inr (.inl co))), (aR, .inl (cJ, 32, .inr (.inl ro))), (aN, .inl (cJ, 32, .inr (.inl nc2_151))), (aM, .inl (cJ, 32, .inr (.inl nr2_151)))] := hD.sub [4, 0, 1, 2, 3, 5, 6] (by decide) rfl
                    refine lv_iload hx hb dX2_goOn_154 (lv_at hl 4 rfl) ?_
                    refine lv_iload hx hb dX2_goOn_156 (lv_at hl 5 rfl) ?_
                    refine lv_iadd hx hb dX2_goOn_158 ?_
                    refine lv_eqi (y := nI (k + 2)) (nI_s2 k) ?_
                    refine lv_istore (lv' := [(5, .int (nI (k + 2))), (11, .long v_111), (9, .long ((sc - (se (nI k).toNatClampNeg)).toInt64)), (7, .long ((fi - (fd (nI k).toNatClampNeg)).toInt64)), (6, .int (nI k / 2)), (4, .int 2), (0, .ref oP), (1, .int fi), (2, .int sc), (3, .int fr)]) hx hb dX2_goOn_159 hl (by decide) rfl (fun ls hl => ?_)
                    refine lv_goto (tgt := 40) hx hb dX2_goOn_161 (by decide) ?_
                    exact ih_40 (k + 2) nc2_151 nr2_151 _ _ _ (by have := lk_go (N := 64) rfl (by decide) hk c_44; omega) (by have := lk_go (N := 64) rfl (by decide) hk c_44; omega) hP hD hS (lv_sub hl [0, 5, 6, 7, 8, 9] rfl)
          exact LOOP_40 _ 0 cf nr _ _ _ (by decide) (Nat.lt_succ_self _) hP hD hS (lv_sub hl [0, 1, 2, 3, 4, 5] rfl)
        · skip
          refine lv_iconst (v := 1) hx hb dX2_goOn_30 (by decide) ?_
          refine lv_goto (tgt := 35) hx hb dX2_goOn_31 (by decide) ?_
          refine lv_istore (lv' := [(4, .int 1), (0, .ref oP), (1, .int fi), (2, .int sc), (3, .int fr)]) hx hb dX2_goOn_35 hl (by decide) rfl (fun ls hl => ?_)
          refine lv_iconst (v := 0) hx hb dX2_goOn_37 (by decide) ?_
          refine lv_istore (lv' := [(5, .int 0), (4, .int 1), (0, .ref oP), (1, .int fi), (2, .int sc), (3, .int fr)]) hx hb dX2_goOn_38 hl (by decide) rfl (fun ls hl => ?_)
          have LOOP_40 : ∀ (fu : Nat) (k : Nat) (cf : Nat → Int64) (rf : Nat → Int64) (H : Heap) (locs : List Loc) (ls : Array Slot), (k ≤ 64 + 2) → 64 + 2 - k < fu → va_P D vwCl [(oP, .inr (2, [.ref aG, .long bc, .long br, .ref aF, .ref aE, .ref aC, .ref aR, .ref aN, .ref aM])), (aF, .inl (cI, 64, .inl fd)), (aE, .inl (cI, 64, .inl se)), (aC, .inl (cJ, 32, .inr (.inl co))), (aR, .inl (cJ, 32, .inr (.inl ro))), (aN, .inl (cJ, 32, .inr (.inl cf))), (aM, .inl (cJ, 32, .inr (.inl rf)))] H → va_D A [(oP, .inr (2, [.ref aG, .long bc, .long br, .ref aF, .ref aE, .ref aC, .ref aR, .ref aN, .ref aM])), (aF, .inl (cI, 64, .inl fd)), (aE, .inl (cI, 64, .inl se)), (aC, .inl (cJ, 32, .inr (.inl co))), (aR, .inl (cJ, 32, .inr (.inl ro))), (aN, .inl (cJ, 32, .inr (.inl cf))), (aM, .inl (cJ, 32, .inr (.inl rf)))] → va_S A s.heap H locs → lv_has ls 13 [(5, .int (nI k)), (4, .int 1), (0, .ref oP), (1, .int fi), (2, .int sc), (3, .int fr)] → W p l e R s m args below meth c H locs 0 0 Q (F0 m 40 ls []) := by
            intro fu
            induction fu with
            | zero => intro k cf rf H locs ls hk hn; exact absurd hn (Nat.not_lt_zero _)
            | succ fu ih_40 =>
              intro k cf rf H locs ls hk hn hP hD hS hl
              refine lv_iload hx hb dX2_goOn_40 (lv_at hl 0 rfl) ?_
              refine lv_bipush (v := 64) hx hb dX2_goOn_42 (by decide) ?_
              refine lv_icmp_ge (tgt := 164) hx hb dX2_goOn_44 (by decide) (fun c_44 => ?_) (fun c_44 => ?_)
              · skip
                refine lv_aload_n hx hb dX2_goOn_164 rfl (lv_at hl 2 rfl) ?_
                refine va_get (D := D) (ci := 2) (v := .ref aN) (C := RX2) (T := TX2) (N := 9) hx hb htb ml_X2 hown hK hP 0 rfl rfl 7 (by decide) (htb _ mf_X2_35) (fun _ h9 => h9) rfl dX2_goOn_165 ?_
                refine lv_iconst (v := 0) hx hb dX2_goOn_168 (by decide) ?_
                refine lv_aload_n hx hb dX2_goOn_169 rfl (lv_at hl 2 rfl) ?_
                refine va_get (D := D) (ci := 2) (v := .ref aC) (C := RX2) (T := TX2) (N := 9) hx hb htb ml_X2 hown hK hP 0 rfl rfl 5 (by decide) (htb _ mf_X2_28) (fun _ h9 => h9) rfl dX2_goOn_170 ?_
                refine lv_iconst (v := 0) hx hb dX2_goOn_173 (by decide) ?_
                refine lv_bipush (v := 32) hx hb dX2_goOn_174 (by decide) ?_
                refine va_copyl (D := D) hx hb (by rw [hml]; exact hl.1.symm) hown (htb _ mm_X2_96) (htb _ mv_arraycopyName) (htb _ ms_arraycopyName) (htb _ mn_System) hK hP hD hS 5 3 1 1 rfl rfl rfl rfl rfl (sp := 0) (dp := 0) (n := 32) (by decide) (by decide) (by decide) (by decide) (by decide) (fun _ _ => rfl) (Nat.le_trans (Nat.le_of_ble_eq_true rfl) hRf) (Nat.le_trans (by decide) hRl) dX2_goOn_176 (fun H locs hP hD hS => ?_)
                have hP : va_P D vwCl [(oP, .inr (2, [.ref aG, .long bc, .long br, .ref aF, .ref aE, .ref aC, .ref aR, .ref aN, .ref aM])), (aF, .inl (cI, 64, .inl fd)), (aE, .inl (cI, 64, .inl se)), (aC, .inl (cJ, 32, .inr (.inl (va_cpy cf co (0 : Int32).toNatClampNeg (0 : Int32).toNatClampNeg (32 : Int32).toNatClampNeg)))), (aR, .inl (cJ, 32, .inr (.inl ro))), (aN, .inl (cJ, 32, .inr (.inl cf))), (aM, .inl (cJ, 32, .inr (.inl rf)))] H := hP
                have hD : va_D A [(oP, .inr (2, [.ref aG, .long bc, .long br, .ref aF, .ref aE, .ref aC, .ref aR, .ref aN, .ref aM])), (aF, .inl (cI, 64, .inl fd)), (aE, .inl (cI, 64, .inl se)), (aC, .inl (cJ, 32, .inr (.inl (va_cpy cf co (0 : Int32).toNatClampNeg (0 : Int32).toNatClampNeg (32 : Int32).toNatClampNeg)))), (aR, .inl (cJ, 32, .inr (.inl ro))), (aN, .inl (cJ, 32, .inr (.inl cf))), (aM, .inl (cJ, 32, .inr (.inl rf)))] := hD
                obtain ⟨f_176, e_f_176⟩ : ∃ g, g = (va_cpy cf co (0 : Int32).toNatClampNeg (0 : Int32).toNatClampNeg (32 : Int32).toNatClampNeg) := ⟨_, rfl⟩
                rw [← e_f_176] at hP hD
                have hP : va_P D vwCl [(oP, .inr (2, [.ref aG, .long bc, .long br, .ref aF, .ref aE, .ref aC, .ref aR, .ref aN, .ref aM])), (aF, .inl (cI, 64, .inl fd)), (aE, .inl (cI, 64, .inl se)), (aC, .inl (cJ, 32, .inr (.inl f_176))), (aR, .inl (cJ, 32, .inr (.inl ro))), (aN, .inl (cJ, 32, .inr (.inl cf))), (aM, .inl (cJ, 32, .inr (.inl rf)))] H := hP
                have hD : va_D A [(oP, .inr (2, [.ref aG, .long bc, .long br, .ref aF, .ref aE, .ref aC, .ref aR, .ref aN, .ref aM])), (aF, .inl (cI, 64, .inl fd)), (aE, .inl (cI, 64, .inl se)), (aC, .inl (cJ, 32, .inr (.inl f_176))), (aR, .inl (cJ, 32, .inr (.inl ro))), (aN, .inl (cJ, 32, .inr (.inl cf))), (aM, .inl (cJ, 32, .inr (.inl rf)))] := hD
                refine lv_aload_n hx hb dX2_goOn_179 rfl (lv_at hl 2 rfl) ?_
                refine va_get (D := D) (ci := 2) (v := .ref aM) (C := RX2) (T := TX2) (N := 9) hx hb htb ml_X2 hown hK hP 0 rfl rfl 8 (by decide) (htb _ mf_X2_38) (fun _ h9 => h9) rfl dX2_goOn_180 ?_
                refine lv_iconst (v := 0) hx hb dX2_goOn_183 (by decide) ?_
                refine lv_aload_n hx hb dX2_goOn_184 rfl (lv_at hl 2 rfl) ?_
                refine va_get (D := D) (ci := 2) (v := .ref aR) (C := RX2) (T := TX2) (N := 9) hx hb htb ml_X2 hown hK hP 0 rfl rfl 6 (by decide) (htb _ mf_X2_32) (fun _ h9 => h9) rfl dX2_goOn_185 ?_
                refine lv_iconst (v := 0) hx hb dX2_goOn_188 (by decide) ?_
                refine lv_bipush (v := 32) hx hb dX2_goOn_189 (by decide) ?_
                refine va_copyl (D := D) hx hb (by rw [hml]; exact hl.1.symm) hown (htb _ mm_X2_96) (htb _ mv_arraycopyName) (htb _ ms_arraycopyName) (htb _ mn_System) hK hP hD hS 6 4 1 1 rfl rfl rfl rfl rfl (sp := 0) (dp := 0) (n := 32) (by decide) (by decide) (by decide) (by decide) (by decide) (fun _ _ => rfl) (Nat.le_trans (Nat.le_of_ble_eq_true rfl) hRf) (Nat.le_trans (by decide) hRl) dX2_goOn_191 (fun H locs hP hD hS => ?_)
                have hP : va_P D vwCl [(oP, .inr (2, [.ref aG, .long bc, .long br, .ref aF, .ref aE, .ref aC, .ref aR, .ref aN, .ref aM])), (aF, .inl (cI, 64, .inl fd)), (aE, .inl (cI, 64, .inl se)), (aC, .inl (cJ, 32, .inr (.inl f_176))), (aR, .inl (cJ, 32, .inr (.inl (va_cpy rf ro (0 : Int32).toNatClampNeg (0 : Int32).toNatClampNeg (32 : Int32).toNatClampNeg)))), (aN, .inl (cJ, 32, .inr (.inl cf))), (aM, .inl (cJ, 32, .inr (.inl rf)))] H := hP
                have hD : va_D A [(oP, .inr (2, [.ref aG, .long bc, .long br, .ref aF, .ref aE, .ref aC, .ref aR, .ref aN, .ref aM])), (aF, .inl (cI, 64, .inl fd)), (aE, .inl (cI, 64, .inl se)), (aC, .inl (cJ, 32, .inr (.inl f_176))), (aR, .inl (cJ, 32, .inr (.inl (va_cpy rf ro (0 : Int32).toNatClampNeg (0 : Int32).toNatClampNeg (32 : Int32).toNatClampNeg)))), (aN, .inl (cJ, 32, .inr (.inl cf))), (aM, .inl (cJ, 32, .inr (.inl rf)))] := hD
                obtain ⟨f_191, e_f_191⟩ : ∃ g, g = (va_cpy rf ro (0 : Int32).toNatClampNeg (0 : Int32).toNatClampNeg (32 : Int32).toNatClampNeg) := ⟨_, rfl⟩
                rw [← e_f_191] at hP hD
                have hP : va_P D vwCl [(oP, .inr (2, [.ref aG, .long bc, .long br, .ref aF, .ref aE, .ref aC, .ref aR, .ref aN, .ref aM])), (aF, .inl (cI, 64, .inl fd)), (aE, .inl (cI, 64, .inl se)), (aC, .inl (cJ, 32, .inr (.inl f_176))), (aR, .inl (cJ, 32, .inr (.inl f_191))), (aN, .inl (cJ, 32, .inr (.inl cf))), (aM, .inl (cJ, 32, .inr (.inl rf)))] H := hP
                have hD : va_D A [(oP, .inr (2, [.ref aG, .long bc, .long br, .ref aF, .ref aE, .ref aC, .ref aR, .ref aN, .ref aM])), (aF, .inl (cI, 64, .inl fd)), (aE, .inl (cI, 64, .inl se)), (aC, .inl (cJ, 32, .inr (.inl f_176))), (aR, .inl (cJ, 32, .inr (.inl f_191))), (aN, .inl (cJ, 32, .inr (.inl cf))), (aM, .inl (cJ, 32, .inr (.inl rf)))] := hD
                exact hret f_176 f_191 cf rf _ _ _ _ dX2_goOn_194 (trivial) hP hD hS
              · skip
                refine lv_iload hx hb dX2_goOn_47 (lv_at hl 0 rfl) ?_
                refine lv_iconst (v := 2) hx hb dX2_goOn_49 (by decide) ?_
                refine lv_idiv hx hb dX2_goOn_50 (by decide) ?_
                refine lv_istore (lv' := [(6, .int (nI k / 2)), (5, .int (nI k)), (4, .int 1), (0, .ref oP), (1, .int fi), (2, .int sc), (3, .int fr)]) hx hb dX2_goOn_51 hl (by decide) rfl (fun ls hl => ?_)
                refine lv_aload_n hx hb dX2_goOn_53 rfl (lv_at hl 3 rfl) ?_
                refine va_get (D := D) (ci := 2) (v := .ref aC) (C := RX2) (T := TX2) (N := 9) hx hb htb ml_X2 hown hK hP 0 rfl rfl 5 (by decide) (htb _ mf_X2_28) (fun _ h9 => h9) rfl dX2_goOn_54 ?_
                refine lv_iload hx hb dX2_goOn_57 (lv_at hl 0 rfl) ?_
                refine va_lald (D := D) hx hb hK hP 3 1 rfl rfl (vp_half (lk_go (N := 64) rfl (by decide) hk c_44)) dX2_goOn_59 ?_
                refine lv_ldc2 (v := 1152921504606846976) hx hb hown (htb _ mk_X2_74) dX2_goOn_60 ?_
                refine W.lcmp hx hb dX2_goOn_63 ?_
                refine lv_if_ge (tgt := 154) hx hb dX2_goOn_64 (by decide) (fun c_64 => ?_) (fun c_64 => ?_)
                · skip
                  refine lv_iload hx hb dX2_goOn_154 (lv_at hl 1 rfl) ?_
                  refine lv_iload hx hb dX2_goOn_156 (lv_at hl 2 rfl) ?_
                  refine lv_iadd hx hb dX2_goOn_158 ?_
                  refine lv_eqi (y := nI (k + 1)) (nI_s k) ?_
                  refine lv_istore (lv' := [(5, .int (nI (k + 1))), (6, .int (nI k / 2)), (4, .int 1), (0, .ref oP), (1, .int fi), (2, .int sc), (3, .int fr)]) hx hb dX2_goOn_159 hl (by decide) rfl (fun ls hl => ?_)
                  refine lv_goto (tgt := 40) hx hb dX2_goOn_161 (by decide) ?_
                  exact ih_40 (k + 1) cf rf _ _ _ (by have := lk_go (N := 64) rfl (by decide) hk c_44; omega) (by have := lk_go (N := 64) rfl (by decide) hk c_44; omega) hP hD hS (lv_sub hl [0, 2, 3, 4, 5, 6] rfl)
                · skip
                  refine lv_iload_n hx hb dX2_goOn_67 rfl (lv_at hl 4 rfl) ?_
                  refine lv_aload_n hx hb dX2_goOn_68 rfl (lv_at hl 3 rfl) ?_
                  refine va_get (D := D) (ci := 2) (v := .ref aF) (C := RX2) (T := TX2) (N := 9) hx hb htb ml_X2 hown hK hP 0 rfl rfl 3 (by decide) (htb _ mf_X2_22) (fun _ h9 => h9) rfl dX2_goOn_69 ?_
                  refine lv_iload hx hb dX2_goOn_72 (lv_at hl 1 rfl) ?_
                  refine va_iald (D := D) hx hb hK hP 1 0 rfl rfl (vp_lt (lk_go (N := 64) rfl (by decide) hk c_44) (by decide) (by decide)) dX2_goOn_74 ?_
                  refine lv_isub hx hb dX2_goOn_75 ?_
                  refine lv_i2l hx hb dX2_goOn_76 rfl ?_
                  refine lv_lstore (lv' := [(7, .long ((fi - (fd (nI k).toNatClampNeg)).toInt64)), (6, .int (nI k / 2)), (5, .int (nI k)), (4, .int 1), (0, .ref oP), (1, .int fi), (2, .int sc), (3, .int fr)]) hx hb dX2_goOn_77 hl (by decide) rfl (fun ls hl => ?_)
                  refine lv_iload_n hx hb dX2_goOn_79 rfl (lv_at hl 6 rfl) ?_
                  refine lv_aload_n hx hb dX2_goOn_80 rfl (lv_at hl 4 rfl) ?_
                  refine va_get (D := D) (ci := 2) (v := .ref aE) (C := RX2) (T := TX2) (N := 9) hx hb htb ml_X2 hown hK hP 0 rfl rfl 4 (by decide) (htb _ mf_X2_25) (fun _ h9 => h9) rfl dX2_goOn_81 ?_
                  refine lv_iload hx hb dX2_goOn_84 (lv_at hl 2 rfl) ?_
                  refine va_iald (D := D) hx hb hK hP 2 0 rfl rfl (vp_lt (lk_go (N := 64) rfl (by decide) hk c_44) (by decide) (by decide)) dX2_goOn_86 ?_
                  refine lv_isub hx hb dX2_goOn_87 ?_
                  refine lv_i2l hx hb dX2_goOn_88 rfl ?_
                  refine lv_lstore (lv' := [(9, .long ((sc - (se (nI k).toNatClampNeg)).toInt64)), (7, .long ((fi - (fd (nI k).toNatClampNeg)).toInt64)), (6, .int (nI k / 2)), (5, .int (nI k)), (4, .int 1), (0, .ref oP), (1, .int fi), (2, .int sc), (3, .int fr)]) hx hb dX2_goOn_89 hl (by decide) rfl (fun ls hl => ?_)
                  refine lv_iload_n hx hb dX2_goOn_91 rfl (lv_at hl 8 rfl) ?_
                  refine lv_if_eq (tgt := 115) hx hb dX2_goOn_92 (by decide) (fun c_92 => ?_) (fun c_92 => ?_)
                  · skip
                    refine lv_aload_n hx hb dX2_goOn_115 rfl (lv_at hl 5 rfl) ?_
                    refine va_get (D := D) (ci := 2) (v := .ref aR) (C := RX2) (T := TX2) (N := 9) hx hb htb ml_X2 hown hK hP 0 rfl rfl 6 (by decide) (htb _ mf_X2_32) (fun _ h9 => h9) rfl dX2_goOn_116 ?_
                    refine lv_iload hx hb dX2_goOn_119 (lv_at hl 2 rfl) ?_
                    refine va_lald (D := D) hx hb hK hP 4 1 rfl rfl (vp_half (lk_go (N := 64) rfl (by decide) hk c_44)) dX2_goOn_121 ?_
                    refine lv_lstore (lv' := [(11, .long (ro (nI k / 2).toNatClampNeg)), (9, .long ((sc - (se (nI k).toNatClampNeg)).toInt64)), (7, .long ((fi - (fd (nI k).toNatClampNeg)).toInt64)), (6, .int (nI k / 2)), (5, .int (nI k)), (4, .int 1), (0, .ref oP), (1, .int fi), (2, .int sc), (3, .int fr)]) hx hb dX2_goOn_122 hl (by decide) rfl (fun ls hl => ?_)
                    refine lv_aload_n hx hb dX2_goOn_124 rfl (lv_at hl 6 rfl) ?_
                    refine lv_iload hx hb dX2_goOn_125 (lv_at hl 4 rfl) ?_
                    refine lv_bipush (v := 32) hx hb dX2_goOn_127 (by decide) ?_
                    refine lv_irem hx hb dX2_goOn_129 (by decide) ?_
                    refine lv_aload_n hx hb dX2_goOn_130 rfl (lv_at hl 6 rfl) ?_
                    refine va_get (D := D) (ci := 2) (v := .ref aC) (C := RX2) (T := TX2) (N := 9) hx hb htb ml_X2 hown hK hP 0 rfl rfl 5 (by decide) (htb _ mf_X2_28) (fun _ h9 => h9) rfl dX2_goOn_131 ?_
                    refine lv_iload hx hb dX2_goOn_134 (lv_at hl 3 rfl) ?_
                    refine va_lald (D := D) hx hb hK hP 3 1 rfl rfl (vp_half (lk_go (N := 64) rfl (by decide) hk c_44)) dX2_goOn_136 ?_
                    refine lv_lload hx hb dX2_goOn_137 (lv_at hl 2 rfl) ?_
                    refine lv_lload hx hb dX2_goOn_139 (lv_at hl 2 rfl) ?_
                    refine lv_lmul hx hb dX2_goOn_141 ?_
                    refine lv_topl (fun v_141 e_v_141 => ?_)
                    refine lv_ladd hx hb dX2_goOn_142 ?_
                    refine lv_lload hx hb dX2_goOn_143 (lv_at hl 1 rfl) ?_
                    refine lv_lload hx hb dX2_goOn_145 (lv_at hl 1 rfl) ?_
                    refine lv_lmul hx hb dX2_goOn_147 ?_
                    refine lv_topl (fun v_147 e_v_147 => ?_)
                    refine lv_ladd hx hb dX2_goOn_148 ?_
                    refine lv_lload hx hb dX2_goOn_149 (lv_at hl 0 rfl) ?_
                    have hDc := hD.sub (ws' := [(oP, .inr (2, [.ref aG, .long bc, .long br, .ref aF, .ref aE, .ref aC, .ref aR, .ref aN, .ref aM])), (aN, .inl (cJ, 32, .inr (.inl cf))), (aM, .inl (cJ, 32, .inr (.inl rf)))]) [0, 5, 6] (by decide) rfl
                    have hFc := va_free (wc := [(oP, .inr (2, [.ref aG, .long bc, .long br, .ref aF, .ref aE, .ref aC, .ref aR, .ref aN, .ref aM])), (aN, .inl (cJ, 32, .inr (.inl cf))), (aM, .inl (cJ, 32, .inr (.inl rf)))]) hD hS hA [0, 5, 6] rfl
                    refine va_callv (va_runV (As := [.int (nI k - nI k / 32 * 32), .long (((co (nI k / 2).toNatClampNeg) + v_141) + v_147), .long (ro (nI k / 2).toNatClampNeg)]) (rest := []) ⟨hx, hb, hml, hown, htb⟩ (c_X2_offer l D cI cJ oP aG aF aE aC aR aN aM bc br cf rf (nI k - nI k / 32 * 32) (((co (nI k / 2).toNatClampNeg) + v_141) + v_147) (ro (nI k / 2).toNatClampNeg) H.size ) (cb_V htb mt_X2_offer mi_yX2_offer mx_yX2_offer mm_X2_92 ⟨Nat.le_trans (Nat.le_of_ble_eq_true rfl) hRf, Nat.le_trans (Nat.le_of_ble_eq_true rfl) hRl⟩) ⟨bl_W, va_recv hK hP (ci := 2) (q0 := 0) rfl rfl, pre_W (hP.sub (ws' := [(oP, .inr (2, [.ref aG, .long bc, .long br, .ref aF, .ref aE, .ref aC, .ref aR, .ref aN, .ref aM])), (aN, .inl (cJ, 32, .inr (.inl cf))), (aM, .inl (cJ, 32, .inr (.inl rf)))]) [0, 5, 6] rfl) hK hN hDc⟩ rfl rfl hl.1 rfl (lv_room (Nat.le_of_ble_eq_true rfl)) dX2_goOn_151 ⟨Nat.zero_le _, Nat.zero_le _⟩) hS (fun q _ h => hFc q h) hFc (fun u t H1 locs ht hvm hu hB hz1 hk1 hS => ?_)
                    obtain ⟨nc2_151, nr2_151, h_151, hP1, hD1⟩ := hB
                    rw [ht] at hP1
                    obtain ⟨hP, hD⟩ := va_join (wr := [(aF, .inl (cI, 64, .inl fd)), (aE, .inl (cI, 64, .inl se)), (aC, .inl (cJ, 32, .inr (.inl co))), (aR, .inl (cJ, 32, .inr (.inl ro)))]) (w1 := [(oP, .inr (2, [.ref aG, .long bc, .long br, .ref aF, .ref aE, .ref aC, .ref aR, .ref aN, .ref aM])), (aN, .inl (cJ, 32, .inr (.inl nc2_151))), (aM, .inl (cJ, 32, .inr (.inl nr2_151)))]) hP hD [0, 5, 6] [1, 2, 3, 4] rfl rfl (by decide) (by decide) hk1 hFc hP1 hD1
                    clear hk1 hz1 hvm ht hP1 hD1 hFc hDc
                    generalize H1 = H at hP hS ⊢
                    have hP : va_P D vwCl [(oP, .inr (2, [.ref aG, .long bc, .long br, .ref aF, .ref aE, .ref aC, .ref aR, .ref aN, .ref aM])), (aF, .inl (cI, 64, .inl fd)), (aE, .inl (cI, 64, .inl se)), (aC, .inl (cJ, 32, .inr (.inl co))), (aR, .inl (cJ, 32, .inr (.inl ro))), (aN, .inl (cJ, 32, .inr (.inl nc2_151))), (aM, .inl (cJ, 32, .inr (.inl nr2_151)))] H := hP.sub [4, 0, 1, 2, 3, 5, 6] rfl
                    have hD : va_D A [(oP, .inr (2, [.ref aG, .long bc, .long br, .ref aF, .ref aE, .ref aC, .ref aR, .ref aN, .ref aM])), (aF, .inl (cI, 64, .inl fd)), (aE, .inl (cI, 64, .inl se)), (aC, .inl (cJ, 32, .inr (.inl co))), (aR, .inl (cJ, 32, .inr (.inl ro))), (aN, .inl (cJ, 32, .inr (.inl nc2_151))), (aM, .inl (cJ, 32, .inr (.inl nr2_151)))] := hD.sub [4, 0, 1, 2, 3, 5, 6] (by decide) rfl
                    refine lv_iload hx hb dX2_goOn_154 (lv_at hl 4 rfl) ?_
                    refine lv_iload hx hb dX2_goOn_156 (lv_at hl 5 rfl) ?_
                    refine lv_iadd hx hb dX2_goOn_158 ?_
                    refine lv_eqi (y := nI (k + 1)) (nI_s k) ?_
                    refine lv_istore (lv' := [(5, .int (nI (k + 1))), (11, .long (ro (nI k / 2).toNatClampNeg)), (9, .long ((sc - (se (nI k).toNatClampNeg)).toInt64)), (7, .long ((fi - (fd (nI k).toNatClampNeg)).toInt64)), (6, .int (nI k / 2)), (4, .int 1), (0, .ref oP), (1, .int fi), (2, .int sc), (3, .int fr)]) hx hb dX2_goOn_159 hl (by decide) rfl (fun ls hl => ?_)
                    refine lv_goto (tgt := 40) hx hb dX2_goOn_161 (by decide) ?_
                    exact ih_40 (k + 1) nc2_151 nr2_151 _ _ _ (by have := lk_go (N := 64) rfl (by decide) hk c_44; omega) (by have := lk_go (N := 64) rfl (by decide) hk c_44; omega) hP hD hS (lv_sub hl [0, 5, 6, 7, 8, 9] rfl)
                  · skip
                    refine lv_ldc2 (v := 2) hx hb hown (htb _ mk_X2_90) dX2_goOn_95 ?_
                    refine lv_aload_n hx hb dX2_goOn_98 rfl (lv_at hl 5 rfl) ?_
                    refine va_get (D := D) (ci := 2) (v := .ref aR) (C := RX2) (T := TX2) (N := 9) hx hb htb ml_X2 hown hK hP 0 rfl rfl 6 (by decide) (htb _ mf_X2_32) (fun _ h9 => h9) rfl dX2_goOn_99 ?_
                    refine lv_iload hx hb dX2_goOn_102 (lv_at hl 2 rfl) ?_
                    refine va_lald (D := D) hx hb hK hP 4 1 rfl rfl (vp_half (lk_go (N := 64) rfl (by decide) hk c_44)) dX2_goOn_104 ?_
                    refine lv_lmul hx hb dX2_goOn_105 ?_
                    refine lv_iload hx hb dX2_goOn_106 (lv_at hl 3 rfl) ?_
                    refine lv_iconst (v := 2) hx hb dX2_goOn_108 (by decide) ?_
                    refine lv_irem hx hb dX2_goOn_109 (by decide) ?_
                    refine lv_i2l hx hb dX2_goOn_110 rfl ?_
                    refine lv_ladd hx hb dX2_goOn_111 ?_
                    refine lv_topl (fun v_111 e_v_111 => ?_)
                    refine lv_goto (tgt := 122) hx hb dX2_goOn_112 (by decide) ?_
                    refine lv_lstore (lv' := [(11, .long v_111), (9, .long ((sc - (se (nI k).toNatClampNeg)).toInt64)), (7, .long ((fi - (fd (nI k).toNatClampNeg)).toInt64)), (6, .int (nI k / 2)), (5, .int (nI k)), (4, .int 1), (0, .ref oP), (1, .int fi), (2, .int sc), (3, .int fr)]) hx hb dX2_goOn_122 hl (by decide) rfl (fun ls hl => ?_)
                    refine lv_aload_n hx hb dX2_goOn_124 rfl (lv_at hl 6 rfl) ?_
                    refine lv_iload hx hb dX2_goOn_125 (lv_at hl 4 rfl) ?_
                    refine lv_bipush (v := 32) hx hb dX2_goOn_127 (by decide) ?_
                    refine lv_irem hx hb dX2_goOn_129 (by decide) ?_
                    refine lv_aload_n hx hb dX2_goOn_130 rfl (lv_at hl 6 rfl) ?_
                    refine va_get (D := D) (ci := 2) (v := .ref aC) (C := RX2) (T := TX2) (N := 9) hx hb htb ml_X2 hown hK hP 0 rfl rfl 5 (by decide) (htb _ mf_X2_28) (fun _ h9 => h9) rfl dX2_goOn_131 ?_
                    refine lv_iload hx hb dX2_goOn_134 (lv_at hl 3 rfl) ?_
                    refine va_lald (D := D) hx hb hK hP 3 1 rfl rfl (vp_half (lk_go (N := 64) rfl (by decide) hk c_44)) dX2_goOn_136 ?_
                    refine lv_lload hx hb dX2_goOn_137 (lv_at hl 2 rfl) ?_
                    refine lv_lload hx hb dX2_goOn_139 (lv_at hl 2 rfl) ?_
                    refine lv_lmul hx hb dX2_goOn_141 ?_
                    refine lv_topl (fun v_141 e_v_141 => ?_)
                    refine lv_ladd hx hb dX2_goOn_142 ?_
                    refine lv_lload hx hb dX2_goOn_143 (lv_at hl 1 rfl) ?_
                    refine lv_lload hx hb dX2_goOn_145 (lv_at hl 1 rfl) ?_
                    refine lv_lmul hx hb dX2_goOn_147 ?_
                    refine lv_topl (fun v_147 e_v_147 => ?_)
                    refine lv_ladd hx hb dX2_goOn_148 ?_
                    refine lv_lload hx hb dX2_goOn_149 (lv_at hl 0 rfl) ?_
                    have hDc := hD.sub (ws' := [(oP, .inr (2, [.ref aG, .long bc, .long br, .ref aF, .ref aE, .ref aC, .ref aR, .ref aN, .ref aM])), (aN, .inl (cJ, 32, .inr (.inl cf))), (aM, .inl (cJ, 32, .inr (.inl rf)))]) [0, 5, 6] (by decide) rfl
                    have hFc := va_free (wc := [(oP, .inr (2, [.ref aG, .long bc, .long br, .ref aF, .ref aE, .ref aC, .ref aR, .ref aN, .ref aM])), (aN, .inl (cJ, 32, .inr (.inl cf))), (aM, .inl (cJ, 32, .inr (.inl rf)))]) hD hS hA [0, 5, 6] rfl
                    refine va_callv (va_runV (As := [.int (nI k - nI k / 32 * 32), .long (((co (nI k / 2).toNatClampNeg) + v_141) + v_147), .long v_111]) (rest := []) ⟨hx, hb, hml, hown, htb⟩ (c_X2_offer l D cI cJ oP aG aF aE aC aR aN aM bc br cf rf (nI k - nI k / 32 * 32) (((co (nI k / 2).toNatClampNeg) + v_141) + v_147) v_111 H.size ) (cb_V htb mt_X2_offer mi_yX2_offer mx_yX2_offer mm_X2_92 ⟨Nat.le_trans (Nat.le_of_ble_eq_true rfl) hRf, Nat.le_trans (Nat.le_of_ble_eq_true rfl) hRl⟩) ⟨bl_W, va_recv hK hP (ci := 2) (q0 := 0) rfl rfl, pre_W (hP.sub (ws' := [(oP, .inr (2, [.ref aG, .long bc, .long br, .ref aF, .ref aE, .ref aC, .ref aR, .ref aN, .ref aM])), (aN, .inl (cJ, 32, .inr (.inl cf))), (aM, .inl (cJ, 32, .inr (.inl rf)))]) [0, 5, 6] rfl) hK hN hDc⟩ rfl rfl hl.1 rfl (lv_room (Nat.le_of_ble_eq_true rfl)) dX2_goOn_151 ⟨Nat.zero_le _, Nat.zero_le _⟩) hS (fun q _ h => hFc q h) hFc (fun u t H1 locs ht hvm hu hB hz1 hk1 hS => ?_)
                    obtain ⟨nc2_151, nr2_151, h_151, hP1, hD1⟩ := hB
                    rw [ht] at hP1
                    obtain ⟨hP, hD⟩ := va_join (wr := [(aF, .inl (cI, 64, .inl fd)), (aE, .inl (cI, 64, .inl se)), (aC, .inl (cJ, 32, .inr (.inl co))), (aR, .inl (cJ, 32, .inr (.inl ro)))]) (w1 := [(oP, .inr (2, [.ref aG, .long bc, .long br, .ref aF, .ref aE, .ref aC, .ref aR, .ref aN, .ref aM])), (aN, .inl (cJ, 32, .inr (.inl nc2_151))), (aM, .inl (cJ, 32, .inr (.inl nr2_151)))]) hP hD [0, 5, 6] [1, 2, 3, 4] rfl rfl (by decide) (by decide) hk1 hFc hP1 hD1
                    clear hk1 hz1 hvm ht hP1 hD1 hFc hDc
                    generalize H1 = H at hP hS ⊢
                    have hP : va_P D vwCl [(oP, .inr (2, [.ref aG, .long bc, .long br, .ref aF, .ref aE, .ref aC, .ref aR, .ref aN, .ref aM])), (aF, .inl (cI, 64, .inl fd)), (aE, .inl (cI, 64, .inl se)), (aC, .inl (cJ, 32, .inr (.inl co))), (aR, .inl (cJ, 32, .inr (.inl ro))), (aN, .inl (cJ, 32, .inr (.inl nc2_151))), (aM, .inl (cJ, 32, .inr (.inl nr2_151)))] H := hP.sub [4, 0, 1, 2, 3, 5, 6] rfl
                    have hD : va_D A [(oP, .inr (2, [.ref aG, .long bc, .long br, .ref aF, .ref aE, .ref aC, .ref aR, .ref aN, .ref aM])), (aF, .inl (cI, 64, .inl fd)), (aE, .inl (cI, 64, .inl se)), (aC, .inl (cJ, 32, .inr (.inl co))), (aR, .inl (cJ, 32, .inr (.inl ro))), (aN, .inl (cJ, 32, .inr (.inl nc2_151))), (aM, .inl (cJ, 32, .inr (.inl nr2_151)))] := hD.sub [4, 0, 1, 2, 3, 5, 6] (by decide) rfl
                    refine lv_iload hx hb dX2_goOn_154 (lv_at hl 4 rfl) ?_
                    refine lv_iload hx hb dX2_goOn_156 (lv_at hl 5 rfl) ?_
                    refine lv_iadd hx hb dX2_goOn_158 ?_
                    refine lv_eqi (y := nI (k + 1)) (nI_s k) ?_
                    refine lv_istore (lv' := [(5, .int (nI (k + 1))), (11, .long v_111), (9, .long ((sc - (se (nI k).toNatClampNeg)).toInt64)), (7, .long ((fi - (fd (nI k).toNatClampNeg)).toInt64)), (6, .int (nI k / 2)), (4, .int 1), (0, .ref oP), (1, .int fi), (2, .int sc), (3, .int fr)]) hx hb dX2_goOn_159 hl (by decide) rfl (fun ls hl => ?_)
                    refine lv_goto (tgt := 40) hx hb dX2_goOn_161 (by decide) ?_
                    exact ih_40 (k + 1) nc2_151 nr2_151 _ _ _ (by have := lk_go (N := 64) rfl (by decide) hk c_44; omega) (by have := lk_go (N := 64) rfl (by decide) hk c_44; omega) hP hD hS (lv_sub hl [0, 5, 6, 7, 8, 9] rfl)
          exact LOOP_40 _ 0 cf nr _ _ _ (by decide) (Nat.lt_succ_self _) hP hD hS (lv_sub hl [0, 1, 2, 3, 4, 5] rfl)
      · skip
        refine lv_aload_n hx hb dX2_goOn_10 rfl (lv_at hl 1 rfl) ?_
        refine va_get (D := D) (ci := 2) (v := .ref aN) (C := RX2) (T := TX2) (N := 9) hx hb htb ml_X2 hown hK hP 0 rfl rfl 7 (by decide) (htb _ mf_X2_35) (fun _ h9 => h9) rfl dX2_goOn_11 ?_
        refine lv_iload hx hb dX2_goOn_14 (lv_at hl 0 rfl) ?_
        refine lv_ldc2 (v := 1152921504606846976) hx hb hown (htb _ mk_X2_74) dX2_goOn_16 ?_
        refine va_last (D := D) hx hb hK hP hD hS 5 1 rfl rfl (vp_lt (lk_go (N := 32) rfl (by decide) hk c_7) (by decide) (by decide)) dX2_goOn_19 (fun H locs hP hD hS => ?_)
        have hP : va_P D vwCl [(oP, .inr (2, [.ref aG, .long bc, .long br, .ref aF, .ref aE, .ref aC, .ref aR, .ref aN, .ref aM])), (aF, .inl (cI, 64, .inl fd)), (aE, .inl (cI, 64, .inl se)), (aC, .inl (cJ, 32, .inr (.inl co))), (aR, .inl (cJ, 32, .inr (.inl ro))), (aN, .inl (cJ, 32, .inr (.inl (vp_updL cf (nI k).toNatClampNeg 1152921504606846976)))), (aM, .inl (cJ, 32, .inr (.inl nr)))] H := hP
        have hD : va_D A [(oP, .inr (2, [.ref aG, .long bc, .long br, .ref aF, .ref aE, .ref aC, .ref aR, .ref aN, .ref aM])), (aF, .inl (cI, 64, .inl fd)), (aE, .inl (cI, 64, .inl se)), (aC, .inl (cJ, 32, .inr (.inl co))), (aR, .inl (cJ, 32, .inr (.inl ro))), (aN, .inl (cJ, 32, .inr (.inl (vp_updL cf (nI k).toNatClampNeg 1152921504606846976)))), (aM, .inl (cJ, 32, .inr (.inl nr)))] := hD
        obtain ⟨f_19, e_f_19⟩ : ∃ g, g = (vp_updL cf (nI k).toNatClampNeg 1152921504606846976) := ⟨_, rfl⟩
        rw [← e_f_19] at hP hD
        have hP : va_P D vwCl [(oP, .inr (2, [.ref aG, .long bc, .long br, .ref aF, .ref aE, .ref aC, .ref aR, .ref aN, .ref aM])), (aF, .inl (cI, 64, .inl fd)), (aE, .inl (cI, 64, .inl se)), (aC, .inl (cJ, 32, .inr (.inl co))), (aR, .inl (cJ, 32, .inr (.inl ro))), (aN, .inl (cJ, 32, .inr (.inl f_19))), (aM, .inl (cJ, 32, .inr (.inl nr)))] H := hP
        have hD : va_D A [(oP, .inr (2, [.ref aG, .long bc, .long br, .ref aF, .ref aE, .ref aC, .ref aR, .ref aN, .ref aM])), (aF, .inl (cI, 64, .inl fd)), (aE, .inl (cI, 64, .inl se)), (aC, .inl (cJ, 32, .inr (.inl co))), (aR, .inl (cJ, 32, .inr (.inl ro))), (aN, .inl (cJ, 32, .inr (.inl f_19))), (aM, .inl (cJ, 32, .inr (.inl nr)))] := hD
        refine lv_iinc (v := nI (k + 1)) (lv' := [(4, .int (nI (k + 1))), (0, .ref oP), (1, .int fi), (2, .int sc), (3, .int fr)]) hx hb dX2_goOn_20 hl (k := 0) rfl (nI_s k) (by decide) rfl (fun ls hl => ?_)
        refine lv_goto (tgt := 3) hx hb dX2_goOn_23 (by decide) ?_
        exact ih_3 (k + 1) f_19 _ _ _ (by have := lk_go (N := 32) rfl (by decide) hk c_7; omega) (by have := lk_go (N := 32) rfl (by decide) hk c_7; omega) hP hD hS (lv_sub hl [0, 1, 2, 3, 4] rfl)
  exact LOOP_3 _ 0 nc _ _ _ (by decide) (Nat.lt_succ_self _) hP hD hS (lv_sub hl [0, 1, 2, 3, 4] rfl)
set_option maxHeartbeats 4000000 in
set_option maxRecDepth 100000 in
theorem c_X2_goOn (l : Launch) (D : va_G) (cI cJ : ClassId) (oP : Nat) (aG : Nat) (aF : Nat) (aE : Nat) (aC : Nat) (aR : Nat) (aN : Nat) (aM : Nat) (bc : Int64) (br : Int64) (fd : Nat → Int32) (se : Nat → Int32) (co : Nat → Int64) (ro : Nat → Int64) (nc : Nat → Int64) (nr : Nat → Int64) (fi : Int32) (sc : Int32) (fr : Int32) (sz : Nat)  : Met l yX2_goOn (Cond.code yX2_goOn cX2_goOn 13 none :: BIG) ({ frames := 2, cells := 0, slots := 0, locals := 60 }) (va_Pc [.ref oP, .int fi, .int sc, .int fr] (pr_W D cI cJ [(oP, .inr (2, [.ref aG, .long bc, .long br, .ref aF, .ref aE, .ref aC, .ref aR, .ref aN, .ref aM])), (aF, .inl (cI, 64, .inl fd)), (aE, .inl (cI, 64, .inl se)), (aC, .inl (cJ, 32, .inr (.inl co))), (aR, .inl (cJ, 32, .inr (.inl ro))), (aN, .inl (cJ, 32, .inr (.inl nc))), (aM, .inl (cJ, 32, .inr (.inl nr)))] sz)) (va_Qv (fun (_ : Unit) => True) (fun (_ : Unit) (t : State) => ∃ (co2 : Nat → Int64) (ro2 : Nat → Int64) (nc2 : Nat → Int64) (nr2 : Nat → Int64), (True) ∧ va_P D vwCl [(oP, .inr (2, [.ref aG, .long bc, .long br, .ref aF, .ref aE, .ref aC, .ref aR, .ref aN, .ref aM])), (aF, .inl (cI, 64, .inl fd)), (aE, .inl (cI, 64, .inl se)), (aC, .inl (cJ, 32, .inr (.inl co2))), (aR, .inl (cJ, 32, .inr (.inl ro2))), (aN, .inl (cJ, 32, .inr (.inl nc2))), (aM, .inl (cJ, 32, .inr (.inl nr2)))] t.heap ∧ va_D (va_A [(oP, .inr (2, [.ref aG, .long bc, .long br, .ref aF, .ref aE, .ref aC, .ref aR, .ref aN, .ref aM])), (aF, .inl (cI, 64, .inl fd)), (aE, .inl (cI, 64, .inl se)), (aC, .inl (cJ, 32, .inr (.inl co))), (aR, .inl (cJ, 32, .inr (.inl ro))), (aN, .inl (cJ, 32, .inr (.inl nc))), (aM, .inl (cJ, 32, .inr (.inl nr)))] sz) [(oP, .inr (2, [.ref aG, .long bc, .long br, .ref aF, .ref aE, .ref aC, .ref aR, .ref aN, .ref aM])), (aF, .inl (cI, 64, .inl fd)), (aE, .inl (cI, 64, .inl se)), (aC, .inl (cJ, 32, .inr (.inl co2))), (aR, .inl (cJ, 32, .inr (.inl ro2))), (aN, .inl (cJ, 32, .inr (.inl nc2))), (aM, .inl (cJ, 32, .inr (.inl nr2)))]) (va_A [(oP, .inr (2, [.ref aG, .long bc, .long br, .ref aF, .ref aE, .ref aC, .ref aR, .ref aN, .ref aM])), (aF, .inl (cI, 64, .inl fd)), (aE, .inl (cI, 64, .inl se)), (aC, .inl (cJ, 32, .inr (.inl co))), (aR, .inl (cJ, 32, .inr (.inl ro))), (aN, .inl (cJ, 32, .inr (.inl nc))), (aM, .inl (cJ, 32, .inr (.inl nr)))] sz)) 0 0 (va_A [(oP, .inr (2, [.ref aG, .long bc, .long br, .ref aF, .ref aE, .ref aC, .ref aR, .ref aN, .ref aM])), (aF, .inl (cI, 64, .inl fd)), (aE, .inl (cI, 64, .inl se)), (aC, .inl (cJ, 32, .inr (.inl co))), (aR, .inl (cJ, 32, .inr (.inl ro))), (aN, .inl (cJ, 32, .inr (.inl nc))), (aM, .inl (cJ, 32, .inr (.inl nr)))] sz) := by
  refine Met.ofW (cc := cX2_goOn) (maxL := 13) (ret := none) (by decide) rfl ?_
  intro p e s m args below meth c s₁ B hml hv
  obtain ⟨rfl, hsz, hP, hK, hN, hD0⟩ := hv
  have hl := lv_entry ([.ref oP, .int fi, .int sc, .int fr]) (n := 13) (Nat.le_of_ble_eq_true rfl)
  rw [lg_entry_eq]
  subst hsz
  generalize (lg_sl ([.ref oP, .int fi, .int sc, .int fr]) ++ List.replicate (13 - (lg_sl ([.ref oP, .int fi, .int sc, .int fr])).length) Slot.unset).toArray = ls at hl ⊢
  exact b_X2_goOn (A := va_A [(oP, .inr (2, [.ref aG, .long bc, .long br, .ref aF, .ref aE, .ref aC, .ref aR, .ref aN, .ref aM])), (aF, .inl (cI, 64, .inl fd)), (aE, .inl (cI, 64, .inl se)), (aC, .inl (cJ, 32, .inr (.inl co))), (aR, .inl (cJ, 32, .inr (.inl ro))), (aN, .inl (cJ, 32, .inr (.inl nc))), (aM, .inl (cJ, 32, .inr (.inl nr)))] s.heap.size) D cI cJ oP aG aF aE aC aR aN aM bc br fd se co ro nc nr fi sc fr  B.exec B.bytes hml (findClass_of_methodNamed B.named) (fun w h => atoms_spec B.pre w (List.mem_cons_of_mem _ h)) (Nat.le_of_ble_eq_true rfl) (Nat.le_of_ble_eq_true rfl) hK hN (fun q h => Or.inr h) hP (hD0.self (sz := s.heap.size)) hl (fun co2 ro2 nc2 nr2 H locs pc ls hdg hpost hP hD hS => W.vret B.exec B.bytes B.returns (fun t ht hW => ⟨⟨(), rfl, trivial, co2, ro2, nc2, nr2, hpost, by rw [ht]; exact hP, hD⟩, hS.F ht⟩) hS.2.2 hdg B.notSynchronized)
theorem mt_X2_settle : mt_ok yX2_settle RX2 cX2_settle 2 none 0 := ⟨mc_yX2_settle, mn_X2, rfl, by decide +kernel⟩
set_option maxHeartbeats 4000000 in
set_option maxRecDepth 100000 in
theorem b_X2_settle {p : Program} {l : Launch} {e : Env} {R : Room} {s : State} {m : MethodId} {args : Array Value} {below : List Frame} {meth : Method} {c : Code} {Q : State → Prop} {A : Nat → Prop} (D : va_G) (cI cJ : ClassId) (oP : Nat) (aG : Nat) (aF : Nat) (aE : Nat) (aC : Nat) (aR : Nat) (aN : Nat) (aM : Nat) (bc : Int64) (br : Int64) (co : Nat → Int64) (ro : Nat → Int64)  {ls : Array Slot} (hx : p.tables.exec = Jvm.exec) (hb : c.code = cX2_settle) (hml : c.maxLocals = 2) (hown : s.vm.findClass RX2 = some m.cls) (htb : ∀ w ∈ BIG, w.before args s = true) (hRf : 0 ≤ R.frames) (hRl : 0 ≤ R.locals) (hK : va_K D vwCl [(cI, .int), (cJ, .long)] s) (hN : nw s) (hA : ∀ q, s.heap.size ≤ q → A q) (hP : va_P D vwCl [(oP, .inr (2, [.ref aG, .long bc, .long br, .ref aF, .ref aE, .ref aC, .ref aR, .ref aN, .ref aM])), (aC, .inl (cJ, 32, .inr (.inl co))), (aR, .inl (cJ, 32, .inr (.inl ro)))] s.heap) (hD : va_D A [(oP, .inr (2, [.ref aG, .long bc, .long br, .ref aF, .ref aE, .ref aC, .ref aR, .ref aN, .ref aM])), (aC, .inl (cJ, 32, .inr (.inl co))), (aR, .inl (cJ, 32, .inr (.inl ro)))]) (hl : lv_has ls 2 [(0, .ref oP)])
    (hret : ∀ (bc2 : Int64) (br2 : Int64) (H : Heap) (locs : List Loc) (pc : Nat) (ls : Array Slot), decode cX2_settle pc = .ok (.return_, 1) → (True) → va_P D vwCl [(oP, .inr (2, [.ref aG, .long bc2, .long br2, .ref aF, .ref aE, .ref aC, .ref aR, .ref aN, .ref aM])), (aC, .inl (cJ, 32, .inr (.inl co))), (aR, .inl (cJ, 32, .inr (.inl ro)))] H → va_D A [(oP, .inr (2, [.ref aG, .long bc2, .long br2, .ref aF, .ref aE, .ref aC, .ref aR, .ref aN, .ref aM])), (aC, .inl (cJ, 32, .inr (.inl co))), (aR, .inl (cJ, 32, .inr (.inl ro)))] → va_S A s.heap H locs → W p l e R s m args below meth c H locs 0 0 Q (F0 m pc ls [])) : W p l e R s m args below meth c s.heap [] 0 0 Q (F0 m 0 ls []) := by
  generalize hHe : s.heap = H at hP ⊢
  have hS : va_S A s.heap H [] := by rw [← hHe]; exact va_S.rf
  clear hHe
  refine lv_aload_n hx hb dX2_settle_0 rfl (lv_at hl 0 rfl) ?_
  refine lv_aload_n hx hb dX2_settle_1 rfl (lv_at hl 0 rfl) ?_
  refine va_get (D := D) (ci := 2) (v := .ref aC) (C := RX2) (T := TX2) (N := 9) hx hb htb ml_X2 hown hK hP 0 rfl rfl 5 (by decide) (htb _ mf_X2_28) (fun _ h9 => h9) rfl dX2_settle_2 ?_
  refine lv_iconst (v := 0) hx hb dX2_settle_5 (by decide) ?_
  refine va_lald (D := D) hx hb hK hP 1 1 rfl rfl (vp_in_iff.mpr (by decide)) dX2_settle_6 ?_
  refine va_put (D := D) (ci := 2) (v := .long (co (0 : Int32).toNatClampNeg)) (ty := .long) (C := RX2) (T := TX2) (N := 9) hx hb htb ml_X2 tyX2 tyX2_ok nmX2 hown hK hP hD hS 0 rfl rfl 1 (by decide) (htb _ mf_X2_15) (fun _ h9 => h9) rfl (by decide +kernel) rfl rfl (Nat.le_of_ble_eq_true rfl) dX2_settle_7 (fun H locs hP hD hS => ?_)
  have hP : va_P D vwCl [(oP, .inr (2, [.ref aG, .long (co (0 : Int32).toNatClampNeg), .long br, .ref aF, .ref aE, .ref aC, .ref aR, .ref aN, .ref aM])), (aC, .inl (cJ, 32, .inr (.inl co))), (aR, .inl (cJ, 32, .inr (.inl ro)))] H := hP
  have hD : va_D A [(oP, .inr (2, [.ref aG, .long (co (0 : Int32).toNatClampNeg), .long br, .ref aF, .ref aE, .ref aC, .ref aR, .ref aN, .ref aM])), (aC, .inl (cJ, 32, .inr (.inl co))), (aR, .inl (cJ, 32, .inr (.inl ro)))] := hD
  refine lv_aload_n hx hb dX2_settle_10 rfl (lv_at hl 0 rfl) ?_
  refine lv_aload_n hx hb dX2_settle_11 rfl (lv_at hl 0 rfl) ?_
  refine va_get (D := D) (ci := 2) (v := .ref aR) (C := RX2) (T := TX2) (N := 9) hx hb htb ml_X2 hown hK hP 0 rfl rfl 6 (by decide) (htb _ mf_X2_32) (fun _ h9 => h9) rfl dX2_settle_12 ?_
  refine lv_iconst (v := 0) hx hb dX2_settle_15 (by decide) ?_
  refine va_lald (D := D) hx hb hK hP 2 1 rfl rfl (vp_in_iff.mpr (by decide)) dX2_settle_16 ?_
  refine va_put (D := D) (ci := 2) (v := .long (ro (0 : Int32).toNatClampNeg)) (ty := .long) (C := RX2) (T := TX2) (N := 9) hx hb htb ml_X2 tyX2 tyX2_ok nmX2 hown hK hP hD hS 0 rfl rfl 2 (by decide) (htb _ mf_X2_19) (fun _ h9 => h9) rfl (by decide +kernel) rfl rfl (Nat.le_of_ble_eq_true rfl) dX2_settle_17 (fun H locs hP hD hS => ?_)
  have hP : va_P D vwCl [(oP, .inr (2, [.ref aG, .long (co (0 : Int32).toNatClampNeg), .long (ro (0 : Int32).toNatClampNeg), .ref aF, .ref aE, .ref aC, .ref aR, .ref aN, .ref aM])), (aC, .inl (cJ, 32, .inr (.inl co))), (aR, .inl (cJ, 32, .inr (.inl ro)))] H := hP
  have hD : va_D A [(oP, .inr (2, [.ref aG, .long (co (0 : Int32).toNatClampNeg), .long (ro (0 : Int32).toNatClampNeg), .ref aF, .ref aE, .ref aC, .ref aR, .ref aN, .ref aM])), (aC, .inl (cJ, 32, .inr (.inl co))), (aR, .inl (cJ, 32, .inr (.inl ro)))] := hD
  refine lv_iconst (v := 1) hx hb dX2_settle_20 (by decide) ?_
  refine lv_istore_n (lv' := [(1, .int 1), (0, .ref oP)]) hx hb dX2_settle_21 rfl hl (by decide) rfl (fun ls hl => ?_)
  have LOOP_22 : ∀ (fu : Nat) (k : Nat) (b1 : Int64) (b2 : Int64) (H : Heap) (locs : List Loc) (ls : Array Slot), (k ≤ 32 + 2) → 32 + 2 - k < fu → va_P D vwCl [(oP, .inr (2, [.ref aG, .long b1, .long b2, .ref aF, .ref aE, .ref aC, .ref aR, .ref aN, .ref aM])), (aC, .inl (cJ, 32, .inr (.inl co))), (aR, .inl (cJ, 32, .inr (.inl ro)))] H → va_D A [(oP, .inr (2, [.ref aG, .long b1, .long b2, .ref aF, .ref aE, .ref aC, .ref aR, .ref aN, .ref aM])), (aC, .inl (cJ, 32, .inr (.inl co))), (aR, .inl (cJ, 32, .inr (.inl ro)))] → va_S A s.heap H locs → lv_has ls 2 [(1, .int (nI k)), (0, .ref oP)] → W p l e R s m args below meth c H locs 0 0 Q (F0 m 22 ls []) := by
    intro fu
    induction fu with
    | zero => intro k b1 b2 H locs ls hk hn; exact absurd hn (Nat.not_lt_zero _)
    | succ fu ih_22 =>
      intro k b1 b2 H locs ls hk hn hP hD hS hl
      refine lv_iload_n hx hb dX2_settle_22 rfl (lv_at hl 0 rfl) ?_
      refine lv_bipush (v := 32) hx hb dX2_settle_23 (by decide) ?_
      refine lv_icmp_ge (tgt := 96) hx hb dX2_settle_25 (by decide) (fun c_25 => ?_) (fun c_25 => ?_)
      · skip
        exact hret b1 b2 _ _ _ _ dX2_settle_96 (trivial) hP hD hS
      · skip
        refine lv_aload_n hx hb dX2_settle_28 rfl (lv_at hl 1 rfl) ?_
        refine va_get (D := D) (ci := 2) (v := .ref aC) (C := RX2) (T := TX2) (N := 9) hx hb htb ml_X2 hown hK hP 0 rfl rfl 5 (by decide) (htb _ mf_X2_28) (fun _ h9 => h9) rfl dX2_settle_29 ?_
        refine lv_iload_n hx hb dX2_settle_32 rfl (lv_at hl 0 rfl) ?_
        refine va_lald (D := D) hx hb hK hP 1 1 rfl rfl (vp_lt (lk_go (N := 32) rfl (by decide) hk c_25) (by decide) (by decide)) dX2_settle_33 ?_
        refine lv_aload_n hx hb dX2_settle_34 rfl (lv_at hl 1 rfl) ?_
        refine va_get (D := D) (ci := 2) (v := .long b1) (C := RX2) (T := TX2) (N := 9) hx hb htb ml_X2 hown hK hP 0 rfl rfl 1 (by decide) (htb _ mf_X2_15) (fun _ h9 => h9) rfl dX2_settle_35 ?_
        refine W.lcmp hx hb dX2_settle_38 ?_
        refine lv_if_lt (tgt := 70) hx hb dX2_settle_39 (by decide) (fun c_39 => ?_) (fun c_39 => ?_)
        · skip
          refine lv_aload_n hx hb dX2_settle_70 rfl (lv_at hl 1 rfl) ?_
          refine lv_aload_n hx hb dX2_settle_71 rfl (lv_at hl 1 rfl) ?_
          refine va_get (D := D) (ci := 2) (v := .ref aC) (C := RX2) (T := TX2) (N := 9) hx hb htb ml_X2 hown hK hP 0 rfl rfl 5 (by decide) (htb _ mf_X2_28) (fun _ h9 => h9) rfl dX2_settle_72 ?_
          refine lv_iload_n hx hb dX2_settle_75 rfl (lv_at hl 0 rfl) ?_
          refine va_lald (D := D) hx hb hK hP 1 1 rfl rfl (vp_lt (lk_go (N := 32) rfl (by decide) hk c_25) (by decide) (by decide)) dX2_settle_76 ?_
          refine va_put (D := D) (ci := 2) (v := .long (co (nI k).toNatClampNeg)) (ty := .long) (C := RX2) (T := TX2) (N := 9) hx hb htb ml_X2 tyX2 tyX2_ok nmX2 hown hK hP hD hS 0 rfl rfl 1 (by decide) (htb _ mf_X2_15) (fun _ h9 => h9) rfl (by decide +kernel) rfl rfl (Nat.le_of_ble_eq_true rfl) dX2_settle_77 (fun H locs hP hD hS => ?_)
          have hP : va_P D vwCl [(oP, .inr (2, [.ref aG, .long (co (nI k).toNatClampNeg), .long b2, .ref aF, .ref aE, .ref aC, .ref aR, .ref aN, .ref aM])), (aC, .inl (cJ, 32, .inr (.inl co))), (aR, .inl (cJ, 32, .inr (.inl ro)))] H := hP
          have hD : va_D A [(oP, .inr (2, [.ref aG, .long (co (nI k).toNatClampNeg), .long b2, .ref aF, .ref aE, .ref aC, .ref aR, .ref aN, .ref aM])), (aC, .inl (cJ, 32, .inr (.inl co))), (aR, .inl (cJ, 32, .inr (.inl ro)))] := hD
          refine lv_aload_n hx hb dX2_settle_80 rfl (lv_at hl 1 rfl) ?_
          refine lv_aload_n hx hb dX2_settle_81 rfl (lv_at hl 1 rfl) ?_
          refine va_get (D := D) (ci := 2) (v := .ref aR) (C := RX2) (T := TX2) (N := 9) hx hb htb ml_X2 hown hK hP 0 rfl rfl 6 (by decide) (htb _ mf_X2_32) (fun _ h9 => h9) rfl dX2_settle_82 ?_
          refine lv_iload_n hx hb dX2_settle_85 rfl (lv_at hl 0 rfl) ?_
          refine va_lald (D := D) hx hb hK hP 2 1 rfl rfl (vp_lt (lk_go (N := 32) rfl (by decide) hk c_25) (by decide) (by decide)) dX2_settle_86 ?_
          refine va_put (D := D) (ci := 2) (v := .long (ro (nI k).toNatClampNeg)) (ty := .long) (C := RX2) (T := TX2) (N := 9) hx hb htb ml_X2 tyX2 tyX2_ok nmX2 hown hK hP hD hS 0 rfl rfl 2 (by decide) (htb _ mf_X2_19) (fun _ h9 => h9) rfl (by decide +kernel) rfl rfl (Nat.le_of_ble_eq_true rfl) dX2_settle_87 (fun H locs hP hD hS => ?_)
          have hP : va_P D vwCl [(oP, .inr (2, [.ref aG, .long (co (nI k).toNatClampNeg), .long (ro (nI k).toNatClampNeg), .ref aF, .ref aE, .ref aC, .ref aR, .ref aN, .ref aM])), (aC, .inl (cJ, 32, .inr (.inl co))), (aR, .inl (cJ, 32, .inr (.inl ro)))] H := hP
          have hD : va_D A [(oP, .inr (2, [.ref aG, .long (co (nI k).toNatClampNeg), .long (ro (nI k).toNatClampNeg), .ref aF, .ref aE, .ref aC, .ref aR, .ref aN, .ref aM])), (aC, .inl (cJ, 32, .inr (.inl co))), (aR, .inl (cJ, 32, .inr (.inl ro)))] := hD
          refine lv_iinc (v := nI (k + 1)) (lv' := [(1, .int (nI (k + 1))), (0, .ref oP)]) hx hb dX2_settle_90 hl (k := 0) rfl (nI_s k) (by decide) rfl (fun ls hl => ?_)
          refine lv_goto (tgt := 22) hx hb dX2_settle_93 (by decide) ?_
          exact ih_22 (k + 1) (co (nI k).toNatClampNeg) (ro (nI k).toNatClampNeg) _ _ _ (by have := lk_go (N := 32) rfl (by decide) hk c_25; omega) (by have := lk_go (N := 32) rfl (by decide) hk c_25; omega) hP hD hS (lv_sub hl [0, 1] rfl)
        · skip
          refine lv_aload_n hx hb dX2_settle_42 rfl (lv_at hl 1 rfl) ?_
          refine va_get (D := D) (ci := 2) (v := .ref aC) (C := RX2) (T := TX2) (N := 9) hx hb htb ml_X2 hown hK hP 0 rfl rfl 5 (by decide) (htb _ mf_X2_28) (fun _ h9 => h9) rfl dX2_settle_43 ?_
          refine lv_iload_n hx hb dX2_settle_46 rfl (lv_at hl 0 rfl) ?_
          refine va_lald (D := D) hx hb hK hP 1 1 rfl rfl (vp_lt (lk_go (N := 32) rfl (by decide) hk c_25) (by decide) (by decide)) dX2_settle_47 ?_
          refine lv_aload_n hx hb dX2_settle_48 rfl (lv_at hl 1 rfl) ?_
          refine va_get (D := D) (ci := 2) (v := .long b1) (C := RX2) (T := TX2) (N := 9) hx hb htb ml_X2 hown hK hP 0 rfl rfl 1 (by decide) (htb _ mf_X2_15) (fun _ h9 => h9) rfl dX2_settle_49 ?_
          refine W.lcmp hx hb dX2_settle_52 ?_
          refine lv_if_ne (tgt := 90) hx hb dX2_settle_53 (by decide) (fun c_53 => ?_) (fun c_53 => ?_)
          · skip
            refine lv_iinc (v := nI (k + 1)) (lv' := [(1, .int (nI (k + 1))), (0, .ref oP)]) hx hb dX2_settle_90 hl (k := 0) rfl (nI_s k) (by decide) rfl (fun ls hl => ?_)
            refine lv_goto (tgt := 22) hx hb dX2_settle_93 (by decide) ?_
            exact ih_22 (k + 1) b1 b2 _ _ _ (by have := lk_go (N := 32) rfl (by decide) hk c_25; omega) (by have := lk_go (N := 32) rfl (by decide) hk c_25; omega) hP hD hS (lv_sub hl [0, 1] rfl)
          · skip
            refine lv_aload_n hx hb dX2_settle_56 rfl (lv_at hl 1 rfl) ?_
            refine va_get (D := D) (ci := 2) (v := .ref aR) (C := RX2) (T := TX2) (N := 9) hx hb htb ml_X2 hown hK hP 0 rfl rfl 6 (by decide) (htb _ mf_X2_32) (fun _ h9 => h9) rfl dX2_settle_57 ?_
            refine lv_iload_n hx hb dX2_settle_60 rfl (lv_at hl 0 rfl) ?_
            refine va_lald (D := D) hx hb hK hP 2 1 rfl rfl (vp_lt (lk_go (N := 32) rfl (by decide) hk c_25) (by decide) (by decide)) dX2_settle_61 ?_
            refine lv_aload_n hx hb dX2_settle_62 rfl (lv_at hl 1 rfl) ?_
            refine va_get (D := D) (ci := 2) (v := .long b2) (C := RX2) (T := TX2) (N := 9) hx hb htb ml_X2 hown hK hP 0 rfl rfl 2 (by decide) (htb _ mf_X2_19) (fun _ h9 => h9) rfl dX2_settle_63 ?_
            refine W.lcmp hx hb dX2_settle_66 ?_
            refine lv_if_ge (tgt := 90) hx hb dX2_settle_67 (by decide) (fun c_67 => ?_) (fun c_67 => ?_)
            · skip
              refine lv_iinc (v := nI (k + 1)) (lv' := [(1, .int (nI (k + 1))), (0, .ref oP)]) hx hb dX2_settle_90 hl (k := 0) rfl (nI_s k) (by decide) rfl (fun ls hl => ?_)
              refine lv_goto (tgt := 22) hx hb dX2_settle_93 (by decide) ?_
              exact ih_22 (k + 1) b1 b2 _ _ _ (by have := lk_go (N := 32) rfl (by decide) hk c_25; omega) (by have := lk_go (N := 32) rfl (by decide) hk c_25; omega) hP hD hS (lv_sub hl [0, 1] rfl)
            · skip
              refine lv_aload_n hx hb dX2_settle_70 rfl (lv_at hl 1 rfl) ?_
              refine lv_aload_n hx hb dX2_settle_71 rfl (lv_at hl 1 rfl) ?_
              refine va_get (D := D) (ci := 2) (v := .ref aC) (C := RX2) (T := TX2) (N := 9) hx hb htb ml_X2 hown hK hP 0 rfl rfl 5 (by decide) (htb _ mf_X2_28) (fun _ h9 => h9) rfl dX2_settle_72 ?_
              refine lv_iload_n hx hb dX2_settle_75 rfl (lv_at hl 0 rfl) ?_
              refine va_lald (D := D) hx hb hK hP 1 1 rfl rfl (vp_lt (lk_go (N := 32) rfl (by decide) hk c_25) (by decide) (by decide)) dX2_settle_76 ?_
              refine va_put (D := D) (ci := 2) (v := .long (co (nI k).toNatClampNeg)) (ty := .long) (C := RX2) (T := TX2) (N := 9) hx hb htb ml_X2 tyX2 tyX2_ok nmX2 hown hK hP hD hS 0 rfl rfl 1 (by decide) (htb _ mf_X2_15) (fun _ h9 => h9) rfl (by decide +kernel) rfl rfl (Nat.le_of_ble_eq_true rfl) dX2_settle_77 (fun H locs hP hD hS => ?_)
              have hP : va_P D vwCl [(oP, .inr (2, [.ref aG, .long (co (nI k).toNatClampNeg), .long b2, .ref aF, .ref aE, .ref aC, .ref aR, .ref aN, .ref aM])), (aC, .inl (cJ, 32, .inr (.inl co))), (aR, .inl (cJ, 32, .inr (.inl ro)))] H := hP
              have hD : va_D A [(oP, .inr (2, [.ref aG, .long (co (nI k).toNatClampNeg), .long b2, .ref aF, .ref aE, .ref aC, .ref aR, .ref aN, .ref aM])), (aC, .inl (cJ, 32, .inr (.inl co))), (aR, .inl (cJ, 32, .inr (.inl ro)))] := hD
              refine lv_aload_n hx hb dX2_settle_80 rfl (lv_at hl 1 rfl) ?_
              refine lv_aload_n hx hb dX2_settle_81 rfl (lv_at hl 1 rfl) ?_
              refine va_get (D := D) (ci := 2) (v := .ref aR) (C := RX2) (T := TX2) (N := 9) hx hb htb ml_X2 hown hK hP 0 rfl rfl 6 (by decide) (htb _ mf_X2_32) (fun _ h9 => h9) rfl dX2_settle_82 ?_
              refine lv_iload_n hx hb dX2_settle_85 rfl (lv_at hl 0 rfl) ?_
              refine va_lald (D := D) hx hb hK hP 2 1 rfl rfl (vp_lt (lk_go (N := 32) rfl (by decide) hk c_25) (by decide) (by decide)) dX2_settle_86 ?_
              refine va_put (D := D) (ci := 2) (v := .long (ro (nI k).toNatClampNeg)) (ty := .long) (C := RX2) (T := TX2) (N := 9) hx hb htb ml_X2 tyX2 tyX2_ok nmX2 hown hK hP hD hS 0 rfl rfl 2 (by decide) (htb _ mf_X2_19) (fun _ h9 => h9) rfl (by decide +kernel) rfl rfl (Nat.le_of_ble_eq_true rfl) dX2_settle_87 (fun H locs hP hD hS => ?_)
              have hP : va_P D vwCl [(oP, .inr (2, [.ref aG, .long (co (nI k).toNatClampNeg), .long (ro (nI k).toNatClampNeg), .ref aF, .ref aE, .ref aC, .ref aR, .ref aN, .ref aM])), (aC, .inl (cJ, 32, .inr (.inl co))), (aR, .inl (cJ, 32, .inr (.inl ro)))] H := hP
              have hD : va_D A [(oP, .inr (2, [.ref aG, .long (co (nI k).toNatClampNeg), .long (ro (nI k).toNatClampNeg), .ref aF, .ref aE, .ref aC, .ref aR, .ref aN, .ref aM])), (aC, .inl (cJ, 32, .inr (.inl co))), (aR, .inl (cJ, 32, .inr (.inl ro)))] := hD
              refine lv_iinc (v := nI (k + 1)) (lv' := [(1, .int (nI (k + 1))), (0, .ref oP)]) hx hb dX2_settle_90 hl (k := 0) rfl (nI_s k) (by decide) rfl (fun ls hl => ?_)
              refine lv_goto (tgt := 22) hx hb dX2_settle_93 (by decide) ?_
              exact ih_22 (k + 1) (co (nI k).toNatClampNeg) (ro (nI k).toNatClampNeg) _ _ _ (by have := lk_go (N := 32) rfl (by decide) hk c_25; omega) (by have := lk_go (N := 32) rfl (by decide) hk c_25; omega) hP hD hS (lv_sub hl [0, 1] rfl)
  exact LOOP_22 _ 1 (co (0 : Int32).toNatClampNeg) (ro (0 : Int32).toNatClampNeg) _ _ _ (by decide) (Nat.lt_succ_self _) hP hD hS (lv_sub hl [0, 1] rfl)
set_option maxHeartbeats 4000000 in
set_option maxRecDepth 100000 in
theorem c_X2_settle (l : Launch) (D : va_G) (cI cJ : ClassId) (oP : Nat) (aG : Nat) (aF : Nat) (aE : Nat) (aC : Nat) (aR : Nat) (aN : Nat) (aM : Nat) (bc : Int64) (br : Int64) (co : Nat → Int64) (ro : Nat → Int64) (sz : Nat)  : Met l yX2_settle (Cond.code yX2_settle cX2_settle 2 none :: BIG) ({ frames := 0, cells := 0, slots := 0, locals := 0 }) (va_Pc [.ref oP] (pr_W D cI cJ [(oP, .inr (2, [.ref aG, .long bc, .long br, .ref aF, .ref aE, .ref aC, .ref aR, .ref aN, .ref aM])), (aC, .inl (cJ, 32, .inr (.inl co))), (aR, .inl (cJ, 32, .inr (.inl ro)))] sz)) (va_Qv (fun (_ : Unit) => True) (fun (_ : Unit) (t : State) => ∃ (bc2 : Int64) (br2 : Int64), (True) ∧ va_P D vwCl [(oP, .inr (2, [.ref aG, .long bc2, .long br2, .ref aF, .ref aE, .ref aC, .ref aR, .ref aN, .ref aM])), (aC, .inl (cJ, 32, .inr (.inl co))), (aR, .inl (cJ, 32, .inr (.inl ro)))] t.heap ∧ va_D (va_A [(oP, .inr (2, [.ref aG, .long bc, .long br, .ref aF, .ref aE, .ref aC, .ref aR, .ref aN, .ref aM])), (aC, .inl (cJ, 32, .inr (.inl co))), (aR, .inl (cJ, 32, .inr (.inl ro)))] sz) [(oP, .inr (2, [.ref aG, .long bc2, .long br2, .ref aF, .ref aE, .ref aC, .ref aR, .ref aN, .ref aM])), (aC, .inl (cJ, 32, .inr (.inl co))), (aR, .inl (cJ, 32, .inr (.inl ro)))]) (va_A [(oP, .inr (2, [.ref aG, .long bc, .long br, .ref aF, .ref aE, .ref aC, .ref aR, .ref aN, .ref aM])), (aC, .inl (cJ, 32, .inr (.inl co))), (aR, .inl (cJ, 32, .inr (.inl ro)))] sz)) 0 0 (va_A [(oP, .inr (2, [.ref aG, .long bc, .long br, .ref aF, .ref aE, .ref aC, .ref aR, .ref aN, .ref aM])), (aC, .inl (cJ, 32, .inr (.inl co))), (aR, .inl (cJ, 32, .inr (.inl ro)))] sz) := by
  refine Met.ofW (cc := cX2_settle) (maxL := 2) (ret := none) (by decide) rfl ?_
  intro p e s m args below meth c s₁ B hml hv
  obtain ⟨rfl, hsz, hP, hK, hN, hD0⟩ := hv
  have hl := lv_entry ([.ref oP]) (n := 2) (Nat.le_of_ble_eq_true rfl)
  rw [lg_entry_eq]
  subst hsz
  generalize (lg_sl ([.ref oP]) ++ List.replicate (2 - (lg_sl ([.ref oP])).length) Slot.unset).toArray = ls at hl ⊢
  exact b_X2_settle (A := va_A [(oP, .inr (2, [.ref aG, .long bc, .long br, .ref aF, .ref aE, .ref aC, .ref aR, .ref aN, .ref aM])), (aC, .inl (cJ, 32, .inr (.inl co))), (aR, .inl (cJ, 32, .inr (.inl ro)))] s.heap.size) D cI cJ oP aG aF aE aC aR aN aM bc br co ro  B.exec B.bytes hml (findClass_of_methodNamed B.named) (fun w h => atoms_spec B.pre w (List.mem_cons_of_mem _ h)) (Nat.le_of_ble_eq_true rfl) (Nat.le_of_ble_eq_true rfl) hK hN (fun q h => Or.inr h) hP (hD0.self (sz := s.heap.size)) hl (fun bc2 br2 H locs pc ls hdg hpost hP hD hS => W.vret B.exec B.bytes B.returns (fun t ht hW => ⟨⟨(), rfl, trivial, bc2, br2, hpost, by rw [ht]; exact hP, hD⟩, hS.F ht⟩) hS.2.2 hdg B.notSynchronized)
theorem mt_X2_follow : mt_ok yX2_follow RX2 cX2_follow 7 none 3 := ⟨mc_yX2_follow, mn_X2, rfl, by decide +kernel⟩
set_option maxHeartbeats 4000000 in
set_option maxRecDepth 100000 in
theorem b_X2_follow {p : Program} {l : Launch} {e : Env} {R : Room} {s : State} {m : MethodId} {args : Array Value} {below : List Frame} {meth : Method} {c : Code} {Q : State → Prop} {A : Nat → Prop} (D : va_G) (cI cJ : ClassId) (oP : Nat) (aG : Nat) (aF : Nat) (aE : Nat) (aC : Nat) (aR : Nat) (aN : Nat) (aM : Nat) (bc : Int64) (br : Int64) (gu : Nat → Int32) (fd : Nat → Int32) (se : Nat → Int32) (co : Nat → Int64) (ro : Nat → Int64) (nc : Nat → Int64) (nr : Nat → Int64) (oS : Nat) (ms : Int64) (mx : Int64) (n : Int32) (mk : Int32) (g : Int32) (h : Int32) (st : Int32) (cn : Int32) (cs : Int32) (oH : Nat) (aS : Nat) (ln : Int32) (f : Nat → Int32) (pl : Int32)  {ls : Array Slot} (hx : p.tables.exec = Jvm.exec) (hb : c.code = cX2_follow) (hml : c.maxLocals = 7) (hown : s.vm.findClass RX2 = some m.cls) (htb : ∀ w ∈ BIG, w.before args s = true) (hRf : 5 ≤ R.frames) (hRl : 117 ≤ R.locals) (hK : va_K D vwCl [(cI, .int), (cJ, .long)] s) (hN : nw s) (hA : ∀ q, s.heap.size ≤ q → A q) (hP : va_P D vwCl [(oP, .inr (2, [.ref aG, .long bc, .long br, .ref aF, .ref aE, .ref aC, .ref aR, .ref aN, .ref aM])), (aG, .inl (cI, 4, .inl gu)), (aF, .inl (cI, 64, .inl fd)), (aE, .inl (cI, 64, .inl se)), (aC, .inl (cJ, 32, .inr (.inl co))), (aR, .inl (cJ, 32, .inr (.inl ro))), (aN, .inl (cJ, 32, .inr (.inl nc))), (aM, .inl (cJ, 32, .inr (.inl nr))), (oS, .inr (3, [.long ms, .long mx, .int n, .int mk, .int g, .int h, .int st, .int cn, .int cs])), (oH, .inr (1, [.ref aS, .int ln])), (aS, .inl (cI, 140, .inl f))] s.heap) (hD : va_D A [(oP, .inr (2, [.ref aG, .long bc, .long br, .ref aF, .ref aE, .ref aC, .ref aR, .ref aN, .ref aM])), (aG, .inl (cI, 4, .inl gu)), (aF, .inl (cI, 64, .inl fd)), (aE, .inl (cI, 64, .inl se)), (aC, .inl (cJ, 32, .inr (.inl co))), (aR, .inl (cJ, 32, .inr (.inl ro))), (aN, .inl (cJ, 32, .inr (.inl nc))), (aM, .inl (cJ, 32, .inr (.inl nr))), (oS, .inr (3, [.long ms, .long mx, .int n, .int mk, .int g, .int h, .int st, .int cn, .int cs])), (oH, .inr (1, [.ref aS, .int ln])), (aS, .inl (cI, 140, .inl f))]) (hl : lv_has ls 7 [(0, .ref oP), (1, .ref oS), (2, .ref oH), (3, .int pl)])
    (hret : ∀ (bc2 : Int64) (br2 : Int64) (fd2 : Nat → Int32) (se2 : Nat → Int32) (co2 : Nat → Int64) (ro2 : Nat → Int64) (nc2 : Nat → Int64) (nr2 : Nat → Int64) (H : Heap) (locs : List Loc) (pc : Nat) (ls : Array Slot), decode cX2_follow pc = .ok (.return_, 1) → (True) → va_P D vwCl [(oP, .inr (2, [.ref aG, .long bc2, .long br2, .ref aF, .ref aE, .ref aC, .ref aR, .ref aN, .ref aM])), (aG, .inl (cI, 4, .inl gu)), (aF, .inl (cI, 64, .inl fd2)), (aE, .inl (cI, 64, .inl se2)), (aC, .inl (cJ, 32, .inr (.inl co2))), (aR, .inl (cJ, 32, .inr (.inl ro2))), (aN, .inl (cJ, 32, .inr (.inl nc2))), (aM, .inl (cJ, 32, .inr (.inl nr2))), (oS, .inr (3, [.long ms, .long mx, .int n, .int mk, .int g, .int h, .int st, .int cn, .int cs])), (oH, .inr (1, [.ref aS, .int ln])), (aS, .inl (cI, 140, .inl f))] H → va_D A [(oP, .inr (2, [.ref aG, .long bc2, .long br2, .ref aF, .ref aE, .ref aC, .ref aR, .ref aN, .ref aM])), (aG, .inl (cI, 4, .inl gu)), (aF, .inl (cI, 64, .inl fd2)), (aE, .inl (cI, 64, .inl se2)), (aC, .inl (cJ, 32, .inr (.inl co2))), (aR, .inl (cJ, 32, .inr (.inl ro2))), (aN, .inl (cJ, 32, .inr (.inl nc2))), (aM, .inl (cJ, 32, .inr (.inl nr2))), (oS, .inr (3, [.long ms, .long mx, .int n, .int mk, .int g, .int h, .int st, .int cn, .int cs])), (oH, .inr (1, [.ref aS, .int ln])), (aS, .inl (cI, 140, .inl f))] → va_S A s.heap H locs → W p l e R s m args below meth c H locs 0 0 Q (F0 m pc ls [])) : W p l e R s m args below meth c s.heap [] 0 0 Q (F0 m 0 ls []) := by
  generalize hHe : s.heap = H at hP ⊢
  have hS : va_S A s.heap H [] := by rw [← hHe]; exact va_S.rf
  clear hHe
  refine lv_aload_n hx hb dX2_follow_0 rfl (lv_at hl 0 rfl) ?_
  have hDc := hD.sub (ws' := [(oP, .inr (2, [.ref aG, .long bc, .long br, .ref aF, .ref aE, .ref aC, .ref aR, .ref aN, .ref aM])), (aC, .inl (cJ, 32, .inr (.inl co))), (aR, .inl (cJ, 32, .inr (.inl ro)))]) [0, 4, 5] (by decide) rfl
  have hFc := va_free (wc := [(oP, .inr (2, [.ref aG, .long bc, .long br, .ref aF, .ref aE, .ref aC, .ref aR, .ref aN, .ref aM])), (aC, .inl (cJ, 32, .inr (.inl co))), (aR, .inl (cJ, 32, .inr (.inl ro)))]) hD hS hA [0, 4, 5] rfl
  refine va_callv (va_runV (As := []) (rest := []) ⟨hx, hb, hml, hown, htb⟩ (c_X2_begin l D cI cJ oP aG aF aE aC aR aN aM bc br co ro H.size ) (cb_V htb mt_X2_begin mi_yX2_begin mx_yX2_begin mm_X2_41 ⟨Nat.le_trans (Nat.le_of_ble_eq_true rfl) hRf, Nat.le_trans (Nat.le_of_ble_eq_true rfl) hRl⟩) ⟨bl_W, va_recv hK hP (ci := 2) (q0 := 0) rfl rfl, pre_W (hP.sub (ws' := [(oP, .inr (2, [.ref aG, .long bc, .long br, .ref aF, .ref aE, .ref aC, .ref aR, .ref aN, .ref aM])), (aC, .inl (cJ, 32, .inr (.inl co))), (aR, .inl (cJ, 32, .inr (.inl ro)))]) [0, 4, 5] rfl) hK hN hDc⟩ rfl rfl hl.1 rfl (lv_room (Nat.le_of_ble_eq_true rfl)) dX2_follow_1 ⟨Nat.zero_le _, Nat.zero_le _⟩) hS (fun q _ h => hFc q h) hFc (fun u t H1 locs ht hvm hu hB hz1 hk1 hS => ?_)
  obtain ⟨co2_1, ro2_1, h_1, hP1, hD1⟩ := hB
  rw [ht] at hP1
  obtain ⟨hP, hD⟩ := va_join (wr := [(aG, .inl (cI, 4, .inl gu)), (aF, .inl (cI, 64, .inl fd)), (aE, .inl (cI, 64, .inl se)), (aN, .inl (cJ, 32, .inr (.inl nc))), (aM, .inl (cJ, 32, .inr (.inl nr))), (oS, .inr (3, [.long ms, .long mx, .int n, .int mk, .int g, .int h, .int st, .int cn, .int cs])), (oH, .inr (1, [.ref aS, .int ln])), (aS, .inl (cI, 140, .inl f))]) (w1 := [(oP, .inr (2, [.ref aG, .long bc, .long br, .ref aF, .ref aE, .ref aC, .ref aR, .ref aN, .ref aM])), (aC, .inl (cJ, 32, .inr (.inl co2_1))), (aR, .inl (cJ, 32, .inr (.inl ro2_1)))]) hP hD [0, 4, 5] [1, 2, 3, 6, 7, 8, 9, 10] rfl rfl (by decide) (by decide) hk1 hFc hP1 hD1
  clear hk1 hz1 hvm ht hP1 hD1 hFc hDc
  generalize H1 = H at hP hS ⊢
  have hP : va_P D vwCl [(oP, .inr (2, [.ref aG, .long bc, .long br, .ref aF, .ref aE, .ref aC, .ref aR, .ref aN, .ref aM])), (aG, .inl (cI, 4, .inl gu)), (aF, .inl (cI, 64, .inl fd)), (aE, .inl (cI, 64, .inl se)), (aC, .inl (cJ, 32, .inr (.inl co2_1))), (aR, .inl (cJ, 32, .inr (.inl ro2_1))), (aN, .inl (cJ, 32, .inr (.inl nc))), (aM, .inl (cJ, 32, .inr (.inl nr))), (oS, .inr (3, [.long ms, .long mx, .int n, .int mk, .int g, .int h, .int st, .int cn, .int cs])), (oH, .inr (1, [.ref aS, .int ln])), (aS, .inl (cI, 140, .inl f))] H := hP.sub [8, 0, 1, 2, 9, 10, 3, 4, 5, 6, 7] rfl
  have hD : va_D A [(oP, .inr (2, [.ref aG, .long bc, .long br, .ref aF, .ref aE, .ref aC, .ref aR, .ref aN, .ref aM])), (aG, .inl (cI, 4, .inl gu)), (aF, .inl (cI, 64, .inl fd)), (aE, .inl (cI, 64, .inl se)), (aC, .inl (cJ, 32, .inr (.inl co2_1))), (aR, .inl (cJ, 32, .inr (.inl ro2_1))), (aN, .inl (cJ, 32, .inr (.inl nc))), (aM, .inl (cJ, 32, .inr (.inl nr))), (oS, .inr (3, [.long ms, .long mx, .int n, .int mk, .int g, .int h, .int st, .int cn, .int cs])), (oH, .inr (1, [.ref aS, .int ln])), (aS, .inl (cI, 140, .inl f))] := hD.sub [8, 0, 1, 2, 9, 10, 3, 4, 5, 6, 7] (by decide) rfl
  refine lv_iload_n hx hb dX2_follow_4 rfl (lv_at hl 3 rfl) ?_
  refine lv_aload_n hx hb dX2_follow_5 rfl (lv_at hl 1 rfl) ?_
  refine va_get (D := D) (ci := 3) (v := .int cn) (C := RX3) (T := TX3) (N := 9) hx hb htb ml_X3 hown hK hP 8 rfl rfl 7 (by decide) (htb _ mf_X2_44) (fun _ h9 => h9) rfl dX2_follow_6 ?_
  refine lv_iadd hx hb dX2_follow_9 ?_
  refine lv_istore (lv' := [(4, .int (pl + cn)), (0, .ref oP), (1, .ref oS), (2, .ref oH), (3, .int pl)]) hx hb dX2_follow_10 hl (by decide) rfl (fun ls hl => ?_)
  refine lv_aload_n hx hb dX2_follow_12 rfl (lv_at hl 2 rfl) ?_
  refine va_calli (va_runV (As := []) (rest := []) ⟨hx, hb, hml, hown, htb⟩ (c_X3_steps l D cI cJ oS ms mx n mk g h st cn cs H.size ) (cb_V htb mt_X3_steps mi_yX3_steps mx_yX3_steps mm_X2_50 ⟨Nat.le_trans (Nat.le_of_ble_eq_true rfl) hRf, Nat.le_trans (Nat.le_of_ble_eq_true rfl) hRl⟩) ⟨bl_R, va_recv hK hP (ci := 3) (q0 := 8) rfl rfl, pre_R (hP.sub (ws' := [(oS, .inr (3, [.long ms, .long mx, .int n, .int mk, .int g, .int h, .int st, .int cn, .int cs]))]) [8] rfl) hK hN⟩ rfl rfl hl.1 rfl (lv_room (Nat.le_of_ble_eq_true rfl)) dX2_follow_13 ⟨Nat.zero_le _, Nat.zero_le _⟩) hS ro_A (ro_F hS hA) (fun r_13 u t H1 locs ht hvm hu hB hz1 hk1 hS => ?_)
  have hu2 := hu.symm; subst hu2
  replace hP := ro_P hP hk1
  clear hk1 hz1 hvm ht
  generalize H1 = H at hP hS ⊢
  have hP : va_P D vwCl [(oP, .inr (2, [.ref aG, .long bc, .long br, .ref aF, .ref aE, .ref aC, .ref aR, .ref aN, .ref aM])), (aG, .inl (cI, 4, .inl gu)), (aF, .inl (cI, 64, .inl fd)), (aE, .inl (cI, 64, .inl se)), (aC, .inl (cJ, 32, .inr (.inl co2_1))), (aR, .inl (cJ, 32, .inr (.inl ro2_1))), (aN, .inl (cJ, 32, .inr (.inl nc))), (aM, .inl (cJ, 32, .inr (.inl nr))), (oS, .inr (3, [.long ms, .long mx, .int n, .int mk, .int g, .int h, .int st, .int cn, .int cs])), (oH, .inr (1, [.ref aS, .int ln])), (aS, .inl (cI, 140, .inl f))] H := hP
  obtain rfl : r_13 = n + 3 := hB
  refine lv_istore (lv' := [(5, .int (n + 3)), (4, .int (pl + cn)), (0, .ref oP), (1, .ref oS), (2, .ref oH), (3, .int pl)]) hx hb dX2_follow_16 hl (by decide) rfl (fun ls hl => ?_)
  refine lv_iconst (v := 0) hx hb dX2_follow_18 (by decide) ?_
  refine lv_istore (lv' := [(6, .int 0), (5, .int (n + 3)), (4, .int (pl + cn)), (0, .ref oP), (1, .ref oS), (2, .ref oH), (3, .int pl)]) hx hb dX2_follow_19 hl (by decide) rfl (fun ls hl => ?_)
  have LOOP_21 : ∀ (fu : Nat) (k : Nat) (f1 : Nat → Int32) (f2 : Nat → Int32) (f3 : Nat → Int64) (f4 : Nat → Int64) (f5 : Nat → Int64) (f6 : Nat → Int64) (H : Heap) (locs : List Loc) (ls : Array Slot), (k ≤ nB (n + 3)) → nB (n + 3) - k < fu → va_P D vwCl [(oP, .inr (2, [.ref aG, .long bc, .long br, .ref aF, .ref aE, .ref aC, .ref aR, .ref aN, .ref aM])), (aG, .inl (cI, 4, .inl gu)), (aF, .inl (cI, 64, .inl f1)), (aE, .inl (cI, 64, .inl f2)), (aC, .inl (cJ, 32, .inr (.inl f3))), (aR, .inl (cJ, 32, .inr (.inl f4))), (aN, .inl (cJ, 32, .inr (.inl f5))), (aM, .inl (cJ, 32, .inr (.inl f6))), (oS, .inr (3, [.long ms, .long mx, .int n, .int mk, .int g, .int h, .int st, .int cn, .int cs])), (oH, .inr (1, [.ref aS, .int ln])), (aS, .inl (cI, 140, .inl f))] H → va_D A [(oP, .inr (2, [.ref aG, .long bc, .long br, .ref aF, .ref aE, .ref aC, .ref aR, .ref aN, .ref aM])), (aG, .inl (cI, 4, .inl gu)), (aF, .inl (cI, 64, .inl f1)), (aE, .inl (cI, 64, .inl f2)), (aC, .inl (cJ, 32, .inr (.inl f3))), (aR, .inl (cJ, 32, .inr (.inl f4))), (aN, .inl (cJ, 32, .inr (.inl f5))), (aM, .inl (cJ, 32, .inr (.inl f6))), (oS, .inr (3, [.long ms, .long mx, .int n, .int mk, .int g, .int h, .int st, .int cn, .int cs])), (oH, .inr (1, [.ref aS, .int ln])), (aS, .inl (cI, 140, .inl f))] → va_S A s.heap H locs → lv_has ls 7 [(6, .int (nI k)), (5, .int (n + 3)), (4, .int (pl + cn)), (0, .ref oP), (1, .ref oS), (2, .ref oH), (3, .int pl)] → W p l e R s m args below meth c H locs 0 0 Q (F0 m 21 ls []) := by
    intro fu
    induction fu with
    | zero => intro k f1 f2 f3 f4 f5 f6 H locs ls hk hn; exact absurd hn (Nat.not_lt_zero _)
    | succ fu ih_21 =>
      intro k f1 f2 f3 f4 f5 f6 H locs ls hk hn hP hD hS hl
      refine lv_iload hx hb dX2_follow_21 (lv_at hl 0 rfl) ?_
      refine lv_iload hx hb dX2_follow_23 (lv_at hl 1 rfl) ?_
      refine lv_icmp_ge (tgt := 89) hx hb dX2_follow_25 (by decide) (fun c_25 => ?_) (fun c_25 => ?_)
      · skip
        refine lv_aload_n hx hb dX2_follow_89 rfl (lv_at hl 3 rfl) ?_
        have hDc := hD.sub (ws' := [(oP, .inr (2, [.ref aG, .long bc, .long br, .ref aF, .ref aE, .ref aC, .ref aR, .ref aN, .ref aM])), (aC, .inl (cJ, 32, .inr (.inl f3))), (aR, .inl (cJ, 32, .inr (.inl f4)))]) [0, 4, 5] (by decide) rfl
        have hFc := va_free (wc := [(oP, .inr (2, [.ref aG, .long bc, .long br, .ref aF, .ref aE, .ref aC, .ref aR, .ref aN, .ref aM])), (aC, .inl (cJ, 32, .inr (.inl f3))), (aR, .inl (cJ, 32, .inr (.inl f4)))]) hD hS hA [0, 4, 5] rfl
        refine va_callv (va_runV (As := []) (rest := []) ⟨hx, hb, hml, hown, htb⟩ (c_X2_settle l D cI cJ oP aG aF aE aC aR aN aM bc br f3 f4 H.size ) (cb_V htb mt_X2_settle mi_yX2_settle mx_yX2_settle mm_X2_71 ⟨Nat.le_trans (Nat.le_of_ble_eq_true rfl) hRf, Nat.le_trans (Nat.le_of_ble_eq_true rfl) hRl⟩) ⟨bl_W, va_recv hK hP (ci := 2) (q0 := 0) rfl rfl, pre_W (hP.sub (ws' := [(oP, .inr (2, [.ref aG, .long bc, .long br, .ref aF, .ref aE, .ref aC, .ref aR, .ref aN, .ref aM])), (aC, .inl (cJ, 32, .inr (.inl f3))), (aR, .inl (cJ, 32, .inr (.inl f4)))]) [0, 4, 5] rfl) hK hN hDc⟩ rfl rfl hl.1 rfl (lv_room (Nat.le_of_ble_eq_true rfl)) dX2_follow_90 ⟨Nat.zero_le _, Nat.zero_le _⟩) hS (fun q _ h => hFc q h) hFc (fun u t H1 locs ht hvm hu hB hz1 hk1 hS => ?_)
        obtain ⟨bc2_90, br2_90, h_90, hP1, hD1⟩ := hB
        rw [ht] at hP1
        obtain ⟨hP, hD⟩ := va_join (wr := [(aG, .inl (cI, 4, .inl gu)), (aF, .inl (cI, 64, .inl f1)), (aE, .inl (cI, 64, .inl f2)), (aN, .inl (cJ, 32, .inr (.inl f5))), (aM, .inl (cJ, 32, .inr (.inl f6))), (oS, .inr (3, [.long ms, .long mx, .int n, .int mk, .int g, .int h, .int st, .int cn, .int cs])), (oH, .inr (1, [.ref aS, .int ln])), (aS, .inl (cI, 140, .inl f))]) (w1 := [(oP, .inr (2, [.ref aG, .long bc2_90, .long br2_90, .ref aF, .ref aE, .ref aC, .ref aR, .ref aN, .ref aM])), (aC, .inl (cJ, 32, .inr (.inl f3))), (aR, .inl (cJ, 32, .inr (.inl f4)))]) hP hD [0, 4, 5] [1, 2, 3, 6, 7, 8, 9, 10] rfl rfl (by decide) (by decide) hk1 hFc hP1 hD1
        clear hk1 hz1 hvm ht hP1 hD1 hFc hDc
        generalize H1 = H at hP hS ⊢
        have hP : va_P D vwCl [(oP, .inr (2, [.ref aG, .long bc2_90, .long br2_90, .ref aF, .ref aE, .ref aC, .ref aR, .ref aN, .ref aM])), (aG, .inl (cI, 4, .inl gu)), (aF, .inl (cI, 64, .inl f1)), (aE, .inl (cI, 64, .inl f2)), (aC, .inl (cJ, 32, .inr (.inl f3))), (aR, .inl (cJ, 32, .inr (.inl f4))), (aN, .inl (cJ, 32, .inr (.inl f5))), (aM, .inl (cJ, 32, .inr (.inl f6))), (oS, .inr (3, [.long ms, .long mx, .int n, .int mk, .int g, .int h, .int st, .int cn, .int cs])), (oH, .inr (1, [.ref aS, .int ln])), (aS, .inl (cI, 140, .inl f))] H := hP.sub [8, 0, 1, 2, 9, 10, 3, 4, 5, 6, 7] rfl
        have hD : va_D A [(oP, .inr (2, [.ref aG, .long bc2_90, .long br2_90, .ref aF, .ref aE, .ref aC, .ref aR, .ref aN, .ref aM])), (aG, .inl (cI, 4, .inl gu)), (aF, .inl (cI, 64, .inl f1)), (aE, .inl (cI, 64, .inl f2)), (aC, .inl (cJ, 32, .inr (.inl f3))), (aR, .inl (cJ, 32, .inr (.inl f4))), (aN, .inl (cJ, 32, .inr (.inl f5))), (aM, .inl (cJ, 32, .inr (.inl f6))), (oS, .inr (3, [.long ms, .long mx, .int n, .int mk, .int g, .int h, .int st, .int cn, .int cs])), (oH, .inr (1, [.ref aS, .int ln])), (aS, .inl (cI, 140, .inl f))] := hD.sub [8, 0, 1, 2, 9, 10, 3, 4, 5, 6, 7] (by decide) rfl
        exact hret bc2_90 br2_90 f1 f2 f3 f4 f5 f6 _ _ _ _ dX2_follow_93 (trivial) hP hD hS
      · skip
        refine lv_iload hx hb dX2_follow_28 (lv_at hl 0 rfl) ?_
        refine lv_iconst (v := 2) hx hb dX2_follow_30 (by decide) ?_
        refine lv_icmp_gt (tgt := 41) hx hb dX2_follow_31 (by decide) (fun c_31 => ?_) (fun c_31 => ?_)
        · skip
          refine lv_aload_n hx hb dX2_follow_41 rfl (lv_at hl 3 rfl) ?_
          refine lv_aload_n hx hb dX2_follow_42 rfl (lv_at hl 5 rfl) ?_
          refine lv_iload hx hb dX2_follow_43 (lv_at hl 2 rfl) ?_
          refine lv_iconst (v := 2) hx hb dX2_follow_45 (by decide) ?_
          refine lv_iload hx hb dX2_follow_46 (lv_at hl 0 rfl) ?_
          refine lv_imul hx hb dX2_follow_48 ?_
          refine lv_iadd hx hb dX2_follow_49 ?_
          refine va_calli (va_runV (As := [.int ((pl + cn) + (2 * nI k))]) (rest := [.ref oP]) ⟨hx, hb, hml, hown, htb⟩ (c_X1_at l D cI cJ oH aS ln f ((pl + cn) + (2 * nI k)) H.size ) (cb_V htb mt_X1_at mi_yX1_at mx_yX1_at mm_X2_58 ⟨Nat.le_trans (Nat.le_of_ble_eq_true rfl) hRf, Nat.le_trans (Nat.le_of_ble_eq_true rfl) hRl⟩) ⟨bl_R, va_recv hK hP (ci := 1) (q0 := 9) rfl rfl, pre_R (hP.sub (ws' := [(oH, .inr (1, [.ref aS, .int ln])), (aS, .inl (cI, 140, .inl f))]) [9, 10] rfl) hK hN⟩ rfl rfl hl.1 rfl (lv_room (Nat.le_of_ble_eq_true rfl)) dX2_follow_50 ⟨Nat.zero_le _, Nat.zero_le _⟩) hS ro_A (ro_F hS hA) (fun r_50 u t H1 locs ht hvm hu hB hz1 hk1 hS => ?_)
          have hu2 := hu.symm; subst hu2
          replace hP := ro_P hP hk1
          clear hk1 hz1 hvm ht
          generalize H1 = H at hP hS ⊢
          have hP : va_P D vwCl [(oP, .inr (2, [.ref aG, .long bc, .long br, .ref aF, .ref aE, .ref aC, .ref aR, .ref aN, .ref aM])), (aG, .inl (cI, 4, .inl gu)), (aF, .inl (cI, 64, .inl f1)), (aE, .inl (cI, 64, .inl f2)), (aC, .inl (cJ, 32, .inr (.inl f3))), (aR, .inl (cJ, 32, .inr (.inl f4))), (aN, .inl (cJ, 32, .inr (.inl f5))), (aM, .inl (cJ, 32, .inr (.inl f6))), (oS, .inr (3, [.long ms, .long mx, .int n, .int mk, .int g, .int h, .int st, .int cn, .int cs])), (oH, .inr (1, [.ref aS, .int ln])), (aS, .inl (cI, 140, .inl f))] H := hP
          obtain rfl : r_50 = c_at f ((pl + cn) + (2 * nI k)) := hB
          refine lv_aload_n hx hb dX2_follow_53 rfl (lv_at hl 5 rfl) ?_
          refine lv_iload hx hb dX2_follow_54 (lv_at hl 2 rfl) ?_
          refine lv_iconst (v := 2) hx hb dX2_follow_56 (by decide) ?_
          refine lv_iload hx hb dX2_follow_57 (lv_at hl 0 rfl) ?_
          refine lv_imul hx hb dX2_follow_59 ?_
          refine lv_iadd hx hb dX2_follow_60 ?_
          refine lv_iconst (v := 1) hx hb dX2_follow_61 (by decide) ?_
          refine lv_iadd hx hb dX2_follow_62 ?_
          refine va_calli (va_runV (As := [.int (((pl + cn) + (2 * nI k)) + 1)]) (rest := [.int (c_at f ((pl + cn) + (2 * nI k))), .ref oP]) ⟨hx, hb, hml, hown, htb⟩ (c_X1_at l D cI cJ oH aS ln f (((pl + cn) + (2 * nI k)) + 1) H.size ) (cb_V htb mt_X1_at mi_yX1_at mx_yX1_at mm_X2_58 ⟨Nat.le_trans (Nat.le_of_ble_eq_true rfl) hRf, Nat.le_trans (Nat.le_of_ble_eq_true rfl) hRl⟩) ⟨bl_R, va_recv hK hP (ci := 1) (q0 := 9) rfl rfl, pre_R (hP.sub (ws' := [(oH, .inr (1, [.ref aS, .int ln])), (aS, .inl (cI, 140, .inl f))]) [9, 10] rfl) hK hN⟩ rfl rfl hl.1 rfl (lv_room (Nat.le_of_ble_eq_true rfl)) dX2_follow_63 ⟨Nat.zero_le _, Nat.zero_le _⟩) hS ro_A (ro_F hS hA) (fun r_63 u t H1 locs ht hvm hu hB hz1 hk1 hS => ?_)
          have hu2 := hu.symm; subst hu2
          replace hP := ro_P hP hk1
          clear hk1 hz1 hvm ht
          generalize H1 = H at hP hS ⊢
          have hP : va_P D vwCl [(oP, .inr (2, [.ref aG, .long bc, .long br, .ref aF, .ref aE, .ref aC, .ref aR, .ref aN, .ref aM])), (aG, .inl (cI, 4, .inl gu)), (aF, .inl (cI, 64, .inl f1)), (aE, .inl (cI, 64, .inl f2)), (aC, .inl (cJ, 32, .inr (.inl f3))), (aR, .inl (cJ, 32, .inr (.inl f4))), (aN, .inl (cJ, 32, .inr (.inl f5))), (aM, .inl (cJ, 32, .inr (.inl f6))), (oS, .inr (3, [.long ms, .long mx, .int n, .int mk, .int g, .int h, .int st, .int cn, .int cs])), (oH, .inr (1, [.ref aS, .int ln])), (aS, .inl (cI, 140, .inl f))] H := hP
          obtain rfl : r_63 = c_at f (((pl + cn) + (2 * nI k)) + 1) := hB
          refine lv_iload hx hb dX2_follow_66 (lv_at hl 0 rfl) ?_
          refine lv_aload_n hx hb dX2_follow_68 rfl (lv_at hl 4 rfl) ?_
          refine va_get (D := D) (ci := 3) (v := .int n) (C := RX3) (T := TX3) (N := 9) hx hb htb ml_X3 hown hK hP 8 rfl rfl 2 (by decide) (htb _ mf_X2_64) (fun _ h9 => h9) rfl dX2_follow_69 ?_
          refine lv_icmp_ge (tgt := 79) hx hb dX2_follow_72 (by decide) (fun c_72 => ?_) (fun c_72 => ?_)
          · skip
            refine lv_iconst (v := 0) hx hb dX2_follow_79 (by decide) ?_
            have hDc := hD.sub (ws' := [(oP, .inr (2, [.ref aG, .long bc, .long br, .ref aF, .ref aE, .ref aC, .ref aR, .ref aN, .ref aM])), (aF, .inl (cI, 64, .inl f1)), (aE, .inl (cI, 64, .inl f2)), (aC, .inl (cJ, 32, .inr (.inl f3))), (aR, .inl (cJ, 32, .inr (.inl f4))), (aN, .inl (cJ, 32, .inr (.inl f5))), (aM, .inl (cJ, 32, .inr (.inl f6)))]) [0, 2, 3, 4, 5, 6, 7] (by decide) rfl
            have hFc := va_free (wc := [(oP, .inr (2, [.ref aG, .long bc, .long br, .ref aF, .ref aE, .ref aC, .ref aR, .ref aN, .ref aM])), (aF, .inl (cI, 64, .inl f1)), (aE, .inl (cI, 64, .inl f2)), (aC, .inl (cJ, 32, .inr (.inl f3))), (aR, .inl (cJ, 32, .inr (.inl f4))), (aN, .inl (cJ, 32, .inr (.inl f5))), (aM, .inl (cJ, 32, .inr (.inl f6)))]) hD hS hA [0, 2, 3, 4, 5, 6, 7] rfl
            refine va_callv (va_runV (As := [.int (c_at f ((pl + cn) + (2 * nI k))), .int (c_at f (((pl + cn) + (2 * nI k)) + 1)), .int 0]) (rest := []) ⟨hx, hb, hml, hown, htb⟩ (c_X2_goOn l D cI cJ oP aG aF aE aC aR aN aM bc br f1 f2 f3 f4 f5 f6 (c_at f ((pl + cn) + (2 * nI k))) (c_at f (((pl + cn) + (2 * nI k)) + 1)) 0 H.size ) (cb_V htb mt_X2_goOn mi_yX2_goOn mx_yX2_goOn mm_X2_67 ⟨Nat.le_trans (Nat.le_of_ble_eq_true rfl) hRf, Nat.le_trans (Nat.le_of_ble_eq_true rfl) hRl⟩) ⟨bl_W, va_recv hK hP (ci := 2) (q0 := 0) rfl rfl, pre_W (hP.sub (ws' := [(oP, .inr (2, [.ref aG, .long bc, .long br, .ref aF, .ref aE, .ref aC, .ref aR, .ref aN, .ref aM])), (aF, .inl (cI, 64, .inl f1)), (aE, .inl (cI, 64, .inl f2)), (aC, .inl (cJ, 32, .inr (.inl f3))), (aR, .inl (cJ, 32, .inr (.inl f4))), (aN, .inl (cJ, 32, .inr (.inl f5))), (aM, .inl (cJ, 32, .inr (.inl f6)))]) [0, 2, 3, 4, 5, 6, 7] rfl) hK hN hDc⟩ rfl rfl hl.1 rfl (lv_room (Nat.le_of_ble_eq_true rfl)) dX2_follow_80 ⟨Nat.zero_le _, Nat.zero_le _⟩) hS (fun q _ h => hFc q h) hFc (fun u t H1 locs ht hvm hu hB hz1 hk1 hS => ?_)
            obtain ⟨co2_80, ro2_80, nc2_80, nr2_80, h_80, hP1, hD1⟩ := hB
            rw [ht] at hP1
            obtain ⟨hP, hD⟩ := va_join (wr := [(aG, .inl (cI, 4, .inl gu)), (oS, .inr (3, [.long ms, .long mx, .int n, .int mk, .int g, .int h, .int st, .int cn, .int cs])), (oH, .inr (1, [.ref aS, .int ln])), (aS, .inl (cI, 140, .inl f))]) (w1 := [(oP, .inr (2, [.ref aG, .long bc, .long br, .ref aF, .ref aE, .ref aC, .ref aR, .ref aN, .ref aM])), (aF, .inl (cI, 64, .inl f1)), (aE, .inl (cI, 64, .inl f2)), (aC, .inl (cJ, 32, .inr (.inl co2_80))), (aR, .inl (cJ, 32, .inr (.inl ro2_80))), (aN, .inl (cJ, 32, .inr (.inl nc2_80))), (aM, .inl (cJ, 32, .inr (.inl nr2_80)))]) hP hD [0, 2, 3, 4, 5, 6, 7] [1, 8, 9, 10] rfl rfl (by decide) (by decide) hk1 hFc hP1 hD1
            clear hk1 hz1 hvm ht hP1 hD1 hFc hDc
            generalize H1 = H at hP hS ⊢
            have hP : va_P D vwCl [(oP, .inr (2, [.ref aG, .long bc, .long br, .ref aF, .ref aE, .ref aC, .ref aR, .ref aN, .ref aM])), (aG, .inl (cI, 4, .inl gu)), (aF, .inl (cI, 64, .inl f1)), (aE, .inl (cI, 64, .inl f2)), (aC, .inl (cJ, 32, .inr (.inl co2_80))), (aR, .inl (cJ, 32, .inr (.inl ro2_80))), (aN, .inl (cJ, 32, .inr (.inl nc2_80))), (aM, .inl (cJ, 32, .inr (.inl nr2_80))), (oS, .inr (3, [.long ms, .long mx, .int n, .int mk, .int g, .int h, .int st, .int cn, .int cs])), (oH, .inr (1, [.ref aS, .int ln])), (aS, .inl (cI, 140, .inl f))] H := hP.sub [4, 0, 5, 6, 7, 8, 9, 10, 1, 2, 3] rfl
            have hD : va_D A [(oP, .inr (2, [.ref aG, .long bc, .long br, .ref aF, .ref aE, .ref aC, .ref aR, .ref aN, .ref aM])), (aG, .inl (cI, 4, .inl gu)), (aF, .inl (cI, 64, .inl f1)), (aE, .inl (cI, 64, .inl f2)), (aC, .inl (cJ, 32, .inr (.inl co2_80))), (aR, .inl (cJ, 32, .inr (.inl ro2_80))), (aN, .inl (cJ, 32, .inr (.inl nc2_80))), (aM, .inl (cJ, 32, .inr (.inl nr2_80))), (oS, .inr (3, [.long ms, .long mx, .int n, .int mk, .int g, .int h, .int st, .int cn, .int cs])), (oH, .inr (1, [.ref aS, .int ln])), (aS, .inl (cI, 140, .inl f))] := hD.sub [4, 0, 5, 6, 7, 8, 9, 10, 1, 2, 3] (by decide) rfl
            refine lv_iinc (v := nI (k + 1)) (lv' := [(6, .int (nI (k + 1))), (5, .int (n + 3)), (4, .int (pl + cn)), (0, .ref oP), (1, .ref oS), (2, .ref oH), (3, .int pl)]) hx hb dX2_follow_83 hl (k := 0) rfl (nI_s k) (by decide) rfl (fun ls hl => ?_)
            refine lv_goto (tgt := 21) hx hb dX2_follow_86 (by decide) ?_
            exact ih_21 (k + 1) f1 f2 co2_80 ro2_80 nc2_80 nr2_80 _ _ _ (lp_go hk c_25) (by have := lp_go hk c_25; omega) hP hD hS (lv_sub hl [0, 1, 2, 3, 4, 5, 6] rfl)
          · skip
            refine lv_iconst (v := 1) hx hb dX2_follow_75 (by decide) ?_
            refine lv_goto (tgt := 80) hx hb dX2_follow_76 (by decide) ?_
            have hDc := hD.sub (ws' := [(oP, .inr (2, [.ref aG, .long bc, .long br, .ref aF, .ref aE, .ref aC, .ref aR, .ref aN, .ref aM])), (aF, .inl (cI, 64, .inl f1)), (aE, .inl (cI, 64, .inl f2)), (aC, .inl (cJ, 32, .inr (.inl f3))), (aR, .inl (cJ, 32, .inr (.inl f4))), (aN, .inl (cJ, 32, .inr (.inl f5))), (aM, .inl (cJ, 32, .inr (.inl f6)))]) [0, 2, 3, 4, 5, 6, 7] (by decide) rfl
            have hFc := va_free (wc := [(oP, .inr (2, [.ref aG, .long bc, .long br, .ref aF, .ref aE, .ref aC, .ref aR, .ref aN, .ref aM])), (aF, .inl (cI, 64, .inl f1)), (aE, .inl (cI, 64, .inl f2)), (aC, .inl (cJ, 32, .inr (.inl f3))), (aR, .inl (cJ, 32, .inr (.inl f4))), (aN, .inl (cJ, 32, .inr (.inl f5))), (aM, .inl (cJ, 32, .inr (.inl f6)))]) hD hS hA [0, 2, 3, 4, 5, 6, 7] rfl
            refine va_callv (va_runV (As := [.int (c_at f ((pl + cn) + (2 * nI k))), .int (c_at f (((pl + cn) + (2 * nI k)) + 1)), .int 1]) (rest := []) ⟨hx, hb, hml, hown, htb⟩ (c_X2_goOn l D cI cJ oP aG aF aE aC aR aN aM bc br f1 f2 f3 f4 f5 f6 (c_at f ((pl + cn) + (2 * nI k))) (c_at f (((pl + cn) + (2 * nI k)) + 1)) 1 H.size ) (cb_V htb mt_X2_goOn mi_yX2_goOn mx_yX2_goOn mm_X2_67 ⟨Nat.le_trans (Nat.le_of_ble_eq_true rfl) hRf, Nat.le_trans (Nat.le_of_ble_eq_true rfl) hRl⟩) ⟨bl_W, va_recv hK hP (ci := 2) (q0 := 0) rfl rfl, pre_W (hP.sub (ws' := [(oP, .inr (2, [.ref aG, .long bc, .long br, .ref aF, .ref aE, .ref aC, .ref aR, .ref aN, .ref aM])), (aF, .inl (cI, 64, .inl f1)), (aE, .inl (cI, 64, .inl f2)), (aC, .inl (cJ, 32, .inr (.inl f3))), (aR, .inl (cJ, 32, .inr (.inl f4))), (aN, .inl (cJ, 32, .inr (.inl f5))), (aM, .inl (cJ, 32, .inr (.inl f6)))]) [0, 2, 3, 4, 5, 6, 7] rfl) hK hN hDc⟩ rfl rfl hl.1 rfl (lv_room (Nat.le_of_ble_eq_true rfl)) dX2_follow_80 ⟨Nat.zero_le _, Nat.zero_le _⟩) hS (fun q _ h => hFc q h) hFc (fun u t H1 locs ht hvm hu hB hz1 hk1 hS => ?_)
            obtain ⟨co2_80, ro2_80, nc2_80, nr2_80, h_80, hP1, hD1⟩ := hB
            rw [ht] at hP1
            obtain ⟨hP, hD⟩ := va_join (wr := [(aG, .inl (cI, 4, .inl gu)), (oS, .inr (3, [.long ms, .long mx, .int n, .int mk, .int g, .int h, .int st, .int cn, .int cs])), (oH, .inr (1, [.ref aS, .int ln])), (aS, .inl (cI, 140, .inl f))]) (w1 := [(oP, .inr (2, [.ref aG, .long bc, .long br, .ref aF, .ref aE, .ref aC, .ref aR, .ref aN, .ref aM])), (aF, .inl (cI, 64, .inl f1)), (aE, .inl (cI, 64, .inl f2)), (aC, .inl (cJ, 32, .inr (.inl co2_80))), (aR, .inl (cJ, 32, .inr (.inl ro2_80))), (aN, .inl (cJ, 32, .inr (.inl nc2_80))), (aM, .inl (cJ, 32, .inr (.inl nr2_80)))]) hP hD [0, 2, 3, 4, 5, 6, 7] [1, 8, 9, 10] rfl rfl (by decide) (by decide) hk1 hFc hP1 hD1
            clear hk1 hz1 hvm ht hP1 hD1 hFc hDc
            generalize H1 = H at hP hS ⊢
            have hP : va_P D vwCl [(oP, .inr (2, [.ref aG, .long bc, .long br, .ref aF, .ref aE, .ref aC, .ref aR, .ref aN, .ref aM])), (aG, .inl (cI, 4, .inl gu)), (aF, .inl (cI, 64, .inl f1)), (aE, .inl (cI, 64, .inl f2)), (aC, .inl (cJ, 32, .inr (.inl co2_80))), (aR, .inl (cJ, 32, .inr (.inl ro2_80))), (aN, .inl (cJ, 32, .inr (.inl nc2_80))), (aM, .inl (cJ, 32, .inr (.inl nr2_80))), (oS, .inr (3, [.long ms, .long mx, .int n, .int mk, .int g, .int h, .int st, .int cn, .int cs])), (oH, .inr (1, [.ref aS, .int ln])), (aS, .inl (cI, 140, .inl f))] H := hP.sub [4, 0, 5, 6, 7, 8, 9, 10, 1, 2, 3] rfl
            have hD : va_D A [(oP, .inr (2, [.ref aG, .long bc, .long br, .ref aF, .ref aE, .ref aC, .ref aR, .ref aN, .ref aM])), (aG, .inl (cI, 4, .inl gu)), (aF, .inl (cI, 64, .inl f1)), (aE, .inl (cI, 64, .inl f2)), (aC, .inl (cJ, 32, .inr (.inl co2_80))), (aR, .inl (cJ, 32, .inr (.inl ro2_80))), (aN, .inl (cJ, 32, .inr (.inl nc2_80))), (aM, .inl (cJ, 32, .inr (.inl nr2_80))), (oS, .inr (3, [.long ms, .long mx, .int n, .int mk, .int g, .int h, .int st, .int cn, .int cs])), (oH, .inr (1, [.ref aS, .int ln])), (aS, .inl (cI, 140, .inl f))] := hD.sub [4, 0, 5, 6, 7, 8, 9, 10, 1, 2, 3] (by decide) rfl
            refine lv_iinc (v := nI (k + 1)) (lv' := [(6, .int (nI (k + 1))), (5, .int (n + 3)), (4, .int (pl + cn)), (0, .ref oP), (1, .ref oS), (2, .ref oH), (3, .int pl)]) hx hb dX2_follow_83 hl (k := 0) rfl (nI_s k) (by decide) rfl (fun ls hl => ?_)
            refine lv_goto (tgt := 21) hx hb dX2_follow_86 (by decide) ?_
            exact ih_21 (k + 1) f1 f2 co2_80 ro2_80 nc2_80 nr2_80 _ _ _ (lp_go hk c_25) (by have := lp_go hk c_25; omega) hP hD hS (lv_sub hl [0, 1, 2, 3, 4, 5, 6] rfl)
        · skip
          refine lv_aload_n hx hb dX2_follow_34 rfl (lv_at hl 3 rfl) ?_
          refine lv_aload_n hx hb dX2_follow_35 rfl (lv_at hl 4 rfl) ?_
          refine lv_iload hx hb dX2_follow_36 (lv_at hl 0 rfl) ?_
          have hDc := hD.sub (ws' := [(oP, .inr (2, [.ref aG, .long bc, .long br, .ref aF, .ref aE, .ref aC, .ref aR, .ref aN, .ref aM])), (aG, .inl (cI, 4, .inl gu)), (aF, .inl (cI, 64, .inl f1)), (aE, .inl (cI, 64, .inl f2)), (oS, .inr (3, [.long ms, .long mx, .int n, .int mk, .int g, .int h, .int st, .int cn, .int cs]))]) [0, 1, 2, 3, 8] (by decide) rfl
          have hFc := va_free (wc := [(oP, .inr (2, [.ref aG, .long bc, .long br, .ref aF, .ref aE, .ref aC, .ref aR, .ref aN, .ref aM])), (aG, .inl (cI, 4, .inl gu)), (aF, .inl (cI, 64, .inl f1)), (aE, .inl (cI, 64, .inl f2)), (oS, .inr (3, [.long ms, .long mx, .int n, .int mk, .int g, .int h, .int st, .int cn, .int cs]))]) hD hS hA [0, 1, 2, 3, 8] rfl
          refine va_callv (va_runV (As := [.ref oS, .int (nI k)]) (rest := []) ⟨hx, hb, hml, hown, htb⟩ (c_X2_tabulate l D cI cJ oP aG aF aE aC aR aN aM bc br gu f1 f2 oS ms mx n mk g h st cn cs (nI k) H.size ) (cb_V htb mt_X2_tabulate mi_yX2_tabulate mx_yX2_tabulate mm_X2_54 ⟨Nat.le_trans (Nat.le_of_ble_eq_true rfl) hRf, Nat.le_trans (Nat.le_of_ble_eq_true rfl) hRl⟩) ⟨bl_W, va_recv hK hP (ci := 2) (q0 := 0) rfl rfl, pre_W (hP.sub (ws' := [(oP, .inr (2, [.ref aG, .long bc, .long br, .ref aF, .ref aE, .ref aC, .ref aR, .ref aN, .ref aM])), (aG, .inl (cI, 4, .inl gu)), (aF, .inl (cI, 64, .inl f1)), (aE, .inl (cI, 64, .inl f2)), (oS, .inr (3, [.long ms, .long mx, .int n, .int mk, .int g, .int h, .int st, .int cn, .int cs]))]) [0, 1, 2, 3, 8] rfl) hK hN hDc⟩ rfl rfl hl.1 rfl (lv_room (Nat.le_of_ble_eq_true rfl)) dX2_follow_38 ⟨Nat.zero_le _, Nat.zero_le _⟩) hS (fun q _ h => hFc q h) hFc (fun u t H1 locs ht hvm hu hB hz1 hk1 hS => ?_)
          obtain ⟨fd2_38, se2_38, h_38, hP1, hD1⟩ := hB
          rw [ht] at hP1
          obtain ⟨hP, hD⟩ := va_join (wr := [(aC, .inl (cJ, 32, .inr (.inl f3))), (aR, .inl (cJ, 32, .inr (.inl f4))), (aN, .inl (cJ, 32, .inr (.inl f5))), (aM, .inl (cJ, 32, .inr (.inl f6))), (oH, .inr (1, [.ref aS, .int ln])), (aS, .inl (cI, 140, .inl f))]) (w1 := [(oP, .inr (2, [.ref aG, .long bc, .long br, .ref aF, .ref aE, .ref aC, .ref aR, .ref aN, .ref aM])), (aG, .inl (cI, 4, .inl gu)), (aF, .inl (cI, 64, .inl fd2_38)), (aE, .inl (cI, 64, .inl se2_38)), (oS, .inr (3, [.long ms, .long mx, .int n, .int mk, .int g, .int h, .int st, .int cn, .int cs]))]) hP hD [0, 1, 2, 3, 8] [4, 5, 6, 7, 9, 10] rfl rfl (by decide) (by decide) hk1 hFc hP1 hD1
          clear hk1 hz1 hvm ht hP1 hD1 hFc hDc
          generalize H1 = H at hP hS ⊢
          have hP : va_P D vwCl [(oP, .inr (2, [.ref aG, .long bc, .long br, .ref aF, .ref aE, .ref aC, .ref aR, .ref aN, .ref aM])), (aG, .inl (cI, 4, .inl gu)), (aF, .inl (cI, 64, .inl fd2_38)), (aE, .inl (cI, 64, .inl se2_38)), (aC, .inl (cJ, 32, .inr (.inl f3))), (aR, .inl (cJ, 32, .inr (.inl f4))), (aN, .inl (cJ, 32, .inr (.inl f5))), (aM, .inl (cJ, 32, .inr (.inl f6))), (oS, .inr (3, [.long ms, .long mx, .int n, .int mk, .int g, .int h, .int st, .int cn, .int cs])), (oH, .inr (1, [.ref aS, .int ln])), (aS, .inl (cI, 140, .inl f))] H := hP.sub [6, 7, 8, 9, 0, 1, 2, 3, 10, 4, 5] rfl
          have hD : va_D A [(oP, .inr (2, [.ref aG, .long bc, .long br, .ref aF, .ref aE, .ref aC, .ref aR, .ref aN, .ref aM])), (aG, .inl (cI, 4, .inl gu)), (aF, .inl (cI, 64, .inl fd2_38)), (aE, .inl (cI, 64, .inl se2_38)), (aC, .inl (cJ, 32, .inr (.inl f3))), (aR, .inl (cJ, 32, .inr (.inl f4))), (aN, .inl (cJ, 32, .inr (.inl f5))), (aM, .inl (cJ, 32, .inr (.inl f6))), (oS, .inr (3, [.long ms, .long mx, .int n, .int mk, .int g, .int h, .int st, .int cn, .int cs])), (oH, .inr (1, [.ref aS, .int ln])), (aS, .inl (cI, 140, .inl f))] := hD.sub [6, 7, 8, 9, 0, 1, 2, 3, 10, 4, 5] (by decide) rfl
          refine lv_aload_n hx hb dX2_follow_41 rfl (lv_at hl 3 rfl) ?_
          refine lv_aload_n hx hb dX2_follow_42 rfl (lv_at hl 5 rfl) ?_
          refine lv_iload hx hb dX2_follow_43 (lv_at hl 2 rfl) ?_
          refine lv_iconst (v := 2) hx hb dX2_follow_45 (by decide) ?_
          refine lv_iload hx hb dX2_follow_46 (lv_at hl 0 rfl) ?_
          refine lv_imul hx hb dX2_follow_48 ?_
          refine lv_iadd hx hb dX2_follow_49 ?_
          refine va_calli (va_runV (As := [.int ((pl + cn) + (2 * nI k))]) (rest := [.ref oP]) ⟨hx, hb, hml, hown, htb⟩ (c_X1_at l D cI cJ oH aS ln f ((pl + cn) + (2 * nI k)) H.size ) (cb_V htb mt_X1_at mi_yX1_at mx_yX1_at mm_X2_58 ⟨Nat.le_trans (Nat.le_of_ble_eq_true rfl) hRf, Nat.le_trans (Nat.le_of_ble_eq_true rfl) hRl⟩) ⟨bl_R, va_recv hK hP (ci := 1) (q0 := 9) rfl rfl, pre_R (hP.sub (ws' := [(oH, .inr (1, [.ref aS, .int ln])), (aS, .inl (cI, 140, .inl f))]) [9, 10] rfl) hK hN⟩ rfl rfl hl.1 rfl (lv_room (Nat.le_of_ble_eq_true rfl)) dX2_follow_50 ⟨Nat.zero_le _, Nat.zero_le _⟩) hS ro_A (ro_F hS hA) (fun r_50 u t H1 locs ht hvm hu hB hz1 hk1 hS => ?_)
          have hu2 := hu.symm; subst hu2
          replace hP := ro_P hP hk1
          clear hk1 hz1 hvm ht
          generalize H1 = H at hP hS ⊢
          have hP : va_P D vwCl [(oP, .inr (2, [.ref aG, .long bc, .long br, .ref aF, .ref aE, .ref aC, .ref aR, .ref aN, .ref aM])), (aG, .inl (cI, 4, .inl gu)), (aF, .inl (cI, 64, .inl fd2_38)), (aE, .inl (cI, 64, .inl se2_38)), (aC, .inl (cJ, 32, .inr (.inl f3))), (aR, .inl (cJ, 32, .inr (.inl f4))), (aN, .inl (cJ, 32, .inr (.inl f5))), (aM, .inl (cJ, 32, .inr (.inl f6))), (oS, .inr (3, [.long ms, .long mx, .int n, .int mk, .int g, .int h, .int st, .int cn, .int cs])), (oH, .inr (1, [.ref aS, .int ln])), (aS, .inl (cI, 140, .inl f))] H := hP
          obtain rfl : r_50 = c_at f ((pl + cn) + (2 * nI k)) := hB
          refine lv_aload_n hx hb dX2_follow_53 rfl (lv_at hl 5 rfl) ?_
          refine lv_iload hx hb dX2_follow_54 (lv_at hl 2 rfl) ?_
          refine lv_iconst (v := 2) hx hb dX2_follow_56 (by decide) ?_
          refine lv_iload hx hb dX2_follow_57 (lv_at hl 0 rfl) ?_
          refine lv_imul hx hb dX2_follow_59 ?_
          refine lv_iadd hx hb dX2_follow_60 ?_
          refine lv_iconst (v := 1) hx hb dX2_follow_61 (by decide) ?_
          refine lv_iadd hx hb dX2_follow_62 ?_
          refine va_calli (va_runV (As := [.int (((pl + cn) + (2 * nI k)) + 1)]) (rest := [.int (c_at f ((pl + cn) + (2 * nI k))), .ref oP]) ⟨hx, hb, hml, hown, htb⟩ (c_X1_at l D cI cJ oH aS ln f (((pl + cn) + (2 * nI k)) + 1) H.size ) (cb_V htb mt_X1_at mi_yX1_at mx_yX1_at mm_X2_58 ⟨Nat.le_trans (Nat.le_of_ble_eq_true rfl) hRf, Nat.le_trans (Nat.le_of_ble_eq_true rfl) hRl⟩) ⟨bl_R, va_recv hK hP (ci := 1) (q0 := 9) rfl rfl, pre_R (hP.sub (ws' := [(oH, .inr (1, [.ref aS, .int ln])), (aS, .inl (cI, 140, .inl f))]) [9, 10] rfl) hK hN⟩ rfl rfl hl.1 rfl (lv_room (Nat.le_of_ble_eq_true rfl)) dX2_follow_63 ⟨Nat.zero_le _, Nat.zero_le _⟩) hS ro_A (ro_F hS hA) (fun r_63 u t H1 locs ht hvm hu hB hz1 hk1 hS => ?_)
          have hu2 := hu.symm; subst hu2
          replace hP := ro_P hP hk1
          clear hk1 hz1 hvm ht
          generalize H1 = H at hP hS ⊢
          have hP : va_P D vwCl [(oP, .inr (2, [.ref aG, .long bc, .long br, .ref aF, .ref aE, .ref aC, .ref aR, .ref aN, .ref aM])), (aG, .inl (cI, 4, .inl gu)), (aF, .inl (cI, 64, .inl fd2_38)), (aE, .inl (cI, 64, .inl se2_38)), (aC, .inl (cJ, 32, .inr (.inl f3))), (aR, .inl (cJ, 32, .inr (.inl f4))), (aN, .inl (cJ, 32, .inr (.inl f5))), (aM, .inl (cJ, 32, .inr (.inl f6))), (oS, .inr (3, [.long ms, .long mx, .int n, .int mk, .int g, .int h, .int st, .int cn, .int cs])), (oH, .inr (1, [.ref aS, .int ln])), (aS, .inl (cI, 140, .inl f))] H := hP
          obtain rfl : r_63 = c_at f (((pl + cn) + (2 * nI k)) + 1) := hB
          refine lv_iload hx hb dX2_follow_66 (lv_at hl 0 rfl) ?_
          refine lv_aload_n hx hb dX2_follow_68 rfl (lv_at hl 4 rfl) ?_
          refine va_get (D := D) (ci := 3) (v := .int n) (C := RX3) (T := TX3) (N := 9) hx hb htb ml_X3 hown hK hP 8 rfl rfl 2 (by decide) (htb _ mf_X2_64) (fun _ h9 => h9) rfl dX2_follow_69 ?_
          refine lv_icmp_ge (tgt := 79) hx hb dX2_follow_72 (by decide) (fun c_72 => ?_) (fun c_72 => ?_)
          · skip
            refine lv_iconst (v := 0) hx hb dX2_follow_79 (by decide) ?_
            have hDc := hD.sub (ws' := [(oP, .inr (2, [.ref aG, .long bc, .long br, .ref aF, .ref aE, .ref aC, .ref aR, .ref aN, .ref aM])), (aF, .inl (cI, 64, .inl fd2_38)), (aE, .inl (cI, 64, .inl se2_38)), (aC, .inl (cJ, 32, .inr (.inl f3))), (aR, .inl (cJ, 32, .inr (.inl f4))), (aN, .inl (cJ, 32, .inr (.inl f5))), (aM, .inl (cJ, 32, .inr (.inl f6)))]) [0, 2, 3, 4, 5, 6, 7] (by decide) rfl
            have hFc := va_free (wc := [(oP, .inr (2, [.ref aG, .long bc, .long br, .ref aF, .ref aE, .ref aC, .ref aR, .ref aN, .ref aM])), (aF, .inl (cI, 64, .inl fd2_38)), (aE, .inl (cI, 64, .inl se2_38)), (aC, .inl (cJ, 32, .inr (.inl f3))), (aR, .inl (cJ, 32, .inr (.inl f4))), (aN, .inl (cJ, 32, .inr (.inl f5))), (aM, .inl (cJ, 32, .inr (.inl f6)))]) hD hS hA [0, 2, 3, 4, 5, 6, 7] rfl
            refine va_callv (va_runV (As := [.int (c_at f ((pl + cn) + (2 * nI k))), .int (c_at f (((pl + cn) + (2 * nI k)) + 1)), .int 0]) (rest := []) ⟨hx, hb, hml, hown, htb⟩ (c_X2_goOn l D cI cJ oP aG aF aE aC aR aN aM bc br fd2_38 se2_38 f3 f4 f5 f6 (c_at f ((pl + cn) + (2 * nI k))) (c_at f (((pl + cn) + (2 * nI k)) + 1)) 0 H.size ) (cb_V htb mt_X2_goOn mi_yX2_goOn mx_yX2_goOn mm_X2_67 ⟨Nat.le_trans (Nat.le_of_ble_eq_true rfl) hRf, Nat.le_trans (Nat.le_of_ble_eq_true rfl) hRl⟩) ⟨bl_W, va_recv hK hP (ci := 2) (q0 := 0) rfl rfl, pre_W (hP.sub (ws' := [(oP, .inr (2, [.ref aG, .long bc, .long br, .ref aF, .ref aE, .ref aC, .ref aR, .ref aN, .ref aM])), (aF, .inl (cI, 64, .inl fd2_38)), (aE, .inl (cI, 64, .inl se2_38)), (aC, .inl (cJ, 32, .inr (.inl f3))), (aR, .inl (cJ, 32, .inr (.inl f4))), (aN, .inl (cJ, 32, .inr (.inl f5))), (aM, .inl (cJ, 32, .inr (.inl f6)))]) [0, 2, 3, 4, 5, 6, 7] rfl) hK hN hDc⟩ rfl rfl hl.1 rfl (lv_room (Nat.le_of_ble_eq_true rfl)) dX2_follow_80 ⟨Nat.zero_le _, Nat.zero_le _⟩) hS (fun q _ h => hFc q h) hFc (fun u t H1 locs ht hvm hu hB hz1 hk1 hS => ?_)
            obtain ⟨co2_80, ro2_80, nc2_80, nr2_80, h_80, hP1, hD1⟩ := hB
            rw [ht] at hP1
            obtain ⟨hP, hD⟩ := va_join (wr := [(aG, .inl (cI, 4, .inl gu)), (oS, .inr (3, [.long ms, .long mx, .int n, .int mk, .int g, .int h, .int st, .int cn, .int cs])), (oH, .inr (1, [.ref aS, .int ln])), (aS, .inl (cI, 140, .inl f))]) (w1 := [(oP, .inr (2, [.ref aG, .long bc, .long br, .ref aF, .ref aE, .ref aC, .ref aR, .ref aN, .ref aM])), (aF, .inl (cI, 64, .inl fd2_38)), (aE, .inl (cI, 64, .inl se2_38)), (aC, .inl (cJ, 32, .inr (.inl co2_80))), (aR, .inl (cJ, 32, .inr (.inl ro2_80))), (aN, .inl (cJ, 32, .inr (.inl nc2_80))), (aM, .inl (cJ, 32, .inr (.inl nr2_80)))]) hP hD [0, 2, 3, 4, 5, 6, 7] [1, 8, 9, 10] rfl rfl (by decide) (by decide) hk1 hFc hP1 hD1
            clear hk1 hz1 hvm ht hP1 hD1 hFc hDc
            generalize H1 = H at hP hS ⊢
            have hP : va_P D vwCl [(oP, .inr (2, [.ref aG, .long bc, .long br, .ref aF, .ref aE, .ref aC, .ref aR, .ref aN, .ref aM])), (aG, .inl (cI, 4, .inl gu)), (aF, .inl (cI, 64, .inl fd2_38)), (aE, .inl (cI, 64, .inl se2_38)), (aC, .inl (cJ, 32, .inr (.inl co2_80))), (aR, .inl (cJ, 32, .inr (.inl ro2_80))), (aN, .inl (cJ, 32, .inr (.inl nc2_80))), (aM, .inl (cJ, 32, .inr (.inl nr2_80))), (oS, .inr (3, [.long ms, .long mx, .int n, .int mk, .int g, .int h, .int st, .int cn, .int cs])), (oH, .inr (1, [.ref aS, .int ln])), (aS, .inl (cI, 140, .inl f))] H := hP.sub [4, 0, 5, 6, 7, 8, 9, 10, 1, 2, 3] rfl
            have hD : va_D A [(oP, .inr (2, [.ref aG, .long bc, .long br, .ref aF, .ref aE, .ref aC, .ref aR, .ref aN, .ref aM])), (aG, .inl (cI, 4, .inl gu)), (aF, .inl (cI, 64, .inl fd2_38)), (aE, .inl (cI, 64, .inl se2_38)), (aC, .inl (cJ, 32, .inr (.inl co2_80))), (aR, .inl (cJ, 32, .inr (.inl ro2_80))), (aN, .inl (cJ, 32, .inr (.inl nc2_80))), (aM, .inl (cJ, 32, .inr (.inl nr2_80))), (oS, .inr (3, [.long ms, .long mx, .int n, .int mk, .int g, .int h, .int st, .int cn, .int cs])), (oH, .inr (1, [.ref aS, .int ln])), (aS, .inl (cI, 140, .inl f))] := hD.sub [4, 0, 5, 6, 7, 8, 9, 10, 1, 2, 3] (by decide) rfl
            refine lv_iinc (v := nI (k + 1)) (lv' := [(6, .int (nI (k + 1))), (5, .int (n + 3)), (4, .int (pl + cn)), (0, .ref oP), (1, .ref oS), (2, .ref oH), (3, .int pl)]) hx hb dX2_follow_83 hl (k := 0) rfl (nI_s k) (by decide) rfl (fun ls hl => ?_)
            refine lv_goto (tgt := 21) hx hb dX2_follow_86 (by decide) ?_
            exact ih_21 (k + 1) fd2_38 se2_38 co2_80 ro2_80 nc2_80 nr2_80 _ _ _ (lp_go hk c_25) (by have := lp_go hk c_25; omega) hP hD hS (lv_sub hl [0, 1, 2, 3, 4, 5, 6] rfl)
          · skip
            refine lv_iconst (v := 1) hx hb dX2_follow_75 (by decide) ?_
            refine lv_goto (tgt := 80) hx hb dX2_follow_76 (by decide) ?_
            have hDc := hD.sub (ws' := [(oP, .inr (2, [.ref aG, .long bc, .long br, .ref aF, .ref aE, .ref aC, .ref aR, .ref aN, .ref aM])), (aF, .inl (cI, 64, .inl fd2_38)), (aE, .inl (cI, 64, .inl se2_38)), (aC, .inl (cJ, 32, .inr (.inl f3))), (aR, .inl (cJ, 32, .inr (.inl f4))), (aN, .inl (cJ, 32, .inr (.inl f5))), (aM, .inl (cJ, 32, .inr (.inl f6)))]) [0, 2, 3, 4, 5, 6, 7] (by decide) rfl
            have hFc := va_free (wc := [(oP, .inr (2, [.ref aG, .long bc, .long br, .ref aF, .ref aE, .ref aC, .ref aR, .ref aN, .ref aM])), (aF, .inl (cI, 64, .inl fd2_38)), (aE, .inl (cI, 64, .inl se2_38)), (aC, .inl (cJ, 32, .inr (.inl f3))), (aR, .inl (cJ, 32, .inr (.inl f4))), (aN, .inl (cJ, 32, .inr (.inl f5))), (aM, .inl (cJ, 32, .inr (.inl f6)))]) hD hS hA [0, 2, 3, 4, 5, 6, 7] rfl
            refine va_callv (va_runV (As := [.int (c_at f ((pl + cn) + (2 * nI k))), .int (c_at f (((pl + cn) + (2 * nI k)) + 1)), .int 1]) (rest := []) ⟨hx, hb, hml, hown, htb⟩ (c_X2_goOn l D cI cJ oP aG aF aE aC aR aN aM bc br fd2_38 se2_38 f3 f4 f5 f6 (c_at f ((pl + cn) + (2 * nI k))) (c_at f (((pl + cn) + (2 * nI k)) + 1)) 1 H.size ) (cb_V htb mt_X2_goOn mi_yX2_goOn mx_yX2_goOn mm_X2_67 ⟨Nat.le_trans (Nat.le_of_ble_eq_true rfl) hRf, Nat.le_trans (Nat.le_of_ble_eq_true rfl) hRl⟩) ⟨bl_W, va_recv hK hP (ci := 2) (q0 := 0) rfl rfl, pre_W (hP.sub (ws' := [(oP, .inr (2, [.ref aG, .long bc, .long br, .ref aF, .ref aE, .ref aC, .ref aR, .ref aN, .ref aM])), (aF, .inl (cI, 64, .inl fd2_38)), (aE, .inl (cI, 64, .inl se2_38)), (aC, .inl (cJ, 32, .inr (.inl f3))), (aR, .inl (cJ, 32, .inr (.inl f4))), (aN, .inl (cJ, 32, .inr (.inl f5))), (aM, .inl (cJ, 32, .inr (.inl f6)))]) [0, 2, 3, 4, 5, 6, 7] rfl) hK hN hDc⟩ rfl rfl hl.1 rfl (lv_room (Nat.le_of_ble_eq_true rfl)) dX2_follow_80 ⟨Nat.zero_le _, Nat.zero_le _⟩) hS (fun q _ h => hFc q h) hFc (fun u t H1 locs ht hvm hu hB hz1 hk1 hS => ?_)
            obtain ⟨co2_80, ro2_80, nc2_80, nr2_80, h_80, hP1, hD1⟩ := hB
            rw [ht] at hP1
            obtain ⟨hP, hD⟩ := va_join (wr := [(aG, .inl (cI, 4, .inl gu)), (oS, .inr (3, [.long ms, .long mx, .int n, .int mk, .int g, .int h, .int st, .int cn, .int cs])), (oH, .inr (1, [.ref aS, .int ln])), (aS, .inl (cI, 140, .inl f))]) (w1 := [(oP, .inr (2, [.ref aG, .long bc, .long br, .ref aF, .ref aE, .ref aC, .ref aR, .ref aN, .ref aM])), (aF, .inl (cI, 64, .inl fd2_38)), (aE, .inl (cI, 64, .inl se2_38)), (aC, .inl (cJ, 32, .inr (.inl co2_80))), (aR, .inl (cJ, 32, .inr (.inl ro2_80))), (aN, .inl (cJ, 32, .inr (.inl nc2_80))), (aM, .inl (cJ, 32, .inr (.inl nr2_80)))]) hP hD [0, 2, 3, 4, 5, 6, 7] [1, 8, 9, 10] rfl rfl (by decide) (by decide) hk1 hFc hP1 hD1
            clear hk1 hz1 hvm ht hP1 hD1 hFc hDc
            generalize H1 = H at hP hS ⊢
            have hP : va_P D vwCl [(oP, .inr (2, [.ref aG, .long bc, .long br, .ref aF, .ref aE, .ref aC, .ref aR, .ref aN, .ref aM])), (aG, .inl (cI, 4, .inl gu)), (aF, .inl (cI, 64, .inl fd2_38)), (aE, .inl (cI, 64, .inl se2_38)), (aC, .inl (cJ, 32, .inr (.inl co2_80))), (aR, .inl (cJ, 32, .inr (.inl ro2_80))), (aN, .inl (cJ, 32, .inr (.inl nc2_80))), (aM, .inl (cJ, 32, .inr (.inl nr2_80))), (oS, .inr (3, [.long ms, .long mx, .int n, .int mk, .int g, .int h, .int st, .int cn, .int cs])), (oH, .inr (1, [.ref aS, .int ln])), (aS, .inl (cI, 140, .inl f))] H := hP.sub [4, 0, 5, 6, 7, 8, 9, 10, 1, 2, 3] rfl
            have hD : va_D A [(oP, .inr (2, [.ref aG, .long bc, .long br, .ref aF, .ref aE, .ref aC, .ref aR, .ref aN, .ref aM])), (aG, .inl (cI, 4, .inl gu)), (aF, .inl (cI, 64, .inl fd2_38)), (aE, .inl (cI, 64, .inl se2_38)), (aC, .inl (cJ, 32, .inr (.inl co2_80))), (aR, .inl (cJ, 32, .inr (.inl ro2_80))), (aN, .inl (cJ, 32, .inr (.inl nc2_80))), (aM, .inl (cJ, 32, .inr (.inl nr2_80))), (oS, .inr (3, [.long ms, .long mx, .int n, .int mk, .int g, .int h, .int st, .int cn, .int cs])), (oH, .inr (1, [.ref aS, .int ln])), (aS, .inl (cI, 140, .inl f))] := hD.sub [4, 0, 5, 6, 7, 8, 9, 10, 1, 2, 3] (by decide) rfl
            refine lv_iinc (v := nI (k + 1)) (lv' := [(6, .int (nI (k + 1))), (5, .int (n + 3)), (4, .int (pl + cn)), (0, .ref oP), (1, .ref oS), (2, .ref oH), (3, .int pl)]) hx hb dX2_follow_83 hl (k := 0) rfl (nI_s k) (by decide) rfl (fun ls hl => ?_)
            refine lv_goto (tgt := 21) hx hb dX2_follow_86 (by decide) ?_
            exact ih_21 (k + 1) fd2_38 se2_38 co2_80 ro2_80 nc2_80 nr2_80 _ _ _ (lp_go hk c_25) (by have := lp_go hk c_25; omega) hP hD hS (lv_sub hl [0, 1, 2, 3, 4, 5, 6] rfl)
  exact LOOP_21 _ 0 fd se co2_1 ro2_1 nc nr _ _ _ (Nat.zero_le _) (Nat.lt_succ_self _) hP hD hS (lv_sub hl [0, 1, 2, 3, 4, 5, 6] rfl)
set_option maxHeartbeats 4000000 in
set_option maxRecDepth 100000 in
theorem c_X2_follow (l : Launch) (D : va_G) (cI cJ : ClassId) (oP : Nat) (aG : Nat) (aF : Nat) (aE : Nat) (aC : Nat) (aR : Nat) (aN : Nat) (aM : Nat) (bc : Int64) (br : Int64) (gu : Nat → Int32) (fd : Nat → Int32) (se : Nat → Int32) (co : Nat → Int64) (ro : Nat → Int64) (nc : Nat → Int64) (nr : Nat → Int64) (oS : Nat) (ms : Int64) (mx : Int64) (n : Int32) (mk : Int32) (g : Int32) (h : Int32) (st : Int32) (cn : Int32) (cs : Int32) (oH : Nat) (aS : Nat) (ln : Int32) (f : Nat → Int32) (pl : Int32) (sz : Nat)  : Met l yX2_follow (Cond.code yX2_follow cX2_follow 7 none :: BIG) ({ frames := 5, cells := 0, slots := 0, locals := 117 }) (va_Pc [.ref oP, .ref oS, .ref oH, .int pl] (pr_W D cI cJ [(oP, .inr (2, [.ref aG, .long bc, .long br, .ref aF, .ref aE, .ref aC, .ref aR, .ref aN, .ref aM])), (aG, .inl (cI, 4, .inl gu)), (aF, .inl (cI, 64, .inl fd)), (aE, .inl (cI, 64, .inl se)), (aC, .inl (cJ, 32, .inr (.inl co))), (aR, .inl (cJ, 32, .inr (.inl ro))), (aN, .inl (cJ, 32, .inr (.inl nc))), (aM, .inl (cJ, 32, .inr (.inl nr))), (oS, .inr (3, [.long ms, .long mx, .int n, .int mk, .int g, .int h, .int st, .int cn, .int cs])), (oH, .inr (1, [.ref aS, .int ln])), (aS, .inl (cI, 140, .inl f))] sz)) (va_Qv (fun (_ : Unit) => True) (fun (_ : Unit) (t : State) => ∃ (bc2 : Int64) (br2 : Int64) (fd2 : Nat → Int32) (se2 : Nat → Int32) (co2 : Nat → Int64) (ro2 : Nat → Int64) (nc2 : Nat → Int64) (nr2 : Nat → Int64), (True) ∧ va_P D vwCl [(oP, .inr (2, [.ref aG, .long bc2, .long br2, .ref aF, .ref aE, .ref aC, .ref aR, .ref aN, .ref aM])), (aG, .inl (cI, 4, .inl gu)), (aF, .inl (cI, 64, .inl fd2)), (aE, .inl (cI, 64, .inl se2)), (aC, .inl (cJ, 32, .inr (.inl co2))), (aR, .inl (cJ, 32, .inr (.inl ro2))), (aN, .inl (cJ, 32, .inr (.inl nc2))), (aM, .inl (cJ, 32, .inr (.inl nr2))), (oS, .inr (3, [.long ms, .long mx, .int n, .int mk, .int g, .int h, .int st, .int cn, .int cs])), (oH, .inr (1, [.ref aS, .int ln])), (aS, .inl (cI, 140, .inl f))] t.heap ∧ va_D (va_A [(oP, .inr (2, [.ref aG, .long bc, .long br, .ref aF, .ref aE, .ref aC, .ref aR, .ref aN, .ref aM])), (aG, .inl (cI, 4, .inl gu)), (aF, .inl (cI, 64, .inl fd)), (aE, .inl (cI, 64, .inl se)), (aC, .inl (cJ, 32, .inr (.inl co))), (aR, .inl (cJ, 32, .inr (.inl ro))), (aN, .inl (cJ, 32, .inr (.inl nc))), (aM, .inl (cJ, 32, .inr (.inl nr))), (oS, .inr (3, [.long ms, .long mx, .int n, .int mk, .int g, .int h, .int st, .int cn, .int cs])), (oH, .inr (1, [.ref aS, .int ln])), (aS, .inl (cI, 140, .inl f))] sz) [(oP, .inr (2, [.ref aG, .long bc2, .long br2, .ref aF, .ref aE, .ref aC, .ref aR, .ref aN, .ref aM])), (aG, .inl (cI, 4, .inl gu)), (aF, .inl (cI, 64, .inl fd2)), (aE, .inl (cI, 64, .inl se2)), (aC, .inl (cJ, 32, .inr (.inl co2))), (aR, .inl (cJ, 32, .inr (.inl ro2))), (aN, .inl (cJ, 32, .inr (.inl nc2))), (aM, .inl (cJ, 32, .inr (.inl nr2))), (oS, .inr (3, [.long ms, .long mx, .int n, .int mk, .int g, .int h, .int st, .int cn, .int cs])), (oH, .inr (1, [.ref aS, .int ln])), (aS, .inl (cI, 140, .inl f))]) (va_A [(oP, .inr (2, [.ref aG, .long bc, .long br, .ref aF, .ref aE, .ref aC, .ref aR, .ref aN, .ref aM])), (aG, .inl (cI, 4, .inl gu)), (aF, .inl (cI, 64, .inl fd)), (aE, .inl (cI, 64, .inl se)), (aC, .inl (cJ, 32, .inr (.inl co))), (aR, .inl (cJ, 32, .inr (.inl ro))), (aN, .inl (cJ, 32, .inr (.inl nc))), (aM, .inl (cJ, 32, .inr (.inl nr))), (oS, .inr (3, [.long ms, .long mx, .int n, .int mk, .int g, .int h, .int st, .int cn, .int cs])), (oH, .inr (1, [.ref aS, .int ln])), (aS, .inl (cI, 140, .inl f))] sz)) 0 0 (va_A [(oP, .inr (2, [.ref aG, .long bc, .long br, .ref aF, .ref aE, .ref aC, .ref aR, .ref aN, .ref aM])), (aG, .inl (cI, 4, .inl gu)), (aF, .inl (cI, 64, .inl fd)), (aE, .inl (cI, 64, .inl se)), (aC, .inl (cJ, 32, .inr (.inl co))), (aR, .inl (cJ, 32, .inr (.inl ro))), (aN, .inl (cJ, 32, .inr (.inl nc))), (aM, .inl (cJ, 32, .inr (.inl nr))), (oS, .inr (3, [.long ms, .long mx, .int n, .int mk, .int g, .int h, .int st, .int cn, .int cs])), (oH, .inr (1, [.ref aS, .int ln])), (aS, .inl (cI, 140, .inl f))] sz) := by
  refine Met.ofW (cc := cX2_follow) (maxL := 7) (ret := none) (by decide) rfl ?_
  intro p e s m args below meth c s₁ B hml hv
  obtain ⟨rfl, hsz, hP, hK, hN, hD0⟩ := hv
  have hl := lv_entry ([.ref oP, .ref oS, .ref oH, .int pl]) (n := 7) (Nat.le_of_ble_eq_true rfl)
  rw [lg_entry_eq]
  subst hsz
  generalize (lg_sl ([.ref oP, .ref oS, .ref oH, .int pl]) ++ List.replicate (7 - (lg_sl ([.ref oP, .ref oS, .ref oH, .int pl])).length) Slot.unset).toArray = ls at hl ⊢
  exact b_X2_follow (A := va_A [(oP, .inr (2, [.ref aG, .long bc, .long br, .ref aF, .ref aE, .ref aC, .ref aR, .ref aN, .ref aM])), (aG, .inl (cI, 4, .inl gu)), (aF, .inl (cI, 64, .inl fd)), (aE, .inl (cI, 64, .inl se)), (aC, .inl (cJ, 32, .inr (.inl co))), (aR, .inl (cJ, 32, .inr (.inl ro))), (aN, .inl (cJ, 32, .inr (.inl nc))), (aM, .inl (cJ, 32, .inr (.inl nr))), (oS, .inr (3, [.long ms, .long mx, .int n, .int mk, .int g, .int h, .int st, .int cn, .int cs])), (oH, .inr (1, [.ref aS, .int ln])), (aS, .inl (cI, 140, .inl f))] s.heap.size) D cI cJ oP aG aF aE aC aR aN aM bc br gu fd se co ro nc nr oS ms mx n mk g h st cn cs oH aS ln f pl  B.exec B.bytes hml (findClass_of_methodNamed B.named) (fun w h => atoms_spec B.pre w (List.mem_cons_of_mem _ h)) (Nat.le_of_ble_eq_true rfl) (Nat.le_of_ble_eq_true rfl) hK hN (fun q h => Or.inr h) hP (hD0.self (sz := s.heap.size)) hl (fun bc2 br2 fd2 se2 co2 ro2 nc2 nr2 H locs pc ls hdg hpost hP hD hS => W.vret B.exec B.bytes B.returns (fun t ht hW => ⟨⟨(), rfl, trivial, bc2, br2, fd2, se2, co2, ro2, nc2, nr2, hpost, by rw [ht]; exact hP, hD⟩, hS.F ht⟩) hS.2.2 hdg B.notSynchronized)
end
