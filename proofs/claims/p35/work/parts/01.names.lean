-- ===== PART A: goes FIRST, ahead of the names: the tables' words, and 'selects' of the private methods out of them =====
/-- a private method of a class that the tables say can be made, by its rows of tables_1 -/
def lw_okq (q : MethodName × Nat) : Prop := (q.1.cls ≠ "java/lang/invoke/MethodHandle" ∧ q.1.cls ≠ "java/lang/invoke/VarHandle") ∧ Cond.instantiable q.1.cls q.2 ∈ tables_1 ∧ Cond.privateMethod q.1 ∈ tables_1 ∧ Cond.instanceMethod q.1 ∈ tables_1
theorem lw_p0 : lw_okq (⟨"MouthFrames", "known", "(I)I"⟩, 10) := ⟨⟨by decide +kernel, by decide +kernel⟩, List.mem_of_getElem? (i := 16) (by decide +kernel), List.mem_of_getElem? (i := 300) (by decide +kernel), List.mem_of_getElem? (i := 301) (by decide +kernel)⟩
theorem lw_p1 : lw_okq (⟨"MouthFrames$Past", "loseOldest", "()V"⟩, 2) := ⟨⟨by decide +kernel, by decide +kernel⟩, List.mem_of_getElem? (i := 99) (by decide +kernel), List.mem_of_getElem? (i := 308) (by decide +kernel), List.mem_of_getElem? (i := 309) (by decide +kernel)⟩
theorem lw_p2 : lw_okq (⟨"MouthFrames$Cut", "cutByMarks", "(LMouthFrames$Talk;)V"⟩, 11) := ⟨⟨by decide +kernel, by decide +kernel⟩, List.mem_of_getElem? (i := 116) (by decide +kernel), List.mem_of_getElem? (i := 329) (by decide +kernel), List.mem_of_getElem? (i := 330) (by decide +kernel)⟩
theorem lw_p3 : lw_okq (⟨"MouthFrames$Cut", "lend", "(LMouthFrames$Talk;)V"⟩, 11) := ⟨⟨by decide +kernel, by decide +kernel⟩, List.mem_of_getElem? (i := 116) (by decide +kernel), List.mem_of_getElem? (i := 343) (by decide +kernel), List.mem_of_getElem? (i := 344) (by decide +kernel)⟩
theorem lw_p4 : lw_okq (⟨"MouthFrames$Cut", "lendTo", "(II)I"⟩, 11) := ⟨⟨by decide +kernel, by decide +kernel⟩, List.mem_of_getElem? (i := 116) (by decide +kernel), List.mem_of_getElem? (i := 351) (by decide +kernel), List.mem_of_getElem? (i := 352) (by decide +kernel)⟩
theorem lw_p5 : lw_okq (⟨"MouthFrames$Cut", "placeSounds", "(LMouthFrames$Talk;)V"⟩, 11) := ⟨⟨by decide +kernel, by decide +kernel⟩, List.mem_of_getElem? (i := 116) (by decide +kernel), List.mem_of_getElem? (i := 355) (by decide +kernel), List.mem_of_getElem? (i := 356) (by decide +kernel)⟩
theorem lw_p6 : lw_okq (⟨"MouthFrames$Cut", "findHolds", "()V"⟩, 11) := ⟨⟨by decide +kernel, by decide +kernel⟩, List.mem_of_getElem? (i := 116) (by decide +kernel), List.mem_of_getElem? (i := 359) (by decide +kernel), List.mem_of_getElem? (i := 360) (by decide +kernel)⟩
theorem lw_p7 : lw_okq (⟨"MouthFrames$Talk", "isGuessed", "(I)Z"⟩, 15) := ⟨⟨by decide +kernel, by decide +kernel⟩, List.mem_of_getElem? (i := 24) (by decide +kernel), List.mem_of_getElem? (i := 386) (by decide +kernel), List.mem_of_getElem? (i := 387) (by decide +kernel)⟩
theorem lw_p8 : lw_okq (⟨"MouthFrames$Tape", "parseName", "()V"⟩, 10) := ⟨⟨by decide +kernel, by decide +kernel⟩, List.mem_of_getElem? (i := 184) (by decide +kernel), List.mem_of_getElem? (i := 511) (by decide +kernel), List.mem_of_getElem? (i := 512) (by decide +kernel)⟩
theorem lw_p9 : lw_okq (⟨"MouthFrames$Tape", "skipBlanks", "()V"⟩, 10) := ⟨⟨by decide +kernel, by decide +kernel⟩, List.mem_of_getElem? (i := 184) (by decide +kernel), List.mem_of_getElem? (i := 515) (by decide +kernel), List.mem_of_getElem? (i := 516) (by decide +kernel)⟩
theorem lw_p10 : lw_okq (⟨"MouthFrames$Tape", "stands", "(II)Z"⟩, 10) := ⟨⟨by decide +kernel, by decide +kernel⟩, List.mem_of_getElem? (i := 184) (by decide +kernel), List.mem_of_getElem? (i := 519) (by decide +kernel), List.mem_of_getElem? (i := 520) (by decide +kernel)⟩
theorem lw_p11 : lw_okq (⟨"MouthFrames$Tape", "kindFrom", "(I)I"⟩, 10) := ⟨⟨by decide +kernel, by decide +kernel⟩, List.mem_of_getElem? (i := 184) (by decide +kernel), List.mem_of_getElem? (i := 523) (by decide +kernel), List.mem_of_getElem? (i := 524) (by decide +kernel)⟩
theorem lw_p12 : lw_okq (⟨"MouthFrames$Tape", "isName", "(ILjava/lang/String;)Z"⟩, 10) := ⟨⟨by decide +kernel, by decide +kernel⟩, List.mem_of_getElem? (i := 184) (by decide +kernel), List.mem_of_getElem? (i := 528) (by decide +kernel), List.mem_of_getElem? (i := 529) (by decide +kernel)⟩
theorem lw_p13 : lw_okq (⟨"MouthFrames$Tape", "fail", "(I)V"⟩, 10) := ⟨⟨by decide +kernel, by decide +kernel⟩, List.mem_of_getElem? (i := 184) (by decide +kernel), List.mem_of_getElem? (i := 583) (by decide +kernel), List.mem_of_getElem? (i := 584) (by decide +kernel)⟩
theorem lw_p14 : lw_okq (⟨"MouthFrames$Tape", "parseSounds", "()V"⟩, 10) := ⟨⟨by decide +kernel, by decide +kernel⟩, List.mem_of_getElem? (i := 184) (by decide +kernel), List.mem_of_getElem? (i := 587) (by decide +kernel), List.mem_of_getElem? (i := 588) (by decide +kernel)⟩
theorem lw_p15 : lw_okq (⟨"MouthFrames$Tape", "parseSound", "()V"⟩, 10) := ⟨⟨by decide +kernel, by decide +kernel⟩, List.mem_of_getElem? (i := 184) (by decide +kernel), List.mem_of_getElem? (i := 591) (by decide +kernel), List.mem_of_getElem? (i := 592) (by decide +kernel)⟩
def lw_privs_1 : List (MethodName × Nat) := [(⟨"MouthFrames", "known", "(I)I"⟩, 10), (⟨"MouthFrames$Past", "loseOldest", "()V"⟩, 2), (⟨"MouthFrames$Cut", "cutByMarks", "(LMouthFrames$Talk;)V"⟩, 11), (⟨"MouthFrames$Cut", "lend", "(LMouthFrames$Talk;)V"⟩, 11), (⟨"MouthFrames$Cut", "lendTo", "(II)I"⟩, 11), (⟨"MouthFrames$Cut", "placeSounds", "(LMouthFrames$Talk;)V"⟩, 11), (⟨"MouthFrames$Cut", "findHolds", "()V"⟩, 11), (⟨"MouthFrames$Talk", "isGuessed", "(I)Z"⟩, 15), (⟨"MouthFrames$Tape", "parseName", "()V"⟩, 10), (⟨"MouthFrames$Tape", "skipBlanks", "()V"⟩, 10), (⟨"MouthFrames$Tape", "stands", "(II)Z"⟩, 10), (⟨"MouthFrames$Tape", "kindFrom", "(I)I"⟩, 10), (⟨"MouthFrames$Tape", "isName", "(ILjava/lang/String;)Z"⟩, 10), (⟨"MouthFrames$Tape", "fail", "(I)V"⟩, 10), (⟨"MouthFrames$Tape", "parseSounds", "()V"⟩, 10), (⟨"MouthFrames$Tape", "parseSound", "()V"⟩, 10)]
theorem lw_r1 : ∀ q ∈ lw_privs_1, lw_okq q := List.forall_mem_cons.mpr ⟨lw_p0, List.forall_mem_cons.mpr ⟨lw_p1, List.forall_mem_cons.mpr ⟨lw_p2, List.forall_mem_cons.mpr ⟨lw_p3, List.forall_mem_cons.mpr ⟨lw_p4, List.forall_mem_cons.mpr ⟨lw_p5, List.forall_mem_cons.mpr ⟨lw_p6, List.forall_mem_cons.mpr ⟨lw_p7, List.forall_mem_cons.mpr ⟨lw_p8, List.forall_mem_cons.mpr ⟨lw_p9, List.forall_mem_cons.mpr ⟨lw_p10, List.forall_mem_cons.mpr ⟨lw_p11, List.forall_mem_cons.mpr ⟨lw_p12, List.forall_mem_cons.mpr ⟨lw_p13, List.forall_mem_cons.mpr ⟨lw_p14, List.forall_mem_cons.mpr ⟨lw_p15, fun _ h => absurd h List.not_mem_nil⟩⟩⟩⟩⟩⟩⟩⟩⟩⟩⟩⟩⟩⟩⟩⟩
theorem lw_p16 : lw_okq (⟨"MouthFrames$Tape", "number", "()I"⟩, 10) := ⟨⟨by decide +kernel, by decide +kernel⟩, List.mem_of_getElem? (i := 184) (by decide +kernel), List.mem_of_getElem? (i := 595) (by decide +kernel), List.mem_of_getElem? (i := 596) (by decide +kernel)⟩
theorem lw_p17 : lw_okq (⟨"MouthFrames$Tape", "figure", "(II)I"⟩, 10) := ⟨⟨by decide +kernel, by decide +kernel⟩, List.mem_of_getElem? (i := 184) (by decide +kernel), List.mem_of_getElem? (i := 599) (by decide +kernel), List.mem_of_getElem? (i := 600) (by decide +kernel)⟩
theorem lw_p18 : lw_okq (⟨"MouthFrames$Tape", "takesComma", "()Z"⟩, 10) := ⟨⟨by decide +kernel, by decide +kernel⟩, List.mem_of_getElem? (i := 184) (by decide +kernel), List.mem_of_getElem? (i := 604) (by decide +kernel), List.mem_of_getElem? (i := 605) (by decide +kernel)⟩
theorem lw_p19 : lw_okq (⟨"MouthFrames$Tape", "parseWord", "()V"⟩, 10) := ⟨⟨by decide +kernel, by decide +kernel⟩, List.mem_of_getElem? (i := 184) (by decide +kernel), List.mem_of_getElem? (i := 608) (by decide +kernel), List.mem_of_getElem? (i := 609) (by decide +kernel)⟩
theorem lw_p20 : lw_okq (⟨"MouthFrames$Tape", "take", "(C)V"⟩, 10) := ⟨⟨by decide +kernel, by decide +kernel⟩, List.mem_of_getElem? (i := 184) (by decide +kernel), List.mem_of_getElem? (i := 612) (by decide +kernel), List.mem_of_getElem? (i := 613) (by decide +kernel)⟩
theorem lw_p21 : lw_okq (⟨"MouthFrames$Tape", "parseFrame", "()V"⟩, 10) := ⟨⟨by decide +kernel, by decide +kernel⟩, List.mem_of_getElem? (i := 184) (by decide +kernel), List.mem_of_getElem? (i := 616) (by decide +kernel), List.mem_of_getElem? (i := 617) (by decide +kernel)⟩
theorem lw_p22 : lw_okq (⟨"MouthFrames", "tellText", "()I"⟩, 10) := ⟨⟨by decide +kernel, by decide +kernel⟩, List.mem_of_getElem? (i := 16) (by decide +kernel), List.mem_of_getElem? (i := 624) (by decide +kernel), List.mem_of_getElem? (i := 625) (by decide +kernel)⟩
theorem lw_p23 : lw_okq (⟨"MouthFrames$Talk", "hasWord", "([II)Z"⟩, 15) := ⟨⟨by decide +kernel, by decide +kernel⟩, List.mem_of_getElem? (i := 24) (by decide +kernel), List.mem_of_getElem? (i := 636) (by decide +kernel), List.mem_of_getElem? (i := 637) (by decide +kernel)⟩
theorem lw_p24 : lw_okq (⟨"MouthFrames", "refusedRow", "(II)I"⟩, 10) := ⟨⟨by decide +kernel, by decide +kernel⟩, List.mem_of_getElem? (i := 16) (by decide +kernel), List.mem_of_getElem? (i := 763) (by decide +kernel), List.mem_of_getElem? (i := 764) (by decide +kernel)⟩
def lw_privs_2 : List (MethodName × Nat) := [(⟨"MouthFrames$Tape", "number", "()I"⟩, 10), (⟨"MouthFrames$Tape", "figure", "(II)I"⟩, 10), (⟨"MouthFrames$Tape", "takesComma", "()Z"⟩, 10), (⟨"MouthFrames$Tape", "parseWord", "()V"⟩, 10), (⟨"MouthFrames$Tape", "take", "(C)V"⟩, 10), (⟨"MouthFrames$Tape", "parseFrame", "()V"⟩, 10), (⟨"MouthFrames", "tellText", "()I"⟩, 10), (⟨"MouthFrames$Talk", "hasWord", "([II)Z"⟩, 15), (⟨"MouthFrames", "refusedRow", "(II)I"⟩, 10)]
theorem lw_r2 : ∀ q ∈ lw_privs_2, lw_okq q := List.forall_mem_cons.mpr ⟨lw_p16, List.forall_mem_cons.mpr ⟨lw_p17, List.forall_mem_cons.mpr ⟨lw_p18, List.forall_mem_cons.mpr ⟨lw_p19, List.forall_mem_cons.mpr ⟨lw_p20, List.forall_mem_cons.mpr ⟨lw_p21, List.forall_mem_cons.mpr ⟨lw_p22, List.forall_mem_cons.mpr ⟨lw_p23, List.forall_mem_cons.mpr ⟨lw_p24, fun _ h => absurd h List.not_mem_nil⟩⟩⟩⟩⟩⟩⟩⟩⟩
def lw_privs : List (MethodName × Nat) := lw_privs_1 ++ (lw_privs_2)
def lw_tbl : List Cond := k2_sels lw_privs ++ tables_1
theorem lw_privs_ok : ∀ q ∈ lw_privs, lw_okq q := by
  show ∀ q ∈ lw_privs_1 ++ (lw_privs_2), lw_okq q
  exact List.forall_mem_append.mpr ⟨lw_r1, lw_r2⟩
-- ===== end of PART A; then your names; then what follows =====
/-! ===== BEGIN printed: names, fields, word lists, decode rows ===== -/
def RX0 : String := "MouthFrames$Cut"
def TX0 : u_T := fun k => match k with
  | 0 => ("MouthFrames$Cut", "framesOf", "[I", true)
  | 1 => ("MouthFrames$Cut", "lentBy", "[I", true)
  | 2 => ("MouthFrames$Cut", "lostOf", "[I", true)
  | 3 => ("MouthFrames$Cut", "frameless", "I", false)
  | 4 => ("MouthFrames$Cut", "lost", "I", false)
  | 5 => ("MouthFrames$Cut", "soundAt", "[I", true)
  | 6 => ("MouthFrames$Cut", "shapeAt", "[I", true)
  | 7 => ("MouthFrames$Cut", "frameCount", "I", false)
  | 8 => ("MouthFrames$Cut", "holds", "I", false)
  | 9 => ("MouthFrames$Cut", "longestHold", "I", false)
  | _ => ("MouthFrames$Cut", "longestFrom", "I", false)
def tyX0 : Nat → FieldType := fun k => match k with
  | 0 => .array .int
  | 1 => .array .int
  | 2 => .array .int
  | 3 => .int
  | 4 => .int
  | 5 => .array .int
  | 6 => .array .int
  | 7 => .int
  | 8 => .int
  | 9 => .int
  | _ => .int
abbrev wsX00 : List Cond := u_ws RX0 TX0 11
theorem nmX0 : ∀ a, a < 11 → ∀ b, b < 11 → a ≠ b → (TX0 a).2.1 ≠ (TX0 b).2.1 := by decide +kernel
theorem tyX0_ok : ∀ k, k < 11 → parseFieldDescriptor (TX0 k).2.2.1 = some (tyX0 k) := by decide +kernel
abbrev cX0_init : ByteArray := prog_2_method_1_code
def yX0_init : MethodName := ⟨RX0, "<init>", "()V"⟩
abbrev cX0_renew : ByteArray := prog_2_method_2_code
def yX0_renew : MethodName := ⟨RX0, "renew", "(LMouthFrames$Talk;)V"⟩
abbrev cX0_cutByMarks : ByteArray := prog_2_method_3_code
def yX0_cutByMarks : MethodName := ⟨RX0, "cutByMarks", "(LMouthFrames$Talk;)V"⟩
abbrev cX0_lend : ByteArray := prog_2_method_4_code
def yX0_lend : MethodName := ⟨RX0, "lend", "(LMouthFrames$Talk;)V"⟩
abbrev cX0_lendTo : ByteArray := prog_2_method_5_code
def yX0_lendTo : MethodName := ⟨RX0, "lendTo", "(II)I"⟩
abbrev cX0_placeSounds : ByteArray := prog_2_method_6_code
def yX0_placeSounds : MethodName := ⟨RX0, "placeSounds", "(LMouthFrames$Talk;)V"⟩
abbrev cX0_findHolds : ByteArray := prog_2_method_7_code
def yX0_findHolds : MethodName := ⟨RX0, "findHolds", "()V"⟩
abbrev cX0_firstOf : ByteArray := prog_2_method_8_code
def yX0_firstOf : MethodName := ⟨RX0, "firstOf", "(I)I"⟩
def RX1 : String := "MouthFrames$Mouth"
def TX1 : u_T := fun k => match k with
  | 0 => ("MouthFrames$Mouth", "pulls", "[J", true)
  | _ => ("MouthFrames$Mouth", "shut", "[Z", true)
def tyX1 : Nat → FieldType := fun k => match k with
  | 0 => .array .long
  | _ => .array .boolean
abbrev wsX10 : List Cond := u_ws RX1 TX1 2
theorem nmX1 : ∀ a, a < 2 → ∀ b, b < 2 → a ≠ b → (TX1 a).2.1 ≠ (TX1 b).2.1 := by decide +kernel
theorem tyX1_ok : ∀ k, k < 2 → parseFieldDescriptor (TX1 k).2.2.1 = some (tyX1 k) := by decide +kernel
abbrev cX1_init : ByteArray := prog_3_method_1_code
def yX1_init : MethodName := ⟨RX1, "<init>", "()V"⟩
abbrev cX1_renew : ByteArray := prog_3_method_2_code
def yX1_renew : MethodName := ⟨RX1, "renew", "(LMouthFrames$Talk;I)V"⟩
abbrev cX1_pulledParts : ByteArray := prog_3_method_3_code
def yX1_pulledParts : MethodName := ⟨RX1, "pulledParts", "(LMouthFrames$Talk;II)J"⟩
abbrev cX1_smoothParts : ByteArray := prog_3_method_4_code
def yX1_smoothParts : MethodName := ⟨RX1, "smoothParts", "(LMouthFrames$Cut;II)J"⟩
abbrev cX1_jumpParts : ByteArray := prog_3_method_5_code
def yX1_jumpParts : MethodName := ⟨RX1, "jumpParts", "(LMouthFrames$Cut;I)J"⟩
def RX2 : String := "MouthFrames$Past"
def TX2 : u_T := fun k => match k with
  | 0 => ("MouthFrames$Past", "states", "[LMouthFrames$Talk;", true)
  | _ => ("MouthFrames$Past", "many", "I", false)
def tyX2 : Nat → FieldType := fun k => match k with
  | 0 => .array (.object "MouthFrames$Talk")
  | _ => .int
abbrev wsX20 : List Cond := u_ws RX2 TX2 2
theorem nmX2 : ∀ a, a < 2 → ∀ b, b < 2 → a ≠ b → (TX2 a).2.1 ≠ (TX2 b).2.1 := by decide +kernel
theorem tyX2_ok : ∀ k, k < 2 → parseFieldDescriptor (TX2 k).2.2.1 = some (tyX2 k) := by decide +kernel
abbrev cX2_init : ByteArray := prog_4_method_1_code
def yX2_init : MethodName := ⟨RX2, "<init>", "()V"⟩
abbrev cX2_add : ByteArray := prog_4_method_2_code
def yX2_add : MethodName := ⟨RX2, "add", "(LMouthFrames$Talk;)V"⟩
abbrev cX2_loseOldest : ByteArray := prog_4_method_3_code
def yX2_loseOldest : MethodName := ⟨RX2, "loseOldest", "()V"⟩
abbrev cX2_takeLatest : ByteArray := prog_4_method_4_code
def yX2_takeLatest : MethodName := ⟨RX2, "takeLatest", "(LMouthFrames$Talk;)V"⟩
abbrev cX2_become : ByteArray := prog_4_method_5_code
def yX2_become : MethodName := ⟨RX2, "become", "(LMouthFrames$Past;)V"⟩
def RX3 : String := "MouthFrames$Sheet"
def TX3 : u_T := fun k => match k with
  | 0 => ("MouthFrames$Sheet", "there", "Z", false)
  | 1 => ("MouthFrames$Sheet", "lane", "I", false)
  | 2 => ("MouthFrames$Sheet", "length", "I", false)
  | _ => ("MouthFrames$Sheet", "items", "[J", true)
def tyX3 : Nat → FieldType := fun k => match k with
  | 0 => .boolean
  | 1 => .int
  | 2 => .int
  | _ => .array .long
abbrev wsX30 : List Cond := u_ws RX3 TX3 4
theorem nmX3 : ∀ a, a < 4 → ∀ b, b < 4 → a ≠ b → (TX3 a).2.1 ≠ (TX3 b).2.1 := by decide +kernel
theorem tyX3_ok : ∀ k, k < 4 → parseFieldDescriptor (TX3 k).2.2.1 = some (tyX3 k) := by decide +kernel
abbrev cX3_init : ByteArray := prog_5_method_1_code
def yX3_init : MethodName := ⟨RX3, "<init>", "()V"⟩
abbrev cX3_start : ByteArray := prog_5_method_2_code
def yX3_start : MethodName := ⟨RX3, "start", "(II)V"⟩
abbrev cX3_holds : ByteArray := prog_5_method_3_code
def yX3_holds : MethodName := ⟨RX3, "holds", "(II)Z"⟩
abbrev cX3_put : ByteArray := prog_5_method_4_code
def yX3_put : MethodName := ⟨RX3, "put", "(IJ)V"⟩
abbrev cX3_lookFrom : ByteArray := prog_5_method_5_code
def yX3_lookFrom : MethodName := ⟨RX3, "lookFrom", "(II)I"⟩
def RX4 : String := "MouthFrames$Talk"
def TX4 : u_T := fun k => match k with
  | 0 => ("MouthFrames$Talk", "openOf", "[I", true)
  | 1 => ("MouthFrames$Talk", "wideOf", "[I", true)
  | 2 => ("MouthFrames$Talk", "shapeOf", "[I", true)
  | 3 => ("MouthFrames$Talk", "pullOf", "[I", true)
  | 4 => ("MouthFrames$Talk", "signAt", "[I", true)
  | 5 => ("MouthFrames$Talk", "timeAt", "[I", true)
  | 6 => ("MouthFrames$Talk", "soundCount", "I", false)
  | 7 => ("MouthFrames$Talk", "frameLong", "I", false)
  | 8 => ("MouthFrames$Talk", "frameBy", "I", false)
  | 9 => ("MouthFrames$Talk", "windowNow", "I", false)
  | 10 => ("MouthFrames$Talk", "weightOf", "[I", true)
  | 11 => ("MouthFrames$Talk", "lettersOf", "[I", true)
  | 12 => ("MouthFrames$Talk", "letters", "[[I", true)
  | 13 => ("MouthFrames$Talk", "wordCount", "I", false)
  | _ => ("MouthFrames$Talk", "draw", "I", false)
def tyX4 : Nat → FieldType := fun k => match k with
  | 0 => .array .int
  | 1 => .array .int
  | 2 => .array .int
  | 3 => .array .int
  | 4 => .array .int
  | 5 => .array .int
  | 6 => .int
  | 7 => .int
  | 8 => .int
  | 9 => .int
  | 10 => .array .int
  | 11 => .array .int
  | 12 => .array (.array .int)
  | 13 => .int
  | _ => .int
abbrev wsX40 : List Cond := u_ws RX4 TX4 15
theorem nmX4 : ∀ a, a < 15 → ∀ b, b < 15 → a ≠ b → (TX4 a).2.1 ≠ (TX4 b).2.1 := by decide +kernel
theorem tyX4_ok : ∀ k, k < 15 → parseFieldDescriptor (TX4 k).2.2.1 = some (tyX4 k) := by decide +kernel
abbrev cX4_init : ByteArray := prog_6_method_1_code
def yX4_init : MethodName := ⟨RX4, "<init>", "()V"⟩
abbrev cX4_become : ByteArray := prog_6_method_2_code
def yX4_become : MethodName := ⟨RX4, "become", "(LMouthFrames$Talk;)V"⟩
abbrev cX4_extent : ByteArray := prog_6_method_3_code
def yX4_extent : MethodName := ⟨RX4, "extent", "(II)I"⟩
abbrev cX4_isClosed : ByteArray := prog_6_method_4_code
def yX4_isClosed : MethodName := ⟨RX4, "isClosed", "(I)Z"⟩
abbrev cX4_startOf : ByteArray := prog_6_method_5_code
def yX4_startOf : MethodName := ⟨RX4, "startOf", "(I)I"⟩
abbrev cX4_markOf : ByteArray := prog_6_method_6_code
def yX4_markOf : MethodName := ⟨RX4, "markOf", "(I)I"⟩
abbrev cX4_markBy : ByteArray := prog_6_method_7_code
def yX4_markBy : MethodName := ⟨RX4, "markBy", "(III)I"⟩
abbrev cX4_tellShape : ByteArray := prog_6_method_8_code
def yX4_tellShape : MethodName := ⟨RX4, "tellShape", "(III)I"⟩
abbrev cX4_tellSign : ByteArray := prog_6_method_9_code
def yX4_tellSign : MethodName := ⟨RX4, "tellSign", "(III)I"⟩
abbrev cX4_addSound : ByteArray := prog_6_method_10_code
def yX4_addSound : MethodName := ⟨RX4, "addSound", "(II)I"⟩
abbrev cX4_removeSound : ByteArray := prog_6_method_11_code
def yX4_removeSound : MethodName := ⟨RX4, "removeSound", "(I)I"⟩
abbrev cX4_tellFrame : ByteArray := prog_6_method_12_code
def yX4_tellFrame : MethodName := ⟨RX4, "tellFrame", "(II)I"⟩
abbrev cX4_tellWindow : ByteArray := prog_6_method_13_code
def yX4_tellWindow : MethodName := ⟨RX4, "tellWindow", "(I)I"⟩
abbrev cX4_tellLine : ByteArray := prog_6_method_14_code
def yX4_tellLine : MethodName := ⟨RX4, "tellLine", "([I[II)I"⟩
abbrev cX4_addWord : ByteArray := prog_6_method_15_code
def yX4_addWord : MethodName := ⟨RX4, "addWord", "(I[II)I"⟩
abbrev cX4_hasWord : ByteArray := prog_6_method_16_code
def yX4_hasWord : MethodName := ⟨RX4, "hasWord", "([II)Z"⟩
abbrev cX4_startsLike : ByteArray := prog_6_method_17_code
def yX4_startsLike : MethodName := ⟨RX4, "startsLike", "([I[II)Z"⟩
abbrev cX4_removeWord : ByteArray := prog_6_method_18_code
def yX4_removeWord : MethodName := ⟨RX4, "removeWord", "(I)I"⟩
abbrev cX4_lookOf : ByteArray := prog_6_method_19_code
def yX4_lookOf : MethodName := ⟨RX4, "lookOf", "(I)I"⟩
abbrev cX4_wordsLooking : ByteArray := prog_6_method_20_code
def yX4_wordsLooking : MethodName := ⟨RX4, "wordsLooking", "(I)I"⟩
abbrev cX4_guessedWeight : ByteArray := prog_6_method_21_code
def yX4_guessedWeight : MethodName := ⟨RX4, "guessedWeight", "()I"⟩
abbrev cX4_isGuessed : ByteArray := prog_6_method_22_code
def yX4_isGuessed : MethodName := ⟨RX4, "isGuessed", "(I)Z"⟩
abbrev cX4_allWeight : ByteArray := prog_6_method_23_code
def yX4_allWeight : MethodName := ⟨RX4, "allWeight", "()I"⟩
abbrev cX4_driftOnce : ByteArray := prog_6_method_24_code
def yX4_driftOnce : MethodName := ⟨RX4, "driftOnce", "()V"⟩
def RX5 : String := "MouthFrames$Tape"
def TX5 : u_T := fun k => match k with
  | 0 => ("MouthFrames$Tape", "typed", "[I", true)
  | 1 => ("MouthFrames$Tape", "length", "I", false)
  | 2 => ("MouthFrames$Tape", "place", "I", false)
  | 3 => ("MouthFrames$Tape", "fault", "I", false)
  | 4 => ("MouthFrames$Tape", "kind", "I", false)
  | 5 => ("MouthFrames$Tape", "signs", "[I", true)
  | 6 => ("MouthFrames$Tape", "times", "[I", true)
  | 7 => ("MouthFrames$Tape", "many", "I", false)
  | 8 => ("MouthFrames$Tape", "first", "I", false)
  | _ => ("MouthFrames$Tape", "second", "I", false)
def tyX5 : Nat → FieldType := fun k => match k with
  | 0 => .array .int
  | 1 => .int
  | 2 => .int
  | 3 => .int
  | 4 => .int
  | 5 => .array .int
  | 6 => .array .int
  | 7 => .int
  | 8 => .int
  | _ => .int
abbrev wsX50 : List Cond := u_ws RX5 TX5 10
theorem nmX5 : ∀ a, a < 10 → ∀ b, b < 10 → a ≠ b → (TX5 a).2.1 ≠ (TX5 b).2.1 := by decide +kernel
theorem tyX5_ok : ∀ k, k < 10 → parseFieldDescriptor (TX5 k).2.2.1 = some (tyX5 k) := by decide +kernel
abbrev cX5_init : ByteArray := prog_7_method_1_code
def yX5_init : MethodName := ⟨RX5, "<init>", "()V"⟩
abbrev cX5_add : ByteArray := prog_7_method_2_code
def yX5_add : MethodName := ⟨RX5, "add", "(I)I"⟩
abbrev cX5_clear : ByteArray := prog_7_method_3_code
def yX5_clear : MethodName := ⟨RX5, "clear", "()V"⟩
abbrev cX5_parse : ByteArray := prog_7_method_4_code
def yX5_parse : MethodName := ⟨RX5, "parse", "()V"⟩
abbrev cX5_parseName : ByteArray := prog_7_method_5_code
def yX5_parseName : MethodName := ⟨RX5, "parseName", "()V"⟩
abbrev cX5_kindFrom : ByteArray := prog_7_method_6_code
def yX5_kindFrom : MethodName := ⟨RX5, "kindFrom", "(I)I"⟩
abbrev cX5_isName : ByteArray := prog_7_method_7_code
def yX5_isName : MethodName := ⟨RX5, "isName", "(ILjava/lang/String;)Z"⟩
abbrev cX5_parseSounds : ByteArray := prog_7_method_8_code
def yX5_parseSounds : MethodName := ⟨RX5, "parseSounds", "()V"⟩
abbrev cX5_parseSound : ByteArray := prog_7_method_9_code
def yX5_parseSound : MethodName := ⟨RX5, "parseSound", "()V"⟩
abbrev cX5_takesComma : ByteArray := prog_7_method_10_code
def yX5_takesComma : MethodName := ⟨RX5, "takesComma", "()Z"⟩
abbrev cX5_parseWord : ByteArray := prog_7_method_11_code
def yX5_parseWord : MethodName := ⟨RX5, "parseWord", "()V"⟩
abbrev cX5_parseFrame : ByteArray := prog_7_method_12_code
def yX5_parseFrame : MethodName := ⟨RX5, "parseFrame", "()V"⟩
abbrev cX5_take : ByteArray := prog_7_method_13_code
def yX5_take : MethodName := ⟨RX5, "take", "(C)V"⟩
abbrev cX5_figure : ByteArray := prog_7_method_14_code
def yX5_figure : MethodName := ⟨RX5, "figure", "(II)I"⟩
abbrev cX5_number : ByteArray := prog_7_method_15_code
def yX5_number : MethodName := ⟨RX5, "number", "()I"⟩
abbrev cX5_skipBlanks : ByteArray := prog_7_method_16_code
def yX5_skipBlanks : MethodName := ⟨RX5, "skipBlanks", "()V"⟩
abbrev cX5_stands : ByteArray := prog_7_method_17_code
def yX5_stands : MethodName := ⟨RX5, "stands", "(II)Z"⟩
abbrev cX5_fail : ByteArray := prog_7_method_18_code
def yX5_fail : MethodName := ⟨RX5, "fail", "(I)V"⟩
def RX6 : String := "MouthFrames"
def TX6 : u_T := fun k => match k with
  | 0 => ("MouthFrames", "talk", "LMouthFrames$Talk;", true)
  | 1 => ("MouthFrames", "ahead", "LMouthFrames$Talk;", true)
  | 2 => ("MouthFrames", "past", "LMouthFrames$Past;", true)
  | 3 => ("MouthFrames", "imageTalk", "LMouthFrames$Talk;", true)
  | 4 => ("MouthFrames", "imagePast", "LMouthFrames$Past;", true)
  | 5 => ("MouthFrames", "imaged", "Z", false)
  | 6 => ("MouthFrames", "cut", "LMouthFrames$Cut;", true)
  | 7 => ("MouthFrames", "mouth", "LMouthFrames$Mouth;", true)
  | 8 => ("MouthFrames", "tape", "LMouthFrames$Tape;", true)
  | _ => ("MouthFrames", "rows", "[LMouthFrames$Sheet;", true)
def tyX6 : Nat → FieldType := fun k => match k with
  | 0 => .object "MouthFrames$Talk"
  | 1 => .object "MouthFrames$Talk"
  | 2 => .object "MouthFrames$Past"
  | 3 => .object "MouthFrames$Talk"
  | 4 => .object "MouthFrames$Past"
  | 5 => .boolean
  | 6 => .object "MouthFrames$Cut"
  | 7 => .object "MouthFrames$Mouth"
  | 8 => .object "MouthFrames$Tape"
  | _ => .array (.object "MouthFrames$Sheet")
abbrev wsX60 : List Cond := u_ws RX6 TX6 10
theorem nmX6 : ∀ a, a < 10 → ∀ b, b < 10 → a ≠ b → (TX6 a).2.1 ≠ (TX6 b).2.1 := by decide +kernel
theorem tyX6_ok : ∀ k, k < 10 → parseFieldDescriptor (TX6 k).2.2.1 = some (tyX6 k) := by decide +kernel
abbrev cX6_init : ByteArray := prog_1_method_1_code
def yX6_init : MethodName := ⟨RX6, "<init>", "()V"⟩
abbrev cX6_shape : ByteArray := prog_1_method_2_code
def yX6_shape : MethodName := ⟨RX6, "shape", "(III)I"⟩
abbrev cX6_sign : ByteArray := prog_1_method_3_code
def yX6_sign : MethodName := ⟨RX6, "sign", "(III)I"⟩
abbrev cX6_sound : ByteArray := prog_1_method_4_code
def yX6_sound : MethodName := ⟨RX6, "sound", "(II)I"⟩
abbrev cX6_out : ByteArray := prog_1_method_5_code
def yX6_out : MethodName := ⟨RX6, "out", "(I)I"⟩
abbrev cX6_frame : ByteArray := prog_1_method_6_code
def yX6_frame : MethodName := ⟨RX6, "frame", "(II)I"⟩
abbrev cX6_window : ByteArray := prog_1_method_7_code
def yX6_window : MethodName := ⟨RX6, "window", "(I)I"⟩
abbrev cX6_told : ByteArray := prog_1_method_8_code
def yX6_told : MethodName := ⟨RX6, "told", "(II)I"⟩
abbrev cX6_sounds : ByteArray := prog_1_method_9_code
def yX6_sounds : MethodName := ⟨RX6, "sounds", "(II)I"⟩
abbrev cX6_at : ByteArray := prog_1_method_10_code
def yX6_at : MethodName := ⟨RX6, "at", "(II)I"⟩
abbrev cX6_count : ByteArray := prog_1_method_11_code
def yX6_count : MethodName := ⟨RX6, "count", "(I)I"⟩
abbrev cX6_pulled : ByteArray := prog_1_method_12_code
def yX6_pulled : MethodName := ⟨RX6, "pulled", "(III)I"⟩
abbrev cX6_smooth : ByteArray := prog_1_method_13_code
def yX6_smooth : MethodName := ⟨RX6, "smooth", "(III)J"⟩
abbrev cX6_jump : ByteArray := prog_1_method_14_code
def yX6_jump : MethodName := ⟨RX6, "jump", "(II)J"⟩
abbrev cX6_calm : ByteArray := prog_1_method_15_code
def yX6_calm : MethodName := ⟨RX6, "calm", "(II)I"⟩
abbrev cX6_off : ByteArray := prog_1_method_16_code
def yX6_off : MethodName := ⟨RX6, "off", "(II)I"⟩
abbrev cX6_forget : ByteArray := prog_1_method_17_code
def yX6_forget : MethodName := ⟨RX6, "forget", "(I)I"⟩
abbrev cX6_word : ByteArray := prog_1_method_18_code
def yX6_word : MethodName := ⟨RX6, "word", "(II)I"⟩
abbrev cX6_letter : ByteArray := prog_1_method_19_code
def yX6_letter : MethodName := ⟨RX6, "letter", "(II)I"⟩
abbrev cX6_guess : ByteArray := prog_1_method_20_code
def yX6_guess : MethodName := ⟨RX6, "guess", "(I)I"⟩
abbrev cX6_type : ByteArray := prog_1_method_21_code
def yX6_type : MethodName := ⟨RX6, "type", "(I)I"⟩
abbrev cX6_read : ByteArray := prog_1_method_22_code
def yX6_read : MethodName := ⟨RX6, "read", "()I"⟩
abbrev cX6_drift : ByteArray := prog_1_method_23_code
def yX6_drift : MethodName := ⟨RX6, "drift", "(I)I"⟩
abbrev cX6_undo : ByteArray := prog_1_method_24_code
def yX6_undo : MethodName := ⟨RX6, "undo", "()I"⟩
abbrev cX6_seed : ByteArray := prog_1_method_25_code
def yX6_seed : MethodName := ⟨RX6, "seed", "(I)I"⟩
abbrev cX6_image : ByteArray := prog_1_method_26_code
def yX6_image : MethodName := ⟨RX6, "image", "()I"⟩
abbrev cX6_restore : ByteArray := prog_1_method_27_code
def yX6_restore : MethodName := ⟨RX6, "restore", "()I"⟩
abbrev cX6_seen : ByteArray := prog_1_method_28_code
def yX6_seen : MethodName := ⟨RX6, "seen", "(IIII)I"⟩
abbrev cX6_film : ByteArray := prog_1_method_29_code
def yX6_film : MethodName := ⟨RX6, "film", "(III)I"⟩
abbrev cX6_sheet : ByteArray := prog_1_method_30_code
def yX6_sheet : MethodName := ⟨RX6, "sheet", "(III)I"⟩
abbrev cX6_drop : ByteArray := prog_1_method_31_code
def yX6_drop : MethodName := ⟨RX6, "drop", "(I)I"⟩
abbrev cX6_item : ByteArray := prog_1_method_32_code
def yX6_item : MethodName := ⟨RX6, "item", "(IIIJ)I"⟩
abbrev cX6_known : ByteArray := prog_1_method_34_code
def yX6_known : MethodName := ⟨RX6, "known", "(I)I"⟩
abbrev cX6_tellText : ByteArray := prog_1_method_35_code
def yX6_tellText : MethodName := ⟨RX6, "tellText", "()I"⟩
abbrev cX6_refusedRow : ByteArray := prog_1_method_36_code
def yX6_refusedRow : MethodName := ⟨RX6, "refusedRow", "(II)I"⟩
abbrev cX6_within : ByteArray := prog_1_method_37_code
def yX6_within : MethodName := ⟨RX6, "within", "(III)Z"⟩
abbrev cX6_isAxis : ByteArray := prog_1_method_38_code
def yX6_isAxis : MethodName := ⟨RX6, "isAxis", "(I)Z"⟩
abbrev cX6_isPart : ByteArray := prog_1_method_39_code
def yX6_isPart : MethodName := ⟨RX6, "isPart", "(I)Z"⟩
abbrev cX6_isSheet : ByteArray := prog_1_method_40_code
def yX6_isSheet : MethodName := ⟨RX6, "isSheet", "(I)Z"⟩
abbrev cX6_fraction : ByteArray := prog_1_method_41_code
def yX6_fraction : MethodName := ⟨RX6, "fraction", "(JJI)J"⟩
abbrev cX6_quotient : ByteArray := prog_1_method_42_code
def yX6_quotient : MethodName := ⟨RX6, "quotient", "(JJ)J"⟩
abbrev cX6_commonDivisor : ByteArray := prog_1_method_43_code
def yX6_commonDivisor : MethodName := ⟨RX6, "commonDivisor", "(JJ)J"⟩
abbrev cX6_lookAnd : ByteArray := prog_1_method_44_code
def yX6_lookAnd : MethodName := ⟨RX6, "lookAnd", "(II)I"⟩
abbrev cX6_lookLength : ByteArray := prog_1_method_45_code
def yX6_lookLength : MethodName := ⟨RX6, "lookLength", "(I)I"⟩
abbrev cX6_leastOf : ByteArray := prog_1_method_46_code
def yX6_leastOf : MethodName := ⟨RX6, "leastOf", "(I)I"⟩
def RX7 : String := "MouthFramesModel"
def TX7 : u_T := fun k => match k with
  | _ => ("", "", "", false)
def tyX7 : Nat → FieldType := fun k => match k with
  | _ => .int
abbrev wsX70 : List Cond := u_ws RX7 TX7 0
theorem nmX7 : ∀ a, a < 0 → ∀ b, b < 0 → a ≠ b → (TX7 a).2.1 ≠ (TX7 b).2.1 := by decide +kernel
theorem tyX7_ok : ∀ k, k < 0 → parseFieldDescriptor (TX7 k).2.2.1 = some (tyX7 k) := by decide +kernel
def RJ6 : String := "java/lang/Integer"
def TJ6 : u_T := fun k => match k with
  | _ => ("", "", "", false)
def tyJ6 : Nat → FieldType := fun k => match k with
  | _ => .int
abbrev wsJ60 : List Cond := u_ws RJ6 TJ6 0
theorem nmJ6 : ∀ a, a < 0 → ∀ b, b < 0 → a ≠ b → (TJ6 a).2.1 ≠ (TJ6 b).2.1 := by decide +kernel
theorem tyJ6_ok : ∀ k, k < 0 → parseFieldDescriptor (TJ6 k).2.2.1 = some (tyJ6 k) := by decide +kernel
abbrev cJ6_bitCount_0f7a4 : ByteArray := prog_10_method_49_code
def yJ6_bitCount_0f7a4 : MethodName := ⟨RJ6, "bitCount", "(I)I"⟩
def RJ9 : String := "java/lang/Math"
def TJ9 : u_T := fun k => match k with
  | _ => ("", "", "", false)
def tyJ9 : Nat → FieldType := fun k => match k with
  | _ => .int
abbrev wsJ90 : List Cond := u_ws RJ9 TJ9 0
theorem nmJ9 : ∀ a, a < 0 → ∀ b, b < 0 → a ≠ b → (TJ9 a).2.1 ≠ (TJ9 b).2.1 := by decide +kernel
theorem tyJ9_ok : ∀ k, k < 0 → parseFieldDescriptor (TJ9 k).2.2.1 = some (tyJ9 k) := by decide +kernel
abbrev cJ9_abs_0f7a4 : ByteArray := prog_11_method_59_code
def yJ9_abs_0f7a4 : MethodName := ⟨RJ9, "abs", "(I)I"⟩
abbrev cJ9_abs_067f4 : ByteArray := prog_11_method_61_code
def yJ9_abs_067f4 : MethodName := ⟨RJ9, "abs", "(J)J"⟩
abbrev cJ9_max_7cf53 : ByteArray := prog_11_method_65_code
def yJ9_max_7cf53 : MethodName := ⟨RJ9, "max", "(II)I"⟩
abbrev cJ9_max_f86c9 : ByteArray := prog_11_method_66_code
def yJ9_max_f86c9 : MethodName := ⟨RJ9, "max", "(JJ)J"⟩
abbrev cJ9_min_7cf53 : ByteArray := prog_11_method_69_code
def yJ9_min_7cf53 : MethodName := ⟨RJ9, "min", "(II)I"⟩
def RJ0 : String := "java/lang/String"
def TJ0 : u_T := fun k => match k with
  | _ => ("", "", "", false)
def tyJ0 : Nat → FieldType := fun k => match k with
  | _ => .int
abbrev wsJ00 : List Cond := u_ws RJ0 TJ0 0
theorem nmJ0 : ∀ a, a < 0 → ∀ b, b < 0 → a ≠ b → (TJ0 a).2.1 ≠ (TJ0 b).2.1 := by decide +kernel
theorem tyJ0_ok : ∀ k, k < 0 → parseFieldDescriptor (TJ0 k).2.2.1 = some (tyJ0 k) := by decide +kernel
abbrev cJ0_length_8abf5 : ByteArray := prog_12_method_54_code
def yJ0_length_8abf5 : MethodName := ⟨RJ0, "length", "()I"⟩
abbrev cJ0_charAt_5068e : ByteArray := prog_12_method_56_code
def yJ0_charAt_5068e : MethodName := ⟨RJ0, "charAt", "(I)C"⟩
abbrev cJ0_coder_7d493 : ByteArray := prog_12_method_152_code
def yJ0_coder_7d493 : MethodName := ⟨RJ0, "coder", "()B"⟩
abbrev cJ0_isLatin1_aae02 : ByteArray := prog_12_method_154_code
def yJ0_isLatin1_aae02 : MethodName := ⟨RJ0, "isLatin1", "()Z"⟩
abbrev cJ0_checkIndex_df160 : ByteArray := prog_12_method_155_code
def yJ0_checkIndex_df160 : MethodName := ⟨RJ0, "checkIndex", "(II)V"⟩
def RJ1 : String := "java/lang/StringLatin1"
def TJ1 : u_T := fun k => match k with
  | _ => ("", "", "", false)
def tyJ1 : Nat → FieldType := fun k => match k with
  | _ => .int
abbrev wsJ10 : List Cond := u_ws RJ1 TJ1 0
theorem nmJ1 : ∀ a, a < 0 → ∀ b, b < 0 → a ≠ b → (TJ1 a).2.1 ≠ (TJ1 b).2.1 := by decide +kernel
theorem tyJ1_ok : ∀ k, k < 0 → parseFieldDescriptor (TJ1 k).2.2.1 = some (tyJ1 k) := by decide +kernel
abbrev cJ1_charAt_3b067 : ByteArray := prog_13_method_2_code
def yJ1_charAt_3b067 : MethodName := ⟨RJ1, "charAt", "([BI)C"⟩
def RJ2 : String := "java/lang/StringUTF16"
def TJ2 : u_T := fun k => match k with
  | _ => ("", "", "", false)
def tyJ2 : Nat → FieldType := fun k => match k with
  | _ => .int
abbrev wsJ20 : List Cond := u_ws RJ2 TJ2 0
theorem nmJ2 : ∀ a, a < 0 → ∀ b, b < 0 → a ≠ b → (TJ2 a).2.1 ≠ (TJ2 b).2.1 := by decide +kernel
theorem tyJ2_ok : ∀ k, k < 0 → parseFieldDescriptor (TJ2 k).2.2.1 = some (tyJ2 k) := by decide +kernel
abbrev cJ2_getChar_3b067 : ByteArray := prog_14_method_5_code
def yJ2_getChar_3b067 : MethodName := ⟨RJ2, "getChar", "([BI)C"⟩
abbrev cJ2_length_9d52b : ByteArray := prog_14_method_6_code
def yJ2_length_9d52b : MethodName := ⟨RJ2, "length", "([B)I"⟩
abbrev cJ2_charAt_3b067 : ByteArray := prog_14_method_83_code
def yJ2_charAt_3b067 : MethodName := ⟨RJ2, "charAt", "([BI)C"⟩
abbrev cJ2_checkIndex_2214a : ByteArray := prog_14_method_91_code
def yJ2_checkIndex_2214a : MethodName := ⟨RJ2, "checkIndex", "(I[B)V"⟩
def RJ10 : String := "java/lang/System"
def TJ10 : u_T := fun k => match k with
  | _ => ("", "", "", false)
def tyJ10 : Nat → FieldType := fun k => match k with
  | _ => .int
abbrev wsJ100 : List Cond := u_ws RJ10 TJ10 0
theorem nmJ10 : ∀ a, a < 0 → ∀ b, b < 0 → a ≠ b → (TJ10 a).2.1 ≠ (TJ10 b).2.1 := by decide +kernel
theorem tyJ10_ok : ∀ k, k < 0 → parseFieldDescriptor (TJ10 k).2.2.1 = some (tyJ10 k) := by decide +kernel
def RJ3 : String := "jdk/internal/util/Preconditions"
def TJ3 : u_T := fun k => match k with
  | _ => ("", "", "", false)
def tyJ3 : Nat → FieldType := fun k => match k with
  | _ => .int
abbrev wsJ30 : List Cond := u_ws RJ3 TJ3 0
theorem nmJ3 : ∀ a, a < 0 → ∀ b, b < 0 → a ≠ b → (TJ3 a).2.1 ≠ (TJ3 b).2.1 := by decide +kernel
theorem tyJ3_ok : ∀ k, k < 0 → parseFieldDescriptor (TJ3 k).2.2.1 = some (tyJ3 k) := by decide +kernel
abbrev cJ3_checkIndex_8e157 : ByteArray := prog_16_method_11_code
def yJ3_checkIndex_8e157 : MethodName := ⟨RJ3, "checkIndex", "(IILjava/util/function/BiFunction;)I"⟩
def RL : String := "MouthFramesLaw"
abbrev cL_cell : ByteArray := method_2_code
def yL_cell : MethodName := ⟨RL, "cell", "([II)I"⟩
abbrev cL_bits : ByteArray := method_3_code
def yL_bits : MethodName := ⟨RL, "bits", "(I)I"⟩
abbrev cL_divisor : ByteArray := method_4_code
def yL_divisor : MethodName := ⟨RL, "divisor", "(JJ)J"⟩
abbrev cL_builds : ByteArray := method_5_code
def yL_builds : MethodName := ⟨RL, "builds", "(LMouthFrames;[I)Z"⟩
abbrev cL_words : ByteArray := method_6_code
def yL_words : MethodName := ⟨RL, "words", "(LMouthFrames;II)Z"⟩
abbrev cL_frames : ByteArray := method_7_code
def yL_frames : MethodName := ⟨RL, "frames", "(LMouthFrames;)Z"⟩
abbrev cL_seen : ByteArray := method_8_code
def yL_seen : MethodName := ⟨RL, "seen", "(LMouthFrames;I)Z"⟩
abbrev cL_lists : ByteArray := method_9_code
def yL_lists : MethodName := ⟨RL, "lists", "(LMouthFrames;)Z"⟩
abbrev cL_shown : ByteArray := method_10_code
def yL_shown : MethodName := ⟨RL, "shown", "(LMouthFrames;I)Z"⟩
abbrev cL_mark : ByteArray := method_11_code
def yL_mark : MethodName := ⟨RL, "mark", "(LMouthFrames;)J"⟩
abbrev cL_back : ByteArray := method_12_code
def yL_back : MethodName := ⟨RL, "back", "(LMouthFrames;I)Z"⟩
abbrev cL_law : ByteArray := code
def yL_law : MethodName := ⟨RL, "law", "([I)Z"⟩
abbrev vwCl : List vw_C := [(RX0, TX0, 11), (RX1, TX1, 2), (RX2, TX2, 2), (RX3, TX3, 4), (RX4, TX4, 15), (RX5, TX5, 10), (RX6, TX6, 10)]
