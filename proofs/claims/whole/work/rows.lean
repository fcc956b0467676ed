section
/-- a private method of a class that the tables say can be made, by its rows of tables_1 -/
def lw_okq (q : MethodName × Nat) : Prop := (q.1.cls ≠ "java/lang/invoke/MethodHandle" ∧ q.1.cls ≠ "java/lang/invoke/VarHandle") ∧ Cond.instantiable q.1.cls q.2 ∈ tables_1 ∧ Cond.privateMethod q.1 ∈ tables_1 ∧ Cond.instanceMethod q.1 ∈ tables_1
theorem lw_p0 : lw_okq (⟨"HandOffRecorder", "startRecord", "(II)V"⟩, 10) := ⟨⟨by decide +kernel, by decide +kernel⟩, List.mem_of_getElem? (i := 12) (by decide +kernel), List.mem_of_getElem? (i := 103) (by decide +kernel), List.mem_of_getElem? (i := 104) (by decide +kernel)⟩
theorem lw_p1 : lw_okq (⟨"HandOffRecorder", "review", "()V"⟩, 10) := ⟨⟨by decide +kernel, by decide +kernel⟩, List.mem_of_getElem? (i := 12) (by decide +kernel), List.mem_of_getElem? (i := 120) (by decide +kernel), List.mem_of_getElem? (i := 121) (by decide +kernel)⟩
theorem lw_p2 : lw_okq (⟨"HandOffRecorder", "lengthenList", "(IJI)V"⟩, 10) := ⟨⟨by decide +kernel, by decide +kernel⟩, List.mem_of_getElem? (i := 12) (by decide +kernel), List.mem_of_getElem? (i := 134) (by decide +kernel), List.mem_of_getElem? (i := 135) (by decide +kernel)⟩
theorem lw_p3 : lw_okq (⟨"HandOffRecorder", "noteExplanation", "(IJ)V"⟩, 10) := ⟨⟨by decide +kernel, by decide +kernel⟩, List.mem_of_getElem? (i := 12) (by decide +kernel), List.mem_of_getElem? (i := 138) (by decide +kernel), List.mem_of_getElem? (i := 139) (by decide +kernel)⟩
theorem lw_p4 : lw_okq (⟨"HandOffRecorder", "mayStandNext", "(II)Z"⟩, 10) := ⟨⟨by decide +kernel, by decide +kernel⟩, List.mem_of_getElem? (i := 12) (by decide +kernel), List.mem_of_getElem? (i := 158) (by decide +kernel), List.mem_of_getElem? (i := 159) (by decide +kernel)⟩
theorem lw_p5 : lw_okq (⟨"HandOffRecorder", "carryOut", "(IIJI)V"⟩, 10) := ⟨⟨by decide +kernel, by decide +kernel⟩, List.mem_of_getElem? (i := 12) (by decide +kernel), List.mem_of_getElem? (i := 162) (by decide +kernel), List.mem_of_getElem? (i := 163) (by decide +kernel)⟩
theorem lw_p6 : lw_okq (⟨"HandOffRecorder$Store", "hasRoom", "(J)Z"⟩, 2) := ⟨⟨by decide +kernel, by decide +kernel⟩, List.mem_of_getElem? (i := 20) (by decide +kernel), List.mem_of_getElem? (i := 170) (by decide +kernel), List.mem_of_getElem? (i := 171) (by decide +kernel)⟩
theorem lw_p7 : lw_okq (⟨"HandOffRecorder$Store", "takesBack", "(I)Z"⟩, 2) := ⟨⟨by decide +kernel, by decide +kernel⟩, List.mem_of_getElem? (i := 20) (by decide +kernel), List.mem_of_getElem? (i := 177) (by decide +kernel), List.mem_of_getElem? (i := 178) (by decide +kernel)⟩
theorem lw_p8 : lw_okq (⟨"HandOffRecorder", "mayBegin", "(I)Z"⟩, 10) := ⟨⟨by decide +kernel, by decide +kernel⟩, List.mem_of_getElem? (i := 12) (by decide +kernel), List.mem_of_getElem? (i := 245) (by decide +kernel), List.mem_of_getElem? (i := 246) (by decide +kernel)⟩
theorem lw_p9 : lw_okq (⟨"HandOffRecorder", "openNextCall", "(I)V"⟩, 10) := ⟨⟨by decide +kernel, by decide +kernel⟩, List.mem_of_getElem? (i := 12) (by decide +kernel), List.mem_of_getElem? (i := 263) (by decide +kernel), List.mem_of_getElem? (i := 264) (by decide +kernel)⟩
theorem lw_p10 : lw_okq (⟨"HandOffRecorder", "hasOpenCall", "(I)Z"⟩, 10) := ⟨⟨by decide +kernel, by decide +kernel⟩, List.mem_of_getElem? (i := 12) (by decide +kernel), List.mem_of_getElem? (i := 279) (by decide +kernel), List.mem_of_getElem? (i := 280) (by decide +kernel)⟩
theorem lw_p11 : lw_okq (⟨"HandOffRecorder", "endOpenCall", "(II)V"⟩, 10) := ⟨⟨by decide +kernel, by decide +kernel⟩, List.mem_of_getElem? (i := 12) (by decide +kernel), List.mem_of_getElem? (i := 283) (by decide +kernel), List.mem_of_getElem? (i := 284) (by decide +kernel)⟩
theorem lw_p12 : lw_okq (⟨"HandOffRecorder", "closeOpenCall", "(I)V"⟩, 10) := ⟨⟨by decide +kernel, by decide +kernel⟩, List.mem_of_getElem? (i := 12) (by decide +kernel), List.mem_of_getElem? (i := 287) (by decide +kernel), List.mem_of_getElem? (i := 288) (by decide +kernel)⟩
theorem lw_p13 : lw_okq (⟨"HandOffRecorderModel", "work", "()V"⟩, 23) := ⟨⟨by decide +kernel, by decide +kernel⟩, List.mem_of_getElem? (i := 365) (by decide +kernel), List.mem_of_getElem? (i := 375) (by decide +kernel), List.mem_of_getElem? (i := 376) (by decide +kernel)⟩
theorem lw_p14 : lw_okq (⟨"HandOffRecorderModel", "note", "()V"⟩, 23) := ⟨⟨by decide +kernel, by decide +kernel⟩, List.mem_of_getElem? (i := 365) (by decide +kernel), List.mem_of_getElem? (i := 379) (by decide +kernel), List.mem_of_getElem? (i := 380) (by decide +kernel)⟩
theorem lw_p15 : lw_okq (⟨"HandOffRecorderModel", "isListed", "(I)Z"⟩, 23) := ⟨⟨by decide +kernel, by decide +kernel⟩, List.mem_of_getElem? (i := 365) (by decide +kernel), List.mem_of_getElem? (i := 383) (by decide +kernel), List.mem_of_getElem? (i := 384) (by decide +kernel)⟩
def lw_privs_1 : List (MethodName × Nat) := [(⟨"HandOffRecorder", "startRecord", "(II)V"⟩, 10), (⟨"HandOffRecorder", "review", "()V"⟩, 10), (⟨"HandOffRecorder", "lengthenList", "(IJI)V"⟩, 10), (⟨"HandOffRecorder", "noteExplanation", "(IJ)V"⟩, 10), (⟨"HandOffRecorder", "mayStandNext", "(II)Z"⟩, 10), (⟨"HandOffRecorder", "carryOut", "(IIJI)V"⟩, 10), (⟨"HandOffRecorder$Store", "hasRoom", "(J)Z"⟩, 2), (⟨"HandOffRecorder$Store", "takesBack", "(I)Z"⟩, 2), (⟨"HandOffRecorder", "mayBegin", "(I)Z"⟩, 10), (⟨"HandOffRecorder", "openNextCall", "(I)V"⟩, 10), (⟨"HandOffRecorder", "hasOpenCall", "(I)Z"⟩, 10), (⟨"HandOffRecorder", "endOpenCall", "(II)V"⟩, 10), (⟨"HandOffRecorder", "closeOpenCall", "(I)V"⟩, 10), (⟨"HandOffRecorderModel", "work", "()V"⟩, 23), (⟨"HandOffRecorderModel", "note", "()V"⟩, 23), (⟨"HandOffRecorderModel", "isListed", "(I)Z"⟩, 23)]
theorem lw_r1 : ∀ q ∈ lw_privs_1, lw_okq q := List.forall_mem_cons.mpr ⟨lw_p0, List.forall_mem_cons.mpr ⟨lw_p1, List.forall_mem_cons.mpr ⟨lw_p2, List.forall_mem_cons.mpr ⟨lw_p3, List.forall_mem_cons.mpr ⟨lw_p4, List.forall_mem_cons.mpr ⟨lw_p5, List.forall_mem_cons.mpr ⟨lw_p6, List.forall_mem_cons.mpr ⟨lw_p7, List.forall_mem_cons.mpr ⟨lw_p8, List.forall_mem_cons.mpr ⟨lw_p9, List.forall_mem_cons.mpr ⟨lw_p10, List.forall_mem_cons.mpr ⟨lw_p11, List.forall_mem_cons.mpr ⟨lw_p12, List.forall_mem_cons.mpr ⟨lw_p13, List.forall_mem_cons.mpr ⟨lw_p14, List.forall_mem_cons.mpr ⟨lw_p15, fun _ h => absurd h List.not_mem_nil⟩⟩⟩⟩⟩⟩⟩⟩⟩⟩⟩⟩⟩⟩⟩⟩
theorem lw_p16 : lw_okq (⟨"HandOffRecorderModel", "lengthen", "(I)V"⟩, 23) := ⟨⟨by decide +kernel, by decide +kernel⟩, List.mem_of_getElem? (i := 365) (by decide +kernel), List.mem_of_getElem? (i := 388) (by decide +kernel), List.mem_of_getElem? (i := 389) (by decide +kernel)⟩
theorem lw_p17 : lw_okq (⟨"HandOffRecorderModel", "good", "()Z"⟩, 23) := ⟨⟨by decide +kernel, by decide +kernel⟩, List.mem_of_getElem? (i := 365) (by decide +kernel), List.mem_of_getElem? (i := 392) (by decide +kernel), List.mem_of_getElem? (i := 393) (by decide +kernel)⟩
theorem lw_p18 : lw_okq (⟨"HandOffRecorderModel", "carryOut", "(I)I"⟩, 23) := ⟨⟨by decide +kernel, by decide +kernel⟩, List.mem_of_getElem? (i := 365) (by decide +kernel), List.mem_of_getElem? (i := 396) (by decide +kernel), List.mem_of_getElem? (i := 397) (by decide +kernel)⟩
theorem lw_p19 : lw_okq (⟨"HandOffRecorderModel", "begin", "(IZI)Z"⟩, 23) := ⟨⟨by decide +kernel, by decide +kernel⟩, List.mem_of_getElem? (i := 365) (by decide +kernel), List.mem_of_getElem? (i := 476) (by decide +kernel), List.mem_of_getElem? (i := 477) (by decide +kernel)⟩
theorem lw_p20 : lw_okq (⟨"HandOffRecorderModel", "openOf", "(I)I"⟩, 23) := ⟨⟨by decide +kernel, by decide +kernel⟩, List.mem_of_getElem? (i := 365) (by decide +kernel), List.mem_of_getElem? (i := 480) (by decide +kernel), List.mem_of_getElem? (i := 481) (by decide +kernel)⟩
theorem lw_p21 : lw_okq (⟨"HandOffRecorderModel", "happened", "()V"⟩, 23) := ⟨⟨by decide +kernel, by decide +kernel⟩, List.mem_of_getElem? (i := 365) (by decide +kernel), List.mem_of_getElem? (i := 484) (by decide +kernel), List.mem_of_getElem? (i := 485) (by decide +kernel)⟩
theorem lw_p22 : lw_okq (⟨"HandOffRecorderModel", "close", "(III)V"⟩, 23) := ⟨⟨by decide +kernel, by decide +kernel⟩, List.mem_of_getElem? (i := 365) (by decide +kernel), List.mem_of_getElem? (i := 496) (by decide +kernel), List.mem_of_getElem? (i := 497) (by decide +kernel)⟩
theorem lw_p23 : lw_okq (⟨"HandOffRecorderModel", "sizeOf", "(I)I"⟩, 23) := ⟨⟨by decide +kernel, by decide +kernel⟩, List.mem_of_getElem? (i := 365) (by decide +kernel), List.mem_of_getElem? (i := 536) (by decide +kernel), List.mem_of_getElem? (i := 537) (by decide +kernel)⟩
def lw_privs_2 : List (MethodName × Nat) := [(⟨"HandOffRecorderModel", "lengthen", "(I)V"⟩, 23), (⟨"HandOffRecorderModel", "good", "()Z"⟩, 23), (⟨"HandOffRecorderModel", "carryOut", "(I)I"⟩, 23), (⟨"HandOffRecorderModel", "begin", "(IZI)Z"⟩, 23), (⟨"HandOffRecorderModel", "openOf", "(I)I"⟩, 23), (⟨"HandOffRecorderModel", "happened", "()V"⟩, 23), (⟨"HandOffRecorderModel", "close", "(III)V"⟩, 23), (⟨"HandOffRecorderModel", "sizeOf", "(I)I"⟩, 23)]
theorem lw_r2 : ∀ q ∈ lw_privs_2, lw_okq q := List.forall_mem_cons.mpr ⟨lw_p16, List.forall_mem_cons.mpr ⟨lw_p17, List.forall_mem_cons.mpr ⟨lw_p18, List.forall_mem_cons.mpr ⟨lw_p19, List.forall_mem_cons.mpr ⟨lw_p20, List.forall_mem_cons.mpr ⟨lw_p21, List.forall_mem_cons.mpr ⟨lw_p22, List.forall_mem_cons.mpr ⟨lw_p23, fun _ h => absurd h List.not_mem_nil⟩⟩⟩⟩⟩⟩⟩⟩
def lw_privs : List (MethodName × Nat) := lw_privs_1 ++ (lw_privs_2)
def lw_tbl : List Cond := k2_sels lw_privs ++ tables_1
theorem lw_privs_ok : ∀ q ∈ lw_privs, lw_okq q := by
  show ∀ q ∈ lw_privs_1 ++ (lw_privs_2), lw_okq q
  exact List.forall_mem_append.mpr ⟨lw_r1, lw_r2⟩
end
section
abbrev nR_X0 : String := "HandOffRecorder$Call"
def nT_X0 : u_T := fun k => match k with
  | 0 => ("HandOffRecorder$Call", "worker", "I", false)
  | 1 => ("HandOffRecorder$Call", "isPut", "Z", false)
  | 2 => ("HandOffRecorder$Call", "value", "I", false)
  | 3 => ("HandOffRecorder$Call", "endedBefore", "I", false)
  | _ => ("HandOffRecorder$Call", "answer", "I", false)
def nY_X0 : Nat → FieldType := fun k => match k with
  | 0 => .int
  | 1 => .boolean
  | 2 => .int
  | 3 => .int
  | _ => .int
theorem nN_X0 : ∀ a, a < 5 → ∀ b, b < 5 → a ≠ b → (nT_X0 a).2.1 ≠ (nT_X0 b).2.1 := by decide +kernel
theorem nO_X0 : ∀ k, k < 5 → parseFieldDescriptor (nT_X0 k).2.2.1 = some (nY_X0 k) := by decide +kernel
abbrev nR_X1 : String := "HandOffRecorder$Findings"
def nT_X1 : u_T := fun k => match k with
  | 0 => ("HandOffRecorder$Findings", "rows", "LHandOffRecorder$RowSet;", true)
  | 1 => ("HandOffRecorder$Findings", "listed", "[I", true)
  | 2 => ("HandOffRecorder$Findings", "replies", "[I", true)
  | _ => ("HandOffRecorder$Findings", "total", "I", false)
def nY_X1 : Nat → FieldType := fun k => match k with
  | 0 => .object "HandOffRecorder$RowSet"
  | 1 => .array .int
  | 2 => .array .int
  | _ => .int
theorem nN_X1 : ∀ a, a < 4 → ∀ b, b < 4 → a ≠ b → (nT_X1 a).2.1 ≠ (nT_X1 b).2.1 := by decide +kernel
theorem nO_X1 : ∀ k, k < 4 → parseFieldDescriptor (nT_X1 k).2.2.1 = some (nY_X1 k) := by decide +kernel
abbrev nR_X2 : String := "HandOffRecorder$Row"
abbrev nR_X3 : String := "HandOffRecorder$RowSet"
def nT_X3 : u_T := fun k => match k with
  | 0 => ("HandOffRecorder$RowSet", "rows", "[J", true)
  | 1 => ("HandOffRecorder$RowSet", "slots", "[I", true)
  | _ => ("HandOffRecorder$RowSet", "count", "I", false)
def nY_X3 : Nat → FieldType := fun k => match k with
  | 0 => .array .long
  | 1 => .array .int
  | _ => .int
theorem nN_X3 : ∀ a, a < 3 → ∀ b, b < 3 → a ≠ b → (nT_X3 a).2.1 ≠ (nT_X3 b).2.1 := by decide +kernel
theorem nO_X3 : ∀ k, k < 3 → parseFieldDescriptor (nT_X3 k).2.2.1 = some (nY_X3 k) := by decide +kernel
abbrev nR_X4 : String := "HandOffRecorder$Store"
def nT_X4 : u_T := fun k => match k with
  | 0 => ("HandOffRecorder$Store", "kind", "I", false)
  | _ => ("HandOffRecorder$Store", "capacity", "I", false)
def nY_X4 : Nat → FieldType := fun k => match k with
  | 0 => .int
  | _ => .int
theorem nN_X4 : ∀ a, a < 2 → ∀ b, b < 2 → a ≠ b → (nT_X4 a).2.1 ≠ (nT_X4 b).2.1 := by decide +kernel
theorem nO_X4 : ∀ k, k < 2 → parseFieldDescriptor (nT_X4 k).2.2.1 = some (nY_X4 k) := by decide +kernel
abbrev nR_X5 : String := "HandOffRecorder"
def nT_X5 : u_T := fun k => match k with
  | 0 => ("HandOffRecorder", "store", "LHandOffRecorder$Store;", true)
  | 1 => ("HandOffRecorder", "calls", "[LHandOffRecorder$Call;", true)
  | 2 => ("HandOffRecorder", "openCalls", "[I", true)
  | 3 => ("HandOffRecorder", "repliesOnPath", "[I", true)
  | 4 => ("HandOffRecorder", "findings", "LHandOffRecorder$Findings;", true)
  | 5 => ("HandOffRecorder", "begunCalls", "I", false)
  | 6 => ("HandOffRecorder", "endedCalls", "I", false)
  | 7 => ("HandOffRecorder", "givenUpCalls", "I", false)
  | 8 => ("HandOffRecorder", "eventCount", "I", false)
  | _ => ("HandOffRecorder", "firstBroken", "I", false)
def nY_X5 : Nat → FieldType := fun k => match k with
  | 0 => .object "HandOffRecorder$Store"
  | 1 => .array (.object "HandOffRecorder$Call")
  | 2 => .array .int
  | 3 => .array .int
  | 4 => .object "HandOffRecorder$Findings"
  | 5 => .int
  | 6 => .int
  | 7 => .int
  | 8 => .int
  | _ => .int
theorem nN_X5 : ∀ a, a < 10 → ∀ b, b < 10 → a ≠ b → (nT_X5 a).2.1 ≠ (nT_X5 b).2.1 := by decide +kernel
theorem nO_X5 : ∀ k, k < 10 → parseFieldDescriptor (nT_X5 k).2.2.1 = some (nY_X5 k) := by decide +kernel
abbrev nR_M : String := "HandOffRecorderModel"
def nT_M : u_T := fun k => match k with
  | 0 => ("HandOffRecorderModel", "kind", "I", false)
  | 1 => ("HandOffRecorderModel", "capacity", "I", false)
  | 2 => ("HandOffRecorderModel", "events", "I", false)
  | 3 => ("HandOffRecorderModel", "broken", "I", false)
  | 4 => ("HandOffRecorderModel", "begun", "I", false)
  | 5 => ("HandOffRecorderModel", "worker", "[I", false)
  | 6 => ("HandOffRecorderModel", "put", "[Z", false)
  | 7 => ("HandOffRecorderModel", "value", "[I", false)
  | 8 => ("HandOffRecorderModel", "from", "[I", false)
  | 9 => ("HandOffRecorderModel", "until", "[I", false)
  | 10 => ("HandOffRecorderModel", "reply", "[I", false)
  | 11 => ("HandOffRecorderModel", "state", "[I", false)
  | 12 => ("HandOffRecorderModel", "len", "I", false)
  | 13 => ("HandOffRecorderModel", "list", "[I", false)
  | 14 => ("HandOffRecorderModel", "given", "[I", false)
  | 15 => ("HandOffRecorderModel", "next", "[I", false)
  | 16 => ("HandOffRecorderModel", "held", "I", false)
  | 17 => ("HandOffRecorderModel", "row", "[I", false)
  | 18 => ("HandOffRecorderModel", "total", "J", false)
  | 19 => ("HandOffRecorderModel", "kinds", "I", false)
  | 20 => ("HandOffRecorderModel", "outcome", "[J", false)
  | 21 => ("HandOffRecorderModel", "listed", "[J", false)
  | _ => ("HandOffRecorderModel", "seen", "[I", false)
def nY_M : Nat → FieldType := fun k => match k with
  | 0 => .int
  | 1 => .int
  | 2 => .int
  | 3 => .int
  | 4 => .int
  | 5 => .array .int
  | 6 => .array .boolean
  | 7 => .array .int
  | 8 => .array .int
  | 9 => .array .int
  | 10 => .array .int
  | 11 => .array .int
  | 12 => .int
  | 13 => .array .int
  | 14 => .array .int
  | 15 => .array .int
  | 16 => .int
  | 17 => .array .int
  | 18 => .long
  | 19 => .int
  | 20 => .array .long
  | 21 => .array .long
  | _ => .array .int
theorem nN_M : ∀ a, a < 23 → ∀ b, b < 23 → a ≠ b → (nT_M a).2.1 ≠ (nT_M b).2.1 := by decide +kernel
theorem nO_M : ∀ k, k < 23 → parseFieldDescriptor (nT_M k).2.2.1 = some (nY_M k) := by decide +kernel
abbrev nR_L : String := "HandOffRecorderLaw"
abbrev nR_JI : String := "java/lang/Integer"
abbrev nR_JM : String := "java/lang/Math"
abbrev nR_JA : String := "java/util/Arrays"
abbrev nC_X5_init : ByteArray := prog_1_method_1_code
abbrev nM_X5_init : MethodName := ⟨"HandOffRecorder", "<init>", "(II)V"⟩
abbrev nC_X4_init : ByteArray := prog_6_method_1_code
abbrev nM_X4_init : MethodName := ⟨"HandOffRecorder$Store", "<init>", "()V"⟩
abbrev nC_X1_init : ByteArray := prog_3_method_1_code
abbrev nM_X1_init : MethodName := ⟨"HandOffRecorder$Findings", "<init>", "()V"⟩
abbrev nC_X3_init : ByteArray := prog_5_method_1_code
abbrev nM_X3_init : MethodName := ⟨"HandOffRecorder$RowSet", "<init>", "()V"⟩
abbrev nC_X0_init : ByteArray := prog_2_method_1_code
abbrev nM_X0_init : MethodName := ⟨"HandOffRecorder$Call", "<init>", "()V"⟩
abbrev nC_X5_startRecord : ByteArray := prog_1_method_24_code
abbrev nM_X5_startRecord : MethodName := ⟨"HandOffRecorder", "startRecord", "(II)V"⟩
abbrev nC_X4_setUp : ByteArray := prog_6_method_2_code
abbrev nM_X4_setUp : MethodName := ⟨"HandOffRecorder$Store", "setUp", "(II)V"⟩
abbrev nC_JM_min : ByteArray := prog_10_method_69_code
abbrev nM_JM_min : MethodName := ⟨"java/lang/Math", "min", "(II)I"⟩
abbrev nC_JM_max : ByteArray := prog_10_method_65_code
abbrev nM_JM_max : MethodName := ⟨"java/lang/Math", "max", "(II)I"⟩
abbrev nC_JA_fill : ByteArray := prog_11_method_103_code
abbrev nM_JA_fill : MethodName := ⟨"java/util/Arrays", "fill", "([II)V"⟩
abbrev nC_X5_review : ByteArray := prog_1_method_28_code
abbrev nM_X5_review : MethodName := ⟨"HandOffRecorder", "review", "()V"⟩
abbrev nC_X1_clear : ByteArray := prog_3_method_2_code
abbrev nM_X1_clear : MethodName := ⟨"HandOffRecorder$Findings", "clear", "()V"⟩
abbrev nC_X3_clear : ByteArray := prog_5_method_2_code
abbrev nM_X3_clear : MethodName := ⟨"HandOffRecorder$RowSet", "clear", "()V"⟩
abbrev nC_X5_lengthenList : ByteArray := prog_1_method_29_code
abbrev nM_X5_lengthenList : MethodName := ⟨"HandOffRecorder", "lengthenList", "(IJI)V"⟩
abbrev nC_X5_noteExplanation : ByteArray := prog_1_method_32_code
abbrev nM_X5_noteExplanation : MethodName := ⟨"HandOffRecorder", "noteExplanation", "(IJ)V"⟩
abbrev nC_X1_addExplanation : ByteArray := prog_3_method_3_code
abbrev nM_X1_addExplanation : MethodName := ⟨"HandOffRecorder$Findings", "addExplanation", "(J)V"⟩
abbrev nC_X3_add : ByteArray := prog_5_method_3_code
abbrev nM_X3_add : MethodName := ⟨"HandOffRecorder$RowSet", "add", "(J)V"⟩
abbrev nC_X5_isIn : ByteArray := prog_1_method_21_code
abbrev nM_X5_isIn : MethodName := ⟨"HandOffRecorder", "isIn", "(II)Z"⟩
abbrev nC_X1_addReply : ByteArray := prog_3_method_4_code
abbrev nM_X1_addReply : MethodName := ⟨"HandOffRecorder$Findings", "addReply", "(II)V"⟩
abbrev nC_X5_mayStandNext : ByteArray := prog_1_method_30_code
abbrev nM_X5_mayStandNext : MethodName := ⟨"HandOffRecorder", "mayStandNext", "(II)Z"⟩
abbrev nC_X5_carryOut : ByteArray := prog_1_method_31_code
abbrev nM_X5_carryOut : MethodName := ⟨"HandOffRecorder", "carryOut", "(IIJI)V"⟩
abbrev nC_X4_replyTo : ByteArray := prog_6_method_4_code
abbrev nM_X4_replyTo : MethodName := ⟨"HandOffRecorder$Store", "replyTo", "(LHandOffRecorder$Call;J)I"⟩
abbrev nC_X4_hasRoom : ByteArray := prog_6_method_6_code
abbrev nM_X4_hasRoom : MethodName := ⟨"HandOffRecorder$Store", "hasRoom", "(J)Z"⟩
abbrev nC_X2_length : ByteArray := prog_4_method_2_code
abbrev nM_X2_length : MethodName := ⟨"HandOffRecorder$Row", "length", "(J)I"⟩
abbrev nC_X4_takesBack : ByteArray := prog_6_method_7_code
abbrev nM_X4_takesBack : MethodName := ⟨"HandOffRecorder$Store", "takesBack", "(I)Z"⟩
abbrev nC_X2_valueAt : ByteArray := prog_4_method_3_code
abbrev nM_X2_valueAt : MethodName := ⟨"HandOffRecorder$Row", "valueAt", "(JI)I"⟩
abbrev nC_X4_rowAfter : ByteArray := prog_6_method_5_code
abbrev nM_X4_rowAfter : MethodName := ⟨"HandOffRecorder$Store", "rowAfter", "(LHandOffRecorder$Call;J)J"⟩
abbrev nC_X2_withBack : ByteArray := prog_4_method_4_code
abbrev nM_X2_withBack : MethodName := ⟨"HandOffRecorder$Row", "withBack", "(JI)J"⟩
abbrev nC_X2_withoutBack : ByteArray := prog_4_method_5_code
abbrev nM_X2_withoutBack : MethodName := ⟨"HandOffRecorder$Row", "withoutBack", "(J)J"⟩
abbrev nC_X2_withoutFront : ByteArray := prog_4_method_6_code
abbrev nM_X2_withoutFront : MethodName := ⟨"HandOffRecorder$Row", "withoutFront", "(J)J"⟩
abbrev nC_X5_fits : ByteArray := prog_1_method_10_code
abbrev nM_X5_fits : MethodName := ⟨"HandOffRecorder", "fits", "()Z"⟩
abbrev nC_X5_renew : ByteArray := prog_1_method_2_code
abbrev nM_X5_renew : MethodName := ⟨"HandOffRecorder", "renew", "(II)V"⟩
abbrev nC_X5_beginPut : ByteArray := prog_1_method_3_code
abbrev nM_X5_beginPut : MethodName := ⟨"HandOffRecorder", "beginPut", "(II)Z"⟩
abbrev nC_X5_mayBegin : ByteArray := prog_1_method_23_code
abbrev nM_X5_mayBegin : MethodName := ⟨"HandOffRecorder", "mayBegin", "(I)Z"⟩
abbrev nC_X5_isWorker : ByteArray := prog_1_method_19_code
abbrev nM_X5_isWorker : MethodName := ⟨"HandOffRecorder", "isWorker", "(I)Z"⟩
abbrev nC_X5_isValue : ByteArray := prog_1_method_20_code
abbrev nM_X5_isValue : MethodName := ⟨"HandOffRecorder", "isValue", "(I)Z"⟩
abbrev nC_X4_letsPut : ByteArray := prog_6_method_3_code
abbrev nM_X4_letsPut : MethodName := ⟨"HandOffRecorder$Store", "letsPut", "(I)Z"⟩
abbrev nC_X0_startPut : ByteArray := prog_2_method_2_code
abbrev nM_X0_startPut : MethodName := ⟨"HandOffRecorder$Call", "startPut", "(III)V"⟩
abbrev nC_X5_openNextCall : ByteArray := prog_1_method_25_code
abbrev nM_X5_openNextCall : MethodName := ⟨"HandOffRecorder", "openNextCall", "(I)V"⟩
abbrev nC_X5_beginTake : ByteArray := prog_1_method_4_code
abbrev nM_X5_beginTake : MethodName := ⟨"HandOffRecorder", "beginTake", "(I)Z"⟩
abbrev nC_X0_startTake : ByteArray := prog_2_method_3_code
abbrev nM_X0_startTake : MethodName := ⟨"HandOffRecorder$Call", "startTake", "(II)V"⟩
abbrev nC_X5_endPut : ByteArray := prog_1_method_5_code
abbrev nM_X5_endPut : MethodName := ⟨"HandOffRecorder", "endPut", "(IZ)Z"⟩
abbrev nC_X5_hasOpenCall : ByteArray := prog_1_method_22_code
abbrev nM_X5_hasOpenCall : MethodName := ⟨"HandOffRecorder", "hasOpenCall", "(I)Z"⟩
abbrev nC_X5_endOpenCall : ByteArray := prog_1_method_26_code
abbrev nM_X5_endOpenCall : MethodName := ⟨"HandOffRecorder", "endOpenCall", "(II)V"⟩
abbrev nC_X5_closeOpenCall : ByteArray := prog_1_method_27_code
abbrev nM_X5_closeOpenCall : MethodName := ⟨"HandOffRecorder", "closeOpenCall", "(I)V"⟩
abbrev nC_X5_endTake : ByteArray := prog_1_method_6_code
abbrev nM_X5_endTake : MethodName := ⟨"HandOffRecorder", "endTake", "(II)Z"⟩
abbrev nC_X5_giveUp : ByteArray := prog_1_method_7_code
abbrev nM_X5_giveUp : MethodName := ⟨"HandOffRecorder", "giveUp", "(I)Z"⟩
abbrev nC_X5_events : ByteArray := prog_1_method_8_code
abbrev nM_X5_events : MethodName := ⟨"HandOffRecorder", "events", "()I"⟩
abbrev nC_X5_begun : ByteArray := prog_1_method_9_code
abbrev nM_X5_begun : MethodName := ⟨"HandOffRecorder", "begun", "()I"⟩
abbrev nC_X5_brokenAt : ByteArray := prog_1_method_11_code
abbrev nM_X5_brokenAt : MethodName := ⟨"HandOffRecorder", "brokenAt", "()I"⟩
abbrev nC_X5_explanations : ByteArray := prog_1_method_12_code
abbrev nM_X5_explanations : MethodName := ⟨"HandOffRecorder", "explanations", "()J"⟩
abbrev nC_X5_outcomes : ByteArray := prog_1_method_13_code
abbrev nM_X5_outcomes : MethodName := ⟨"HandOffRecorder", "outcomes", "()I"⟩
abbrev nC_X5_fewest : ByteArray := prog_1_method_14_code
abbrev nM_X5_fewest : MethodName := ⟨"HandOffRecorder", "fewest", "()I"⟩
abbrev nC_X3_shortest : ByteArray := prog_5_method_4_code
abbrev nM_X3_shortest : MethodName := ⟨"HandOffRecorder$RowSet", "shortest", "()I"⟩
abbrev nC_X5_most : ByteArray := prog_1_method_15_code
abbrev nM_X5_most : MethodName := ⟨"HandOffRecorder", "most", "()I"⟩
abbrev nC_X3_longest : ByteArray := prog_5_method_5_code
abbrev nM_X3_longest : MethodName := ⟨"HandOffRecorder$RowSet", "longest", "()I"⟩
abbrev nC_X5_mayHold : ByteArray := prog_1_method_16_code
abbrev nM_X5_mayHold : MethodName := ⟨"HandOffRecorder", "mayHold", "(II)Z"⟩
abbrev nC_X3_anyHas : ByteArray := prog_5_method_6_code
abbrev nM_X3_anyHas : MethodName := ⟨"HandOffRecorder$RowSet", "anyHas", "(II)Z"⟩
abbrev nC_X5_certain : ByteArray := prog_1_method_17_code
abbrev nM_X5_certain : MethodName := ⟨"HandOffRecorder", "certain", "(I)Z"⟩
abbrev nC_X5_answers : ByteArray := prog_1_method_18_code
abbrev nM_X5_answers : MethodName := ⟨"HandOffRecorder", "answers", "(I)I"⟩
abbrev nC_JI_bitCount : ByteArray := prog_9_method_49_code
abbrev nM_JI_bitCount : MethodName := ⟨"java/lang/Integer", "bitCount", "(I)I"⟩
abbrev nC_L_cell : ByteArray := method_2_code
abbrev nM_L_cell : MethodName := ⟨"HandOffRecorderLaw", "cell", "([II)I"⟩
abbrev nC_M_init : ByteArray := prog_8_method_1_code
abbrev nM_M_init : MethodName := ⟨"HandOffRecorderModel", "<init>", "(II)V"⟩
abbrev nC_M_renew : ByteArray := prog_8_method_2_code
abbrev nM_M_renew : MethodName := ⟨"HandOffRecorderModel", "renew", "(II)V"⟩
abbrev nC_M_work : ByteArray := prog_8_method_16_code
abbrev nM_M_work : MethodName := ⟨"HandOffRecorderModel", "work", "()V"⟩
abbrev nC_M_note : ByteArray := prog_8_method_15_code
abbrev nM_M_note : MethodName := ⟨"HandOffRecorderModel", "note", "()V"⟩
abbrev nC_M_isListed : ByteArray := prog_8_method_14_code
abbrev nM_M_isListed : MethodName := ⟨"HandOffRecorderModel", "isListed", "(I)Z"⟩
abbrev nC_M_lengthen : ByteArray := prog_8_method_17_code
abbrev nM_M_lengthen : MethodName := ⟨"HandOffRecorderModel", "lengthen", "(I)V"⟩
abbrev nC_M_good : ByteArray := prog_8_method_13_code
abbrev nM_M_good : MethodName := ⟨"HandOffRecorderModel", "good", "()Z"⟩
abbrev nC_M_carryOut : ByteArray := prog_8_method_12_code
abbrev nM_M_carryOut : MethodName := ⟨"HandOffRecorderModel", "carryOut", "(I)I"⟩
abbrev nC_M_beginPut : ByteArray := prog_8_method_6_code
abbrev nM_M_beginPut : MethodName := ⟨"HandOffRecorderModel", "beginPut", "(II)Z"⟩
abbrev nC_M_begin : ByteArray := prog_8_method_5_code
abbrev nM_M_begin : MethodName := ⟨"HandOffRecorderModel", "begin", "(IZI)Z"⟩
abbrev nC_M_openOf : ByteArray := prog_8_method_3_code
abbrev nM_M_openOf : MethodName := ⟨"HandOffRecorderModel", "openOf", "(I)I"⟩
abbrev nC_M_happened : ByteArray := prog_8_method_4_code
abbrev nM_M_happened : MethodName := ⟨"HandOffRecorderModel", "happened", "()V"⟩
abbrev nC_M_beginTake : ByteArray := prog_8_method_7_code
abbrev nM_M_beginTake : MethodName := ⟨"HandOffRecorderModel", "beginTake", "(I)Z"⟩
abbrev nC_M_endPut : ByteArray := prog_8_method_9_code
abbrev nM_M_endPut : MethodName := ⟨"HandOffRecorderModel", "endPut", "(IZ)Z"⟩
abbrev nC_M_close : ByteArray := prog_8_method_8_code
abbrev nM_M_close : MethodName := ⟨"HandOffRecorderModel", "close", "(III)V"⟩
abbrev nC_M_endTake : ByteArray := prog_8_method_10_code
abbrev nM_M_endTake : MethodName := ⟨"HandOffRecorderModel", "endTake", "(II)Z"⟩
abbrev nC_M_giveUp : ByteArray := prog_8_method_11_code
abbrev nM_M_giveUp : MethodName := ⟨"HandOffRecorderModel", "giveUp", "(I)Z"⟩
abbrev nC_M_events : ByteArray := prog_8_method_18_code
abbrev nM_M_events : MethodName := ⟨"HandOffRecorderModel", "events", "()I"⟩
abbrev nC_M_begun : ByteArray := prog_8_method_19_code
abbrev nM_M_begun : MethodName := ⟨"HandOffRecorderModel", "begun", "()I"⟩
abbrev nC_M_fits : ByteArray := prog_8_method_20_code
abbrev nM_M_fits : MethodName := ⟨"HandOffRecorderModel", "fits", "()Z"⟩
abbrev nC_M_brokenAt : ByteArray := prog_8_method_21_code
abbrev nM_M_brokenAt : MethodName := ⟨"HandOffRecorderModel", "brokenAt", "()I"⟩
abbrev nC_M_explanations : ByteArray := prog_8_method_22_code
abbrev nM_M_explanations : MethodName := ⟨"HandOffRecorderModel", "explanations", "()J"⟩
abbrev nC_M_outcomes : ByteArray := prog_8_method_23_code
abbrev nM_M_outcomes : MethodName := ⟨"HandOffRecorderModel", "outcomes", "()I"⟩
abbrev nC_M_fewest : ByteArray := prog_8_method_25_code
abbrev nM_M_fewest : MethodName := ⟨"HandOffRecorderModel", "fewest", "()I"⟩
abbrev nC_M_sizeOf : ByteArray := prog_8_method_24_code
abbrev nM_M_sizeOf : MethodName := ⟨"HandOffRecorderModel", "sizeOf", "(I)I"⟩
abbrev nC_M_most : ByteArray := prog_8_method_26_code
abbrev nM_M_most : MethodName := ⟨"HandOffRecorderModel", "most", "()I"⟩
abbrev nC_M_mayHold : ByteArray := prog_8_method_27_code
abbrev nM_M_mayHold : MethodName := ⟨"HandOffRecorderModel", "mayHold", "(II)Z"⟩
abbrev nC_M_certain : ByteArray := prog_8_method_28_code
abbrev nM_M_certain : MethodName := ⟨"HandOffRecorderModel", "certain", "(I)Z"⟩
abbrev nC_M_answers : ByteArray := prog_8_method_29_code
abbrev nM_M_answers : MethodName := ⟨"HandOffRecorderModel", "answers", "(I)I"⟩
abbrev nC_L_law : ByteArray := code
abbrev nCl : List vw_C := [(nR_X0, nT_X0, 5), (nR_X1, nT_X1, 4), (nR_X3, nT_X3, 3), (nR_X4, nT_X4, 2), (nR_X5, nT_X5, 10), (nR_M, nT_M, 23)]
end
section
theorem nD_X5_init_0 : decode nC_X5_init 0 = .ok (.aload_n 0, 1) := by decide +kernel
theorem nD_X5_init_1 : decode nC_X5_init 1 = .ok (.invokespecial 1, 3) := by decide +kernel
theorem nD_X5_init_4 : decode nC_X5_init 4 = .ok (.aload_n 0, 1) := by decide +kernel
theorem nD_X5_init_5 : decode nC_X5_init 5 = .ok (.new 7, 3) := by decide +kernel
theorem nD_X5_init_8 : decode nC_X5_init 8 = .ok (.dup, 1) := by decide +kernel
theorem nD_X5_init_9 : decode nC_X5_init 9 = .ok (.invokespecial 9, 3) := by decide +kernel
theorem nD_X5_init_12 : decode nC_X5_init 12 = .ok (.putfield 10, 3) := by decide +kernel
theorem nD_X5_init_15 : decode nC_X5_init 15 = .ok (.aload_n 0, 1) := by decide +kernel
theorem nD_X5_init_16 : decode nC_X5_init 16 = .ok (.bipush 8, 2) := by decide +kernel
theorem nD_X5_init_18 : decode nC_X5_init 18 = .ok (.anewarray 16, 3) := by decide +kernel
theorem nD_X5_init_21 : decode nC_X5_init 21 = .ok (.putfield 18, 3) := by decide +kernel
theorem nD_X5_init_24 : decode nC_X5_init 24 = .ok (.aload_n 0, 1) := by decide +kernel
theorem nD_X5_init_25 : decode nC_X5_init 25 = .ok (.iconst 3, 1) := by decide +kernel
theorem nD_X5_init_26 : decode nC_X5_init 26 = .ok (.newarray .int, 2) := by decide +kernel
theorem nD_X5_init_28 : decode nC_X5_init 28 = .ok (.putfield 22, 3) := by decide +kernel
theorem nD_X5_init_31 : decode nC_X5_init 31 = .ok (.aload_n 0, 1) := by decide +kernel
theorem nD_X5_init_32 : decode nC_X5_init 32 = .ok (.bipush 8, 2) := by decide +kernel
theorem nD_X5_init_34 : decode nC_X5_init 34 = .ok (.newarray .int, 2) := by decide +kernel
theorem nD_X5_init_36 : decode nC_X5_init 36 = .ok (.putfield 26, 3) := by decide +kernel
theorem nD_X5_init_39 : decode nC_X5_init 39 = .ok (.aload_n 0, 1) := by decide +kernel
theorem nD_X5_init_40 : decode nC_X5_init 40 = .ok (.new 29, 3) := by decide +kernel
theorem nD_X5_init_43 : decode nC_X5_init 43 = .ok (.dup, 1) := by decide +kernel
theorem nD_X5_init_44 : decode nC_X5_init 44 = .ok (.invokespecial 31, 3) := by decide +kernel
theorem nD_X5_init_47 : decode nC_X5_init 47 = .ok (.putfield 32, 3) := by decide +kernel
theorem nD_X5_init_50 : decode nC_X5_init 50 = .ok (.iconst 0, 1) := by decide +kernel
theorem nD_X5_init_51 : decode nC_X5_init 51 = .ok (.istore_n 3, 1) := by decide +kernel
theorem nD_X5_init_52 : decode nC_X5_init 52 = .ok (.iload_n 3, 1) := by decide +kernel
theorem nD_X5_init_53 : decode nC_X5_init 53 = .ok (.bipush 8, 2) := by decide +kernel
theorem nD_X5_init_55 : decode nC_X5_init 55 = .ok (.if_icmp .ge 22, 3) := by decide +kernel
theorem nD_X5_init_58 : decode nC_X5_init 58 = .ok (.aload_n 0, 1) := by decide +kernel
theorem nD_X5_init_59 : decode nC_X5_init 59 = .ok (.getfield 18, 3) := by decide +kernel
theorem nD_X5_init_62 : decode nC_X5_init 62 = .ok (.iload_n 3, 1) := by decide +kernel
theorem nD_X5_init_63 : decode nC_X5_init 63 = .ok (.new 16, 3) := by decide +kernel
theorem nD_X5_init_66 : decode nC_X5_init 66 = .ok (.dup, 1) := by decide +kernel
theorem nD_X5_init_67 : decode nC_X5_init 67 = .ok (.invokespecial 36, 3) := by decide +kernel
theorem nD_X5_init_70 : decode nC_X5_init 70 = .ok (.aastore, 1) := by decide +kernel
theorem nD_X5_init_71 : decode nC_X5_init 71 = .ok (.iinc 3 1, 3) := by decide +kernel
theorem nD_X5_init_74 : decode nC_X5_init 74 = .ok (.goto (-22), 3) := by decide +kernel
theorem nD_X5_init_77 : decode nC_X5_init 77 = .ok (.aload_n 0, 1) := by decide +kernel
theorem nD_X5_init_78 : decode nC_X5_init 78 = .ok (.iload_n 1, 1) := by decide +kernel
theorem nD_X5_init_79 : decode nC_X5_init 79 = .ok (.iload_n 2, 1) := by decide +kernel
theorem nD_X5_init_80 : decode nC_X5_init 80 = .ok (.invokevirtual 37, 3) := by decide +kernel
theorem nD_X5_init_83 : decode nC_X5_init 83 = .ok (.return_, 1) := by decide +kernel
theorem nD_X4_init_0 : decode nC_X4_init 0 = .ok (.aload_n 0, 1) := by decide +kernel
theorem nD_X4_init_1 : decode nC_X4_init 1 = .ok (.invokespecial 3, 3) := by decide +kernel
theorem nD_X4_init_4 : decode nC_X4_init 4 = .ok (.return_, 1) := by decide +kernel
theorem nD_X1_init_0 : decode nC_X1_init 0 = .ok (.aload_n 0, 1) := by decide +kernel
theorem nD_X1_init_1 : decode nC_X1_init 1 = .ok (.invokespecial 3, 3) := by decide +kernel
theorem nD_X1_init_4 : decode nC_X1_init 4 = .ok (.aload_n 0, 1) := by decide +kernel
theorem nD_X1_init_5 : decode nC_X1_init 5 = .ok (.new 9, 3) := by decide +kernel
theorem nD_X1_init_8 : decode nC_X1_init 8 = .ok (.dup, 1) := by decide +kernel
theorem nD_X1_init_9 : decode nC_X1_init 9 = .ok (.invokespecial 11, 3) := by decide +kernel
theorem nD_X1_init_12 : decode nC_X1_init 12 = .ok (.putfield 12, 3) := by decide +kernel
theorem nD_X1_init_15 : decode nC_X1_init 15 = .ok (.aload_n 0, 1) := by decide +kernel
theorem nD_X1_init_16 : decode nC_X1_init 16 = .ok (.iconst 3, 1) := by decide +kernel
theorem nD_X1_init_17 : decode nC_X1_init 17 = .ok (.newarray .int, 2) := by decide +kernel
theorem nD_X1_init_19 : decode nC_X1_init 19 = .ok (.putfield 18, 3) := by decide +kernel
theorem nD_X1_init_22 : decode nC_X1_init 22 = .ok (.aload_n 0, 1) := by decide +kernel
theorem nD_X1_init_23 : decode nC_X1_init 23 = .ok (.iconst 3, 1) := by decide +kernel
theorem nD_X1_init_24 : decode nC_X1_init 24 = .ok (.newarray .int, 2) := by decide +kernel
theorem nD_X1_init_26 : decode nC_X1_init 26 = .ok (.putfield 22, 3) := by decide +kernel
theorem nD_X1_init_29 : decode nC_X1_init 29 = .ok (.return_, 1) := by decide +kernel
theorem nD_X3_init_0 : decode nC_X3_init 0 = .ok (.aload_n 0, 1) := by decide +kernel
theorem nD_X3_init_1 : decode nC_X3_init 1 = .ok (.invokespecial 3, 3) := by decide +kernel
theorem nD_X3_init_4 : decode nC_X3_init 4 = .ok (.aload_n 0, 1) := by decide +kernel
theorem nD_X3_init_5 : decode nC_X3_init 5 = .ok (.sipush 680, 3) := by decide +kernel
theorem nD_X3_init_8 : decode nC_X3_init 8 = .ok (.newarray .long, 2) := by decide +kernel
theorem nD_X3_init_10 : decode nC_X3_init 10 = .ok (.putfield 11, 3) := by decide +kernel
theorem nD_X3_init_13 : decode nC_X3_init 13 = .ok (.aload_n 0, 1) := by decide +kernel
theorem nD_X3_init_14 : decode nC_X3_init 14 = .ok (.sipush 1024, 3) := by decide +kernel
theorem nD_X3_init_17 : decode nC_X3_init 17 = .ok (.newarray .int, 2) := by decide +kernel
theorem nD_X3_init_19 : decode nC_X3_init 19 = .ok (.putfield 15, 3) := by decide +kernel
theorem nD_X3_init_22 : decode nC_X3_init 22 = .ok (.return_, 1) := by decide +kernel
theorem nD_X0_init_0 : decode nC_X0_init 0 = .ok (.aload_n 0, 1) := by decide +kernel
theorem nD_X0_init_1 : decode nC_X0_init 1 = .ok (.invokespecial 1, 3) := by decide +kernel
theorem nD_X0_init_4 : decode nC_X0_init 4 = .ok (.return_, 1) := by decide +kernel
theorem nD_X5_startRecord_0 : decode nC_X5_startRecord 0 = .ok (.aload_n 0, 1) := by decide +kernel
theorem nD_X5_startRecord_1 : decode nC_X5_startRecord 1 = .ok (.getfield 10, 3) := by decide +kernel
theorem nD_X5_startRecord_4 : decode nC_X5_startRecord 4 = .ok (.iload_n 1, 1) := by decide +kernel
theorem nD_X5_startRecord_5 : decode nC_X5_startRecord 5 = .ok (.iload_n 2, 1) := by decide +kernel
theorem nD_X5_startRecord_6 : decode nC_X5_startRecord 6 = .ok (.invokevirtual 136, 3) := by decide +kernel
theorem nD_X5_startRecord_9 : decode nC_X5_startRecord 9 = .ok (.aload_n 0, 1) := by decide +kernel
theorem nD_X5_startRecord_10 : decode nC_X5_startRecord 10 = .ok (.getfield 22, 3) := by decide +kernel
theorem nD_X5_startRecord_13 : decode nC_X5_startRecord 13 = .ok (.iconst (-1), 1) := by decide +kernel
theorem nD_X5_startRecord_14 : decode nC_X5_startRecord 14 = .ok (.invokestatic 139, 3) := by decide +kernel
theorem nD_X5_startRecord_17 : decode nC_X5_startRecord 17 = .ok (.aload_n 0, 1) := by decide +kernel
theorem nD_X5_startRecord_18 : decode nC_X5_startRecord 18 = .ok (.iconst 0, 1) := by decide +kernel
theorem nD_X5_startRecord_19 : decode nC_X5_startRecord 19 = .ok (.putfield 51, 3) := by decide +kernel
theorem nD_X5_startRecord_22 : decode nC_X5_startRecord 22 = .ok (.aload_n 0, 1) := by decide +kernel
theorem nD_X5_startRecord_23 : decode nC_X5_startRecord 23 = .ok (.iconst 0, 1) := by decide +kernel
theorem nD_X5_startRecord_24 : decode nC_X5_startRecord 24 = .ok (.putfield 55, 3) := by decide +kernel
theorem nD_X5_startRecord_27 : decode nC_X5_startRecord 27 = .ok (.aload_n 0, 1) := by decide +kernel
theorem nD_X5_startRecord_28 : decode nC_X5_startRecord 28 = .ok (.iconst 0, 1) := by decide +kernel
theorem nD_X5_startRecord_29 : decode nC_X5_startRecord 29 = .ok (.putfield 82, 3) := by decide +kernel
theorem nD_X5_startRecord_32 : decode nC_X5_startRecord 32 = .ok (.aload_n 0, 1) := by decide +kernel
theorem nD_X5_startRecord_33 : decode nC_X5_startRecord 33 = .ok (.iconst 0, 1) := by decide +kernel
theorem nD_X5_startRecord_34 : decode nC_X5_startRecord 34 = .ok (.putfield 88, 3) := by decide +kernel
theorem nD_X5_startRecord_37 : decode nC_X5_startRecord 37 = .ok (.aload_n 0, 1) := by decide +kernel
theorem nD_X5_startRecord_38 : decode nC_X5_startRecord 38 = .ok (.iconst 0, 1) := by decide +kernel
theorem nD_X5_startRecord_39 : decode nC_X5_startRecord 39 = .ok (.putfield 94, 3) := by decide +kernel
theorem nD_X5_startRecord_42 : decode nC_X5_startRecord 42 = .ok (.aload_n 0, 1) := by decide +kernel
theorem nD_X5_startRecord_43 : decode nC_X5_startRecord 43 = .ok (.invokevirtual 66, 3) := by decide +kernel
theorem nD_X5_startRecord_46 : decode nC_X5_startRecord 46 = .ok (.return_, 1) := by decide +kernel
theorem nD_X4_setUp_0 : decode nC_X4_setUp 0 = .ok (.aload_n 0, 1) := by decide +kernel
theorem nD_X4_setUp_1 : decode nC_X4_setUp 1 = .ok (.iload_n 1, 1) := by decide +kernel
theorem nD_X4_setUp_2 : decode nC_X4_setUp 2 = .ok (.iconst 1, 1) := by decide +kernel
theorem nD_X4_setUp_3 : decode nC_X4_setUp 3 = .ok (.if_icmp .eq 8, 3) := by decide +kernel
theorem nD_X4_setUp_6 : decode nC_X4_setUp 6 = .ok (.iload_n 1, 1) := by decide +kernel
theorem nD_X4_setUp_7 : decode nC_X4_setUp 7 = .ok (.iconst 2, 1) := by decide +kernel
theorem nD_X4_setUp_8 : decode nC_X4_setUp 8 = .ok (.if_icmp .ne 7, 3) := by decide +kernel
theorem nD_X4_setUp_11 : decode nC_X4_setUp 11 = .ok (.iload_n 1, 1) := by decide +kernel
theorem nD_X4_setUp_12 : decode nC_X4_setUp 12 = .ok (.goto 4, 3) := by decide +kernel
theorem nD_X4_setUp_15 : decode nC_X4_setUp 15 = .ok (.iconst 0, 1) := by decide +kernel
theorem nD_X4_setUp_16 : decode nC_X4_setUp 16 = .ok (.putfield 11, 3) := by decide +kernel
theorem nD_X4_setUp_19 : decode nC_X4_setUp 19 = .ok (.aload_n 0, 1) := by decide +kernel
theorem nD_X4_setUp_20 : decode nC_X4_setUp 20 = .ok (.iconst 1, 1) := by decide +kernel
theorem nD_X4_setUp_21 : decode nC_X4_setUp 21 = .ok (.iload_n 2, 1) := by decide +kernel
theorem nD_X4_setUp_22 : decode nC_X4_setUp 22 = .ok (.bipush 8, 2) := by decide +kernel
theorem nD_X4_setUp_24 : decode nC_X4_setUp 24 = .ok (.invokestatic 15, 3) := by decide +kernel
theorem nD_X4_setUp_27 : decode nC_X4_setUp 27 = .ok (.invokestatic 21, 3) := by decide +kernel
theorem nD_X4_setUp_30 : decode nC_X4_setUp 30 = .ok (.putfield 24, 3) := by decide +kernel
theorem nD_X4_setUp_33 : decode nC_X4_setUp 33 = .ok (.return_, 1) := by decide +kernel
theorem nD_JM_min_0 : decode nC_JM_min 0 = .ok (.iload_n 0, 1) := by decide +kernel
theorem nD_JM_min_1 : decode nC_JM_min 1 = .ok (.iload_n 1, 1) := by decide +kernel
theorem nD_JM_min_2 : decode nC_JM_min 2 = .ok (.if_icmp .gt 7, 3) := by decide +kernel
theorem nD_JM_min_5 : decode nC_JM_min 5 = .ok (.iload_n 0, 1) := by decide +kernel
theorem nD_JM_min_6 : decode nC_JM_min 6 = .ok (.goto 4, 3) := by decide +kernel
theorem nD_JM_min_9 : decode nC_JM_min 9 = .ok (.iload_n 1, 1) := by decide +kernel
theorem nD_JM_min_10 : decode nC_JM_min 10 = .ok (.ireturn, 1) := by decide +kernel
theorem nD_JM_max_0 : decode nC_JM_max 0 = .ok (.iload_n 0, 1) := by decide +kernel
theorem nD_JM_max_1 : decode nC_JM_max 1 = .ok (.iload_n 1, 1) := by decide +kernel
theorem nD_JM_max_2 : decode nC_JM_max 2 = .ok (.if_icmp .lt 7, 3) := by decide +kernel
theorem nD_JM_max_5 : decode nC_JM_max 5 = .ok (.iload_n 0, 1) := by decide +kernel
theorem nD_JM_max_6 : decode nC_JM_max 6 = .ok (.goto 4, 3) := by decide +kernel
theorem nD_JM_max_9 : decode nC_JM_max 9 = .ok (.iload_n 1, 1) := by decide +kernel
theorem nD_JM_max_10 : decode nC_JM_max 10 = .ok (.ireturn, 1) := by decide +kernel
theorem nD_JA_fill_0 : decode nC_JA_fill 0 = .ok (.iconst 0, 1) := by decide +kernel
theorem nD_JA_fill_1 : decode nC_JA_fill 1 = .ok (.istore_n 2, 1) := by decide +kernel
theorem nD_JA_fill_2 : decode nC_JA_fill 2 = .ok (.aload_n 0, 1) := by decide +kernel
theorem nD_JA_fill_3 : decode nC_JA_fill 3 = .ok (.arraylength, 1) := by decide +kernel
theorem nD_JA_fill_4 : decode nC_JA_fill 4 = .ok (.istore_n 3, 1) := by decide +kernel
theorem nD_JA_fill_5 : decode nC_JA_fill 5 = .ok (.iload_n 2, 1) := by decide +kernel
theorem nD_JA_fill_6 : decode nC_JA_fill 6 = .ok (.iload_n 3, 1) := by decide +kernel
theorem nD_JA_fill_7 : decode nC_JA_fill 7 = .ok (.if_icmp .ge 13, 3) := by decide +kernel
theorem nD_JA_fill_10 : decode nC_JA_fill 10 = .ok (.aload_n 0, 1) := by decide +kernel
theorem nD_JA_fill_11 : decode nC_JA_fill 11 = .ok (.iload_n 2, 1) := by decide +kernel
theorem nD_JA_fill_12 : decode nC_JA_fill 12 = .ok (.iload_n 1, 1) := by decide +kernel
theorem nD_JA_fill_13 : decode nC_JA_fill 13 = .ok (.iastore, 1) := by decide +kernel
theorem nD_JA_fill_14 : decode nC_JA_fill 14 = .ok (.iinc 2 1, 3) := by decide +kernel
theorem nD_JA_fill_17 : decode nC_JA_fill 17 = .ok (.goto (-12), 3) := by decide +kernel
theorem nD_JA_fill_20 : decode nC_JA_fill 20 = .ok (.return_, 1) := by decide +kernel
theorem nD_X5_review_0 : decode nC_X5_review 0 = .ok (.aload_n 0, 1) := by decide +kernel
theorem nD_X5_review_1 : decode nC_X5_review 1 = .ok (.getfield 32, 3) := by decide +kernel
theorem nD_X5_review_4 : decode nC_X5_review 4 = .ok (.invokevirtual 148, 3) := by decide +kernel
theorem nD_X5_review_7 : decode nC_X5_review 7 = .ok (.aload_n 0, 1) := by decide +kernel
theorem nD_X5_review_8 : decode nC_X5_review 8 = .ok (.iconst 0, 1) := by decide +kernel
theorem nD_X5_review_9 : decode nC_X5_review 9 = .ok (.lconst 0, 1) := by decide +kernel
theorem nD_X5_review_10 : decode nC_X5_review 10 = .ok (.iconst 0, 1) := by decide +kernel
theorem nD_X5_review_11 : decode nC_X5_review 11 = .ok (.invokevirtual 153, 3) := by decide +kernel
theorem nD_X5_review_14 : decode nC_X5_review 14 = .ok (.aload_n 0, 1) := by decide +kernel
theorem nD_X5_review_15 : decode nC_X5_review 15 = .ok (.getfield 94, 3) := by decide +kernel
theorem nD_X5_review_18 : decode nC_X5_review 18 = .ok (.ifCond .ne 18, 3) := by decide +kernel
theorem nD_X5_review_21 : decode nC_X5_review 21 = .ok (.aload_n 0, 1) := by decide +kernel
theorem nD_X5_review_22 : decode nC_X5_review 22 = .ok (.invokevirtual 117, 3) := by decide +kernel
theorem nD_X5_review_25 : decode nC_X5_review 25 = .ok (.ifCond .ne 11, 3) := by decide +kernel
theorem nD_X5_review_28 : decode nC_X5_review 28 = .ok (.aload_n 0, 1) := by decide +kernel
theorem nD_X5_review_29 : decode nC_X5_review 29 = .ok (.aload_n 0, 1) := by decide +kernel
theorem nD_X5_review_30 : decode nC_X5_review 30 = .ok (.getfield 88, 3) := by decide +kernel
theorem nD_X5_review_33 : decode nC_X5_review 33 = .ok (.putfield 94, 3) := by decide +kernel
theorem nD_X5_review_36 : decode nC_X5_review 36 = .ok (.return_, 1) := by decide +kernel
theorem nD_X1_clear_0 : decode nC_X1_clear 0 = .ok (.aload_n 0, 1) := by decide +kernel
theorem nD_X1_clear_1 : decode nC_X1_clear 1 = .ok (.getfield 12, 3) := by decide +kernel
theorem nD_X1_clear_4 : decode nC_X1_clear 4 = .ok (.invokevirtual 25, 3) := by decide +kernel
theorem nD_X1_clear_7 : decode nC_X1_clear 7 = .ok (.aload_n 0, 1) := by decide +kernel
theorem nD_X1_clear_8 : decode nC_X1_clear 8 = .ok (.getfield 18, 3) := by decide +kernel
theorem nD_X1_clear_11 : decode nC_X1_clear 11 = .ok (.iconst 0, 1) := by decide +kernel
theorem nD_X1_clear_12 : decode nC_X1_clear 12 = .ok (.invokestatic 28, 3) := by decide +kernel
theorem nD_X1_clear_15 : decode nC_X1_clear 15 = .ok (.aload_n 0, 1) := by decide +kernel
theorem nD_X1_clear_16 : decode nC_X1_clear 16 = .ok (.getfield 22, 3) := by decide +kernel
theorem nD_X1_clear_19 : decode nC_X1_clear 19 = .ok (.iconst 0, 1) := by decide +kernel
theorem nD_X1_clear_20 : decode nC_X1_clear 20 = .ok (.invokestatic 28, 3) := by decide +kernel
theorem nD_X1_clear_23 : decode nC_X1_clear 23 = .ok (.aload_n 0, 1) := by decide +kernel
theorem nD_X1_clear_24 : decode nC_X1_clear 24 = .ok (.iconst 0, 1) := by decide +kernel
theorem nD_X1_clear_25 : decode nC_X1_clear 25 = .ok (.putfield 34, 3) := by decide +kernel
theorem nD_X1_clear_28 : decode nC_X1_clear 28 = .ok (.return_, 1) := by decide +kernel
theorem nD_X3_clear_0 : decode nC_X3_clear 0 = .ok (.aload_n 0, 1) := by decide +kernel
theorem nD_X3_clear_1 : decode nC_X3_clear 1 = .ok (.getfield 15, 3) := by decide +kernel
theorem nD_X3_clear_4 : decode nC_X3_clear 4 = .ok (.iconst 0, 1) := by decide +kernel
theorem nD_X3_clear_5 : decode nC_X3_clear 5 = .ok (.invokestatic 19, 3) := by decide +kernel
theorem nD_X3_clear_8 : decode nC_X3_clear 8 = .ok (.aload_n 0, 1) := by decide +kernel
theorem nD_X3_clear_9 : decode nC_X3_clear 9 = .ok (.iconst 0, 1) := by decide +kernel
theorem nD_X3_clear_10 : decode nC_X3_clear 10 = .ok (.putfield 25, 3) := by decide +kernel
theorem nD_X3_clear_13 : decode nC_X3_clear 13 = .ok (.return_, 1) := by decide +kernel
theorem nD_X5_lengthenList_0 : decode nC_X5_lengthenList 0 = .ok (.aload_n 0, 1) := by decide +kernel
theorem nD_X5_lengthenList_1 : decode nC_X5_lengthenList 1 = .ok (.getfield 55, 3) := by decide +kernel
theorem nD_X5_lengthenList_4 : decode nC_X5_lengthenList 4 = .ok (.iload_n 1, 1) := by decide +kernel
theorem nD_X5_lengthenList_5 : decode nC_X5_lengthenList 5 = .ok (.iconst (-1), 1) := by decide +kernel
theorem nD_X5_lengthenList_6 : decode nC_X5_lengthenList 6 = .ok (.ixor, 1) := by decide +kernel
theorem nD_X5_lengthenList_7 : decode nC_X5_lengthenList 7 = .ok (.iand, 1) := by decide +kernel
theorem nD_X5_lengthenList_8 : decode nC_X5_lengthenList 8 = .ok (.ifCond .ne 9, 3) := by decide +kernel
theorem nD_X5_lengthenList_11 : decode nC_X5_lengthenList 11 = .ok (.aload_n 0, 1) := by decide +kernel
theorem nD_X5_lengthenList_12 : decode nC_X5_lengthenList 12 = .ok (.iload_n 1, 1) := by decide +kernel
theorem nD_X5_lengthenList_13 : decode nC_X5_lengthenList 13 = .ok (.lload_n 2, 1) := by decide +kernel
theorem nD_X5_lengthenList_14 : decode nC_X5_lengthenList 14 = .ok (.invokevirtual 157, 3) := by decide +kernel
theorem nD_X5_lengthenList_17 : decode nC_X5_lengthenList 17 = .ok (.iload 4, 2) := by decide +kernel
theorem nD_X5_lengthenList_19 : decode nC_X5_lengthenList 19 = .ok (.bipush 8, 2) := by decide +kernel
theorem nD_X5_lengthenList_21 : decode nC_X5_lengthenList 21 = .ok (.if_icmp .lt 4, 3) := by decide +kernel
theorem nD_X5_lengthenList_24 : decode nC_X5_lengthenList 24 = .ok (.return_, 1) := by decide +kernel
theorem nD_X5_lengthenList_25 : decode nC_X5_lengthenList 25 = .ok (.iconst 0, 1) := by decide +kernel
theorem nD_X5_lengthenList_26 : decode nC_X5_lengthenList 26 = .ok (.istore 5, 2) := by decide +kernel
theorem nD_X5_lengthenList_28 : decode nC_X5_lengthenList 28 = .ok (.iload 5, 2) := by decide +kernel
theorem nD_X5_lengthenList_30 : decode nC_X5_lengthenList 30 = .ok (.aload_n 0, 1) := by decide +kernel
theorem nD_X5_lengthenList_31 : decode nC_X5_lengthenList 31 = .ok (.getfield 51, 3) := by decide +kernel
theorem nD_X5_lengthenList_34 : decode nC_X5_lengthenList 34 = .ok (.if_icmp .ge 29, 3) := by decide +kernel
theorem nD_X5_lengthenList_37 : decode nC_X5_lengthenList 37 = .ok (.aload_n 0, 1) := by decide +kernel
theorem nD_X5_lengthenList_38 : decode nC_X5_lengthenList 38 = .ok (.iload 5, 2) := by decide +kernel
theorem nD_X5_lengthenList_40 : decode nC_X5_lengthenList 40 = .ok (.iload_n 1, 1) := by decide +kernel
theorem nD_X5_lengthenList_41 : decode nC_X5_lengthenList 41 = .ok (.invokevirtual 161, 3) := by decide +kernel
theorem nD_X5_lengthenList_44 : decode nC_X5_lengthenList 44 = .ok (.ifCond .eq 13, 3) := by decide +kernel
theorem nD_X5_lengthenList_47 : decode nC_X5_lengthenList 47 = .ok (.aload_n 0, 1) := by decide +kernel
theorem nD_X5_lengthenList_48 : decode nC_X5_lengthenList 48 = .ok (.iload 5, 2) := by decide +kernel
theorem nD_X5_lengthenList_50 : decode nC_X5_lengthenList 50 = .ok (.iload_n 1, 1) := by decide +kernel
theorem nD_X5_lengthenList_51 : decode nC_X5_lengthenList 51 = .ok (.lload_n 2, 1) := by decide +kernel
theorem nD_X5_lengthenList_52 : decode nC_X5_lengthenList 52 = .ok (.iload 4, 2) := by decide +kernel
theorem nD_X5_lengthenList_54 : decode nC_X5_lengthenList 54 = .ok (.invokevirtual 164, 3) := by decide +kernel
theorem nD_X5_lengthenList_57 : decode nC_X5_lengthenList 57 = .ok (.iinc 5 1, 3) := by decide +kernel
theorem nD_X5_lengthenList_60 : decode nC_X5_lengthenList 60 = .ok (.goto (-32), 3) := by decide +kernel
theorem nD_X5_lengthenList_63 : decode nC_X5_lengthenList 63 = .ok (.return_, 1) := by decide +kernel
theorem nD_X5_noteExplanation_0 : decode nC_X5_noteExplanation 0 = .ok (.aload_n 0, 1) := by decide +kernel
theorem nD_X5_noteExplanation_1 : decode nC_X5_noteExplanation 1 = .ok (.getfield 32, 3) := by decide +kernel
theorem nD_X5_noteExplanation_4 : decode nC_X5_noteExplanation 4 = .ok (.lload_n 2, 1) := by decide +kernel
theorem nD_X5_noteExplanation_5 : decode nC_X5_noteExplanation 5 = .ok (.invokevirtual 182, 3) := by decide +kernel
theorem nD_X5_noteExplanation_8 : decode nC_X5_noteExplanation 8 = .ok (.iconst 0, 1) := by decide +kernel
theorem nD_X5_noteExplanation_9 : decode nC_X5_noteExplanation 9 = .ok (.istore 4, 2) := by decide +kernel
theorem nD_X5_noteExplanation_11 : decode nC_X5_noteExplanation 11 = .ok (.iload 4, 2) := by decide +kernel
theorem nD_X5_noteExplanation_13 : decode nC_X5_noteExplanation 13 = .ok (.iconst 3, 1) := by decide +kernel
theorem nD_X5_noteExplanation_14 : decode nC_X5_noteExplanation 14 = .ok (.if_icmp .ge 49, 3) := by decide +kernel
theorem nD_X5_noteExplanation_17 : decode nC_X5_noteExplanation 17 = .ok (.aload_n 0, 1) := by decide +kernel
theorem nD_X5_noteExplanation_18 : decode nC_X5_noteExplanation 18 = .ok (.getfield 22, 3) := by decide +kernel
theorem nD_X5_noteExplanation_21 : decode nC_X5_noteExplanation 21 = .ok (.iload 4, 2) := by decide +kernel
theorem nD_X5_noteExplanation_23 : decode nC_X5_noteExplanation 23 = .ok (.iaload, 1) := by decide +kernel
theorem nD_X5_noteExplanation_24 : decode nC_X5_noteExplanation 24 = .ok (.istore 5, 2) := by decide +kernel
theorem nD_X5_noteExplanation_26 : decode nC_X5_noteExplanation 26 = .ok (.iload 5, 2) := by decide +kernel
theorem nD_X5_noteExplanation_28 : decode nC_X5_noteExplanation 28 = .ok (.iconst (-1), 1) := by decide +kernel
theorem nD_X5_noteExplanation_29 : decode nC_X5_noteExplanation 29 = .ok (.if_icmp .eq 28, 3) := by decide +kernel
theorem nD_X5_noteExplanation_32 : decode nC_X5_noteExplanation 32 = .ok (.iload_n 1, 1) := by decide +kernel
theorem nD_X5_noteExplanation_33 : decode nC_X5_noteExplanation 33 = .ok (.iload 5, 2) := by decide +kernel
theorem nD_X5_noteExplanation_35 : decode nC_X5_noteExplanation 35 = .ok (.invokestatic 168, 3) := by decide +kernel
theorem nD_X5_noteExplanation_38 : decode nC_X5_noteExplanation 38 = .ok (.ifCond .eq 19, 3) := by decide +kernel
theorem nD_X5_noteExplanation_41 : decode nC_X5_noteExplanation 41 = .ok (.aload_n 0, 1) := by decide +kernel
theorem nD_X5_noteExplanation_42 : decode nC_X5_noteExplanation 42 = .ok (.getfield 32, 3) := by decide +kernel
theorem nD_X5_noteExplanation_45 : decode nC_X5_noteExplanation 45 = .ok (.iload 4, 2) := by decide +kernel
theorem nD_X5_noteExplanation_47 : decode nC_X5_noteExplanation 47 = .ok (.aload_n 0, 1) := by decide +kernel
theorem nD_X5_noteExplanation_48 : decode nC_X5_noteExplanation 48 = .ok (.getfield 26, 3) := by decide +kernel
theorem nD_X5_noteExplanation_51 : decode nC_X5_noteExplanation 51 = .ok (.iload 5, 2) := by decide +kernel
theorem nD_X5_noteExplanation_53 : decode nC_X5_noteExplanation 53 = .ok (.iaload, 1) := by decide +kernel
theorem nD_X5_noteExplanation_54 : decode nC_X5_noteExplanation 54 = .ok (.invokevirtual 186, 3) := by decide +kernel
theorem nD_X5_noteExplanation_57 : decode nC_X5_noteExplanation 57 = .ok (.iinc 4 1, 3) := by decide +kernel
theorem nD_X5_noteExplanation_60 : decode nC_X5_noteExplanation 60 = .ok (.goto (-49), 3) := by decide +kernel
theorem nD_X5_noteExplanation_63 : decode nC_X5_noteExplanation 63 = .ok (.return_, 1) := by decide +kernel
theorem nD_X1_addExplanation_0 : decode nC_X1_addExplanation 0 = .ok (.aload_n 0, 1) := by decide +kernel
theorem nD_X1_addExplanation_1 : decode nC_X1_addExplanation 1 = .ok (.dup, 1) := by decide +kernel
theorem nD_X1_addExplanation_2 : decode nC_X1_addExplanation 2 = .ok (.getfield 34, 3) := by decide +kernel
theorem nD_X1_addExplanation_5 : decode nC_X1_addExplanation 5 = .ok (.iconst 1, 1) := by decide +kernel
theorem nD_X1_addExplanation_6 : decode nC_X1_addExplanation 6 = .ok (.iadd, 1) := by decide +kernel
theorem nD_X1_addExplanation_7 : decode nC_X1_addExplanation 7 = .ok (.putfield 34, 3) := by decide +kernel
theorem nD_X1_addExplanation_10 : decode nC_X1_addExplanation 10 = .ok (.aload_n 0, 1) := by decide +kernel
theorem nD_X1_addExplanation_11 : decode nC_X1_addExplanation 11 = .ok (.getfield 12, 3) := by decide +kernel
theorem nD_X1_addExplanation_14 : decode nC_X1_addExplanation 14 = .ok (.lload_n 1, 1) := by decide +kernel
theorem nD_X1_addExplanation_15 : decode nC_X1_addExplanation 15 = .ok (.invokevirtual 38, 3) := by decide +kernel
theorem nD_X1_addExplanation_18 : decode nC_X1_addExplanation 18 = .ok (.return_, 1) := by decide +kernel
theorem nD_X3_add_0 : decode nC_X3_add 0 = .ok (.lload_n 1, 1) := by decide +kernel
theorem nD_X3_add_1 : decode nC_X3_add 1 = .ok (.ldc2_w 29, 3) := by decide +kernel
theorem nD_X3_add_4 : decode nC_X3_add 4 = .ok (.lmul, 1) := by decide +kernel
theorem nD_X3_add_5 : decode nC_X3_add 5 = .ok (.bipush 54, 2) := by decide +kernel
theorem nD_X3_add_7 : decode nC_X3_add 7 = .ok (.lushr, 1) := by decide +kernel
theorem nD_X3_add_8 : decode nC_X3_add 8 = .ok (.l2i, 1) := by decide +kernel
theorem nD_X3_add_9 : decode nC_X3_add 9 = .ok (.istore_n 3, 1) := by decide +kernel
theorem nD_X3_add_10 : decode nC_X3_add 10 = .ok (.iconst 0, 1) := by decide +kernel
theorem nD_X3_add_11 : decode nC_X3_add 11 = .ok (.istore 4, 2) := by decide +kernel
theorem nD_X3_add_13 : decode nC_X3_add 13 = .ok (.iload 4, 2) := by decide +kernel
theorem nD_X3_add_15 : decode nC_X3_add 15 = .ok (.sipush 1024, 3) := by decide +kernel
theorem nD_X3_add_18 : decode nC_X3_add 18 = .ok (.if_icmp .ge 91, 3) := by decide +kernel
theorem nD_X3_add_21 : decode nC_X3_add 21 = .ok (.aload_n 0, 1) := by decide +kernel
theorem nD_X3_add_22 : decode nC_X3_add 22 = .ok (.getfield 15, 3) := by decide +kernel
theorem nD_X3_add_25 : decode nC_X3_add 25 = .ok (.iload_n 3, 1) := by decide +kernel
theorem nD_X3_add_26 : decode nC_X3_add 26 = .ok (.iaload, 1) := by decide +kernel
theorem nD_X3_add_27 : decode nC_X3_add 27 = .ok (.istore 5, 2) := by decide +kernel
theorem nD_X3_add_29 : decode nC_X3_add 29 = .ok (.iload 5, 2) := by decide +kernel
theorem nD_X3_add_31 : decode nC_X3_add 31 = .ok (.ifCond .eq 18, 3) := by decide +kernel
theorem nD_X3_add_34 : decode nC_X3_add 34 = .ok (.aload_n 0, 1) := by decide +kernel
theorem nD_X3_add_35 : decode nC_X3_add 35 = .ok (.getfield 11, 3) := by decide +kernel
theorem nD_X3_add_38 : decode nC_X3_add 38 = .ok (.iload 5, 2) := by decide +kernel
theorem nD_X3_add_40 : decode nC_X3_add 40 = .ok (.iconst 1, 1) := by decide +kernel
theorem nD_X3_add_41 : decode nC_X3_add 41 = .ok (.isub, 1) := by decide +kernel
theorem nD_X3_add_42 : decode nC_X3_add 42 = .ok (.laload, 1) := by decide +kernel
theorem nD_X3_add_43 : decode nC_X3_add 43 = .ok (.lload_n 1, 1) := by decide +kernel
theorem nD_X3_add_44 : decode nC_X3_add 44 = .ok (.lcmp, 1) := by decide +kernel
theorem nD_X3_add_45 : decode nC_X3_add 45 = .ok (.ifCond .ne 4, 3) := by decide +kernel
theorem nD_X3_add_48 : decode nC_X3_add 48 = .ok (.return_, 1) := by decide +kernel
theorem nD_X3_add_49 : decode nC_X3_add 49 = .ok (.iload 5, 2) := by decide +kernel
theorem nD_X3_add_51 : decode nC_X3_add 51 = .ok (.ifCond .ne 44, 3) := by decide +kernel
theorem nD_X3_add_54 : decode nC_X3_add 54 = .ok (.aload_n 0, 1) := by decide +kernel
theorem nD_X3_add_55 : decode nC_X3_add 55 = .ok (.getfield 25, 3) := by decide +kernel
theorem nD_X3_add_58 : decode nC_X3_add 58 = .ok (.sipush 680, 3) := by decide +kernel
theorem nD_X3_add_61 : decode nC_X3_add 61 = .ok (.if_icmp .ge 34, 3) := by decide +kernel
theorem nD_X3_add_64 : decode nC_X3_add 64 = .ok (.aload_n 0, 1) := by decide +kernel
theorem nD_X3_add_65 : decode nC_X3_add 65 = .ok (.getfield 11, 3) := by decide +kernel
theorem nD_X3_add_68 : decode nC_X3_add 68 = .ok (.aload_n 0, 1) := by decide +kernel
theorem nD_X3_add_69 : decode nC_X3_add 69 = .ok (.getfield 25, 3) := by decide +kernel
theorem nD_X3_add_72 : decode nC_X3_add 72 = .ok (.lload_n 1, 1) := by decide +kernel
theorem nD_X3_add_73 : decode nC_X3_add 73 = .ok (.lastore, 1) := by decide +kernel
theorem nD_X3_add_74 : decode nC_X3_add 74 = .ok (.aload_n 0, 1) := by decide +kernel
theorem nD_X3_add_75 : decode nC_X3_add 75 = .ok (.dup, 1) := by decide +kernel
theorem nD_X3_add_76 : decode nC_X3_add 76 = .ok (.getfield 25, 3) := by decide +kernel
theorem nD_X3_add_79 : decode nC_X3_add 79 = .ok (.iconst 1, 1) := by decide +kernel
theorem nD_X3_add_80 : decode nC_X3_add 80 = .ok (.iadd, 1) := by decide +kernel
theorem nD_X3_add_81 : decode nC_X3_add 81 = .ok (.putfield 25, 3) := by decide +kernel
theorem nD_X3_add_84 : decode nC_X3_add 84 = .ok (.aload_n 0, 1) := by decide +kernel
theorem nD_X3_add_85 : decode nC_X3_add 85 = .ok (.getfield 15, 3) := by decide +kernel
theorem nD_X3_add_88 : decode nC_X3_add 88 = .ok (.iload_n 3, 1) := by decide +kernel
theorem nD_X3_add_89 : decode nC_X3_add 89 = .ok (.aload_n 0, 1) := by decide +kernel
theorem nD_X3_add_90 : decode nC_X3_add 90 = .ok (.getfield 25, 3) := by decide +kernel
theorem nD_X3_add_93 : decode nC_X3_add 93 = .ok (.iastore, 1) := by decide +kernel
theorem nD_X3_add_94 : decode nC_X3_add 94 = .ok (.return_, 1) := by decide +kernel
theorem nD_X3_add_95 : decode nC_X3_add 95 = .ok (.iload_n 3, 1) := by decide +kernel
theorem nD_X3_add_96 : decode nC_X3_add 96 = .ok (.iconst 1, 1) := by decide +kernel
theorem nD_X3_add_97 : decode nC_X3_add 97 = .ok (.iadd, 1) := by decide +kernel
theorem nD_X3_add_98 : decode nC_X3_add 98 = .ok (.sipush 1024, 3) := by decide +kernel
theorem nD_X3_add_101 : decode nC_X3_add 101 = .ok (.irem, 1) := by decide +kernel
theorem nD_X3_add_102 : decode nC_X3_add 102 = .ok (.istore_n 3, 1) := by decide +kernel
theorem nD_X3_add_103 : decode nC_X3_add 103 = .ok (.iinc 4 1, 3) := by decide +kernel
theorem nD_X3_add_106 : decode nC_X3_add 106 = .ok (.goto (-93), 3) := by decide +kernel
theorem nD_X3_add_109 : decode nC_X3_add 109 = .ok (.return_, 1) := by decide +kernel
theorem nD_X5_isIn_0 : decode nC_X5_isIn 0 = .ok (.iload_n 0, 1) := by decide +kernel
theorem nD_X5_isIn_1 : decode nC_X5_isIn 1 = .ok (.iload_n 1, 1) := by decide +kernel
theorem nD_X5_isIn_2 : decode nC_X5_isIn 2 = .ok (.ishr, 1) := by decide +kernel
theorem nD_X5_isIn_3 : decode nC_X5_isIn 3 = .ok (.iconst 1, 1) := by decide +kernel
theorem nD_X5_isIn_4 : decode nC_X5_isIn 4 = .ok (.iand, 1) := by decide +kernel
theorem nD_X5_isIn_5 : decode nC_X5_isIn 5 = .ok (.ifCond .eq 7, 3) := by decide +kernel
theorem nD_X5_isIn_8 : decode nC_X5_isIn 8 = .ok (.iconst 1, 1) := by decide +kernel
theorem nD_X5_isIn_9 : decode nC_X5_isIn 9 = .ok (.goto 4, 3) := by decide +kernel
theorem nD_X5_isIn_12 : decode nC_X5_isIn 12 = .ok (.iconst 0, 1) := by decide +kernel
theorem nD_X5_isIn_13 : decode nC_X5_isIn 13 = .ok (.ireturn, 1) := by decide +kernel
theorem nD_X1_addReply_0 : decode nC_X1_addReply 0 = .ok (.aload_n 0, 1) := by decide +kernel
theorem nD_X1_addReply_1 : decode nC_X1_addReply 1 = .ok (.getfield 18, 3) := by decide +kernel
theorem nD_X1_addReply_4 : decode nC_X1_addReply 4 = .ok (.iload_n 1, 1) := by decide +kernel
theorem nD_X1_addReply_5 : decode nC_X1_addReply 5 = .ok (.dup2, 1) := by decide +kernel
theorem nD_X1_addReply_6 : decode nC_X1_addReply 6 = .ok (.iaload, 1) := by decide +kernel
theorem nD_X1_addReply_7 : decode nC_X1_addReply 7 = .ok (.iconst 1, 1) := by decide +kernel
theorem nD_X1_addReply_8 : decode nC_X1_addReply 8 = .ok (.iadd, 1) := by decide +kernel
theorem nD_X1_addReply_9 : decode nC_X1_addReply 9 = .ok (.iastore, 1) := by decide +kernel
theorem nD_X1_addReply_10 : decode nC_X1_addReply 10 = .ok (.aload_n 0, 1) := by decide +kernel
theorem nD_X1_addReply_11 : decode nC_X1_addReply 11 = .ok (.getfield 22, 3) := by decide +kernel
theorem nD_X1_addReply_14 : decode nC_X1_addReply 14 = .ok (.iload_n 1, 1) := by decide +kernel
theorem nD_X1_addReply_15 : decode nC_X1_addReply 15 = .ok (.dup2, 1) := by decide +kernel
theorem nD_X1_addReply_16 : decode nC_X1_addReply 16 = .ok (.iaload, 1) := by decide +kernel
theorem nD_X1_addReply_17 : decode nC_X1_addReply 17 = .ok (.iconst 1, 1) := by decide +kernel
theorem nD_X1_addReply_18 : decode nC_X1_addReply 18 = .ok (.iload_n 2, 1) := by decide +kernel
theorem nD_X1_addReply_19 : decode nC_X1_addReply 19 = .ok (.iconst (-1), 1) := by decide +kernel
theorem nD_X1_addReply_20 : decode nC_X1_addReply 20 = .ok (.isub, 1) := by decide +kernel
theorem nD_X1_addReply_21 : decode nC_X1_addReply 21 = .ok (.ishl, 1) := by decide +kernel
theorem nD_X1_addReply_22 : decode nC_X1_addReply 22 = .ok (.ior, 1) := by decide +kernel
theorem nD_X1_addReply_23 : decode nC_X1_addReply 23 = .ok (.iastore, 1) := by decide +kernel
theorem nD_X1_addReply_24 : decode nC_X1_addReply 24 = .ok (.return_, 1) := by decide +kernel
theorem nD_X5_mayStandNext_0 : decode nC_X5_mayStandNext 0 = .ok (.iload_n 2, 1) := by decide +kernel
theorem nD_X5_mayStandNext_1 : decode nC_X5_mayStandNext 1 = .ok (.aload_n 0, 1) := by decide +kernel
theorem nD_X5_mayStandNext_2 : decode nC_X5_mayStandNext 2 = .ok (.getfield 82, 3) := by decide +kernel
theorem nD_X5_mayStandNext_5 : decode nC_X5_mayStandNext 5 = .ok (.ior, 1) := by decide +kernel
theorem nD_X5_mayStandNext_6 : decode nC_X5_mayStandNext 6 = .ok (.iload_n 1, 1) := by decide +kernel
theorem nD_X5_mayStandNext_7 : decode nC_X5_mayStandNext 7 = .ok (.invokestatic 168, 3) := by decide +kernel
theorem nD_X5_mayStandNext_10 : decode nC_X5_mayStandNext 10 = .ok (.ifCond .ne 23, 3) := by decide +kernel
theorem nD_X5_mayStandNext_13 : decode nC_X5_mayStandNext 13 = .ok (.aload_n 0, 1) := by decide +kernel
theorem nD_X5_mayStandNext_14 : decode nC_X5_mayStandNext 14 = .ok (.getfield 18, 3) := by decide +kernel
theorem nD_X5_mayStandNext_17 : decode nC_X5_mayStandNext 17 = .ok (.iload_n 1, 1) := by decide +kernel
theorem nD_X5_mayStandNext_18 : decode nC_X5_mayStandNext 18 = .ok (.aaload, 1) := by decide +kernel
theorem nD_X5_mayStandNext_19 : decode nC_X5_mayStandNext 19 = .ok (.getfield 171, 3) := by decide +kernel
theorem nD_X5_mayStandNext_22 : decode nC_X5_mayStandNext 22 = .ok (.iload_n 2, 1) := by decide +kernel
theorem nD_X5_mayStandNext_23 : decode nC_X5_mayStandNext 23 = .ok (.iconst (-1), 1) := by decide +kernel
theorem nD_X5_mayStandNext_24 : decode nC_X5_mayStandNext 24 = .ok (.ixor, 1) := by decide +kernel
theorem nD_X5_mayStandNext_25 : decode nC_X5_mayStandNext 25 = .ok (.iand, 1) := by decide +kernel
theorem nD_X5_mayStandNext_26 : decode nC_X5_mayStandNext 26 = .ok (.ifCond .ne 7, 3) := by decide +kernel
theorem nD_X5_mayStandNext_29 : decode nC_X5_mayStandNext 29 = .ok (.iconst 1, 1) := by decide +kernel
theorem nD_X5_mayStandNext_30 : decode nC_X5_mayStandNext 30 = .ok (.goto 4, 3) := by decide +kernel
theorem nD_X5_mayStandNext_33 : decode nC_X5_mayStandNext 33 = .ok (.iconst 0, 1) := by decide +kernel
theorem nD_X5_mayStandNext_34 : decode nC_X5_mayStandNext 34 = .ok (.ireturn, 1) := by decide +kernel
theorem nD_X5_carryOut_0 : decode nC_X5_carryOut 0 = .ok (.aload_n 0, 1) := by decide +kernel
theorem nD_X5_carryOut_1 : decode nC_X5_carryOut 1 = .ok (.getfield 10, 3) := by decide +kernel
theorem nD_X5_carryOut_4 : decode nC_X5_carryOut 4 = .ok (.aload_n 0, 1) := by decide +kernel
theorem nD_X5_carryOut_5 : decode nC_X5_carryOut 5 = .ok (.getfield 18, 3) := by decide +kernel
theorem nD_X5_carryOut_8 : decode nC_X5_carryOut 8 = .ok (.iload_n 1, 1) := by decide +kernel
theorem nD_X5_carryOut_9 : decode nC_X5_carryOut 9 = .ok (.aaload, 1) := by decide +kernel
theorem nD_X5_carryOut_10 : decode nC_X5_carryOut 10 = .ok (.lload_n 3, 1) := by decide +kernel
theorem nD_X5_carryOut_11 : decode nC_X5_carryOut 11 = .ok (.invokevirtual 174, 3) := by decide +kernel
theorem nD_X5_carryOut_14 : decode nC_X5_carryOut 14 = .ok (.istore 6, 2) := by decide +kernel
theorem nD_X5_carryOut_16 : decode nC_X5_carryOut 16 = .ok (.aload_n 0, 1) := by decide +kernel
theorem nD_X5_carryOut_17 : decode nC_X5_carryOut 17 = .ok (.getfield 55, 3) := by decide +kernel
theorem nD_X5_carryOut_20 : decode nC_X5_carryOut 20 = .ok (.iload_n 1, 1) := by decide +kernel
theorem nD_X5_carryOut_21 : decode nC_X5_carryOut 21 = .ok (.invokestatic 168, 3) := by decide +kernel
theorem nD_X5_carryOut_24 : decode nC_X5_carryOut 24 = .ok (.ifCond .eq 18, 3) := by decide +kernel
theorem nD_X5_carryOut_27 : decode nC_X5_carryOut 27 = .ok (.iload 6, 2) := by decide +kernel
theorem nD_X5_carryOut_29 : decode nC_X5_carryOut 29 = .ok (.aload_n 0, 1) := by decide +kernel
theorem nD_X5_carryOut_30 : decode nC_X5_carryOut 30 = .ok (.getfield 18, 3) := by decide +kernel
theorem nD_X5_carryOut_33 : decode nC_X5_carryOut 33 = .ok (.iload_n 1, 1) := by decide +kernel
theorem nD_X5_carryOut_34 : decode nC_X5_carryOut 34 = .ok (.aaload, 1) := by decide +kernel
theorem nD_X5_carryOut_35 : decode nC_X5_carryOut 35 = .ok (.getfield 145, 3) := by decide +kernel
theorem nD_X5_carryOut_38 : decode nC_X5_carryOut 38 = .ok (.if_icmp .eq 4, 3) := by decide +kernel
theorem nD_X5_carryOut_41 : decode nC_X5_carryOut 41 = .ok (.return_, 1) := by decide +kernel
theorem nD_X5_carryOut_42 : decode nC_X5_carryOut 42 = .ok (.aload_n 0, 1) := by decide +kernel
theorem nD_X5_carryOut_43 : decode nC_X5_carryOut 43 = .ok (.getfield 26, 3) := by decide +kernel
theorem nD_X5_carryOut_46 : decode nC_X5_carryOut 46 = .ok (.iload_n 1, 1) := by decide +kernel
theorem nD_X5_carryOut_47 : decode nC_X5_carryOut 47 = .ok (.iload 6, 2) := by decide +kernel
theorem nD_X5_carryOut_49 : decode nC_X5_carryOut 49 = .ok (.iastore, 1) := by decide +kernel
theorem nD_X5_carryOut_50 : decode nC_X5_carryOut 50 = .ok (.aload_n 0, 1) := by decide +kernel
theorem nD_X5_carryOut_51 : decode nC_X5_carryOut 51 = .ok (.iload_n 2, 1) := by decide +kernel
theorem nD_X5_carryOut_52 : decode nC_X5_carryOut 52 = .ok (.iconst 1, 1) := by decide +kernel
theorem nD_X5_carryOut_53 : decode nC_X5_carryOut 53 = .ok (.iload_n 1, 1) := by decide +kernel
theorem nD_X5_carryOut_54 : decode nC_X5_carryOut 54 = .ok (.ishl, 1) := by decide +kernel
theorem nD_X5_carryOut_55 : decode nC_X5_carryOut 55 = .ok (.ior, 1) := by decide +kernel
theorem nD_X5_carryOut_56 : decode nC_X5_carryOut 56 = .ok (.aload_n 0, 1) := by decide +kernel
theorem nD_X5_carryOut_57 : decode nC_X5_carryOut 57 = .ok (.getfield 10, 3) := by decide +kernel
theorem nD_X5_carryOut_60 : decode nC_X5_carryOut 60 = .ok (.aload_n 0, 1) := by decide +kernel
theorem nD_X5_carryOut_61 : decode nC_X5_carryOut 61 = .ok (.getfield 18, 3) := by decide +kernel
theorem nD_X5_carryOut_64 : decode nC_X5_carryOut 64 = .ok (.iload_n 1, 1) := by decide +kernel
theorem nD_X5_carryOut_65 : decode nC_X5_carryOut 65 = .ok (.aaload, 1) := by decide +kernel
theorem nD_X5_carryOut_66 : decode nC_X5_carryOut 66 = .ok (.lload_n 3, 1) := by decide +kernel
theorem nD_X5_carryOut_67 : decode nC_X5_carryOut 67 = .ok (.invokevirtual 178, 3) := by decide +kernel
theorem nD_X5_carryOut_70 : decode nC_X5_carryOut 70 = .ok (.iload 5, 2) := by decide +kernel
theorem nD_X5_carryOut_72 : decode nC_X5_carryOut 72 = .ok (.iconst 1, 1) := by decide +kernel
theorem nD_X5_carryOut_73 : decode nC_X5_carryOut 73 = .ok (.iadd, 1) := by decide +kernel
theorem nD_X5_carryOut_74 : decode nC_X5_carryOut 74 = .ok (.invokevirtual 153, 3) := by decide +kernel
theorem nD_X5_carryOut_77 : decode nC_X5_carryOut 77 = .ok (.return_, 1) := by decide +kernel
theorem nD_X4_replyTo_0 : decode nC_X4_replyTo 0 = .ok (.aload_n 1, 1) := by decide +kernel
theorem nD_X4_replyTo_1 : decode nC_X4_replyTo 1 = .ok (.getfield 27, 3) := by decide +kernel
theorem nD_X4_replyTo_4 : decode nC_X4_replyTo 4 = .ok (.ifCond .eq 17, 3) := by decide +kernel
theorem nD_X4_replyTo_7 : decode nC_X4_replyTo 7 = .ok (.aload_n 0, 1) := by decide +kernel
theorem nD_X4_replyTo_8 : decode nC_X4_replyTo 8 = .ok (.lload_n 2, 1) := by decide +kernel
theorem nD_X4_replyTo_9 : decode nC_X4_replyTo 9 = .ok (.invokevirtual 33, 3) := by decide +kernel
theorem nD_X4_replyTo_12 : decode nC_X4_replyTo 12 = .ok (.ifCond .eq 7, 3) := by decide +kernel
theorem nD_X4_replyTo_15 : decode nC_X4_replyTo 15 = .ok (.iconst 1, 1) := by decide +kernel
theorem nD_X4_replyTo_16 : decode nC_X4_replyTo 16 = .ok (.goto 4, 3) := by decide +kernel
theorem nD_X4_replyTo_19 : decode nC_X4_replyTo 19 = .ok (.iconst 0, 1) := by decide +kernel
theorem nD_X4_replyTo_20 : decode nC_X4_replyTo 20 = .ok (.ireturn, 1) := by decide +kernel
theorem nD_X4_replyTo_21 : decode nC_X4_replyTo 21 = .ok (.lload_n 2, 1) := by decide +kernel
theorem nD_X4_replyTo_22 : decode nC_X4_replyTo 22 = .ok (.lconst 0, 1) := by decide +kernel
theorem nD_X4_replyTo_23 : decode nC_X4_replyTo 23 = .ok (.lcmp, 1) := by decide +kernel
theorem nD_X4_replyTo_24 : decode nC_X4_replyTo 24 = .ok (.ifCond .ne 5, 3) := by decide +kernel
theorem nD_X4_replyTo_27 : decode nC_X4_replyTo 27 = .ok (.iconst (-1), 1) := by decide +kernel
theorem nD_X4_replyTo_28 : decode nC_X4_replyTo 28 = .ok (.ireturn, 1) := by decide +kernel
theorem nD_X4_replyTo_29 : decode nC_X4_replyTo 29 = .ok (.lload_n 2, 1) := by decide +kernel
theorem nD_X4_replyTo_30 : decode nC_X4_replyTo 30 = .ok (.aload_n 0, 1) := by decide +kernel
theorem nD_X4_replyTo_31 : decode nC_X4_replyTo 31 = .ok (.aload_n 1, 1) := by decide +kernel
theorem nD_X4_replyTo_32 : decode nC_X4_replyTo 32 = .ok (.getfield 39, 3) := by decide +kernel
theorem nD_X4_replyTo_35 : decode nC_X4_replyTo 35 = .ok (.invokevirtual 42, 3) := by decide +kernel
theorem nD_X4_replyTo_38 : decode nC_X4_replyTo 38 = .ok (.ifCond .eq 12, 3) := by decide +kernel
theorem nD_X4_replyTo_41 : decode nC_X4_replyTo 41 = .ok (.lload_n 2, 1) := by decide +kernel
theorem nD_X4_replyTo_42 : decode nC_X4_replyTo 42 = .ok (.invokestatic 46, 3) := by decide +kernel
theorem nD_X4_replyTo_45 : decode nC_X4_replyTo 45 = .ok (.iconst 1, 1) := by decide +kernel
theorem nD_X4_replyTo_46 : decode nC_X4_replyTo 46 = .ok (.isub, 1) := by decide +kernel
theorem nD_X4_replyTo_47 : decode nC_X4_replyTo 47 = .ok (.goto 4, 3) := by decide +kernel
theorem nD_X4_replyTo_50 : decode nC_X4_replyTo 50 = .ok (.iconst 0, 1) := by decide +kernel
theorem nD_X4_replyTo_51 : decode nC_X4_replyTo 51 = .ok (.invokestatic 50, 3) := by decide +kernel
theorem nD_X4_replyTo_54 : decode nC_X4_replyTo 54 = .ok (.ireturn, 1) := by decide +kernel
theorem nD_X4_hasRoom_0 : decode nC_X4_hasRoom 0 = .ok (.lload_n 1, 1) := by decide +kernel
theorem nD_X4_hasRoom_1 : decode nC_X4_hasRoom 1 = .ok (.invokestatic 46, 3) := by decide +kernel
theorem nD_X4_hasRoom_4 : decode nC_X4_hasRoom 4 = .ok (.aload_n 0, 1) := by decide +kernel
theorem nD_X4_hasRoom_5 : decode nC_X4_hasRoom 5 = .ok (.getfield 24, 3) := by decide +kernel
theorem nD_X4_hasRoom_8 : decode nC_X4_hasRoom 8 = .ok (.if_icmp .ge 7, 3) := by decide +kernel
theorem nD_X4_hasRoom_11 : decode nC_X4_hasRoom 11 = .ok (.iconst 1, 1) := by decide +kernel
theorem nD_X4_hasRoom_12 : decode nC_X4_hasRoom 12 = .ok (.goto 4, 3) := by decide +kernel
theorem nD_X4_hasRoom_15 : decode nC_X4_hasRoom 15 = .ok (.iconst 0, 1) := by decide +kernel
theorem nD_X4_hasRoom_16 : decode nC_X4_hasRoom 16 = .ok (.ireturn, 1) := by decide +kernel
theorem nD_X2_length_0 : decode nC_X2_length 0 = .ok (.lload_n 0, 1) := by decide +kernel
theorem nD_X2_length_1 : decode nC_X2_length 1 = .ok (.bipush 32, 2) := by decide +kernel
theorem nD_X2_length_3 : decode nC_X2_length 3 = .ok (.lushr, 1) := by decide +kernel
theorem nD_X2_length_4 : decode nC_X2_length 4 = .ok (.l2i, 1) := by decide +kernel
theorem nD_X2_length_5 : decode nC_X2_length 5 = .ok (.ireturn, 1) := by decide +kernel
theorem nD_X4_takesBack_0 : decode nC_X4_takesBack 0 = .ok (.aload_n 0, 1) := by decide +kernel
theorem nD_X4_takesBack_1 : decode nC_X4_takesBack 1 = .ok (.getfield 11, 3) := by decide +kernel
theorem nD_X4_takesBack_4 : decode nC_X4_takesBack 4 = .ok (.iconst 1, 1) := by decide +kernel
theorem nD_X4_takesBack_5 : decode nC_X4_takesBack 5 = .ok (.if_icmp .eq 15, 3) := by decide +kernel
theorem nD_X4_takesBack_8 : decode nC_X4_takesBack 8 = .ok (.aload_n 0, 1) := by decide +kernel
theorem nD_X4_takesBack_9 : decode nC_X4_takesBack 9 = .ok (.getfield 11, 3) := by decide +kernel
theorem nD_X4_takesBack_12 : decode nC_X4_takesBack 12 = .ok (.iconst 2, 1) := by decide +kernel
theorem nD_X4_takesBack_13 : decode nC_X4_takesBack 13 = .ok (.if_icmp .ne 11, 3) := by decide +kernel
theorem nD_X4_takesBack_16 : decode nC_X4_takesBack 16 = .ok (.iload_n 1, 1) := by decide +kernel
theorem nD_X4_takesBack_17 : decode nC_X4_takesBack 17 = .ok (.ifCond .ne 7, 3) := by decide +kernel
theorem nD_X4_takesBack_20 : decode nC_X4_takesBack 20 = .ok (.iconst 1, 1) := by decide +kernel
theorem nD_X4_takesBack_21 : decode nC_X4_takesBack 21 = .ok (.goto 4, 3) := by decide +kernel
theorem nD_X4_takesBack_24 : decode nC_X4_takesBack 24 = .ok (.iconst 0, 1) := by decide +kernel
theorem nD_X4_takesBack_25 : decode nC_X4_takesBack 25 = .ok (.ireturn, 1) := by decide +kernel
theorem nD_X2_valueAt_0 : decode nC_X2_valueAt 0 = .ok (.lload_n 0, 1) := by decide +kernel
theorem nD_X2_valueAt_1 : decode nC_X2_valueAt 1 = .ok (.iconst 4, 1) := by decide +kernel
theorem nD_X2_valueAt_2 : decode nC_X2_valueAt 2 = .ok (.iload_n 2, 1) := by decide +kernel
theorem nD_X2_valueAt_3 : decode nC_X2_valueAt 3 = .ok (.imul, 1) := by decide +kernel
theorem nD_X2_valueAt_4 : decode nC_X2_valueAt 4 = .ok (.lushr, 1) := by decide +kernel
theorem nD_X2_valueAt_5 : decode nC_X2_valueAt 5 = .ok (.l2i, 1) := by decide +kernel
theorem nD_X2_valueAt_6 : decode nC_X2_valueAt 6 = .ok (.bipush 15, 2) := by decide +kernel
theorem nD_X2_valueAt_8 : decode nC_X2_valueAt 8 = .ok (.iand, 1) := by decide +kernel
theorem nD_X2_valueAt_9 : decode nC_X2_valueAt 9 = .ok (.ireturn, 1) := by decide +kernel
theorem nD_X4_rowAfter_0 : decode nC_X4_rowAfter 0 = .ok (.aload_n 1, 1) := by decide +kernel
theorem nD_X4_rowAfter_1 : decode nC_X4_rowAfter 1 = .ok (.getfield 27, 3) := by decide +kernel
theorem nD_X4_rowAfter_4 : decode nC_X4_rowAfter 4 = .ok (.ifCond .eq 24, 3) := by decide +kernel
theorem nD_X4_rowAfter_7 : decode nC_X4_rowAfter 7 = .ok (.aload_n 0, 1) := by decide +kernel
theorem nD_X4_rowAfter_8 : decode nC_X4_rowAfter 8 = .ok (.lload_n 2, 1) := by decide +kernel
theorem nD_X4_rowAfter_9 : decode nC_X4_rowAfter 9 = .ok (.invokevirtual 33, 3) := by decide +kernel
theorem nD_X4_rowAfter_12 : decode nC_X4_rowAfter 12 = .ok (.ifCond .eq 14, 3) := by decide +kernel
theorem nD_X4_rowAfter_15 : decode nC_X4_rowAfter 15 = .ok (.lload_n 2, 1) := by decide +kernel
theorem nD_X4_rowAfter_16 : decode nC_X4_rowAfter 16 = .ok (.aload_n 1, 1) := by decide +kernel
theorem nD_X4_rowAfter_17 : decode nC_X4_rowAfter 17 = .ok (.getfield 54, 3) := by decide +kernel
theorem nD_X4_rowAfter_20 : decode nC_X4_rowAfter 20 = .ok (.invokestatic 57, 3) := by decide +kernel
theorem nD_X4_rowAfter_23 : decode nC_X4_rowAfter 23 = .ok (.goto 4, 3) := by decide +kernel
theorem nD_X4_rowAfter_26 : decode nC_X4_rowAfter 26 = .ok (.lload_n 2, 1) := by decide +kernel
theorem nD_X4_rowAfter_27 : decode nC_X4_rowAfter 27 = .ok (.lreturn, 1) := by decide +kernel
theorem nD_X4_rowAfter_28 : decode nC_X4_rowAfter 28 = .ok (.lload_n 2, 1) := by decide +kernel
theorem nD_X4_rowAfter_29 : decode nC_X4_rowAfter 29 = .ok (.lconst 0, 1) := by decide +kernel
theorem nD_X4_rowAfter_30 : decode nC_X4_rowAfter 30 = .ok (.lcmp, 1) := by decide +kernel
theorem nD_X4_rowAfter_31 : decode nC_X4_rowAfter 31 = .ok (.ifCond .ne 5, 3) := by decide +kernel
theorem nD_X4_rowAfter_34 : decode nC_X4_rowAfter 34 = .ok (.lload_n 2, 1) := by decide +kernel
theorem nD_X4_rowAfter_35 : decode nC_X4_rowAfter 35 = .ok (.lreturn, 1) := by decide +kernel
theorem nD_X4_rowAfter_36 : decode nC_X4_rowAfter 36 = .ok (.aload_n 0, 1) := by decide +kernel
theorem nD_X4_rowAfter_37 : decode nC_X4_rowAfter 37 = .ok (.aload_n 1, 1) := by decide +kernel
theorem nD_X4_rowAfter_38 : decode nC_X4_rowAfter 38 = .ok (.getfield 39, 3) := by decide +kernel
theorem nD_X4_rowAfter_41 : decode nC_X4_rowAfter 41 = .ok (.invokevirtual 42, 3) := by decide +kernel
theorem nD_X4_rowAfter_44 : decode nC_X4_rowAfter 44 = .ok (.ifCond .eq 10, 3) := by decide +kernel
theorem nD_X4_rowAfter_47 : decode nC_X4_rowAfter 47 = .ok (.lload_n 2, 1) := by decide +kernel
theorem nD_X4_rowAfter_48 : decode nC_X4_rowAfter 48 = .ok (.invokestatic 61, 3) := by decide +kernel
theorem nD_X4_rowAfter_51 : decode nC_X4_rowAfter 51 = .ok (.goto 7, 3) := by decide +kernel
theorem nD_X4_rowAfter_54 : decode nC_X4_rowAfter 54 = .ok (.lload_n 2, 1) := by decide +kernel
theorem nD_X4_rowAfter_55 : decode nC_X4_rowAfter 55 = .ok (.invokestatic 65, 3) := by decide +kernel
theorem nD_X4_rowAfter_58 : decode nC_X4_rowAfter 58 = .ok (.lreturn, 1) := by decide +kernel
theorem nD_X2_withBack_0 : decode nC_X2_withBack 0 = .ok (.lload_n 0, 1) := by decide +kernel
theorem nD_X2_withBack_1 : decode nC_X2_withBack 1 = .ok (.iload_n 2, 1) := by decide +kernel
theorem nD_X2_withBack_2 : decode nC_X2_withBack 2 = .ok (.i2l, 1) := by decide +kernel
theorem nD_X2_withBack_3 : decode nC_X2_withBack 3 = .ok (.iconst 4, 1) := by decide +kernel
theorem nD_X2_withBack_4 : decode nC_X2_withBack 4 = .ok (.lload_n 0, 1) := by decide +kernel
theorem nD_X2_withBack_5 : decode nC_X2_withBack 5 = .ok (.invokestatic 9, 3) := by decide +kernel
theorem nD_X2_withBack_8 : decode nC_X2_withBack 8 = .ok (.imul, 1) := by decide +kernel
theorem nD_X2_withBack_9 : decode nC_X2_withBack 9 = .ok (.lshl, 1) := by decide +kernel
theorem nD_X2_withBack_10 : decode nC_X2_withBack 10 = .ok (.lor, 1) := by decide +kernel
theorem nD_X2_withBack_11 : decode nC_X2_withBack 11 = .ok (.ldc2_w 13, 3) := by decide +kernel
theorem nD_X2_withBack_14 : decode nC_X2_withBack 14 = .ok (.ladd, 1) := by decide +kernel
theorem nD_X2_withBack_15 : decode nC_X2_withBack 15 = .ok (.lreturn, 1) := by decide +kernel
theorem nD_X2_withoutBack_0 : decode nC_X2_withoutBack 0 = .ok (.lload_n 0, 1) := by decide +kernel
theorem nD_X2_withoutBack_1 : decode nC_X2_withoutBack 1 = .ok (.invokestatic 9, 3) := by decide +kernel
theorem nD_X2_withoutBack_4 : decode nC_X2_withoutBack 4 = .ok (.iconst 1, 1) := by decide +kernel
theorem nD_X2_withoutBack_5 : decode nC_X2_withoutBack 5 = .ok (.isub, 1) := by decide +kernel
theorem nD_X2_withoutBack_6 : decode nC_X2_withoutBack 6 = .ok (.istore_n 2, 1) := by decide +kernel
theorem nD_X2_withoutBack_7 : decode nC_X2_withoutBack 7 = .ok (.lload_n 0, 1) := by decide +kernel
theorem nD_X2_withoutBack_8 : decode nC_X2_withoutBack 8 = .ok (.ldc2_w 15, 3) := by decide +kernel
theorem nD_X2_withoutBack_11 : decode nC_X2_withoutBack 11 = .ok (.iconst 4, 1) := by decide +kernel
theorem nD_X2_withoutBack_12 : decode nC_X2_withoutBack 12 = .ok (.iload_n 2, 1) := by decide +kernel
theorem nD_X2_withoutBack_13 : decode nC_X2_withoutBack 13 = .ok (.imul, 1) := by decide +kernel
theorem nD_X2_withoutBack_14 : decode nC_X2_withoutBack 14 = .ok (.lshl, 1) := by decide +kernel
theorem nD_X2_withoutBack_15 : decode nC_X2_withoutBack 15 = .ok (.ldc2_w 17, 3) := by decide +kernel
theorem nD_X2_withoutBack_18 : decode nC_X2_withoutBack 18 = .ok (.lxor, 1) := by decide +kernel
theorem nD_X2_withoutBack_19 : decode nC_X2_withoutBack 19 = .ok (.land, 1) := by decide +kernel
theorem nD_X2_withoutBack_20 : decode nC_X2_withoutBack 20 = .ok (.ldc2_w 13, 3) := by decide +kernel
theorem nD_X2_withoutBack_23 : decode nC_X2_withoutBack 23 = .ok (.lsub, 1) := by decide +kernel
theorem nD_X2_withoutBack_24 : decode nC_X2_withoutBack 24 = .ok (.lreturn, 1) := by decide +kernel
theorem nD_X2_withoutFront_0 : decode nC_X2_withoutFront 0 = .ok (.lload_n 0, 1) := by decide +kernel
theorem nD_X2_withoutFront_1 : decode nC_X2_withoutFront 1 = .ok (.ldc2_w 19, 3) := by decide +kernel
theorem nD_X2_withoutFront_4 : decode nC_X2_withoutFront 4 = .ok (.land, 1) := by decide +kernel
theorem nD_X2_withoutFront_5 : decode nC_X2_withoutFront 5 = .ok (.iconst 4, 1) := by decide +kernel
theorem nD_X2_withoutFront_6 : decode nC_X2_withoutFront 6 = .ok (.lushr, 1) := by decide +kernel
theorem nD_X2_withoutFront_7 : decode nC_X2_withoutFront 7 = .ok (.lstore_n 2, 1) := by decide +kernel
theorem nD_X2_withoutFront_8 : decode nC_X2_withoutFront 8 = .ok (.lload_n 2, 1) := by decide +kernel
theorem nD_X2_withoutFront_9 : decode nC_X2_withoutFront 9 = .ok (.lload_n 0, 1) := by decide +kernel
theorem nD_X2_withoutFront_10 : decode nC_X2_withoutFront 10 = .ok (.invokestatic 9, 3) := by decide +kernel
theorem nD_X2_withoutFront_13 : decode nC_X2_withoutFront 13 = .ok (.iconst 1, 1) := by decide +kernel
theorem nD_X2_withoutFront_14 : decode nC_X2_withoutFront 14 = .ok (.isub, 1) := by decide +kernel
theorem nD_X2_withoutFront_15 : decode nC_X2_withoutFront 15 = .ok (.i2l, 1) := by decide +kernel
theorem nD_X2_withoutFront_16 : decode nC_X2_withoutFront 16 = .ok (.bipush 32, 2) := by decide +kernel
theorem nD_X2_withoutFront_18 : decode nC_X2_withoutFront 18 = .ok (.lshl, 1) := by decide +kernel
theorem nD_X2_withoutFront_19 : decode nC_X2_withoutFront 19 = .ok (.lor, 1) := by decide +kernel
theorem nD_X2_withoutFront_20 : decode nC_X2_withoutFront 20 = .ok (.lreturn, 1) := by decide +kernel
theorem nD_X5_fits_0 : decode nC_X5_fits 0 = .ok (.aload_n 0, 1) := by decide +kernel
theorem nD_X5_fits_1 : decode nC_X5_fits 1 = .ok (.getfield 32, 3) := by decide +kernel
theorem nD_X5_fits_4 : decode nC_X5_fits 4 = .ok (.getfield 91, 3) := by decide +kernel
theorem nD_X5_fits_7 : decode nC_X5_fits 7 = .ok (.ifCond .le 7, 3) := by decide +kernel
theorem nD_X5_fits_10 : decode nC_X5_fits 10 = .ok (.iconst 1, 1) := by decide +kernel
theorem nD_X5_fits_11 : decode nC_X5_fits 11 = .ok (.goto 4, 3) := by decide +kernel
theorem nD_X5_fits_14 : decode nC_X5_fits 14 = .ok (.iconst 0, 1) := by decide +kernel
theorem nD_X5_fits_15 : decode nC_X5_fits 15 = .ok (.ireturn, 1) := by decide +kernel
theorem nD_X5_renew_0 : decode nC_X5_renew 0 = .ok (.aload_n 0, 1) := by decide +kernel
theorem nD_X5_renew_1 : decode nC_X5_renew 1 = .ok (.iload_n 1, 1) := by decide +kernel
theorem nD_X5_renew_2 : decode nC_X5_renew 2 = .ok (.iload_n 2, 1) := by decide +kernel
theorem nD_X5_renew_3 : decode nC_X5_renew 3 = .ok (.invokevirtual 37, 3) := by decide +kernel
theorem nD_X5_renew_6 : decode nC_X5_renew 6 = .ok (.return_, 1) := by decide +kernel
theorem nD_X5_beginPut_0 : decode nC_X5_beginPut 0 = .ok (.aload_n 0, 1) := by decide +kernel
theorem nD_X5_beginPut_1 : decode nC_X5_beginPut 1 = .ok (.iload_n 1, 1) := by decide +kernel
theorem nD_X5_beginPut_2 : decode nC_X5_beginPut 2 = .ok (.invokevirtual 41, 3) := by decide +kernel
theorem nD_X5_beginPut_5 : decode nC_X5_beginPut 5 = .ok (.ifCond .eq 21, 3) := by decide +kernel
theorem nD_X5_beginPut_8 : decode nC_X5_beginPut 8 = .ok (.iload_n 2, 1) := by decide +kernel
theorem nD_X5_beginPut_9 : decode nC_X5_beginPut 9 = .ok (.invokestatic 45, 3) := by decide +kernel
theorem nD_X5_beginPut_12 : decode nC_X5_beginPut 12 = .ok (.ifCond .eq 14, 3) := by decide +kernel
theorem nD_X5_beginPut_15 : decode nC_X5_beginPut 15 = .ok (.aload_n 0, 1) := by decide +kernel
theorem nD_X5_beginPut_16 : decode nC_X5_beginPut 16 = .ok (.getfield 10, 3) := by decide +kernel
theorem nD_X5_beginPut_19 : decode nC_X5_beginPut 19 = .ok (.iload_n 1, 1) := by decide +kernel
theorem nD_X5_beginPut_20 : decode nC_X5_beginPut 20 = .ok (.invokevirtual 48, 3) := by decide +kernel
theorem nD_X5_beginPut_23 : decode nC_X5_beginPut 23 = .ok (.ifCond .ne 5, 3) := by decide +kernel
theorem nD_X5_beginPut_26 : decode nC_X5_beginPut 26 = .ok (.iconst 0, 1) := by decide +kernel
theorem nD_X5_beginPut_27 : decode nC_X5_beginPut 27 = .ok (.ireturn, 1) := by decide +kernel
theorem nD_X5_beginPut_28 : decode nC_X5_beginPut 28 = .ok (.aload_n 0, 1) := by decide +kernel
theorem nD_X5_beginPut_29 : decode nC_X5_beginPut 29 = .ok (.getfield 18, 3) := by decide +kernel
theorem nD_X5_beginPut_32 : decode nC_X5_beginPut 32 = .ok (.aload_n 0, 1) := by decide +kernel
theorem nD_X5_beginPut_33 : decode nC_X5_beginPut 33 = .ok (.getfield 51, 3) := by decide +kernel
theorem nD_X5_beginPut_36 : decode nC_X5_beginPut 36 = .ok (.aaload, 1) := by decide +kernel
theorem nD_X5_beginPut_37 : decode nC_X5_beginPut 37 = .ok (.iload_n 1, 1) := by decide +kernel
theorem nD_X5_beginPut_38 : decode nC_X5_beginPut 38 = .ok (.iload_n 2, 1) := by decide +kernel
theorem nD_X5_beginPut_39 : decode nC_X5_beginPut 39 = .ok (.aload_n 0, 1) := by decide +kernel
theorem nD_X5_beginPut_40 : decode nC_X5_beginPut 40 = .ok (.getfield 55, 3) := by decide +kernel
theorem nD_X5_beginPut_43 : decode nC_X5_beginPut 43 = .ok (.invokevirtual 58, 3) := by decide +kernel
theorem nD_X5_beginPut_46 : decode nC_X5_beginPut 46 = .ok (.aload_n 0, 1) := by decide +kernel
theorem nD_X5_beginPut_47 : decode nC_X5_beginPut 47 = .ok (.iload_n 1, 1) := by decide +kernel
theorem nD_X5_beginPut_48 : decode nC_X5_beginPut 48 = .ok (.invokevirtual 62, 3) := by decide +kernel
theorem nD_X5_beginPut_51 : decode nC_X5_beginPut 51 = .ok (.aload_n 0, 1) := by decide +kernel
theorem nD_X5_beginPut_52 : decode nC_X5_beginPut 52 = .ok (.invokevirtual 66, 3) := by decide +kernel
theorem nD_X5_beginPut_55 : decode nC_X5_beginPut 55 = .ok (.iconst 1, 1) := by decide +kernel
theorem nD_X5_beginPut_56 : decode nC_X5_beginPut 56 = .ok (.ireturn, 1) := by decide +kernel
theorem nD_X5_mayBegin_0 : decode nC_X5_mayBegin 0 = .ok (.iload_n 1, 1) := by decide +kernel
theorem nD_X5_mayBegin_1 : decode nC_X5_mayBegin 1 = .ok (.invokestatic 133, 3) := by decide +kernel
theorem nD_X5_mayBegin_4 : decode nC_X5_mayBegin 4 = .ok (.ifCond .eq 26, 3) := by decide +kernel
theorem nD_X5_mayBegin_7 : decode nC_X5_mayBegin 7 = .ok (.aload_n 0, 1) := by decide +kernel
theorem nD_X5_mayBegin_8 : decode nC_X5_mayBegin 8 = .ok (.getfield 22, 3) := by decide +kernel
theorem nD_X5_mayBegin_11 : decode nC_X5_mayBegin 11 = .ok (.iload_n 1, 1) := by decide +kernel
theorem nD_X5_mayBegin_12 : decode nC_X5_mayBegin 12 = .ok (.iaload, 1) := by decide +kernel
theorem nD_X5_mayBegin_13 : decode nC_X5_mayBegin 13 = .ok (.iconst (-1), 1) := by decide +kernel
theorem nD_X5_mayBegin_14 : decode nC_X5_mayBegin 14 = .ok (.if_icmp .ne 16, 3) := by decide +kernel
theorem nD_X5_mayBegin_17 : decode nC_X5_mayBegin 17 = .ok (.aload_n 0, 1) := by decide +kernel
theorem nD_X5_mayBegin_18 : decode nC_X5_mayBegin 18 = .ok (.getfield 51, 3) := by decide +kernel
theorem nD_X5_mayBegin_21 : decode nC_X5_mayBegin 21 = .ok (.bipush 8, 2) := by decide +kernel
theorem nD_X5_mayBegin_23 : decode nC_X5_mayBegin 23 = .ok (.if_icmp .ge 7, 3) := by decide +kernel
theorem nD_X5_mayBegin_26 : decode nC_X5_mayBegin 26 = .ok (.iconst 1, 1) := by decide +kernel
theorem nD_X5_mayBegin_27 : decode nC_X5_mayBegin 27 = .ok (.goto 4, 3) := by decide +kernel
theorem nD_X5_mayBegin_30 : decode nC_X5_mayBegin 30 = .ok (.iconst 0, 1) := by decide +kernel
theorem nD_X5_mayBegin_31 : decode nC_X5_mayBegin 31 = .ok (.ireturn, 1) := by decide +kernel
theorem nD_X5_isWorker_0 : decode nC_X5_isWorker 0 = .ok (.iload_n 0, 1) := by decide +kernel
theorem nD_X5_isWorker_1 : decode nC_X5_isWorker 1 = .ok (.ifCond .lt 12, 3) := by decide +kernel
theorem nD_X5_isWorker_4 : decode nC_X5_isWorker 4 = .ok (.iload_n 0, 1) := by decide +kernel
theorem nD_X5_isWorker_5 : decode nC_X5_isWorker 5 = .ok (.iconst 3, 1) := by decide +kernel
theorem nD_X5_isWorker_6 : decode nC_X5_isWorker 6 = .ok (.if_icmp .ge 7, 3) := by decide +kernel
theorem nD_X5_isWorker_9 : decode nC_X5_isWorker 9 = .ok (.iconst 1, 1) := by decide +kernel
theorem nD_X5_isWorker_10 : decode nC_X5_isWorker 10 = .ok (.goto 4, 3) := by decide +kernel
theorem nD_X5_isWorker_13 : decode nC_X5_isWorker 13 = .ok (.iconst 0, 1) := by decide +kernel
theorem nD_X5_isWorker_14 : decode nC_X5_isWorker 14 = .ok (.ireturn, 1) := by decide +kernel
theorem nD_X5_isValue_0 : decode nC_X5_isValue 0 = .ok (.iload_n 0, 1) := by decide +kernel
theorem nD_X5_isValue_1 : decode nC_X5_isValue 1 = .ok (.ifCond .lt 13, 3) := by decide +kernel
theorem nD_X5_isValue_4 : decode nC_X5_isValue 4 = .ok (.iload_n 0, 1) := by decide +kernel
theorem nD_X5_isValue_5 : decode nC_X5_isValue 5 = .ok (.bipush 16, 2) := by decide +kernel
theorem nD_X5_isValue_7 : decode nC_X5_isValue 7 = .ok (.if_icmp .ge 7, 3) := by decide +kernel
theorem nD_X5_isValue_10 : decode nC_X5_isValue 10 = .ok (.iconst 1, 1) := by decide +kernel
theorem nD_X5_isValue_11 : decode nC_X5_isValue 11 = .ok (.goto 4, 3) := by decide +kernel
theorem nD_X5_isValue_14 : decode nC_X5_isValue 14 = .ok (.iconst 0, 1) := by decide +kernel
theorem nD_X5_isValue_15 : decode nC_X5_isValue 15 = .ok (.ireturn, 1) := by decide +kernel
theorem nD_X4_letsPut_0 : decode nC_X4_letsPut 0 = .ok (.aload_n 0, 1) := by decide +kernel
theorem nD_X4_letsPut_1 : decode nC_X4_letsPut 1 = .ok (.getfield 11, 3) := by decide +kernel
theorem nD_X4_letsPut_4 : decode nC_X4_letsPut 4 = .ok (.iconst 2, 1) := by decide +kernel
theorem nD_X4_letsPut_5 : decode nC_X4_letsPut 5 = .ok (.if_icmp .ne 7, 3) := by decide +kernel
theorem nD_X4_letsPut_8 : decode nC_X4_letsPut 8 = .ok (.iload_n 1, 1) := by decide +kernel
theorem nD_X4_letsPut_9 : decode nC_X4_letsPut 9 = .ok (.ifCond .ne 7, 3) := by decide +kernel
theorem nD_X4_letsPut_12 : decode nC_X4_letsPut 12 = .ok (.iconst 1, 1) := by decide +kernel
theorem nD_X4_letsPut_13 : decode nC_X4_letsPut 13 = .ok (.goto 4, 3) := by decide +kernel
theorem nD_X4_letsPut_16 : decode nC_X4_letsPut 16 = .ok (.iconst 0, 1) := by decide +kernel
theorem nD_X4_letsPut_17 : decode nC_X4_letsPut 17 = .ok (.ireturn, 1) := by decide +kernel
theorem nD_X0_startPut_0 : decode nC_X0_startPut 0 = .ok (.aload_n 0, 1) := by decide +kernel
theorem nD_X0_startPut_1 : decode nC_X0_startPut 1 = .ok (.iload_n 1, 1) := by decide +kernel
theorem nD_X0_startPut_2 : decode nC_X0_startPut 2 = .ok (.putfield 7, 3) := by decide +kernel
theorem nD_X0_startPut_5 : decode nC_X0_startPut 5 = .ok (.aload_n 0, 1) := by decide +kernel
theorem nD_X0_startPut_6 : decode nC_X0_startPut 6 = .ok (.iconst 1, 1) := by decide +kernel
theorem nD_X0_startPut_7 : decode nC_X0_startPut 7 = .ok (.putfield 13, 3) := by decide +kernel
theorem nD_X0_startPut_10 : decode nC_X0_startPut 10 = .ok (.aload_n 0, 1) := by decide +kernel
theorem nD_X0_startPut_11 : decode nC_X0_startPut 11 = .ok (.iload_n 2, 1) := by decide +kernel
theorem nD_X0_startPut_12 : decode nC_X0_startPut 12 = .ok (.putfield 17, 3) := by decide +kernel
theorem nD_X0_startPut_15 : decode nC_X0_startPut 15 = .ok (.aload_n 0, 1) := by decide +kernel
theorem nD_X0_startPut_16 : decode nC_X0_startPut 16 = .ok (.iload_n 3, 1) := by decide +kernel
theorem nD_X0_startPut_17 : decode nC_X0_startPut 17 = .ok (.putfield 20, 3) := by decide +kernel
theorem nD_X0_startPut_20 : decode nC_X0_startPut 20 = .ok (.return_, 1) := by decide +kernel
theorem nD_X5_openNextCall_0 : decode nC_X5_openNextCall 0 = .ok (.aload_n 0, 1) := by decide +kernel
theorem nD_X5_openNextCall_1 : decode nC_X5_openNextCall 1 = .ok (.getfield 22, 3) := by decide +kernel
theorem nD_X5_openNextCall_4 : decode nC_X5_openNextCall 4 = .ok (.iload_n 1, 1) := by decide +kernel
theorem nD_X5_openNextCall_5 : decode nC_X5_openNextCall 5 = .ok (.aload_n 0, 1) := by decide +kernel
theorem nD_X5_openNextCall_6 : decode nC_X5_openNextCall 6 = .ok (.getfield 51, 3) := by decide +kernel
theorem nD_X5_openNextCall_9 : decode nC_X5_openNextCall 9 = .ok (.iastore, 1) := by decide +kernel
theorem nD_X5_openNextCall_10 : decode nC_X5_openNextCall 10 = .ok (.aload_n 0, 1) := by decide +kernel
theorem nD_X5_openNextCall_11 : decode nC_X5_openNextCall 11 = .ok (.dup, 1) := by decide +kernel
theorem nD_X5_openNextCall_12 : decode nC_X5_openNextCall 12 = .ok (.getfield 51, 3) := by decide +kernel
theorem nD_X5_openNextCall_15 : decode nC_X5_openNextCall 15 = .ok (.iconst 1, 1) := by decide +kernel
theorem nD_X5_openNextCall_16 : decode nC_X5_openNextCall 16 = .ok (.iadd, 1) := by decide +kernel
theorem nD_X5_openNextCall_17 : decode nC_X5_openNextCall 17 = .ok (.putfield 51, 3) := by decide +kernel
theorem nD_X5_openNextCall_20 : decode nC_X5_openNextCall 20 = .ok (.aload_n 0, 1) := by decide +kernel
theorem nD_X5_openNextCall_21 : decode nC_X5_openNextCall 21 = .ok (.dup, 1) := by decide +kernel
theorem nD_X5_openNextCall_22 : decode nC_X5_openNextCall 22 = .ok (.getfield 88, 3) := by decide +kernel
theorem nD_X5_openNextCall_25 : decode nC_X5_openNextCall 25 = .ok (.iconst 1, 1) := by decide +kernel
theorem nD_X5_openNextCall_26 : decode nC_X5_openNextCall 26 = .ok (.iadd, 1) := by decide +kernel
theorem nD_X5_openNextCall_27 : decode nC_X5_openNextCall 27 = .ok (.putfield 88, 3) := by decide +kernel
theorem nD_X5_openNextCall_30 : decode nC_X5_openNextCall 30 = .ok (.return_, 1) := by decide +kernel
theorem nD_X5_beginTake_0 : decode nC_X5_beginTake 0 = .ok (.aload_n 0, 1) := by decide +kernel
theorem nD_X5_beginTake_1 : decode nC_X5_beginTake 1 = .ok (.iload_n 1, 1) := by decide +kernel
theorem nD_X5_beginTake_2 : decode nC_X5_beginTake 2 = .ok (.invokevirtual 41, 3) := by decide +kernel
end
section
theorem nD_X5_beginTake_5 : decode nC_X5_beginTake 5 = .ok (.ifCond .ne 5, 3) := by decide +kernel
theorem nD_X5_beginTake_8 : decode nC_X5_beginTake 8 = .ok (.iconst 0, 1) := by decide +kernel
theorem nD_X5_beginTake_9 : decode nC_X5_beginTake 9 = .ok (.ireturn, 1) := by decide +kernel
theorem nD_X5_beginTake_10 : decode nC_X5_beginTake 10 = .ok (.aload_n 0, 1) := by decide +kernel
theorem nD_X5_beginTake_11 : decode nC_X5_beginTake 11 = .ok (.getfield 18, 3) := by decide +kernel
theorem nD_X5_beginTake_14 : decode nC_X5_beginTake 14 = .ok (.aload_n 0, 1) := by decide +kernel
theorem nD_X5_beginTake_15 : decode nC_X5_beginTake 15 = .ok (.getfield 51, 3) := by decide +kernel
theorem nD_X5_beginTake_18 : decode nC_X5_beginTake 18 = .ok (.aaload, 1) := by decide +kernel
theorem nD_X5_beginTake_19 : decode nC_X5_beginTake 19 = .ok (.iload_n 1, 1) := by decide +kernel
theorem nD_X5_beginTake_20 : decode nC_X5_beginTake 20 = .ok (.aload_n 0, 1) := by decide +kernel
theorem nD_X5_beginTake_21 : decode nC_X5_beginTake 21 = .ok (.getfield 55, 3) := by decide +kernel
theorem nD_X5_beginTake_24 : decode nC_X5_beginTake 24 = .ok (.invokevirtual 69, 3) := by decide +kernel
theorem nD_X5_beginTake_27 : decode nC_X5_beginTake 27 = .ok (.aload_n 0, 1) := by decide +kernel
theorem nD_X5_beginTake_28 : decode nC_X5_beginTake 28 = .ok (.iload_n 1, 1) := by decide +kernel
theorem nD_X5_beginTake_29 : decode nC_X5_beginTake 29 = .ok (.invokevirtual 62, 3) := by decide +kernel
theorem nD_X5_beginTake_32 : decode nC_X5_beginTake 32 = .ok (.aload_n 0, 1) := by decide +kernel
theorem nD_X5_beginTake_33 : decode nC_X5_beginTake 33 = .ok (.invokevirtual 66, 3) := by decide +kernel
theorem nD_X5_beginTake_36 : decode nC_X5_beginTake 36 = .ok (.iconst 1, 1) := by decide +kernel
theorem nD_X5_beginTake_37 : decode nC_X5_beginTake 37 = .ok (.ireturn, 1) := by decide +kernel
theorem nD_X0_startTake_0 : decode nC_X0_startTake 0 = .ok (.aload_n 0, 1) := by decide +kernel
theorem nD_X0_startTake_1 : decode nC_X0_startTake 1 = .ok (.iload_n 1, 1) := by decide +kernel
theorem nD_X0_startTake_2 : decode nC_X0_startTake 2 = .ok (.putfield 7, 3) := by decide +kernel
theorem nD_X0_startTake_5 : decode nC_X0_startTake 5 = .ok (.aload_n 0, 1) := by decide +kernel
theorem nD_X0_startTake_6 : decode nC_X0_startTake 6 = .ok (.iconst 0, 1) := by decide +kernel
theorem nD_X0_startTake_7 : decode nC_X0_startTake 7 = .ok (.putfield 13, 3) := by decide +kernel
theorem nD_X0_startTake_10 : decode nC_X0_startTake 10 = .ok (.aload_n 0, 1) := by decide +kernel
theorem nD_X0_startTake_11 : decode nC_X0_startTake 11 = .ok (.iload_n 2, 1) := by decide +kernel
theorem nD_X0_startTake_12 : decode nC_X0_startTake 12 = .ok (.putfield 20, 3) := by decide +kernel
theorem nD_X0_startTake_15 : decode nC_X0_startTake 15 = .ok (.return_, 1) := by decide +kernel
theorem nD_X5_endPut_0 : decode nC_X5_endPut 0 = .ok (.aload_n 0, 1) := by decide +kernel
theorem nD_X5_endPut_1 : decode nC_X5_endPut 1 = .ok (.iload_n 1, 1) := by decide +kernel
theorem nD_X5_endPut_2 : decode nC_X5_endPut 2 = .ok (.invokevirtual 72, 3) := by decide +kernel
theorem nD_X5_endPut_5 : decode nC_X5_endPut 5 = .ok (.ifCond .eq 20, 3) := by decide +kernel
theorem nD_X5_endPut_8 : decode nC_X5_endPut 8 = .ok (.aload_n 0, 1) := by decide +kernel
theorem nD_X5_endPut_9 : decode nC_X5_endPut 9 = .ok (.getfield 18, 3) := by decide +kernel
theorem nD_X5_endPut_12 : decode nC_X5_endPut 12 = .ok (.aload_n 0, 1) := by decide +kernel
theorem nD_X5_endPut_13 : decode nC_X5_endPut 13 = .ok (.getfield 22, 3) := by decide +kernel
theorem nD_X5_endPut_16 : decode nC_X5_endPut 16 = .ok (.iload_n 1, 1) := by decide +kernel
theorem nD_X5_endPut_17 : decode nC_X5_endPut 17 = .ok (.iaload, 1) := by decide +kernel
theorem nD_X5_endPut_18 : decode nC_X5_endPut 18 = .ok (.aaload, 1) := by decide +kernel
theorem nD_X5_endPut_19 : decode nC_X5_endPut 19 = .ok (.getfield 75, 3) := by decide +kernel
theorem nD_X5_endPut_22 : decode nC_X5_endPut 22 = .ok (.ifCond .ne 5, 3) := by decide +kernel
theorem nD_X5_endPut_25 : decode nC_X5_endPut 25 = .ok (.iconst 0, 1) := by decide +kernel
theorem nD_X5_endPut_26 : decode nC_X5_endPut 26 = .ok (.ireturn, 1) := by decide +kernel
theorem nD_X5_endPut_27 : decode nC_X5_endPut 27 = .ok (.aload_n 0, 1) := by decide +kernel
theorem nD_X5_endPut_28 : decode nC_X5_endPut 28 = .ok (.iload_n 1, 1) := by decide +kernel
theorem nD_X5_endPut_29 : decode nC_X5_endPut 29 = .ok (.iload_n 2, 1) := by decide +kernel
theorem nD_X5_endPut_30 : decode nC_X5_endPut 30 = .ok (.ifCond .eq 7, 3) := by decide +kernel
theorem nD_X5_endPut_33 : decode nC_X5_endPut 33 = .ok (.iconst 1, 1) := by decide +kernel
theorem nD_X5_endPut_34 : decode nC_X5_endPut 34 = .ok (.goto 4, 3) := by decide +kernel
theorem nD_X5_endPut_37 : decode nC_X5_endPut 37 = .ok (.iconst 0, 1) := by decide +kernel
theorem nD_X5_endPut_38 : decode nC_X5_endPut 38 = .ok (.invokevirtual 79, 3) := by decide +kernel
theorem nD_X5_endPut_41 : decode nC_X5_endPut 41 = .ok (.aload_n 0, 1) := by decide +kernel
theorem nD_X5_endPut_42 : decode nC_X5_endPut 42 = .ok (.invokevirtual 66, 3) := by decide +kernel
theorem nD_X5_endPut_45 : decode nC_X5_endPut 45 = .ok (.iconst 1, 1) := by decide +kernel
theorem nD_X5_endPut_46 : decode nC_X5_endPut 46 = .ok (.ireturn, 1) := by decide +kernel
theorem nD_X5_hasOpenCall_0 : decode nC_X5_hasOpenCall 0 = .ok (.iload_n 1, 1) := by decide +kernel
theorem nD_X5_hasOpenCall_1 : decode nC_X5_hasOpenCall 1 = .ok (.invokestatic 133, 3) := by decide +kernel
theorem nD_X5_hasOpenCall_4 : decode nC_X5_hasOpenCall 4 = .ok (.ifCond .eq 17, 3) := by decide +kernel
theorem nD_X5_hasOpenCall_7 : decode nC_X5_hasOpenCall 7 = .ok (.aload_n 0, 1) := by decide +kernel
theorem nD_X5_hasOpenCall_8 : decode nC_X5_hasOpenCall 8 = .ok (.getfield 22, 3) := by decide +kernel
theorem nD_X5_hasOpenCall_11 : decode nC_X5_hasOpenCall 11 = .ok (.iload_n 1, 1) := by decide +kernel
theorem nD_X5_hasOpenCall_12 : decode nC_X5_hasOpenCall 12 = .ok (.iaload, 1) := by decide +kernel
theorem nD_X5_hasOpenCall_13 : decode nC_X5_hasOpenCall 13 = .ok (.iconst (-1), 1) := by decide +kernel
theorem nD_X5_hasOpenCall_14 : decode nC_X5_hasOpenCall 14 = .ok (.if_icmp .eq 7, 3) := by decide +kernel
theorem nD_X5_hasOpenCall_17 : decode nC_X5_hasOpenCall 17 = .ok (.iconst 1, 1) := by decide +kernel
theorem nD_X5_hasOpenCall_18 : decode nC_X5_hasOpenCall 18 = .ok (.goto 4, 3) := by decide +kernel
theorem nD_X5_hasOpenCall_21 : decode nC_X5_hasOpenCall 21 = .ok (.iconst 0, 1) := by decide +kernel
theorem nD_X5_hasOpenCall_22 : decode nC_X5_hasOpenCall 22 = .ok (.ireturn, 1) := by decide +kernel
theorem nD_X5_endOpenCall_0 : decode nC_X5_endOpenCall 0 = .ok (.aload_n 0, 1) := by decide +kernel
theorem nD_X5_endOpenCall_1 : decode nC_X5_endOpenCall 1 = .ok (.getfield 22, 3) := by decide +kernel
theorem nD_X5_endOpenCall_4 : decode nC_X5_endOpenCall 4 = .ok (.iload_n 1, 1) := by decide +kernel
theorem nD_X5_endOpenCall_5 : decode nC_X5_endOpenCall 5 = .ok (.iaload, 1) := by decide +kernel
theorem nD_X5_endOpenCall_6 : decode nC_X5_endOpenCall 6 = .ok (.istore_n 3, 1) := by decide +kernel
theorem nD_X5_endOpenCall_7 : decode nC_X5_endOpenCall 7 = .ok (.aload_n 0, 1) := by decide +kernel
theorem nD_X5_endOpenCall_8 : decode nC_X5_endOpenCall 8 = .ok (.getfield 18, 3) := by decide +kernel
theorem nD_X5_endOpenCall_11 : decode nC_X5_endOpenCall 11 = .ok (.iload_n 3, 1) := by decide +kernel
theorem nD_X5_endOpenCall_12 : decode nC_X5_endOpenCall 12 = .ok (.aaload, 1) := by decide +kernel
theorem nD_X5_endOpenCall_13 : decode nC_X5_endOpenCall 13 = .ok (.iload_n 2, 1) := by decide +kernel
theorem nD_X5_endOpenCall_14 : decode nC_X5_endOpenCall 14 = .ok (.putfield 145, 3) := by decide +kernel
theorem nD_X5_endOpenCall_17 : decode nC_X5_endOpenCall 17 = .ok (.aload_n 0, 1) := by decide +kernel
theorem nD_X5_endOpenCall_18 : decode nC_X5_endOpenCall 18 = .ok (.dup, 1) := by decide +kernel
theorem nD_X5_endOpenCall_19 : decode nC_X5_endOpenCall 19 = .ok (.getfield 55, 3) := by decide +kernel
theorem nD_X5_endOpenCall_22 : decode nC_X5_endOpenCall 22 = .ok (.iconst 1, 1) := by decide +kernel
theorem nD_X5_endOpenCall_23 : decode nC_X5_endOpenCall 23 = .ok (.iload_n 3, 1) := by decide +kernel
theorem nD_X5_endOpenCall_24 : decode nC_X5_endOpenCall 24 = .ok (.ishl, 1) := by decide +kernel
theorem nD_X5_endOpenCall_25 : decode nC_X5_endOpenCall 25 = .ok (.ior, 1) := by decide +kernel
theorem nD_X5_endOpenCall_26 : decode nC_X5_endOpenCall 26 = .ok (.putfield 55, 3) := by decide +kernel
theorem nD_X5_endOpenCall_29 : decode nC_X5_endOpenCall 29 = .ok (.aload_n 0, 1) := by decide +kernel
theorem nD_X5_endOpenCall_30 : decode nC_X5_endOpenCall 30 = .ok (.iload_n 1, 1) := by decide +kernel
theorem nD_X5_endOpenCall_31 : decode nC_X5_endOpenCall 31 = .ok (.invokevirtual 85, 3) := by decide +kernel
theorem nD_X5_endOpenCall_34 : decode nC_X5_endOpenCall 34 = .ok (.return_, 1) := by decide +kernel
theorem nD_X5_closeOpenCall_0 : decode nC_X5_closeOpenCall 0 = .ok (.aload_n 0, 1) := by decide +kernel
theorem nD_X5_closeOpenCall_1 : decode nC_X5_closeOpenCall 1 = .ok (.getfield 22, 3) := by decide +kernel
theorem nD_X5_closeOpenCall_4 : decode nC_X5_closeOpenCall 4 = .ok (.iload_n 1, 1) := by decide +kernel
theorem nD_X5_closeOpenCall_5 : decode nC_X5_closeOpenCall 5 = .ok (.iconst (-1), 1) := by decide +kernel
theorem nD_X5_closeOpenCall_6 : decode nC_X5_closeOpenCall 6 = .ok (.iastore, 1) := by decide +kernel
theorem nD_X5_closeOpenCall_7 : decode nC_X5_closeOpenCall 7 = .ok (.aload_n 0, 1) := by decide +kernel
theorem nD_X5_closeOpenCall_8 : decode nC_X5_closeOpenCall 8 = .ok (.dup, 1) := by decide +kernel
theorem nD_X5_closeOpenCall_9 : decode nC_X5_closeOpenCall 9 = .ok (.getfield 88, 3) := by decide +kernel
theorem nD_X5_closeOpenCall_12 : decode nC_X5_closeOpenCall 12 = .ok (.iconst 1, 1) := by decide +kernel
theorem nD_X5_closeOpenCall_13 : decode nC_X5_closeOpenCall 13 = .ok (.iadd, 1) := by decide +kernel
theorem nD_X5_closeOpenCall_14 : decode nC_X5_closeOpenCall 14 = .ok (.putfield 88, 3) := by decide +kernel
theorem nD_X5_closeOpenCall_17 : decode nC_X5_closeOpenCall 17 = .ok (.return_, 1) := by decide +kernel
theorem nD_X5_endTake_0 : decode nC_X5_endTake 0 = .ok (.aload_n 0, 1) := by decide +kernel
theorem nD_X5_endTake_1 : decode nC_X5_endTake 1 = .ok (.iload_n 1, 1) := by decide +kernel
theorem nD_X5_endTake_2 : decode nC_X5_endTake 2 = .ok (.invokevirtual 72, 3) := by decide +kernel
theorem nD_X5_endTake_5 : decode nC_X5_endTake 5 = .ok (.ifCond .eq 20, 3) := by decide +kernel
theorem nD_X5_endTake_8 : decode nC_X5_endTake 8 = .ok (.aload_n 0, 1) := by decide +kernel
theorem nD_X5_endTake_9 : decode nC_X5_endTake 9 = .ok (.getfield 18, 3) := by decide +kernel
theorem nD_X5_endTake_12 : decode nC_X5_endTake 12 = .ok (.aload_n 0, 1) := by decide +kernel
theorem nD_X5_endTake_13 : decode nC_X5_endTake 13 = .ok (.getfield 22, 3) := by decide +kernel
theorem nD_X5_endTake_16 : decode nC_X5_endTake 16 = .ok (.iload_n 1, 1) := by decide +kernel
theorem nD_X5_endTake_17 : decode nC_X5_endTake 17 = .ok (.iaload, 1) := by decide +kernel
theorem nD_X5_endTake_18 : decode nC_X5_endTake 18 = .ok (.aaload, 1) := by decide +kernel
theorem nD_X5_endTake_19 : decode nC_X5_endTake 19 = .ok (.getfield 75, 3) := by decide +kernel
theorem nD_X5_endTake_22 : decode nC_X5_endTake 22 = .ok (.ifCond .eq 5, 3) := by decide +kernel
theorem nD_X5_endTake_25 : decode nC_X5_endTake 25 = .ok (.iconst 0, 1) := by decide +kernel
theorem nD_X5_endTake_26 : decode nC_X5_endTake 26 = .ok (.ireturn, 1) := by decide +kernel
theorem nD_X5_endTake_27 : decode nC_X5_endTake 27 = .ok (.iload_n 2, 1) := by decide +kernel
theorem nD_X5_endTake_28 : decode nC_X5_endTake 28 = .ok (.iconst (-1), 1) := by decide +kernel
theorem nD_X5_endTake_29 : decode nC_X5_endTake 29 = .ok (.if_icmp .eq 12, 3) := by decide +kernel
theorem nD_X5_endTake_32 : decode nC_X5_endTake 32 = .ok (.iload_n 2, 1) := by decide +kernel
theorem nD_X5_endTake_33 : decode nC_X5_endTake 33 = .ok (.invokestatic 45, 3) := by decide +kernel
theorem nD_X5_endTake_36 : decode nC_X5_endTake 36 = .ok (.ifCond .ne 5, 3) := by decide +kernel
theorem nD_X5_endTake_39 : decode nC_X5_endTake 39 = .ok (.iconst 0, 1) := by decide +kernel
theorem nD_X5_endTake_40 : decode nC_X5_endTake 40 = .ok (.ireturn, 1) := by decide +kernel
theorem nD_X5_endTake_41 : decode nC_X5_endTake 41 = .ok (.aload_n 0, 1) := by decide +kernel
theorem nD_X5_endTake_42 : decode nC_X5_endTake 42 = .ok (.iload_n 1, 1) := by decide +kernel
theorem nD_X5_endTake_43 : decode nC_X5_endTake 43 = .ok (.iload_n 2, 1) := by decide +kernel
theorem nD_X5_endTake_44 : decode nC_X5_endTake 44 = .ok (.invokevirtual 79, 3) := by decide +kernel
theorem nD_X5_endTake_47 : decode nC_X5_endTake 47 = .ok (.aload_n 0, 1) := by decide +kernel
theorem nD_X5_endTake_48 : decode nC_X5_endTake 48 = .ok (.invokevirtual 66, 3) := by decide +kernel
theorem nD_X5_endTake_51 : decode nC_X5_endTake 51 = .ok (.iconst 1, 1) := by decide +kernel
theorem nD_X5_endTake_52 : decode nC_X5_endTake 52 = .ok (.ireturn, 1) := by decide +kernel
theorem nD_X5_giveUp_0 : decode nC_X5_giveUp 0 = .ok (.aload_n 0, 1) := by decide +kernel
theorem nD_X5_giveUp_1 : decode nC_X5_giveUp 1 = .ok (.iload_n 1, 1) := by decide +kernel
theorem nD_X5_giveUp_2 : decode nC_X5_giveUp 2 = .ok (.invokevirtual 72, 3) := by decide +kernel
theorem nD_X5_giveUp_5 : decode nC_X5_giveUp 5 = .ok (.ifCond .ne 5, 3) := by decide +kernel
theorem nD_X5_giveUp_8 : decode nC_X5_giveUp 8 = .ok (.iconst 0, 1) := by decide +kernel
theorem nD_X5_giveUp_9 : decode nC_X5_giveUp 9 = .ok (.ireturn, 1) := by decide +kernel
theorem nD_X5_giveUp_10 : decode nC_X5_giveUp 10 = .ok (.aload_n 0, 1) := by decide +kernel
theorem nD_X5_giveUp_11 : decode nC_X5_giveUp 11 = .ok (.dup, 1) := by decide +kernel
theorem nD_X5_giveUp_12 : decode nC_X5_giveUp 12 = .ok (.getfield 82, 3) := by decide +kernel
theorem nD_X5_giveUp_15 : decode nC_X5_giveUp 15 = .ok (.iconst 1, 1) := by decide +kernel
theorem nD_X5_giveUp_16 : decode nC_X5_giveUp 16 = .ok (.aload_n 0, 1) := by decide +kernel
theorem nD_X5_giveUp_17 : decode nC_X5_giveUp 17 = .ok (.getfield 22, 3) := by decide +kernel
theorem nD_X5_giveUp_20 : decode nC_X5_giveUp 20 = .ok (.iload_n 1, 1) := by decide +kernel
theorem nD_X5_giveUp_21 : decode nC_X5_giveUp 21 = .ok (.iaload, 1) := by decide +kernel
theorem nD_X5_giveUp_22 : decode nC_X5_giveUp 22 = .ok (.ishl, 1) := by decide +kernel
theorem nD_X5_giveUp_23 : decode nC_X5_giveUp 23 = .ok (.ior, 1) := by decide +kernel
theorem nD_X5_giveUp_24 : decode nC_X5_giveUp 24 = .ok (.putfield 82, 3) := by decide +kernel
theorem nD_X5_giveUp_27 : decode nC_X5_giveUp 27 = .ok (.aload_n 0, 1) := by decide +kernel
theorem nD_X5_giveUp_28 : decode nC_X5_giveUp 28 = .ok (.iload_n 1, 1) := by decide +kernel
theorem nD_X5_giveUp_29 : decode nC_X5_giveUp 29 = .ok (.invokevirtual 85, 3) := by decide +kernel
theorem nD_X5_giveUp_32 : decode nC_X5_giveUp 32 = .ok (.aload_n 0, 1) := by decide +kernel
theorem nD_X5_giveUp_33 : decode nC_X5_giveUp 33 = .ok (.invokevirtual 66, 3) := by decide +kernel
theorem nD_X5_giveUp_36 : decode nC_X5_giveUp 36 = .ok (.iconst 1, 1) := by decide +kernel
theorem nD_X5_giveUp_37 : decode nC_X5_giveUp 37 = .ok (.ireturn, 1) := by decide +kernel
theorem nD_X5_events_0 : decode nC_X5_events 0 = .ok (.aload_n 0, 1) := by decide +kernel
theorem nD_X5_events_1 : decode nC_X5_events 1 = .ok (.getfield 88, 3) := by decide +kernel
theorem nD_X5_events_4 : decode nC_X5_events 4 = .ok (.ireturn, 1) := by decide +kernel
theorem nD_X5_begun_0 : decode nC_X5_begun 0 = .ok (.aload_n 0, 1) := by decide +kernel
theorem nD_X5_begun_1 : decode nC_X5_begun 1 = .ok (.getfield 51, 3) := by decide +kernel
theorem nD_X5_begun_4 : decode nC_X5_begun 4 = .ok (.ireturn, 1) := by decide +kernel
theorem nD_X5_brokenAt_0 : decode nC_X5_brokenAt 0 = .ok (.aload_n 0, 1) := by decide +kernel
theorem nD_X5_brokenAt_1 : decode nC_X5_brokenAt 1 = .ok (.getfield 94, 3) := by decide +kernel
theorem nD_X5_brokenAt_4 : decode nC_X5_brokenAt 4 = .ok (.ireturn, 1) := by decide +kernel
theorem nD_X5_explanations_0 : decode nC_X5_explanations 0 = .ok (.aload_n 0, 1) := by decide +kernel
theorem nD_X5_explanations_1 : decode nC_X5_explanations 1 = .ok (.getfield 32, 3) := by decide +kernel
theorem nD_X5_explanations_4 : decode nC_X5_explanations 4 = .ok (.getfield 91, 3) := by decide +kernel
theorem nD_X5_explanations_7 : decode nC_X5_explanations 7 = .ok (.i2l, 1) := by decide +kernel
theorem nD_X5_explanations_8 : decode nC_X5_explanations 8 = .ok (.lreturn, 1) := by decide +kernel
theorem nD_X5_outcomes_0 : decode nC_X5_outcomes 0 = .ok (.aload_n 0, 1) := by decide +kernel
theorem nD_X5_outcomes_1 : decode nC_X5_outcomes 1 = .ok (.getfield 32, 3) := by decide +kernel
theorem nD_X5_outcomes_4 : decode nC_X5_outcomes 4 = .ok (.getfield 97, 3) := by decide +kernel
theorem nD_X5_outcomes_7 : decode nC_X5_outcomes 7 = .ok (.getfield 101, 3) := by decide +kernel
theorem nD_X5_outcomes_10 : decode nC_X5_outcomes 10 = .ok (.ireturn, 1) := by decide +kernel
theorem nD_X5_fewest_0 : decode nC_X5_fewest 0 = .ok (.aload_n 0, 1) := by decide +kernel
theorem nD_X5_fewest_1 : decode nC_X5_fewest 1 = .ok (.getfield 32, 3) := by decide +kernel
theorem nD_X5_fewest_4 : decode nC_X5_fewest 4 = .ok (.getfield 97, 3) := by decide +kernel
theorem nD_X5_fewest_7 : decode nC_X5_fewest 7 = .ok (.invokevirtual 106, 3) := by decide +kernel
theorem nD_X5_fewest_10 : decode nC_X5_fewest 10 = .ok (.ireturn, 1) := by decide +kernel
theorem nD_X3_shortest_0 : decode nC_X3_shortest 0 = .ok (.iconst (-1), 1) := by decide +kernel
theorem nD_X3_shortest_1 : decode nC_X3_shortest 1 = .ok (.istore_n 1, 1) := by decide +kernel
theorem nD_X3_shortest_2 : decode nC_X3_shortest 2 = .ok (.iconst 0, 1) := by decide +kernel
theorem nD_X3_shortest_3 : decode nC_X3_shortest 3 = .ok (.istore_n 2, 1) := by decide +kernel
theorem nD_X3_shortest_4 : decode nC_X3_shortest 4 = .ok (.iload_n 2, 1) := by decide +kernel
theorem nD_X3_shortest_5 : decode nC_X3_shortest 5 = .ok (.aload_n 0, 1) := by decide +kernel
theorem nD_X3_shortest_6 : decode nC_X3_shortest 6 = .ok (.getfield 25, 3) := by decide +kernel
theorem nD_X3_shortest_9 : decode nC_X3_shortest 9 = .ok (.if_icmp .ge 34, 3) := by decide +kernel
theorem nD_X3_shortest_12 : decode nC_X3_shortest 12 = .ok (.aload_n 0, 1) := by decide +kernel
theorem nD_X3_shortest_13 : decode nC_X3_shortest 13 = .ok (.getfield 11, 3) := by decide +kernel
theorem nD_X3_shortest_16 : decode nC_X3_shortest 16 = .ok (.iload_n 2, 1) := by decide +kernel
theorem nD_X3_shortest_17 : decode nC_X3_shortest 17 = .ok (.laload, 1) := by decide +kernel
theorem nD_X3_shortest_18 : decode nC_X3_shortest 18 = .ok (.invokestatic 31, 3) := by decide +kernel
theorem nD_X3_shortest_21 : decode nC_X3_shortest 21 = .ok (.istore_n 3, 1) := by decide +kernel
theorem nD_X3_shortest_22 : decode nC_X3_shortest 22 = .ok (.iload_n 1, 1) := by decide +kernel
theorem nD_X3_shortest_23 : decode nC_X3_shortest 23 = .ok (.iconst (-1), 1) := by decide +kernel
theorem nD_X3_shortest_24 : decode nC_X3_shortest 24 = .ok (.if_icmp .ne 7, 3) := by decide +kernel
theorem nD_X3_shortest_27 : decode nC_X3_shortest 27 = .ok (.iload_n 3, 1) := by decide +kernel
theorem nD_X3_shortest_28 : decode nC_X3_shortest 28 = .ok (.goto 8, 3) := by decide +kernel
theorem nD_X3_shortest_31 : decode nC_X3_shortest 31 = .ok (.iload_n 1, 1) := by decide +kernel
theorem nD_X3_shortest_32 : decode nC_X3_shortest 32 = .ok (.iload_n 3, 1) := by decide +kernel
theorem nD_X3_shortest_33 : decode nC_X3_shortest 33 = .ok (.invokestatic 37, 3) := by decide +kernel
theorem nD_X3_shortest_36 : decode nC_X3_shortest 36 = .ok (.istore_n 1, 1) := by decide +kernel
theorem nD_X3_shortest_37 : decode nC_X3_shortest 37 = .ok (.iinc 2 1, 3) := by decide +kernel
theorem nD_X3_shortest_40 : decode nC_X3_shortest 40 = .ok (.goto (-36), 3) := by decide +kernel
theorem nD_X3_shortest_43 : decode nC_X3_shortest 43 = .ok (.iload_n 1, 1) := by decide +kernel
theorem nD_X3_shortest_44 : decode nC_X3_shortest 44 = .ok (.ireturn, 1) := by decide +kernel
theorem nD_X5_most_0 : decode nC_X5_most 0 = .ok (.aload_n 0, 1) := by decide +kernel
theorem nD_X5_most_1 : decode nC_X5_most 1 = .ok (.getfield 32, 3) := by decide +kernel
theorem nD_X5_most_4 : decode nC_X5_most 4 = .ok (.getfield 97, 3) := by decide +kernel
theorem nD_X5_most_7 : decode nC_X5_most 7 = .ok (.invokevirtual 110, 3) := by decide +kernel
theorem nD_X5_most_10 : decode nC_X5_most 10 = .ok (.ireturn, 1) := by decide +kernel
theorem nD_X3_longest_0 : decode nC_X3_longest 0 = .ok (.iconst (-1), 1) := by decide +kernel
theorem nD_X3_longest_1 : decode nC_X3_longest 1 = .ok (.istore_n 1, 1) := by decide +kernel
theorem nD_X3_longest_2 : decode nC_X3_longest 2 = .ok (.iconst 0, 1) := by decide +kernel
theorem nD_X3_longest_3 : decode nC_X3_longest 3 = .ok (.istore_n 2, 1) := by decide +kernel
theorem nD_X3_longest_4 : decode nC_X3_longest 4 = .ok (.iload_n 2, 1) := by decide +kernel
theorem nD_X3_longest_5 : decode nC_X3_longest 5 = .ok (.aload_n 0, 1) := by decide +kernel
theorem nD_X3_longest_6 : decode nC_X3_longest 6 = .ok (.getfield 25, 3) := by decide +kernel
theorem nD_X3_longest_9 : decode nC_X3_longest 9 = .ok (.if_icmp .ge 23, 3) := by decide +kernel
theorem nD_X3_longest_12 : decode nC_X3_longest 12 = .ok (.iload_n 1, 1) := by decide +kernel
theorem nD_X3_longest_13 : decode nC_X3_longest 13 = .ok (.aload_n 0, 1) := by decide +kernel
theorem nD_X3_longest_14 : decode nC_X3_longest 14 = .ok (.getfield 11, 3) := by decide +kernel
theorem nD_X3_longest_17 : decode nC_X3_longest 17 = .ok (.iload_n 2, 1) := by decide +kernel
theorem nD_X3_longest_18 : decode nC_X3_longest 18 = .ok (.laload, 1) := by decide +kernel
theorem nD_X3_longest_19 : decode nC_X3_longest 19 = .ok (.invokestatic 31, 3) := by decide +kernel
theorem nD_X3_longest_22 : decode nC_X3_longest 22 = .ok (.invokestatic 43, 3) := by decide +kernel
theorem nD_X3_longest_25 : decode nC_X3_longest 25 = .ok (.istore_n 1, 1) := by decide +kernel
theorem nD_X3_longest_26 : decode nC_X3_longest 26 = .ok (.iinc 2 1, 3) := by decide +kernel
theorem nD_X3_longest_29 : decode nC_X3_longest 29 = .ok (.goto (-25), 3) := by decide +kernel
theorem nD_X3_longest_32 : decode nC_X3_longest 32 = .ok (.iload_n 1, 1) := by decide +kernel
theorem nD_X3_longest_33 : decode nC_X3_longest 33 = .ok (.ireturn, 1) := by decide +kernel
theorem nD_X5_mayHold_0 : decode nC_X5_mayHold 0 = .ok (.aload_n 0, 1) := by decide +kernel
theorem nD_X5_mayHold_1 : decode nC_X5_mayHold 1 = .ok (.getfield 32, 3) := by decide +kernel
theorem nD_X5_mayHold_4 : decode nC_X5_mayHold 4 = .ok (.getfield 97, 3) := by decide +kernel
theorem nD_X5_mayHold_7 : decode nC_X5_mayHold 7 = .ok (.iload_n 1, 1) := by decide +kernel
theorem nD_X5_mayHold_8 : decode nC_X5_mayHold 8 = .ok (.iload_n 2, 1) := by decide +kernel
theorem nD_X5_mayHold_9 : decode nC_X5_mayHold 9 = .ok (.invokevirtual 113, 3) := by decide +kernel
theorem nD_X5_mayHold_12 : decode nC_X5_mayHold 12 = .ok (.ireturn, 1) := by decide +kernel
theorem nD_X3_anyHas_0 : decode nC_X3_anyHas 0 = .ok (.iconst 0, 1) := by decide +kernel
theorem nD_X3_anyHas_1 : decode nC_X3_anyHas 1 = .ok (.istore_n 3, 1) := by decide +kernel
theorem nD_X3_anyHas_2 : decode nC_X3_anyHas 2 = .ok (.iload_n 3, 1) := by decide +kernel
theorem nD_X3_anyHas_3 : decode nC_X3_anyHas 3 = .ok (.aload_n 0, 1) := by decide +kernel
theorem nD_X3_anyHas_4 : decode nC_X3_anyHas 4 = .ok (.getfield 25, 3) := by decide +kernel
theorem nD_X3_anyHas_7 : decode nC_X3_anyHas 7 = .ok (.if_icmp .ge 42, 3) := by decide +kernel
theorem nD_X3_anyHas_10 : decode nC_X3_anyHas 10 = .ok (.iload_n 1, 1) := by decide +kernel
theorem nD_X3_anyHas_11 : decode nC_X3_anyHas 11 = .ok (.ifCond .lt 32, 3) := by decide +kernel
theorem nD_X3_anyHas_14 : decode nC_X3_anyHas 14 = .ok (.iload_n 1, 1) := by decide +kernel
theorem nD_X3_anyHas_15 : decode nC_X3_anyHas 15 = .ok (.aload_n 0, 1) := by decide +kernel
theorem nD_X3_anyHas_16 : decode nC_X3_anyHas 16 = .ok (.getfield 11, 3) := by decide +kernel
theorem nD_X3_anyHas_19 : decode nC_X3_anyHas 19 = .ok (.iload_n 3, 1) := by decide +kernel
theorem nD_X3_anyHas_20 : decode nC_X3_anyHas 20 = .ok (.laload, 1) := by decide +kernel
theorem nD_X3_anyHas_21 : decode nC_X3_anyHas 21 = .ok (.invokestatic 31, 3) := by decide +kernel
theorem nD_X3_anyHas_24 : decode nC_X3_anyHas 24 = .ok (.if_icmp .ge 19, 3) := by decide +kernel
theorem nD_X3_anyHas_27 : decode nC_X3_anyHas 27 = .ok (.aload_n 0, 1) := by decide +kernel
theorem nD_X3_anyHas_28 : decode nC_X3_anyHas 28 = .ok (.getfield 11, 3) := by decide +kernel
theorem nD_X3_anyHas_31 : decode nC_X3_anyHas 31 = .ok (.iload_n 3, 1) := by decide +kernel
theorem nD_X3_anyHas_32 : decode nC_X3_anyHas 32 = .ok (.laload, 1) := by decide +kernel
theorem nD_X3_anyHas_33 : decode nC_X3_anyHas 33 = .ok (.iload_n 1, 1) := by decide +kernel
theorem nD_X3_anyHas_34 : decode nC_X3_anyHas 34 = .ok (.invokestatic 46, 3) := by decide +kernel
theorem nD_X3_anyHas_37 : decode nC_X3_anyHas 37 = .ok (.iload_n 2, 1) := by decide +kernel
theorem nD_X3_anyHas_38 : decode nC_X3_anyHas 38 = .ok (.if_icmp .ne 5, 3) := by decide +kernel
theorem nD_X3_anyHas_41 : decode nC_X3_anyHas 41 = .ok (.iconst 1, 1) := by decide +kernel
theorem nD_X3_anyHas_42 : decode nC_X3_anyHas 42 = .ok (.ireturn, 1) := by decide +kernel
theorem nD_X3_anyHas_43 : decode nC_X3_anyHas 43 = .ok (.iinc 3 1, 3) := by decide +kernel
theorem nD_X3_anyHas_46 : decode nC_X3_anyHas 46 = .ok (.goto (-44), 3) := by decide +kernel
theorem nD_X3_anyHas_49 : decode nC_X3_anyHas 49 = .ok (.iconst 0, 1) := by decide +kernel
theorem nD_X3_anyHas_50 : decode nC_X3_anyHas 50 = .ok (.ireturn, 1) := by decide +kernel
theorem nD_X5_certain_0 : decode nC_X5_certain 0 = .ok (.aload_n 0, 1) := by decide +kernel
theorem nD_X5_certain_1 : decode nC_X5_certain 1 = .ok (.invokevirtual 117, 3) := by decide +kernel
theorem nD_X5_certain_4 : decode nC_X5_certain 4 = .ok (.ifCond .eq 34, 3) := by decide +kernel
theorem nD_X5_certain_7 : decode nC_X5_certain 7 = .ok (.aload_n 0, 1) := by decide +kernel
theorem nD_X5_certain_8 : decode nC_X5_certain 8 = .ok (.iload_n 1, 1) := by decide +kernel
theorem nD_X5_certain_9 : decode nC_X5_certain 9 = .ok (.invokevirtual 72, 3) := by decide +kernel
theorem nD_X5_certain_12 : decode nC_X5_certain 12 = .ok (.ifCond .eq 26, 3) := by decide +kernel
theorem nD_X5_certain_15 : decode nC_X5_certain 15 = .ok (.aload_n 0, 1) := by decide +kernel
theorem nD_X5_certain_16 : decode nC_X5_certain 16 = .ok (.getfield 32, 3) := by decide +kernel
theorem nD_X5_certain_19 : decode nC_X5_certain 19 = .ok (.getfield 121, 3) := by decide +kernel
theorem nD_X5_certain_22 : decode nC_X5_certain 22 = .ok (.iload_n 1, 1) := by decide +kernel
theorem nD_X5_certain_23 : decode nC_X5_certain 23 = .ok (.iaload, 1) := by decide +kernel
theorem nD_X5_certain_24 : decode nC_X5_certain 24 = .ok (.aload_n 0, 1) := by decide +kernel
theorem nD_X5_certain_25 : decode nC_X5_certain 25 = .ok (.getfield 32, 3) := by decide +kernel
theorem nD_X5_certain_28 : decode nC_X5_certain 28 = .ok (.getfield 91, 3) := by decide +kernel
theorem nD_X5_certain_31 : decode nC_X5_certain 31 = .ok (.if_icmp .ne 7, 3) := by decide +kernel
theorem nD_X5_certain_34 : decode nC_X5_certain 34 = .ok (.iconst 1, 1) := by decide +kernel
theorem nD_X5_certain_35 : decode nC_X5_certain 35 = .ok (.goto 4, 3) := by decide +kernel
theorem nD_X5_certain_38 : decode nC_X5_certain 38 = .ok (.iconst 0, 1) := by decide +kernel
theorem nD_X5_certain_39 : decode nC_X5_certain 39 = .ok (.ireturn, 1) := by decide +kernel
theorem nD_X5_answers_0 : decode nC_X5_answers 0 = .ok (.aload_n 0, 1) := by decide +kernel
theorem nD_X5_answers_1 : decode nC_X5_answers 1 = .ok (.iload_n 1, 1) := by decide +kernel
theorem nD_X5_answers_2 : decode nC_X5_answers 2 = .ok (.invokevirtual 72, 3) := by decide +kernel
theorem nD_X5_answers_5 : decode nC_X5_answers 5 = .ok (.ifCond .eq 18, 3) := by decide +kernel
theorem nD_X5_answers_8 : decode nC_X5_answers 8 = .ok (.aload_n 0, 1) := by decide +kernel
theorem nD_X5_answers_9 : decode nC_X5_answers 9 = .ok (.getfield 32, 3) := by decide +kernel
theorem nD_X5_answers_12 : decode nC_X5_answers 12 = .ok (.getfield 124, 3) := by decide +kernel
theorem nD_X5_answers_15 : decode nC_X5_answers 15 = .ok (.iload_n 1, 1) := by decide +kernel
theorem nD_X5_answers_16 : decode nC_X5_answers 16 = .ok (.iaload, 1) := by decide +kernel
theorem nD_X5_answers_17 : decode nC_X5_answers 17 = .ok (.invokestatic 127, 3) := by decide +kernel
theorem nD_X5_answers_20 : decode nC_X5_answers 20 = .ok (.goto 4, 3) := by decide +kernel
theorem nD_X5_answers_23 : decode nC_X5_answers 23 = .ok (.iconst 0, 1) := by decide +kernel
theorem nD_X5_answers_24 : decode nC_X5_answers 24 = .ok (.ireturn, 1) := by decide +kernel
theorem nD_JI_bitCount_0 : decode nC_JI_bitCount 0 = .ok (.iload_n 0, 1) := by decide +kernel
theorem nD_JI_bitCount_1 : decode nC_JI_bitCount 1 = .ok (.iload_n 0, 1) := by decide +kernel
theorem nD_JI_bitCount_2 : decode nC_JI_bitCount 2 = .ok (.iconst 1, 1) := by decide +kernel
theorem nD_JI_bitCount_3 : decode nC_JI_bitCount 3 = .ok (.iushr, 1) := by decide +kernel
theorem nD_JI_bitCount_4 : decode nC_JI_bitCount 4 = .ok (.ldc_w 265, 3) := by decide +kernel
theorem nD_JI_bitCount_7 : decode nC_JI_bitCount 7 = .ok (.iand, 1) := by decide +kernel
theorem nD_JI_bitCount_8 : decode nC_JI_bitCount 8 = .ok (.isub, 1) := by decide +kernel
theorem nD_JI_bitCount_9 : decode nC_JI_bitCount 9 = .ok (.istore_n 0, 1) := by decide +kernel
theorem nD_JI_bitCount_10 : decode nC_JI_bitCount 10 = .ok (.iload_n 0, 1) := by decide +kernel
theorem nD_JI_bitCount_11 : decode nC_JI_bitCount 11 = .ok (.ldc_w 266, 3) := by decide +kernel
theorem nD_JI_bitCount_14 : decode nC_JI_bitCount 14 = .ok (.iand, 1) := by decide +kernel
theorem nD_JI_bitCount_15 : decode nC_JI_bitCount 15 = .ok (.iload_n 0, 1) := by decide +kernel
theorem nD_JI_bitCount_16 : decode nC_JI_bitCount 16 = .ok (.iconst 2, 1) := by decide +kernel
theorem nD_JI_bitCount_17 : decode nC_JI_bitCount 17 = .ok (.iushr, 1) := by decide +kernel
theorem nD_JI_bitCount_18 : decode nC_JI_bitCount 18 = .ok (.ldc_w 266, 3) := by decide +kernel
theorem nD_JI_bitCount_21 : decode nC_JI_bitCount 21 = .ok (.iand, 1) := by decide +kernel
theorem nD_JI_bitCount_22 : decode nC_JI_bitCount 22 = .ok (.iadd, 1) := by decide +kernel
theorem nD_JI_bitCount_23 : decode nC_JI_bitCount 23 = .ok (.istore_n 0, 1) := by decide +kernel
theorem nD_JI_bitCount_24 : decode nC_JI_bitCount 24 = .ok (.iload_n 0, 1) := by decide +kernel
theorem nD_JI_bitCount_25 : decode nC_JI_bitCount 25 = .ok (.iload_n 0, 1) := by decide +kernel
theorem nD_JI_bitCount_26 : decode nC_JI_bitCount 26 = .ok (.iconst 4, 1) := by decide +kernel
theorem nD_JI_bitCount_27 : decode nC_JI_bitCount 27 = .ok (.iushr, 1) := by decide +kernel
theorem nD_JI_bitCount_28 : decode nC_JI_bitCount 28 = .ok (.iadd, 1) := by decide +kernel
theorem nD_JI_bitCount_29 : decode nC_JI_bitCount 29 = .ok (.ldc_w 267, 3) := by decide +kernel
theorem nD_JI_bitCount_32 : decode nC_JI_bitCount 32 = .ok (.iand, 1) := by decide +kernel
theorem nD_JI_bitCount_33 : decode nC_JI_bitCount 33 = .ok (.istore_n 0, 1) := by decide +kernel
theorem nD_JI_bitCount_34 : decode nC_JI_bitCount 34 = .ok (.iload_n 0, 1) := by decide +kernel
theorem nD_JI_bitCount_35 : decode nC_JI_bitCount 35 = .ok (.iload_n 0, 1) := by decide +kernel
theorem nD_JI_bitCount_36 : decode nC_JI_bitCount 36 = .ok (.bipush 8, 2) := by decide +kernel
theorem nD_JI_bitCount_38 : decode nC_JI_bitCount 38 = .ok (.iushr, 1) := by decide +kernel
theorem nD_JI_bitCount_39 : decode nC_JI_bitCount 39 = .ok (.iadd, 1) := by decide +kernel
theorem nD_JI_bitCount_40 : decode nC_JI_bitCount 40 = .ok (.istore_n 0, 1) := by decide +kernel
theorem nD_JI_bitCount_41 : decode nC_JI_bitCount 41 = .ok (.iload_n 0, 1) := by decide +kernel
theorem nD_JI_bitCount_42 : decode nC_JI_bitCount 42 = .ok (.iload_n 0, 1) := by decide +kernel
theorem nD_JI_bitCount_43 : decode nC_JI_bitCount 43 = .ok (.bipush 16, 2) := by decide +kernel
theorem nD_JI_bitCount_45 : decode nC_JI_bitCount 45 = .ok (.iushr, 1) := by decide +kernel
theorem nD_JI_bitCount_46 : decode nC_JI_bitCount 46 = .ok (.iadd, 1) := by decide +kernel
theorem nD_JI_bitCount_47 : decode nC_JI_bitCount 47 = .ok (.istore_n 0, 1) := by decide +kernel
theorem nD_JI_bitCount_48 : decode nC_JI_bitCount 48 = .ok (.iload_n 0, 1) := by decide +kernel
theorem nD_JI_bitCount_49 : decode nC_JI_bitCount 49 = .ok (.bipush 63, 2) := by decide +kernel
theorem nD_JI_bitCount_51 : decode nC_JI_bitCount 51 = .ok (.iand, 1) := by decide +kernel
theorem nD_JI_bitCount_52 : decode nC_JI_bitCount 52 = .ok (.ireturn, 1) := by decide +kernel
theorem nD_L_cell_0 : decode nC_L_cell 0 = .ok (.iload_n 1, 1) := by decide +kernel
theorem nD_L_cell_1 : decode nC_L_cell 1 = .ok (.aload_n 0, 1) := by decide +kernel
theorem nD_L_cell_2 : decode nC_L_cell 2 = .ok (.arraylength, 1) := by decide +kernel
theorem nD_L_cell_3 : decode nC_L_cell 3 = .ok (.if_icmp .ge 9, 3) := by decide +kernel
theorem nD_L_cell_6 : decode nC_L_cell 6 = .ok (.aload_n 0, 1) := by decide +kernel
theorem nD_L_cell_7 : decode nC_L_cell 7 = .ok (.iload_n 1, 1) := by decide +kernel
theorem nD_L_cell_8 : decode nC_L_cell 8 = .ok (.iaload, 1) := by decide +kernel
theorem nD_L_cell_9 : decode nC_L_cell 9 = .ok (.goto 4, 3) := by decide +kernel
theorem nD_L_cell_12 : decode nC_L_cell 12 = .ok (.iconst 0, 1) := by decide +kernel
theorem nD_L_cell_13 : decode nC_L_cell 13 = .ok (.ireturn, 1) := by decide +kernel
theorem nD_M_init_0 : decode nC_M_init 0 = .ok (.aload_n 0, 1) := by decide +kernel
theorem nD_M_init_1 : decode nC_M_init 1 = .ok (.invokespecial 1, 3) := by decide +kernel
theorem nD_M_init_4 : decode nC_M_init 4 = .ok (.aload_n 0, 1) := by decide +kernel
theorem nD_M_init_5 : decode nC_M_init 5 = .ok (.bipush 8, 2) := by decide +kernel
theorem nD_M_init_7 : decode nC_M_init 7 = .ok (.newarray .int, 2) := by decide +kernel
theorem nD_M_init_9 : decode nC_M_init 9 = .ok (.putfield 7, 3) := by decide +kernel
theorem nD_M_init_12 : decode nC_M_init 12 = .ok (.aload_n 0, 1) := by decide +kernel
theorem nD_M_init_13 : decode nC_M_init 13 = .ok (.bipush 8, 2) := by decide +kernel
theorem nD_M_init_15 : decode nC_M_init 15 = .ok (.newarray .boolean, 2) := by decide +kernel
theorem nD_M_init_17 : decode nC_M_init 17 = .ok (.putfield 13, 3) := by decide +kernel
theorem nD_M_init_20 : decode nC_M_init 20 = .ok (.aload_n 0, 1) := by decide +kernel
theorem nD_M_init_21 : decode nC_M_init 21 = .ok (.bipush 8, 2) := by decide +kernel
theorem nD_M_init_23 : decode nC_M_init 23 = .ok (.newarray .int, 2) := by decide +kernel
theorem nD_M_init_25 : decode nC_M_init 25 = .ok (.putfield 17, 3) := by decide +kernel
theorem nD_M_init_28 : decode nC_M_init 28 = .ok (.aload_n 0, 1) := by decide +kernel
theorem nD_M_init_29 : decode nC_M_init 29 = .ok (.bipush 8, 2) := by decide +kernel
theorem nD_M_init_31 : decode nC_M_init 31 = .ok (.newarray .int, 2) := by decide +kernel
theorem nD_M_init_33 : decode nC_M_init 33 = .ok (.putfield 20, 3) := by decide +kernel
theorem nD_M_init_36 : decode nC_M_init 36 = .ok (.aload_n 0, 1) := by decide +kernel
theorem nD_M_init_37 : decode nC_M_init 37 = .ok (.bipush 8, 2) := by decide +kernel
theorem nD_M_init_39 : decode nC_M_init 39 = .ok (.newarray .int, 2) := by decide +kernel
theorem nD_M_init_41 : decode nC_M_init 41 = .ok (.putfield 23, 3) := by decide +kernel
theorem nD_M_init_44 : decode nC_M_init 44 = .ok (.aload_n 0, 1) := by decide +kernel
theorem nD_M_init_45 : decode nC_M_init 45 = .ok (.bipush 8, 2) := by decide +kernel
theorem nD_M_init_47 : decode nC_M_init 47 = .ok (.newarray .int, 2) := by decide +kernel
theorem nD_M_init_49 : decode nC_M_init 49 = .ok (.putfield 26, 3) := by decide +kernel
theorem nD_M_init_52 : decode nC_M_init 52 = .ok (.aload_n 0, 1) := by decide +kernel
theorem nD_M_init_53 : decode nC_M_init 53 = .ok (.bipush 8, 2) := by decide +kernel
theorem nD_M_init_55 : decode nC_M_init 55 = .ok (.newarray .int, 2) := by decide +kernel
theorem nD_M_init_57 : decode nC_M_init 57 = .ok (.putfield 29, 3) := by decide +kernel
theorem nD_M_init_60 : decode nC_M_init 60 = .ok (.aload_n 0, 1) := by decide +kernel
theorem nD_M_init_61 : decode nC_M_init 61 = .ok (.bipush 8, 2) := by decide +kernel
theorem nD_M_init_63 : decode nC_M_init 63 = .ok (.newarray .int, 2) := by decide +kernel
theorem nD_M_init_65 : decode nC_M_init 65 = .ok (.putfield 32, 3) := by decide +kernel
theorem nD_M_init_68 : decode nC_M_init 68 = .ok (.aload_n 0, 1) := by decide +kernel
theorem nD_M_init_69 : decode nC_M_init 69 = .ok (.bipush 8, 2) := by decide +kernel
theorem nD_M_init_71 : decode nC_M_init 71 = .ok (.newarray .int, 2) := by decide +kernel
theorem nD_M_init_73 : decode nC_M_init 73 = .ok (.putfield 35, 3) := by decide +kernel
theorem nD_M_init_76 : decode nC_M_init 76 = .ok (.aload_n 0, 1) := by decide +kernel
theorem nD_M_init_77 : decode nC_M_init 77 = .ok (.bipush 9, 2) := by decide +kernel
theorem nD_M_init_79 : decode nC_M_init 79 = .ok (.newarray .int, 2) := by decide +kernel
theorem nD_M_init_81 : decode nC_M_init 81 = .ok (.putfield 38, 3) := by decide +kernel
theorem nD_M_init_84 : decode nC_M_init 84 = .ok (.aload_n 0, 1) := by decide +kernel
theorem nD_M_init_85 : decode nC_M_init 85 = .ok (.bipush 8, 2) := by decide +kernel
theorem nD_M_init_87 : decode nC_M_init 87 = .ok (.newarray .int, 2) := by decide +kernel
theorem nD_M_init_89 : decode nC_M_init 89 = .ok (.putfield 41, 3) := by decide +kernel
theorem nD_M_init_92 : decode nC_M_init 92 = .ok (.aload_n 0, 1) := by decide +kernel
theorem nD_M_init_93 : decode nC_M_init 93 = .ok (.sipush 1400, 3) := by decide +kernel
theorem nD_M_init_96 : decode nC_M_init 96 = .ok (.newarray .long, 2) := by decide +kernel
theorem nD_M_init_98 : decode nC_M_init 98 = .ok (.putfield 44, 3) := by decide +kernel
theorem nD_M_init_101 : decode nC_M_init 101 = .ok (.aload_n 0, 1) := by decide +kernel
theorem nD_M_init_102 : decode nC_M_init 102 = .ok (.iconst 3, 1) := by decide +kernel
theorem nD_M_init_103 : decode nC_M_init 103 = .ok (.newarray .long, 2) := by decide +kernel
theorem nD_M_init_105 : decode nC_M_init 105 = .ok (.putfield 48, 3) := by decide +kernel
theorem nD_M_init_108 : decode nC_M_init 108 = .ok (.aload_n 0, 1) := by decide +kernel
theorem nD_M_init_109 : decode nC_M_init 109 = .ok (.iconst 3, 1) := by decide +kernel
theorem nD_M_init_110 : decode nC_M_init 110 = .ok (.newarray .int, 2) := by decide +kernel
theorem nD_M_init_112 : decode nC_M_init 112 = .ok (.putfield 51, 3) := by decide +kernel
theorem nD_M_init_115 : decode nC_M_init 115 = .ok (.aload_n 0, 1) := by decide +kernel
theorem nD_M_init_116 : decode nC_M_init 116 = .ok (.iload_n 1, 1) := by decide +kernel
theorem nD_M_init_117 : decode nC_M_init 117 = .ok (.iload_n 2, 1) := by decide +kernel
theorem nD_M_init_118 : decode nC_M_init 118 = .ok (.invokevirtual 54, 3) := by decide +kernel
theorem nD_M_init_121 : decode nC_M_init 121 = .ok (.return_, 1) := by decide +kernel
theorem nD_M_renew_0 : decode nC_M_renew 0 = .ok (.aload_n 0, 1) := by decide +kernel
theorem nD_M_renew_1 : decode nC_M_renew 1 = .ok (.iload_n 1, 1) := by decide +kernel
theorem nD_M_renew_2 : decode nC_M_renew 2 = .ok (.iconst 1, 1) := by decide +kernel
theorem nD_M_renew_3 : decode nC_M_renew 3 = .ok (.if_icmp .eq 8, 3) := by decide +kernel
theorem nD_M_renew_6 : decode nC_M_renew 6 = .ok (.iload_n 1, 1) := by decide +kernel
theorem nD_M_renew_7 : decode nC_M_renew 7 = .ok (.iconst 2, 1) := by decide +kernel
theorem nD_M_renew_8 : decode nC_M_renew 8 = .ok (.if_icmp .ne 7, 3) := by decide +kernel
theorem nD_M_renew_11 : decode nC_M_renew 11 = .ok (.iload_n 1, 1) := by decide +kernel
theorem nD_M_renew_12 : decode nC_M_renew 12 = .ok (.goto 4, 3) := by decide +kernel
theorem nD_M_renew_15 : decode nC_M_renew 15 = .ok (.iconst 0, 1) := by decide +kernel
theorem nD_M_renew_16 : decode nC_M_renew 16 = .ok (.putfield 58, 3) := by decide +kernel
theorem nD_M_renew_19 : decode nC_M_renew 19 = .ok (.aload_n 0, 1) := by decide +kernel
theorem nD_M_renew_20 : decode nC_M_renew 20 = .ok (.iload_n 2, 1) := by decide +kernel
theorem nD_M_renew_21 : decode nC_M_renew 21 = .ok (.iconst 1, 1) := by decide +kernel
theorem nD_M_renew_22 : decode nC_M_renew 22 = .ok (.if_icmp .ge 7, 3) := by decide +kernel
theorem nD_M_renew_25 : decode nC_M_renew 25 = .ok (.iconst 1, 1) := by decide +kernel
theorem nD_M_renew_26 : decode nC_M_renew 26 = .ok (.goto 15, 3) := by decide +kernel
theorem nD_M_renew_29 : decode nC_M_renew 29 = .ok (.iload_n 2, 1) := by decide +kernel
theorem nD_M_renew_30 : decode nC_M_renew 30 = .ok (.bipush 8, 2) := by decide +kernel
theorem nD_M_renew_32 : decode nC_M_renew 32 = .ok (.if_icmp .le 8, 3) := by decide +kernel
theorem nD_M_renew_35 : decode nC_M_renew 35 = .ok (.bipush 8, 2) := by decide +kernel
theorem nD_M_renew_37 : decode nC_M_renew 37 = .ok (.goto 4, 3) := by decide +kernel
theorem nD_M_renew_40 : decode nC_M_renew 40 = .ok (.iload_n 2, 1) := by decide +kernel
theorem nD_M_renew_41 : decode nC_M_renew 41 = .ok (.putfield 62, 3) := by decide +kernel
theorem nD_M_renew_44 : decode nC_M_renew 44 = .ok (.aload_n 0, 1) := by decide +kernel
theorem nD_M_renew_45 : decode nC_M_renew 45 = .ok (.iconst 0, 1) := by decide +kernel
theorem nD_M_renew_46 : decode nC_M_renew 46 = .ok (.putfield 65, 3) := by decide +kernel
theorem nD_M_renew_49 : decode nC_M_renew 49 = .ok (.aload_n 0, 1) := by decide +kernel
theorem nD_M_renew_50 : decode nC_M_renew 50 = .ok (.iconst 0, 1) := by decide +kernel
theorem nD_M_renew_51 : decode nC_M_renew 51 = .ok (.putfield 68, 3) := by decide +kernel
theorem nD_M_renew_54 : decode nC_M_renew 54 = .ok (.aload_n 0, 1) := by decide +kernel
theorem nD_M_renew_55 : decode nC_M_renew 55 = .ok (.iconst 0, 1) := by decide +kernel
theorem nD_M_renew_56 : decode nC_M_renew 56 = .ok (.putfield 71, 3) := by decide +kernel
theorem nD_M_renew_59 : decode nC_M_renew 59 = .ok (.aload_n 0, 1) := by decide +kernel
theorem nD_M_renew_60 : decode nC_M_renew 60 = .ok (.invokevirtual 74, 3) := by decide +kernel
theorem nD_M_renew_63 : decode nC_M_renew 63 = .ok (.return_, 1) := by decide +kernel
theorem nD_M_work_0 : decode nC_M_work 0 = .ok (.aload_n 0, 1) := by decide +kernel
theorem nD_M_work_1 : decode nC_M_work 1 = .ok (.lconst 0, 1) := by decide +kernel
theorem nD_M_work_2 : decode nC_M_work 2 = .ok (.putfield 77, 3) := by decide +kernel
theorem nD_M_work_5 : decode nC_M_work 5 = .ok (.aload_n 0, 1) := by decide +kernel
theorem nD_M_work_6 : decode nC_M_work 6 = .ok (.iconst 0, 1) := by decide +kernel
theorem nD_M_work_7 : decode nC_M_work 7 = .ok (.putfield 109, 3) := by decide +kernel
theorem nD_M_work_10 : decode nC_M_work 10 = .ok (.iconst 0, 1) := by decide +kernel
theorem nD_M_work_11 : decode nC_M_work 11 = .ok (.istore_n 1, 1) := by decide +kernel
theorem nD_M_work_12 : decode nC_M_work 12 = .ok (.iload_n 1, 1) := by decide +kernel
theorem nD_M_work_13 : decode nC_M_work 13 = .ok (.iconst 3, 1) := by decide +kernel
theorem nD_M_work_14 : decode nC_M_work 14 = .ok (.if_icmp .ge 23, 3) := by decide +kernel
theorem nD_M_work_17 : decode nC_M_work 17 = .ok (.aload_n 0, 1) := by decide +kernel
theorem nD_M_work_18 : decode nC_M_work 18 = .ok (.getfield 48, 3) := by decide +kernel
theorem nD_M_work_21 : decode nC_M_work 21 = .ok (.iload_n 1, 1) := by decide +kernel
theorem nD_M_work_22 : decode nC_M_work 22 = .ok (.lconst 0, 1) := by decide +kernel
theorem nD_M_work_23 : decode nC_M_work 23 = .ok (.lastore, 1) := by decide +kernel
theorem nD_M_work_24 : decode nC_M_work 24 = .ok (.aload_n 0, 1) := by decide +kernel
theorem nD_M_work_25 : decode nC_M_work 25 = .ok (.getfield 51, 3) := by decide +kernel
theorem nD_M_work_28 : decode nC_M_work 28 = .ok (.iload_n 1, 1) := by decide +kernel
theorem nD_M_work_29 : decode nC_M_work 29 = .ok (.iconst 0, 1) := by decide +kernel
theorem nD_M_work_30 : decode nC_M_work 30 = .ok (.iastore, 1) := by decide +kernel
theorem nD_M_work_31 : decode nC_M_work 31 = .ok (.iinc 1 1, 3) := by decide +kernel
theorem nD_M_work_34 : decode nC_M_work 34 = .ok (.goto (-22), 3) := by decide +kernel
theorem nD_M_work_37 : decode nC_M_work 37 = .ok (.aload_n 0, 1) := by decide +kernel
theorem nD_M_work_38 : decode nC_M_work 38 = .ok (.iconst 0, 1) := by decide +kernel
theorem nD_M_work_39 : decode nC_M_work 39 = .ok (.putfield 99, 3) := by decide +kernel
theorem nD_M_work_42 : decode nC_M_work 42 = .ok (.aload_n 0, 1) := by decide +kernel
theorem nD_M_work_43 : decode nC_M_work 43 = .ok (.getfield 38, 3) := by decide +kernel
theorem nD_M_work_46 : decode nC_M_work 46 = .ok (.iconst 0, 1) := by decide +kernel
theorem nD_M_work_47 : decode nC_M_work 47 = .ok (.iconst 0, 1) := by decide +kernel
theorem nD_M_work_48 : decode nC_M_work 48 = .ok (.iastore, 1) := by decide +kernel
theorem nD_M_work_49 : decode nC_M_work 49 = .ok (.aload_n 0, 1) := by decide +kernel
theorem nD_M_work_50 : decode nC_M_work 50 = .ok (.iconst 0, 1) := by decide +kernel
theorem nD_M_work_51 : decode nC_M_work 51 = .ok (.putfield 96, 3) := by decide +kernel
theorem nD_M_work_54 : decode nC_M_work 54 = .ok (.aload_n 0, 1) := by decide +kernel
theorem nD_M_work_55 : decode nC_M_work 55 = .ok (.invokevirtual 112, 3) := by decide +kernel
theorem nD_M_work_58 : decode nC_M_work 58 = .ok (.iconst 0, 1) := by decide +kernel
theorem nD_M_work_59 : decode nC_M_work 59 = .ok (.istore_n 1, 1) := by decide +kernel
theorem nD_M_work_60 : decode nC_M_work 60 = .ok (.iload_n 1, 1) := by decide +kernel
theorem nD_M_work_61 : decode nC_M_work 61 = .ok (.ldc 115, 2) := by decide +kernel
theorem nD_M_work_63 : decode nC_M_work 63 = .ok (.if_icmp .ge 83, 3) := by decide +kernel
theorem nD_M_work_66 : decode nC_M_work 66 = .ok (.aload_n 0, 1) := by decide +kernel
theorem nD_M_work_67 : decode nC_M_work 67 = .ok (.getfield 38, 3) := by decide +kernel
theorem nD_M_work_70 : decode nC_M_work 70 = .ok (.aload_n 0, 1) := by decide +kernel
theorem nD_M_work_71 : decode nC_M_work 71 = .ok (.getfield 99, 3) := by decide +kernel
theorem nD_M_work_74 : decode nC_M_work 74 = .ok (.iaload, 1) := by decide +kernel
theorem nD_M_work_75 : decode nC_M_work 75 = .ok (.istore_n 2, 1) := by decide +kernel
theorem nD_M_work_76 : decode nC_M_work 76 = .ok (.iload_n 2, 1) := by decide +kernel
theorem nD_M_work_77 : decode nC_M_work 77 = .ok (.aload_n 0, 1) := by decide +kernel
theorem nD_M_work_78 : decode nC_M_work 78 = .ok (.getfield 71, 3) := by decide +kernel
theorem nD_M_work_81 : decode nC_M_work 81 = .ok (.if_icmp .ge 41, 3) := by decide +kernel
theorem nD_M_work_84 : decode nC_M_work 84 = .ok (.aload_n 0, 1) := by decide +kernel
theorem nD_M_work_85 : decode nC_M_work 85 = .ok (.getfield 38, 3) := by decide +kernel
theorem nD_M_work_88 : decode nC_M_work 88 = .ok (.aload_n 0, 1) := by decide +kernel
theorem nD_M_work_89 : decode nC_M_work 89 = .ok (.getfield 99, 3) := by decide +kernel
theorem nD_M_work_92 : decode nC_M_work 92 = .ok (.iload_n 2, 1) := by decide +kernel
theorem nD_M_work_93 : decode nC_M_work 93 = .ok (.iconst 1, 1) := by decide +kernel
theorem nD_M_work_94 : decode nC_M_work 94 = .ok (.iadd, 1) := by decide +kernel
theorem nD_M_work_95 : decode nC_M_work 95 = .ok (.iastore, 1) := by decide +kernel
theorem nD_M_work_96 : decode nC_M_work 96 = .ok (.aload_n 0, 1) := by decide +kernel
theorem nD_M_work_97 : decode nC_M_work 97 = .ok (.getfield 29, 3) := by decide +kernel
theorem nD_M_work_100 : decode nC_M_work 100 = .ok (.iload_n 2, 1) := by decide +kernel
theorem nD_M_work_101 : decode nC_M_work 101 = .ok (.iaload, 1) := by decide +kernel
theorem nD_M_work_102 : decode nC_M_work 102 = .ok (.iconst 2, 1) := by decide +kernel
theorem nD_M_work_103 : decode nC_M_work 103 = .ok (.if_icmp .eq 37, 3) := by decide +kernel
theorem nD_M_work_106 : decode nC_M_work 106 = .ok (.aload_n 0, 1) := by decide +kernel
theorem nD_M_work_107 : decode nC_M_work 107 = .ok (.iload_n 2, 1) := by decide +kernel
theorem nD_M_work_108 : decode nC_M_work 108 = .ok (.invokevirtual 105, 3) := by decide +kernel
theorem nD_M_work_111 : decode nC_M_work 111 = .ok (.ifCond .ne 29, 3) := by decide +kernel
theorem nD_M_work_114 : decode nC_M_work 114 = .ok (.aload_n 0, 1) := by decide +kernel
theorem nD_M_work_115 : decode nC_M_work 115 = .ok (.iload_n 2, 1) := by decide +kernel
theorem nD_M_work_116 : decode nC_M_work 116 = .ok (.invokevirtual 116, 3) := by decide +kernel
theorem nD_M_work_119 : decode nC_M_work 119 = .ok (.goto 21, 3) := by decide +kernel
theorem nD_M_work_122 : decode nC_M_work 122 = .ok (.aload_n 0, 1) := by decide +kernel
theorem nD_M_work_123 : decode nC_M_work 123 = .ok (.getfield 99, 3) := by decide +kernel
theorem nD_M_work_126 : decode nC_M_work 126 = .ok (.ifCond .ne 4, 3) := by decide +kernel
theorem nD_M_work_129 : decode nC_M_work 129 = .ok (.return_, 1) := by decide +kernel
theorem nD_M_work_130 : decode nC_M_work 130 = .ok (.aload_n 0, 1) := by decide +kernel
theorem nD_M_work_131 : decode nC_M_work 131 = .ok (.dup, 1) := by decide +kernel
theorem nD_M_work_132 : decode nC_M_work 132 = .ok (.getfield 99, 3) := by decide +kernel
theorem nD_M_work_135 : decode nC_M_work 135 = .ok (.iconst 1, 1) := by decide +kernel
theorem nD_M_work_136 : decode nC_M_work 136 = .ok (.isub, 1) := by decide +kernel
theorem nD_M_work_137 : decode nC_M_work 137 = .ok (.putfield 99, 3) := by decide +kernel
theorem nD_M_work_140 : decode nC_M_work 140 = .ok (.iinc 1 1, 3) := by decide +kernel
theorem nD_M_work_143 : decode nC_M_work 143 = .ok (.goto (-83), 3) := by decide +kernel
theorem nD_M_work_146 : decode nC_M_work 146 = .ok (.return_, 1) := by decide +kernel
theorem nD_M_note_0 : decode nC_M_note 0 = .ok (.iconst 0, 1) := by decide +kernel
theorem nD_M_note_1 : decode nC_M_note 1 = .ok (.istore_n 1, 1) := by decide +kernel
theorem nD_M_note_2 : decode nC_M_note 2 = .ok (.iload_n 1, 1) := by decide +kernel
theorem nD_M_note_3 : decode nC_M_note 3 = .ok (.aload_n 0, 1) := by decide +kernel
theorem nD_M_note_4 : decode nC_M_note 4 = .ok (.getfield 71, 3) := by decide +kernel
theorem nD_M_note_7 : decode nC_M_note 7 = .ok (.if_icmp .ge 28, 3) := by decide +kernel
theorem nD_M_note_10 : decode nC_M_note 10 = .ok (.aload_n 0, 1) := by decide +kernel
theorem nD_M_note_11 : decode nC_M_note 11 = .ok (.getfield 29, 3) := by decide +kernel
theorem nD_M_note_14 : decode nC_M_note 14 = .ok (.iload_n 1, 1) := by decide +kernel
theorem nD_M_note_15 : decode nC_M_note 15 = .ok (.iaload, 1) := by decide +kernel
theorem nD_M_note_16 : decode nC_M_note 16 = .ok (.iconst 1, 1) := by decide +kernel
theorem nD_M_note_17 : decode nC_M_note 17 = .ok (.if_icmp .ne 12, 3) := by decide +kernel
theorem nD_M_note_20 : decode nC_M_note 20 = .ok (.aload_n 0, 1) := by decide +kernel
theorem nD_M_note_21 : decode nC_M_note 21 = .ok (.iload_n 1, 1) := by decide +kernel
theorem nD_M_note_22 : decode nC_M_note 22 = .ok (.invokevirtual 105, 3) := by decide +kernel
theorem nD_M_note_25 : decode nC_M_note 25 = .ok (.ifCond .ne 4, 3) := by decide +kernel
theorem nD_M_note_28 : decode nC_M_note 28 = .ok (.return_, 1) := by decide +kernel
theorem nD_M_note_29 : decode nC_M_note 29 = .ok (.iinc 1 1, 3) := by decide +kernel
theorem nD_M_note_32 : decode nC_M_note 32 = .ok (.goto (-30), 3) := by decide +kernel
theorem nD_M_note_35 : decode nC_M_note 35 = .ok (.aload_n 0, 1) := by decide +kernel
theorem nD_M_note_36 : decode nC_M_note 36 = .ok (.dup, 1) := by decide +kernel
theorem nD_M_note_37 : decode nC_M_note 37 = .ok (.getfield 77, 3) := by decide +kernel
theorem nD_M_note_40 : decode nC_M_note 40 = .ok (.lconst 1, 1) := by decide +kernel
theorem nD_M_note_41 : decode nC_M_note 41 = .ok (.ladd, 1) := by decide +kernel
theorem nD_M_note_42 : decode nC_M_note 42 = .ok (.putfield 77, 3) := by decide +kernel
theorem nD_M_note_45 : decode nC_M_note 45 = .ok (.aload_n 0, 1) := by decide +kernel
theorem nD_M_note_46 : decode nC_M_note 46 = .ok (.getfield 96, 3) := by decide +kernel
theorem nD_M_note_49 : decode nC_M_note 49 = .ok (.i2l, 1) := by decide +kernel
theorem nD_M_note_50 : decode nC_M_note 50 = .ok (.lstore_n 1, 1) := by decide +kernel
theorem nD_M_note_51 : decode nC_M_note 51 = .ok (.iconst 0, 1) := by decide +kernel
theorem nD_M_note_52 : decode nC_M_note 52 = .ok (.istore_n 3, 1) := by decide +kernel
theorem nD_M_note_53 : decode nC_M_note 53 = .ok (.iload_n 3, 1) := by decide +kernel
theorem nD_M_note_54 : decode nC_M_note 54 = .ok (.aload_n 0, 1) := by decide +kernel
theorem nD_M_note_55 : decode nC_M_note 55 = .ok (.getfield 96, 3) := by decide +kernel
theorem nD_M_note_58 : decode nC_M_note 58 = .ok (.if_icmp .ge 25, 3) := by decide +kernel
theorem nD_M_note_61 : decode nC_M_note 61 = .ok (.lload_n 1, 1) := by decide +kernel
theorem nD_M_note_62 : decode nC_M_note 62 = .ok (.aload_n 0, 1) := by decide +kernel
theorem nD_M_note_63 : decode nC_M_note 63 = .ok (.getfield 41, 3) := by decide +kernel
theorem nD_M_note_66 : decode nC_M_note 66 = .ok (.iload_n 3, 1) := by decide +kernel
theorem nD_M_note_67 : decode nC_M_note 67 = .ok (.iaload, 1) := by decide +kernel
theorem nD_M_note_68 : decode nC_M_note 68 = .ok (.i2l, 1) := by decide +kernel
theorem nD_M_note_69 : decode nC_M_note 69 = .ok (.iconst 4, 1) := by decide +kernel
theorem nD_M_note_70 : decode nC_M_note 70 = .ok (.iconst 4, 1) := by decide +kernel
theorem nD_M_note_71 : decode nC_M_note 71 = .ok (.iload_n 3, 1) := by decide +kernel
theorem nD_M_note_72 : decode nC_M_note 72 = .ok (.imul, 1) := by decide +kernel
theorem nD_M_note_73 : decode nC_M_note 73 = .ok (.iadd, 1) := by decide +kernel
theorem nD_M_note_74 : decode nC_M_note 74 = .ok (.lshl, 1) := by decide +kernel
theorem nD_M_note_75 : decode nC_M_note 75 = .ok (.ladd, 1) := by decide +kernel
theorem nD_M_note_76 : decode nC_M_note 76 = .ok (.lstore_n 1, 1) := by decide +kernel
theorem nD_M_note_77 : decode nC_M_note 77 = .ok (.iinc 3 1, 3) := by decide +kernel
theorem nD_M_note_80 : decode nC_M_note 80 = .ok (.goto (-27), 3) := by decide +kernel
theorem nD_M_note_83 : decode nC_M_note 83 = .ok (.iconst 0, 1) := by decide +kernel
theorem nD_M_note_84 : decode nC_M_note 84 = .ok (.istore_n 3, 1) := by decide +kernel
theorem nD_M_note_85 : decode nC_M_note 85 = .ok (.iconst 0, 1) := by decide +kernel
theorem nD_M_note_86 : decode nC_M_note 86 = .ok (.istore 4, 2) := by decide +kernel
theorem nD_M_note_88 : decode nC_M_note 88 = .ok (.iload 4, 2) := by decide +kernel
theorem nD_M_note_90 : decode nC_M_note 90 = .ok (.aload_n 0, 1) := by decide +kernel
theorem nD_M_note_91 : decode nC_M_note 91 = .ok (.getfield 109, 3) := by decide +kernel
theorem nD_M_note_94 : decode nC_M_note 94 = .ok (.if_icmp .ge 31, 3) := by decide +kernel
theorem nD_M_note_97 : decode nC_M_note 97 = .ok (.iload_n 3, 1) := by decide +kernel
theorem nD_M_note_98 : decode nC_M_note 98 = .ok (.ifCond .ne 15, 3) := by decide +kernel
theorem nD_M_note_101 : decode nC_M_note 101 = .ok (.aload_n 0, 1) := by decide +kernel
theorem nD_M_note_102 : decode nC_M_note 102 = .ok (.getfield 44, 3) := by decide +kernel
theorem nD_M_note_105 : decode nC_M_note 105 = .ok (.iload 4, 2) := by decide +kernel
theorem nD_M_note_107 : decode nC_M_note 107 = .ok (.laload, 1) := by decide +kernel
theorem nD_M_note_108 : decode nC_M_note 108 = .ok (.lload_n 1, 1) := by decide +kernel
theorem nD_M_note_109 : decode nC_M_note 109 = .ok (.lcmp, 1) := by decide +kernel
theorem nD_M_note_110 : decode nC_M_note 110 = .ok (.ifCond .ne 7, 3) := by decide +kernel
theorem nD_M_note_113 : decode nC_M_note 113 = .ok (.iconst 1, 1) := by decide +kernel
theorem nD_M_note_114 : decode nC_M_note 114 = .ok (.goto 4, 3) := by decide +kernel
theorem nD_M_note_117 : decode nC_M_note 117 = .ok (.iconst 0, 1) := by decide +kernel
theorem nD_M_note_118 : decode nC_M_note 118 = .ok (.istore_n 3, 1) := by decide +kernel
theorem nD_M_note_119 : decode nC_M_note 119 = .ok (.iinc 4 1, 3) := by decide +kernel
theorem nD_M_note_122 : decode nC_M_note 122 = .ok (.goto (-34), 3) := by decide +kernel
theorem nD_M_note_125 : decode nC_M_note 125 = .ok (.iload_n 3, 1) := by decide +kernel
theorem nD_M_note_126 : decode nC_M_note 126 = .ok (.ifCond .ne 33, 3) := by decide +kernel
theorem nD_M_note_129 : decode nC_M_note 129 = .ok (.aload_n 0, 1) := by decide +kernel
theorem nD_M_note_130 : decode nC_M_note 130 = .ok (.getfield 109, 3) := by decide +kernel
theorem nD_M_note_133 : decode nC_M_note 133 = .ok (.sipush 1400, 3) := by decide +kernel
theorem nD_M_note_136 : decode nC_M_note 136 = .ok (.if_icmp .ge 23, 3) := by decide +kernel
theorem nD_M_note_139 : decode nC_M_note 139 = .ok (.aload_n 0, 1) := by decide +kernel
theorem nD_M_note_140 : decode nC_M_note 140 = .ok (.getfield 44, 3) := by decide +kernel
theorem nD_M_note_143 : decode nC_M_note 143 = .ok (.aload_n 0, 1) := by decide +kernel
theorem nD_M_note_144 : decode nC_M_note 144 = .ok (.getfield 109, 3) := by decide +kernel
theorem nD_M_note_147 : decode nC_M_note 147 = .ok (.lload_n 1, 1) := by decide +kernel
theorem nD_M_note_148 : decode nC_M_note 148 = .ok (.lastore, 1) := by decide +kernel
theorem nD_M_note_149 : decode nC_M_note 149 = .ok (.aload_n 0, 1) := by decide +kernel
theorem nD_M_note_150 : decode nC_M_note 150 = .ok (.dup, 1) := by decide +kernel
theorem nD_M_note_151 : decode nC_M_note 151 = .ok (.getfield 109, 3) := by decide +kernel
theorem nD_M_note_154 : decode nC_M_note 154 = .ok (.iconst 1, 1) := by decide +kernel
theorem nD_M_note_155 : decode nC_M_note 155 = .ok (.iadd, 1) := by decide +kernel
theorem nD_M_note_156 : decode nC_M_note 156 = .ok (.putfield 109, 3) := by decide +kernel
theorem nD_M_note_159 : decode nC_M_note 159 = .ok (.iconst 0, 1) := by decide +kernel
theorem nD_M_note_160 : decode nC_M_note 160 = .ok (.istore 4, 2) := by decide +kernel
theorem nD_M_note_162 : decode nC_M_note 162 = .ok (.iload 4, 2) := by decide +kernel
theorem nD_M_note_164 : decode nC_M_note 164 = .ok (.aload_n 0, 1) := by decide +kernel
theorem nD_M_note_165 : decode nC_M_note 165 = .ok (.getfield 99, 3) := by decide +kernel
theorem nD_M_note_168 : decode nC_M_note 168 = .ok (.if_icmp .ge 90, 3) := by decide +kernel
theorem nD_M_note_171 : decode nC_M_note 171 = .ok (.aload_n 0, 1) := by decide +kernel
theorem nD_M_note_172 : decode nC_M_note 172 = .ok (.getfield 32, 3) := by decide +kernel
theorem nD_M_note_175 : decode nC_M_note 175 = .ok (.iload 4, 2) := by decide +kernel
theorem nD_M_note_177 : decode nC_M_note 177 = .ok (.iaload, 1) := by decide +kernel
theorem nD_M_note_178 : decode nC_M_note 178 = .ok (.istore 5, 2) := by decide +kernel
theorem nD_M_note_180 : decode nC_M_note 180 = .ok (.aload_n 0, 1) := by decide +kernel
theorem nD_M_note_181 : decode nC_M_note 181 = .ok (.getfield 29, 3) := by decide +kernel
theorem nD_M_note_184 : decode nC_M_note 184 = .ok (.iload 5, 2) := by decide +kernel
theorem nD_M_note_186 : decode nC_M_note 186 = .ok (.iaload, 1) := by decide +kernel
theorem nD_M_note_187 : decode nC_M_note 187 = .ok (.ifCond .ne 65, 3) := by decide +kernel
theorem nD_M_note_190 : decode nC_M_note 190 = .ok (.aload_n 0, 1) := by decide +kernel
theorem nD_M_note_191 : decode nC_M_note 191 = .ok (.getfield 48, 3) := by decide +kernel
theorem nD_M_note_194 : decode nC_M_note 194 = .ok (.aload_n 0, 1) := by decide +kernel
theorem nD_M_note_195 : decode nC_M_note 195 = .ok (.getfield 7, 3) := by decide +kernel
theorem nD_M_note_198 : decode nC_M_note 198 = .ok (.iload 5, 2) := by decide +kernel
theorem nD_M_note_200 : decode nC_M_note 200 = .ok (.iaload, 1) := by decide +kernel
theorem nD_M_note_201 : decode nC_M_note 201 = .ok (.aload_n 0, 1) := by decide +kernel
theorem nD_M_note_202 : decode nC_M_note 202 = .ok (.getfield 48, 3) := by decide +kernel
theorem nD_M_note_205 : decode nC_M_note 205 = .ok (.aload_n 0, 1) := by decide +kernel
theorem nD_M_note_206 : decode nC_M_note 206 = .ok (.getfield 7, 3) := by decide +kernel
theorem nD_M_note_209 : decode nC_M_note 209 = .ok (.iload 5, 2) := by decide +kernel
theorem nD_M_note_211 : decode nC_M_note 211 = .ok (.iaload, 1) := by decide +kernel
theorem nD_M_note_212 : decode nC_M_note 212 = .ok (.laload, 1) := by decide +kernel
theorem nD_M_note_213 : decode nC_M_note 213 = .ok (.lconst 1, 1) := by decide +kernel
theorem nD_M_note_214 : decode nC_M_note 214 = .ok (.ladd, 1) := by decide +kernel
theorem nD_M_note_215 : decode nC_M_note 215 = .ok (.lastore, 1) := by decide +kernel
theorem nD_M_note_216 : decode nC_M_note 216 = .ok (.aload_n 0, 1) := by decide +kernel
theorem nD_M_note_217 : decode nC_M_note 217 = .ok (.getfield 51, 3) := by decide +kernel
theorem nD_M_note_220 : decode nC_M_note 220 = .ok (.aload_n 0, 1) := by decide +kernel
theorem nD_M_note_221 : decode nC_M_note 221 = .ok (.getfield 7, 3) := by decide +kernel
theorem nD_M_note_224 : decode nC_M_note 224 = .ok (.iload 5, 2) := by decide +kernel
theorem nD_M_note_226 : decode nC_M_note 226 = .ok (.iaload, 1) := by decide +kernel
theorem nD_M_note_227 : decode nC_M_note 227 = .ok (.aload_n 0, 1) := by decide +kernel
theorem nD_M_note_228 : decode nC_M_note 228 = .ok (.getfield 51, 3) := by decide +kernel
theorem nD_M_note_231 : decode nC_M_note 231 = .ok (.aload_n 0, 1) := by decide +kernel
theorem nD_M_note_232 : decode nC_M_note 232 = .ok (.getfield 7, 3) := by decide +kernel
theorem nD_M_note_235 : decode nC_M_note 235 = .ok (.iload 5, 2) := by decide +kernel
theorem nD_M_note_237 : decode nC_M_note 237 = .ok (.iaload, 1) := by decide +kernel
theorem nD_M_note_238 : decode nC_M_note 238 = .ok (.iaload, 1) := by decide +kernel
theorem nD_M_note_239 : decode nC_M_note 239 = .ok (.iconst 1, 1) := by decide +kernel
theorem nD_M_note_240 : decode nC_M_note 240 = .ok (.aload_n 0, 1) := by decide +kernel
theorem nD_M_note_241 : decode nC_M_note 241 = .ok (.getfield 35, 3) := by decide +kernel
theorem nD_M_note_244 : decode nC_M_note 244 = .ok (.iload 5, 2) := by decide +kernel
theorem nD_M_note_246 : decode nC_M_note 246 = .ok (.iaload, 1) := by decide +kernel
theorem nD_M_note_247 : decode nC_M_note 247 = .ok (.iconst 1, 1) := by decide +kernel
theorem nD_M_note_248 : decode nC_M_note 248 = .ok (.iadd, 1) := by decide +kernel
theorem nD_M_note_249 : decode nC_M_note 249 = .ok (.ishl, 1) := by decide +kernel
theorem nD_M_note_250 : decode nC_M_note 250 = .ok (.ior, 1) := by decide +kernel
theorem nD_M_note_251 : decode nC_M_note 251 = .ok (.iastore, 1) := by decide +kernel
theorem nD_M_note_252 : decode nC_M_note 252 = .ok (.iinc 4 1, 3) := by decide +kernel
theorem nD_M_note_255 : decode nC_M_note 255 = .ok (.goto (-93), 3) := by decide +kernel
theorem nD_M_note_258 : decode nC_M_note 258 = .ok (.return_, 1) := by decide +kernel
theorem nD_M_isListed_0 : decode nC_M_isListed 0 = .ok (.iconst 0, 1) := by decide +kernel
theorem nD_M_isListed_1 : decode nC_M_isListed 1 = .ok (.istore_n 2, 1) := by decide +kernel
theorem nD_M_isListed_2 : decode nC_M_isListed 2 = .ok (.iconst 0, 1) := by decide +kernel
theorem nD_M_isListed_3 : decode nC_M_isListed 3 = .ok (.istore_n 3, 1) := by decide +kernel
theorem nD_M_isListed_4 : decode nC_M_isListed 4 = .ok (.iload_n 3, 1) := by decide +kernel
theorem nD_M_isListed_5 : decode nC_M_isListed 5 = .ok (.aload_n 0, 1) := by decide +kernel
theorem nD_M_isListed_6 : decode nC_M_isListed 6 = .ok (.getfield 99, 3) := by decide +kernel
theorem nD_M_isListed_9 : decode nC_M_isListed 9 = .ok (.if_icmp .ge 29, 3) := by decide +kernel
theorem nD_M_isListed_12 : decode nC_M_isListed 12 = .ok (.iload_n 2, 1) := by decide +kernel
end
section
theorem nD_M_isListed_13 : decode nC_M_isListed 13 = .ok (.ifCond .ne 13, 3) := by decide +kernel
theorem nD_M_isListed_16 : decode nC_M_isListed 16 = .ok (.aload_n 0, 1) := by decide +kernel
theorem nD_M_isListed_17 : decode nC_M_isListed 17 = .ok (.getfield 32, 3) := by decide +kernel
theorem nD_M_isListed_20 : decode nC_M_isListed 20 = .ok (.iload_n 3, 1) := by decide +kernel
theorem nD_M_isListed_21 : decode nC_M_isListed 21 = .ok (.iaload, 1) := by decide +kernel
theorem nD_M_isListed_22 : decode nC_M_isListed 22 = .ok (.iload_n 1, 1) := by decide +kernel
theorem nD_M_isListed_23 : decode nC_M_isListed 23 = .ok (.if_icmp .ne 7, 3) := by decide +kernel
theorem nD_M_isListed_26 : decode nC_M_isListed 26 = .ok (.iconst 1, 1) := by decide +kernel
theorem nD_M_isListed_27 : decode nC_M_isListed 27 = .ok (.goto 4, 3) := by decide +kernel
theorem nD_M_isListed_30 : decode nC_M_isListed 30 = .ok (.iconst 0, 1) := by decide +kernel
theorem nD_M_isListed_31 : decode nC_M_isListed 31 = .ok (.istore_n 2, 1) := by decide +kernel
theorem nD_M_isListed_32 : decode nC_M_isListed 32 = .ok (.iinc 3 1, 3) := by decide +kernel
theorem nD_M_isListed_35 : decode nC_M_isListed 35 = .ok (.goto (-31), 3) := by decide +kernel
theorem nD_M_isListed_38 : decode nC_M_isListed 38 = .ok (.iload_n 2, 1) := by decide +kernel
theorem nD_M_isListed_39 : decode nC_M_isListed 39 = .ok (.ireturn, 1) := by decide +kernel
theorem nD_M_lengthen_0 : decode nC_M_lengthen 0 = .ok (.aload_n 0, 1) := by decide +kernel
theorem nD_M_lengthen_1 : decode nC_M_lengthen 1 = .ok (.getfield 32, 3) := by decide +kernel
theorem nD_M_lengthen_4 : decode nC_M_lengthen 4 = .ok (.aload_n 0, 1) := by decide +kernel
theorem nD_M_lengthen_5 : decode nC_M_lengthen 5 = .ok (.getfield 99, 3) := by decide +kernel
theorem nD_M_lengthen_8 : decode nC_M_lengthen 8 = .ok (.iload_n 1, 1) := by decide +kernel
theorem nD_M_lengthen_9 : decode nC_M_lengthen 9 = .ok (.iastore, 1) := by decide +kernel
theorem nD_M_lengthen_10 : decode nC_M_lengthen 10 = .ok (.aload_n 0, 1) := by decide +kernel
theorem nD_M_lengthen_11 : decode nC_M_lengthen 11 = .ok (.dup, 1) := by decide +kernel
theorem nD_M_lengthen_12 : decode nC_M_lengthen 12 = .ok (.getfield 99, 3) := by decide +kernel
theorem nD_M_lengthen_15 : decode nC_M_lengthen 15 = .ok (.iconst 1, 1) := by decide +kernel
theorem nD_M_lengthen_16 : decode nC_M_lengthen 16 = .ok (.iadd, 1) := by decide +kernel
theorem nD_M_lengthen_17 : decode nC_M_lengthen 17 = .ok (.putfield 99, 3) := by decide +kernel
theorem nD_M_lengthen_20 : decode nC_M_lengthen 20 = .ok (.aload_n 0, 1) := by decide +kernel
theorem nD_M_lengthen_21 : decode nC_M_lengthen 21 = .ok (.invokevirtual 120, 3) := by decide +kernel
theorem nD_M_lengthen_24 : decode nC_M_lengthen 24 = .ok (.ifCond .eq 20, 3) := by decide +kernel
theorem nD_M_lengthen_27 : decode nC_M_lengthen 27 = .ok (.aload_n 0, 1) := by decide +kernel
theorem nD_M_lengthen_28 : decode nC_M_lengthen 28 = .ok (.invokevirtual 112, 3) := by decide +kernel
theorem nD_M_lengthen_31 : decode nC_M_lengthen 31 = .ok (.aload_n 0, 1) := by decide +kernel
theorem nD_M_lengthen_32 : decode nC_M_lengthen 32 = .ok (.getfield 38, 3) := by decide +kernel
theorem nD_M_lengthen_35 : decode nC_M_lengthen 35 = .ok (.aload_n 0, 1) := by decide +kernel
theorem nD_M_lengthen_36 : decode nC_M_lengthen 36 = .ok (.getfield 99, 3) := by decide +kernel
theorem nD_M_lengthen_39 : decode nC_M_lengthen 39 = .ok (.iconst 0, 1) := by decide +kernel
theorem nD_M_lengthen_40 : decode nC_M_lengthen 40 = .ok (.iastore, 1) := by decide +kernel
theorem nD_M_lengthen_41 : decode nC_M_lengthen 41 = .ok (.goto 13, 3) := by decide +kernel
theorem nD_M_lengthen_44 : decode nC_M_lengthen 44 = .ok (.aload_n 0, 1) := by decide +kernel
theorem nD_M_lengthen_45 : decode nC_M_lengthen 45 = .ok (.dup, 1) := by decide +kernel
theorem nD_M_lengthen_46 : decode nC_M_lengthen 46 = .ok (.getfield 99, 3) := by decide +kernel
theorem nD_M_lengthen_49 : decode nC_M_lengthen 49 = .ok (.iconst 1, 1) := by decide +kernel
theorem nD_M_lengthen_50 : decode nC_M_lengthen 50 = .ok (.isub, 1) := by decide +kernel
theorem nD_M_lengthen_51 : decode nC_M_lengthen 51 = .ok (.putfield 99, 3) := by decide +kernel
theorem nD_M_lengthen_54 : decode nC_M_lengthen 54 = .ok (.return_, 1) := by decide +kernel
theorem nD_M_good_0 : decode nC_M_good 0 = .ok (.iconst 1, 1) := by decide +kernel
theorem nD_M_good_1 : decode nC_M_good 1 = .ok (.istore_n 1, 1) := by decide +kernel
theorem nD_M_good_2 : decode nC_M_good 2 = .ok (.iload_n 1, 1) := by decide +kernel
theorem nD_M_good_3 : decode nC_M_good 3 = .ok (.aload_n 0, 1) := by decide +kernel
theorem nD_M_good_4 : decode nC_M_good 4 = .ok (.getfield 99, 3) := by decide +kernel
theorem nD_M_good_7 : decode nC_M_good 7 = .ok (.if_icmp .ge 64, 3) := by decide +kernel
theorem nD_M_good_10 : decode nC_M_good 10 = .ok (.iconst 0, 1) := by decide +kernel
theorem nD_M_good_11 : decode nC_M_good 11 = .ok (.istore_n 2, 1) := by decide +kernel
theorem nD_M_good_12 : decode nC_M_good 12 = .ok (.iload_n 2, 1) := by decide +kernel
theorem nD_M_good_13 : decode nC_M_good 13 = .ok (.iload_n 1, 1) := by decide +kernel
theorem nD_M_good_14 : decode nC_M_good 14 = .ok (.if_icmp .ge 51, 3) := by decide +kernel
theorem nD_M_good_17 : decode nC_M_good 17 = .ok (.aload_n 0, 1) := by decide +kernel
theorem nD_M_good_18 : decode nC_M_good 18 = .ok (.getfield 29, 3) := by decide +kernel
theorem nD_M_good_21 : decode nC_M_good 21 = .ok (.aload_n 0, 1) := by decide +kernel
theorem nD_M_good_22 : decode nC_M_good 22 = .ok (.getfield 32, 3) := by decide +kernel
theorem nD_M_good_25 : decode nC_M_good 25 = .ok (.iload_n 1, 1) := by decide +kernel
theorem nD_M_good_26 : decode nC_M_good 26 = .ok (.iaload, 1) := by decide +kernel
theorem nD_M_good_27 : decode nC_M_good 27 = .ok (.iaload, 1) := by decide +kernel
theorem nD_M_good_28 : decode nC_M_good 28 = .ok (.iconst 1, 1) := by decide +kernel
theorem nD_M_good_29 : decode nC_M_good 29 = .ok (.if_icmp .ne 30, 3) := by decide +kernel
theorem nD_M_good_32 : decode nC_M_good 32 = .ok (.aload_n 0, 1) := by decide +kernel
theorem nD_M_good_33 : decode nC_M_good 33 = .ok (.getfield 23, 3) := by decide +kernel
theorem nD_M_good_36 : decode nC_M_good 36 = .ok (.aload_n 0, 1) := by decide +kernel
theorem nD_M_good_37 : decode nC_M_good 37 = .ok (.getfield 32, 3) := by decide +kernel
theorem nD_M_good_40 : decode nC_M_good 40 = .ok (.iload_n 1, 1) := by decide +kernel
theorem nD_M_good_41 : decode nC_M_good 41 = .ok (.iaload, 1) := by decide +kernel
theorem nD_M_good_42 : decode nC_M_good 42 = .ok (.iaload, 1) := by decide +kernel
theorem nD_M_good_43 : decode nC_M_good 43 = .ok (.aload_n 0, 1) := by decide +kernel
theorem nD_M_good_44 : decode nC_M_good 44 = .ok (.getfield 20, 3) := by decide +kernel
theorem nD_M_good_47 : decode nC_M_good 47 = .ok (.aload_n 0, 1) := by decide +kernel
theorem nD_M_good_48 : decode nC_M_good 48 = .ok (.getfield 32, 3) := by decide +kernel
theorem nD_M_good_51 : decode nC_M_good 51 = .ok (.iload_n 2, 1) := by decide +kernel
theorem nD_M_good_52 : decode nC_M_good 52 = .ok (.iaload, 1) := by decide +kernel
theorem nD_M_good_53 : decode nC_M_good 53 = .ok (.iaload, 1) := by decide +kernel
theorem nD_M_good_54 : decode nC_M_good 54 = .ok (.if_icmp .ge 5, 3) := by decide +kernel
theorem nD_M_good_57 : decode nC_M_good 57 = .ok (.iconst 0, 1) := by decide +kernel
theorem nD_M_good_58 : decode nC_M_good 58 = .ok (.ireturn, 1) := by decide +kernel
theorem nD_M_good_59 : decode nC_M_good 59 = .ok (.iinc 2 1, 3) := by decide +kernel
theorem nD_M_good_62 : decode nC_M_good 62 = .ok (.goto (-50), 3) := by decide +kernel
theorem nD_M_good_65 : decode nC_M_good 65 = .ok (.iinc 1 1, 3) := by decide +kernel
theorem nD_M_good_68 : decode nC_M_good 68 = .ok (.goto (-66), 3) := by decide +kernel
theorem nD_M_good_71 : decode nC_M_good 71 = .ok (.aload_n 0, 1) := by decide +kernel
theorem nD_M_good_72 : decode nC_M_good 72 = .ok (.iconst 0, 1) := by decide +kernel
theorem nD_M_good_73 : decode nC_M_good 73 = .ok (.putfield 96, 3) := by decide +kernel
theorem nD_M_good_76 : decode nC_M_good 76 = .ok (.iconst 0, 1) := by decide +kernel
theorem nD_M_good_77 : decode nC_M_good 77 = .ok (.istore_n 1, 1) := by decide +kernel
theorem nD_M_good_78 : decode nC_M_good 78 = .ok (.iload_n 1, 1) := by decide +kernel
theorem nD_M_good_79 : decode nC_M_good 79 = .ok (.aload_n 0, 1) := by decide +kernel
theorem nD_M_good_80 : decode nC_M_good 80 = .ok (.getfield 99, 3) := by decide +kernel
theorem nD_M_good_83 : decode nC_M_good 83 = .ok (.if_icmp .ge 54, 3) := by decide +kernel
theorem nD_M_good_86 : decode nC_M_good 86 = .ok (.aload_n 0, 1) := by decide +kernel
theorem nD_M_good_87 : decode nC_M_good 87 = .ok (.getfield 32, 3) := by decide +kernel
theorem nD_M_good_90 : decode nC_M_good 90 = .ok (.iload_n 1, 1) := by decide +kernel
theorem nD_M_good_91 : decode nC_M_good 91 = .ok (.iaload, 1) := by decide +kernel
theorem nD_M_good_92 : decode nC_M_good 92 = .ok (.istore_n 2, 1) := by decide +kernel
theorem nD_M_good_93 : decode nC_M_good 93 = .ok (.aload_n 0, 1) := by decide +kernel
theorem nD_M_good_94 : decode nC_M_good 94 = .ok (.getfield 35, 3) := by decide +kernel
theorem nD_M_good_97 : decode nC_M_good 97 = .ok (.iload_n 2, 1) := by decide +kernel
theorem nD_M_good_98 : decode nC_M_good 98 = .ok (.aload_n 0, 1) := by decide +kernel
theorem nD_M_good_99 : decode nC_M_good 99 = .ok (.iload_n 2, 1) := by decide +kernel
theorem nD_M_good_100 : decode nC_M_good 100 = .ok (.invokevirtual 102, 3) := by decide +kernel
theorem nD_M_good_103 : decode nC_M_good 103 = .ok (.iastore, 1) := by decide +kernel
theorem nD_M_good_104 : decode nC_M_good 104 = .ok (.aload_n 0, 1) := by decide +kernel
theorem nD_M_good_105 : decode nC_M_good 105 = .ok (.getfield 29, 3) := by decide +kernel
theorem nD_M_good_108 : decode nC_M_good 108 = .ok (.iload_n 2, 1) := by decide +kernel
theorem nD_M_good_109 : decode nC_M_good 109 = .ok (.iaload, 1) := by decide +kernel
theorem nD_M_good_110 : decode nC_M_good 110 = .ok (.iconst 1, 1) := by decide +kernel
theorem nD_M_good_111 : decode nC_M_good 111 = .ok (.if_icmp .ne 20, 3) := by decide +kernel
theorem nD_M_good_114 : decode nC_M_good 114 = .ok (.aload_n 0, 1) := by decide +kernel
theorem nD_M_good_115 : decode nC_M_good 115 = .ok (.getfield 35, 3) := by decide +kernel
theorem nD_M_good_118 : decode nC_M_good 118 = .ok (.iload_n 2, 1) := by decide +kernel
theorem nD_M_good_119 : decode nC_M_good 119 = .ok (.iaload, 1) := by decide +kernel
theorem nD_M_good_120 : decode nC_M_good 120 = .ok (.aload_n 0, 1) := by decide +kernel
theorem nD_M_good_121 : decode nC_M_good 121 = .ok (.getfield 26, 3) := by decide +kernel
theorem nD_M_good_124 : decode nC_M_good 124 = .ok (.iload_n 2, 1) := by decide +kernel
theorem nD_M_good_125 : decode nC_M_good 125 = .ok (.iaload, 1) := by decide +kernel
theorem nD_M_good_126 : decode nC_M_good 126 = .ok (.if_icmp .eq 5, 3) := by decide +kernel
theorem nD_M_good_129 : decode nC_M_good 129 = .ok (.iconst 0, 1) := by decide +kernel
theorem nD_M_good_130 : decode nC_M_good 130 = .ok (.ireturn, 1) := by decide +kernel
theorem nD_M_good_131 : decode nC_M_good 131 = .ok (.iinc 1 1, 3) := by decide +kernel
theorem nD_M_good_134 : decode nC_M_good 134 = .ok (.goto (-56), 3) := by decide +kernel
theorem nD_M_good_137 : decode nC_M_good 137 = .ok (.iconst 1, 1) := by decide +kernel
theorem nD_M_good_138 : decode nC_M_good 138 = .ok (.ireturn, 1) := by decide +kernel
theorem nD_M_carryOut_0 : decode nC_M_carryOut 0 = .ok (.aload_n 0, 1) := by decide +kernel
theorem nD_M_carryOut_1 : decode nC_M_carryOut 1 = .ok (.getfield 13, 3) := by decide +kernel
theorem nD_M_carryOut_4 : decode nC_M_carryOut 4 = .ok (.iload_n 1, 1) := by decide +kernel
theorem nD_M_carryOut_5 : decode nC_M_carryOut 5 = .ok (.baload, 1) := by decide +kernel
theorem nD_M_carryOut_6 : decode nC_M_carryOut 6 = .ok (.ifCond .eq 43, 3) := by decide +kernel
theorem nD_M_carryOut_9 : decode nC_M_carryOut 9 = .ok (.aload_n 0, 1) := by decide +kernel
theorem nD_M_carryOut_10 : decode nC_M_carryOut 10 = .ok (.getfield 96, 3) := by decide +kernel
theorem nD_M_carryOut_13 : decode nC_M_carryOut 13 = .ok (.aload_n 0, 1) := by decide +kernel
theorem nD_M_carryOut_14 : decode nC_M_carryOut 14 = .ok (.getfield 62, 3) := by decide +kernel
theorem nD_M_carryOut_17 : decode nC_M_carryOut 17 = .ok (.if_icmp .lt 5, 3) := by decide +kernel
theorem nD_M_carryOut_20 : decode nC_M_carryOut 20 = .ok (.iconst 0, 1) := by decide +kernel
theorem nD_M_carryOut_21 : decode nC_M_carryOut 21 = .ok (.ireturn, 1) := by decide +kernel
theorem nD_M_carryOut_22 : decode nC_M_carryOut 22 = .ok (.aload_n 0, 1) := by decide +kernel
theorem nD_M_carryOut_23 : decode nC_M_carryOut 23 = .ok (.getfield 41, 3) := by decide +kernel
theorem nD_M_carryOut_26 : decode nC_M_carryOut 26 = .ok (.aload_n 0, 1) := by decide +kernel
theorem nD_M_carryOut_27 : decode nC_M_carryOut 27 = .ok (.getfield 96, 3) := by decide +kernel
theorem nD_M_carryOut_30 : decode nC_M_carryOut 30 = .ok (.aload_n 0, 1) := by decide +kernel
theorem nD_M_carryOut_31 : decode nC_M_carryOut 31 = .ok (.getfield 17, 3) := by decide +kernel
theorem nD_M_carryOut_34 : decode nC_M_carryOut 34 = .ok (.iload_n 1, 1) := by decide +kernel
theorem nD_M_carryOut_35 : decode nC_M_carryOut 35 = .ok (.iaload, 1) := by decide +kernel
theorem nD_M_carryOut_36 : decode nC_M_carryOut 36 = .ok (.iastore, 1) := by decide +kernel
theorem nD_M_carryOut_37 : decode nC_M_carryOut 37 = .ok (.aload_n 0, 1) := by decide +kernel
theorem nD_M_carryOut_38 : decode nC_M_carryOut 38 = .ok (.dup, 1) := by decide +kernel
theorem nD_M_carryOut_39 : decode nC_M_carryOut 39 = .ok (.getfield 96, 3) := by decide +kernel
theorem nD_M_carryOut_42 : decode nC_M_carryOut 42 = .ok (.iconst 1, 1) := by decide +kernel
theorem nD_M_carryOut_43 : decode nC_M_carryOut 43 = .ok (.iadd, 1) := by decide +kernel
theorem nD_M_carryOut_44 : decode nC_M_carryOut 44 = .ok (.putfield 96, 3) := by decide +kernel
theorem nD_M_carryOut_47 : decode nC_M_carryOut 47 = .ok (.iconst 1, 1) := by decide +kernel
theorem nD_M_carryOut_48 : decode nC_M_carryOut 48 = .ok (.ireturn, 1) := by decide +kernel
theorem nD_M_carryOut_49 : decode nC_M_carryOut 49 = .ok (.aload_n 0, 1) := by decide +kernel
theorem nD_M_carryOut_50 : decode nC_M_carryOut 50 = .ok (.getfield 96, 3) := by decide +kernel
theorem nD_M_carryOut_53 : decode nC_M_carryOut 53 = .ok (.ifCond .ne 5, 3) := by decide +kernel
theorem nD_M_carryOut_56 : decode nC_M_carryOut 56 = .ok (.iconst (-1), 1) := by decide +kernel
theorem nD_M_carryOut_57 : decode nC_M_carryOut 57 = .ok (.ireturn, 1) := by decide +kernel
theorem nD_M_carryOut_58 : decode nC_M_carryOut 58 = .ok (.aload_n 0, 1) := by decide +kernel
theorem nD_M_carryOut_59 : decode nC_M_carryOut 59 = .ok (.getfield 58, 3) := by decide +kernel
theorem nD_M_carryOut_62 : decode nC_M_carryOut 62 = .ok (.iconst 1, 1) := by decide +kernel
theorem nD_M_carryOut_63 : decode nC_M_carryOut 63 = .ok (.if_icmp .eq 20, 3) := by decide +kernel
theorem nD_M_carryOut_66 : decode nC_M_carryOut 66 = .ok (.aload_n 0, 1) := by decide +kernel
theorem nD_M_carryOut_67 : decode nC_M_carryOut 67 = .ok (.getfield 58, 3) := by decide +kernel
theorem nD_M_carryOut_70 : decode nC_M_carryOut 70 = .ok (.iconst 2, 1) := by decide +kernel
theorem nD_M_carryOut_71 : decode nC_M_carryOut 71 = .ok (.if_icmp .ne 16, 3) := by decide +kernel
theorem nD_M_carryOut_74 : decode nC_M_carryOut 74 = .ok (.aload_n 0, 1) := by decide +kernel
theorem nD_M_carryOut_75 : decode nC_M_carryOut 75 = .ok (.getfield 7, 3) := by decide +kernel
theorem nD_M_carryOut_78 : decode nC_M_carryOut 78 = .ok (.iload_n 1, 1) := by decide +kernel
theorem nD_M_carryOut_79 : decode nC_M_carryOut 79 = .ok (.iaload, 1) := by decide +kernel
theorem nD_M_carryOut_80 : decode nC_M_carryOut 80 = .ok (.ifCond .ne 7, 3) := by decide +kernel
theorem nD_M_carryOut_83 : decode nC_M_carryOut 83 = .ok (.iconst 1, 1) := by decide +kernel
theorem nD_M_carryOut_84 : decode nC_M_carryOut 84 = .ok (.goto 4, 3) := by decide +kernel
theorem nD_M_carryOut_87 : decode nC_M_carryOut 87 = .ok (.iconst 0, 1) := by decide +kernel
theorem nD_M_carryOut_88 : decode nC_M_carryOut 88 = .ok (.istore_n 2, 1) := by decide +kernel
theorem nD_M_carryOut_89 : decode nC_M_carryOut 89 = .ok (.iload_n 2, 1) := by decide +kernel
theorem nD_M_carryOut_90 : decode nC_M_carryOut 90 = .ok (.ifCond .eq 17, 3) := by decide +kernel
theorem nD_M_carryOut_93 : decode nC_M_carryOut 93 = .ok (.aload_n 0, 1) := by decide +kernel
theorem nD_M_carryOut_94 : decode nC_M_carryOut 94 = .ok (.getfield 41, 3) := by decide +kernel
theorem nD_M_carryOut_97 : decode nC_M_carryOut 97 = .ok (.aload_n 0, 1) := by decide +kernel
theorem nD_M_carryOut_98 : decode nC_M_carryOut 98 = .ok (.getfield 96, 3) := by decide +kernel
theorem nD_M_carryOut_101 : decode nC_M_carryOut 101 = .ok (.iconst 1, 1) := by decide +kernel
theorem nD_M_carryOut_102 : decode nC_M_carryOut 102 = .ok (.isub, 1) := by decide +kernel
theorem nD_M_carryOut_103 : decode nC_M_carryOut 103 = .ok (.iaload, 1) := by decide +kernel
theorem nD_M_carryOut_104 : decode nC_M_carryOut 104 = .ok (.goto 9, 3) := by decide +kernel
theorem nD_M_carryOut_107 : decode nC_M_carryOut 107 = .ok (.aload_n 0, 1) := by decide +kernel
theorem nD_M_carryOut_108 : decode nC_M_carryOut 108 = .ok (.getfield 41, 3) := by decide +kernel
theorem nD_M_carryOut_111 : decode nC_M_carryOut 111 = .ok (.iconst 0, 1) := by decide +kernel
theorem nD_M_carryOut_112 : decode nC_M_carryOut 112 = .ok (.iaload, 1) := by decide +kernel
theorem nD_M_carryOut_113 : decode nC_M_carryOut 113 = .ok (.istore_n 3, 1) := by decide +kernel
theorem nD_M_carryOut_114 : decode nC_M_carryOut 114 = .ok (.aload_n 0, 1) := by decide +kernel
theorem nD_M_carryOut_115 : decode nC_M_carryOut 115 = .ok (.dup, 1) := by decide +kernel
theorem nD_M_carryOut_116 : decode nC_M_carryOut 116 = .ok (.getfield 96, 3) := by decide +kernel
theorem nD_M_carryOut_119 : decode nC_M_carryOut 119 = .ok (.iconst 1, 1) := by decide +kernel
theorem nD_M_carryOut_120 : decode nC_M_carryOut 120 = .ok (.isub, 1) := by decide +kernel
theorem nD_M_carryOut_121 : decode nC_M_carryOut 121 = .ok (.putfield 96, 3) := by decide +kernel
theorem nD_M_carryOut_124 : decode nC_M_carryOut 124 = .ok (.iconst 0, 1) := by decide +kernel
theorem nD_M_carryOut_125 : decode nC_M_carryOut 125 = .ok (.istore 4, 2) := by decide +kernel
theorem nD_M_carryOut_127 : decode nC_M_carryOut 127 = .ok (.iload 4, 2) := by decide +kernel
theorem nD_M_carryOut_129 : decode nC_M_carryOut 129 = .ok (.aload_n 0, 1) := by decide +kernel
theorem nD_M_carryOut_130 : decode nC_M_carryOut 130 = .ok (.getfield 96, 3) := by decide +kernel
theorem nD_M_carryOut_133 : decode nC_M_carryOut 133 = .ok (.if_icmp .ge 29, 3) := by decide +kernel
theorem nD_M_carryOut_136 : decode nC_M_carryOut 136 = .ok (.iload_n 2, 1) := by decide +kernel
theorem nD_M_carryOut_137 : decode nC_M_carryOut 137 = .ok (.ifCond .ne 25, 3) := by decide +kernel
theorem nD_M_carryOut_140 : decode nC_M_carryOut 140 = .ok (.aload_n 0, 1) := by decide +kernel
theorem nD_M_carryOut_141 : decode nC_M_carryOut 141 = .ok (.getfield 41, 3) := by decide +kernel
theorem nD_M_carryOut_144 : decode nC_M_carryOut 144 = .ok (.iload 4, 2) := by decide +kernel
theorem nD_M_carryOut_146 : decode nC_M_carryOut 146 = .ok (.aload_n 0, 1) := by decide +kernel
theorem nD_M_carryOut_147 : decode nC_M_carryOut 147 = .ok (.getfield 41, 3) := by decide +kernel
theorem nD_M_carryOut_150 : decode nC_M_carryOut 150 = .ok (.iload 4, 2) := by decide +kernel
theorem nD_M_carryOut_152 : decode nC_M_carryOut 152 = .ok (.iconst 1, 1) := by decide +kernel
theorem nD_M_carryOut_153 : decode nC_M_carryOut 153 = .ok (.iadd, 1) := by decide +kernel
theorem nD_M_carryOut_154 : decode nC_M_carryOut 154 = .ok (.iaload, 1) := by decide +kernel
theorem nD_M_carryOut_155 : decode nC_M_carryOut 155 = .ok (.iastore, 1) := by decide +kernel
theorem nD_M_carryOut_156 : decode nC_M_carryOut 156 = .ok (.iinc 4 1, 3) := by decide +kernel
theorem nD_M_carryOut_159 : decode nC_M_carryOut 159 = .ok (.goto (-32), 3) := by decide +kernel
theorem nD_M_carryOut_162 : decode nC_M_carryOut 162 = .ok (.iload_n 3, 1) := by decide +kernel
theorem nD_M_carryOut_163 : decode nC_M_carryOut 163 = .ok (.ireturn, 1) := by decide +kernel
theorem nD_M_beginPut_0 : decode nC_M_beginPut 0 = .ok (.iload_n 2, 1) := by decide +kernel
theorem nD_M_beginPut_1 : decode nC_M_beginPut 1 = .ok (.ifCond .lt 21, 3) := by decide +kernel
theorem nD_M_beginPut_4 : decode nC_M_beginPut 4 = .ok (.iload_n 2, 1) := by decide +kernel
theorem nD_M_beginPut_5 : decode nC_M_beginPut 5 = .ok (.bipush 15, 2) := by decide +kernel
theorem nD_M_beginPut_7 : decode nC_M_beginPut 7 = .ok (.if_icmp .gt 15, 3) := by decide +kernel
theorem nD_M_beginPut_10 : decode nC_M_beginPut 10 = .ok (.aload_n 0, 1) := by decide +kernel
theorem nD_M_beginPut_11 : decode nC_M_beginPut 11 = .ok (.getfield 58, 3) := by decide +kernel
theorem nD_M_beginPut_14 : decode nC_M_beginPut 14 = .ok (.iconst 2, 1) := by decide +kernel
theorem nD_M_beginPut_15 : decode nC_M_beginPut 15 = .ok (.if_icmp .ne 9, 3) := by decide +kernel
theorem nD_M_beginPut_18 : decode nC_M_beginPut 18 = .ok (.iload_n 1, 1) := by decide +kernel
theorem nD_M_beginPut_19 : decode nC_M_beginPut 19 = .ok (.ifCond .eq 5, 3) := by decide +kernel
theorem nD_M_beginPut_22 : decode nC_M_beginPut 22 = .ok (.iconst 0, 1) := by decide +kernel
theorem nD_M_beginPut_23 : decode nC_M_beginPut 23 = .ok (.ireturn, 1) := by decide +kernel
theorem nD_M_beginPut_24 : decode nC_M_beginPut 24 = .ok (.aload_n 0, 1) := by decide +kernel
theorem nD_M_beginPut_25 : decode nC_M_beginPut 25 = .ok (.iload_n 1, 1) := by decide +kernel
theorem nD_M_beginPut_26 : decode nC_M_beginPut 26 = .ok (.iconst 1, 1) := by decide +kernel
theorem nD_M_beginPut_27 : decode nC_M_beginPut 27 = .ok (.iload_n 2, 1) := by decide +kernel
theorem nD_M_beginPut_28 : decode nC_M_beginPut 28 = .ok (.invokevirtual 88, 3) := by decide +kernel
theorem nD_M_beginPut_31 : decode nC_M_beginPut 31 = .ok (.ireturn, 1) := by decide +kernel
theorem nD_M_begin_0 : decode nC_M_begin 0 = .ok (.iload_n 1, 1) := by decide +kernel
theorem nD_M_begin_1 : decode nC_M_begin 1 = .ok (.ifCond .lt 25, 3) := by decide +kernel
theorem nD_M_begin_4 : decode nC_M_begin 4 = .ok (.iload_n 1, 1) := by decide +kernel
theorem nD_M_begin_5 : decode nC_M_begin 5 = .ok (.iconst 2, 1) := by decide +kernel
theorem nD_M_begin_6 : decode nC_M_begin 6 = .ok (.if_icmp .gt 20, 3) := by decide +kernel
theorem nD_M_begin_9 : decode nC_M_begin 9 = .ok (.aload_n 0, 1) := by decide +kernel
theorem nD_M_begin_10 : decode nC_M_begin 10 = .ok (.getfield 71, 3) := by decide +kernel
theorem nD_M_begin_13 : decode nC_M_begin 13 = .ok (.bipush 8, 2) := by decide +kernel
theorem nD_M_begin_15 : decode nC_M_begin 15 = .ok (.if_icmp .ge 11, 3) := by decide +kernel
theorem nD_M_begin_18 : decode nC_M_begin 18 = .ok (.aload_n 0, 1) := by decide +kernel
theorem nD_M_begin_19 : decode nC_M_begin 19 = .ok (.iload_n 1, 1) := by decide +kernel
theorem nD_M_begin_20 : decode nC_M_begin 20 = .ok (.invokevirtual 81, 3) := by decide +kernel
theorem nD_M_begin_23 : decode nC_M_begin 23 = .ok (.ifCond .lt 5, 3) := by decide +kernel
theorem nD_M_begin_26 : decode nC_M_begin 26 = .ok (.iconst 0, 1) := by decide +kernel
theorem nD_M_begin_27 : decode nC_M_begin 27 = .ok (.ireturn, 1) := by decide +kernel
theorem nD_M_begin_28 : decode nC_M_begin 28 = .ok (.aload_n 0, 1) := by decide +kernel
theorem nD_M_begin_29 : decode nC_M_begin 29 = .ok (.dup, 1) := by decide +kernel
theorem nD_M_begin_30 : decode nC_M_begin 30 = .ok (.getfield 65, 3) := by decide +kernel
theorem nD_M_begin_33 : decode nC_M_begin 33 = .ok (.iconst 1, 1) := by decide +kernel
theorem nD_M_begin_34 : decode nC_M_begin 34 = .ok (.iadd, 1) := by decide +kernel
theorem nD_M_begin_35 : decode nC_M_begin 35 = .ok (.putfield 65, 3) := by decide +kernel
theorem nD_M_begin_38 : decode nC_M_begin 38 = .ok (.aload_n 0, 1) := by decide +kernel
theorem nD_M_begin_39 : decode nC_M_begin 39 = .ok (.getfield 7, 3) := by decide +kernel
theorem nD_M_begin_42 : decode nC_M_begin 42 = .ok (.aload_n 0, 1) := by decide +kernel
theorem nD_M_begin_43 : decode nC_M_begin 43 = .ok (.getfield 71, 3) := by decide +kernel
theorem nD_M_begin_46 : decode nC_M_begin 46 = .ok (.iload_n 1, 1) := by decide +kernel
theorem nD_M_begin_47 : decode nC_M_begin 47 = .ok (.iastore, 1) := by decide +kernel
theorem nD_M_begin_48 : decode nC_M_begin 48 = .ok (.aload_n 0, 1) := by decide +kernel
theorem nD_M_begin_49 : decode nC_M_begin 49 = .ok (.getfield 13, 3) := by decide +kernel
theorem nD_M_begin_52 : decode nC_M_begin 52 = .ok (.aload_n 0, 1) := by decide +kernel
theorem nD_M_begin_53 : decode nC_M_begin 53 = .ok (.getfield 71, 3) := by decide +kernel
theorem nD_M_begin_56 : decode nC_M_begin 56 = .ok (.iload_n 2, 1) := by decide +kernel
theorem nD_M_begin_57 : decode nC_M_begin 57 = .ok (.bastore, 1) := by decide +kernel
theorem nD_M_begin_58 : decode nC_M_begin 58 = .ok (.aload_n 0, 1) := by decide +kernel
theorem nD_M_begin_59 : decode nC_M_begin 59 = .ok (.getfield 17, 3) := by decide +kernel
theorem nD_M_begin_62 : decode nC_M_begin 62 = .ok (.aload_n 0, 1) := by decide +kernel
theorem nD_M_begin_63 : decode nC_M_begin 63 = .ok (.getfield 71, 3) := by decide +kernel
theorem nD_M_begin_66 : decode nC_M_begin 66 = .ok (.iload_n 3, 1) := by decide +kernel
theorem nD_M_begin_67 : decode nC_M_begin 67 = .ok (.iastore, 1) := by decide +kernel
theorem nD_M_begin_68 : decode nC_M_begin 68 = .ok (.aload_n 0, 1) := by decide +kernel
theorem nD_M_begin_69 : decode nC_M_begin 69 = .ok (.getfield 20, 3) := by decide +kernel
theorem nD_M_begin_72 : decode nC_M_begin 72 = .ok (.aload_n 0, 1) := by decide +kernel
theorem nD_M_begin_73 : decode nC_M_begin 73 = .ok (.getfield 71, 3) := by decide +kernel
theorem nD_M_begin_76 : decode nC_M_begin 76 = .ok (.aload_n 0, 1) := by decide +kernel
theorem nD_M_begin_77 : decode nC_M_begin 77 = .ok (.getfield 65, 3) := by decide +kernel
theorem nD_M_begin_80 : decode nC_M_begin 80 = .ok (.iastore, 1) := by decide +kernel
theorem nD_M_begin_81 : decode nC_M_begin 81 = .ok (.aload_n 0, 1) := by decide +kernel
theorem nD_M_begin_82 : decode nC_M_begin 82 = .ok (.getfield 29, 3) := by decide +kernel
theorem nD_M_begin_85 : decode nC_M_begin 85 = .ok (.aload_n 0, 1) := by decide +kernel
theorem nD_M_begin_86 : decode nC_M_begin 86 = .ok (.getfield 71, 3) := by decide +kernel
theorem nD_M_begin_89 : decode nC_M_begin 89 = .ok (.iconst 0, 1) := by decide +kernel
theorem nD_M_begin_90 : decode nC_M_begin 90 = .ok (.iastore, 1) := by decide +kernel
theorem nD_M_begin_91 : decode nC_M_begin 91 = .ok (.aload_n 0, 1) := by decide +kernel
theorem nD_M_begin_92 : decode nC_M_begin 92 = .ok (.dup, 1) := by decide +kernel
theorem nD_M_begin_93 : decode nC_M_begin 93 = .ok (.getfield 71, 3) := by decide +kernel
theorem nD_M_begin_96 : decode nC_M_begin 96 = .ok (.iconst 1, 1) := by decide +kernel
theorem nD_M_begin_97 : decode nC_M_begin 97 = .ok (.iadd, 1) := by decide +kernel
theorem nD_M_begin_98 : decode nC_M_begin 98 = .ok (.putfield 71, 3) := by decide +kernel
theorem nD_M_begin_101 : decode nC_M_begin 101 = .ok (.aload_n 0, 1) := by decide +kernel
theorem nD_M_begin_102 : decode nC_M_begin 102 = .ok (.invokevirtual 85, 3) := by decide +kernel
theorem nD_M_begin_105 : decode nC_M_begin 105 = .ok (.iconst 1, 1) := by decide +kernel
theorem nD_M_begin_106 : decode nC_M_begin 106 = .ok (.ireturn, 1) := by decide +kernel
theorem nD_M_openOf_0 : decode nC_M_openOf 0 = .ok (.iconst (-1), 1) := by decide +kernel
theorem nD_M_openOf_1 : decode nC_M_openOf 1 = .ok (.istore_n 2, 1) := by decide +kernel
theorem nD_M_openOf_2 : decode nC_M_openOf 2 = .ok (.iconst 0, 1) := by decide +kernel
theorem nD_M_openOf_3 : decode nC_M_openOf 3 = .ok (.istore_n 3, 1) := by decide +kernel
theorem nD_M_openOf_4 : decode nC_M_openOf 4 = .ok (.iload_n 3, 1) := by decide +kernel
theorem nD_M_openOf_5 : decode nC_M_openOf 5 = .ok (.aload_n 0, 1) := by decide +kernel
theorem nD_M_openOf_6 : decode nC_M_openOf 6 = .ok (.getfield 71, 3) := by decide +kernel
theorem nD_M_openOf_9 : decode nC_M_openOf 9 = .ok (.if_icmp .ge 34, 3) := by decide +kernel
theorem nD_M_openOf_12 : decode nC_M_openOf 12 = .ok (.aload_n 0, 1) := by decide +kernel
theorem nD_M_openOf_13 : decode nC_M_openOf 13 = .ok (.getfield 7, 3) := by decide +kernel
theorem nD_M_openOf_16 : decode nC_M_openOf 16 = .ok (.iload_n 3, 1) := by decide +kernel
theorem nD_M_openOf_17 : decode nC_M_openOf 17 = .ok (.iaload, 1) := by decide +kernel
theorem nD_M_openOf_18 : decode nC_M_openOf 18 = .ok (.iload_n 1, 1) := by decide +kernel
theorem nD_M_openOf_19 : decode nC_M_openOf 19 = .ok (.if_icmp .ne 16, 3) := by decide +kernel
theorem nD_M_openOf_22 : decode nC_M_openOf 22 = .ok (.aload_n 0, 1) := by decide +kernel
theorem nD_M_openOf_23 : decode nC_M_openOf 23 = .ok (.getfield 29, 3) := by decide +kernel
theorem nD_M_openOf_26 : decode nC_M_openOf 26 = .ok (.iload_n 3, 1) := by decide +kernel
theorem nD_M_openOf_27 : decode nC_M_openOf 27 = .ok (.iaload, 1) := by decide +kernel
theorem nD_M_openOf_28 : decode nC_M_openOf 28 = .ok (.ifCond .ne 7, 3) := by decide +kernel
theorem nD_M_openOf_31 : decode nC_M_openOf 31 = .ok (.iload_n 3, 1) := by decide +kernel
theorem nD_M_openOf_32 : decode nC_M_openOf 32 = .ok (.goto 4, 3) := by decide +kernel
theorem nD_M_openOf_35 : decode nC_M_openOf 35 = .ok (.iload_n 2, 1) := by decide +kernel
theorem nD_M_openOf_36 : decode nC_M_openOf 36 = .ok (.istore_n 2, 1) := by decide +kernel
theorem nD_M_openOf_37 : decode nC_M_openOf 37 = .ok (.iinc 3 1, 3) := by decide +kernel
theorem nD_M_openOf_40 : decode nC_M_openOf 40 = .ok (.goto (-36), 3) := by decide +kernel
theorem nD_M_openOf_43 : decode nC_M_openOf 43 = .ok (.iload_n 2, 1) := by decide +kernel
theorem nD_M_openOf_44 : decode nC_M_openOf 44 = .ok (.ireturn, 1) := by decide +kernel
theorem nD_M_happened_0 : decode nC_M_happened 0 = .ok (.aload_n 0, 1) := by decide +kernel
theorem nD_M_happened_1 : decode nC_M_happened 1 = .ok (.invokevirtual 74, 3) := by decide +kernel
theorem nD_M_happened_4 : decode nC_M_happened 4 = .ok (.aload_n 0, 1) := by decide +kernel
theorem nD_M_happened_5 : decode nC_M_happened 5 = .ok (.getfield 77, 3) := by decide +kernel
theorem nD_M_happened_8 : decode nC_M_happened 8 = .ok (.lconst 0, 1) := by decide +kernel
theorem nD_M_happened_9 : decode nC_M_happened 9 = .ok (.lcmp, 1) := by decide +kernel
theorem nD_M_happened_10 : decode nC_M_happened 10 = .ok (.ifCond .ne 18, 3) := by decide +kernel
theorem nD_M_happened_13 : decode nC_M_happened 13 = .ok (.aload_n 0, 1) := by decide +kernel
theorem nD_M_happened_14 : decode nC_M_happened 14 = .ok (.getfield 68, 3) := by decide +kernel
theorem nD_M_happened_17 : decode nC_M_happened 17 = .ok (.ifCond .ne 11, 3) := by decide +kernel
theorem nD_M_happened_20 : decode nC_M_happened 20 = .ok (.aload_n 0, 1) := by decide +kernel
theorem nD_M_happened_21 : decode nC_M_happened 21 = .ok (.aload_n 0, 1) := by decide +kernel
theorem nD_M_happened_22 : decode nC_M_happened 22 = .ok (.getfield 65, 3) := by decide +kernel
theorem nD_M_happened_25 : decode nC_M_happened 25 = .ok (.putfield 68, 3) := by decide +kernel
theorem nD_M_happened_28 : decode nC_M_happened 28 = .ok (.return_, 1) := by decide +kernel
theorem nD_M_beginTake_0 : decode nC_M_beginTake 0 = .ok (.aload_n 0, 1) := by decide +kernel
theorem nD_M_beginTake_1 : decode nC_M_beginTake 1 = .ok (.iload_n 1, 1) := by decide +kernel
theorem nD_M_beginTake_2 : decode nC_M_beginTake 2 = .ok (.iconst 0, 1) := by decide +kernel
theorem nD_M_beginTake_3 : decode nC_M_beginTake 3 = .ok (.iconst 0, 1) := by decide +kernel
theorem nD_M_beginTake_4 : decode nC_M_beginTake 4 = .ok (.invokevirtual 88, 3) := by decide +kernel
theorem nD_M_beginTake_7 : decode nC_M_beginTake 7 = .ok (.ireturn, 1) := by decide +kernel
theorem nD_M_endPut_0 : decode nC_M_endPut 0 = .ok (.aload_n 0, 1) := by decide +kernel
theorem nD_M_endPut_1 : decode nC_M_endPut 1 = .ok (.iload_n 1, 1) := by decide +kernel
theorem nD_M_endPut_2 : decode nC_M_endPut 2 = .ok (.invokevirtual 81, 3) := by decide +kernel
theorem nD_M_endPut_5 : decode nC_M_endPut 5 = .ok (.istore_n 3, 1) := by decide +kernel
theorem nD_M_endPut_6 : decode nC_M_endPut 6 = .ok (.iload_n 3, 1) := by decide +kernel
theorem nD_M_endPut_7 : decode nC_M_endPut 7 = .ok (.ifCond .lt 12, 3) := by decide +kernel
theorem nD_M_endPut_10 : decode nC_M_endPut 10 = .ok (.aload_n 0, 1) := by decide +kernel
theorem nD_M_endPut_11 : decode nC_M_endPut 11 = .ok (.getfield 13, 3) := by decide +kernel
theorem nD_M_endPut_14 : decode nC_M_endPut 14 = .ok (.iload_n 3, 1) := by decide +kernel
theorem nD_M_endPut_15 : decode nC_M_endPut 15 = .ok (.baload, 1) := by decide +kernel
theorem nD_M_endPut_16 : decode nC_M_endPut 16 = .ok (.ifCond .ne 5, 3) := by decide +kernel
theorem nD_M_endPut_19 : decode nC_M_endPut 19 = .ok (.iconst 0, 1) := by decide +kernel
theorem nD_M_endPut_20 : decode nC_M_endPut 20 = .ok (.ireturn, 1) := by decide +kernel
theorem nD_M_endPut_21 : decode nC_M_endPut 21 = .ok (.aload_n 0, 1) := by decide +kernel
theorem nD_M_endPut_22 : decode nC_M_endPut 22 = .ok (.iload_n 3, 1) := by decide +kernel
theorem nD_M_endPut_23 : decode nC_M_endPut 23 = .ok (.iconst 1, 1) := by decide +kernel
theorem nD_M_endPut_24 : decode nC_M_endPut 24 = .ok (.iload_n 2, 1) := by decide +kernel
theorem nD_M_endPut_25 : decode nC_M_endPut 25 = .ok (.ifCond .eq 7, 3) := by decide +kernel
theorem nD_M_endPut_28 : decode nC_M_endPut 28 = .ok (.iconst 1, 1) := by decide +kernel
theorem nD_M_endPut_29 : decode nC_M_endPut 29 = .ok (.goto 4, 3) := by decide +kernel
theorem nD_M_endPut_32 : decode nC_M_endPut 32 = .ok (.iconst 0, 1) := by decide +kernel
theorem nD_M_endPut_33 : decode nC_M_endPut 33 = .ok (.invokevirtual 92, 3) := by decide +kernel
theorem nD_M_endPut_36 : decode nC_M_endPut 36 = .ok (.iconst 1, 1) := by decide +kernel
theorem nD_M_endPut_37 : decode nC_M_endPut 37 = .ok (.ireturn, 1) := by decide +kernel
theorem nD_M_close_0 : decode nC_M_close 0 = .ok (.aload_n 0, 1) := by decide +kernel
theorem nD_M_close_1 : decode nC_M_close 1 = .ok (.dup, 1) := by decide +kernel
theorem nD_M_close_2 : decode nC_M_close 2 = .ok (.getfield 65, 3) := by decide +kernel
theorem nD_M_close_5 : decode nC_M_close 5 = .ok (.iconst 1, 1) := by decide +kernel
theorem nD_M_close_6 : decode nC_M_close 6 = .ok (.iadd, 1) := by decide +kernel
theorem nD_M_close_7 : decode nC_M_close 7 = .ok (.putfield 65, 3) := by decide +kernel
theorem nD_M_close_10 : decode nC_M_close 10 = .ok (.aload_n 0, 1) := by decide +kernel
theorem nD_M_close_11 : decode nC_M_close 11 = .ok (.getfield 29, 3) := by decide +kernel
theorem nD_M_close_14 : decode nC_M_close 14 = .ok (.iload_n 1, 1) := by decide +kernel
theorem nD_M_close_15 : decode nC_M_close 15 = .ok (.iload_n 2, 1) := by decide +kernel
theorem nD_M_close_16 : decode nC_M_close 16 = .ok (.iastore, 1) := by decide +kernel
theorem nD_M_close_17 : decode nC_M_close 17 = .ok (.aload_n 0, 1) := by decide +kernel
theorem nD_M_close_18 : decode nC_M_close 18 = .ok (.getfield 23, 3) := by decide +kernel
theorem nD_M_close_21 : decode nC_M_close 21 = .ok (.iload_n 1, 1) := by decide +kernel
theorem nD_M_close_22 : decode nC_M_close 22 = .ok (.aload_n 0, 1) := by decide +kernel
theorem nD_M_close_23 : decode nC_M_close 23 = .ok (.getfield 65, 3) := by decide +kernel
theorem nD_M_close_26 : decode nC_M_close 26 = .ok (.iastore, 1) := by decide +kernel
theorem nD_M_close_27 : decode nC_M_close 27 = .ok (.aload_n 0, 1) := by decide +kernel
theorem nD_M_close_28 : decode nC_M_close 28 = .ok (.getfield 26, 3) := by decide +kernel
theorem nD_M_close_31 : decode nC_M_close 31 = .ok (.iload_n 1, 1) := by decide +kernel
theorem nD_M_close_32 : decode nC_M_close 32 = .ok (.iload_n 3, 1) := by decide +kernel
theorem nD_M_close_33 : decode nC_M_close 33 = .ok (.iastore, 1) := by decide +kernel
theorem nD_M_close_34 : decode nC_M_close 34 = .ok (.aload_n 0, 1) := by decide +kernel
theorem nD_M_close_35 : decode nC_M_close 35 = .ok (.invokevirtual 85, 3) := by decide +kernel
theorem nD_M_close_38 : decode nC_M_close 38 = .ok (.return_, 1) := by decide +kernel
theorem nD_M_endTake_0 : decode nC_M_endTake 0 = .ok (.aload_n 0, 1) := by decide +kernel
theorem nD_M_endTake_1 : decode nC_M_endTake 1 = .ok (.iload_n 1, 1) := by decide +kernel
theorem nD_M_endTake_2 : decode nC_M_endTake 2 = .ok (.invokevirtual 81, 3) := by decide +kernel
theorem nD_M_endTake_5 : decode nC_M_endTake 5 = .ok (.istore_n 3, 1) := by decide +kernel
theorem nD_M_endTake_6 : decode nC_M_endTake 6 = .ok (.iload_n 3, 1) := by decide +kernel
theorem nD_M_endTake_7 : decode nC_M_endTake 7 = .ok (.ifCond .lt 23, 3) := by decide +kernel
theorem nD_M_endTake_10 : decode nC_M_endTake 10 = .ok (.aload_n 0, 1) := by decide +kernel
theorem nD_M_endTake_11 : decode nC_M_endTake 11 = .ok (.getfield 13, 3) := by decide +kernel
theorem nD_M_endTake_14 : decode nC_M_endTake 14 = .ok (.iload_n 3, 1) := by decide +kernel
theorem nD_M_endTake_15 : decode nC_M_endTake 15 = .ok (.baload, 1) := by decide +kernel
theorem nD_M_endTake_16 : decode nC_M_endTake 16 = .ok (.ifCond .ne 14, 3) := by decide +kernel
theorem nD_M_endTake_19 : decode nC_M_endTake 19 = .ok (.iload_n 2, 1) := by decide +kernel
theorem nD_M_endTake_20 : decode nC_M_endTake 20 = .ok (.iconst (-1), 1) := by decide +kernel
theorem nD_M_endTake_21 : decode nC_M_endTake 21 = .ok (.if_icmp .lt 9, 3) := by decide +kernel
theorem nD_M_endTake_24 : decode nC_M_endTake 24 = .ok (.iload_n 2, 1) := by decide +kernel
theorem nD_M_endTake_25 : decode nC_M_endTake 25 = .ok (.bipush 15, 2) := by decide +kernel
theorem nD_M_endTake_27 : decode nC_M_endTake 27 = .ok (.if_icmp .le 5, 3) := by decide +kernel
theorem nD_M_endTake_30 : decode nC_M_endTake 30 = .ok (.iconst 0, 1) := by decide +kernel
theorem nD_M_endTake_31 : decode nC_M_endTake 31 = .ok (.ireturn, 1) := by decide +kernel
theorem nD_M_endTake_32 : decode nC_M_endTake 32 = .ok (.aload_n 0, 1) := by decide +kernel
theorem nD_M_endTake_33 : decode nC_M_endTake 33 = .ok (.iload_n 3, 1) := by decide +kernel
theorem nD_M_endTake_34 : decode nC_M_endTake 34 = .ok (.iconst 1, 1) := by decide +kernel
theorem nD_M_endTake_35 : decode nC_M_endTake 35 = .ok (.iload_n 2, 1) := by decide +kernel
theorem nD_M_endTake_36 : decode nC_M_endTake 36 = .ok (.invokevirtual 92, 3) := by decide +kernel
theorem nD_M_endTake_39 : decode nC_M_endTake 39 = .ok (.iconst 1, 1) := by decide +kernel
theorem nD_M_endTake_40 : decode nC_M_endTake 40 = .ok (.ireturn, 1) := by decide +kernel
theorem nD_M_giveUp_0 : decode nC_M_giveUp 0 = .ok (.aload_n 0, 1) := by decide +kernel
theorem nD_M_giveUp_1 : decode nC_M_giveUp 1 = .ok (.iload_n 1, 1) := by decide +kernel
theorem nD_M_giveUp_2 : decode nC_M_giveUp 2 = .ok (.invokevirtual 81, 3) := by decide +kernel
theorem nD_M_giveUp_5 : decode nC_M_giveUp 5 = .ok (.istore_n 2, 1) := by decide +kernel
theorem nD_M_giveUp_6 : decode nC_M_giveUp 6 = .ok (.iload_n 2, 1) := by decide +kernel
theorem nD_M_giveUp_7 : decode nC_M_giveUp 7 = .ok (.ifCond .ge 5, 3) := by decide +kernel
theorem nD_M_giveUp_10 : decode nC_M_giveUp 10 = .ok (.iconst 0, 1) := by decide +kernel
theorem nD_M_giveUp_11 : decode nC_M_giveUp 11 = .ok (.ireturn, 1) := by decide +kernel
theorem nD_M_giveUp_12 : decode nC_M_giveUp 12 = .ok (.aload_n 0, 1) := by decide +kernel
theorem nD_M_giveUp_13 : decode nC_M_giveUp 13 = .ok (.iload_n 2, 1) := by decide +kernel
theorem nD_M_giveUp_14 : decode nC_M_giveUp 14 = .ok (.iconst 2, 1) := by decide +kernel
theorem nD_M_giveUp_15 : decode nC_M_giveUp 15 = .ok (.iconst 0, 1) := by decide +kernel
theorem nD_M_giveUp_16 : decode nC_M_giveUp 16 = .ok (.invokevirtual 92, 3) := by decide +kernel
theorem nD_M_giveUp_19 : decode nC_M_giveUp 19 = .ok (.iconst 1, 1) := by decide +kernel
theorem nD_M_giveUp_20 : decode nC_M_giveUp 20 = .ok (.ireturn, 1) := by decide +kernel
theorem nD_M_events_0 : decode nC_M_events 0 = .ok (.aload_n 0, 1) := by decide +kernel
theorem nD_M_events_1 : decode nC_M_events 1 = .ok (.getfield 65, 3) := by decide +kernel
theorem nD_M_events_4 : decode nC_M_events 4 = .ok (.ireturn, 1) := by decide +kernel
theorem nD_M_begun_0 : decode nC_M_begun 0 = .ok (.aload_n 0, 1) := by decide +kernel
theorem nD_M_begun_1 : decode nC_M_begun 1 = .ok (.getfield 71, 3) := by decide +kernel
theorem nD_M_begun_4 : decode nC_M_begun 4 = .ok (.ireturn, 1) := by decide +kernel
theorem nD_M_fits_0 : decode nC_M_fits 0 = .ok (.aload_n 0, 1) := by decide +kernel
theorem nD_M_fits_1 : decode nC_M_fits 1 = .ok (.getfield 77, 3) := by decide +kernel
theorem nD_M_fits_4 : decode nC_M_fits 4 = .ok (.lconst 0, 1) := by decide +kernel
theorem nD_M_fits_5 : decode nC_M_fits 5 = .ok (.lcmp, 1) := by decide +kernel
theorem nD_M_fits_6 : decode nC_M_fits 6 = .ok (.ifCond .le 7, 3) := by decide +kernel
theorem nD_M_fits_9 : decode nC_M_fits 9 = .ok (.iconst 1, 1) := by decide +kernel
theorem nD_M_fits_10 : decode nC_M_fits 10 = .ok (.goto 4, 3) := by decide +kernel
theorem nD_M_fits_13 : decode nC_M_fits 13 = .ok (.iconst 0, 1) := by decide +kernel
theorem nD_M_fits_14 : decode nC_M_fits 14 = .ok (.ireturn, 1) := by decide +kernel
theorem nD_M_brokenAt_0 : decode nC_M_brokenAt 0 = .ok (.aload_n 0, 1) := by decide +kernel
theorem nD_M_brokenAt_1 : decode nC_M_brokenAt 1 = .ok (.getfield 68, 3) := by decide +kernel
theorem nD_M_brokenAt_4 : decode nC_M_brokenAt 4 = .ok (.ireturn, 1) := by decide +kernel
theorem nD_M_explanations_0 : decode nC_M_explanations 0 = .ok (.aload_n 0, 1) := by decide +kernel
theorem nD_M_explanations_1 : decode nC_M_explanations 1 = .ok (.getfield 77, 3) := by decide +kernel
theorem nD_M_explanations_4 : decode nC_M_explanations 4 = .ok (.lreturn, 1) := by decide +kernel
theorem nD_M_outcomes_0 : decode nC_M_outcomes 0 = .ok (.aload_n 0, 1) := by decide +kernel
theorem nD_M_outcomes_1 : decode nC_M_outcomes 1 = .ok (.getfield 109, 3) := by decide +kernel
theorem nD_M_outcomes_4 : decode nC_M_outcomes 4 = .ok (.ireturn, 1) := by decide +kernel
theorem nD_M_fewest_0 : decode nC_M_fewest 0 = .ok (.iconst (-1), 1) := by decide +kernel
theorem nD_M_fewest_1 : decode nC_M_fewest 1 = .ok (.istore_n 1, 1) := by decide +kernel
theorem nD_M_fewest_2 : decode nC_M_fewest 2 = .ok (.iconst 0, 1) := by decide +kernel
theorem nD_M_fewest_3 : decode nC_M_fewest 3 = .ok (.istore_n 2, 1) := by decide +kernel
theorem nD_M_fewest_4 : decode nC_M_fewest 4 = .ok (.iload_n 2, 1) := by decide +kernel
theorem nD_M_fewest_5 : decode nC_M_fewest 5 = .ok (.aload_n 0, 1) := by decide +kernel
theorem nD_M_fewest_6 : decode nC_M_fewest 6 = .ok (.getfield 109, 3) := by decide +kernel
theorem nD_M_fewest_9 : decode nC_M_fewest 9 = .ok (.if_icmp .ge 30, 3) := by decide +kernel
theorem nD_M_fewest_12 : decode nC_M_fewest 12 = .ok (.aload_n 0, 1) := by decide +kernel
theorem nD_M_fewest_13 : decode nC_M_fewest 13 = .ok (.iload_n 2, 1) := by decide +kernel
theorem nD_M_fewest_14 : decode nC_M_fewest 14 = .ok (.invokevirtual 126, 3) := by decide +kernel
theorem nD_M_fewest_17 : decode nC_M_fewest 17 = .ok (.istore_n 3, 1) := by decide +kernel
theorem nD_M_fewest_18 : decode nC_M_fewest 18 = .ok (.iload_n 1, 1) := by decide +kernel
theorem nD_M_fewest_19 : decode nC_M_fewest 19 = .ok (.ifCond .lt 8, 3) := by decide +kernel
theorem nD_M_fewest_22 : decode nC_M_fewest 22 = .ok (.iload_n 3, 1) := by decide +kernel
theorem nD_M_fewest_23 : decode nC_M_fewest 23 = .ok (.iload_n 1, 1) := by decide +kernel
theorem nD_M_fewest_24 : decode nC_M_fewest 24 = .ok (.if_icmp .ge 7, 3) := by decide +kernel
theorem nD_M_fewest_27 : decode nC_M_fewest 27 = .ok (.iload_n 3, 1) := by decide +kernel
theorem nD_M_fewest_28 : decode nC_M_fewest 28 = .ok (.goto 4, 3) := by decide +kernel
theorem nD_M_fewest_31 : decode nC_M_fewest 31 = .ok (.iload_n 1, 1) := by decide +kernel
theorem nD_M_fewest_32 : decode nC_M_fewest 32 = .ok (.istore_n 1, 1) := by decide +kernel
theorem nD_M_fewest_33 : decode nC_M_fewest 33 = .ok (.iinc 2 1, 3) := by decide +kernel
theorem nD_M_fewest_36 : decode nC_M_fewest 36 = .ok (.goto (-32), 3) := by decide +kernel
theorem nD_M_fewest_39 : decode nC_M_fewest 39 = .ok (.iload_n 1, 1) := by decide +kernel
theorem nD_M_fewest_40 : decode nC_M_fewest 40 = .ok (.ireturn, 1) := by decide +kernel
theorem nD_M_sizeOf_0 : decode nC_M_sizeOf 0 = .ok (.aload_n 0, 1) := by decide +kernel
theorem nD_M_sizeOf_1 : decode nC_M_sizeOf 1 = .ok (.getfield 44, 3) := by decide +kernel
theorem nD_M_sizeOf_4 : decode nC_M_sizeOf 4 = .ok (.iload_n 1, 1) := by decide +kernel
theorem nD_M_sizeOf_5 : decode nC_M_sizeOf 5 = .ok (.laload, 1) := by decide +kernel
theorem nD_M_sizeOf_6 : decode nC_M_sizeOf 6 = .ok (.ldc2_w 124, 3) := by decide +kernel
theorem nD_M_sizeOf_9 : decode nC_M_sizeOf 9 = .ok (.land, 1) := by decide +kernel
theorem nD_M_sizeOf_10 : decode nC_M_sizeOf 10 = .ok (.l2i, 1) := by decide +kernel
theorem nD_M_sizeOf_11 : decode nC_M_sizeOf 11 = .ok (.ireturn, 1) := by decide +kernel
theorem nD_M_most_0 : decode nC_M_most 0 = .ok (.iconst (-1), 1) := by decide +kernel
theorem nD_M_most_1 : decode nC_M_most 1 = .ok (.istore_n 1, 1) := by decide +kernel
theorem nD_M_most_2 : decode nC_M_most 2 = .ok (.iconst 0, 1) := by decide +kernel
theorem nD_M_most_3 : decode nC_M_most 3 = .ok (.istore_n 2, 1) := by decide +kernel
theorem nD_M_most_4 : decode nC_M_most 4 = .ok (.iload_n 2, 1) := by decide +kernel
theorem nD_M_most_5 : decode nC_M_most 5 = .ok (.aload_n 0, 1) := by decide +kernel
theorem nD_M_most_6 : decode nC_M_most 6 = .ok (.getfield 109, 3) := by decide +kernel
theorem nD_M_most_9 : decode nC_M_most 9 = .ok (.if_icmp .ge 26, 3) := by decide +kernel
theorem nD_M_most_12 : decode nC_M_most 12 = .ok (.aload_n 0, 1) := by decide +kernel
theorem nD_M_most_13 : decode nC_M_most 13 = .ok (.iload_n 2, 1) := by decide +kernel
theorem nD_M_most_14 : decode nC_M_most 14 = .ok (.invokevirtual 126, 3) := by decide +kernel
theorem nD_M_most_17 : decode nC_M_most 17 = .ok (.istore_n 3, 1) := by decide +kernel
theorem nD_M_most_18 : decode nC_M_most 18 = .ok (.iload_n 3, 1) := by decide +kernel
theorem nD_M_most_19 : decode nC_M_most 19 = .ok (.iload_n 1, 1) := by decide +kernel
theorem nD_M_most_20 : decode nC_M_most 20 = .ok (.if_icmp .le 7, 3) := by decide +kernel
theorem nD_M_most_23 : decode nC_M_most 23 = .ok (.iload_n 3, 1) := by decide +kernel
theorem nD_M_most_24 : decode nC_M_most 24 = .ok (.goto 4, 3) := by decide +kernel
theorem nD_M_most_27 : decode nC_M_most 27 = .ok (.iload_n 1, 1) := by decide +kernel
theorem nD_M_most_28 : decode nC_M_most 28 = .ok (.istore_n 1, 1) := by decide +kernel
theorem nD_M_most_29 : decode nC_M_most 29 = .ok (.iinc 2 1, 3) := by decide +kernel
theorem nD_M_most_32 : decode nC_M_most 32 = .ok (.goto (-28), 3) := by decide +kernel
theorem nD_M_most_35 : decode nC_M_most 35 = .ok (.iload_n 1, 1) := by decide +kernel
theorem nD_M_most_36 : decode nC_M_most 36 = .ok (.ireturn, 1) := by decide +kernel
theorem nD_M_mayHold_0 : decode nC_M_mayHold 0 = .ok (.iload_n 1, 1) := by decide +kernel
theorem nD_M_mayHold_1 : decode nC_M_mayHold 1 = .ok (.ifCond .lt 19, 3) := by decide +kernel
theorem nD_M_mayHold_4 : decode nC_M_mayHold 4 = .ok (.iload_n 1, 1) := by decide +kernel
theorem nD_M_mayHold_5 : decode nC_M_mayHold 5 = .ok (.bipush 7, 2) := by decide +kernel
theorem nD_M_mayHold_7 : decode nC_M_mayHold 7 = .ok (.if_icmp .gt 13, 3) := by decide +kernel
theorem nD_M_mayHold_10 : decode nC_M_mayHold 10 = .ok (.iload_n 2, 1) := by decide +kernel
theorem nD_M_mayHold_11 : decode nC_M_mayHold 11 = .ok (.ifCond .lt 9, 3) := by decide +kernel
theorem nD_M_mayHold_14 : decode nC_M_mayHold 14 = .ok (.iload_n 2, 1) := by decide +kernel
theorem nD_M_mayHold_15 : decode nC_M_mayHold 15 = .ok (.bipush 15, 2) := by decide +kernel
theorem nD_M_mayHold_17 : decode nC_M_mayHold 17 = .ok (.if_icmp .le 5, 3) := by decide +kernel
theorem nD_M_mayHold_20 : decode nC_M_mayHold 20 = .ok (.iconst 0, 1) := by decide +kernel
theorem nD_M_mayHold_21 : decode nC_M_mayHold 21 = .ok (.ireturn, 1) := by decide +kernel
theorem nD_M_mayHold_22 : decode nC_M_mayHold 22 = .ok (.iconst 0, 1) := by decide +kernel
theorem nD_M_mayHold_23 : decode nC_M_mayHold 23 = .ok (.istore_n 3, 1) := by decide +kernel
theorem nD_M_mayHold_24 : decode nC_M_mayHold 24 = .ok (.iconst 0, 1) := by decide +kernel
theorem nD_M_mayHold_25 : decode nC_M_mayHold 25 = .ok (.istore 4, 2) := by decide +kernel
theorem nD_M_mayHold_27 : decode nC_M_mayHold 27 = .ok (.iload 4, 2) := by decide +kernel
theorem nD_M_mayHold_29 : decode nC_M_mayHold 29 = .ok (.aload_n 0, 1) := by decide +kernel
theorem nD_M_mayHold_30 : decode nC_M_mayHold 30 = .ok (.getfield 109, 3) := by decide +kernel
theorem nD_M_mayHold_33 : decode nC_M_mayHold 33 = .ok (.if_icmp .ge 52, 3) := by decide +kernel
theorem nD_M_mayHold_36 : decode nC_M_mayHold 36 = .ok (.iload_n 3, 1) := by decide +kernel
theorem nD_M_mayHold_37 : decode nC_M_mayHold 37 = .ok (.ifCond .ne 36, 3) := by decide +kernel
theorem nD_M_mayHold_40 : decode nC_M_mayHold 40 = .ok (.iload_n 1, 1) := by decide +kernel
theorem nD_M_mayHold_41 : decode nC_M_mayHold 41 = .ok (.aload_n 0, 1) := by decide +kernel
theorem nD_M_mayHold_42 : decode nC_M_mayHold 42 = .ok (.iload 4, 2) := by decide +kernel
theorem nD_M_mayHold_44 : decode nC_M_mayHold 44 = .ok (.invokevirtual 126, 3) := by decide +kernel
theorem nD_M_mayHold_47 : decode nC_M_mayHold 47 = .ok (.if_icmp .ge 30, 3) := by decide +kernel
theorem nD_M_mayHold_50 : decode nC_M_mayHold 50 = .ok (.aload_n 0, 1) := by decide +kernel
theorem nD_M_mayHold_51 : decode nC_M_mayHold 51 = .ok (.getfield 44, 3) := by decide +kernel
theorem nD_M_mayHold_54 : decode nC_M_mayHold 54 = .ok (.iload 4, 2) := by decide +kernel
theorem nD_M_mayHold_56 : decode nC_M_mayHold 56 = .ok (.laload, 1) := by decide +kernel
theorem nD_M_mayHold_57 : decode nC_M_mayHold 57 = .ok (.iconst 4, 1) := by decide +kernel
theorem nD_M_mayHold_58 : decode nC_M_mayHold 58 = .ok (.iconst 4, 1) := by decide +kernel
theorem nD_M_mayHold_59 : decode nC_M_mayHold 59 = .ok (.iload_n 1, 1) := by decide +kernel
theorem nD_M_mayHold_60 : decode nC_M_mayHold 60 = .ok (.imul, 1) := by decide +kernel
theorem nD_M_mayHold_61 : decode nC_M_mayHold 61 = .ok (.iadd, 1) := by decide +kernel
theorem nD_M_mayHold_62 : decode nC_M_mayHold 62 = .ok (.lshr, 1) := by decide +kernel
theorem nD_M_mayHold_63 : decode nC_M_mayHold 63 = .ok (.ldc2_w 124, 3) := by decide +kernel
theorem nD_M_mayHold_66 : decode nC_M_mayHold 66 = .ok (.land, 1) := by decide +kernel
theorem nD_M_mayHold_67 : decode nC_M_mayHold 67 = .ok (.iload_n 2, 1) := by decide +kernel
theorem nD_M_mayHold_68 : decode nC_M_mayHold 68 = .ok (.i2l, 1) := by decide +kernel
theorem nD_M_mayHold_69 : decode nC_M_mayHold 69 = .ok (.lcmp, 1) := by decide +kernel
theorem nD_M_mayHold_70 : decode nC_M_mayHold 70 = .ok (.ifCond .ne 7, 3) := by decide +kernel
theorem nD_M_mayHold_73 : decode nC_M_mayHold 73 = .ok (.iconst 1, 1) := by decide +kernel
theorem nD_M_mayHold_74 : decode nC_M_mayHold 74 = .ok (.goto 4, 3) := by decide +kernel
theorem nD_M_mayHold_77 : decode nC_M_mayHold 77 = .ok (.iconst 0, 1) := by decide +kernel
theorem nD_M_mayHold_78 : decode nC_M_mayHold 78 = .ok (.istore_n 3, 1) := by decide +kernel
theorem nD_M_mayHold_79 : decode nC_M_mayHold 79 = .ok (.iinc 4 1, 3) := by decide +kernel
theorem nD_M_mayHold_82 : decode nC_M_mayHold 82 = .ok (.goto (-55), 3) := by decide +kernel
theorem nD_M_mayHold_85 : decode nC_M_mayHold 85 = .ok (.iload_n 3, 1) := by decide +kernel
theorem nD_M_mayHold_86 : decode nC_M_mayHold 86 = .ok (.ireturn, 1) := by decide +kernel
theorem nD_M_certain_0 : decode nC_M_certain 0 = .ok (.aload_n 0, 1) := by decide +kernel
theorem nD_M_certain_1 : decode nC_M_certain 1 = .ok (.iload_n 1, 1) := by decide +kernel
theorem nD_M_certain_2 : decode nC_M_certain 2 = .ok (.invokevirtual 81, 3) := by decide +kernel
theorem nD_M_certain_5 : decode nC_M_certain 5 = .ok (.ifCond .lt 30, 3) := by decide +kernel
theorem nD_M_certain_8 : decode nC_M_certain 8 = .ok (.aload_n 0, 1) := by decide +kernel
theorem nD_M_certain_9 : decode nC_M_certain 9 = .ok (.getfield 77, 3) := by decide +kernel
theorem nD_M_certain_12 : decode nC_M_certain 12 = .ok (.lconst 0, 1) := by decide +kernel
theorem nD_M_certain_13 : decode nC_M_certain 13 = .ok (.lcmp, 1) := by decide +kernel
theorem nD_M_certain_14 : decode nC_M_certain 14 = .ok (.ifCond .le 21, 3) := by decide +kernel
theorem nD_M_certain_17 : decode nC_M_certain 17 = .ok (.aload_n 0, 1) := by decide +kernel
theorem nD_M_certain_18 : decode nC_M_certain 18 = .ok (.getfield 48, 3) := by decide +kernel
theorem nD_M_certain_21 : decode nC_M_certain 21 = .ok (.iload_n 1, 1) := by decide +kernel
theorem nD_M_certain_22 : decode nC_M_certain 22 = .ok (.laload, 1) := by decide +kernel
theorem nD_M_certain_23 : decode nC_M_certain 23 = .ok (.aload_n 0, 1) := by decide +kernel
theorem nD_M_certain_24 : decode nC_M_certain 24 = .ok (.getfield 77, 3) := by decide +kernel
theorem nD_M_certain_27 : decode nC_M_certain 27 = .ok (.lcmp, 1) := by decide +kernel
theorem nD_M_certain_28 : decode nC_M_certain 28 = .ok (.ifCond .ne 7, 3) := by decide +kernel
theorem nD_M_certain_31 : decode nC_M_certain 31 = .ok (.iconst 1, 1) := by decide +kernel
theorem nD_M_certain_32 : decode nC_M_certain 32 = .ok (.goto 4, 3) := by decide +kernel
theorem nD_M_certain_35 : decode nC_M_certain 35 = .ok (.iconst 0, 1) := by decide +kernel
theorem nD_M_certain_36 : decode nC_M_certain 36 = .ok (.ireturn, 1) := by decide +kernel
theorem nD_M_answers_0 : decode nC_M_answers 0 = .ok (.aload_n 0, 1) := by decide +kernel
theorem nD_M_answers_1 : decode nC_M_answers 1 = .ok (.iload_n 1, 1) := by decide +kernel
theorem nD_M_answers_2 : decode nC_M_answers 2 = .ok (.invokevirtual 81, 3) := by decide +kernel
theorem nD_M_answers_5 : decode nC_M_answers 5 = .ok (.ifCond .ge 5, 3) := by decide +kernel
theorem nD_M_answers_8 : decode nC_M_answers 8 = .ok (.iconst 0, 1) := by decide +kernel
theorem nD_M_answers_9 : decode nC_M_answers 9 = .ok (.ireturn, 1) := by decide +kernel
theorem nD_M_answers_10 : decode nC_M_answers 10 = .ok (.iconst 0, 1) := by decide +kernel
theorem nD_M_answers_11 : decode nC_M_answers 11 = .ok (.istore_n 2, 1) := by decide +kernel
theorem nD_M_answers_12 : decode nC_M_answers 12 = .ok (.iconst 0, 1) := by decide +kernel
theorem nD_M_answers_13 : decode nC_M_answers 13 = .ok (.istore_n 3, 1) := by decide +kernel
theorem nD_M_answers_14 : decode nC_M_answers 14 = .ok (.iload_n 3, 1) := by decide +kernel
theorem nD_M_answers_15 : decode nC_M_answers 15 = .ok (.bipush 17, 2) := by decide +kernel
theorem nD_M_answers_17 : decode nC_M_answers 17 = .ok (.if_icmp .ge 22, 3) := by decide +kernel
theorem nD_M_answers_20 : decode nC_M_answers 20 = .ok (.iload_n 2, 1) := by decide +kernel
theorem nD_M_answers_21 : decode nC_M_answers 21 = .ok (.aload_n 0, 1) := by decide +kernel
theorem nD_M_answers_22 : decode nC_M_answers 22 = .ok (.getfield 51, 3) := by decide +kernel
theorem nD_M_answers_25 : decode nC_M_answers 25 = .ok (.iload_n 1, 1) := by decide +kernel
theorem nD_M_answers_26 : decode nC_M_answers 26 = .ok (.iaload, 1) := by decide +kernel
theorem nD_M_answers_27 : decode nC_M_answers 27 = .ok (.iload_n 3, 1) := by decide +kernel
theorem nD_M_answers_28 : decode nC_M_answers 28 = .ok (.ishr, 1) := by decide +kernel
theorem nD_M_answers_29 : decode nC_M_answers 29 = .ok (.iconst 1, 1) := by decide +kernel
theorem nD_M_answers_30 : decode nC_M_answers 30 = .ok (.iand, 1) := by decide +kernel
theorem nD_M_answers_31 : decode nC_M_answers 31 = .ok (.iadd, 1) := by decide +kernel
theorem nD_M_answers_32 : decode nC_M_answers 32 = .ok (.istore_n 2, 1) := by decide +kernel
theorem nD_M_answers_33 : decode nC_M_answers 33 = .ok (.iinc 3 1, 3) := by decide +kernel
theorem nD_M_answers_36 : decode nC_M_answers 36 = .ok (.goto (-22), 3) := by decide +kernel
theorem nD_M_answers_39 : decode nC_M_answers 39 = .ok (.iload_n 2, 1) := by decide +kernel
theorem nD_M_answers_40 : decode nC_M_answers 40 = .ok (.ireturn, 1) := by decide +kernel
end
section
theorem nD_L_law_0 : decode nC_L_law 0 = .ok (.new 7, 3) := by decide +kernel
theorem nD_L_law_3 : decode nC_L_law 3 = .ok (.dup, 1) := by decide +kernel
theorem nD_L_law_4 : decode nC_L_law 4 = .ok (.aload_n 0, 1) := by decide +kernel
theorem nD_L_law_5 : decode nC_L_law 5 = .ok (.iconst 0, 1) := by decide +kernel
theorem nD_L_law_6 : decode nC_L_law 6 = .ok (.invokestatic 9, 3) := by decide +kernel
theorem nD_L_law_9 : decode nC_L_law 9 = .ok (.aload_n 0, 1) := by decide +kernel
theorem nD_L_law_10 : decode nC_L_law 10 = .ok (.iconst 1, 1) := by decide +kernel
theorem nD_L_law_11 : decode nC_L_law 11 = .ok (.invokestatic 9, 3) := by decide +kernel
theorem nD_L_law_14 : decode nC_L_law 14 = .ok (.invokespecial 15, 3) := by decide +kernel
theorem nD_L_law_17 : decode nC_L_law 17 = .ok (.astore_n 1, 1) := by decide +kernel
theorem nD_L_law_18 : decode nC_L_law 18 = .ok (.new 18, 3) := by decide +kernel
theorem nD_L_law_21 : decode nC_L_law 21 = .ok (.dup, 1) := by decide +kernel
theorem nD_L_law_22 : decode nC_L_law 22 = .ok (.aload_n 0, 1) := by decide +kernel
theorem nD_L_law_23 : decode nC_L_law 23 = .ok (.iconst 0, 1) := by decide +kernel
theorem nD_L_law_24 : decode nC_L_law 24 = .ok (.invokestatic 9, 3) := by decide +kernel
theorem nD_L_law_27 : decode nC_L_law 27 = .ok (.aload_n 0, 1) := by decide +kernel
theorem nD_L_law_28 : decode nC_L_law 28 = .ok (.iconst 1, 1) := by decide +kernel
theorem nD_L_law_29 : decode nC_L_law 29 = .ok (.invokestatic 9, 3) := by decide +kernel
theorem nD_L_law_32 : decode nC_L_law 32 = .ok (.invokespecial 20, 3) := by decide +kernel
theorem nD_L_law_35 : decode nC_L_law 35 = .ok (.astore_n 2, 1) := by decide +kernel
theorem nD_L_law_36 : decode nC_L_law 36 = .ok (.iconst 2, 1) := by decide +kernel
theorem nD_L_law_37 : decode nC_L_law 37 = .ok (.istore_n 3, 1) := by decide +kernel
theorem nD_L_law_38 : decode nC_L_law 38 = .ok (.iload_n 3, 1) := by decide +kernel
theorem nD_L_law_39 : decode nC_L_law 39 = .ok (.aload_n 0, 1) := by decide +kernel
theorem nD_L_law_40 : decode nC_L_law 40 = .ok (.arraylength, 1) := by decide +kernel
theorem nD_L_law_41 : decode nC_L_law 41 = .ok (.iconst 3, 1) := by decide +kernel
theorem nD_L_law_42 : decode nC_L_law 42 = .ok (.isub, 1) := by decide +kernel
theorem nD_L_law_43 : decode nC_L_law 43 = .ok (.if_icmp .gt 475, 3) := by decide +kernel
theorem nD_L_law_46 : decode nC_L_law 46 = .ok (.aload_n 0, 1) := by decide +kernel
theorem nD_L_law_47 : decode nC_L_law 47 = .ok (.iload_n 3, 1) := by decide +kernel
theorem nD_L_law_48 : decode nC_L_law 48 = .ok (.iaload, 1) := by decide +kernel
theorem nD_L_law_49 : decode nC_L_law 49 = .ok (.bipush 31, 2) := by decide +kernel
theorem nD_L_law_51 : decode nC_L_law 51 = .ok (.iand, 1) := by decide +kernel
theorem nD_L_law_52 : decode nC_L_law 52 = .ok (.tableswitch 460 0 16 #[84, 115, 148, 171, 220, 253, 276, 289, 302, 315, 328, 342, 355, 368, 381, 414, 437], 84) := by decide +kernel
theorem nD_L_law_136 : decode nC_L_law 136 = .ok (.aload_n 1, 1) := by decide +kernel
theorem nD_L_law_137 : decode nC_L_law 137 = .ok (.aload_n 0, 1) := by decide +kernel
theorem nD_L_law_138 : decode nC_L_law 138 = .ok (.iload_n 3, 1) := by decide +kernel
theorem nD_L_law_139 : decode nC_L_law 139 = .ok (.iconst 1, 1) := by decide +kernel
theorem nD_L_law_140 : decode nC_L_law 140 = .ok (.iadd, 1) := by decide +kernel
theorem nD_L_law_141 : decode nC_L_law 141 = .ok (.iaload, 1) := by decide +kernel
theorem nD_L_law_142 : decode nC_L_law 142 = .ok (.aload_n 0, 1) := by decide +kernel
theorem nD_L_law_143 : decode nC_L_law 143 = .ok (.iload_n 3, 1) := by decide +kernel
theorem nD_L_law_144 : decode nC_L_law 144 = .ok (.iconst 2, 1) := by decide +kernel
theorem nD_L_law_145 : decode nC_L_law 145 = .ok (.iadd, 1) := by decide +kernel
theorem nD_L_law_146 : decode nC_L_law 146 = .ok (.iaload, 1) := by decide +kernel
theorem nD_L_law_147 : decode nC_L_law 147 = .ok (.invokevirtual 21, 3) := by decide +kernel
theorem nD_L_law_150 : decode nC_L_law 150 = .ok (.aload_n 2, 1) := by decide +kernel
theorem nD_L_law_151 : decode nC_L_law 151 = .ok (.aload_n 0, 1) := by decide +kernel
theorem nD_L_law_152 : decode nC_L_law 152 = .ok (.iload_n 3, 1) := by decide +kernel
theorem nD_L_law_153 : decode nC_L_law 153 = .ok (.iconst 1, 1) := by decide +kernel
theorem nD_L_law_154 : decode nC_L_law 154 = .ok (.iadd, 1) := by decide +kernel
theorem nD_L_law_155 : decode nC_L_law 155 = .ok (.iaload, 1) := by decide +kernel
theorem nD_L_law_156 : decode nC_L_law 156 = .ok (.aload_n 0, 1) := by decide +kernel
theorem nD_L_law_157 : decode nC_L_law 157 = .ok (.iload_n 3, 1) := by decide +kernel
theorem nD_L_law_158 : decode nC_L_law 158 = .ok (.iconst 2, 1) := by decide +kernel
theorem nD_L_law_159 : decode nC_L_law 159 = .ok (.iadd, 1) := by decide +kernel
theorem nD_L_law_160 : decode nC_L_law 160 = .ok (.iaload, 1) := by decide +kernel
theorem nD_L_law_161 : decode nC_L_law 161 = .ok (.invokevirtual 24, 3) := by decide +kernel
theorem nD_L_law_164 : decode nC_L_law 164 = .ok (.goto 348, 3) := by decide +kernel
theorem nD_L_law_167 : decode nC_L_law 167 = .ok (.aload_n 1, 1) := by decide +kernel
theorem nD_L_law_168 : decode nC_L_law 168 = .ok (.aload_n 0, 1) := by decide +kernel
theorem nD_L_law_169 : decode nC_L_law 169 = .ok (.iload_n 3, 1) := by decide +kernel
theorem nD_L_law_170 : decode nC_L_law 170 = .ok (.iconst 1, 1) := by decide +kernel
theorem nD_L_law_171 : decode nC_L_law 171 = .ok (.iadd, 1) := by decide +kernel
theorem nD_L_law_172 : decode nC_L_law 172 = .ok (.iaload, 1) := by decide +kernel
theorem nD_L_law_173 : decode nC_L_law 173 = .ok (.aload_n 0, 1) := by decide +kernel
theorem nD_L_law_174 : decode nC_L_law 174 = .ok (.iload_n 3, 1) := by decide +kernel
theorem nD_L_law_175 : decode nC_L_law 175 = .ok (.iconst 2, 1) := by decide +kernel
theorem nD_L_law_176 : decode nC_L_law 176 = .ok (.iadd, 1) := by decide +kernel
theorem nD_L_law_177 : decode nC_L_law 177 = .ok (.iaload, 1) := by decide +kernel
theorem nD_L_law_178 : decode nC_L_law 178 = .ok (.invokevirtual 25, 3) := by decide +kernel
theorem nD_L_law_181 : decode nC_L_law 181 = .ok (.aload_n 2, 1) := by decide +kernel
theorem nD_L_law_182 : decode nC_L_law 182 = .ok (.aload_n 0, 1) := by decide +kernel
theorem nD_L_law_183 : decode nC_L_law 183 = .ok (.iload_n 3, 1) := by decide +kernel
theorem nD_L_law_184 : decode nC_L_law 184 = .ok (.iconst 1, 1) := by decide +kernel
theorem nD_L_law_185 : decode nC_L_law 185 = .ok (.iadd, 1) := by decide +kernel
theorem nD_L_law_186 : decode nC_L_law 186 = .ok (.iaload, 1) := by decide +kernel
theorem nD_L_law_187 : decode nC_L_law 187 = .ok (.aload_n 0, 1) := by decide +kernel
theorem nD_L_law_188 : decode nC_L_law 188 = .ok (.iload_n 3, 1) := by decide +kernel
theorem nD_L_law_189 : decode nC_L_law 189 = .ok (.iconst 2, 1) := by decide +kernel
theorem nD_L_law_190 : decode nC_L_law 190 = .ok (.iadd, 1) := by decide +kernel
theorem nD_L_law_191 : decode nC_L_law 191 = .ok (.iaload, 1) := by decide +kernel
theorem nD_L_law_192 : decode nC_L_law 192 = .ok (.invokevirtual 29, 3) := by decide +kernel
theorem nD_L_law_195 : decode nC_L_law 195 = .ok (.if_icmp .eq 317, 3) := by decide +kernel
theorem nD_L_law_198 : decode nC_L_law 198 = .ok (.iconst 0, 1) := by decide +kernel
theorem nD_L_law_199 : decode nC_L_law 199 = .ok (.ireturn, 1) := by decide +kernel
theorem nD_L_law_200 : decode nC_L_law 200 = .ok (.aload_n 1, 1) := by decide +kernel
theorem nD_L_law_201 : decode nC_L_law 201 = .ok (.aload_n 0, 1) := by decide +kernel
theorem nD_L_law_202 : decode nC_L_law 202 = .ok (.iload_n 3, 1) := by decide +kernel
theorem nD_L_law_203 : decode nC_L_law 203 = .ok (.iconst 1, 1) := by decide +kernel
theorem nD_L_law_204 : decode nC_L_law 204 = .ok (.iadd, 1) := by decide +kernel
theorem nD_L_law_205 : decode nC_L_law 205 = .ok (.iaload, 1) := by decide +kernel
theorem nD_L_law_206 : decode nC_L_law 206 = .ok (.invokevirtual 30, 3) := by decide +kernel
theorem nD_L_law_209 : decode nC_L_law 209 = .ok (.aload_n 2, 1) := by decide +kernel
theorem nD_L_law_210 : decode nC_L_law 210 = .ok (.aload_n 0, 1) := by decide +kernel
theorem nD_L_law_211 : decode nC_L_law 211 = .ok (.iload_n 3, 1) := by decide +kernel
theorem nD_L_law_212 : decode nC_L_law 212 = .ok (.iconst 1, 1) := by decide +kernel
theorem nD_L_law_213 : decode nC_L_law 213 = .ok (.iadd, 1) := by decide +kernel
theorem nD_L_law_214 : decode nC_L_law 214 = .ok (.iaload, 1) := by decide +kernel
theorem nD_L_law_215 : decode nC_L_law 215 = .ok (.invokevirtual 34, 3) := by decide +kernel
theorem nD_L_law_218 : decode nC_L_law 218 = .ok (.if_icmp .eq 294, 3) := by decide +kernel
theorem nD_L_law_221 : decode nC_L_law 221 = .ok (.iconst 0, 1) := by decide +kernel
theorem nD_L_law_222 : decode nC_L_law 222 = .ok (.ireturn, 1) := by decide +kernel
theorem nD_L_law_223 : decode nC_L_law 223 = .ok (.aload_n 1, 1) := by decide +kernel
theorem nD_L_law_224 : decode nC_L_law 224 = .ok (.aload_n 0, 1) := by decide +kernel
theorem nD_L_law_225 : decode nC_L_law 225 = .ok (.iload_n 3, 1) := by decide +kernel
theorem nD_L_law_226 : decode nC_L_law 226 = .ok (.iconst 1, 1) := by decide +kernel
theorem nD_L_law_227 : decode nC_L_law 227 = .ok (.iadd, 1) := by decide +kernel
theorem nD_L_law_228 : decode nC_L_law 228 = .ok (.iaload, 1) := by decide +kernel
theorem nD_L_law_229 : decode nC_L_law 229 = .ok (.aload_n 0, 1) := by decide +kernel
theorem nD_L_law_230 : decode nC_L_law 230 = .ok (.iload_n 3, 1) := by decide +kernel
theorem nD_L_law_231 : decode nC_L_law 231 = .ok (.iconst 2, 1) := by decide +kernel
theorem nD_L_law_232 : decode nC_L_law 232 = .ok (.iadd, 1) := by decide +kernel
theorem nD_L_law_233 : decode nC_L_law 233 = .ok (.iaload, 1) := by decide +kernel
theorem nD_L_law_234 : decode nC_L_law 234 = .ok (.ifCond .eq 7, 3) := by decide +kernel
theorem nD_L_law_237 : decode nC_L_law 237 = .ok (.iconst 1, 1) := by decide +kernel
theorem nD_L_law_238 : decode nC_L_law 238 = .ok (.goto 4, 3) := by decide +kernel
theorem nD_L_law_241 : decode nC_L_law 241 = .ok (.iconst 0, 1) := by decide +kernel
theorem nD_L_law_242 : decode nC_L_law 242 = .ok (.invokevirtual 35, 3) := by decide +kernel
theorem nD_L_law_245 : decode nC_L_law 245 = .ok (.aload_n 2, 1) := by decide +kernel
theorem nD_L_law_246 : decode nC_L_law 246 = .ok (.aload_n 0, 1) := by decide +kernel
theorem nD_L_law_247 : decode nC_L_law 247 = .ok (.iload_n 3, 1) := by decide +kernel
theorem nD_L_law_248 : decode nC_L_law 248 = .ok (.iconst 1, 1) := by decide +kernel
theorem nD_L_law_249 : decode nC_L_law 249 = .ok (.iadd, 1) := by decide +kernel
theorem nD_L_law_250 : decode nC_L_law 250 = .ok (.iaload, 1) := by decide +kernel
theorem nD_L_law_251 : decode nC_L_law 251 = .ok (.aload_n 0, 1) := by decide +kernel
theorem nD_L_law_252 : decode nC_L_law 252 = .ok (.iload_n 3, 1) := by decide +kernel
theorem nD_L_law_253 : decode nC_L_law 253 = .ok (.iconst 2, 1) := by decide +kernel
theorem nD_L_law_254 : decode nC_L_law 254 = .ok (.iadd, 1) := by decide +kernel
theorem nD_L_law_255 : decode nC_L_law 255 = .ok (.iaload, 1) := by decide +kernel
theorem nD_L_law_256 : decode nC_L_law 256 = .ok (.ifCond .eq 7, 3) := by decide +kernel
theorem nD_L_law_259 : decode nC_L_law 259 = .ok (.iconst 1, 1) := by decide +kernel
theorem nD_L_law_260 : decode nC_L_law 260 = .ok (.goto 4, 3) := by decide +kernel
theorem nD_L_law_263 : decode nC_L_law 263 = .ok (.iconst 0, 1) := by decide +kernel
theorem nD_L_law_264 : decode nC_L_law 264 = .ok (.invokevirtual 39, 3) := by decide +kernel
theorem nD_L_law_267 : decode nC_L_law 267 = .ok (.if_icmp .eq 245, 3) := by decide +kernel
theorem nD_L_law_270 : decode nC_L_law 270 = .ok (.iconst 0, 1) := by decide +kernel
theorem nD_L_law_271 : decode nC_L_law 271 = .ok (.ireturn, 1) := by decide +kernel
theorem nD_L_law_272 : decode nC_L_law 272 = .ok (.aload_n 1, 1) := by decide +kernel
theorem nD_L_law_273 : decode nC_L_law 273 = .ok (.aload_n 0, 1) := by decide +kernel
theorem nD_L_law_274 : decode nC_L_law 274 = .ok (.iload_n 3, 1) := by decide +kernel
theorem nD_L_law_275 : decode nC_L_law 275 = .ok (.iconst 1, 1) := by decide +kernel
theorem nD_L_law_276 : decode nC_L_law 276 = .ok (.iadd, 1) := by decide +kernel
theorem nD_L_law_277 : decode nC_L_law 277 = .ok (.iaload, 1) := by decide +kernel
theorem nD_L_law_278 : decode nC_L_law 278 = .ok (.aload_n 0, 1) := by decide +kernel
theorem nD_L_law_279 : decode nC_L_law 279 = .ok (.iload_n 3, 1) := by decide +kernel
theorem nD_L_law_280 : decode nC_L_law 280 = .ok (.iconst 2, 1) := by decide +kernel
theorem nD_L_law_281 : decode nC_L_law 281 = .ok (.iadd, 1) := by decide +kernel
theorem nD_L_law_282 : decode nC_L_law 282 = .ok (.iaload, 1) := by decide +kernel
theorem nD_L_law_283 : decode nC_L_law 283 = .ok (.invokevirtual 40, 3) := by decide +kernel
theorem nD_L_law_286 : decode nC_L_law 286 = .ok (.aload_n 2, 1) := by decide +kernel
theorem nD_L_law_287 : decode nC_L_law 287 = .ok (.aload_n 0, 1) := by decide +kernel
theorem nD_L_law_288 : decode nC_L_law 288 = .ok (.iload_n 3, 1) := by decide +kernel
theorem nD_L_law_289 : decode nC_L_law 289 = .ok (.iconst 1, 1) := by decide +kernel
theorem nD_L_law_290 : decode nC_L_law 290 = .ok (.iadd, 1) := by decide +kernel
theorem nD_L_law_291 : decode nC_L_law 291 = .ok (.iaload, 1) := by decide +kernel
theorem nD_L_law_292 : decode nC_L_law 292 = .ok (.aload_n 0, 1) := by decide +kernel
theorem nD_L_law_293 : decode nC_L_law 293 = .ok (.iload_n 3, 1) := by decide +kernel
theorem nD_L_law_294 : decode nC_L_law 294 = .ok (.iconst 2, 1) := by decide +kernel
theorem nD_L_law_295 : decode nC_L_law 295 = .ok (.iadd, 1) := by decide +kernel
end
section
theorem nD_L_law_296 : decode nC_L_law 296 = .ok (.iaload, 1) := by decide +kernel
theorem nD_L_law_297 : decode nC_L_law 297 = .ok (.invokevirtual 43, 3) := by decide +kernel
theorem nD_L_law_300 : decode nC_L_law 300 = .ok (.if_icmp .eq 212, 3) := by decide +kernel
theorem nD_L_law_303 : decode nC_L_law 303 = .ok (.iconst 0, 1) := by decide +kernel
theorem nD_L_law_304 : decode nC_L_law 304 = .ok (.ireturn, 1) := by decide +kernel
theorem nD_L_law_305 : decode nC_L_law 305 = .ok (.aload_n 1, 1) := by decide +kernel
theorem nD_L_law_306 : decode nC_L_law 306 = .ok (.aload_n 0, 1) := by decide +kernel
theorem nD_L_law_307 : decode nC_L_law 307 = .ok (.iload_n 3, 1) := by decide +kernel
theorem nD_L_law_308 : decode nC_L_law 308 = .ok (.iconst 1, 1) := by decide +kernel
theorem nD_L_law_309 : decode nC_L_law 309 = .ok (.iadd, 1) := by decide +kernel
theorem nD_L_law_310 : decode nC_L_law 310 = .ok (.iaload, 1) := by decide +kernel
theorem nD_L_law_311 : decode nC_L_law 311 = .ok (.invokevirtual 44, 3) := by decide +kernel
theorem nD_L_law_314 : decode nC_L_law 314 = .ok (.aload_n 2, 1) := by decide +kernel
theorem nD_L_law_315 : decode nC_L_law 315 = .ok (.aload_n 0, 1) := by decide +kernel
theorem nD_L_law_316 : decode nC_L_law 316 = .ok (.iload_n 3, 1) := by decide +kernel
theorem nD_L_law_317 : decode nC_L_law 317 = .ok (.iconst 1, 1) := by decide +kernel
theorem nD_L_law_318 : decode nC_L_law 318 = .ok (.iadd, 1) := by decide +kernel
theorem nD_L_law_319 : decode nC_L_law 319 = .ok (.iaload, 1) := by decide +kernel
theorem nD_L_law_320 : decode nC_L_law 320 = .ok (.invokevirtual 47, 3) := by decide +kernel
theorem nD_L_law_323 : decode nC_L_law 323 = .ok (.if_icmp .eq 189, 3) := by decide +kernel
theorem nD_L_law_326 : decode nC_L_law 326 = .ok (.iconst 0, 1) := by decide +kernel
theorem nD_L_law_327 : decode nC_L_law 327 = .ok (.ireturn, 1) := by decide +kernel
theorem nD_L_law_328 : decode nC_L_law 328 = .ok (.aload_n 1, 1) := by decide +kernel
theorem nD_L_law_329 : decode nC_L_law 329 = .ok (.invokevirtual 48, 3) := by decide +kernel
theorem nD_L_law_332 : decode nC_L_law 332 = .ok (.aload_n 2, 1) := by decide +kernel
theorem nD_L_law_333 : decode nC_L_law 333 = .ok (.invokevirtual 52, 3) := by decide +kernel
theorem nD_L_law_336 : decode nC_L_law 336 = .ok (.if_icmp .eq 176, 3) := by decide +kernel
theorem nD_L_law_339 : decode nC_L_law 339 = .ok (.iconst 0, 1) := by decide +kernel
theorem nD_L_law_340 : decode nC_L_law 340 = .ok (.ireturn, 1) := by decide +kernel
theorem nD_L_law_341 : decode nC_L_law 341 = .ok (.aload_n 1, 1) := by decide +kernel
theorem nD_L_law_342 : decode nC_L_law 342 = .ok (.invokevirtual 53, 3) := by decide +kernel
theorem nD_L_law_345 : decode nC_L_law 345 = .ok (.aload_n 2, 1) := by decide +kernel
theorem nD_L_law_346 : decode nC_L_law 346 = .ok (.invokevirtual 56, 3) := by decide +kernel
theorem nD_L_law_349 : decode nC_L_law 349 = .ok (.if_icmp .eq 163, 3) := by decide +kernel
theorem nD_L_law_352 : decode nC_L_law 352 = .ok (.iconst 0, 1) := by decide +kernel
theorem nD_L_law_353 : decode nC_L_law 353 = .ok (.ireturn, 1) := by decide +kernel
theorem nD_L_law_354 : decode nC_L_law 354 = .ok (.aload_n 1, 1) := by decide +kernel
theorem nD_L_law_355 : decode nC_L_law 355 = .ok (.invokevirtual 57, 3) := by decide +kernel
theorem nD_L_law_358 : decode nC_L_law 358 = .ok (.aload_n 2, 1) := by decide +kernel
theorem nD_L_law_359 : decode nC_L_law 359 = .ok (.invokevirtual 61, 3) := by decide +kernel
theorem nD_L_law_362 : decode nC_L_law 362 = .ok (.if_icmp .eq 150, 3) := by decide +kernel
theorem nD_L_law_365 : decode nC_L_law 365 = .ok (.iconst 0, 1) := by decide +kernel
theorem nD_L_law_366 : decode nC_L_law 366 = .ok (.ireturn, 1) := by decide +kernel
theorem nD_L_law_367 : decode nC_L_law 367 = .ok (.aload_n 1, 1) := by decide +kernel
theorem nD_L_law_368 : decode nC_L_law 368 = .ok (.invokevirtual 62, 3) := by decide +kernel
theorem nD_L_law_371 : decode nC_L_law 371 = .ok (.aload_n 2, 1) := by decide +kernel
theorem nD_L_law_372 : decode nC_L_law 372 = .ok (.invokevirtual 65, 3) := by decide +kernel
theorem nD_L_law_375 : decode nC_L_law 375 = .ok (.if_icmp .eq 137, 3) := by decide +kernel
theorem nD_L_law_378 : decode nC_L_law 378 = .ok (.iconst 0, 1) := by decide +kernel
theorem nD_L_law_379 : decode nC_L_law 379 = .ok (.ireturn, 1) := by decide +kernel
theorem nD_L_law_380 : decode nC_L_law 380 = .ok (.aload_n 1, 1) := by decide +kernel
theorem nD_L_law_381 : decode nC_L_law 381 = .ok (.invokevirtual 66, 3) := by decide +kernel
theorem nD_L_law_384 : decode nC_L_law 384 = .ok (.aload_n 2, 1) := by decide +kernel
theorem nD_L_law_385 : decode nC_L_law 385 = .ok (.invokevirtual 70, 3) := by decide +kernel
theorem nD_L_law_388 : decode nC_L_law 388 = .ok (.lcmp, 1) := by decide +kernel
theorem nD_L_law_389 : decode nC_L_law 389 = .ok (.ifCond .eq 123, 3) := by decide +kernel
theorem nD_L_law_392 : decode nC_L_law 392 = .ok (.iconst 0, 1) := by decide +kernel
theorem nD_L_law_393 : decode nC_L_law 393 = .ok (.ireturn, 1) := by decide +kernel
theorem nD_L_law_394 : decode nC_L_law 394 = .ok (.aload_n 1, 1) := by decide +kernel
theorem nD_L_law_395 : decode nC_L_law 395 = .ok (.invokevirtual 71, 3) := by decide +kernel
theorem nD_L_law_398 : decode nC_L_law 398 = .ok (.aload_n 2, 1) := by decide +kernel
theorem nD_L_law_399 : decode nC_L_law 399 = .ok (.invokevirtual 74, 3) := by decide +kernel
theorem nD_L_law_402 : decode nC_L_law 402 = .ok (.if_icmp .eq 110, 3) := by decide +kernel
theorem nD_L_law_405 : decode nC_L_law 405 = .ok (.iconst 0, 1) := by decide +kernel
theorem nD_L_law_406 : decode nC_L_law 406 = .ok (.ireturn, 1) := by decide +kernel
theorem nD_L_law_407 : decode nC_L_law 407 = .ok (.aload_n 1, 1) := by decide +kernel
theorem nD_L_law_408 : decode nC_L_law 408 = .ok (.invokevirtual 75, 3) := by decide +kernel
theorem nD_L_law_411 : decode nC_L_law 411 = .ok (.aload_n 2, 1) := by decide +kernel
theorem nD_L_law_412 : decode nC_L_law 412 = .ok (.invokevirtual 78, 3) := by decide +kernel
theorem nD_L_law_415 : decode nC_L_law 415 = .ok (.if_icmp .eq 97, 3) := by decide +kernel
theorem nD_L_law_418 : decode nC_L_law 418 = .ok (.iconst 0, 1) := by decide +kernel
theorem nD_L_law_419 : decode nC_L_law 419 = .ok (.ireturn, 1) := by decide +kernel
theorem nD_L_law_420 : decode nC_L_law 420 = .ok (.aload_n 1, 1) := by decide +kernel
theorem nD_L_law_421 : decode nC_L_law 421 = .ok (.invokevirtual 79, 3) := by decide +kernel
theorem nD_L_law_424 : decode nC_L_law 424 = .ok (.aload_n 2, 1) := by decide +kernel
theorem nD_L_law_425 : decode nC_L_law 425 = .ok (.invokevirtual 82, 3) := by decide +kernel
theorem nD_L_law_428 : decode nC_L_law 428 = .ok (.if_icmp .eq 84, 3) := by decide +kernel
theorem nD_L_law_431 : decode nC_L_law 431 = .ok (.iconst 0, 1) := by decide +kernel
theorem nD_L_law_432 : decode nC_L_law 432 = .ok (.ireturn, 1) := by decide +kernel
theorem nD_L_law_433 : decode nC_L_law 433 = .ok (.aload_n 1, 1) := by decide +kernel
theorem nD_L_law_434 : decode nC_L_law 434 = .ok (.aload_n 0, 1) := by decide +kernel
theorem nD_L_law_435 : decode nC_L_law 435 = .ok (.iload_n 3, 1) := by decide +kernel
theorem nD_L_law_436 : decode nC_L_law 436 = .ok (.iconst 1, 1) := by decide +kernel
theorem nD_L_law_437 : decode nC_L_law 437 = .ok (.iadd, 1) := by decide +kernel
theorem nD_L_law_438 : decode nC_L_law 438 = .ok (.iaload, 1) := by decide +kernel
theorem nD_L_law_439 : decode nC_L_law 439 = .ok (.aload_n 0, 1) := by decide +kernel
theorem nD_L_law_440 : decode nC_L_law 440 = .ok (.iload_n 3, 1) := by decide +kernel
theorem nD_L_law_441 : decode nC_L_law 441 = .ok (.iconst 2, 1) := by decide +kernel
theorem nD_L_law_442 : decode nC_L_law 442 = .ok (.iadd, 1) := by decide +kernel
theorem nD_L_law_443 : decode nC_L_law 443 = .ok (.iaload, 1) := by decide +kernel
theorem nD_L_law_444 : decode nC_L_law 444 = .ok (.invokevirtual 83, 3) := by decide +kernel
theorem nD_L_law_447 : decode nC_L_law 447 = .ok (.aload_n 2, 1) := by decide +kernel
theorem nD_L_law_448 : decode nC_L_law 448 = .ok (.aload_n 0, 1) := by decide +kernel
theorem nD_L_law_449 : decode nC_L_law 449 = .ok (.iload_n 3, 1) := by decide +kernel
theorem nD_L_law_450 : decode nC_L_law 450 = .ok (.iconst 1, 1) := by decide +kernel
theorem nD_L_law_451 : decode nC_L_law 451 = .ok (.iadd, 1) := by decide +kernel
theorem nD_L_law_452 : decode nC_L_law 452 = .ok (.iaload, 1) := by decide +kernel
theorem nD_L_law_453 : decode nC_L_law 453 = .ok (.aload_n 0, 1) := by decide +kernel
theorem nD_L_law_454 : decode nC_L_law 454 = .ok (.iload_n 3, 1) := by decide +kernel
theorem nD_L_law_455 : decode nC_L_law 455 = .ok (.iconst 2, 1) := by decide +kernel
theorem nD_L_law_456 : decode nC_L_law 456 = .ok (.iadd, 1) := by decide +kernel
theorem nD_L_law_457 : decode nC_L_law 457 = .ok (.iaload, 1) := by decide +kernel
theorem nD_L_law_458 : decode nC_L_law 458 = .ok (.invokevirtual 86, 3) := by decide +kernel
theorem nD_L_law_461 : decode nC_L_law 461 = .ok (.if_icmp .eq 51, 3) := by decide +kernel
theorem nD_L_law_464 : decode nC_L_law 464 = .ok (.iconst 0, 1) := by decide +kernel
theorem nD_L_law_465 : decode nC_L_law 465 = .ok (.ireturn, 1) := by decide +kernel
theorem nD_L_law_466 : decode nC_L_law 466 = .ok (.aload_n 1, 1) := by decide +kernel
theorem nD_L_law_467 : decode nC_L_law 467 = .ok (.aload_n 0, 1) := by decide +kernel
theorem nD_L_law_468 : decode nC_L_law 468 = .ok (.iload_n 3, 1) := by decide +kernel
theorem nD_L_law_469 : decode nC_L_law 469 = .ok (.iconst 1, 1) := by decide +kernel
theorem nD_L_law_470 : decode nC_L_law 470 = .ok (.iadd, 1) := by decide +kernel
theorem nD_L_law_471 : decode nC_L_law 471 = .ok (.iaload, 1) := by decide +kernel
theorem nD_L_law_472 : decode nC_L_law 472 = .ok (.invokevirtual 87, 3) := by decide +kernel
theorem nD_L_law_475 : decode nC_L_law 475 = .ok (.aload_n 2, 1) := by decide +kernel
theorem nD_L_law_476 : decode nC_L_law 476 = .ok (.aload_n 0, 1) := by decide +kernel
theorem nD_L_law_477 : decode nC_L_law 477 = .ok (.iload_n 3, 1) := by decide +kernel
theorem nD_L_law_478 : decode nC_L_law 478 = .ok (.iconst 1, 1) := by decide +kernel
theorem nD_L_law_479 : decode nC_L_law 479 = .ok (.iadd, 1) := by decide +kernel
theorem nD_L_law_480 : decode nC_L_law 480 = .ok (.iaload, 1) := by decide +kernel
theorem nD_L_law_481 : decode nC_L_law 481 = .ok (.invokevirtual 90, 3) := by decide +kernel
theorem nD_L_law_484 : decode nC_L_law 484 = .ok (.if_icmp .eq 28, 3) := by decide +kernel
theorem nD_L_law_487 : decode nC_L_law 487 = .ok (.iconst 0, 1) := by decide +kernel
theorem nD_L_law_488 : decode nC_L_law 488 = .ok (.ireturn, 1) := by decide +kernel
theorem nD_L_law_489 : decode nC_L_law 489 = .ok (.aload_n 1, 1) := by decide +kernel
theorem nD_L_law_490 : decode nC_L_law 490 = .ok (.aload_n 0, 1) := by decide +kernel
theorem nD_L_law_491 : decode nC_L_law 491 = .ok (.iload_n 3, 1) := by decide +kernel
theorem nD_L_law_492 : decode nC_L_law 492 = .ok (.iconst 1, 1) := by decide +kernel
theorem nD_L_law_493 : decode nC_L_law 493 = .ok (.iadd, 1) := by decide +kernel
theorem nD_L_law_494 : decode nC_L_law 494 = .ok (.iaload, 1) := by decide +kernel
theorem nD_L_law_495 : decode nC_L_law 495 = .ok (.invokevirtual 91, 3) := by decide +kernel
theorem nD_L_law_498 : decode nC_L_law 498 = .ok (.aload_n 2, 1) := by decide +kernel
theorem nD_L_law_499 : decode nC_L_law 499 = .ok (.aload_n 0, 1) := by decide +kernel
theorem nD_L_law_500 : decode nC_L_law 500 = .ok (.iload_n 3, 1) := by decide +kernel
theorem nD_L_law_501 : decode nC_L_law 501 = .ok (.iconst 1, 1) := by decide +kernel
theorem nD_L_law_502 : decode nC_L_law 502 = .ok (.iadd, 1) := by decide +kernel
theorem nD_L_law_503 : decode nC_L_law 503 = .ok (.iaload, 1) := by decide +kernel
theorem nD_L_law_504 : decode nC_L_law 504 = .ok (.invokevirtual 95, 3) := by decide +kernel
theorem nD_L_law_507 : decode nC_L_law 507 = .ok (.if_icmp .eq 5, 3) := by decide +kernel
theorem nD_L_law_510 : decode nC_L_law 510 = .ok (.iconst 0, 1) := by decide +kernel
theorem nD_L_law_511 : decode nC_L_law 511 = .ok (.ireturn, 1) := by decide +kernel
theorem nD_L_law_512 : decode nC_L_law 512 = .ok (.iinc 3 3, 3) := by decide +kernel
theorem nD_L_law_515 : decode nC_L_law 515 = .ok (.goto (-477), 3) := by decide +kernel
theorem nD_L_law_518 : decode nC_L_law 518 = .ok (.iconst 1, 1) := by decide +kernel
theorem nD_L_law_519 : decode nC_L_law 519 = .ok (.ireturn, 1) := by decide +kernel
end
section
def wA : List Cond := lw_tbl.filter goodWord
theorem wA_of {w : Cond} (i : Nat) (h : lw_tbl[i]? = some w) (g : goodWord w = true) : w ∈ wA := List.mem_filter.mpr ⟨List.mem_of_getElem? h, g⟩
theorem wA_good {w : Cond} (h : w ∈ wA) : goodWord w = true := (List.mem_filter.mp h).2
theorem wA_in {w : Cond} (h : w ∈ wA) : w ∈ lw_tbl := (List.mem_filter.mp h).1
theorem wA_goodIn {a b : Cond} (h : b ∈ wA) : GoodIn (a :: wA) (b :: wA) := fun w hw => (List.mem_cons.mp hw).elim (fun e => by subst e; exact ⟨List.mem_cons_of_mem _ h, good_of_word (wA_good h)⟩) (fun h2 => ⟨List.mem_cons_of_mem _ h2, good_of_word (wA_good h2)⟩)
theorem wA_goodIn0 {b : Cond} (h : b ∈ wA) : GoodIn wA (b :: wA) := fun w hw => (List.mem_cons.mp hw).elim (fun e => by subst e; exact ⟨h, good_of_word (wA_good h)⟩) (fun h2 => ⟨h2, good_of_word (wA_good h2)⟩)
def nw_is : Cond → Bool
  | .fieldLinkNest .. => true
  | .methodLinkNest .. => true
  | _ => false
def nA : List Cond := lw_tbl.filter nw_is
theorem nA_of {w : Cond} (i : Nat) (h : lw_tbl[i]? = some w) (g : nw_is w = true) : w ∈ nA := List.mem_filter.mpr ⟨List.mem_of_getElem? h, g⟩
theorem nA_tab {w : Cond} (h : w ∈ nA) : w.onTables = true := by
  have g := (List.mem_filter.mp h).2
  cases w <;> first | rfl | exact absurd g (by decide) | cases g
theorem nA_warm {w : Cond} {s U : State} (h : w ∈ nA) (hW : s.WarmedH U.vm) (hZ : va_Nw w s) : va_Nw w U := by
  have g := (List.mem_filter.mp h).2
  cases w <;> first | exact va_Nw.warmF hW hZ | exact va_Nw.warmM hW hZ | exact absurd g (by decide) | cases g
theorem wm_0 : Cond.selects "HandOffRecorder" ⟨"HandOffRecorder", "startRecord", "(II)V"⟩ ⟨"HandOffRecorder", "startRecord", "(II)V"⟩ ∈ wA := wA_of 0 (by decide +kernel) rfl
theorem wm_1 : Cond.selects "HandOffRecorder" ⟨"HandOffRecorder", "review", "()V"⟩ ⟨"HandOffRecorder", "review", "()V"⟩ ∈ wA := wA_of 1 (by decide +kernel) rfl
theorem wm_2 : Cond.selects "HandOffRecorder" ⟨"HandOffRecorder", "lengthenList", "(IJI)V"⟩ ⟨"HandOffRecorder", "lengthenList", "(IJI)V"⟩ ∈ wA := wA_of 2 (by decide +kernel) rfl
theorem wm_3 : Cond.selects "HandOffRecorder" ⟨"HandOffRecorder", "noteExplanation", "(IJ)V"⟩ ⟨"HandOffRecorder", "noteExplanation", "(IJ)V"⟩ ∈ wA := wA_of 3 (by decide +kernel) rfl
theorem wm_4 : Cond.selects "HandOffRecorder" ⟨"HandOffRecorder", "mayStandNext", "(II)Z"⟩ ⟨"HandOffRecorder", "mayStandNext", "(II)Z"⟩ ∈ wA := wA_of 4 (by decide +kernel) rfl
theorem wm_5 : Cond.selects "HandOffRecorder" ⟨"HandOffRecorder", "carryOut", "(IIJI)V"⟩ ⟨"HandOffRecorder", "carryOut", "(IIJI)V"⟩ ∈ wA := wA_of 5 (by decide +kernel) rfl
theorem wm_6 : Cond.selects "HandOffRecorder$Store" ⟨"HandOffRecorder$Store", "hasRoom", "(J)Z"⟩ ⟨"HandOffRecorder$Store", "hasRoom", "(J)Z"⟩ ∈ wA := wA_of 6 (by decide +kernel) rfl
theorem wm_7 : Cond.selects "HandOffRecorder$Store" ⟨"HandOffRecorder$Store", "takesBack", "(I)Z"⟩ ⟨"HandOffRecorder$Store", "takesBack", "(I)Z"⟩ ∈ wA := wA_of 7 (by decide +kernel) rfl
theorem wm_8 : Cond.selects "HandOffRecorder" ⟨"HandOffRecorder", "mayBegin", "(I)Z"⟩ ⟨"HandOffRecorder", "mayBegin", "(I)Z"⟩ ∈ wA := wA_of 8 (by decide +kernel) rfl
theorem wm_9 : Cond.selects "HandOffRecorder" ⟨"HandOffRecorder", "openNextCall", "(I)V"⟩ ⟨"HandOffRecorder", "openNextCall", "(I)V"⟩ ∈ wA := wA_of 9 (by decide +kernel) rfl
theorem wm_10 : Cond.selects "HandOffRecorder" ⟨"HandOffRecorder", "hasOpenCall", "(I)Z"⟩ ⟨"HandOffRecorder", "hasOpenCall", "(I)Z"⟩ ∈ wA := wA_of 10 (by decide +kernel) rfl
theorem wm_11 : Cond.selects "HandOffRecorder" ⟨"HandOffRecorder", "endOpenCall", "(II)V"⟩ ⟨"HandOffRecorder", "endOpenCall", "(II)V"⟩ ∈ wA := wA_of 11 (by decide +kernel) rfl
theorem wm_12 : Cond.selects "HandOffRecorder" ⟨"HandOffRecorder", "closeOpenCall", "(I)V"⟩ ⟨"HandOffRecorder", "closeOpenCall", "(I)V"⟩ ∈ wA := wA_of 12 (by decide +kernel) rfl
theorem wm_13 : Cond.selects "HandOffRecorderModel" ⟨"HandOffRecorderModel", "work", "()V"⟩ ⟨"HandOffRecorderModel", "work", "()V"⟩ ∈ wA := wA_of 13 (by decide +kernel) rfl
theorem wm_14 : Cond.selects "HandOffRecorderModel" ⟨"HandOffRecorderModel", "note", "()V"⟩ ⟨"HandOffRecorderModel", "note", "()V"⟩ ∈ wA := wA_of 14 (by decide +kernel) rfl
theorem wm_15 : Cond.selects "HandOffRecorderModel" ⟨"HandOffRecorderModel", "isListed", "(I)Z"⟩ ⟨"HandOffRecorderModel", "isListed", "(I)Z"⟩ ∈ wA := wA_of 15 (by decide +kernel) rfl
theorem wm_16 : Cond.selects "HandOffRecorderModel" ⟨"HandOffRecorderModel", "lengthen", "(I)V"⟩ ⟨"HandOffRecorderModel", "lengthen", "(I)V"⟩ ∈ wA := wA_of 16 (by decide +kernel) rfl
theorem wm_17 : Cond.selects "HandOffRecorderModel" ⟨"HandOffRecorderModel", "good", "()Z"⟩ ⟨"HandOffRecorderModel", "good", "()Z"⟩ ∈ wA := wA_of 17 (by decide +kernel) rfl
theorem wm_18 : Cond.selects "HandOffRecorderModel" ⟨"HandOffRecorderModel", "carryOut", "(I)I"⟩ ⟨"HandOffRecorderModel", "carryOut", "(I)I"⟩ ∈ wA := wA_of 18 (by decide +kernel) rfl
theorem wm_19 : Cond.selects "HandOffRecorderModel" ⟨"HandOffRecorderModel", "begin", "(IZI)Z"⟩ ⟨"HandOffRecorderModel", "begin", "(IZI)Z"⟩ ∈ wA := wA_of 19 (by decide +kernel) rfl
theorem wm_20 : Cond.selects "HandOffRecorderModel" ⟨"HandOffRecorderModel", "openOf", "(I)I"⟩ ⟨"HandOffRecorderModel", "openOf", "(I)I"⟩ ∈ wA := wA_of 20 (by decide +kernel) rfl
theorem wm_21 : Cond.selects "HandOffRecorderModel" ⟨"HandOffRecorderModel", "happened", "()V"⟩ ⟨"HandOffRecorderModel", "happened", "()V"⟩ ∈ wA := wA_of 21 (by decide +kernel) rfl
theorem wm_22 : Cond.selects "HandOffRecorderModel" ⟨"HandOffRecorderModel", "close", "(III)V"⟩ ⟨"HandOffRecorderModel", "close", "(III)V"⟩ ∈ wA := wA_of 22 (by decide +kernel) rfl
theorem wm_23 : Cond.selects "HandOffRecorderModel" ⟨"HandOffRecorderModel", "sizeOf", "(I)I"⟩ ⟨"HandOffRecorderModel", "sizeOf", "(I)I"⟩ ∈ wA := wA_of 23 (by decide +kernel) rfl
theorem wm_24 : Cond.initialized "HandOffRecorderLaw" ∈ wA := wA_of 24 (by decide +kernel) rfl
theorem wm_25 : Cond.initialized "HandOffRecorder" ∈ wA := wA_of 25 (by decide +kernel) rfl
theorem wm_26 : Cond.initialized "HandOffRecorder$Store" ∈ wA := wA_of 26 (by decide +kernel) rfl
theorem wm_27 : Cond.initialized "HandOffRecorder$Findings" ∈ wA := wA_of 27 (by decide +kernel) rfl
theorem wm_28 : Cond.initialized "HandOffRecorder$RowSet" ∈ wA := wA_of 28 (by decide +kernel) rfl
theorem wm_29 : Cond.initialized "HandOffRecorder$Call" ∈ wA := wA_of 29 (by decide +kernel) rfl
theorem wm_30 : Cond.initialized "java/lang/Math" ∈ wA := wA_of 30 (by decide +kernel) rfl
theorem wm_31 : Cond.initialized "java/util/Arrays" ∈ wA := wA_of 31 (by decide +kernel) rfl
theorem wm_32 : Cond.initialized "HandOffRecorder$Row" ∈ wA := wA_of 32 (by decide +kernel) rfl
theorem wm_33 : Cond.initialized "HandOffRecorderModel" ∈ wA := wA_of 33 (by decide +kernel) rfl
theorem wm_34 : Cond.initialized "java/lang/Integer" ∈ wA := wA_of 34 (by decide +kernel) rfl
theorem wm_35 : Cond.classLink "HandOffRecorderLaw" 7 "HandOffRecorder" ∈ wA := wA_of 35 (by decide +kernel) rfl
theorem wm_36 : Cond.instantiable "HandOffRecorder" 10 ∈ wA := wA_of 36 (by decide +kernel) rfl
theorem wm_37 : Cond.methodLink "HandOffRecorderLaw" 15 ⟨"HandOffRecorder", "<init>", "(II)V"⟩ ∈ wA := wA_of 37 (by decide +kernel) rfl
theorem wm_38 : Cond.instanceMethod ⟨"HandOffRecorder", "<init>", "(II)V"⟩ ∈ wA := wA_of 38 (by decide +kernel) rfl
theorem wm_39 : Cond.code nM_X5_init nC_X5_init 4 none ∈ wA := wA_of 39 (by decide +kernel) rfl
theorem wm_40 : Cond.methodLink "HandOffRecorder" 1 ⟨"java/lang/Object", "<init>", "()V"⟩ ∈ wA := wA_of 40 (by decide +kernel) rfl
theorem wm_41 : Cond.instanceMethod ⟨"java/lang/Object", "<init>", "()V"⟩ ∈ wA := wA_of 41 (by decide +kernel) rfl
theorem wm_42 : Cond.code objectInit ⟨#[0xb1]⟩ 1 none ∈ wA := wA_of 42 (by decide +kernel) rfl
theorem wm_43 : Cond.classLink "HandOffRecorder" 7 "HandOffRecorder$Store" ∈ wA := wA_of 43 (by decide +kernel) rfl
theorem wm_44 : Cond.instantiable "HandOffRecorder$Store" 2 ∈ wA := wA_of 44 (by decide +kernel) rfl
theorem wn_45 : Cond.methodLinkNest "HandOffRecorder" 9 ⟨"HandOffRecorder$Store", "<init>", "()V"⟩ "HandOffRecorder" ∈ nA := nA_of 45 (by decide +kernel) rfl
theorem wm_46 : Cond.instanceMethod ⟨"HandOffRecorder$Store", "<init>", "()V"⟩ ∈ wA := wA_of 46 (by decide +kernel) rfl
theorem wm_47 : Cond.code nM_X4_init nC_X4_init 1 none ∈ wA := wA_of 47 (by decide +kernel) rfl
theorem wm_48 : Cond.methodLink "HandOffRecorder$Store" 3 ⟨"java/lang/Object", "<init>", "()V"⟩ ∈ wA := wA_of 48 (by decide +kernel) rfl
theorem wm_49 : Cond.fieldLink "HandOffRecorder$Store" 11 "HandOffRecorder$Store" "kind" "I" ∈ wA := wA_of 49 (by decide +kernel) rfl
theorem wm_50 : Cond.fieldLink "HandOffRecorder$Store" 24 "HandOffRecorder$Store" "capacity" "I" ∈ wA := wA_of 50 (by decide +kernel) rfl
theorem wm_51 : Cond.lays "HandOffRecorder$Store" "HandOffRecorder$Store" "kind" "I" ∈ wA := wA_of 51 (by decide +kernel) rfl
theorem wm_53 : Cond.lays "HandOffRecorder$Store" "HandOffRecorder$Store" "capacity" "I" ∈ wA := wA_of 53 (by decide +kernel) rfl
theorem wm_56 : Cond.classLink "HandOffRecorder" 16 "HandOffRecorder$Call" ∈ wA := wA_of 56 (by decide +kernel) rfl
theorem wm_58 : Cond.classLink "HandOffRecorder" 29 "HandOffRecorder$Findings" ∈ wA := wA_of 58 (by decide +kernel) rfl
theorem wm_59 : Cond.instantiable "HandOffRecorder$Findings" 4 ∈ wA := wA_of 59 (by decide +kernel) rfl
theorem wn_60 : Cond.methodLinkNest "HandOffRecorder" 31 ⟨"HandOffRecorder$Findings", "<init>", "()V"⟩ "HandOffRecorder" ∈ nA := nA_of 60 (by decide +kernel) rfl
theorem wm_61 : Cond.instanceMethod ⟨"HandOffRecorder$Findings", "<init>", "()V"⟩ ∈ wA := wA_of 61 (by decide +kernel) rfl
theorem wm_62 : Cond.code nM_X1_init nC_X1_init 1 none ∈ wA := wA_of 62 (by decide +kernel) rfl
theorem wm_63 : Cond.methodLink "HandOffRecorder$Findings" 3 ⟨"java/lang/Object", "<init>", "()V"⟩ ∈ wA := wA_of 63 (by decide +kernel) rfl
theorem wm_64 : Cond.classLink "HandOffRecorder$Findings" 9 "HandOffRecorder$RowSet" ∈ wA := wA_of 64 (by decide +kernel) rfl
theorem wm_65 : Cond.instantiable "HandOffRecorder$RowSet" 3 ∈ wA := wA_of 65 (by decide +kernel) rfl
theorem wn_66 : Cond.methodLinkNest "HandOffRecorder$Findings" 11 ⟨"HandOffRecorder$RowSet", "<init>", "()V"⟩ "HandOffRecorder" ∈ nA := nA_of 66 (by decide +kernel) rfl
theorem wm_67 : Cond.instanceMethod ⟨"HandOffRecorder$RowSet", "<init>", "()V"⟩ ∈ wA := wA_of 67 (by decide +kernel) rfl
theorem wm_68 : Cond.code nM_X3_init nC_X3_init 1 none ∈ wA := wA_of 68 (by decide +kernel) rfl
theorem wm_69 : Cond.methodLink "HandOffRecorder$RowSet" 3 ⟨"java/lang/Object", "<init>", "()V"⟩ ∈ wA := wA_of 69 (by decide +kernel) rfl
theorem wm_70 : Cond.fieldLink "HandOffRecorder$RowSet" 11 "HandOffRecorder$RowSet" "rows" "[J" ∈ wA := wA_of 70 (by decide +kernel) rfl
theorem wm_71 : Cond.fieldLink "HandOffRecorder$RowSet" 15 "HandOffRecorder$RowSet" "slots" "[I" ∈ wA := wA_of 71 (by decide +kernel) rfl
theorem wm_72 : Cond.fieldLink "HandOffRecorder$RowSet" 25 "HandOffRecorder$RowSet" "count" "I" ∈ wA := wA_of 72 (by decide +kernel) rfl
theorem wn_73 : Cond.fieldLinkNest "HandOffRecorder" 101 "HandOffRecorder$RowSet" "count" "I" "HandOffRecorder" ∈ nA := nA_of 73 (by decide +kernel) rfl
theorem wm_74 : Cond.laysFinal "HandOffRecorder$RowSet" "HandOffRecorder$RowSet" "rows" "[J" ∈ wA := wA_of 74 (by decide +kernel) rfl
theorem wm_76 : Cond.laysFinal "HandOffRecorder$RowSet" "HandOffRecorder$RowSet" "slots" "[I" ∈ wA := wA_of 76 (by decide +kernel) rfl
theorem wm_78 : Cond.lays "HandOffRecorder$RowSet" "HandOffRecorder$RowSet" "count" "I" ∈ wA := wA_of 78 (by decide +kernel) rfl
theorem wm_81 : Cond.arrayClass .int ∈ wA := wA_of 81 (by decide +kernel) rfl
theorem wm_82 : Cond.arrayClass .long ∈ wA := wA_of 82 (by decide +kernel) rfl
theorem wm_83 : Cond.fieldLink "HandOffRecorder$Findings" 12 "HandOffRecorder$Findings" "rows" "LHandOffRecorder$RowSet;" ∈ wA := wA_of 83 (by decide +kernel) rfl
theorem wn_84 : Cond.fieldLinkNest "HandOffRecorder" 97 "HandOffRecorder$Findings" "rows" "LHandOffRecorder$RowSet;" "HandOffRecorder" ∈ nA := nA_of 84 (by decide +kernel) rfl
theorem wm_85 : Cond.fieldLink "HandOffRecorder$Findings" 18 "HandOffRecorder$Findings" "listed" "[I" ∈ wA := wA_of 85 (by decide +kernel) rfl
theorem wn_86 : Cond.fieldLinkNest "HandOffRecorder" 121 "HandOffRecorder$Findings" "listed" "[I" "HandOffRecorder" ∈ nA := nA_of 86 (by decide +kernel) rfl
theorem wm_87 : Cond.fieldLink "HandOffRecorder$Findings" 22 "HandOffRecorder$Findings" "replies" "[I" ∈ wA := wA_of 87 (by decide +kernel) rfl
theorem wn_88 : Cond.fieldLinkNest "HandOffRecorder" 124 "HandOffRecorder$Findings" "replies" "[I" "HandOffRecorder" ∈ nA := nA_of 88 (by decide +kernel) rfl
theorem wm_89 : Cond.fieldLink "HandOffRecorder$Findings" 34 "HandOffRecorder$Findings" "total" "I" ∈ wA := wA_of 89 (by decide +kernel) rfl
theorem wn_90 : Cond.fieldLinkNest "HandOffRecorder" 91 "HandOffRecorder$Findings" "total" "I" "HandOffRecorder" ∈ nA := nA_of 90 (by decide +kernel) rfl
theorem wm_91 : Cond.laysFinal "HandOffRecorder$Findings" "HandOffRecorder$Findings" "rows" "LHandOffRecorder$RowSet;" ∈ wA := wA_of 91 (by decide +kernel) rfl
theorem wm_93 : Cond.laysFinal "HandOffRecorder$Findings" "HandOffRecorder$Findings" "listed" "[I" ∈ wA := wA_of 93 (by decide +kernel) rfl
theorem wm_95 : Cond.laysFinal "HandOffRecorder$Findings" "HandOffRecorder$Findings" "replies" "[I" ∈ wA := wA_of 95 (by decide +kernel) rfl
theorem wm_97 : Cond.lays "HandOffRecorder$Findings" "HandOffRecorder$Findings" "total" "I" ∈ wA := wA_of 97 (by decide +kernel) rfl
theorem wm_100 : Cond.instantiable "HandOffRecorder$Call" 5 ∈ wA := wA_of 100 (by decide +kernel) rfl
theorem wn_101 : Cond.methodLinkNest "HandOffRecorder" 36 ⟨"HandOffRecorder$Call", "<init>", "()V"⟩ "HandOffRecorder" ∈ nA := nA_of 101 (by decide +kernel) rfl
theorem wm_102 : Cond.instanceMethod ⟨"HandOffRecorder$Call", "<init>", "()V"⟩ ∈ wA := wA_of 102 (by decide +kernel) rfl
theorem wm_103 : Cond.code nM_X0_init nC_X0_init 1 none ∈ wA := wA_of 103 (by decide +kernel) rfl
theorem wm_104 : Cond.methodLink "HandOffRecorder$Call" 1 ⟨"java/lang/Object", "<init>", "()V"⟩ ∈ wA := wA_of 104 (by decide +kernel) rfl
theorem wm_105 : Cond.fieldLink "HandOffRecorder$Call" 7 "HandOffRecorder$Call" "worker" "I" ∈ wA := wA_of 105 (by decide +kernel) rfl
theorem wn_106 : Cond.fieldLinkNest "HandOffRecorder$Store" 39 "HandOffRecorder$Call" "worker" "I" "HandOffRecorder" ∈ nA := nA_of 106 (by decide +kernel) rfl
theorem wm_107 : Cond.fieldLink "HandOffRecorder$Call" 13 "HandOffRecorder$Call" "isPut" "Z" ∈ wA := wA_of 107 (by decide +kernel) rfl
theorem wn_108 : Cond.fieldLinkNest "HandOffRecorder$Store" 27 "HandOffRecorder$Call" "isPut" "Z" "HandOffRecorder" ∈ nA := nA_of 108 (by decide +kernel) rfl
theorem wn_109 : Cond.fieldLinkNest "HandOffRecorder" 75 "HandOffRecorder$Call" "isPut" "Z" "HandOffRecorder" ∈ nA := nA_of 109 (by decide +kernel) rfl
theorem wm_110 : Cond.fieldLink "HandOffRecorder$Call" 17 "HandOffRecorder$Call" "value" "I" ∈ wA := wA_of 110 (by decide +kernel) rfl
theorem wn_111 : Cond.fieldLinkNest "HandOffRecorder$Store" 54 "HandOffRecorder$Call" "value" "I" "HandOffRecorder" ∈ nA := nA_of 111 (by decide +kernel) rfl
theorem wm_112 : Cond.fieldLink "HandOffRecorder$Call" 20 "HandOffRecorder$Call" "endedBefore" "I" ∈ wA := wA_of 112 (by decide +kernel) rfl
theorem wn_113 : Cond.fieldLinkNest "HandOffRecorder" 171 "HandOffRecorder$Call" "endedBefore" "I" "HandOffRecorder" ∈ nA := nA_of 113 (by decide +kernel) rfl
theorem wn_114 : Cond.fieldLinkNest "HandOffRecorder" 145 "HandOffRecorder$Call" "answer" "I" "HandOffRecorder" ∈ nA := nA_of 114 (by decide +kernel) rfl
theorem wm_115 : Cond.lays "HandOffRecorder$Call" "HandOffRecorder$Call" "worker" "I" ∈ wA := wA_of 115 (by decide +kernel) rfl
theorem wm_117 : Cond.lays "HandOffRecorder$Call" "HandOffRecorder$Call" "isPut" "Z" ∈ wA := wA_of 117 (by decide +kernel) rfl
theorem wm_119 : Cond.lays "HandOffRecorder$Call" "HandOffRecorder$Call" "value" "I" ∈ wA := wA_of 119 (by decide +kernel) rfl
theorem wm_121 : Cond.lays "HandOffRecorder$Call" "HandOffRecorder$Call" "endedBefore" "I" ∈ wA := wA_of 121 (by decide +kernel) rfl
theorem wm_123 : Cond.lays "HandOffRecorder$Call" "HandOffRecorder$Call" "answer" "I" ∈ wA := wA_of 123 (by decide +kernel) rfl
theorem wm_126 : Cond.methodLink "HandOffRecorder" 37 ⟨"HandOffRecorder", "startRecord", "(II)V"⟩ ∈ wA := wA_of 126 (by decide +kernel) rfl
theorem wm_128 : Cond.instanceMethod ⟨"HandOffRecorder", "startRecord", "(II)V"⟩ ∈ wA := wA_of 128 (by decide +kernel) rfl
theorem wm_129 : Cond.code nM_X5_startRecord nC_X5_startRecord 3 none ∈ wA := wA_of 129 (by decide +kernel) rfl
theorem wm_130 : Cond.methodLink "HandOffRecorder" 136 ⟨"HandOffRecorder$Store", "setUp", "(II)V"⟩ ∈ wA := wA_of 130 (by decide +kernel) rfl
theorem wm_131 : Cond.instanceMethod ⟨"HandOffRecorder$Store", "setUp", "(II)V"⟩ ∈ wA := wA_of 131 (by decide +kernel) rfl
theorem wm_132 : Cond.selects "HandOffRecorder$Store" ⟨"HandOffRecorder$Store", "setUp", "(II)V"⟩ ⟨"HandOffRecorder$Store", "setUp", "(II)V"⟩ ∈ wA := wA_of 132 (by decide +kernel) rfl
theorem wm_133 : Cond.code nM_X4_setUp nC_X4_setUp 3 none ∈ wA := wA_of 133 (by decide +kernel) rfl
theorem wm_134 : Cond.methodLink "HandOffRecorder$Store" 15 ⟨"java/lang/Math", "min", "(II)I"⟩ ∈ wA := wA_of 134 (by decide +kernel) rfl
theorem wm_135 : Cond.static ⟨"java/lang/Math", "min", "(II)I"⟩ ∈ wA := wA_of 135 (by decide +kernel) rfl
theorem wm_136 : Cond.code nM_JM_min nC_JM_min 2 (some .int) ∈ wA := wA_of 136 (by decide +kernel) rfl
theorem wm_137 : Cond.methodLink "HandOffRecorder$Store" 21 ⟨"java/lang/Math", "max", "(II)I"⟩ ∈ wA := wA_of 137 (by decide +kernel) rfl
theorem wm_138 : Cond.static ⟨"java/lang/Math", "max", "(II)I"⟩ ∈ wA := wA_of 138 (by decide +kernel) rfl
theorem wm_139 : Cond.code nM_JM_max nC_JM_max 2 (some .int) ∈ wA := wA_of 139 (by decide +kernel) rfl
theorem wm_140 : Cond.methodLink "HandOffRecorder" 139 ⟨"java/util/Arrays", "fill", "([II)V"⟩ ∈ wA := wA_of 140 (by decide +kernel) rfl
theorem wm_141 : Cond.static ⟨"java/util/Arrays", "fill", "([II)V"⟩ ∈ wA := wA_of 141 (by decide +kernel) rfl
theorem wm_142 : Cond.code nM_JA_fill nC_JA_fill 4 none ∈ wA := wA_of 142 (by decide +kernel) rfl
theorem wm_143 : Cond.methodLink "HandOffRecorder" 66 ⟨"HandOffRecorder", "review", "()V"⟩ ∈ wA := wA_of 143 (by decide +kernel) rfl
theorem wm_145 : Cond.instanceMethod ⟨"HandOffRecorder", "review", "()V"⟩ ∈ wA := wA_of 145 (by decide +kernel) rfl
theorem wm_146 : Cond.code nM_X5_review nC_X5_review 1 none ∈ wA := wA_of 146 (by decide +kernel) rfl
theorem wm_147 : Cond.methodLink "HandOffRecorder" 148 ⟨"HandOffRecorder$Findings", "clear", "()V"⟩ ∈ wA := wA_of 147 (by decide +kernel) rfl
theorem wm_148 : Cond.instanceMethod ⟨"HandOffRecorder$Findings", "clear", "()V"⟩ ∈ wA := wA_of 148 (by decide +kernel) rfl
theorem wm_149 : Cond.selects "HandOffRecorder$Findings" ⟨"HandOffRecorder$Findings", "clear", "()V"⟩ ⟨"HandOffRecorder$Findings", "clear", "()V"⟩ ∈ wA := wA_of 149 (by decide +kernel) rfl
theorem wm_150 : Cond.code nM_X1_clear nC_X1_clear 1 none ∈ wA := wA_of 150 (by decide +kernel) rfl
theorem wm_151 : Cond.methodLink "HandOffRecorder$Findings" 25 ⟨"HandOffRecorder$RowSet", "clear", "()V"⟩ ∈ wA := wA_of 151 (by decide +kernel) rfl
theorem wm_152 : Cond.instanceMethod ⟨"HandOffRecorder$RowSet", "clear", "()V"⟩ ∈ wA := wA_of 152 (by decide +kernel) rfl
theorem wm_153 : Cond.selects "HandOffRecorder$RowSet" ⟨"HandOffRecorder$RowSet", "clear", "()V"⟩ ⟨"HandOffRecorder$RowSet", "clear", "()V"⟩ ∈ wA := wA_of 153 (by decide +kernel) rfl
theorem wm_154 : Cond.code nM_X3_clear nC_X3_clear 1 none ∈ wA := wA_of 154 (by decide +kernel) rfl
theorem wm_155 : Cond.methodLink "HandOffRecorder$RowSet" 19 ⟨"java/util/Arrays", "fill", "([II)V"⟩ ∈ wA := wA_of 155 (by decide +kernel) rfl
theorem wm_156 : Cond.methodLink "HandOffRecorder$Findings" 28 ⟨"java/util/Arrays", "fill", "([II)V"⟩ ∈ wA := wA_of 156 (by decide +kernel) rfl
theorem wm_157 : Cond.methodLink "HandOffRecorder" 153 ⟨"HandOffRecorder", "lengthenList", "(IJI)V"⟩ ∈ wA := wA_of 157 (by decide +kernel) rfl
theorem wm_159 : Cond.instanceMethod ⟨"HandOffRecorder", "lengthenList", "(IJI)V"⟩ ∈ wA := wA_of 159 (by decide +kernel) rfl
theorem wm_160 : Cond.code nM_X5_lengthenList nC_X5_lengthenList 6 none ∈ wA := wA_of 160 (by decide +kernel) rfl
theorem wm_161 : Cond.methodLink "HandOffRecorder" 157 ⟨"HandOffRecorder", "noteExplanation", "(IJ)V"⟩ ∈ wA := wA_of 161 (by decide +kernel) rfl
theorem wm_163 : Cond.instanceMethod ⟨"HandOffRecorder", "noteExplanation", "(IJ)V"⟩ ∈ wA := wA_of 163 (by decide +kernel) rfl
theorem wm_164 : Cond.code nM_X5_noteExplanation nC_X5_noteExplanation 6 none ∈ wA := wA_of 164 (by decide +kernel) rfl
theorem wm_165 : Cond.methodLink "HandOffRecorder" 182 ⟨"HandOffRecorder$Findings", "addExplanation", "(J)V"⟩ ∈ wA := wA_of 165 (by decide +kernel) rfl
theorem wm_166 : Cond.instanceMethod ⟨"HandOffRecorder$Findings", "addExplanation", "(J)V"⟩ ∈ wA := wA_of 166 (by decide +kernel) rfl
theorem wm_167 : Cond.selects "HandOffRecorder$Findings" ⟨"HandOffRecorder$Findings", "addExplanation", "(J)V"⟩ ⟨"HandOffRecorder$Findings", "addExplanation", "(J)V"⟩ ∈ wA := wA_of 167 (by decide +kernel) rfl
theorem wm_168 : Cond.code nM_X1_addExplanation nC_X1_addExplanation 3 none ∈ wA := wA_of 168 (by decide +kernel) rfl
theorem wm_169 : Cond.methodLink "HandOffRecorder$Findings" 38 ⟨"HandOffRecorder$RowSet", "add", "(J)V"⟩ ∈ wA := wA_of 169 (by decide +kernel) rfl
theorem wm_170 : Cond.instanceMethod ⟨"HandOffRecorder$RowSet", "add", "(J)V"⟩ ∈ wA := wA_of 170 (by decide +kernel) rfl
theorem wm_171 : Cond.selects "HandOffRecorder$RowSet" ⟨"HandOffRecorder$RowSet", "add", "(J)V"⟩ ⟨"HandOffRecorder$RowSet", "add", "(J)V"⟩ ∈ wA := wA_of 171 (by decide +kernel) rfl
theorem wm_172 : Cond.code nM_X3_add nC_X3_add 6 none ∈ wA := wA_of 172 (by decide +kernel) rfl
theorem wm_173 : Cond.constantLong "HandOffRecorder$RowSet" 29 (-7046029254386353131) ∈ wA := wA_of 173 (by decide +kernel) rfl
theorem wm_174 : Cond.methodLink "HandOffRecorder" 168 ⟨"HandOffRecorder", "isIn", "(II)Z"⟩ ∈ wA := wA_of 174 (by decide +kernel) rfl
theorem wm_175 : Cond.static ⟨"HandOffRecorder", "isIn", "(II)Z"⟩ ∈ wA := wA_of 175 (by decide +kernel) rfl
theorem wm_176 : Cond.code nM_X5_isIn nC_X5_isIn 2 (some .boolean) ∈ wA := wA_of 176 (by decide +kernel) rfl
theorem wm_177 : Cond.methodLink "HandOffRecorder" 186 ⟨"HandOffRecorder$Findings", "addReply", "(II)V"⟩ ∈ wA := wA_of 177 (by decide +kernel) rfl
theorem wm_178 : Cond.instanceMethod ⟨"HandOffRecorder$Findings", "addReply", "(II)V"⟩ ∈ wA := wA_of 178 (by decide +kernel) rfl
theorem wm_179 : Cond.selects "HandOffRecorder$Findings" ⟨"HandOffRecorder$Findings", "addReply", "(II)V"⟩ ⟨"HandOffRecorder$Findings", "addReply", "(II)V"⟩ ∈ wA := wA_of 179 (by decide +kernel) rfl
theorem wm_180 : Cond.code nM_X1_addReply nC_X1_addReply 3 none ∈ wA := wA_of 180 (by decide +kernel) rfl
theorem wm_181 : Cond.methodLink "HandOffRecorder" 161 ⟨"HandOffRecorder", "mayStandNext", "(II)Z"⟩ ∈ wA := wA_of 181 (by decide +kernel) rfl
theorem wm_183 : Cond.instanceMethod ⟨"HandOffRecorder", "mayStandNext", "(II)Z"⟩ ∈ wA := wA_of 183 (by decide +kernel) rfl
theorem wm_184 : Cond.code nM_X5_mayStandNext nC_X5_mayStandNext 3 (some .boolean) ∈ wA := wA_of 184 (by decide +kernel) rfl
theorem wm_185 : Cond.methodLink "HandOffRecorder" 164 ⟨"HandOffRecorder", "carryOut", "(IIJI)V"⟩ ∈ wA := wA_of 185 (by decide +kernel) rfl
theorem wm_187 : Cond.instanceMethod ⟨"HandOffRecorder", "carryOut", "(IIJI)V"⟩ ∈ wA := wA_of 187 (by decide +kernel) rfl
theorem wm_188 : Cond.code nM_X5_carryOut nC_X5_carryOut 7 none ∈ wA := wA_of 188 (by decide +kernel) rfl
theorem wm_189 : Cond.methodLink "HandOffRecorder" 174 ⟨"HandOffRecorder$Store", "replyTo", "(LHandOffRecorder$Call;J)I"⟩ ∈ wA := wA_of 189 (by decide +kernel) rfl
theorem wm_190 : Cond.instanceMethod ⟨"HandOffRecorder$Store", "replyTo", "(LHandOffRecorder$Call;J)I"⟩ ∈ wA := wA_of 190 (by decide +kernel) rfl
theorem wm_191 : Cond.selects "HandOffRecorder$Store" ⟨"HandOffRecorder$Store", "replyTo", "(LHandOffRecorder$Call;J)I"⟩ ⟨"HandOffRecorder$Store", "replyTo", "(LHandOffRecorder$Call;J)I"⟩ ∈ wA := wA_of 191 (by decide +kernel) rfl
theorem wm_192 : Cond.code nM_X4_replyTo nC_X4_replyTo 4 (some .int) ∈ wA := wA_of 192 (by decide +kernel) rfl
theorem wm_193 : Cond.methodLink "HandOffRecorder$Store" 33 ⟨"HandOffRecorder$Store", "hasRoom", "(J)Z"⟩ ∈ wA := wA_of 193 (by decide +kernel) rfl
theorem wm_195 : Cond.instanceMethod ⟨"HandOffRecorder$Store", "hasRoom", "(J)Z"⟩ ∈ wA := wA_of 195 (by decide +kernel) rfl
theorem wm_196 : Cond.code nM_X4_hasRoom nC_X4_hasRoom 3 (some .boolean) ∈ wA := wA_of 196 (by decide +kernel) rfl
theorem wm_197 : Cond.methodLink "HandOffRecorder$Store" 46 ⟨"HandOffRecorder$Row", "length", "(J)I"⟩ ∈ wA := wA_of 197 (by decide +kernel) rfl
theorem wm_198 : Cond.static ⟨"HandOffRecorder$Row", "length", "(J)I"⟩ ∈ wA := wA_of 198 (by decide +kernel) rfl
theorem wm_199 : Cond.code nM_X2_length nC_X2_length 2 (some .int) ∈ wA := wA_of 199 (by decide +kernel) rfl
theorem wm_200 : Cond.methodLink "HandOffRecorder$Store" 42 ⟨"HandOffRecorder$Store", "takesBack", "(I)Z"⟩ ∈ wA := wA_of 200 (by decide +kernel) rfl
theorem wm_202 : Cond.instanceMethod ⟨"HandOffRecorder$Store", "takesBack", "(I)Z"⟩ ∈ wA := wA_of 202 (by decide +kernel) rfl
theorem wm_203 : Cond.code nM_X4_takesBack nC_X4_takesBack 2 (some .boolean) ∈ wA := wA_of 203 (by decide +kernel) rfl
theorem wm_204 : Cond.methodLink "HandOffRecorder$Store" 50 ⟨"HandOffRecorder$Row", "valueAt", "(JI)I"⟩ ∈ wA := wA_of 204 (by decide +kernel) rfl
theorem wm_205 : Cond.static ⟨"HandOffRecorder$Row", "valueAt", "(JI)I"⟩ ∈ wA := wA_of 205 (by decide +kernel) rfl
theorem wm_206 : Cond.code nM_X2_valueAt nC_X2_valueAt 3 (some .int) ∈ wA := wA_of 206 (by decide +kernel) rfl
theorem wm_207 : Cond.methodLink "HandOffRecorder" 178 ⟨"HandOffRecorder$Store", "rowAfter", "(LHandOffRecorder$Call;J)J"⟩ ∈ wA := wA_of 207 (by decide +kernel) rfl
theorem wm_208 : Cond.instanceMethod ⟨"HandOffRecorder$Store", "rowAfter", "(LHandOffRecorder$Call;J)J"⟩ ∈ wA := wA_of 208 (by decide +kernel) rfl
theorem wm_209 : Cond.selects "HandOffRecorder$Store" ⟨"HandOffRecorder$Store", "rowAfter", "(LHandOffRecorder$Call;J)J"⟩ ⟨"HandOffRecorder$Store", "rowAfter", "(LHandOffRecorder$Call;J)J"⟩ ∈ wA := wA_of 209 (by decide +kernel) rfl
theorem wm_210 : Cond.code nM_X4_rowAfter nC_X4_rowAfter 4 (some .long) ∈ wA := wA_of 210 (by decide +kernel) rfl
theorem wm_211 : Cond.methodLink "HandOffRecorder$Store" 57 ⟨"HandOffRecorder$Row", "withBack", "(JI)J"⟩ ∈ wA := wA_of 211 (by decide +kernel) rfl
theorem wm_212 : Cond.static ⟨"HandOffRecorder$Row", "withBack", "(JI)J"⟩ ∈ wA := wA_of 212 (by decide +kernel) rfl
theorem wm_213 : Cond.code nM_X2_withBack nC_X2_withBack 3 (some .long) ∈ wA := wA_of 213 (by decide +kernel) rfl
theorem wm_214 : Cond.methodLink "HandOffRecorder$Row" 9 ⟨"HandOffRecorder$Row", "length", "(J)I"⟩ ∈ wA := wA_of 214 (by decide +kernel) rfl
theorem wm_215 : Cond.constantLong "HandOffRecorder$Row" 13 4294967296 ∈ wA := wA_of 215 (by decide +kernel) rfl
theorem wm_216 : Cond.methodLink "HandOffRecorder$Store" 61 ⟨"HandOffRecorder$Row", "withoutBack", "(J)J"⟩ ∈ wA := wA_of 216 (by decide +kernel) rfl
theorem wm_217 : Cond.static ⟨"HandOffRecorder$Row", "withoutBack", "(J)J"⟩ ∈ wA := wA_of 217 (by decide +kernel) rfl
theorem wm_218 : Cond.code nM_X2_withoutBack nC_X2_withoutBack 3 (some .long) ∈ wA := wA_of 218 (by decide +kernel) rfl
theorem wm_219 : Cond.constantLong "HandOffRecorder$Row" 15 15 ∈ wA := wA_of 219 (by decide +kernel) rfl
theorem wm_220 : Cond.constantLong "HandOffRecorder$Row" 17 (-1) ∈ wA := wA_of 220 (by decide +kernel) rfl
theorem wm_221 : Cond.methodLink "HandOffRecorder$Store" 65 ⟨"HandOffRecorder$Row", "withoutFront", "(J)J"⟩ ∈ wA := wA_of 221 (by decide +kernel) rfl
theorem wm_222 : Cond.static ⟨"HandOffRecorder$Row", "withoutFront", "(J)J"⟩ ∈ wA := wA_of 222 (by decide +kernel) rfl
theorem wm_223 : Cond.code nM_X2_withoutFront nC_X2_withoutFront 4 (some .long) ∈ wA := wA_of 223 (by decide +kernel) rfl
theorem wm_224 : Cond.constantLong "HandOffRecorder$Row" 19 4294967295 ∈ wA := wA_of 224 (by decide +kernel) rfl
theorem wm_225 : Cond.methodLink "HandOffRecorder" 117 ⟨"HandOffRecorder", "fits", "()Z"⟩ ∈ wA := wA_of 225 (by decide +kernel) rfl
theorem wm_226 : Cond.instanceMethod ⟨"HandOffRecorder", "fits", "()Z"⟩ ∈ wA := wA_of 226 (by decide +kernel) rfl
theorem wm_227 : Cond.selects "HandOffRecorder" ⟨"HandOffRecorder", "fits", "()Z"⟩ ⟨"HandOffRecorder", "fits", "()Z"⟩ ∈ wA := wA_of 227 (by decide +kernel) rfl
theorem wm_228 : Cond.code nM_X5_fits nC_X5_fits 1 (some .boolean) ∈ wA := wA_of 228 (by decide +kernel) rfl
theorem wm_229 : Cond.fieldLink "HandOffRecorder" 10 "HandOffRecorder" "store" "LHandOffRecorder$Store;" ∈ wA := wA_of 229 (by decide +kernel) rfl
theorem wm_230 : Cond.fieldLink "HandOffRecorder" 18 "HandOffRecorder" "calls" "[LHandOffRecorder$Call;" ∈ wA := wA_of 230 (by decide +kernel) rfl
theorem wm_231 : Cond.fieldLink "HandOffRecorder" 22 "HandOffRecorder" "openCalls" "[I" ∈ wA := wA_of 231 (by decide +kernel) rfl
theorem wm_232 : Cond.fieldLink "HandOffRecorder" 26 "HandOffRecorder" "repliesOnPath" "[I" ∈ wA := wA_of 232 (by decide +kernel) rfl
theorem wm_233 : Cond.fieldLink "HandOffRecorder" 32 "HandOffRecorder" "findings" "LHandOffRecorder$Findings;" ∈ wA := wA_of 233 (by decide +kernel) rfl
theorem wm_234 : Cond.fieldLink "HandOffRecorder" 51 "HandOffRecorder" "begunCalls" "I" ∈ wA := wA_of 234 (by decide +kernel) rfl
theorem wm_235 : Cond.fieldLink "HandOffRecorder" 55 "HandOffRecorder" "endedCalls" "I" ∈ wA := wA_of 235 (by decide +kernel) rfl
theorem wm_236 : Cond.fieldLink "HandOffRecorder" 82 "HandOffRecorder" "givenUpCalls" "I" ∈ wA := wA_of 236 (by decide +kernel) rfl
theorem wm_237 : Cond.fieldLink "HandOffRecorder" 88 "HandOffRecorder" "eventCount" "I" ∈ wA := wA_of 237 (by decide +kernel) rfl
theorem wm_238 : Cond.fieldLink "HandOffRecorder" 94 "HandOffRecorder" "firstBroken" "I" ∈ wA := wA_of 238 (by decide +kernel) rfl
theorem wm_239 : Cond.laysFinal "HandOffRecorder" "HandOffRecorder" "store" "LHandOffRecorder$Store;" ∈ wA := wA_of 239 (by decide +kernel) rfl
theorem wm_241 : Cond.laysFinal "HandOffRecorder" "HandOffRecorder" "calls" "[LHandOffRecorder$Call;" ∈ wA := wA_of 241 (by decide +kernel) rfl
theorem wm_243 : Cond.laysFinal "HandOffRecorder" "HandOffRecorder" "openCalls" "[I" ∈ wA := wA_of 243 (by decide +kernel) rfl
theorem wm_245 : Cond.laysFinal "HandOffRecorder" "HandOffRecorder" "repliesOnPath" "[I" ∈ wA := wA_of 245 (by decide +kernel) rfl
theorem wm_247 : Cond.laysFinal "HandOffRecorder" "HandOffRecorder" "findings" "LHandOffRecorder$Findings;" ∈ wA := wA_of 247 (by decide +kernel) rfl
theorem wm_249 : Cond.lays "HandOffRecorder" "HandOffRecorder" "begunCalls" "I" ∈ wA := wA_of 249 (by decide +kernel) rfl
theorem wm_251 : Cond.lays "HandOffRecorder" "HandOffRecorder" "endedCalls" "I" ∈ wA := wA_of 251 (by decide +kernel) rfl
theorem wm_253 : Cond.lays "HandOffRecorder" "HandOffRecorder" "givenUpCalls" "I" ∈ wA := wA_of 253 (by decide +kernel) rfl
theorem wm_255 : Cond.lays "HandOffRecorder" "HandOffRecorder" "eventCount" "I" ∈ wA := wA_of 255 (by decide +kernel) rfl
theorem wm_257 : Cond.lays "HandOffRecorder" "HandOffRecorder" "firstBroken" "I" ∈ wA := wA_of 257 (by decide +kernel) rfl
theorem wm_260 : Cond.methodLink "HandOffRecorderLaw" 21 ⟨"HandOffRecorder", "renew", "(II)V"⟩ ∈ wA := wA_of 260 (by decide +kernel) rfl
theorem wm_261 : Cond.instanceMethod ⟨"HandOffRecorder", "renew", "(II)V"⟩ ∈ wA := wA_of 261 (by decide +kernel) rfl
theorem wm_262 : Cond.selects "HandOffRecorder" ⟨"HandOffRecorder", "renew", "(II)V"⟩ ⟨"HandOffRecorder", "renew", "(II)V"⟩ ∈ wA := wA_of 262 (by decide +kernel) rfl
theorem wm_263 : Cond.code nM_X5_renew nC_X5_renew 3 none ∈ wA := wA_of 263 (by decide +kernel) rfl
theorem wm_264 : Cond.methodLink "HandOffRecorderLaw" 25 ⟨"HandOffRecorder", "beginPut", "(II)Z"⟩ ∈ wA := wA_of 264 (by decide +kernel) rfl
theorem wm_265 : Cond.instanceMethod ⟨"HandOffRecorder", "beginPut", "(II)Z"⟩ ∈ wA := wA_of 265 (by decide +kernel) rfl
theorem wm_266 : Cond.selects "HandOffRecorder" ⟨"HandOffRecorder", "beginPut", "(II)Z"⟩ ⟨"HandOffRecorder", "beginPut", "(II)Z"⟩ ∈ wA := wA_of 266 (by decide +kernel) rfl
theorem wm_267 : Cond.code nM_X5_beginPut nC_X5_beginPut 3 (some .boolean) ∈ wA := wA_of 267 (by decide +kernel) rfl
theorem wm_268 : Cond.methodLink "HandOffRecorder" 41 ⟨"HandOffRecorder", "mayBegin", "(I)Z"⟩ ∈ wA := wA_of 268 (by decide +kernel) rfl
theorem wm_270 : Cond.instanceMethod ⟨"HandOffRecorder", "mayBegin", "(I)Z"⟩ ∈ wA := wA_of 270 (by decide +kernel) rfl
theorem wm_271 : Cond.code nM_X5_mayBegin nC_X5_mayBegin 2 (some .boolean) ∈ wA := wA_of 271 (by decide +kernel) rfl
theorem wm_272 : Cond.methodLink "HandOffRecorder" 133 ⟨"HandOffRecorder", "isWorker", "(I)Z"⟩ ∈ wA := wA_of 272 (by decide +kernel) rfl
theorem wm_273 : Cond.static ⟨"HandOffRecorder", "isWorker", "(I)Z"⟩ ∈ wA := wA_of 273 (by decide +kernel) rfl
theorem wm_274 : Cond.code nM_X5_isWorker nC_X5_isWorker 1 (some .boolean) ∈ wA := wA_of 274 (by decide +kernel) rfl
theorem wm_275 : Cond.methodLink "HandOffRecorder" 45 ⟨"HandOffRecorder", "isValue", "(I)Z"⟩ ∈ wA := wA_of 275 (by decide +kernel) rfl
theorem wm_276 : Cond.static ⟨"HandOffRecorder", "isValue", "(I)Z"⟩ ∈ wA := wA_of 276 (by decide +kernel) rfl
theorem wm_277 : Cond.code nM_X5_isValue nC_X5_isValue 1 (some .boolean) ∈ wA := wA_of 277 (by decide +kernel) rfl
theorem wm_278 : Cond.methodLink "HandOffRecorder" 48 ⟨"HandOffRecorder$Store", "letsPut", "(I)Z"⟩ ∈ wA := wA_of 278 (by decide +kernel) rfl
theorem wm_279 : Cond.instanceMethod ⟨"HandOffRecorder$Store", "letsPut", "(I)Z"⟩ ∈ wA := wA_of 279 (by decide +kernel) rfl
theorem wm_280 : Cond.selects "HandOffRecorder$Store" ⟨"HandOffRecorder$Store", "letsPut", "(I)Z"⟩ ⟨"HandOffRecorder$Store", "letsPut", "(I)Z"⟩ ∈ wA := wA_of 280 (by decide +kernel) rfl
theorem wm_281 : Cond.code nM_X4_letsPut nC_X4_letsPut 2 (some .boolean) ∈ wA := wA_of 281 (by decide +kernel) rfl
theorem wm_282 : Cond.methodLink "HandOffRecorder" 58 ⟨"HandOffRecorder$Call", "startPut", "(III)V"⟩ ∈ wA := wA_of 282 (by decide +kernel) rfl
theorem wm_283 : Cond.instanceMethod ⟨"HandOffRecorder$Call", "startPut", "(III)V"⟩ ∈ wA := wA_of 283 (by decide +kernel) rfl
theorem wm_284 : Cond.selects "HandOffRecorder$Call" ⟨"HandOffRecorder$Call", "startPut", "(III)V"⟩ ⟨"HandOffRecorder$Call", "startPut", "(III)V"⟩ ∈ wA := wA_of 284 (by decide +kernel) rfl
theorem wm_285 : Cond.code nM_X0_startPut nC_X0_startPut 4 none ∈ wA := wA_of 285 (by decide +kernel) rfl
theorem wm_286 : Cond.methodLink "HandOffRecorder" 62 ⟨"HandOffRecorder", "openNextCall", "(I)V"⟩ ∈ wA := wA_of 286 (by decide +kernel) rfl
theorem wm_288 : Cond.instanceMethod ⟨"HandOffRecorder", "openNextCall", "(I)V"⟩ ∈ wA := wA_of 288 (by decide +kernel) rfl
theorem wm_289 : Cond.code nM_X5_openNextCall nC_X5_openNextCall 2 none ∈ wA := wA_of 289 (by decide +kernel) rfl
theorem wm_290 : Cond.methodLink "HandOffRecorderLaw" 30 ⟨"HandOffRecorder", "beginTake", "(I)Z"⟩ ∈ wA := wA_of 290 (by decide +kernel) rfl
theorem wm_291 : Cond.instanceMethod ⟨"HandOffRecorder", "beginTake", "(I)Z"⟩ ∈ wA := wA_of 291 (by decide +kernel) rfl
theorem wm_292 : Cond.selects "HandOffRecorder" ⟨"HandOffRecorder", "beginTake", "(I)Z"⟩ ⟨"HandOffRecorder", "beginTake", "(I)Z"⟩ ∈ wA := wA_of 292 (by decide +kernel) rfl
theorem wm_293 : Cond.code nM_X5_beginTake nC_X5_beginTake 2 (some .boolean) ∈ wA := wA_of 293 (by decide +kernel) rfl
theorem wm_294 : Cond.methodLink "HandOffRecorder" 69 ⟨"HandOffRecorder$Call", "startTake", "(II)V"⟩ ∈ wA := wA_of 294 (by decide +kernel) rfl
theorem wm_295 : Cond.instanceMethod ⟨"HandOffRecorder$Call", "startTake", "(II)V"⟩ ∈ wA := wA_of 295 (by decide +kernel) rfl
theorem wm_296 : Cond.selects "HandOffRecorder$Call" ⟨"HandOffRecorder$Call", "startTake", "(II)V"⟩ ⟨"HandOffRecorder$Call", "startTake", "(II)V"⟩ ∈ wA := wA_of 296 (by decide +kernel) rfl
theorem wm_297 : Cond.code nM_X0_startTake nC_X0_startTake 3 none ∈ wA := wA_of 297 (by decide +kernel) rfl
theorem wm_298 : Cond.methodLink "HandOffRecorderLaw" 35 ⟨"HandOffRecorder", "endPut", "(IZ)Z"⟩ ∈ wA := wA_of 298 (by decide +kernel) rfl
theorem wm_299 : Cond.instanceMethod ⟨"HandOffRecorder", "endPut", "(IZ)Z"⟩ ∈ wA := wA_of 299 (by decide +kernel) rfl
theorem wm_300 : Cond.selects "HandOffRecorder" ⟨"HandOffRecorder", "endPut", "(IZ)Z"⟩ ⟨"HandOffRecorder", "endPut", "(IZ)Z"⟩ ∈ wA := wA_of 300 (by decide +kernel) rfl
theorem wm_301 : Cond.code nM_X5_endPut nC_X5_endPut 3 (some .boolean) ∈ wA := wA_of 301 (by decide +kernel) rfl
theorem wm_302 : Cond.methodLink "HandOffRecorder" 72 ⟨"HandOffRecorder", "hasOpenCall", "(I)Z"⟩ ∈ wA := wA_of 302 (by decide +kernel) rfl
theorem wm_304 : Cond.instanceMethod ⟨"HandOffRecorder", "hasOpenCall", "(I)Z"⟩ ∈ wA := wA_of 304 (by decide +kernel) rfl
theorem wm_305 : Cond.code nM_X5_hasOpenCall nC_X5_hasOpenCall 2 (some .boolean) ∈ wA := wA_of 305 (by decide +kernel) rfl
theorem wm_306 : Cond.methodLink "HandOffRecorder" 79 ⟨"HandOffRecorder", "endOpenCall", "(II)V"⟩ ∈ wA := wA_of 306 (by decide +kernel) rfl
theorem wm_308 : Cond.instanceMethod ⟨"HandOffRecorder", "endOpenCall", "(II)V"⟩ ∈ wA := wA_of 308 (by decide +kernel) rfl
theorem wm_309 : Cond.code nM_X5_endOpenCall nC_X5_endOpenCall 4 none ∈ wA := wA_of 309 (by decide +kernel) rfl
theorem wm_310 : Cond.methodLink "HandOffRecorder" 85 ⟨"HandOffRecorder", "closeOpenCall", "(I)V"⟩ ∈ wA := wA_of 310 (by decide +kernel) rfl
theorem wm_312 : Cond.instanceMethod ⟨"HandOffRecorder", "closeOpenCall", "(I)V"⟩ ∈ wA := wA_of 312 (by decide +kernel) rfl
theorem wm_313 : Cond.code nM_X5_closeOpenCall nC_X5_closeOpenCall 2 none ∈ wA := wA_of 313 (by decide +kernel) rfl
theorem wm_314 : Cond.methodLink "HandOffRecorderLaw" 40 ⟨"HandOffRecorder", "endTake", "(II)Z"⟩ ∈ wA := wA_of 314 (by decide +kernel) rfl
theorem wm_315 : Cond.instanceMethod ⟨"HandOffRecorder", "endTake", "(II)Z"⟩ ∈ wA := wA_of 315 (by decide +kernel) rfl
theorem wm_316 : Cond.selects "HandOffRecorder" ⟨"HandOffRecorder", "endTake", "(II)Z"⟩ ⟨"HandOffRecorder", "endTake", "(II)Z"⟩ ∈ wA := wA_of 316 (by decide +kernel) rfl
theorem wm_317 : Cond.code nM_X5_endTake nC_X5_endTake 3 (some .boolean) ∈ wA := wA_of 317 (by decide +kernel) rfl
theorem wm_318 : Cond.methodLink "HandOffRecorderLaw" 44 ⟨"HandOffRecorder", "giveUp", "(I)Z"⟩ ∈ wA := wA_of 318 (by decide +kernel) rfl
theorem wm_319 : Cond.instanceMethod ⟨"HandOffRecorder", "giveUp", "(I)Z"⟩ ∈ wA := wA_of 319 (by decide +kernel) rfl
theorem wm_320 : Cond.selects "HandOffRecorder" ⟨"HandOffRecorder", "giveUp", "(I)Z"⟩ ⟨"HandOffRecorder", "giveUp", "(I)Z"⟩ ∈ wA := wA_of 320 (by decide +kernel) rfl
theorem wm_321 : Cond.code nM_X5_giveUp nC_X5_giveUp 2 (some .boolean) ∈ wA := wA_of 321 (by decide +kernel) rfl
theorem wm_322 : Cond.methodLink "HandOffRecorderLaw" 48 ⟨"HandOffRecorder", "events", "()I"⟩ ∈ wA := wA_of 322 (by decide +kernel) rfl
theorem wm_323 : Cond.instanceMethod ⟨"HandOffRecorder", "events", "()I"⟩ ∈ wA := wA_of 323 (by decide +kernel) rfl
theorem wm_324 : Cond.selects "HandOffRecorder" ⟨"HandOffRecorder", "events", "()I"⟩ ⟨"HandOffRecorder", "events", "()I"⟩ ∈ wA := wA_of 324 (by decide +kernel) rfl
theorem wm_325 : Cond.code nM_X5_events nC_X5_events 1 (some .int) ∈ wA := wA_of 325 (by decide +kernel) rfl
theorem wm_326 : Cond.methodLink "HandOffRecorderLaw" 53 ⟨"HandOffRecorder", "begun", "()I"⟩ ∈ wA := wA_of 326 (by decide +kernel) rfl
theorem wm_327 : Cond.instanceMethod ⟨"HandOffRecorder", "begun", "()I"⟩ ∈ wA := wA_of 327 (by decide +kernel) rfl
theorem wm_328 : Cond.selects "HandOffRecorder" ⟨"HandOffRecorder", "begun", "()I"⟩ ⟨"HandOffRecorder", "begun", "()I"⟩ ∈ wA := wA_of 328 (by decide +kernel) rfl
theorem wm_329 : Cond.code nM_X5_begun nC_X5_begun 1 (some .int) ∈ wA := wA_of 329 (by decide +kernel) rfl
theorem wm_330 : Cond.methodLink "HandOffRecorderLaw" 57 ⟨"HandOffRecorder", "fits", "()Z"⟩ ∈ wA := wA_of 330 (by decide +kernel) rfl
theorem wm_331 : Cond.methodLink "HandOffRecorderLaw" 62 ⟨"HandOffRecorder", "brokenAt", "()I"⟩ ∈ wA := wA_of 331 (by decide +kernel) rfl
theorem wm_332 : Cond.instanceMethod ⟨"HandOffRecorder", "brokenAt", "()I"⟩ ∈ wA := wA_of 332 (by decide +kernel) rfl
theorem wm_333 : Cond.selects "HandOffRecorder" ⟨"HandOffRecorder", "brokenAt", "()I"⟩ ⟨"HandOffRecorder", "brokenAt", "()I"⟩ ∈ wA := wA_of 333 (by decide +kernel) rfl
theorem wm_334 : Cond.code nM_X5_brokenAt nC_X5_brokenAt 1 (some .int) ∈ wA := wA_of 334 (by decide +kernel) rfl
theorem wm_335 : Cond.methodLink "HandOffRecorderLaw" 66 ⟨"HandOffRecorder", "explanations", "()J"⟩ ∈ wA := wA_of 335 (by decide +kernel) rfl
theorem wm_336 : Cond.instanceMethod ⟨"HandOffRecorder", "explanations", "()J"⟩ ∈ wA := wA_of 336 (by decide +kernel) rfl
theorem wm_337 : Cond.selects "HandOffRecorder" ⟨"HandOffRecorder", "explanations", "()J"⟩ ⟨"HandOffRecorder", "explanations", "()J"⟩ ∈ wA := wA_of 337 (by decide +kernel) rfl
theorem wm_338 : Cond.code nM_X5_explanations nC_X5_explanations 1 (some .long) ∈ wA := wA_of 338 (by decide +kernel) rfl
theorem wm_339 : Cond.methodLink "HandOffRecorderLaw" 71 ⟨"HandOffRecorder", "outcomes", "()I"⟩ ∈ wA := wA_of 339 (by decide +kernel) rfl
theorem wm_340 : Cond.instanceMethod ⟨"HandOffRecorder", "outcomes", "()I"⟩ ∈ wA := wA_of 340 (by decide +kernel) rfl
theorem wm_341 : Cond.selects "HandOffRecorder" ⟨"HandOffRecorder", "outcomes", "()I"⟩ ⟨"HandOffRecorder", "outcomes", "()I"⟩ ∈ wA := wA_of 341 (by decide +kernel) rfl
theorem wm_342 : Cond.code nM_X5_outcomes nC_X5_outcomes 1 (some .int) ∈ wA := wA_of 342 (by decide +kernel) rfl
theorem wm_343 : Cond.methodLink "HandOffRecorderLaw" 75 ⟨"HandOffRecorder", "fewest", "()I"⟩ ∈ wA := wA_of 343 (by decide +kernel) rfl
theorem wm_344 : Cond.instanceMethod ⟨"HandOffRecorder", "fewest", "()I"⟩ ∈ wA := wA_of 344 (by decide +kernel) rfl
theorem wm_345 : Cond.selects "HandOffRecorder" ⟨"HandOffRecorder", "fewest", "()I"⟩ ⟨"HandOffRecorder", "fewest", "()I"⟩ ∈ wA := wA_of 345 (by decide +kernel) rfl
theorem wm_346 : Cond.code nM_X5_fewest nC_X5_fewest 1 (some .int) ∈ wA := wA_of 346 (by decide +kernel) rfl
theorem wm_347 : Cond.methodLink "HandOffRecorder" 106 ⟨"HandOffRecorder$RowSet", "shortest", "()I"⟩ ∈ wA := wA_of 347 (by decide +kernel) rfl
theorem wm_348 : Cond.instanceMethod ⟨"HandOffRecorder$RowSet", "shortest", "()I"⟩ ∈ wA := wA_of 348 (by decide +kernel) rfl
theorem wm_349 : Cond.selects "HandOffRecorder$RowSet" ⟨"HandOffRecorder$RowSet", "shortest", "()I"⟩ ⟨"HandOffRecorder$RowSet", "shortest", "()I"⟩ ∈ wA := wA_of 349 (by decide +kernel) rfl
theorem wm_350 : Cond.code nM_X3_shortest nC_X3_shortest 4 (some .int) ∈ wA := wA_of 350 (by decide +kernel) rfl
theorem wm_351 : Cond.methodLink "HandOffRecorder$RowSet" 31 ⟨"HandOffRecorder$Row", "length", "(J)I"⟩ ∈ wA := wA_of 351 (by decide +kernel) rfl
theorem wm_352 : Cond.methodLink "HandOffRecorder$RowSet" 37 ⟨"java/lang/Math", "min", "(II)I"⟩ ∈ wA := wA_of 352 (by decide +kernel) rfl
theorem wm_353 : Cond.methodLink "HandOffRecorderLaw" 79 ⟨"HandOffRecorder", "most", "()I"⟩ ∈ wA := wA_of 353 (by decide +kernel) rfl
theorem wm_354 : Cond.instanceMethod ⟨"HandOffRecorder", "most", "()I"⟩ ∈ wA := wA_of 354 (by decide +kernel) rfl
theorem wm_355 : Cond.selects "HandOffRecorder" ⟨"HandOffRecorder", "most", "()I"⟩ ⟨"HandOffRecorder", "most", "()I"⟩ ∈ wA := wA_of 355 (by decide +kernel) rfl
theorem wm_356 : Cond.code nM_X5_most nC_X5_most 1 (some .int) ∈ wA := wA_of 356 (by decide +kernel) rfl
theorem wm_357 : Cond.methodLink "HandOffRecorder" 110 ⟨"HandOffRecorder$RowSet", "longest", "()I"⟩ ∈ wA := wA_of 357 (by decide +kernel) rfl
theorem wm_358 : Cond.instanceMethod ⟨"HandOffRecorder$RowSet", "longest", "()I"⟩ ∈ wA := wA_of 358 (by decide +kernel) rfl
theorem wm_359 : Cond.selects "HandOffRecorder$RowSet" ⟨"HandOffRecorder$RowSet", "longest", "()I"⟩ ⟨"HandOffRecorder$RowSet", "longest", "()I"⟩ ∈ wA := wA_of 359 (by decide +kernel) rfl
theorem wm_360 : Cond.code nM_X3_longest nC_X3_longest 3 (some .int) ∈ wA := wA_of 360 (by decide +kernel) rfl
theorem wm_361 : Cond.methodLink "HandOffRecorder$RowSet" 43 ⟨"java/lang/Math", "max", "(II)I"⟩ ∈ wA := wA_of 361 (by decide +kernel) rfl
theorem wm_362 : Cond.methodLink "HandOffRecorderLaw" 83 ⟨"HandOffRecorder", "mayHold", "(II)Z"⟩ ∈ wA := wA_of 362 (by decide +kernel) rfl
theorem wm_363 : Cond.instanceMethod ⟨"HandOffRecorder", "mayHold", "(II)Z"⟩ ∈ wA := wA_of 363 (by decide +kernel) rfl
theorem wm_364 : Cond.selects "HandOffRecorder" ⟨"HandOffRecorder", "mayHold", "(II)Z"⟩ ⟨"HandOffRecorder", "mayHold", "(II)Z"⟩ ∈ wA := wA_of 364 (by decide +kernel) rfl
theorem wm_365 : Cond.code nM_X5_mayHold nC_X5_mayHold 3 (some .boolean) ∈ wA := wA_of 365 (by decide +kernel) rfl
theorem wm_366 : Cond.methodLink "HandOffRecorder" 113 ⟨"HandOffRecorder$RowSet", "anyHas", "(II)Z"⟩ ∈ wA := wA_of 366 (by decide +kernel) rfl
theorem wm_367 : Cond.instanceMethod ⟨"HandOffRecorder$RowSet", "anyHas", "(II)Z"⟩ ∈ wA := wA_of 367 (by decide +kernel) rfl
theorem wm_368 : Cond.selects "HandOffRecorder$RowSet" ⟨"HandOffRecorder$RowSet", "anyHas", "(II)Z"⟩ ⟨"HandOffRecorder$RowSet", "anyHas", "(II)Z"⟩ ∈ wA := wA_of 368 (by decide +kernel) rfl
theorem wm_369 : Cond.code nM_X3_anyHas nC_X3_anyHas 4 (some .boolean) ∈ wA := wA_of 369 (by decide +kernel) rfl
theorem wm_370 : Cond.methodLink "HandOffRecorder$RowSet" 46 ⟨"HandOffRecorder$Row", "valueAt", "(JI)I"⟩ ∈ wA := wA_of 370 (by decide +kernel) rfl
theorem wm_371 : Cond.methodLink "HandOffRecorderLaw" 87 ⟨"HandOffRecorder", "certain", "(I)Z"⟩ ∈ wA := wA_of 371 (by decide +kernel) rfl
theorem wm_372 : Cond.instanceMethod ⟨"HandOffRecorder", "certain", "(I)Z"⟩ ∈ wA := wA_of 372 (by decide +kernel) rfl
theorem wm_373 : Cond.selects "HandOffRecorder" ⟨"HandOffRecorder", "certain", "(I)Z"⟩ ⟨"HandOffRecorder", "certain", "(I)Z"⟩ ∈ wA := wA_of 373 (by decide +kernel) rfl
theorem wm_374 : Cond.code nM_X5_certain nC_X5_certain 2 (some .boolean) ∈ wA := wA_of 374 (by decide +kernel) rfl
theorem wm_375 : Cond.methodLink "HandOffRecorderLaw" 91 ⟨"HandOffRecorder", "answers", "(I)I"⟩ ∈ wA := wA_of 375 (by decide +kernel) rfl
theorem wm_376 : Cond.instanceMethod ⟨"HandOffRecorder", "answers", "(I)I"⟩ ∈ wA := wA_of 376 (by decide +kernel) rfl
theorem wm_377 : Cond.selects "HandOffRecorder" ⟨"HandOffRecorder", "answers", "(I)I"⟩ ⟨"HandOffRecorder", "answers", "(I)I"⟩ ∈ wA := wA_of 377 (by decide +kernel) rfl
theorem wm_378 : Cond.code nM_X5_answers nC_X5_answers 2 (some .int) ∈ wA := wA_of 378 (by decide +kernel) rfl
theorem wm_379 : Cond.methodLink "HandOffRecorder" 127 ⟨"java/lang/Integer", "bitCount", "(I)I"⟩ ∈ wA := wA_of 379 (by decide +kernel) rfl
theorem wm_380 : Cond.static ⟨"java/lang/Integer", "bitCount", "(I)I"⟩ ∈ wA := wA_of 380 (by decide +kernel) rfl
theorem wm_381 : Cond.code nM_JI_bitCount nC_JI_bitCount 1 (some .int) ∈ wA := wA_of 381 (by decide +kernel) rfl
theorem wm_382 : Cond.constant "java/lang/Integer" 265 1431655765 ∈ wA := wA_of 382 (by decide +kernel) rfl
theorem wm_383 : Cond.constant "java/lang/Integer" 266 858993459 ∈ wA := wA_of 383 (by decide +kernel) rfl
theorem wm_384 : Cond.constant "java/lang/Integer" 267 252645135 ∈ wA := wA_of 384 (by decide +kernel) rfl
theorem wm_385 : Cond.methodLink "HandOffRecorderLaw" 9 ⟨"HandOffRecorderLaw", "cell", "([II)I"⟩ ∈ wA := wA_of 385 (by decide +kernel) rfl
theorem wm_386 : Cond.static ⟨"HandOffRecorderLaw", "cell", "([II)I"⟩ ∈ wA := wA_of 386 (by decide +kernel) rfl
theorem wm_387 : Cond.code nM_L_cell nC_L_cell 2 (some .int) ∈ wA := wA_of 387 (by decide +kernel) rfl
theorem wm_388 : Cond.classLink "HandOffRecorderLaw" 18 "HandOffRecorderModel" ∈ wA := wA_of 388 (by decide +kernel) rfl
theorem wm_389 : Cond.instantiable "HandOffRecorderModel" 23 ∈ wA := wA_of 389 (by decide +kernel) rfl
theorem wm_390 : Cond.methodLink "HandOffRecorderLaw" 20 ⟨"HandOffRecorderModel", "<init>", "(II)V"⟩ ∈ wA := wA_of 390 (by decide +kernel) rfl
theorem wm_391 : Cond.instanceMethod ⟨"HandOffRecorderModel", "<init>", "(II)V"⟩ ∈ wA := wA_of 391 (by decide +kernel) rfl
theorem wm_392 : Cond.code nM_M_init nC_M_init 3 none ∈ wA := wA_of 392 (by decide +kernel) rfl
theorem wm_393 : Cond.methodLink "HandOffRecorderModel" 1 ⟨"java/lang/Object", "<init>", "()V"⟩ ∈ wA := wA_of 393 (by decide +kernel) rfl
theorem wm_394 : Cond.methodLink "HandOffRecorderModel" 54 ⟨"HandOffRecorderModel", "renew", "(II)V"⟩ ∈ wA := wA_of 394 (by decide +kernel) rfl
theorem wm_395 : Cond.instanceMethod ⟨"HandOffRecorderModel", "renew", "(II)V"⟩ ∈ wA := wA_of 395 (by decide +kernel) rfl
theorem wm_396 : Cond.selects "HandOffRecorderModel" ⟨"HandOffRecorderModel", "renew", "(II)V"⟩ ⟨"HandOffRecorderModel", "renew", "(II)V"⟩ ∈ wA := wA_of 396 (by decide +kernel) rfl
theorem wm_397 : Cond.code nM_M_renew nC_M_renew 3 none ∈ wA := wA_of 397 (by decide +kernel) rfl
theorem wm_398 : Cond.methodLink "HandOffRecorderModel" 74 ⟨"HandOffRecorderModel", "work", "()V"⟩ ∈ wA := wA_of 398 (by decide +kernel) rfl
theorem wm_400 : Cond.instanceMethod ⟨"HandOffRecorderModel", "work", "()V"⟩ ∈ wA := wA_of 400 (by decide +kernel) rfl
theorem wm_401 : Cond.code nM_M_work nC_M_work 3 none ∈ wA := wA_of 401 (by decide +kernel) rfl
theorem wm_402 : Cond.methodLink "HandOffRecorderModel" 112 ⟨"HandOffRecorderModel", "note", "()V"⟩ ∈ wA := wA_of 402 (by decide +kernel) rfl
theorem wm_404 : Cond.instanceMethod ⟨"HandOffRecorderModel", "note", "()V"⟩ ∈ wA := wA_of 404 (by decide +kernel) rfl
theorem wm_405 : Cond.code nM_M_note nC_M_note 6 none ∈ wA := wA_of 405 (by decide +kernel) rfl
theorem wm_406 : Cond.methodLink "HandOffRecorderModel" 105 ⟨"HandOffRecorderModel", "isListed", "(I)Z"⟩ ∈ wA := wA_of 406 (by decide +kernel) rfl
theorem wm_408 : Cond.instanceMethod ⟨"HandOffRecorderModel", "isListed", "(I)Z"⟩ ∈ wA := wA_of 408 (by decide +kernel) rfl
theorem wm_409 : Cond.code nM_M_isListed nC_M_isListed 4 (some .boolean) ∈ wA := wA_of 409 (by decide +kernel) rfl
theorem wm_410 : Cond.constant "HandOffRecorderModel" 115 2000000 ∈ wA := wA_of 410 (by decide +kernel) rfl
theorem wm_411 : Cond.methodLink "HandOffRecorderModel" 116 ⟨"HandOffRecorderModel", "lengthen", "(I)V"⟩ ∈ wA := wA_of 411 (by decide +kernel) rfl
theorem wm_413 : Cond.instanceMethod ⟨"HandOffRecorderModel", "lengthen", "(I)V"⟩ ∈ wA := wA_of 413 (by decide +kernel) rfl
theorem wm_414 : Cond.code nM_M_lengthen nC_M_lengthen 2 none ∈ wA := wA_of 414 (by decide +kernel) rfl
theorem wm_415 : Cond.methodLink "HandOffRecorderModel" 120 ⟨"HandOffRecorderModel", "good", "()Z"⟩ ∈ wA := wA_of 415 (by decide +kernel) rfl
theorem wm_417 : Cond.instanceMethod ⟨"HandOffRecorderModel", "good", "()Z"⟩ ∈ wA := wA_of 417 (by decide +kernel) rfl
theorem wm_418 : Cond.code nM_M_good nC_M_good 3 (some .boolean) ∈ wA := wA_of 418 (by decide +kernel) rfl
theorem wm_419 : Cond.methodLink "HandOffRecorderModel" 102 ⟨"HandOffRecorderModel", "carryOut", "(I)I"⟩ ∈ wA := wA_of 419 (by decide +kernel) rfl
theorem wm_421 : Cond.instanceMethod ⟨"HandOffRecorderModel", "carryOut", "(I)I"⟩ ∈ wA := wA_of 421 (by decide +kernel) rfl
theorem wm_422 : Cond.code nM_M_carryOut nC_M_carryOut 5 (some .int) ∈ wA := wA_of 422 (by decide +kernel) rfl
theorem wm_423 : Cond.fieldLink "HandOffRecorderModel" 58 "HandOffRecorderModel" "kind" "I" ∈ wA := wA_of 423 (by decide +kernel) rfl
theorem wm_424 : Cond.fieldLink "HandOffRecorderModel" 62 "HandOffRecorderModel" "capacity" "I" ∈ wA := wA_of 424 (by decide +kernel) rfl
theorem wm_425 : Cond.fieldLink "HandOffRecorderModel" 65 "HandOffRecorderModel" "events" "I" ∈ wA := wA_of 425 (by decide +kernel) rfl
theorem wm_426 : Cond.fieldLink "HandOffRecorderModel" 68 "HandOffRecorderModel" "broken" "I" ∈ wA := wA_of 426 (by decide +kernel) rfl
theorem wm_427 : Cond.fieldLink "HandOffRecorderModel" 71 "HandOffRecorderModel" "begun" "I" ∈ wA := wA_of 427 (by decide +kernel) rfl
theorem wm_428 : Cond.fieldLink "HandOffRecorderModel" 7 "HandOffRecorderModel" "worker" "[I" ∈ wA := wA_of 428 (by decide +kernel) rfl
theorem wm_429 : Cond.fieldLink "HandOffRecorderModel" 13 "HandOffRecorderModel" "put" "[Z" ∈ wA := wA_of 429 (by decide +kernel) rfl
theorem wm_430 : Cond.fieldLink "HandOffRecorderModel" 17 "HandOffRecorderModel" "value" "[I" ∈ wA := wA_of 430 (by decide +kernel) rfl
theorem wm_431 : Cond.fieldLink "HandOffRecorderModel" 20 "HandOffRecorderModel" "from" "[I" ∈ wA := wA_of 431 (by decide +kernel) rfl
theorem wm_432 : Cond.fieldLink "HandOffRecorderModel" 23 "HandOffRecorderModel" "until" "[I" ∈ wA := wA_of 432 (by decide +kernel) rfl
theorem wm_433 : Cond.fieldLink "HandOffRecorderModel" 26 "HandOffRecorderModel" "reply" "[I" ∈ wA := wA_of 433 (by decide +kernel) rfl
theorem wm_434 : Cond.fieldLink "HandOffRecorderModel" 29 "HandOffRecorderModel" "state" "[I" ∈ wA := wA_of 434 (by decide +kernel) rfl
theorem wm_435 : Cond.fieldLink "HandOffRecorderModel" 99 "HandOffRecorderModel" "len" "I" ∈ wA := wA_of 435 (by decide +kernel) rfl
theorem wm_436 : Cond.fieldLink "HandOffRecorderModel" 32 "HandOffRecorderModel" "list" "[I" ∈ wA := wA_of 436 (by decide +kernel) rfl
theorem wm_437 : Cond.fieldLink "HandOffRecorderModel" 35 "HandOffRecorderModel" "given" "[I" ∈ wA := wA_of 437 (by decide +kernel) rfl
theorem wm_438 : Cond.fieldLink "HandOffRecorderModel" 38 "HandOffRecorderModel" "next" "[I" ∈ wA := wA_of 438 (by decide +kernel) rfl
theorem wm_439 : Cond.fieldLink "HandOffRecorderModel" 96 "HandOffRecorderModel" "held" "I" ∈ wA := wA_of 439 (by decide +kernel) rfl
theorem wm_440 : Cond.fieldLink "HandOffRecorderModel" 41 "HandOffRecorderModel" "row" "[I" ∈ wA := wA_of 440 (by decide +kernel) rfl
theorem wm_441 : Cond.fieldLink "HandOffRecorderModel" 77 "HandOffRecorderModel" "total" "J" ∈ wA := wA_of 441 (by decide +kernel) rfl
theorem wm_442 : Cond.fieldLink "HandOffRecorderModel" 109 "HandOffRecorderModel" "kinds" "I" ∈ wA := wA_of 442 (by decide +kernel) rfl
theorem wm_443 : Cond.fieldLink "HandOffRecorderModel" 44 "HandOffRecorderModel" "outcome" "[J" ∈ wA := wA_of 443 (by decide +kernel) rfl
theorem wm_444 : Cond.fieldLink "HandOffRecorderModel" 48 "HandOffRecorderModel" "listed" "[J" ∈ wA := wA_of 444 (by decide +kernel) rfl
theorem wm_445 : Cond.fieldLink "HandOffRecorderModel" 51 "HandOffRecorderModel" "seen" "[I" ∈ wA := wA_of 445 (by decide +kernel) rfl
theorem wm_446 : Cond.lays "HandOffRecorderModel" "HandOffRecorderModel" "kind" "I" ∈ wA := wA_of 446 (by decide +kernel) rfl
theorem wm_448 : Cond.lays "HandOffRecorderModel" "HandOffRecorderModel" "capacity" "I" ∈ wA := wA_of 448 (by decide +kernel) rfl
theorem wm_450 : Cond.lays "HandOffRecorderModel" "HandOffRecorderModel" "events" "I" ∈ wA := wA_of 450 (by decide +kernel) rfl
theorem wm_452 : Cond.lays "HandOffRecorderModel" "HandOffRecorderModel" "broken" "I" ∈ wA := wA_of 452 (by decide +kernel) rfl
theorem wm_454 : Cond.lays "HandOffRecorderModel" "HandOffRecorderModel" "begun" "I" ∈ wA := wA_of 454 (by decide +kernel) rfl
theorem wm_456 : Cond.lays "HandOffRecorderModel" "HandOffRecorderModel" "worker" "[I" ∈ wA := wA_of 456 (by decide +kernel) rfl
theorem wm_458 : Cond.lays "HandOffRecorderModel" "HandOffRecorderModel" "put" "[Z" ∈ wA := wA_of 458 (by decide +kernel) rfl
theorem wm_460 : Cond.lays "HandOffRecorderModel" "HandOffRecorderModel" "value" "[I" ∈ wA := wA_of 460 (by decide +kernel) rfl
theorem wm_462 : Cond.lays "HandOffRecorderModel" "HandOffRecorderModel" "from" "[I" ∈ wA := wA_of 462 (by decide +kernel) rfl
theorem wm_464 : Cond.lays "HandOffRecorderModel" "HandOffRecorderModel" "until" "[I" ∈ wA := wA_of 464 (by decide +kernel) rfl
theorem wm_466 : Cond.lays "HandOffRecorderModel" "HandOffRecorderModel" "reply" "[I" ∈ wA := wA_of 466 (by decide +kernel) rfl
theorem wm_468 : Cond.lays "HandOffRecorderModel" "HandOffRecorderModel" "state" "[I" ∈ wA := wA_of 468 (by decide +kernel) rfl
theorem wm_470 : Cond.lays "HandOffRecorderModel" "HandOffRecorderModel" "len" "I" ∈ wA := wA_of 470 (by decide +kernel) rfl
theorem wm_472 : Cond.lays "HandOffRecorderModel" "HandOffRecorderModel" "list" "[I" ∈ wA := wA_of 472 (by decide +kernel) rfl
theorem wm_474 : Cond.lays "HandOffRecorderModel" "HandOffRecorderModel" "given" "[I" ∈ wA := wA_of 474 (by decide +kernel) rfl
theorem wm_476 : Cond.lays "HandOffRecorderModel" "HandOffRecorderModel" "next" "[I" ∈ wA := wA_of 476 (by decide +kernel) rfl
theorem wm_478 : Cond.lays "HandOffRecorderModel" "HandOffRecorderModel" "held" "I" ∈ wA := wA_of 478 (by decide +kernel) rfl
theorem wm_480 : Cond.lays "HandOffRecorderModel" "HandOffRecorderModel" "row" "[I" ∈ wA := wA_of 480 (by decide +kernel) rfl
theorem wm_482 : Cond.lays "HandOffRecorderModel" "HandOffRecorderModel" "total" "J" ∈ wA := wA_of 482 (by decide +kernel) rfl
theorem wm_484 : Cond.lays "HandOffRecorderModel" "HandOffRecorderModel" "kinds" "I" ∈ wA := wA_of 484 (by decide +kernel) rfl
theorem wm_486 : Cond.lays "HandOffRecorderModel" "HandOffRecorderModel" "outcome" "[J" ∈ wA := wA_of 486 (by decide +kernel) rfl
theorem wm_488 : Cond.lays "HandOffRecorderModel" "HandOffRecorderModel" "listed" "[J" ∈ wA := wA_of 488 (by decide +kernel) rfl
theorem wm_490 : Cond.lays "HandOffRecorderModel" "HandOffRecorderModel" "seen" "[I" ∈ wA := wA_of 490 (by decide +kernel) rfl
theorem wm_493 : Cond.arrayClass .boolean ∈ wA := wA_of 493 (by decide +kernel) rfl
theorem wm_494 : Cond.methodLink "HandOffRecorderLaw" 24 ⟨"HandOffRecorderModel", "renew", "(II)V"⟩ ∈ wA := wA_of 494 (by decide +kernel) rfl
theorem wm_495 : Cond.methodLink "HandOffRecorderLaw" 29 ⟨"HandOffRecorderModel", "beginPut", "(II)Z"⟩ ∈ wA := wA_of 495 (by decide +kernel) rfl
theorem wm_496 : Cond.instanceMethod ⟨"HandOffRecorderModel", "beginPut", "(II)Z"⟩ ∈ wA := wA_of 496 (by decide +kernel) rfl
theorem wm_497 : Cond.selects "HandOffRecorderModel" ⟨"HandOffRecorderModel", "beginPut", "(II)Z"⟩ ⟨"HandOffRecorderModel", "beginPut", "(II)Z"⟩ ∈ wA := wA_of 497 (by decide +kernel) rfl
theorem wm_498 : Cond.code nM_M_beginPut nC_M_beginPut 3 (some .boolean) ∈ wA := wA_of 498 (by decide +kernel) rfl
theorem wm_499 : Cond.methodLink "HandOffRecorderModel" 88 ⟨"HandOffRecorderModel", "begin", "(IZI)Z"⟩ ∈ wA := wA_of 499 (by decide +kernel) rfl
theorem wm_501 : Cond.instanceMethod ⟨"HandOffRecorderModel", "begin", "(IZI)Z"⟩ ∈ wA := wA_of 501 (by decide +kernel) rfl
theorem wm_502 : Cond.code nM_M_begin nC_M_begin 4 (some .boolean) ∈ wA := wA_of 502 (by decide +kernel) rfl
theorem wm_503 : Cond.methodLink "HandOffRecorderModel" 81 ⟨"HandOffRecorderModel", "openOf", "(I)I"⟩ ∈ wA := wA_of 503 (by decide +kernel) rfl
theorem wm_505 : Cond.instanceMethod ⟨"HandOffRecorderModel", "openOf", "(I)I"⟩ ∈ wA := wA_of 505 (by decide +kernel) rfl
theorem wm_506 : Cond.code nM_M_openOf nC_M_openOf 4 (some .int) ∈ wA := wA_of 506 (by decide +kernel) rfl
theorem wm_507 : Cond.methodLink "HandOffRecorderModel" 85 ⟨"HandOffRecorderModel", "happened", "()V"⟩ ∈ wA := wA_of 507 (by decide +kernel) rfl
theorem wm_509 : Cond.instanceMethod ⟨"HandOffRecorderModel", "happened", "()V"⟩ ∈ wA := wA_of 509 (by decide +kernel) rfl
theorem wm_510 : Cond.code nM_M_happened nC_M_happened 1 none ∈ wA := wA_of 510 (by decide +kernel) rfl
theorem wm_511 : Cond.methodLink "HandOffRecorderLaw" 34 ⟨"HandOffRecorderModel", "beginTake", "(I)Z"⟩ ∈ wA := wA_of 511 (by decide +kernel) rfl
theorem wm_512 : Cond.instanceMethod ⟨"HandOffRecorderModel", "beginTake", "(I)Z"⟩ ∈ wA := wA_of 512 (by decide +kernel) rfl
theorem wm_513 : Cond.selects "HandOffRecorderModel" ⟨"HandOffRecorderModel", "beginTake", "(I)Z"⟩ ⟨"HandOffRecorderModel", "beginTake", "(I)Z"⟩ ∈ wA := wA_of 513 (by decide +kernel) rfl
theorem wm_514 : Cond.code nM_M_beginTake nC_M_beginTake 2 (some .boolean) ∈ wA := wA_of 514 (by decide +kernel) rfl
theorem wm_515 : Cond.methodLink "HandOffRecorderLaw" 39 ⟨"HandOffRecorderModel", "endPut", "(IZ)Z"⟩ ∈ wA := wA_of 515 (by decide +kernel) rfl
theorem wm_516 : Cond.instanceMethod ⟨"HandOffRecorderModel", "endPut", "(IZ)Z"⟩ ∈ wA := wA_of 516 (by decide +kernel) rfl
theorem wm_517 : Cond.selects "HandOffRecorderModel" ⟨"HandOffRecorderModel", "endPut", "(IZ)Z"⟩ ⟨"HandOffRecorderModel", "endPut", "(IZ)Z"⟩ ∈ wA := wA_of 517 (by decide +kernel) rfl
theorem wm_518 : Cond.code nM_M_endPut nC_M_endPut 4 (some .boolean) ∈ wA := wA_of 518 (by decide +kernel) rfl
theorem wm_519 : Cond.methodLink "HandOffRecorderModel" 92 ⟨"HandOffRecorderModel", "close", "(III)V"⟩ ∈ wA := wA_of 519 (by decide +kernel) rfl
theorem wm_521 : Cond.instanceMethod ⟨"HandOffRecorderModel", "close", "(III)V"⟩ ∈ wA := wA_of 521 (by decide +kernel) rfl
theorem wm_522 : Cond.code nM_M_close nC_M_close 4 none ∈ wA := wA_of 522 (by decide +kernel) rfl
theorem wm_523 : Cond.methodLink "HandOffRecorderLaw" 43 ⟨"HandOffRecorderModel", "endTake", "(II)Z"⟩ ∈ wA := wA_of 523 (by decide +kernel) rfl
theorem wm_524 : Cond.instanceMethod ⟨"HandOffRecorderModel", "endTake", "(II)Z"⟩ ∈ wA := wA_of 524 (by decide +kernel) rfl
theorem wm_525 : Cond.selects "HandOffRecorderModel" ⟨"HandOffRecorderModel", "endTake", "(II)Z"⟩ ⟨"HandOffRecorderModel", "endTake", "(II)Z"⟩ ∈ wA := wA_of 525 (by decide +kernel) rfl
theorem wm_526 : Cond.code nM_M_endTake nC_M_endTake 4 (some .boolean) ∈ wA := wA_of 526 (by decide +kernel) rfl
theorem wm_527 : Cond.methodLink "HandOffRecorderLaw" 47 ⟨"HandOffRecorderModel", "giveUp", "(I)Z"⟩ ∈ wA := wA_of 527 (by decide +kernel) rfl
theorem wm_528 : Cond.instanceMethod ⟨"HandOffRecorderModel", "giveUp", "(I)Z"⟩ ∈ wA := wA_of 528 (by decide +kernel) rfl
theorem wm_529 : Cond.selects "HandOffRecorderModel" ⟨"HandOffRecorderModel", "giveUp", "(I)Z"⟩ ⟨"HandOffRecorderModel", "giveUp", "(I)Z"⟩ ∈ wA := wA_of 529 (by decide +kernel) rfl
theorem wm_530 : Cond.code nM_M_giveUp nC_M_giveUp 3 (some .boolean) ∈ wA := wA_of 530 (by decide +kernel) rfl
theorem wm_531 : Cond.methodLink "HandOffRecorderLaw" 52 ⟨"HandOffRecorderModel", "events", "()I"⟩ ∈ wA := wA_of 531 (by decide +kernel) rfl
theorem wm_532 : Cond.instanceMethod ⟨"HandOffRecorderModel", "events", "()I"⟩ ∈ wA := wA_of 532 (by decide +kernel) rfl
theorem wm_533 : Cond.selects "HandOffRecorderModel" ⟨"HandOffRecorderModel", "events", "()I"⟩ ⟨"HandOffRecorderModel", "events", "()I"⟩ ∈ wA := wA_of 533 (by decide +kernel) rfl
theorem wm_534 : Cond.code nM_M_events nC_M_events 1 (some .int) ∈ wA := wA_of 534 (by decide +kernel) rfl
theorem wm_535 : Cond.methodLink "HandOffRecorderLaw" 56 ⟨"HandOffRecorderModel", "begun", "()I"⟩ ∈ wA := wA_of 535 (by decide +kernel) rfl
theorem wm_536 : Cond.instanceMethod ⟨"HandOffRecorderModel", "begun", "()I"⟩ ∈ wA := wA_of 536 (by decide +kernel) rfl
theorem wm_537 : Cond.selects "HandOffRecorderModel" ⟨"HandOffRecorderModel", "begun", "()I"⟩ ⟨"HandOffRecorderModel", "begun", "()I"⟩ ∈ wA := wA_of 537 (by decide +kernel) rfl
theorem wm_538 : Cond.code nM_M_begun nC_M_begun 1 (some .int) ∈ wA := wA_of 538 (by decide +kernel) rfl
theorem wm_539 : Cond.methodLink "HandOffRecorderLaw" 61 ⟨"HandOffRecorderModel", "fits", "()Z"⟩ ∈ wA := wA_of 539 (by decide +kernel) rfl
theorem wm_540 : Cond.instanceMethod ⟨"HandOffRecorderModel", "fits", "()Z"⟩ ∈ wA := wA_of 540 (by decide +kernel) rfl
theorem wm_541 : Cond.selects "HandOffRecorderModel" ⟨"HandOffRecorderModel", "fits", "()Z"⟩ ⟨"HandOffRecorderModel", "fits", "()Z"⟩ ∈ wA := wA_of 541 (by decide +kernel) rfl
theorem wm_542 : Cond.code nM_M_fits nC_M_fits 1 (some .boolean) ∈ wA := wA_of 542 (by decide +kernel) rfl
theorem wm_543 : Cond.methodLink "HandOffRecorderLaw" 65 ⟨"HandOffRecorderModel", "brokenAt", "()I"⟩ ∈ wA := wA_of 543 (by decide +kernel) rfl
theorem wm_544 : Cond.instanceMethod ⟨"HandOffRecorderModel", "brokenAt", "()I"⟩ ∈ wA := wA_of 544 (by decide +kernel) rfl
theorem wm_545 : Cond.selects "HandOffRecorderModel" ⟨"HandOffRecorderModel", "brokenAt", "()I"⟩ ⟨"HandOffRecorderModel", "brokenAt", "()I"⟩ ∈ wA := wA_of 545 (by decide +kernel) rfl
theorem wm_546 : Cond.code nM_M_brokenAt nC_M_brokenAt 1 (some .int) ∈ wA := wA_of 546 (by decide +kernel) rfl
theorem wm_547 : Cond.methodLink "HandOffRecorderLaw" 70 ⟨"HandOffRecorderModel", "explanations", "()J"⟩ ∈ wA := wA_of 547 (by decide +kernel) rfl
theorem wm_548 : Cond.instanceMethod ⟨"HandOffRecorderModel", "explanations", "()J"⟩ ∈ wA := wA_of 548 (by decide +kernel) rfl
theorem wm_549 : Cond.selects "HandOffRecorderModel" ⟨"HandOffRecorderModel", "explanations", "()J"⟩ ⟨"HandOffRecorderModel", "explanations", "()J"⟩ ∈ wA := wA_of 549 (by decide +kernel) rfl
theorem wm_550 : Cond.code nM_M_explanations nC_M_explanations 1 (some .long) ∈ wA := wA_of 550 (by decide +kernel) rfl
theorem wm_551 : Cond.methodLink "HandOffRecorderLaw" 74 ⟨"HandOffRecorderModel", "outcomes", "()I"⟩ ∈ wA := wA_of 551 (by decide +kernel) rfl
theorem wm_552 : Cond.instanceMethod ⟨"HandOffRecorderModel", "outcomes", "()I"⟩ ∈ wA := wA_of 552 (by decide +kernel) rfl
theorem wm_553 : Cond.selects "HandOffRecorderModel" ⟨"HandOffRecorderModel", "outcomes", "()I"⟩ ⟨"HandOffRecorderModel", "outcomes", "()I"⟩ ∈ wA := wA_of 553 (by decide +kernel) rfl
theorem wm_554 : Cond.code nM_M_outcomes nC_M_outcomes 1 (some .int) ∈ wA := wA_of 554 (by decide +kernel) rfl
theorem wm_555 : Cond.methodLink "HandOffRecorderLaw" 78 ⟨"HandOffRecorderModel", "fewest", "()I"⟩ ∈ wA := wA_of 555 (by decide +kernel) rfl
theorem wm_556 : Cond.instanceMethod ⟨"HandOffRecorderModel", "fewest", "()I"⟩ ∈ wA := wA_of 556 (by decide +kernel) rfl
theorem wm_557 : Cond.selects "HandOffRecorderModel" ⟨"HandOffRecorderModel", "fewest", "()I"⟩ ⟨"HandOffRecorderModel", "fewest", "()I"⟩ ∈ wA := wA_of 557 (by decide +kernel) rfl
theorem wm_558 : Cond.code nM_M_fewest nC_M_fewest 4 (some .int) ∈ wA := wA_of 558 (by decide +kernel) rfl
theorem wm_559 : Cond.methodLink "HandOffRecorderModel" 126 ⟨"HandOffRecorderModel", "sizeOf", "(I)I"⟩ ∈ wA := wA_of 559 (by decide +kernel) rfl
theorem wm_561 : Cond.instanceMethod ⟨"HandOffRecorderModel", "sizeOf", "(I)I"⟩ ∈ wA := wA_of 561 (by decide +kernel) rfl
theorem wm_562 : Cond.code nM_M_sizeOf nC_M_sizeOf 2 (some .int) ∈ wA := wA_of 562 (by decide +kernel) rfl
theorem wm_563 : Cond.constantLong "HandOffRecorderModel" 124 15 ∈ wA := wA_of 563 (by decide +kernel) rfl
theorem wm_564 : Cond.methodLink "HandOffRecorderLaw" 82 ⟨"HandOffRecorderModel", "most", "()I"⟩ ∈ wA := wA_of 564 (by decide +kernel) rfl
theorem wm_565 : Cond.instanceMethod ⟨"HandOffRecorderModel", "most", "()I"⟩ ∈ wA := wA_of 565 (by decide +kernel) rfl
theorem wm_566 : Cond.selects "HandOffRecorderModel" ⟨"HandOffRecorderModel", "most", "()I"⟩ ⟨"HandOffRecorderModel", "most", "()I"⟩ ∈ wA := wA_of 566 (by decide +kernel) rfl
theorem wm_567 : Cond.code nM_M_most nC_M_most 4 (some .int) ∈ wA := wA_of 567 (by decide +kernel) rfl
theorem wm_568 : Cond.methodLink "HandOffRecorderLaw" 86 ⟨"HandOffRecorderModel", "mayHold", "(II)Z"⟩ ∈ wA := wA_of 568 (by decide +kernel) rfl
theorem wm_569 : Cond.instanceMethod ⟨"HandOffRecorderModel", "mayHold", "(II)Z"⟩ ∈ wA := wA_of 569 (by decide +kernel) rfl
theorem wm_570 : Cond.selects "HandOffRecorderModel" ⟨"HandOffRecorderModel", "mayHold", "(II)Z"⟩ ⟨"HandOffRecorderModel", "mayHold", "(II)Z"⟩ ∈ wA := wA_of 570 (by decide +kernel) rfl
theorem wm_571 : Cond.code nM_M_mayHold nC_M_mayHold 5 (some .boolean) ∈ wA := wA_of 571 (by decide +kernel) rfl
theorem wm_572 : Cond.methodLink "HandOffRecorderLaw" 90 ⟨"HandOffRecorderModel", "certain", "(I)Z"⟩ ∈ wA := wA_of 572 (by decide +kernel) rfl
theorem wm_573 : Cond.instanceMethod ⟨"HandOffRecorderModel", "certain", "(I)Z"⟩ ∈ wA := wA_of 573 (by decide +kernel) rfl
theorem wm_574 : Cond.selects "HandOffRecorderModel" ⟨"HandOffRecorderModel", "certain", "(I)Z"⟩ ⟨"HandOffRecorderModel", "certain", "(I)Z"⟩ ∈ wA := wA_of 574 (by decide +kernel) rfl
theorem wm_575 : Cond.code nM_M_certain nC_M_certain 2 (some .boolean) ∈ wA := wA_of 575 (by decide +kernel) rfl
theorem wm_576 : Cond.methodLink "HandOffRecorderLaw" 95 ⟨"HandOffRecorderModel", "answers", "(I)I"⟩ ∈ wA := wA_of 576 (by decide +kernel) rfl
theorem wm_577 : Cond.instanceMethod ⟨"HandOffRecorderModel", "answers", "(I)I"⟩ ∈ wA := wA_of 577 (by decide +kernel) rfl
theorem wm_578 : Cond.selects "HandOffRecorderModel" ⟨"HandOffRecorderModel", "answers", "(I)I"⟩ ⟨"HandOffRecorderModel", "answers", "(I)I"⟩ ∈ wA := wA_of 578 (by decide +kernel) rfl
theorem wm_579 : Cond.code nM_M_answers nC_M_answers 4 (some .int) ∈ wA := wA_of 579 (by decide +kernel) rfl
theorem wu_X0 : ∀ w ∈ u_ws nR_X0 nT_X0 5, w ∈ wA := by decide +kernel
theorem wu_X1 : ∀ w ∈ u_ws nR_X1 nT_X1 4, w ∈ wA := by decide +kernel
theorem wu_X3 : ∀ w ∈ u_ws nR_X3 nT_X3 3, w ∈ wA := by decide +kernel
theorem wu_X4 : ∀ w ∈ u_ws nR_X4 nT_X4 2, w ∈ wA := by decide +kernel
theorem wu_X5 : ∀ w ∈ u_ws nR_X5 nT_X5 10, w ∈ wA := by decide +kernel
theorem wu_M : ∀ w ∈ u_ws nR_M nT_M 23, w ∈ wA := by decide +kernel
end
section
/-! DRAFT (never compiled yet): the base of all contracts. Words: every method's are its code and wA. A writing contract speaks of a block of cells w (a va_W); behind the method the block is w'. A caller's world is (pre ++ w) ++ po; behind the call it is (pre ++ w') ++ po: no cell changes its place. A reading contract leaves the heap as it was. -/
def mN (U : State) : Prop := ∀ w ∈ nA, va_Nw w U
theorem mN.warm {s U : State} (hW : s.WarmedH U.vm) (h : mN s) : mN U := fun w hw => nA_warm hw hW (h w hw)
theorem mN.call {U : State} {g : JFrame} {mk : MethodId} {a : Array Value} (h : mN U) : mN (U.calling g mk a) := fun w hw => va_Nw.same (u := U) (U := U.calling g mk a) (nA_tab hw) rfl (h w hw)
theorem mN.use {U : State} {A : Array Value} {w : Cond} (h : mN U) (hw : w ∈ nA) : w.before A U = true := va_Nw.use (nA_tab hw) (h w hw)
abbrev mPR (D : va_G) (tys : List (ClassId × FieldType)) (w : va_W) (U : State) : Prop := va_P D nCl w U.heap ∧ va_K D nCl tys U ∧ mN U
abbrev mPW (D : va_G) (tys : List (ClassId × FieldType)) (w : va_W) (sz : Nat) (U : State) : Prop := U.heap.size = sz ∧ va_P D nCl w U.heap ∧ va_K D nCl tys U ∧ va_D (fun _ => True) w ∧ mN U
abbrev mQW (D : va_G) (tys : List (ClassId × FieldType)) (w : va_W) (sz : Nat) (w' : va_W) (t : State) : Prop := va_P D nCl w' t.heap ∧ va_K D nCl tys t ∧ va_D (va_A w sz) w'
/-- writing contracts (no cell is made): int and boolean, long, void -/
abbrev mWi (l : Launch) (y : MethodName) (cc : ByteArray) (maxL : Nat) (ret : Option FieldType) (rm : Room) (D : va_G) (tys : List (ClassId × FieldType)) (av : List Value) (w : va_W) (post : Int32 → va_W → Prop) : Prop := ∀ sz : Nat, Met l y (Cond.code y cc maxL ret :: wA) rm (va_Pc av (mPW D tys w sz)) (va_Qi post (mQW D tys w sz) (va_A w sz)) 0 0 (va_A w sz)
abbrev mWv (l : Launch) (y : MethodName) (cc : ByteArray) (maxL : Nat) (rm : Room) (D : va_G) (tys : List (ClassId × FieldType)) (av : List Value) (w : va_W) (post : va_W → Prop) : Prop := ∀ sz : Nat, Met l y (Cond.code y cc maxL none :: wA) rm (va_Pc av (mPW D tys w sz)) (va_Qv post (mQW D tys w sz) (va_A w sz)) 0 0 (va_A w sz)
/-- reading contracts -/
abbrev mRi (l : Launch) (y : MethodName) (cc : ByteArray) (maxL : Nat) (ret : Option FieldType) (rm : Room) (D : va_G) (tys : List (ClassId × FieldType)) (av : List Value) (w : va_W) (post : Int32 → Prop) : Prop := Met l y (Cond.code y cc maxL ret :: wA) rm (va_Pc av (mPR D tys w)) (vp_Si post) 0 0 (fun _ => False)
abbrev mRl (l : Launch) (y : MethodName) (cc : ByteArray) (maxL : Nat) (rm : Room) (D : va_G) (tys : List (ClassId × FieldType)) (av : List Value) (w : va_W) (post : Int64 → Prop) : Prop := Met l y (Cond.code y cc maxL (some .long) :: wA) rm (va_Pc av (mPR D tys w)) (vp_Sl post) 0 0 (fun _ => False)
/-- pure ones: no world at all -/
abbrev mSi (l : Launch) (y : MethodName) (cc : ByteArray) (maxL : Nat) (ret : Option FieldType) (rm : Room) (av : List Value) (post : Int32 → Prop) : Prop := Met l y (Cond.code y cc maxL ret :: wA) rm (va_Pc av (fun _ => True)) (vp_Si post) 0 0 (fun _ => False)
abbrev mSl (l : Launch) (y : MethodName) (cc : ByteArray) (maxL : Nat) (rm : Room) (av : List Value) (post : Int64 → Prop) : Prop := Met l y (Cond.code y cc maxL (some .long) :: wA) rm (va_Pc av (fun _ => True)) (vp_Sl post) 0 0 (fun _ => False)
section MB1
variable {D : va_G} {cl : List vw_C} {pre wc po w' : va_W} {H H1 H0 : Heap} {A : Nat → Prop} {locs : List Loc}
theorem mB_at {k : Nat} {q : Nat × va_E} (h : wc[k]? = some q) : ((pre ++ wc) ++ po)[pre.length + k]? = some q := by
  have hk : k < wc.length := (List.getElem?_eq_some_iff.mp h).1
  rw [List.getElem?_append_left (by rw [List.length_append]; omega), List.getElem?_append_right (by omega), Nat.add_sub_cancel_left]
  exact h
theorem mB_P (h : va_P D cl ((pre ++ wc) ++ po) H) : va_P D cl wc H := fun k q hk => h (pre.length + k) q (mB_at hk)
theorem mB_D (h : va_D A ((pre ++ wc) ++ po)) : va_D A wc := h.by (fun k => pre.length + k) (fun _ _ hk => mB_at hk) (fun i j _ _ e => by omega)
theorem mB_free (hD : va_D A ((pre ++ wc) ++ po)) (hS : va_S A H0 H locs) (hA : ∀ q, H0.size ≤ q → A q) : ∀ q, va_A wc H.size q → A q := by
  intro q h
  rcases h with ⟨k, e, h⟩ | h
  · exact hD.2 _ (q, e) (mB_at h)
  · exact hA q (Nat.le_trans hS.1 h)
theorem mB_frame (hP : va_P D cl ((pre ++ wc) ++ po) H) (hD : va_D A ((pre ++ wc) ++ po)) (hk : ∀ q : Nat, q < H.size → ¬ va_A wc H.size q → H1[q]? = H[q]?) (hF : ∀ q, va_A wc H.size q → A q) (hP1 : va_P D cl w' H1) (hD1 : va_D (va_A wc H.size) w') : va_P D cl ((pre ++ w') ++ po) H1 ∧ va_D A ((pre ++ w') ++ po) := by
  have hP' := hP.swap
  have hD' := hD.swap
  have old : ∀ (k : Nat) (q : Nat × va_E), (pre ++ po)[k]? = some q → ((pre ++ po) ++ wc)[k]? = some q := by
    intro k q hq
    rw [List.getElem?_append_left (List.getElem?_eq_some_iff.mp hq).1]
    exact hq
  have apart : ∀ (k : Nat) (q : Nat × va_E), (pre ++ po)[k]? = some q → q.1 < H.size ∧ ¬ va_A wc H.size q.1 := by
    intro k q hq
    have hk1 : k < (pre ++ po).length := (List.getElem?_eq_some_iff.mp hq).1
    have h2 := old k q hq
    have hlt : q.1 < H.size := (hP' k q h2).lt
    refine ⟨hlt, fun h => ?_⟩
    rcases h with ⟨j, e, h⟩ | h
    · have h3 : ((pre ++ po) ++ wc)[(pre ++ po).length + j]? = some (q.1, e) := by
        rw [List.getElem?_append_right (by omega), Nat.add_sub_cancel_left]
        exact h
      have := hD'.1 k _ q (q.1, e) h2 h3 rfl
      omega
    · omega
  have hDr : va_D A (pre ++ po) := hD'.by id (fun k q hq => old k q hq) (fun i j _ _ e => e)
  have key : va_P D cl ((pre ++ po) ++ w') H1 ∧ va_D A ((pre ++ po) ++ w') := by
    refine ⟨va_P.app (fun k q hq => ?_) hP1, va_D.app hDr (hD1.weaken (fun k q _ h => hF q.1 h)) (fun i j x y hx hy hxy => ?_)⟩
    · obtain ⟨g1, g2⟩ := apart k q hq
      exact (hP' k q (old k q hq)).kept (hk q.1 g1 g2)
    · exact (apart i x hx).2 (by rw [hxy]; exact hD1.2 j y hy)
  exact ⟨key.1.swap, key.2.swap⟩
end MB1
/-! a row of n cells of one kind, by number -/
def rp (n : Nat) (ca : Nat → Nat) (cf : Nat → va_E) : va_W := (List.range n).map fun i => (ca i, cf i)
theorem rp_get {b : va_W} {n i : Nat} {ca : Nat → Nat} {cf : Nat → va_E} (h : i < n) : (b ++ rp n ca cf)[b.length + i]? = some (ca i, cf i) := by
  rw [List.getElem?_append_right (by omega), Nat.add_sub_cancel_left]
  simp [rp, h]
theorem rp_set {b : va_W} {n i : Nat} {ca : Nat → Nat} {cf : Nat → va_E} {e : va_E} (h : i < n) : (b ++ rp n ca cf).set (b.length + i) (ca i, e) = b ++ rp n ca (va_up cf i e) := by
  apply List.ext_getElem?
  intro j
  by_cases hj : j < b.length
  · rw [List.getElem?_set_ne (by omega), List.getElem?_append_left hj, List.getElem?_append_left hj]
  · by_cases hji : j = b.length + i
    · subst hji
      rw [List.getElem?_set_self (by simp [rp]; omega), rp_get h, va_up_self]
    · rw [List.getElem?_set_ne (by omega), List.getElem?_append_right (by omega), List.getElem?_append_right (by omega)]
      simp only [rp, List.getElem?_map]
      by_cases hn : j - b.length < n
      · rw [List.getElem?_range hn]
        show some (_, _) = some (_, _)
        rw [va_up_ne _ _ (by omega)]
      · rw [List.getElem?_eq_none (by simp; omega)]
        rfl
section MB2
variable {p : Program} {l : Launch} {e : Env} {R : Room} {s : State} {m : MethodId} {args : Array Value} {below : List Frame} {meth : Method} {c : Code} {H : Heap} {locs : List Loc} {cells slots : Nat} {Q : State → Prop}
variable {cc : ByteArray} {pc : Nat} {ls : Array Slot} {rest st0 : List Value} {D : va_G} {tys : List (ClassId × FieldType)} {A : Nat → Prop} {H0 : Heap} {pre wc po : va_W}
/-- a method's start: writing, reading, pure -/
theorem mt_W {y : MethodName} {rm : Room} {maxL : Nat} {ret : Option FieldType} {av : List Value} {w : va_W} {sz mc ms : Nat} {Qc : Array Value → State → Outcome → State → Prop} {free : Addr → Prop} (hy : plainName y.cls = true) (hlen : (lg_sl av).length ≤ maxL)
    (body : ∀ (p : Program) (e : Env) (s : State) (m : MethodId) (below : List Frame) (meth : Method) (c : Code) (ls : Array Slot), p.tables.exec = Jvm.exec → c.code = cc → c.maxLocals = maxL → meth.sig.returnType = ret → s.vm.findClass y.cls = some m.cls → meth.locks = false → meth.name = y.name → (∀ w ∈ wA, w.before av.toArray s = true) → mN s → va_P D nCl w s.heap → va_K D nCl tys s → va_D (va_A w s.heap.size) w → va_S (va_A w s.heap.size) s.heap s.heap [] → (∀ q, s.heap.size ≤ q → va_A w s.heap.size q) → lv_has ls maxL (lv_args 0 av) → s.heap.size = sz → W p l e rm s m av.toArray below meth c s.heap [] 0 0 (MQ below Qc av.toArray s mc ms free) (F0 m 0 ls [])) : Met l y (Cond.code y cc maxL ret :: wA) rm (va_Pc av (mPW D tys w sz)) Qc mc ms free := by
  refine Met.ofW (cc := cc) (maxL := maxL) (ret := ret) hy rfl ?_
  intro p e s m args below meth c s₁ B hml hv
  obtain ⟨rfl, hsz, hP, hK, hD0, hn⟩ := hv
  rw [lg_entry_eq]
  have hts := atoms_spec (ws := Cond.code y cc maxL ret :: wA) B.pre
  exact body p e s m below meth c _ B.exec B.bytes hml B.returns (findClass_of_methodNamed B.named) B.notSynchronized (name_of_methodNamed B.named B.method).1 (fun w h => hts w (List.mem_cons_of_mem _ h)) hn hP hK hD0.self va_S.rf (fun q h => Or.inr h) (lv_entry av hlen) hsz
theorem mt_R {y : MethodName} {rm : Room} {maxL : Nat} {ret : Option FieldType} {av : List Value} {w : va_W} {Qc : Array Value → State → Outcome → State → Prop} {free : Addr → Prop} (hy : plainName y.cls = true) (hlen : (lg_sl av).length ≤ maxL)
    (body : ∀ (p : Program) (e : Env) (s : State) (m : MethodId) (below : List Frame) (meth : Method) (c : Code) (ls : Array Slot), p.tables.exec = Jvm.exec → c.code = cc → c.maxLocals = maxL → meth.sig.returnType = ret → s.vm.findClass y.cls = some m.cls → meth.locks = false → (∀ w ∈ wA, w.before av.toArray s = true) → mN s → va_P D nCl w s.heap → va_K D nCl tys s → lv_has ls maxL (lv_args 0 av) → W p l e rm s m av.toArray below meth c s.heap [] 0 0 (MQ below Qc av.toArray s 0 0 free) (F0 m 0 ls [])) : Met l y (Cond.code y cc maxL ret :: wA) rm (va_Pc av (mPR D tys w)) Qc 0 0 free := by
  refine Met.ofW (cc := cc) (maxL := maxL) (ret := ret) hy rfl ?_
  intro p e s m args below meth c s₁ B hml hv
  obtain ⟨rfl, hP, hK, hn⟩ := hv
  rw [lg_entry_eq]
  have hts := atoms_spec (ws := Cond.code y cc maxL ret :: wA) B.pre
  exact body p e s m below meth c _ B.exec B.bytes hml B.returns (findClass_of_methodNamed B.named) B.notSynchronized (fun w h => hts w (List.mem_cons_of_mem _ h)) hn hP hK (lv_entry av hlen)
theorem mt_S {y : MethodName} {rm : Room} {maxL : Nat} {ret : Option FieldType} {av : List Value} {Qc : Array Value → State → Outcome → State → Prop} {free : Addr → Prop} (hy : plainName y.cls = true) (hlen : (lg_sl av).length ≤ maxL)
    (body : ∀ (p : Program) (e : Env) (s : State) (m : MethodId) (below : List Frame) (meth : Method) (c : Code) (ls : Array Slot), p.tables.exec = Jvm.exec → c.code = cc → c.maxLocals = maxL → meth.sig.returnType = ret → s.vm.findClass y.cls = some m.cls → meth.locks = false → (∀ w ∈ wA, w.before av.toArray s = true) → lv_has ls maxL (lv_args 0 av) → W p l e rm s m av.toArray below meth c s.heap [] 0 0 (MQ below Qc av.toArray s 0 0 free) (F0 m 0 ls [])) : Met l y (Cond.code y cc maxL ret :: wA) rm (va_Pc av (fun _ => True)) Qc 0 0 free := by
  refine Met.ofW (cc := cc) (maxL := maxL) (ret := ret) hy rfl ?_
  intro p e s m args below meth c s₁ B hml hv
  obtain ⟨rfl, -⟩ := hv
  rw [lg_entry_eq]
  have hts := atoms_spec (ws := Cond.code y cc maxL ret :: wA) B.pre
  exact body p e s m below meth c _ B.exec B.bytes hml B.returns (findClass_of_methodNamed B.named) B.notSynchronized (fun w h => hts w (List.mem_cons_of_mem _ h)) (lv_entry av hlen)
/-- a method's end, writing -/
theorem mw_i {post : Int32 → va_W → Prop} {w w' : va_W} {v : Int32} (hexec : p.tables.exec = Jvm.exec) (hb : c.code = cc) (hr : meth.sig.returnType = some .int) (hlocks : meth.locks = false) (hp : post v w') (hP : va_P D nCl w' H) (hK : va_K D nCl tys s) (hD : va_D (va_A w s.heap.size) w') (hS : va_S (va_A w s.heap.size) s.heap H locs) (hdg : decode cc pc = .ok (.ireturn, 1)) : W p l e R s m args below meth c H locs cells slots (MQ below (va_Qi post (mQW D tys w s.heap.size) (va_A w s.heap.size)) args s cells slots (va_A w s.heap.size)) (F0 m pc ls [.int v]) :=
  W.iret hexec hb hr (fun t ht hW => ⟨⟨v, w', rfl, hp, by rw [ht]; exact hP, va_K.moved hW.alike hK, hD⟩, hS.F ht⟩) hS.2.2 hdg hlocks
theorem mw_z {post : Int32 → va_W → Prop} {w w' : va_W} {v : Int32} (hexec : p.tables.exec = Jvm.exec) (hb : c.code = cc) (hr : meth.sig.returnType = some .boolean) (hlocks : meth.locks = false) (hn : narrow .boolean (.int v) = .int v) (hp : post v w') (hP : va_P D nCl w' H) (hK : va_K D nCl tys s) (hD : va_D (va_A w s.heap.size) w') (hS : va_S (va_A w s.heap.size) s.heap H locs) (hdg : decode cc pc = .ok (.ireturn, 1)) : W p l e R s m args below meth c H locs cells slots (MQ below (va_Qi post (mQW D tys w s.heap.size) (va_A w s.heap.size)) args s cells slots (va_A w s.heap.size)) (F0 m pc ls [.int v]) :=
  W.zret hexec hb hr hn (fun t ht hW => ⟨⟨v, w', rfl, hp, by rw [ht]; exact hP, va_K.moved hW.alike hK, hD⟩, hS.F ht⟩) hS.2.2 hdg hlocks
theorem mw_v {post : va_W → Prop} {w w' : va_W} (hexec : p.tables.exec = Jvm.exec) (hb : c.code = cc) (hr : meth.sig.returnType = none) (hlocks : meth.locks = false) (hp : post w') (hP : va_P D nCl w' H) (hK : va_K D nCl tys s) (hD : va_D (va_A w s.heap.size) w') (hS : va_S (va_A w s.heap.size) s.heap H locs) (hdg : decode cc pc = .ok (.return_, 1)) : W p l e R s m args below meth c H locs cells slots (MQ below (va_Qv post (mQW D tys w s.heap.size) (va_A w s.heap.size)) args s cells slots (va_A w s.heap.size)) (F0 m pc ls []) :=
  W.vret hexec hb hr (fun t ht hW => ⟨⟨w', rfl, hp, by rw [ht]; exact hP, va_K.moved hW.alike hK, hD⟩, hS.F ht⟩) hS.2.2 hdg hlocks
/-- a method's end, reading or pure -/
theorem mr_i {post : Int32 → Prop} {v : Int32} (hexec : p.tables.exec = Jvm.exec) (hb : c.code = cc) (hr : meth.sig.returnType = some .int) (hlocks : meth.locks = false) (hp : post v) (hdg : decode cc pc = .ok (.ireturn, 1)) : W p l e R s m args below meth c s.heap [] 0 0 (MQ below (vp_Si post) args s 0 0 (fun _ => False)) (F0 m pc ls [.int v]) :=
  W.iret hexec hb hr (fun t ht hW => ⟨v, rfl, hp, ht⟩) (fun q h => by cases h) hdg hlocks
theorem mr_z {post : Int32 → Prop} {v : Int32} (hexec : p.tables.exec = Jvm.exec) (hb : c.code = cc) (hr : meth.sig.returnType = some .boolean) (hlocks : meth.locks = false) (hn : narrow .boolean (.int v) = .int v) (hp : post v) (hdg : decode cc pc = .ok (.ireturn, 1)) : W p l e R s m args below meth c s.heap [] 0 0 (MQ below (vp_Si post) args s 0 0 (fun _ => False)) (F0 m pc ls [.int v]) :=
  W.zret hexec hb hr hn (fun t ht hW => ⟨v, rfl, hp, ht⟩) (fun q h => by cases h) hdg hlocks
theorem mr_l {post : Int64 → Prop} {v : Int64} (hexec : p.tables.exec = Jvm.exec) (hb : c.code = cc) (hr : meth.sig.returnType = some .long) (hlocks : meth.locks = false) (hp : post v) (hdg : decode cc pc = .ok (.lreturn, 1)) : W p l e R s m args below meth c s.heap [] 0 0 (MQ below (vp_Sl post) args s 0 0 (fun _ => False)) (F0 m pc ls [.long v]) :=
  W.lret hexec hb hr (fun t ht hW => ⟨v, rfl, hp, ht⟩) (fun q h => by cases h) hdg hlocks
/-- what a call wants of the words -/
theorem mcV {y : MethodName} {bytes : ByteArray} {maxL mc ms index : Nat} {ret : Option FieldType} {rm : Room} {own C : String} (n : Nat) (hw : ∀ w ∈ wA, w.before args s = true) (h1 : Cond.code y bytes maxL ret ∈ wA) (h2 : Cond.methodLink own index y ∈ wA) (h3 : Cond.instanceMethod y ∈ wA) (h4 : Cond.selects C y y ∈ wA) (h5 : Cond.initialized y.cls ∈ wA) (hrc : rm.cells = mc) (hrs : rm.slots = ms) (hd : y.cls ≠ "java/lang/invoke/MethodHandle" ∧ y.cls ≠ "java/lang/invoke/VarHandle" ∧ (parseMethodDescriptor y.desc).map (fun d => d.parameters.length) = some n) (hR : rm.frames + 1 ≤ R.frames ∧ 8 + (maxL + 11) + rm.locals ≤ R.locals) : CallW R s args own C index y bytes maxL ret (Cond.code y bytes maxL ret :: wA) rm mc ms n :=
  ⟨callB_of n hw (wA_goodIn0 h1) rfl hrc hrs (hw _ h5) (hw _ h2) hd hR, hw _ h3, hw _ h4⟩
theorem mcS {y : MethodName} {bytes : ByteArray} {maxL mc ms index : Nat} {ret : Option FieldType} {rm : Room} {own : String} (n : Nat) (hw : ∀ w ∈ wA, w.before args s = true) (h1 : Cond.code y bytes maxL ret ∈ wA) (h2 : Cond.methodLink own index y ∈ wA) (h3 : Cond.static y ∈ wA) (h5 : Cond.initialized y.cls ∈ wA) (hrc : rm.cells = mc) (hrs : rm.slots = ms) (hd : y.cls ≠ "java/lang/invoke/MethodHandle" ∧ y.cls ≠ "java/lang/invoke/VarHandle" ∧ (parseMethodDescriptor y.desc).map (fun d => d.parameters.length) = some n) (hR : rm.frames + 1 ≤ R.frames ∧ 8 + (maxL + 11) + rm.locals ≤ R.locals) : CallB R s args own index y bytes maxL ret (Cond.code y bytes maxL ret :: wA) rm mc ms n ∧ (Cond.static y).before args s = true :=
  ⟨callB_of n hw (wA_goodIn0 h1) rfl hrc hrs (hw _ h5) (hw _ h2) hd hR, hw _ h3⟩
theorem mcI {y : MethodName} {bytes : ByteArray} {maxL mc ms index : Nat} {rm : Room} {own : String} (n : Nat) (hw : ∀ w ∈ wA, w.before args s = true) (h1 : Cond.code y bytes maxL none ∈ wA) (h2 : Cond.methodLink own index y ∈ wA) (h3 : Cond.instanceMethod y ∈ wA) (h5 : Cond.initialized y.cls ∈ wA) (hrc : rm.cells = mc) (hrs : rm.slots = ms) (hy : y.name = "<init>") (hd : y.cls ≠ "java/lang/invoke/MethodHandle" ∧ y.cls ≠ "java/lang/invoke/VarHandle" ∧ (parseMethodDescriptor y.desc).map (fun d => d.parameters.length) = some n) (hR : rm.frames + 1 ≤ R.frames ∧ 8 + (maxL + 11) + rm.locals ≤ R.locals) : CallB R s args own index y bytes maxL none (Cond.code y bytes maxL none :: wA) rm mc ms n ∧ y.name = "<init>" ∧ (Cond.instanceMethod y).before args s = true :=
  ⟨callB_of n hw (wA_goodIn0 h1) rfl hrc hrs (hw _ h5) (hw _ h2) hd hR, hy, hw _ h3⟩
theorem mcIN {y : MethodName} {bytes : ByteArray} {maxL mc ms index : Nat} {rm : Room} {own host : String} (n : Nat) (hw : ∀ w ∈ wA, w.before args s = true) (hn : mN s) (h1 : Cond.code y bytes maxL none ∈ wA) (h2 : Cond.methodLinkNest own index y host ∈ nA) (h3 : Cond.instanceMethod y ∈ wA) (h5 : Cond.initialized y.cls ∈ wA) (hrc : rm.cells = mc) (hrs : rm.slots = ms) (hy : y.name = "<init>") (hd : y.cls ≠ "java/lang/invoke/MethodHandle" ∧ y.cls ≠ "java/lang/invoke/VarHandle" ∧ (parseMethodDescriptor y.desc).map (fun d => d.parameters.length) = some n) (hR : rm.frames + 1 ≤ R.frames ∧ 8 + (maxL + 11) + rm.locals ≤ R.locals) : va_CN R s args own index y host bytes maxL none (Cond.code y bytes maxL none :: wA) rm mc ms n ∧ y.name = "<init>" ∧ (Cond.instanceMethod y).before args s = true :=
  ⟨va_cnB n hw (wA_goodIn0 h1) rfl hrc hrs (hn _ h2) (hw _ h5) hd hR, hy, hw _ h3⟩
/-- what a call wants of the world -/
theorem mPW_blind {w : va_W} {sz : Nat} {av : List Value} : FrameBlind (va_Pc av (mPW D tys w sz)) := fun a U g mk q => by
  obtain ⟨q0, q1, qP, qK, qD, qN⟩ := q
  exact ⟨q0, q1, qP, va_K.moved (u := U) (U := U.calling g mk a) (Vm.Alike.refl U.vm) qK, qD, qN.call⟩
theorem mPR_blind {w : va_W} {av : List Value} : FrameBlind (va_Pc av (mPR D tys w)) := fun a U g mk q => by
  obtain ⟨q0, qP, qK, qN⟩ := q
  exact ⟨q0, qP, va_K.moved (u := U) (U := U.calling g mk a) (Vm.Alike.refl U.vm) qK, qN.call⟩
theorem mpW_S {av : List Value} (hP : va_P D nCl ((pre ++ wc) ++ po) H) (hD : va_D A ((pre ++ wc) ++ po)) (hK : va_K D nCl tys s) (hn : mN s) : PreS s H (va_Pc av (mPW D tys wc H.size)) av :=
  ⟨mPW_blind, fun U hU hW => ⟨rfl, by rw [hU], by rw [hU]; exact mB_P hP, va_K.moved hW.alike hK, (mB_D hD).weaken (fun _ _ _ _ => trivial), hn.warm hW⟩⟩
theorem mpW_V {b q0 ci : Nat} {q : vw_C} {fs : List Value} {As : List Value} (hP : va_P D nCl ((pre ++ wc) ++ po) H) (hD : va_D A ((pre ++ wc) ++ po)) (hK : va_K D nCl tys s) (hn : mN s) (hc : nCl[ci]? = some q) (he : wc[q0]? = some (b, .inr (ci, fs))) : PreV s H q.1 b (va_Pc (.ref b :: As) (mPW D tys wc H.size)) As :=
  ⟨mPW_blind, va_recv hK (mB_P hP) hc he, fun U hU hW => ⟨rfl, by rw [hU], by rw [hU]; exact mB_P hP, va_K.moved hW.alike hK, (mB_D hD).weaken (fun _ _ _ _ => trivial), hn.warm hW⟩⟩
theorem mpR_V {b q0 ci : Nat} {q : vw_C} {fs : List Value} {As : List Value} (hP : va_P D nCl wc H) (hK : va_K D nCl tys s) (hn : mN s) (hc : nCl[ci]? = some q) (he : wc[q0]? = some (b, .inr (ci, fs))) : PreV s H q.1 b (va_Pc (.ref b :: As) (mPR D tys wc)) As :=
  ⟨mPR_blind, va_recv hK hP hc he, fun U hU hW => ⟨rfl, by rw [hU]; exact hP, va_K.moved hW.alike hK, hn.warm hW⟩⟩
theorem mp_S {av : List Value} : PreS s H (va_Pc av (fun _ => True)) av := ⟨fun _ _ _ _ q => ⟨q.1, trivial⟩, fun _ _ _ => ⟨rfl, trivial⟩⟩
/-- a writing call, any way in: the callee's block stands between pre and po -/
theorem mC_i {post : Int32 → va_W → Prop} {tyc : List (ClassId × FieldType)} {a : Array Value} (hr : va_Run p l e R s m args below meth c H locs cells slots 0 0 (F0 m pc ls st0) rest (va_Qi post (mQW D tyc wc H.size) (va_A wc H.size) a) (va_A wc H.size)) (hP : va_P D nCl ((pre ++ wc) ++ po) H) (hD : va_D A ((pre ++ wc) ++ po)) (hS : va_S A H0 H locs) (hA : ∀ q, H0.size ≤ q → A q)
    (kk : ∀ (r : Int32) (w' : va_W) (H1 : Heap) (locs1 : List Loc), post r w' → va_P D nCl ((pre ++ w') ++ po) H1 → va_D A ((pre ++ w') ++ po) → va_S A H0 H1 locs1 → W p l e R s m args below meth c H1 locs1 cells slots Q (F0 m (pc + 3) ls (.int r :: rest))) : W p l e R s m args below meth c H locs cells slots Q (F0 m pc ls st0) := by
  have hF := mB_free hD hS hA
  refine va_calli hr hS (fun q _ h => hF q h) hF (fun r w' t H1 locs1 ht hvm hp hB hz hk hS1 => ?_)
  obtain ⟨hP1, hK1, hD1⟩ := hB
  rw [ht] at hP1
  obtain ⟨hP2, hD2⟩ := mB_frame hP hD hk hF hP1 hD1
  exact kk r w' H1 locs1 hp hP2 hD2 hS1
theorem mC_v {post : va_W → Prop} {tyc : List (ClassId × FieldType)} {a : Array Value} (hr : va_Run p l e R s m args below meth c H locs cells slots 0 0 (F0 m pc ls st0) rest (va_Qv post (mQW D tyc wc H.size) (va_A wc H.size) a) (va_A wc H.size)) (hP : va_P D nCl ((pre ++ wc) ++ po) H) (hD : va_D A ((pre ++ wc) ++ po)) (hS : va_S A H0 H locs) (hA : ∀ q, H0.size ≤ q → A q)
    (kk : ∀ (w' : va_W) (H1 : Heap) (locs1 : List Loc), post w' → va_P D nCl ((pre ++ w') ++ po) H1 → va_D A ((pre ++ w') ++ po) → va_S A H0 H1 locs1 → W p l e R s m args below meth c H1 locs1 cells slots Q (F0 m (pc + 3) ls rest)) : W p l e R s m args below meth c H locs cells slots Q (F0 m pc ls st0) := by
  have hF := mB_free hD hS hA
  refine va_callv hr hS (fun q _ h => hF q h) hF (fun w' t H1 locs1 ht hvm hp hB hz hk hS1 => ?_)
  obtain ⟨hP1, hK1, hD1⟩ := hB
  rw [ht] at hP1
  obtain ⟨hP2, hD2⟩ := mB_frame hP hD hk hF hP1 hD1
  exact kk w' H1 locs1 hp hP2 hD2 hS1
end MB2
end
section
/-! States: ints by number, rows of ints by number, rows of longs by number. -/
abbrev zS : Type := (Nat → Int32) × (Nat → Nat → Int32) × (Nat → Nat → Int64)
def zI (σ : zS) (k : Nat) (v : Int32) : zS := (va_up σ.1 k v, σ.2)
def zF (σ : zS) (k : Nat) (f : Nat → Int32) : zS := (σ.1, va_up σ.2.1 k f, σ.2.2)
def zG (σ : zS) (k : Nat) (f : Nat → Int64) : zS := (σ.1, σ.2.1, va_up σ.2.2 k f)
def zA (σ : zS) (k i : Nat) (v : Int32) : zS := zF σ k (upd (σ.2.1 k) i v)
def zL (σ : zS) (k i : Nat) (v : Int64) : zS := zG σ k (vp_updL (σ.2.2 k) i v)
def zT (σ : zS) (v : Int64) : zS := zG σ 2 (fun _ => v)
/-- a row filled up to n -/
def zfl (f : Nat → Int32) (n : Nat) (v : Int32) : Nat → Int32 := fun j => if j < n then v else f j
/-- a named value -/
def znm {α : Type} (e : α) (P : α → Prop) : Prop := ∀ x, x = e → P x
theorem znm_i {α : Type} {e : α} {P : α → Prop} (h : P e) : znm e P := fun _ hx => hx ▸ h
/-- loops, by number of rounds -/
def zlp {α : Type} (B : (α → Prop) → α → Prop) : Nat → α → Prop
  | 0, _ => False
  | n + 1, s => B (zlp B n) s
def zLP {α : Type} (B : (α → Prop) → α → Prop) (s : α) : Prop := ∃ n, zlp B n s
theorem zLP_walk {α : Type} {B : (α → Prop) → α → Prop} {Wd : α → Prop} (hB : ∀ (R : α → Prop) (s : α), (∀ s', R s' → Wd s') → B R s → Wd s) : ∀ s, zLP B s → Wd s := by
  intro s h
  obtain ⟨n, h⟩ := h
  induction n generalizing s with
  | zero => exact h.elim
  | succ n ih => exact hB (zlp B n) s (fun s' h' => ih s' h') h
theorem zLP_rule {α : Type} {B : (α → Prop) → α → Prop} (I : α → Prop) (μ : α → Nat) (hB : ∀ s, I s → ∀ R : α → Prop, (∀ s', I s' → μ s' < μ s → R s') → B R s) : ∀ s, I s → zLP B s := by
  have key : ∀ n s, I s → μ s < n → zlp B n s := by
    intro n
    induction n with
    | zero => intro s _ h; omega
    | succ n ih => intro s hs h; exact hB s hs _ (fun s' hs' hlt => ih s' hs' (by omega))
  exact fun s hs => ⟨μ s + 1, key _ s hs (by omega)⟩
theorem zin {i : Int32} {n : Nat} (h : vp_in i n) : i.toNatClampNeg < n := Nat.lt_of_not_le (fun h2 => h (Or.inr h2))
abbrev zQi (w : zS → va_W) (post : Int32 → zS → Prop) : Int32 → va_W → Prop := fun r v => ∃ σ, v = w σ ∧ post r σ
abbrev zQl (w : zS → va_W) (post : Int64 → zS → Prop) : Int64 → va_W → Prop := fun r v => ∃ σ, v = w σ ∧ post r σ
abbrev zQv (w : zS → va_W) (post : zS → Prop) : va_W → Prop := fun v => ∃ σ, v = w σ ∧ post σ
abbrev mWl (l : Launch) (y : MethodName) (cc : ByteArray) (maxL : Nat) (rm : Room) (D : va_G) (tys : List (ClassId × FieldType)) (av : List Value) (w : va_W) (post : Int64 → va_W → Prop) : Prop := ∀ sz : Nat, Met l y (Cond.code y cc maxL (some .long) :: wA) rm (va_Pc av (mPW D tys w sz)) (va_Ql post (mQW D tys w sz) (va_A w sz)) 0 0 (va_A w sz)
section ZB
variable {p : Program} {l : Launch} {e : Env} {R : Room} {s : State} {m : MethodId} {args : Array Value} {below : List Frame} {meth : Method} {c : Code} {H : Heap} {locs : List Loc} {cells slots : Nat} {Q : State → Prop}
variable {cc : ByteArray} {pc : Nat} {ls : Array Slot} {rest st0 : List Value} {D : va_G} {tys : List (ClassId × FieldType)} {A : Nat → Prop} {H0 : Heap}
theorem mw_l {post : Int64 → va_W → Prop} {w w' : va_W} {v : Int64} (hexec : p.tables.exec = Jvm.exec) (hb : c.code = cc) (hr : meth.sig.returnType = some .long) (hlocks : meth.locks = false) (hp : post v w') (hP : va_P D nCl w' H) (hK : va_K D nCl tys s) (hD : va_D (va_A w s.heap.size) w') (hS : va_S (va_A w s.heap.size) s.heap H locs) (hdg : decode cc pc = .ok (.lreturn, 1)) : W p l e R s m args below meth c H locs cells slots (MQ below (va_Ql post (mQW D tys w s.heap.size) (va_A w s.heap.size)) args s cells slots (va_A w s.heap.size)) (F0 m pc ls [.long v]) :=
  W.lret hexec hb hr (fun t ht hW => ⟨⟨v, w', rfl, hp, by rw [ht]; exact hP, va_K.moved hW.alike hK, hD⟩, hS.F ht⟩) hS.2.2 hdg hlocks
theorem zfree {w : va_W} (hD : va_D A w) (hS : va_S A H0 H locs) (hA : ∀ q, H0.size ≤ q → A q) : ∀ q, va_A w H.size q → A q := by
  intro q h
  rcases h with ⟨k, e, h⟩ | h
  · exact hD.2 k (q, e) h
  · exact hA q (Nat.le_trans hS.1 h)
theorem zp_V {w : va_W} {b q0 ci : Nat} {q : vw_C} {fs : List Value} {As : List Value} (hP : va_P D nCl w H) (hD : va_D A w) (hK : va_K D nCl tys s) (hn : mN s) (hc : nCl[ci]? = some q) (he : w[q0]? = some (b, .inr (ci, fs))) : PreV s H q.1 b (va_Pc (.ref b :: As) (mPW D tys w H.size)) As :=
  ⟨mPW_blind, va_recv hK hP hc he, fun U hU hW => ⟨rfl, by rw [hU], by rw [hU]; exact hP, va_K.moved hW.alike hK, hD.weaken (fun _ _ _ _ => trivial), hn.warm hW⟩⟩
theorem znew {w : zS → va_W} {σ1 σ2 : zS} {v : va_W} (e : σ1 = σ2) (q : v = w σ2) (hP : va_P D nCl v H) (hD : va_D A v) : va_P D nCl (w σ1) H ∧ va_D A (w σ1) := by
  rw [e, ← q]
  exact ⟨hP, hD⟩
theorem zC_i {w : zS → va_W} {σ : zS} {post : Int32 → zS → Prop} {a : Array Value} (hr : va_Run p l e R s m args below meth c H locs cells slots 0 0 (F0 m pc ls st0) rest (va_Qi (zQi w post) (mQW D tys (w σ) H.size) (va_A (w σ) H.size) a) (va_A (w σ) H.size)) (hD : va_D A (w σ)) (hS : va_S A H0 H locs) (hA : ∀ q, H0.size ≤ q → A q)
    (kk : ∀ (r : Int32) (σ1 : zS) (H1 : Heap) (locs1 : List Loc), post r σ1 → va_P D nCl (w σ1) H1 → va_D A (w σ1) → va_S A H0 H1 locs1 → W p l e R s m args below meth c H1 locs1 cells slots Q (F0 m (pc + 3) ls (.int r :: rest))) : W p l e R s m args below meth c H locs cells slots Q (F0 m pc ls st0) := by
  have hF := zfree hD hS hA
  refine va_calli hr hS (fun q _ h => hF q h) hF (fun r w' t H1 locs1 ht hvm hp hB hz hk hS1 => ?_)
  obtain ⟨hP1, hK1, hD1⟩ := hB
  obtain ⟨σ1, rfl, hp⟩ := hp
  rw [ht] at hP1
  exact kk r σ1 H1 locs1 hp hP1 (hD1.weaken (fun _ q _ h => hF q.1 h)) hS1
theorem zC_l {w : zS → va_W} {σ : zS} {post : Int64 → zS → Prop} {a : Array Value} (hr : va_Run p l e R s m args below meth c H locs cells slots 0 0 (F0 m pc ls st0) rest (va_Ql (zQl w post) (mQW D tys (w σ) H.size) (va_A (w σ) H.size) a) (va_A (w σ) H.size)) (hD : va_D A (w σ)) (hS : va_S A H0 H locs) (hA : ∀ q, H0.size ≤ q → A q)
    (kk : ∀ (r : Int64) (σ1 : zS) (H1 : Heap) (locs1 : List Loc), post r σ1 → va_P D nCl (w σ1) H1 → va_D A (w σ1) → va_S A H0 H1 locs1 → W p l e R s m args below meth c H1 locs1 cells slots Q (F0 m (pc + 3) ls (.long r :: rest))) : W p l e R s m args below meth c H locs cells slots Q (F0 m pc ls st0) := by
  have hF := zfree hD hS hA
  refine va_calll hr hS (fun q _ h => hF q h) hF (fun r w' t H1 locs1 ht hvm hp hB hz hk hS1 => ?_)
  obtain ⟨hP1, hK1, hD1⟩ := hB
  obtain ⟨σ1, rfl, hp⟩ := hp
  rw [ht] at hP1
  exact kk r σ1 H1 locs1 hp hP1 (hD1.weaken (fun _ q _ h => hF q.1 h)) hS1
theorem zC_v {w : zS → va_W} {σ : zS} {post : zS → Prop} {a : Array Value} (hr : va_Run p l e R s m args below meth c H locs cells slots 0 0 (F0 m pc ls st0) rest (va_Qv (zQv w post) (mQW D tys (w σ) H.size) (va_A (w σ) H.size) a) (va_A (w σ) H.size)) (hD : va_D A (w σ)) (hS : va_S A H0 H locs) (hA : ∀ q, H0.size ≤ q → A q)
    (kk : ∀ (σ1 : zS) (H1 : Heap) (locs1 : List Loc), post σ1 → va_P D nCl (w σ1) H1 → va_D A (w σ1) → va_S A H0 H1 locs1 → W p l e R s m args below meth c H1 locs1 cells slots Q (F0 m (pc + 3) ls rest)) : W p l e R s m args below meth c H locs cells slots Q (F0 m pc ls st0) := by
  have hF := zfree hD hS hA
  refine va_callv hr hS (fun q _ h => hF q h) hF (fun w' t H1 locs1 ht hvm hp hB hz hk hS1 => ?_)
  obtain ⟨hP1, hK1, hD1⟩ := hB
  obtain ⟨σ1, rfl, hp⟩ := hp
  rw [ht] at hP1
  exact kk σ1 H1 locs1 hp hP1 (hD1.weaken (fun _ q _ h => hF q.1 h)) hS1
end ZB
abbrev ztX (tc : Nat → ClassId) : List (ClassId × FieldType) := [(tc 0, .object "HandOffRecorder$Call"), (tc 1, .int), (tc 2, .int), (tc 3, .long), (tc 4, .int), (tc 5, .int), (tc 6, .int)]
def zcf (σ : zS) : Nat → va_E := fun i => .inr (0, [.int (σ.2.1 5 i), .int (σ.2.1 6 i), .int (σ.2.1 7 i), .int (σ.2.1 8 i), .int (σ.2.1 9 i)])
def zX (a : Nat → Nat) (tc : Nat → ClassId) (σ : zS) : va_W := [(a 0, .inr (4, [.ref (a 1), .ref (a 2), .ref (a 3), .ref (a 4), .ref (a 5), .int (σ.1 2), .int (σ.1 3), .int (σ.1 4), .int (σ.1 5), .int (σ.1 6)])),
  (a 1, .inr (3, [.int (σ.1 0), .int (σ.1 1)])),
  (a 2, .inl (tc 0, 8, .inr (.inr (.inr (.inr (fun i => some (a (11 + i)))))))),
  (a 3, .inl (tc 1, 3, .inl (σ.2.1 0))),
  (a 4, .inl (tc 2, 8, .inl (σ.2.1 1))),
  (a 5, .inr (1, [.ref (a 6), .ref (a 9), .ref (a 10), .int (σ.1 7)])),
  (a 6, .inr (2, [.ref (a 7), .ref (a 8), .int (σ.1 8)])),
  (a 7, .inl (tc 3, 680, .inr (.inl (σ.2.2 0)))),
  (a 8, .inl (tc 4, 1024, .inl (σ.2.1 4))),
  (a 9, .inl (tc 5, 3, .inl (σ.2.1 2))),
  (a 10, .inl (tc 6, 3, .inl (σ.2.1 3)))] ++ rp 8 (fun i => a (11 + i)) (zcf σ)
section ZX
variable {a : Nat → Nat} {tc : Nat → ClassId} {σ : zS}
theorem xc_0 : (zX a tc σ)[0]? = some (a 0, .inr (4, [.ref (a 1), .ref (a 2), .ref (a 3), .ref (a 4), .ref (a 5), .int (σ.1 2), .int (σ.1 3), .int (σ.1 4), .int (σ.1 5), .int (σ.1 6)])) := rfl
theorem xc_1 : (zX a tc σ)[1]? = some (a 1, .inr (3, [.int (σ.1 0), .int (σ.1 1)])) := rfl
theorem xc_2 : (zX a tc σ)[2]? = some (a 2, .inl (tc 0, 8, .inr (.inr (.inr (.inr (fun i => some (a (11 + i)))))))) := rfl
theorem xc_3 : (zX a tc σ)[3]? = some (a 3, .inl (tc 1, 3, .inl (σ.2.1 0))) := rfl
theorem xc_4 : (zX a tc σ)[4]? = some (a 4, .inl (tc 2, 8, .inl (σ.2.1 1))) := rfl
theorem xc_5 : (zX a tc σ)[5]? = some (a 5, .inr (1, [.ref (a 6), .ref (a 9), .ref (a 10), .int (σ.1 7)])) := rfl
theorem xc_6 : (zX a tc σ)[6]? = some (a 6, .inr (2, [.ref (a 7), .ref (a 8), .int (σ.1 8)])) := rfl
theorem xc_7 : (zX a tc σ)[7]? = some (a 7, .inl (tc 3, 680, .inr (.inl (σ.2.2 0)))) := rfl
theorem xc_8 : (zX a tc σ)[8]? = some (a 8, .inl (tc 4, 1024, .inl (σ.2.1 4))) := rfl
theorem xc_9 : (zX a tc σ)[9]? = some (a 9, .inl (tc 5, 3, .inl (σ.2.1 2))) := rfl
theorem xc_10 : (zX a tc σ)[10]? = some (a 10, .inl (tc 6, 3, .inl (σ.2.1 3))) := rfl
theorem xp_0_5 {v : Int32} : (zX a tc σ).set 0 (a 0, .inr (4, [.ref (a 1), .ref (a 2), .ref (a 3), .ref (a 4), .ref (a 5), .int v, .int (σ.1 3), .int (σ.1 4), .int (σ.1 5), .int (σ.1 6)])) = zX a tc (zI σ 2 v) := rfl
theorem xp_0_6 {v : Int32} : (zX a tc σ).set 0 (a 0, .inr (4, [.ref (a 1), .ref (a 2), .ref (a 3), .ref (a 4), .ref (a 5), .int (σ.1 2), .int v, .int (σ.1 4), .int (σ.1 5), .int (σ.1 6)])) = zX a tc (zI σ 3 v) := rfl
theorem xp_0_7 {v : Int32} : (zX a tc σ).set 0 (a 0, .inr (4, [.ref (a 1), .ref (a 2), .ref (a 3), .ref (a 4), .ref (a 5), .int (σ.1 2), .int (σ.1 3), .int v, .int (σ.1 5), .int (σ.1 6)])) = zX a tc (zI σ 4 v) := rfl
theorem xp_0_8 {v : Int32} : (zX a tc σ).set 0 (a 0, .inr (4, [.ref (a 1), .ref (a 2), .ref (a 3), .ref (a 4), .ref (a 5), .int (σ.1 2), .int (σ.1 3), .int (σ.1 4), .int v, .int (σ.1 6)])) = zX a tc (zI σ 5 v) := rfl
theorem xp_0_9 {v : Int32} : (zX a tc σ).set 0 (a 0, .inr (4, [.ref (a 1), .ref (a 2), .ref (a 3), .ref (a 4), .ref (a 5), .int (σ.1 2), .int (σ.1 3), .int (σ.1 4), .int (σ.1 5), .int v])) = zX a tc (zI σ 6 v) := rfl
theorem xp_1_0 {v : Int32} : (zX a tc σ).set 1 (a 1, .inr (3, [.int v, .int (σ.1 1)])) = zX a tc (zI σ 0 v) := rfl
theorem xp_1_1 {v : Int32} : (zX a tc σ).set 1 (a 1, .inr (3, [.int (σ.1 0), .int v])) = zX a tc (zI σ 1 v) := rfl
theorem xa_3 {i : Nat} {v : Int32} : (zX a tc σ).set 3 (a 3, .inl (tc 1, 3, .inl (upd (σ.2.1 0) i v))) = zX a tc (zA σ 0 i v) := rfl
theorem xf_3 {f : Nat → Int32} : (zX a tc σ).set 3 (a 3, .inl (tc 1, 3, .inl (f))) = zX a tc (zF σ 0 f) := rfl
theorem xa_4 {i : Nat} {v : Int32} : (zX a tc σ).set 4 (a 4, .inl (tc 2, 8, .inl (upd (σ.2.1 1) i v))) = zX a tc (zA σ 1 i v) := rfl
theorem xf_4 {f : Nat → Int32} : (zX a tc σ).set 4 (a 4, .inl (tc 2, 8, .inl (f))) = zX a tc (zF σ 1 f) := rfl
theorem xp_5_3 {v : Int32} : (zX a tc σ).set 5 (a 5, .inr (1, [.ref (a 6), .ref (a 9), .ref (a 10), .int v])) = zX a tc (zI σ 7 v) := rfl
theorem xp_6_2 {v : Int32} : (zX a tc σ).set 6 (a 6, .inr (2, [.ref (a 7), .ref (a 8), .int v])) = zX a tc (zI σ 8 v) := rfl
theorem xa_7 {i : Nat} {v : Int64} : (zX a tc σ).set 7 (a 7, .inl (tc 3, 680, .inr (.inl (vp_updL (σ.2.2 0) i v)))) = zX a tc (zL σ 0 i v) := rfl
theorem xa_8 {i : Nat} {v : Int32} : (zX a tc σ).set 8 (a 8, .inl (tc 4, 1024, .inl (upd (σ.2.1 4) i v))) = zX a tc (zA σ 4 i v) := rfl
theorem xf_8 {f : Nat → Int32} : (zX a tc σ).set 8 (a 8, .inl (tc 4, 1024, .inl (f))) = zX a tc (zF σ 4 f) := rfl
theorem xa_9 {i : Nat} {v : Int32} : (zX a tc σ).set 9 (a 9, .inl (tc 5, 3, .inl (upd (σ.2.1 2) i v))) = zX a tc (zA σ 2 i v) := rfl
theorem xf_9 {f : Nat → Int32} : (zX a tc σ).set 9 (a 9, .inl (tc 5, 3, .inl (f))) = zX a tc (zF σ 2 f) := rfl
theorem xa_10 {i : Nat} {v : Int32} : (zX a tc σ).set 10 (a 10, .inl (tc 6, 3, .inl (upd (σ.2.1 3) i v))) = zX a tc (zA σ 3 i v) := rfl
theorem xf_10 {f : Nat → Int32} : (zX a tc σ).set 10 (a 10, .inl (tc 6, 3, .inl (f))) = zX a tc (zF σ 3 f) := rfl
theorem xcC {j : Nat} (hj : j < 8) : (zX a tc σ)[11 + j]? = some (a (11 + j), .inr (0, [.int (σ.2.1 5 j), .int (σ.2.1 6 j), .int (σ.2.1 7 j), .int (σ.2.1 8 j), .int (σ.2.1 9 j)])) := rp_get hj
theorem xpC_0 {j : Nat} (hj : j < 8) {v : Int32} : (zX a tc σ).set (11 + j) (a (11 + j), .inr (0, [.int v, .int (σ.2.1 6 j), .int (σ.2.1 7 j), .int (σ.2.1 8 j), .int (σ.2.1 9 j)])) = zX a tc (zA σ 5 j v) := by
  refine (rp_set (ca := fun i => a (11 + i)) (cf := zcf σ) hj).trans ?_
  have : va_up (zcf σ) j (.inr (0, [.int v, .int (σ.2.1 6 j), .int (σ.2.1 7 j), .int (σ.2.1 8 j), .int (σ.2.1 9 j)])) = zcf (zA σ 5 j v) := by
    funext i
    by_cases hi : i = j
    · subst hi; simp [va_up, zcf, zA, zF, upd]
    · simp [va_up, zcf, zA, zF, upd, hi]
  rw [this]
  rfl
theorem xpC_1 {j : Nat} (hj : j < 8) {v : Int32} : (zX a tc σ).set (11 + j) (a (11 + j), .inr (0, [.int (σ.2.1 5 j), .int v, .int (σ.2.1 7 j), .int (σ.2.1 8 j), .int (σ.2.1 9 j)])) = zX a tc (zA σ 6 j v) := by
  refine (rp_set (ca := fun i => a (11 + i)) (cf := zcf σ) hj).trans ?_
  have : va_up (zcf σ) j (.inr (0, [.int (σ.2.1 5 j), .int v, .int (σ.2.1 7 j), .int (σ.2.1 8 j), .int (σ.2.1 9 j)])) = zcf (zA σ 6 j v) := by
    funext i
    by_cases hi : i = j
    · subst hi; simp [va_up, zcf, zA, zF, upd]
    · simp [va_up, zcf, zA, zF, upd, hi]
  rw [this]
  rfl
theorem xpC_2 {j : Nat} (hj : j < 8) {v : Int32} : (zX a tc σ).set (11 + j) (a (11 + j), .inr (0, [.int (σ.2.1 5 j), .int (σ.2.1 6 j), .int v, .int (σ.2.1 8 j), .int (σ.2.1 9 j)])) = zX a tc (zA σ 7 j v) := by
  refine (rp_set (ca := fun i => a (11 + i)) (cf := zcf σ) hj).trans ?_
  have : va_up (zcf σ) j (.inr (0, [.int (σ.2.1 5 j), .int (σ.2.1 6 j), .int v, .int (σ.2.1 8 j), .int (σ.2.1 9 j)])) = zcf (zA σ 7 j v) := by
    funext i
    by_cases hi : i = j
    · subst hi; simp [va_up, zcf, zA, zF, upd]
    · simp [va_up, zcf, zA, zF, upd, hi]
  rw [this]
  rfl
theorem xpC_3 {j : Nat} (hj : j < 8) {v : Int32} : (zX a tc σ).set (11 + j) (a (11 + j), .inr (0, [.int (σ.2.1 5 j), .int (σ.2.1 6 j), .int (σ.2.1 7 j), .int v, .int (σ.2.1 9 j)])) = zX a tc (zA σ 8 j v) := by
  refine (rp_set (ca := fun i => a (11 + i)) (cf := zcf σ) hj).trans ?_
  have : va_up (zcf σ) j (.inr (0, [.int (σ.2.1 5 j), .int (σ.2.1 6 j), .int (σ.2.1 7 j), .int v, .int (σ.2.1 9 j)])) = zcf (zA σ 8 j v) := by
    funext i
    by_cases hi : i = j
    · subst hi; simp [va_up, zcf, zA, zF, upd]
    · simp [va_up, zcf, zA, zF, upd, hi]
  rw [this]
  rfl
theorem xpC_4 {j : Nat} (hj : j < 8) {v : Int32} : (zX a tc σ).set (11 + j) (a (11 + j), .inr (0, [.int (σ.2.1 5 j), .int (σ.2.1 6 j), .int (σ.2.1 7 j), .int (σ.2.1 8 j), .int v])) = zX a tc (zA σ 9 j v) := by
  refine (rp_set (ca := fun i => a (11 + i)) (cf := zcf σ) hj).trans ?_
  have : va_up (zcf σ) j (.inr (0, [.int (σ.2.1 5 j), .int (σ.2.1 6 j), .int (σ.2.1 7 j), .int (σ.2.1 8 j), .int v])) = zcf (zA σ 9 j v) := by
    funext i
    by_cases hi : i = j
    · subst hi; simp [va_up, zcf, zA, zF, upd]
    · simp [va_up, zcf, zA, zF, upd, hi]
  rw [this]
  rfl
end ZX
abbrev ztM (tc : Nat → ClassId) : List (ClassId × FieldType) := [(tc 0, .int), (tc 1, .boolean), (tc 2, .int), (tc 3, .int), (tc 4, .int), (tc 5, .int), (tc 6, .int), (tc 7, .int), (tc 8, .int), (tc 9, .int), (tc 10, .int), (tc 11, .long), (tc 12, .long), (tc 13, .int)]
def zM (a : Nat → Nat) (tc : Nat → ClassId) (σ : zS) : va_W := [(a 0, .inr (5, [.int (σ.1 0), .int (σ.1 1), .int (σ.1 2), .int (σ.1 3), .int (σ.1 4), .ref (a 1), .ref (a 2), .ref (a 3), .ref (a 4), .ref (a 5), .ref (a 6), .ref (a 7), .int (σ.1 5), .ref (a 8), .ref (a 9), .ref (a 10), .int (σ.1 6), .ref (a 11), .long (σ.2.2 2 0), .int (σ.1 7), .ref (a 12), .ref (a 13), .ref (a 14)])),
  (a 1, .inl (tc 0, 8, .inl (σ.2.1 0))),
  (a 2, .inl (tc 1, 8, .inl (σ.2.1 1))),
  (a 3, .inl (tc 2, 8, .inl (σ.2.1 2))),
  (a 4, .inl (tc 3, 8, .inl (σ.2.1 3))),
  (a 5, .inl (tc 4, 8, .inl (σ.2.1 4))),
  (a 6, .inl (tc 5, 8, .inl (σ.2.1 5))),
  (a 7, .inl (tc 6, 8, .inl (σ.2.1 6))),
  (a 8, .inl (tc 7, 8, .inl (σ.2.1 7))),
  (a 9, .inl (tc 8, 8, .inl (σ.2.1 8))),
  (a 10, .inl (tc 9, 9, .inl (σ.2.1 9))),
  (a 11, .inl (tc 10, 8, .inl (σ.2.1 10))),
  (a 12, .inl (tc 11, 1400, .inr (.inl (σ.2.2 0)))),
  (a 13, .inl (tc 12, 3, .inr (.inl (σ.2.2 1)))),
  (a 14, .inl (tc 13, 3, .inl (σ.2.1 11)))]
section ZM
variable {a : Nat → Nat} {tc : Nat → ClassId} {σ : zS}
theorem yc_0 : (zM a tc σ)[0]? = some (a 0, .inr (5, [.int (σ.1 0), .int (σ.1 1), .int (σ.1 2), .int (σ.1 3), .int (σ.1 4), .ref (a 1), .ref (a 2), .ref (a 3), .ref (a 4), .ref (a 5), .ref (a 6), .ref (a 7), .int (σ.1 5), .ref (a 8), .ref (a 9), .ref (a 10), .int (σ.1 6), .ref (a 11), .long (σ.2.2 2 0), .int (σ.1 7), .ref (a 12), .ref (a 13), .ref (a 14)])) := rfl
theorem yc_1 : (zM a tc σ)[1]? = some (a 1, .inl (tc 0, 8, .inl (σ.2.1 0))) := rfl
theorem yc_2 : (zM a tc σ)[2]? = some (a 2, .inl (tc 1, 8, .inl (σ.2.1 1))) := rfl
theorem yc_3 : (zM a tc σ)[3]? = some (a 3, .inl (tc 2, 8, .inl (σ.2.1 2))) := rfl
theorem yc_4 : (zM a tc σ)[4]? = some (a 4, .inl (tc 3, 8, .inl (σ.2.1 3))) := rfl
theorem yc_5 : (zM a tc σ)[5]? = some (a 5, .inl (tc 4, 8, .inl (σ.2.1 4))) := rfl
theorem yc_6 : (zM a tc σ)[6]? = some (a 6, .inl (tc 5, 8, .inl (σ.2.1 5))) := rfl
theorem yc_7 : (zM a tc σ)[7]? = some (a 7, .inl (tc 6, 8, .inl (σ.2.1 6))) := rfl
theorem yc_8 : (zM a tc σ)[8]? = some (a 8, .inl (tc 7, 8, .inl (σ.2.1 7))) := rfl
theorem yc_9 : (zM a tc σ)[9]? = some (a 9, .inl (tc 8, 8, .inl (σ.2.1 8))) := rfl
theorem yc_10 : (zM a tc σ)[10]? = some (a 10, .inl (tc 9, 9, .inl (σ.2.1 9))) := rfl
theorem yc_11 : (zM a tc σ)[11]? = some (a 11, .inl (tc 10, 8, .inl (σ.2.1 10))) := rfl
theorem yc_12 : (zM a tc σ)[12]? = some (a 12, .inl (tc 11, 1400, .inr (.inl (σ.2.2 0)))) := rfl
theorem yc_13 : (zM a tc σ)[13]? = some (a 13, .inl (tc 12, 3, .inr (.inl (σ.2.2 1)))) := rfl
theorem yc_14 : (zM a tc σ)[14]? = some (a 14, .inl (tc 13, 3, .inl (σ.2.1 11))) := rfl
theorem yp_0_0 {v : Int32} : (zM a tc σ).set 0 (a 0, .inr (5, [.int v, .int (σ.1 1), .int (σ.1 2), .int (σ.1 3), .int (σ.1 4), .ref (a 1), .ref (a 2), .ref (a 3), .ref (a 4), .ref (a 5), .ref (a 6), .ref (a 7), .int (σ.1 5), .ref (a 8), .ref (a 9), .ref (a 10), .int (σ.1 6), .ref (a 11), .long (σ.2.2 2 0), .int (σ.1 7), .ref (a 12), .ref (a 13), .ref (a 14)])) = zM a tc (zI σ 0 v) := rfl
theorem yp_0_1 {v : Int32} : (zM a tc σ).set 0 (a 0, .inr (5, [.int (σ.1 0), .int v, .int (σ.1 2), .int (σ.1 3), .int (σ.1 4), .ref (a 1), .ref (a 2), .ref (a 3), .ref (a 4), .ref (a 5), .ref (a 6), .ref (a 7), .int (σ.1 5), .ref (a 8), .ref (a 9), .ref (a 10), .int (σ.1 6), .ref (a 11), .long (σ.2.2 2 0), .int (σ.1 7), .ref (a 12), .ref (a 13), .ref (a 14)])) = zM a tc (zI σ 1 v) := rfl
theorem yp_0_2 {v : Int32} : (zM a tc σ).set 0 (a 0, .inr (5, [.int (σ.1 0), .int (σ.1 1), .int v, .int (σ.1 3), .int (σ.1 4), .ref (a 1), .ref (a 2), .ref (a 3), .ref (a 4), .ref (a 5), .ref (a 6), .ref (a 7), .int (σ.1 5), .ref (a 8), .ref (a 9), .ref (a 10), .int (σ.1 6), .ref (a 11), .long (σ.2.2 2 0), .int (σ.1 7), .ref (a 12), .ref (a 13), .ref (a 14)])) = zM a tc (zI σ 2 v) := rfl
theorem yp_0_3 {v : Int32} : (zM a tc σ).set 0 (a 0, .inr (5, [.int (σ.1 0), .int (σ.1 1), .int (σ.1 2), .int v, .int (σ.1 4), .ref (a 1), .ref (a 2), .ref (a 3), .ref (a 4), .ref (a 5), .ref (a 6), .ref (a 7), .int (σ.1 5), .ref (a 8), .ref (a 9), .ref (a 10), .int (σ.1 6), .ref (a 11), .long (σ.2.2 2 0), .int (σ.1 7), .ref (a 12), .ref (a 13), .ref (a 14)])) = zM a tc (zI σ 3 v) := rfl
theorem yp_0_4 {v : Int32} : (zM a tc σ).set 0 (a 0, .inr (5, [.int (σ.1 0), .int (σ.1 1), .int (σ.1 2), .int (σ.1 3), .int v, .ref (a 1), .ref (a 2), .ref (a 3), .ref (a 4), .ref (a 5), .ref (a 6), .ref (a 7), .int (σ.1 5), .ref (a 8), .ref (a 9), .ref (a 10), .int (σ.1 6), .ref (a 11), .long (σ.2.2 2 0), .int (σ.1 7), .ref (a 12), .ref (a 13), .ref (a 14)])) = zM a tc (zI σ 4 v) := rfl
theorem yp_0_12 {v : Int32} : (zM a tc σ).set 0 (a 0, .inr (5, [.int (σ.1 0), .int (σ.1 1), .int (σ.1 2), .int (σ.1 3), .int (σ.1 4), .ref (a 1), .ref (a 2), .ref (a 3), .ref (a 4), .ref (a 5), .ref (a 6), .ref (a 7), .int v, .ref (a 8), .ref (a 9), .ref (a 10), .int (σ.1 6), .ref (a 11), .long (σ.2.2 2 0), .int (σ.1 7), .ref (a 12), .ref (a 13), .ref (a 14)])) = zM a tc (zI σ 5 v) := rfl
theorem yp_0_16 {v : Int32} : (zM a tc σ).set 0 (a 0, .inr (5, [.int (σ.1 0), .int (σ.1 1), .int (σ.1 2), .int (σ.1 3), .int (σ.1 4), .ref (a 1), .ref (a 2), .ref (a 3), .ref (a 4), .ref (a 5), .ref (a 6), .ref (a 7), .int (σ.1 5), .ref (a 8), .ref (a 9), .ref (a 10), .int v, .ref (a 11), .long (σ.2.2 2 0), .int (σ.1 7), .ref (a 12), .ref (a 13), .ref (a 14)])) = zM a tc (zI σ 6 v) := rfl
theorem yp_0_18 {v : Int64} : (zM a tc σ).set 0 (a 0, .inr (5, [.int (σ.1 0), .int (σ.1 1), .int (σ.1 2), .int (σ.1 3), .int (σ.1 4), .ref (a 1), .ref (a 2), .ref (a 3), .ref (a 4), .ref (a 5), .ref (a 6), .ref (a 7), .int (σ.1 5), .ref (a 8), .ref (a 9), .ref (a 10), .int (σ.1 6), .ref (a 11), .long v, .int (σ.1 7), .ref (a 12), .ref (a 13), .ref (a 14)])) = zM a tc (zT σ v) := rfl
theorem yp_0_19 {v : Int32} : (zM a tc σ).set 0 (a 0, .inr (5, [.int (σ.1 0), .int (σ.1 1), .int (σ.1 2), .int (σ.1 3), .int (σ.1 4), .ref (a 1), .ref (a 2), .ref (a 3), .ref (a 4), .ref (a 5), .ref (a 6), .ref (a 7), .int (σ.1 5), .ref (a 8), .ref (a 9), .ref (a 10), .int (σ.1 6), .ref (a 11), .long (σ.2.2 2 0), .int v, .ref (a 12), .ref (a 13), .ref (a 14)])) = zM a tc (zI σ 7 v) := rfl
theorem ya_1 {i : Nat} {v : Int32} : (zM a tc σ).set 1 (a 1, .inl (tc 0, 8, .inl (upd (σ.2.1 0) i v))) = zM a tc (zA σ 0 i v) := rfl
theorem yf_1 {f : Nat → Int32} : (zM a tc σ).set 1 (a 1, .inl (tc 0, 8, .inl (f))) = zM a tc (zF σ 0 f) := rfl
theorem ya_2 {i : Nat} {v : Int32} : (zM a tc σ).set 2 (a 2, .inl (tc 1, 8, .inl (upd (σ.2.1 1) i v))) = zM a tc (zA σ 1 i v) := rfl
theorem yf_2 {f : Nat → Int32} : (zM a tc σ).set 2 (a 2, .inl (tc 1, 8, .inl (f))) = zM a tc (zF σ 1 f) := rfl
theorem ya_3 {i : Nat} {v : Int32} : (zM a tc σ).set 3 (a 3, .inl (tc 2, 8, .inl (upd (σ.2.1 2) i v))) = zM a tc (zA σ 2 i v) := rfl
theorem yf_3 {f : Nat → Int32} : (zM a tc σ).set 3 (a 3, .inl (tc 2, 8, .inl (f))) = zM a tc (zF σ 2 f) := rfl
theorem ya_4 {i : Nat} {v : Int32} : (zM a tc σ).set 4 (a 4, .inl (tc 3, 8, .inl (upd (σ.2.1 3) i v))) = zM a tc (zA σ 3 i v) := rfl
theorem yf_4 {f : Nat → Int32} : (zM a tc σ).set 4 (a 4, .inl (tc 3, 8, .inl (f))) = zM a tc (zF σ 3 f) := rfl
theorem ya_5 {i : Nat} {v : Int32} : (zM a tc σ).set 5 (a 5, .inl (tc 4, 8, .inl (upd (σ.2.1 4) i v))) = zM a tc (zA σ 4 i v) := rfl
theorem yf_5 {f : Nat → Int32} : (zM a tc σ).set 5 (a 5, .inl (tc 4, 8, .inl (f))) = zM a tc (zF σ 4 f) := rfl
theorem ya_6 {i : Nat} {v : Int32} : (zM a tc σ).set 6 (a 6, .inl (tc 5, 8, .inl (upd (σ.2.1 5) i v))) = zM a tc (zA σ 5 i v) := rfl
theorem yf_6 {f : Nat → Int32} : (zM a tc σ).set 6 (a 6, .inl (tc 5, 8, .inl (f))) = zM a tc (zF σ 5 f) := rfl
theorem ya_7 {i : Nat} {v : Int32} : (zM a tc σ).set 7 (a 7, .inl (tc 6, 8, .inl (upd (σ.2.1 6) i v))) = zM a tc (zA σ 6 i v) := rfl
theorem yf_7 {f : Nat → Int32} : (zM a tc σ).set 7 (a 7, .inl (tc 6, 8, .inl (f))) = zM a tc (zF σ 6 f) := rfl
theorem ya_8 {i : Nat} {v : Int32} : (zM a tc σ).set 8 (a 8, .inl (tc 7, 8, .inl (upd (σ.2.1 7) i v))) = zM a tc (zA σ 7 i v) := rfl
theorem yf_8 {f : Nat → Int32} : (zM a tc σ).set 8 (a 8, .inl (tc 7, 8, .inl (f))) = zM a tc (zF σ 7 f) := rfl
theorem ya_9 {i : Nat} {v : Int32} : (zM a tc σ).set 9 (a 9, .inl (tc 8, 8, .inl (upd (σ.2.1 8) i v))) = zM a tc (zA σ 8 i v) := rfl
theorem yf_9 {f : Nat → Int32} : (zM a tc σ).set 9 (a 9, .inl (tc 8, 8, .inl (f))) = zM a tc (zF σ 8 f) := rfl
theorem ya_10 {i : Nat} {v : Int32} : (zM a tc σ).set 10 (a 10, .inl (tc 9, 9, .inl (upd (σ.2.1 9) i v))) = zM a tc (zA σ 9 i v) := rfl
theorem yf_10 {f : Nat → Int32} : (zM a tc σ).set 10 (a 10, .inl (tc 9, 9, .inl (f))) = zM a tc (zF σ 9 f) := rfl
theorem ya_11 {i : Nat} {v : Int32} : (zM a tc σ).set 11 (a 11, .inl (tc 10, 8, .inl (upd (σ.2.1 10) i v))) = zM a tc (zA σ 10 i v) := rfl
theorem yf_11 {f : Nat → Int32} : (zM a tc σ).set 11 (a 11, .inl (tc 10, 8, .inl (f))) = zM a tc (zF σ 10 f) := rfl
theorem ya_12 {i : Nat} {v : Int64} : (zM a tc σ).set 12 (a 12, .inl (tc 11, 1400, .inr (.inl (vp_updL (σ.2.2 0) i v)))) = zM a tc (zL σ 0 i v) := rfl
theorem ya_13 {i : Nat} {v : Int64} : (zM a tc σ).set 13 (a 13, .inl (tc 12, 3, .inr (.inl (vp_updL (σ.2.2 1) i v)))) = zM a tc (zL σ 1 i v) := rfl
theorem ya_14 {i : Nat} {v : Int32} : (zM a tc σ).set 14 (a 14, .inl (tc 13, 3, .inl (upd (σ.2.1 11) i v))) = zM a tc (zA σ 11 i v) := rfl
theorem yf_14 {f : Nat → Int32} : (zM a tc σ).set 14 (a 14, .inl (tc 13, 3, .inl (f))) = zM a tc (zF σ 11 f) := rfl
end ZM
theorem nh_X5_init : nM_X5_init.cls ≠ "java/lang/invoke/MethodHandle" ∧ nM_X5_init.cls ≠ "java/lang/invoke/VarHandle" ∧ (parseMethodDescriptor nM_X5_init.desc).map (fun d => d.parameters.length) = some 2 := by decide +kernel
theorem nh_X4_init : nM_X4_init.cls ≠ "java/lang/invoke/MethodHandle" ∧ nM_X4_init.cls ≠ "java/lang/invoke/VarHandle" ∧ (parseMethodDescriptor nM_X4_init.desc).map (fun d => d.parameters.length) = some 0 := by decide +kernel
theorem nh_X1_init : nM_X1_init.cls ≠ "java/lang/invoke/MethodHandle" ∧ nM_X1_init.cls ≠ "java/lang/invoke/VarHandle" ∧ (parseMethodDescriptor nM_X1_init.desc).map (fun d => d.parameters.length) = some 0 := by decide +kernel
theorem nh_X3_init : nM_X3_init.cls ≠ "java/lang/invoke/MethodHandle" ∧ nM_X3_init.cls ≠ "java/lang/invoke/VarHandle" ∧ (parseMethodDescriptor nM_X3_init.desc).map (fun d => d.parameters.length) = some 0 := by decide +kernel
theorem nh_X0_init : nM_X0_init.cls ≠ "java/lang/invoke/MethodHandle" ∧ nM_X0_init.cls ≠ "java/lang/invoke/VarHandle" ∧ (parseMethodDescriptor nM_X0_init.desc).map (fun d => d.parameters.length) = some 0 := by decide +kernel
theorem nh_X5_startRecord : nM_X5_startRecord.cls ≠ "java/lang/invoke/MethodHandle" ∧ nM_X5_startRecord.cls ≠ "java/lang/invoke/VarHandle" ∧ (parseMethodDescriptor nM_X5_startRecord.desc).map (fun d => d.parameters.length) = some 2 := by decide +kernel
theorem nh_X4_setUp : nM_X4_setUp.cls ≠ "java/lang/invoke/MethodHandle" ∧ nM_X4_setUp.cls ≠ "java/lang/invoke/VarHandle" ∧ (parseMethodDescriptor nM_X4_setUp.desc).map (fun d => d.parameters.length) = some 2 := by decide +kernel
theorem nh_JA_fill : nM_JA_fill.cls ≠ "java/lang/invoke/MethodHandle" ∧ nM_JA_fill.cls ≠ "java/lang/invoke/VarHandle" ∧ (parseMethodDescriptor nM_JA_fill.desc).map (fun d => d.parameters.length) = some 2 := by decide +kernel
theorem nh_X5_review : nM_X5_review.cls ≠ "java/lang/invoke/MethodHandle" ∧ nM_X5_review.cls ≠ "java/lang/invoke/VarHandle" ∧ (parseMethodDescriptor nM_X5_review.desc).map (fun d => d.parameters.length) = some 0 := by decide +kernel
theorem nh_X1_clear : nM_X1_clear.cls ≠ "java/lang/invoke/MethodHandle" ∧ nM_X1_clear.cls ≠ "java/lang/invoke/VarHandle" ∧ (parseMethodDescriptor nM_X1_clear.desc).map (fun d => d.parameters.length) = some 0 := by decide +kernel
theorem nh_X3_clear : nM_X3_clear.cls ≠ "java/lang/invoke/MethodHandle" ∧ nM_X3_clear.cls ≠ "java/lang/invoke/VarHandle" ∧ (parseMethodDescriptor nM_X3_clear.desc).map (fun d => d.parameters.length) = some 0 := by decide +kernel
theorem nh_X5_lengthenList : nM_X5_lengthenList.cls ≠ "java/lang/invoke/MethodHandle" ∧ nM_X5_lengthenList.cls ≠ "java/lang/invoke/VarHandle" ∧ (parseMethodDescriptor nM_X5_lengthenList.desc).map (fun d => d.parameters.length) = some 3 := by decide +kernel
theorem nh_X5_noteExplanation : nM_X5_noteExplanation.cls ≠ "java/lang/invoke/MethodHandle" ∧ nM_X5_noteExplanation.cls ≠ "java/lang/invoke/VarHandle" ∧ (parseMethodDescriptor nM_X5_noteExplanation.desc).map (fun d => d.parameters.length) = some 2 := by decide +kernel
theorem nh_X1_addExplanation : nM_X1_addExplanation.cls ≠ "java/lang/invoke/MethodHandle" ∧ nM_X1_addExplanation.cls ≠ "java/lang/invoke/VarHandle" ∧ (parseMethodDescriptor nM_X1_addExplanation.desc).map (fun d => d.parameters.length) = some 1 := by decide +kernel
theorem nh_X3_add : nM_X3_add.cls ≠ "java/lang/invoke/MethodHandle" ∧ nM_X3_add.cls ≠ "java/lang/invoke/VarHandle" ∧ (parseMethodDescriptor nM_X3_add.desc).map (fun d => d.parameters.length) = some 1 := by decide +kernel
theorem nh_X5_isIn : nM_X5_isIn.cls ≠ "java/lang/invoke/MethodHandle" ∧ nM_X5_isIn.cls ≠ "java/lang/invoke/VarHandle" ∧ (parseMethodDescriptor nM_X5_isIn.desc).map (fun d => d.parameters.length) = some 2 := by decide +kernel
theorem nh_X1_addReply : nM_X1_addReply.cls ≠ "java/lang/invoke/MethodHandle" ∧ nM_X1_addReply.cls ≠ "java/lang/invoke/VarHandle" ∧ (parseMethodDescriptor nM_X1_addReply.desc).map (fun d => d.parameters.length) = some 2 := by decide +kernel
theorem nh_X5_mayStandNext : nM_X5_mayStandNext.cls ≠ "java/lang/invoke/MethodHandle" ∧ nM_X5_mayStandNext.cls ≠ "java/lang/invoke/VarHandle" ∧ (parseMethodDescriptor nM_X5_mayStandNext.desc).map (fun d => d.parameters.length) = some 2 := by decide +kernel
theorem nh_X5_carryOut : nM_X5_carryOut.cls ≠ "java/lang/invoke/MethodHandle" ∧ nM_X5_carryOut.cls ≠ "java/lang/invoke/VarHandle" ∧ (parseMethodDescriptor nM_X5_carryOut.desc).map (fun d => d.parameters.length) = some 4 := by decide +kernel
theorem nh_X4_replyTo : nM_X4_replyTo.cls ≠ "java/lang/invoke/MethodHandle" ∧ nM_X4_replyTo.cls ≠ "java/lang/invoke/VarHandle" ∧ (parseMethodDescriptor nM_X4_replyTo.desc).map (fun d => d.parameters.length) = some 2 := by decide +kernel
theorem nh_X4_hasRoom : nM_X4_hasRoom.cls ≠ "java/lang/invoke/MethodHandle" ∧ nM_X4_hasRoom.cls ≠ "java/lang/invoke/VarHandle" ∧ (parseMethodDescriptor nM_X4_hasRoom.desc).map (fun d => d.parameters.length) = some 1 := by decide +kernel
theorem nh_X2_length : nM_X2_length.cls ≠ "java/lang/invoke/MethodHandle" ∧ nM_X2_length.cls ≠ "java/lang/invoke/VarHandle" ∧ (parseMethodDescriptor nM_X2_length.desc).map (fun d => d.parameters.length) = some 1 := by decide +kernel
theorem nh_X4_takesBack : nM_X4_takesBack.cls ≠ "java/lang/invoke/MethodHandle" ∧ nM_X4_takesBack.cls ≠ "java/lang/invoke/VarHandle" ∧ (parseMethodDescriptor nM_X4_takesBack.desc).map (fun d => d.parameters.length) = some 1 := by decide +kernel
theorem nh_X2_valueAt : nM_X2_valueAt.cls ≠ "java/lang/invoke/MethodHandle" ∧ nM_X2_valueAt.cls ≠ "java/lang/invoke/VarHandle" ∧ (parseMethodDescriptor nM_X2_valueAt.desc).map (fun d => d.parameters.length) = some 2 := by decide +kernel
theorem nh_X4_rowAfter : nM_X4_rowAfter.cls ≠ "java/lang/invoke/MethodHandle" ∧ nM_X4_rowAfter.cls ≠ "java/lang/invoke/VarHandle" ∧ (parseMethodDescriptor nM_X4_rowAfter.desc).map (fun d => d.parameters.length) = some 2 := by decide +kernel
theorem nh_X2_withBack : nM_X2_withBack.cls ≠ "java/lang/invoke/MethodHandle" ∧ nM_X2_withBack.cls ≠ "java/lang/invoke/VarHandle" ∧ (parseMethodDescriptor nM_X2_withBack.desc).map (fun d => d.parameters.length) = some 2 := by decide +kernel
theorem nh_X2_withoutBack : nM_X2_withoutBack.cls ≠ "java/lang/invoke/MethodHandle" ∧ nM_X2_withoutBack.cls ≠ "java/lang/invoke/VarHandle" ∧ (parseMethodDescriptor nM_X2_withoutBack.desc).map (fun d => d.parameters.length) = some 1 := by decide +kernel
theorem nh_X2_withoutFront : nM_X2_withoutFront.cls ≠ "java/lang/invoke/MethodHandle" ∧ nM_X2_withoutFront.cls ≠ "java/lang/invoke/VarHandle" ∧ (parseMethodDescriptor nM_X2_withoutFront.desc).map (fun d => d.parameters.length) = some 1 := by decide +kernel
theorem nh_X5_fits : nM_X5_fits.cls ≠ "java/lang/invoke/MethodHandle" ∧ nM_X5_fits.cls ≠ "java/lang/invoke/VarHandle" ∧ (parseMethodDescriptor nM_X5_fits.desc).map (fun d => d.parameters.length) = some 0 := by decide +kernel
theorem nh_X5_renew : nM_X5_renew.cls ≠ "java/lang/invoke/MethodHandle" ∧ nM_X5_renew.cls ≠ "java/lang/invoke/VarHandle" ∧ (parseMethodDescriptor nM_X5_renew.desc).map (fun d => d.parameters.length) = some 2 := by decide +kernel
theorem nh_X5_beginPut : nM_X5_beginPut.cls ≠ "java/lang/invoke/MethodHandle" ∧ nM_X5_beginPut.cls ≠ "java/lang/invoke/VarHandle" ∧ (parseMethodDescriptor nM_X5_beginPut.desc).map (fun d => d.parameters.length) = some 2 := by decide +kernel
theorem nh_X5_mayBegin : nM_X5_mayBegin.cls ≠ "java/lang/invoke/MethodHandle" ∧ nM_X5_mayBegin.cls ≠ "java/lang/invoke/VarHandle" ∧ (parseMethodDescriptor nM_X5_mayBegin.desc).map (fun d => d.parameters.length) = some 1 := by decide +kernel
theorem nh_X5_isWorker : nM_X5_isWorker.cls ≠ "java/lang/invoke/MethodHandle" ∧ nM_X5_isWorker.cls ≠ "java/lang/invoke/VarHandle" ∧ (parseMethodDescriptor nM_X5_isWorker.desc).map (fun d => d.parameters.length) = some 1 := by decide +kernel
theorem nh_X5_isValue : nM_X5_isValue.cls ≠ "java/lang/invoke/MethodHandle" ∧ nM_X5_isValue.cls ≠ "java/lang/invoke/VarHandle" ∧ (parseMethodDescriptor nM_X5_isValue.desc).map (fun d => d.parameters.length) = some 1 := by decide +kernel
theorem nh_X4_letsPut : nM_X4_letsPut.cls ≠ "java/lang/invoke/MethodHandle" ∧ nM_X4_letsPut.cls ≠ "java/lang/invoke/VarHandle" ∧ (parseMethodDescriptor nM_X4_letsPut.desc).map (fun d => d.parameters.length) = some 1 := by decide +kernel
theorem nh_X0_startPut : nM_X0_startPut.cls ≠ "java/lang/invoke/MethodHandle" ∧ nM_X0_startPut.cls ≠ "java/lang/invoke/VarHandle" ∧ (parseMethodDescriptor nM_X0_startPut.desc).map (fun d => d.parameters.length) = some 3 := by decide +kernel
theorem nh_X5_openNextCall : nM_X5_openNextCall.cls ≠ "java/lang/invoke/MethodHandle" ∧ nM_X5_openNextCall.cls ≠ "java/lang/invoke/VarHandle" ∧ (parseMethodDescriptor nM_X5_openNextCall.desc).map (fun d => d.parameters.length) = some 1 := by decide +kernel
theorem nh_X5_beginTake : nM_X5_beginTake.cls ≠ "java/lang/invoke/MethodHandle" ∧ nM_X5_beginTake.cls ≠ "java/lang/invoke/VarHandle" ∧ (parseMethodDescriptor nM_X5_beginTake.desc).map (fun d => d.parameters.length) = some 1 := by decide +kernel
theorem nh_X0_startTake : nM_X0_startTake.cls ≠ "java/lang/invoke/MethodHandle" ∧ nM_X0_startTake.cls ≠ "java/lang/invoke/VarHandle" ∧ (parseMethodDescriptor nM_X0_startTake.desc).map (fun d => d.parameters.length) = some 2 := by decide +kernel
theorem nh_X5_endPut : nM_X5_endPut.cls ≠ "java/lang/invoke/MethodHandle" ∧ nM_X5_endPut.cls ≠ "java/lang/invoke/VarHandle" ∧ (parseMethodDescriptor nM_X5_endPut.desc).map (fun d => d.parameters.length) = some 2 := by decide +kernel
theorem nh_X5_hasOpenCall : nM_X5_hasOpenCall.cls ≠ "java/lang/invoke/MethodHandle" ∧ nM_X5_hasOpenCall.cls ≠ "java/lang/invoke/VarHandle" ∧ (parseMethodDescriptor nM_X5_hasOpenCall.desc).map (fun d => d.parameters.length) = some 1 := by decide +kernel
theorem nh_X5_endOpenCall : nM_X5_endOpenCall.cls ≠ "java/lang/invoke/MethodHandle" ∧ nM_X5_endOpenCall.cls ≠ "java/lang/invoke/VarHandle" ∧ (parseMethodDescriptor nM_X5_endOpenCall.desc).map (fun d => d.parameters.length) = some 2 := by decide +kernel
theorem nh_X5_closeOpenCall : nM_X5_closeOpenCall.cls ≠ "java/lang/invoke/MethodHandle" ∧ nM_X5_closeOpenCall.cls ≠ "java/lang/invoke/VarHandle" ∧ (parseMethodDescriptor nM_X5_closeOpenCall.desc).map (fun d => d.parameters.length) = some 1 := by decide +kernel
theorem nh_X5_endTake : nM_X5_endTake.cls ≠ "java/lang/invoke/MethodHandle" ∧ nM_X5_endTake.cls ≠ "java/lang/invoke/VarHandle" ∧ (parseMethodDescriptor nM_X5_endTake.desc).map (fun d => d.parameters.length) = some 2 := by decide +kernel
theorem nh_X5_giveUp : nM_X5_giveUp.cls ≠ "java/lang/invoke/MethodHandle" ∧ nM_X5_giveUp.cls ≠ "java/lang/invoke/VarHandle" ∧ (parseMethodDescriptor nM_X5_giveUp.desc).map (fun d => d.parameters.length) = some 1 := by decide +kernel
theorem nh_X5_events : nM_X5_events.cls ≠ "java/lang/invoke/MethodHandle" ∧ nM_X5_events.cls ≠ "java/lang/invoke/VarHandle" ∧ (parseMethodDescriptor nM_X5_events.desc).map (fun d => d.parameters.length) = some 0 := by decide +kernel
theorem nh_X5_begun : nM_X5_begun.cls ≠ "java/lang/invoke/MethodHandle" ∧ nM_X5_begun.cls ≠ "java/lang/invoke/VarHandle" ∧ (parseMethodDescriptor nM_X5_begun.desc).map (fun d => d.parameters.length) = some 0 := by decide +kernel
theorem nh_X5_brokenAt : nM_X5_brokenAt.cls ≠ "java/lang/invoke/MethodHandle" ∧ nM_X5_brokenAt.cls ≠ "java/lang/invoke/VarHandle" ∧ (parseMethodDescriptor nM_X5_brokenAt.desc).map (fun d => d.parameters.length) = some 0 := by decide +kernel
theorem nh_X5_explanations : nM_X5_explanations.cls ≠ "java/lang/invoke/MethodHandle" ∧ nM_X5_explanations.cls ≠ "java/lang/invoke/VarHandle" ∧ (parseMethodDescriptor nM_X5_explanations.desc).map (fun d => d.parameters.length) = some 0 := by decide +kernel
theorem nh_X5_outcomes : nM_X5_outcomes.cls ≠ "java/lang/invoke/MethodHandle" ∧ nM_X5_outcomes.cls ≠ "java/lang/invoke/VarHandle" ∧ (parseMethodDescriptor nM_X5_outcomes.desc).map (fun d => d.parameters.length) = some 0 := by decide +kernel
theorem nh_X5_fewest : nM_X5_fewest.cls ≠ "java/lang/invoke/MethodHandle" ∧ nM_X5_fewest.cls ≠ "java/lang/invoke/VarHandle" ∧ (parseMethodDescriptor nM_X5_fewest.desc).map (fun d => d.parameters.length) = some 0 := by decide +kernel
theorem nh_X3_shortest : nM_X3_shortest.cls ≠ "java/lang/invoke/MethodHandle" ∧ nM_X3_shortest.cls ≠ "java/lang/invoke/VarHandle" ∧ (parseMethodDescriptor nM_X3_shortest.desc).map (fun d => d.parameters.length) = some 0 := by decide +kernel
theorem nh_X5_most : nM_X5_most.cls ≠ "java/lang/invoke/MethodHandle" ∧ nM_X5_most.cls ≠ "java/lang/invoke/VarHandle" ∧ (parseMethodDescriptor nM_X5_most.desc).map (fun d => d.parameters.length) = some 0 := by decide +kernel
theorem nh_X3_longest : nM_X3_longest.cls ≠ "java/lang/invoke/MethodHandle" ∧ nM_X3_longest.cls ≠ "java/lang/invoke/VarHandle" ∧ (parseMethodDescriptor nM_X3_longest.desc).map (fun d => d.parameters.length) = some 0 := by decide +kernel
theorem nh_X5_mayHold : nM_X5_mayHold.cls ≠ "java/lang/invoke/MethodHandle" ∧ nM_X5_mayHold.cls ≠ "java/lang/invoke/VarHandle" ∧ (parseMethodDescriptor nM_X5_mayHold.desc).map (fun d => d.parameters.length) = some 2 := by decide +kernel
theorem nh_X3_anyHas : nM_X3_anyHas.cls ≠ "java/lang/invoke/MethodHandle" ∧ nM_X3_anyHas.cls ≠ "java/lang/invoke/VarHandle" ∧ (parseMethodDescriptor nM_X3_anyHas.desc).map (fun d => d.parameters.length) = some 2 := by decide +kernel
theorem nh_X5_certain : nM_X5_certain.cls ≠ "java/lang/invoke/MethodHandle" ∧ nM_X5_certain.cls ≠ "java/lang/invoke/VarHandle" ∧ (parseMethodDescriptor nM_X5_certain.desc).map (fun d => d.parameters.length) = some 1 := by decide +kernel
theorem nh_X5_answers : nM_X5_answers.cls ≠ "java/lang/invoke/MethodHandle" ∧ nM_X5_answers.cls ≠ "java/lang/invoke/VarHandle" ∧ (parseMethodDescriptor nM_X5_answers.desc).map (fun d => d.parameters.length) = some 1 := by decide +kernel
theorem nh_JI_bitCount : nM_JI_bitCount.cls ≠ "java/lang/invoke/MethodHandle" ∧ nM_JI_bitCount.cls ≠ "java/lang/invoke/VarHandle" ∧ (parseMethodDescriptor nM_JI_bitCount.desc).map (fun d => d.parameters.length) = some 1 := by decide +kernel
theorem nh_L_cell : nM_L_cell.cls ≠ "java/lang/invoke/MethodHandle" ∧ nM_L_cell.cls ≠ "java/lang/invoke/VarHandle" ∧ (parseMethodDescriptor nM_L_cell.desc).map (fun d => d.parameters.length) = some 2 := by decide +kernel
theorem nh_M_init : nM_M_init.cls ≠ "java/lang/invoke/MethodHandle" ∧ nM_M_init.cls ≠ "java/lang/invoke/VarHandle" ∧ (parseMethodDescriptor nM_M_init.desc).map (fun d => d.parameters.length) = some 2 := by decide +kernel
theorem nh_M_renew : nM_M_renew.cls ≠ "java/lang/invoke/MethodHandle" ∧ nM_M_renew.cls ≠ "java/lang/invoke/VarHandle" ∧ (parseMethodDescriptor nM_M_renew.desc).map (fun d => d.parameters.length) = some 2 := by decide +kernel
theorem nh_M_work : nM_M_work.cls ≠ "java/lang/invoke/MethodHandle" ∧ nM_M_work.cls ≠ "java/lang/invoke/VarHandle" ∧ (parseMethodDescriptor nM_M_work.desc).map (fun d => d.parameters.length) = some 0 := by decide +kernel
theorem nh_M_note : nM_M_note.cls ≠ "java/lang/invoke/MethodHandle" ∧ nM_M_note.cls ≠ "java/lang/invoke/VarHandle" ∧ (parseMethodDescriptor nM_M_note.desc).map (fun d => d.parameters.length) = some 0 := by decide +kernel
theorem nh_M_isListed : nM_M_isListed.cls ≠ "java/lang/invoke/MethodHandle" ∧ nM_M_isListed.cls ≠ "java/lang/invoke/VarHandle" ∧ (parseMethodDescriptor nM_M_isListed.desc).map (fun d => d.parameters.length) = some 1 := by decide +kernel
theorem nh_M_lengthen : nM_M_lengthen.cls ≠ "java/lang/invoke/MethodHandle" ∧ nM_M_lengthen.cls ≠ "java/lang/invoke/VarHandle" ∧ (parseMethodDescriptor nM_M_lengthen.desc).map (fun d => d.parameters.length) = some 1 := by decide +kernel
theorem nh_M_good : nM_M_good.cls ≠ "java/lang/invoke/MethodHandle" ∧ nM_M_good.cls ≠ "java/lang/invoke/VarHandle" ∧ (parseMethodDescriptor nM_M_good.desc).map (fun d => d.parameters.length) = some 0 := by decide +kernel
theorem nh_M_carryOut : nM_M_carryOut.cls ≠ "java/lang/invoke/MethodHandle" ∧ nM_M_carryOut.cls ≠ "java/lang/invoke/VarHandle" ∧ (parseMethodDescriptor nM_M_carryOut.desc).map (fun d => d.parameters.length) = some 1 := by decide +kernel
theorem nh_M_beginPut : nM_M_beginPut.cls ≠ "java/lang/invoke/MethodHandle" ∧ nM_M_beginPut.cls ≠ "java/lang/invoke/VarHandle" ∧ (parseMethodDescriptor nM_M_beginPut.desc).map (fun d => d.parameters.length) = some 2 := by decide +kernel
theorem nh_M_begin : nM_M_begin.cls ≠ "java/lang/invoke/MethodHandle" ∧ nM_M_begin.cls ≠ "java/lang/invoke/VarHandle" ∧ (parseMethodDescriptor nM_M_begin.desc).map (fun d => d.parameters.length) = some 3 := by decide +kernel
theorem nh_M_openOf : nM_M_openOf.cls ≠ "java/lang/invoke/MethodHandle" ∧ nM_M_openOf.cls ≠ "java/lang/invoke/VarHandle" ∧ (parseMethodDescriptor nM_M_openOf.desc).map (fun d => d.parameters.length) = some 1 := by decide +kernel
theorem nh_M_happened : nM_M_happened.cls ≠ "java/lang/invoke/MethodHandle" ∧ nM_M_happened.cls ≠ "java/lang/invoke/VarHandle" ∧ (parseMethodDescriptor nM_M_happened.desc).map (fun d => d.parameters.length) = some 0 := by decide +kernel
theorem nh_M_beginTake : nM_M_beginTake.cls ≠ "java/lang/invoke/MethodHandle" ∧ nM_M_beginTake.cls ≠ "java/lang/invoke/VarHandle" ∧ (parseMethodDescriptor nM_M_beginTake.desc).map (fun d => d.parameters.length) = some 1 := by decide +kernel
theorem nh_M_endPut : nM_M_endPut.cls ≠ "java/lang/invoke/MethodHandle" ∧ nM_M_endPut.cls ≠ "java/lang/invoke/VarHandle" ∧ (parseMethodDescriptor nM_M_endPut.desc).map (fun d => d.parameters.length) = some 2 := by decide +kernel
theorem nh_M_close : nM_M_close.cls ≠ "java/lang/invoke/MethodHandle" ∧ nM_M_close.cls ≠ "java/lang/invoke/VarHandle" ∧ (parseMethodDescriptor nM_M_close.desc).map (fun d => d.parameters.length) = some 3 := by decide +kernel
theorem nh_M_endTake : nM_M_endTake.cls ≠ "java/lang/invoke/MethodHandle" ∧ nM_M_endTake.cls ≠ "java/lang/invoke/VarHandle" ∧ (parseMethodDescriptor nM_M_endTake.desc).map (fun d => d.parameters.length) = some 2 := by decide +kernel
theorem nh_M_giveUp : nM_M_giveUp.cls ≠ "java/lang/invoke/MethodHandle" ∧ nM_M_giveUp.cls ≠ "java/lang/invoke/VarHandle" ∧ (parseMethodDescriptor nM_M_giveUp.desc).map (fun d => d.parameters.length) = some 1 := by decide +kernel
theorem nh_M_events : nM_M_events.cls ≠ "java/lang/invoke/MethodHandle" ∧ nM_M_events.cls ≠ "java/lang/invoke/VarHandle" ∧ (parseMethodDescriptor nM_M_events.desc).map (fun d => d.parameters.length) = some 0 := by decide +kernel
theorem nh_M_begun : nM_M_begun.cls ≠ "java/lang/invoke/MethodHandle" ∧ nM_M_begun.cls ≠ "java/lang/invoke/VarHandle" ∧ (parseMethodDescriptor nM_M_begun.desc).map (fun d => d.parameters.length) = some 0 := by decide +kernel
theorem nh_M_fits : nM_M_fits.cls ≠ "java/lang/invoke/MethodHandle" ∧ nM_M_fits.cls ≠ "java/lang/invoke/VarHandle" ∧ (parseMethodDescriptor nM_M_fits.desc).map (fun d => d.parameters.length) = some 0 := by decide +kernel
theorem nh_M_brokenAt : nM_M_brokenAt.cls ≠ "java/lang/invoke/MethodHandle" ∧ nM_M_brokenAt.cls ≠ "java/lang/invoke/VarHandle" ∧ (parseMethodDescriptor nM_M_brokenAt.desc).map (fun d => d.parameters.length) = some 0 := by decide +kernel
theorem nh_M_explanations : nM_M_explanations.cls ≠ "java/lang/invoke/MethodHandle" ∧ nM_M_explanations.cls ≠ "java/lang/invoke/VarHandle" ∧ (parseMethodDescriptor nM_M_explanations.desc).map (fun d => d.parameters.length) = some 0 := by decide +kernel
theorem nh_M_outcomes : nM_M_outcomes.cls ≠ "java/lang/invoke/MethodHandle" ∧ nM_M_outcomes.cls ≠ "java/lang/invoke/VarHandle" ∧ (parseMethodDescriptor nM_M_outcomes.desc).map (fun d => d.parameters.length) = some 0 := by decide +kernel
theorem nh_M_fewest : nM_M_fewest.cls ≠ "java/lang/invoke/MethodHandle" ∧ nM_M_fewest.cls ≠ "java/lang/invoke/VarHandle" ∧ (parseMethodDescriptor nM_M_fewest.desc).map (fun d => d.parameters.length) = some 0 := by decide +kernel
theorem nh_M_sizeOf : nM_M_sizeOf.cls ≠ "java/lang/invoke/MethodHandle" ∧ nM_M_sizeOf.cls ≠ "java/lang/invoke/VarHandle" ∧ (parseMethodDescriptor nM_M_sizeOf.desc).map (fun d => d.parameters.length) = some 1 := by decide +kernel
theorem nh_M_most : nM_M_most.cls ≠ "java/lang/invoke/MethodHandle" ∧ nM_M_most.cls ≠ "java/lang/invoke/VarHandle" ∧ (parseMethodDescriptor nM_M_most.desc).map (fun d => d.parameters.length) = some 0 := by decide +kernel
theorem nh_M_mayHold : nM_M_mayHold.cls ≠ "java/lang/invoke/MethodHandle" ∧ nM_M_mayHold.cls ≠ "java/lang/invoke/VarHandle" ∧ (parseMethodDescriptor nM_M_mayHold.desc).map (fun d => d.parameters.length) = some 2 := by decide +kernel
theorem nh_M_certain : nM_M_certain.cls ≠ "java/lang/invoke/MethodHandle" ∧ nM_M_certain.cls ≠ "java/lang/invoke/VarHandle" ∧ (parseMethodDescriptor nM_M_certain.desc).map (fun d => d.parameters.length) = some 1 := by decide +kernel
theorem nh_M_answers : nM_M_answers.cls ≠ "java/lang/invoke/MethodHandle" ∧ nM_M_answers.cls ≠ "java/lang/invoke/VarHandle" ∧ (parseMethodDescriptor nM_M_answers.desc).map (fun d => d.parameters.length) = some 1 := by decide +kernel
end
section
def j_X2_length (x0 : Int64) (post : Int32 → Prop) : Prop := post (((x0.toUInt64 >>> ((32 : Int32).toInt64.toUInt64 &&& Int64.toUInt64 63)).toInt64).toInt32)
def j_X2_valueAt (x0 : Int64) (x2 : Int32) (post : Int32 → Prop) : Prop := post ((((x0.toUInt64 >>> (((4 : Int32) * x2).toInt64.toUInt64 &&& Int64.toUInt64 63)).toInt64).toInt32) &&& (15 : Int32))
def j_X2_withBack (x0 : Int64) (x2 : Int32) (post : Int64 → Prop) : Prop := j_X2_length x0 (fun r1 => post ((x0 ||| (x2.toInt64 <<< (((4 : Int32) * r1).toInt64 &&& 63))) + (4294967296 : Int64)))
def j_X2_withoutBack (x0 : Int64) (post : Int64 → Prop) : Prop := j_X2_length x0 (fun r1 => znm (r1 - (1 : Int32)) fun v2 => post ((x0 &&& (((15 : Int64) <<< (((4 : Int32) * v2).toInt64 &&& 63)) ^^^ (-1 : Int64))) - (4294967296 : Int64)))
def j_X2_withoutFront (x0 : Int64) (post : Int64 → Prop) : Prop := znm (((x0 &&& (4294967295 : Int64)).toUInt64 >>> ((4 : Int32).toInt64.toUInt64 &&& Int64.toUInt64 63)).toInt64) fun v1 => j_X2_length x0 (fun r2 => post (v1 ||| (((r2 - (1 : Int32)).toInt64) <<< ((32 : Int32).toInt64 &&& 63))))
def j_X5_isWorker (x0 : Int32) (post : Int32 → Prop) : Prop := ((x0 < 0 → post (0 : Int32)) ∧ (¬ x0 < 0 → (((3 : Int32) ≤ x0 → post (0 : Int32)) ∧ (¬ (3 : Int32) ≤ x0 → post (1 : Int32)))))
def j_X5_isValue (x0 : Int32) (post : Int32 → Prop) : Prop := ((x0 < 0 → post (0 : Int32)) ∧ (¬ x0 < 0 → (((16 : Int32) ≤ x0 → post (0 : Int32)) ∧ (¬ (16 : Int32) ≤ x0 → post (1 : Int32)))))
def j_X5_isIn (x0 : Int32) (x1 : Int32) (post : Int32 → Prop) : Prop := ((((x0 >>> (x1 &&& 31)) &&& (1 : Int32)) = 0 → post (0 : Int32)) ∧ (¬ ((x0 >>> (x1 &&& 31)) &&& (1 : Int32)) = 0 → post (1 : Int32)))
def j_JI_bitCount (x0 : Int32) (post : Int32 → Prop) : Prop := znm (x0 - (((x0.toUInt32 >>> ((1 : Int32).toUInt32 &&& Int32.toUInt32 31)).toInt32) &&& (1431655765 : Int32))) fun v1 => znm ((v1 &&& (858993459 : Int32)) + (((v1.toUInt32 >>> ((2 : Int32).toUInt32 &&& Int32.toUInt32 31)).toInt32) &&& (858993459 : Int32))) fun v2 => znm ((v2 + ((v2.toUInt32 >>> ((4 : Int32).toUInt32 &&& Int32.toUInt32 31)).toInt32)) &&& (252645135 : Int32)) fun v3 => znm (v3 + ((v3.toUInt32 >>> ((8 : Int32).toUInt32 &&& Int32.toUInt32 31)).toInt32)) fun v4 => znm (v4 + ((v4.toUInt32 >>> ((16 : Int32).toUInt32 &&& Int32.toUInt32 31)).toInt32)) fun v5 => post (v5 &&& (63 : Int32))
def j_X4_setUp (x1 : Int32) (x2 : Int32) (σ : zS) (post : zS → Prop) : Prop := ((x1 = (1 : Int32) → znm (zI σ 0 x1) fun σ1 => znm (zI σ1 1 (if (1 : Int32) < (if (8 : Int32) < x2 then (8 : Int32) else x2) then (if (8 : Int32) < x2 then (8 : Int32) else x2) else (1 : Int32))) fun σ2 => post σ2) ∧ (¬ x1 = (1 : Int32) → ((x1 = (2 : Int32) → znm (zI σ 0 x1) fun σ5 => znm (zI σ5 1 (if (1 : Int32) < (if (8 : Int32) < x2 then (8 : Int32) else x2) then (if (8 : Int32) < x2 then (8 : Int32) else x2) else (1 : Int32))) fun σ6 => post σ6) ∧ (¬ x1 = (2 : Int32) → znm (zI σ 0 (0 : Int32)) fun σ3 => znm (zI σ3 1 (if (1 : Int32) < (if (8 : Int32) < x2 then (8 : Int32) else x2) then (if (8 : Int32) < x2 then (8 : Int32) else x2) else (1 : Int32))) fun σ4 => post σ4))))
def j_X4_letsPut (x1 : Int32) (σ : zS) (post : Int32 → zS → Prop) : Prop := (((σ.1 0) = (2 : Int32) → ((x1 = 0 → post (1 : Int32) σ) ∧ (¬ x1 = 0 → post (0 : Int32) σ))) ∧ (¬ (σ.1 0) = (2 : Int32) → post (1 : Int32) σ))
def j_X4_hasRoom (x1 : Int64) (σ : zS) (post : Int32 → zS → Prop) : Prop := j_X2_length x1 (fun r1 => (((σ.1 1) ≤ r1 → post (0 : Int32) σ) ∧ (¬ (σ.1 1) ≤ r1 → post (1 : Int32) σ)))
def j_X4_takesBack (x1 : Int32) (σ : zS) (post : Int32 → zS → Prop) : Prop := (((σ.1 0) = (1 : Int32) → post (1 : Int32) σ) ∧ (¬ (σ.1 0) = (1 : Int32) → (((σ.1 0) = (2 : Int32) → ((x1 = 0 → post (1 : Int32) σ) ∧ (¬ x1 = 0 → post (0 : Int32) σ))) ∧ (¬ (σ.1 0) = (2 : Int32) → post (0 : Int32) σ))))
def j_X4_replyTo (j1 : Nat) (x2 : Int64) (σ : zS) (post : Int32 → zS → Prop) : Prop := (((σ.2.1 6 j1) = 0 → (((lg_cmp x2 (0 : Int64)) = 0 → post (-1 : Int32) σ) ∧ (¬ (lg_cmp x2 (0 : Int64)) = 0 → j_X4_takesBack (σ.2.1 5 j1) σ (fun r2 σ1 => ((r2 = 0 → j_X2_valueAt x2 (0 : Int32) (fun r3 => post r3 σ1)) ∧ (¬ r2 = 0 → j_X2_length x2 (fun r4 => j_X2_valueAt x2 (r4 - (1 : Int32)) (fun r5 => post r5 σ1)))))))) ∧ (¬ (σ.2.1 6 j1) = 0 → j_X4_hasRoom x2 σ (fun r7 σ6 => ((r7 = 0 → post (0 : Int32) σ6) ∧ (¬ r7 = 0 → post (1 : Int32) σ6)))))
def j_X4_rowAfter (j1 : Nat) (x2 : Int64) (σ : zS) (post : Int64 → zS → Prop) : Prop := (((σ.2.1 6 j1) = 0 → (((lg_cmp x2 (0 : Int64)) = 0 → post x2 σ) ∧ (¬ (lg_cmp x2 (0 : Int64)) = 0 → j_X4_takesBack (σ.2.1 5 j1) σ (fun r2 σ1 => ((r2 = 0 → j_X2_withoutFront x2 (fun r3 => post r3 σ1)) ∧ (¬ r2 = 0 → j_X2_withoutBack x2 (fun r4 => post r4 σ1))))))) ∧ (¬ (σ.2.1 6 j1) = 0 → j_X4_hasRoom x2 σ (fun r6 σ5 => ((r6 = 0 → post x2 σ5) ∧ (¬ r6 = 0 → j_X2_withBack x2 (σ5.2.1 7 j1) (fun r7 => post r7 σ5))))))
def j_X0_startPut (j : Nat) (x1 : Int32) (x2 : Int32) (x3 : Int32) (σ : zS) (post : zS → Prop) : Prop := znm (zA σ 5 j x1) fun σ1 => znm (zA σ1 6 j (1 : Int32)) fun σ2 => znm (zA σ2 7 j x2) fun σ3 => znm (zA σ3 8 j x3) fun σ4 => post σ4
def j_X0_startTake (j : Nat) (x1 : Int32) (x2 : Int32) (σ : zS) (post : zS → Prop) : Prop := znm (zA σ 5 j x1) fun σ1 => znm (zA σ1 6 j (0 : Int32)) fun σ2 => znm (zA σ2 8 j x2) fun σ3 => post σ3
def j_X3_clear (σ : zS) (post : zS → Prop) : Prop := znm (zF σ 4 (zfl (σ.2.1 4) 1024 (0 : Int32))) fun σ1 => znm (zI σ1 8 (0 : Int32)) fun σ2 => post σ2
def b_X3_add_13 (x1 : Int64) (post : zS → Prop) (K : Int32 → Int32 → zS → Prop) (R : Int32 × Int32 × zS → Prop) (q : Int32 × Int32 × zS) : Prop := match q with
  | (y3, y4, σ) => (((1024 : Int32) ≤ y4 → K y3 y4 σ) ∧ (¬ (1024 : Int32) ≤ y4 → (vp_in y3 1024 ∧ znm (σ.2.1 4 y3.toNatClampNeg) fun v3 => ((v3 = 0 → ((v3 = 0 → (((680 : Int32) ≤ (σ.1 8) → znm ((y3 + (1 : Int32)) - (y3 + (1 : Int32)) / (1024 : Int32) * (1024 : Int32)) fun v5 => R (v5, y4 + 1, σ)) ∧ (¬ (680 : Int32) ≤ (σ.1 8) → (vp_in (σ.1 8) 680 ∧ znm (zL σ 0 (σ.1 8).toNatClampNeg x1) fun σ7 => znm (zI σ7 8 ((σ7.1 8) + (1 : Int32))) fun σ8 => (vp_in y3 1024 ∧ znm (zA σ8 4 y3.toNatClampNeg (σ8.1 8)) fun σ10 => post σ10))))) ∧ (¬ v3 = 0 → znm ((y3 + (1 : Int32)) - (y3 + (1 : Int32)) / (1024 : Int32) * (1024 : Int32)) fun v4 => R (v4, y4 + 1, σ)))) ∧ (¬ v3 = 0 → (vp_in (v3 - (1 : Int32)) 680 ∧ (((lg_cmp (σ.2.2 0 (v3 - (1 : Int32)).toNatClampNeg) x1) = 0 → post σ) ∧ (¬ (lg_cmp (σ.2.2 0 (v3 - (1 : Int32)).toNatClampNeg) x1) = 0 → ((v3 = 0 → (((680 : Int32) ≤ (σ.1 8) → znm ((y3 + (1 : Int32)) - (y3 + (1 : Int32)) / (1024 : Int32) * (1024 : Int32)) fun v13 => R (v13, y4 + 1, σ)) ∧ (¬ (680 : Int32) ≤ (σ.1 8) → (vp_in (σ.1 8) 680 ∧ znm (zL σ 0 (σ.1 8).toNatClampNeg x1) fun σ15 => znm (zI σ15 8 ((σ15.1 8) + (1 : Int32))) fun σ16 => (vp_in y3 1024 ∧ znm (zA σ16 4 y3.toNatClampNeg (σ16.1 8)) fun σ18 => post σ18))))) ∧ (¬ v3 = 0 → znm ((y3 + (1 : Int32)) - (y3 + (1 : Int32)) / (1024 : Int32) * (1024 : Int32)) fun v12 => R (v12, y4 + 1, σ)))))))))))
def j_X3_add (x1 : Int64) (σ : zS) (post : zS → Prop) : Prop := znm ((((x1 * (-7046029254386353131 : Int64)).toUInt64 >>> ((54 : Int32).toInt64.toUInt64 &&& Int64.toUInt64 63)).toInt64).toInt32) fun v1 => zLP (b_X3_add_13 x1 post (fun v19 v20 σ21 => post σ21)) (v1, (0 : Int32), σ)
def b_X3_shortest_4 (post : Int32 → zS → Prop) (K : Int32 → Int32 → zS → Prop) (R : Int32 × Int32 × zS → Prop) (q : Int32 × Int32 × zS) : Prop := match q with
  | (y1, y2, σ) => (((σ.1 8) ≤ y2 → K y1 y2 σ) ∧ (¬ (σ.1 8) ≤ y2 → (vp_in y2 680 ∧ j_X2_length (σ.2.2 0 y2.toNatClampNeg) (fun r2 => ((y1 = (-1 : Int32) → R (r2, y2 + 1, σ)) ∧ (¬ y1 = (-1 : Int32) → znm ((if r2 < y1 then r2 else y1)) fun v3 => R (v3, y2 + 1, σ)))))))
def j_X3_shortest (σ : zS) (post : Int32 → zS → Prop) : Prop := zLP (b_X3_shortest_4 post (fun v4 v5 σ6 => post v4 σ6)) ((-1 : Int32), (0 : Int32), σ)
def b_X3_longest_4 (post : Int32 → zS → Prop) (K : Int32 → Int32 → zS → Prop) (R : Int32 × Int32 × zS → Prop) (q : Int32 × Int32 × zS) : Prop := match q with
  | (y1, y2, σ) => (((σ.1 8) ≤ y2 → K y1 y2 σ) ∧ (¬ (σ.1 8) ≤ y2 → (vp_in y2 680 ∧ j_X2_length (σ.2.2 0 y2.toNatClampNeg) (fun r2 => znm ((if y1 < r2 then r2 else y1)) fun v3 => R (v3, y2 + 1, σ)))))
def j_X3_longest (σ : zS) (post : Int32 → zS → Prop) : Prop := zLP (b_X3_longest_4 post (fun v4 v5 σ6 => post v4 σ6)) ((-1 : Int32), (0 : Int32), σ)
def b_X3_anyHas_2 (x1 : Int32) (x2 : Int32) (post : Int32 → zS → Prop) (K : Int32 → zS → Prop) (R : Int32 × zS → Prop) (q : Int32 × zS) : Prop := match q with
  | (y3, σ) => (((σ.1 8) ≤ y3 → K y3 σ) ∧ (¬ (σ.1 8) ≤ y3 → ((x1 < 0 → R (y3 + 1, σ)) ∧ (¬ x1 < 0 → (vp_in y3 680 ∧ j_X2_length (σ.2.2 0 y3.toNatClampNeg) (fun r2 => ((r2 ≤ x1 → R (y3 + 1, σ)) ∧ (¬ r2 ≤ x1 → (vp_in y3 680 ∧ j_X2_valueAt (σ.2.2 0 y3.toNatClampNeg) x1 (fun r4 => ((r4 = x2 → post (1 : Int32) σ) ∧ (¬ r4 = x2 → R (y3 + 1, σ)))))))))))))
def j_X3_anyHas (x1 : Int32) (x2 : Int32) (σ : zS) (post : Int32 → zS → Prop) : Prop := zLP (b_X3_anyHas_2 x1 x2 post (fun v5 σ6 => post (0 : Int32) σ6)) ((0 : Int32), σ)
def j_X1_clear (σ : zS) (post : zS → Prop) : Prop := j_X3_clear  σ (fun σ1 => znm (zF σ1 2 (zfl (σ1.2.1 2) 3 (0 : Int32))) fun σ2 => znm (zF σ2 3 (zfl (σ2.2.1 3) 3 (0 : Int32))) fun σ3 => znm (zI σ3 7 (0 : Int32)) fun σ4 => post σ4)
def j_X1_addExplanation (x1 : Int64) (σ : zS) (post : zS → Prop) : Prop := znm (zI σ 7 ((σ.1 7) + (1 : Int32))) fun σ1 => j_X3_add x1 σ1 (fun σ2 => post σ2)
def j_X1_addReply (x1 : Int32) (x2 : Int32) (σ : zS) (post : zS → Prop) : Prop := (vp_in x1 3 ∧ (vp_in x1 3 ∧ znm (zA σ 2 x1.toNatClampNeg ((σ.2.1 2 x1.toNatClampNeg) + (1 : Int32))) fun σ3 => (vp_in x1 3 ∧ (vp_in x1 3 ∧ znm (zA σ3 3 x1.toNatClampNeg ((σ3.2.1 3 x1.toNatClampNeg) ||| ((1 : Int32) <<< ((x2 - (-1 : Int32)) &&& 31)))) fun σ6 => post σ6))))
def j_X5_hasOpenCall (x1 : Int32) (σ : zS) (post : Int32 → zS → Prop) : Prop := j_X5_isWorker x1 (fun r1 => ((r1 = 0 → post (0 : Int32) σ) ∧ (¬ r1 = 0 → (vp_in x1 3 ∧ (((σ.2.1 0 x1.toNatClampNeg) = (-1 : Int32) → post (0 : Int32) σ) ∧ (¬ (σ.2.1 0 x1.toNatClampNeg) = (-1 : Int32) → post (1 : Int32) σ))))))
def j_X5_mayBegin (x1 : Int32) (σ : zS) (post : Int32 → zS → Prop) : Prop := j_X5_isWorker x1 (fun r1 => ((r1 = 0 → post (0 : Int32) σ) ∧ (¬ r1 = 0 → (vp_in x1 3 ∧ (((σ.2.1 0 x1.toNatClampNeg) = (-1 : Int32) → (((8 : Int32) ≤ (σ.1 2) → post (0 : Int32) σ) ∧ (¬ (8 : Int32) ≤ (σ.1 2) → post (1 : Int32) σ))) ∧ (¬ (σ.2.1 0 x1.toNatClampNeg) = (-1 : Int32) → post (0 : Int32) σ))))))
def j_X5_openNextCall (x1 : Int32) (σ : zS) (post : zS → Prop) : Prop := (vp_in x1 3 ∧ znm (zA σ 0 x1.toNatClampNeg (σ.1 2)) fun σ2 => znm (zI σ2 2 ((σ2.1 2) + (1 : Int32))) fun σ3 => znm (zI σ3 5 ((σ3.1 5) + (1 : Int32))) fun σ4 => post σ4)
def j_X5_closeOpenCall (x1 : Int32) (σ : zS) (post : zS → Prop) : Prop := (vp_in x1 3 ∧ znm (zA σ 0 x1.toNatClampNeg (-1 : Int32)) fun σ2 => znm (zI σ2 5 ((σ2.1 5) + (1 : Int32))) fun σ3 => post σ3)
def j_X5_endOpenCall (x1 : Int32) (x2 : Int32) (σ : zS) (post : zS → Prop) : Prop := (vp_in x1 3 ∧ znm (σ.2.1 0 x1.toNatClampNeg) fun v2 => (vp_in v2 8 ∧ znm (zA σ 9 v2.toNatClampNeg x2) fun σ4 => znm (zI σ4 3 ((σ4.1 3) ||| ((1 : Int32) <<< (v2 &&& 31)))) fun σ5 => j_X5_closeOpenCall x1 σ5 (fun σ6 => post σ6)))
def j_X5_events (σ : zS) (post : Int32 → zS → Prop) : Prop := post (σ.1 5) σ
def j_X5_begun (σ : zS) (post : Int32 → zS → Prop) : Prop := post (σ.1 2) σ
def j_X5_fits (σ : zS) (post : Int32 → zS → Prop) : Prop := (((σ.1 7) ≤ 0 → post (0 : Int32) σ) ∧ (¬ (σ.1 7) ≤ 0 → post (1 : Int32) σ))
def j_X5_brokenAt (σ : zS) (post : Int32 → zS → Prop) : Prop := post (σ.1 6) σ
def j_X5_explanations (σ : zS) (post : Int64 → zS → Prop) : Prop := post ((σ.1 7).toInt64) σ
def j_X5_outcomes (σ : zS) (post : Int32 → zS → Prop) : Prop := post (σ.1 8) σ
def j_X5_fewest (σ : zS) (post : Int32 → zS → Prop) : Prop := j_X3_shortest  σ (fun r2 σ1 => post r2 σ1)
def j_X5_most (σ : zS) (post : Int32 → zS → Prop) : Prop := j_X3_longest  σ (fun r2 σ1 => post r2 σ1)
def j_X5_mayHold (x1 : Int32) (x2 : Int32) (σ : zS) (post : Int32 → zS → Prop) : Prop := j_X3_anyHas x1 x2 σ (fun r2 σ1 => (narrow .boolean (.int r2) = .int r2 ∧ post r2 σ1))
def j_X5_certain (x1 : Int32) (σ : zS) (post : Int32 → zS → Prop) : Prop := j_X5_fits  σ (fun r2 σ1 => ((r2 = 0 → post (0 : Int32) σ1) ∧ (¬ r2 = 0 → j_X5_hasOpenCall x1 σ1 (fun r4 σ3 => ((r4 = 0 → post (0 : Int32) σ3) ∧ (¬ r4 = 0 → (vp_in x1 3 ∧ (((σ3.2.1 2 x1.toNatClampNeg) = (σ3.1 7) → post (1 : Int32) σ3) ∧ (¬ (σ3.2.1 2 x1.toNatClampNeg) = (σ3.1 7) → post (0 : Int32) σ3)))))))))
def j_X5_answers (x1 : Int32) (σ : zS) (post : Int32 → zS → Prop) : Prop := j_X5_hasOpenCall x1 σ (fun r2 σ1 => ((r2 = 0 → post (0 : Int32) σ1) ∧ (¬ r2 = 0 → (vp_in x1 3 ∧ j_JI_bitCount (σ1.2.1 3 x1.toNatClampNeg) (fun r4 => post r4 σ1)))))
def j_X5_mayStandNext (x1 : Int32) (x2 : Int32) (σ : zS) (post : Int32 → zS → Prop) : Prop := j_X5_isIn (x2 ||| (σ.1 4)) x1 (fun r1 => ((r1 = 0 → (vp_in x1 8 ∧ ((((σ.2.1 8 x1.toNatClampNeg) &&& (x2 ^^^ (-1 : Int32))) = 0 → post (1 : Int32) σ) ∧ (¬ ((σ.2.1 8 x1.toNatClampNeg) &&& (x2 ^^^ (-1 : Int32))) = 0 → post (0 : Int32) σ)))) ∧ (¬ r1 = 0 → post (0 : Int32) σ)))
def b_X5_noteExplanation_11 (x1 : Int32) (post : zS → Prop) (K : Int32 → zS → Prop) (R : Int32 × zS → Prop) (q : Int32 × zS) : Prop := match q with
  | (y4, σ) => (((3 : Int32) ≤ y4 → K y4 σ) ∧ (¬ (3 : Int32) ≤ y4 → (vp_in y4 3 ∧ znm (σ.2.1 0 y4.toNatClampNeg) fun v3 => ((v3 = (-1 : Int32) → R (y4 + 1, σ)) ∧ (¬ v3 = (-1 : Int32) → j_X5_isIn x1 v3 (fun r4 => ((r4 = 0 → R (y4 + 1, σ)) ∧ (¬ r4 = 0 → (vp_in v3 8 ∧ j_X1_addReply y4 (σ.2.1 1 v3.toNatClampNeg) σ (fun σ6 => R (y4 + 1, σ6)))))))))))
def j_X5_noteExplanation (x1 : Int32) (x2 : Int64) (σ : zS) (post : zS → Prop) : Prop := j_X1_addExplanation x2 σ (fun σ1 => zLP (b_X5_noteExplanation_11 x1 post (fun v7 σ8 => post σ8)) ((0 : Int32), σ1))
def jF_X5_carryOut (FL : Int32 → Int64 → Int32 → zS → (zS → Prop) → Prop) (x1 : Int32) (x2 : Int32) (x3 : Int64) (x5 : Int32) (σ : zS) (post : zS → Prop) : Prop := (vp_in x1 8 ∧ j_X4_replyTo x1.toNatClampNeg x3 σ (fun r3 σ2 => j_X5_isIn (σ2.1 3) x1 (fun r4 => ((r4 = 0 → (vp_in x1 8 ∧ znm (zA σ2 1 x1.toNatClampNeg r3) fun σ6 => (vp_in x1 8 ∧ j_X4_rowAfter x1.toNatClampNeg x3 σ6 (fun r9 σ8 => FL (x2 ||| ((1 : Int32) <<< (x1 &&& 31))) r9 (x5 + (1 : Int32)) σ8 (fun σ10 => post σ10))))) ∧ (¬ r4 = 0 → (vp_in x1 8 ∧ ((r3 = (σ2.2.1 9 x1.toNatClampNeg) → (vp_in x1 8 ∧ znm (zA σ2 1 x1.toNatClampNeg r3) fun σ13 => (vp_in x1 8 ∧ j_X4_rowAfter x1.toNatClampNeg x3 σ13 (fun r16 σ15 => FL (x2 ||| ((1 : Int32) <<< (x1 &&& 31))) r16 (x5 + (1 : Int32)) σ15 (fun σ17 => post σ17))))) ∧ (¬ r3 = (σ2.2.1 9 x1.toNatClampNeg) → post σ2))))))))
def b_X5_lengthenList_28 (FC : Int32 → Int32 → Int64 → Int32 → zS → (zS → Prop) → Prop) (x1 : Int32) (x2 : Int64) (x4 : Int32) (post : zS → Prop) (K : Int32 → zS → Prop) (R : Int32 × zS → Prop) (q : Int32 × zS) : Prop := match q with
  | (y5, σ) => (((σ.1 2) ≤ y5 → K y5 σ) ∧ (¬ (σ.1 2) ≤ y5 → j_X5_mayStandNext y5 x1 σ (fun r2 σ1 => ((r2 = 0 → R (y5 + 1, σ1)) ∧ (¬ r2 = 0 → FC y5 x1 x2 x4 σ1 (fun σ3 => R (y5 + 1, σ3)))))))
def jF_X5_lengthenList (FC : Int32 → Int32 → Int64 → Int32 → zS → (zS → Prop) → Prop) (x1 : Int32) (x2 : Int64) (x4 : Int32) (σ : zS) (post : zS → Prop) : Prop := ((((σ.1 3) &&& (x1 ^^^ (-1 : Int32))) = 0 → j_X5_noteExplanation x1 x2 σ (fun σ6 => ((x4 < (8 : Int32) → zLP (b_X5_lengthenList_28 FC x1 x2 x4 post (fun v7 σ8 => post σ8)) ((0 : Int32), σ6)) ∧ (¬ x4 < (8 : Int32) → post σ6)))) ∧ (¬ ((σ.1 3) &&& (x1 ^^^ (-1 : Int32))) = 0 → ((x4 < (8 : Int32) → zLP (b_X5_lengthenList_28 FC x1 x2 x4 post (fun v4 σ5 => post σ5)) ((0 : Int32), σ)) ∧ (¬ x4 < (8 : Int32) → post σ))))
def jLL : Nat → Int32 → Int64 → Int32 → zS → (zS → Prop) → Prop
  | 0 => fun _ _ _ _ _ => False
  | d + 1 => jF_X5_lengthenList (jF_X5_carryOut (jLL d))
def j_X5_lengthenList : Int32 → Int64 → Int32 → zS → (zS → Prop) → Prop := jLL 9
def j_X5_review (σ : zS) (post : zS → Prop) : Prop := j_X1_clear  σ (fun σ1 => j_X5_lengthenList (0 : Int32) (0 : Int64) (0 : Int32) σ1 (fun σ2 => (((σ2.1 6) = 0 → j_X5_fits  σ2 (fun r4 σ3 => ((r4 = 0 → znm (zI σ3 6 (σ3.1 5)) fun σ5 => post σ5) ∧ (¬ r4 = 0 → post σ3)))) ∧ (¬ (σ2.1 6) = 0 → post σ2))))
def j_X5_startRecord (x1 : Int32) (x2 : Int32) (σ : zS) (post : zS → Prop) : Prop := j_X4_setUp x1 x2 σ (fun σ1 => znm (zF σ1 0 (zfl (σ1.2.1 0) 3 (-1 : Int32))) fun σ2 => znm (zI σ2 2 (0 : Int32)) fun σ3 => znm (zI σ3 3 (0 : Int32)) fun σ4 => znm (zI σ4 4 (0 : Int32)) fun σ5 => znm (zI σ5 5 (0 : Int32)) fun σ6 => znm (zI σ6 6 (0 : Int32)) fun σ7 => j_X5_review  σ7 (fun σ8 => post σ8))
def j_X5_renew (x1 : Int32) (x2 : Int32) (σ : zS) (post : zS → Prop) : Prop := j_X5_startRecord x1 x2 σ (fun σ1 => post σ1)
def j_X5_beginPut (x1 : Int32) (x2 : Int32) (σ : zS) (post : Int32 → zS → Prop) : Prop := j_X5_mayBegin x1 σ (fun r2 σ1 => ((r2 = 0 → post (0 : Int32) σ1) ∧ (¬ r2 = 0 → j_X5_isValue x2 (fun r3 => ((r3 = 0 → post (0 : Int32) σ1) ∧ (¬ r3 = 0 → j_X4_letsPut x1 σ1 (fun r5 σ4 => ((r5 = 0 → post (0 : Int32) σ4) ∧ (¬ r5 = 0 → (vp_in (σ4.1 2) 8 ∧ j_X0_startPut ((σ4.1 2).toNatClampNeg) x1 x2 (σ4.1 3) σ4 (fun σ7 => j_X5_openNextCall x1 σ7 (fun σ8 => j_X5_review  σ8 (fun σ9 => post (1 : Int32) σ9)))))))))))))
def j_X5_beginTake (x1 : Int32) (σ : zS) (post : Int32 → zS → Prop) : Prop := j_X5_mayBegin x1 σ (fun r2 σ1 => ((r2 = 0 → post (0 : Int32) σ1) ∧ (¬ r2 = 0 → (vp_in (σ1.1 2) 8 ∧ j_X0_startTake ((σ1.1 2).toNatClampNeg) x1 (σ1.1 3) σ1 (fun σ4 => j_X5_openNextCall x1 σ4 (fun σ5 => j_X5_review  σ5 (fun σ6 => post (1 : Int32) σ6)))))))
def j_X5_endPut (x1 : Int32) (x2 : Int32) (σ : zS) (post : Int32 → zS → Prop) : Prop := j_X5_hasOpenCall x1 σ (fun r2 σ1 => ((r2 = 0 → post (0 : Int32) σ1) ∧ (¬ r2 = 0 → (vp_in x1 3 ∧ (vp_in (σ1.2.1 0 x1.toNatClampNeg) 8 ∧ (((σ1.2.1 6 ((σ1.2.1 0 x1.toNatClampNeg).toNatClampNeg)) = 0 → post (0 : Int32) σ1) ∧ (¬ (σ1.2.1 6 ((σ1.2.1 0 x1.toNatClampNeg).toNatClampNeg)) = 0 → ((x2 = 0 → j_X5_endOpenCall x1 (0 : Int32) σ1 (fun σ5 => j_X5_review  σ5 (fun σ6 => post (1 : Int32) σ6))) ∧ (¬ x2 = 0 → j_X5_endOpenCall x1 (1 : Int32) σ1 (fun σ7 => j_X5_review  σ7 (fun σ8 => post (1 : Int32) σ8)))))))))))
def j_X5_endTake (x1 : Int32) (x2 : Int32) (σ : zS) (post : Int32 → zS → Prop) : Prop := j_X5_hasOpenCall x1 σ (fun r2 σ1 => ((r2 = 0 → post (0 : Int32) σ1) ∧ (¬ r2 = 0 → (vp_in x1 3 ∧ (vp_in (σ1.2.1 0 x1.toNatClampNeg) 8 ∧ (((σ1.2.1 6 ((σ1.2.1 0 x1.toNatClampNeg).toNatClampNeg)) = 0 → ((x2 = (-1 : Int32) → j_X5_endOpenCall x1 x2 σ1 (fun σ5 => j_X5_review  σ5 (fun σ6 => post (1 : Int32) σ6))) ∧ (¬ x2 = (-1 : Int32) → j_X5_isValue x2 (fun r7 => ((r7 = 0 → post (0 : Int32) σ1) ∧ (¬ r7 = 0 → j_X5_endOpenCall x1 x2 σ1 (fun σ8 => j_X5_review  σ8 (fun σ9 => post (1 : Int32) σ9)))))))) ∧ (¬ (σ1.2.1 6 ((σ1.2.1 0 x1.toNatClampNeg).toNatClampNeg)) = 0 → post (0 : Int32) σ1)))))))
def j_X5_giveUp (x1 : Int32) (σ : zS) (post : Int32 → zS → Prop) : Prop := j_X5_hasOpenCall x1 σ (fun r2 σ1 => ((r2 = 0 → post (0 : Int32) σ1) ∧ (¬ r2 = 0 → (vp_in x1 3 ∧ znm (zI σ1 4 ((σ1.1 4) ||| ((1 : Int32) <<< ((σ1.2.1 0 x1.toNatClampNeg) &&& 31)))) fun σ4 => j_X5_closeOpenCall x1 σ4 (fun σ5 => j_X5_review  σ5 (fun σ6 => post (1 : Int32) σ6))))))
def b_M_openOf_4 (x1 : Int32) (post : Int32 → zS → Prop) (K : Int32 → Int32 → zS → Prop) (R : Int32 × Int32 × zS → Prop) (q : Int32 × Int32 × zS) : Prop := match q with
  | (y2, y3, σ) => (((σ.1 4) ≤ y3 → K y2 y3 σ) ∧ (¬ (σ.1 4) ≤ y3 → (vp_in y3 8 ∧ (((σ.2.1 0 y3.toNatClampNeg) = x1 → (vp_in y3 8 ∧ (((σ.2.1 6 y3.toNatClampNeg) = 0 → R (y3, y3 + 1, σ)) ∧ (¬ (σ.2.1 6 y3.toNatClampNeg) = 0 → R (y2, y3 + 1, σ))))) ∧ (¬ (σ.2.1 0 y3.toNatClampNeg) = x1 → R (y2, y3 + 1, σ))))))
def j_M_openOf (x1 : Int32) (σ : zS) (post : Int32 → zS → Prop) : Prop := zLP (b_M_openOf_4 x1 post (fun v3 v4 σ5 => post v3 σ5)) ((-1 : Int32), (0 : Int32), σ)
def b_M_carryOut_127 (x2 : Int32) (x3 : Int32) (post : Int32 → zS → Prop) (K : Int32 → zS → Prop) (R : Int32 × zS → Prop) (q : Int32 × zS) : Prop := match q with
  | (y4, σ) => (((σ.1 6) ≤ y4 → K y4 σ) ∧ (¬ (σ.1 6) ≤ y4 → ((x2 = 0 → (vp_in (y4 + (1 : Int32)) 8 ∧ (vp_in y4 8 ∧ znm (zA σ 10 y4.toNatClampNeg (σ.2.1 10 (y4 + (1 : Int32)).toNatClampNeg)) fun σ7 => R (y4 + 1, σ7)))) ∧ (¬ x2 = 0 → K y4 σ))))
def j_M_carryOut (x1 : Int32) (σ : zS) (post : Int32 → zS → Prop) : Prop := (vp_in x1 8 ∧ (((σ.2.1 1 x1.toNatClampNeg) = 0 → (((σ.1 6) = 0 → post (-1 : Int32) σ) ∧ (¬ (σ.1 6) = 0 → (((σ.1 0) = (1 : Int32) → (((1 : Int32) = 0 → (vp_in (0 : Int32) 8 ∧ znm (σ.2.1 10 (0 : Int32).toNatClampNeg) fun v3 => znm (zI σ 6 ((σ.1 6) - (1 : Int32))) fun σ4 => zLP (b_M_carryOut_127 (1 : Int32) v3 post (fun v8 σ9 => post v3 σ9)) ((0 : Int32), σ4))) ∧ (¬ (1 : Int32) = 0 → (vp_in ((σ.1 6) - (1 : Int32)) 8 ∧ znm (σ.2.1 10 ((σ.1 6) - (1 : Int32)).toNatClampNeg) fun v11 => znm (zI σ 6 ((σ.1 6) - (1 : Int32))) fun σ12 => zLP (b_M_carryOut_127 (1 : Int32) v11 post (fun v13 σ14 => post v11 σ14)) ((0 : Int32), σ12))))) ∧ (¬ (σ.1 0) = (1 : Int32) → (((σ.1 0) = (2 : Int32) → (vp_in x1 8 ∧ (((σ.2.1 0 x1.toNatClampNeg) = 0 → (((1 : Int32) = 0 → (vp_in (0 : Int32) 8 ∧ znm (σ.2.1 10 (0 : Int32).toNatClampNeg) fun v37 => znm (zI σ 6 ((σ.1 6) - (1 : Int32))) fun σ38 => zLP (b_M_carryOut_127 (1 : Int32) v37 post (fun v39 σ40 => post v37 σ40)) ((0 : Int32), σ38))) ∧ (¬ (1 : Int32) = 0 → (vp_in ((σ.1 6) - (1 : Int32)) 8 ∧ znm (σ.2.1 10 ((σ.1 6) - (1 : Int32)).toNatClampNeg) fun v42 => znm (zI σ 6 ((σ.1 6) - (1 : Int32))) fun σ43 => zLP (b_M_carryOut_127 (1 : Int32) v42 post (fun v44 σ45 => post v42 σ45)) ((0 : Int32), σ43))))) ∧ (¬ (σ.2.1 0 x1.toNatClampNeg) = 0 → (((0 : Int32) = 0 → (vp_in (0 : Int32) 8 ∧ znm (σ.2.1 10 (0 : Int32).toNatClampNeg) fun v27 => znm (zI σ 6 ((σ.1 6) - (1 : Int32))) fun σ28 => zLP (b_M_carryOut_127 (0 : Int32) v27 post (fun v29 σ30 => post v27 σ30)) ((0 : Int32), σ28))) ∧ (¬ (0 : Int32) = 0 → (vp_in ((σ.1 6) - (1 : Int32)) 8 ∧ znm (σ.2.1 10 ((σ.1 6) - (1 : Int32)).toNatClampNeg) fun v32 => znm (zI σ 6 ((σ.1 6) - (1 : Int32))) fun σ33 => zLP (b_M_carryOut_127 (0 : Int32) v32 post (fun v34 σ35 => post v32 σ35)) ((0 : Int32), σ33)))))))) ∧ (¬ (σ.1 0) = (2 : Int32) → (((0 : Int32) = 0 → (vp_in (0 : Int32) 8 ∧ znm (σ.2.1 10 (0 : Int32).toNatClampNeg) fun v16 => znm (zI σ 6 ((σ.1 6) - (1 : Int32))) fun σ17 => zLP (b_M_carryOut_127 (0 : Int32) v16 post (fun v18 σ19 => post v16 σ19)) ((0 : Int32), σ17))) ∧ (¬ (0 : Int32) = 0 → (vp_in ((σ.1 6) - (1 : Int32)) 8 ∧ znm (σ.2.1 10 ((σ.1 6) - (1 : Int32)).toNatClampNeg) fun v21 => znm (zI σ 6 ((σ.1 6) - (1 : Int32))) fun σ22 => zLP (b_M_carryOut_127 (0 : Int32) v21 post (fun v23 σ24 => post v21 σ24)) ((0 : Int32), σ22))))))))))) ∧ (¬ (σ.2.1 1 x1.toNatClampNeg) = 0 → (((σ.1 6) < (σ.1 1) → (vp_in x1 8 ∧ (vp_in (σ.1 6) 8 ∧ znm (zA σ 10 (σ.1 6).toNatClampNeg (σ.2.1 2 x1.toNatClampNeg)) fun σ48 => znm (zI σ48 6 ((σ48.1 6) + (1 : Int32))) fun σ49 => post (1 : Int32) σ49))) ∧ (¬ (σ.1 6) < (σ.1 1) → post (0 : Int32) σ)))))
def b_M_isListed_4 (x1 : Int32) (post : Int32 → zS → Prop) (K : Int32 → Int32 → zS → Prop) (R : Int32 × Int32 × zS → Prop) (q : Int32 × Int32 × zS) : Prop := match q with
  | (y2, y3, σ) => (((σ.1 5) ≤ y3 → K y2 y3 σ) ∧ (¬ (σ.1 5) ≤ y3 → ((y2 = 0 → (vp_in y3 8 ∧ (((σ.2.1 7 y3.toNatClampNeg) = x1 → R ((1 : Int32), y3 + 1, σ)) ∧ (¬ (σ.2.1 7 y3.toNatClampNeg) = x1 → R ((0 : Int32), y3 + 1, σ))))) ∧ (¬ y2 = 0 → R ((1 : Int32), y3 + 1, σ)))))
def j_M_isListed (x1 : Int32) (σ : zS) (post : Int32 → zS → Prop) : Prop := zLP (b_M_isListed_4 x1 post (fun v2 v3 σ4 => (narrow .boolean (.int v2) = .int v2 ∧ post v2 σ4))) ((0 : Int32), (0 : Int32), σ)
def j_M_sizeOf (x1 : Int32) (σ : zS) (post : Int32 → zS → Prop) : Prop := (vp_in x1 1400 ∧ post (((σ.2.2 0 x1.toNatClampNeg) &&& (15 : Int64)).toInt32) σ)
def b_M_good_12 (x1 : Int32) (post : Int32 → zS → Prop) (K : Int32 → zS → Prop) (R : Int32 × zS → Prop) (q : Int32 × zS) : Prop := match q with
  | (y2, σ) => ((x1 ≤ y2 → K y2 σ) ∧ (¬ x1 ≤ y2 → (vp_in x1 8 ∧ (vp_in (σ.2.1 7 x1.toNatClampNeg) 8 ∧ (((σ.2.1 6 (σ.2.1 7 x1.toNatClampNeg).toNatClampNeg) = (1 : Int32) → (vp_in x1 8 ∧ (vp_in (σ.2.1 7 x1.toNatClampNeg) 8 ∧ (vp_in y2 8 ∧ (vp_in (σ.2.1 7 y2.toNatClampNeg) 8 ∧ (((σ.2.1 3 (σ.2.1 7 y2.toNatClampNeg).toNatClampNeg) ≤ (σ.2.1 4 (σ.2.1 7 x1.toNatClampNeg).toNatClampNeg) → R (y2 + 1, σ)) ∧ (¬ (σ.2.1 3 (σ.2.1 7 y2.toNatClampNeg).toNatClampNeg) ≤ (σ.2.1 4 (σ.2.1 7 x1.toNatClampNeg).toNatClampNeg) → post (0 : Int32) σ))))))) ∧ (¬ (σ.2.1 6 (σ.2.1 7 x1.toNatClampNeg).toNatClampNeg) = (1 : Int32) → R (y2 + 1, σ)))))))
def b_M_good_2 (post : Int32 → zS → Prop) (K : Int32 → zS → Prop) (R : Int32 × zS → Prop) (q : Int32 × zS) : Prop := match q with
  | (y1, σ) => (((σ.1 5) ≤ y1 → K y1 σ) ∧ (¬ (σ.1 5) ≤ y1 → zLP (b_M_good_12 y1 post (fun v7 σ8 => R (y1 + 1, σ8))) ((0 : Int32), σ)))
def b_M_good_78 (post : Int32 → zS → Prop) (K : Int32 → zS → Prop) (R : Int32 × zS → Prop) (q : Int32 × zS) : Prop := match q with
  | (y1, σ) => (((σ.1 5) ≤ y1 → K y1 σ) ∧ (¬ (σ.1 5) ≤ y1 → (vp_in y1 8 ∧ znm (σ.2.1 7 y1.toNatClampNeg) fun v13 => j_M_carryOut v13 σ (fun r15 σ14 => (vp_in v13 8 ∧ znm (zA σ14 8 v13.toNatClampNeg r15) fun σ17 => (vp_in v13 8 ∧ (((σ17.2.1 6 v13.toNatClampNeg) = (1 : Int32) → (vp_in v13 8 ∧ (vp_in v13 8 ∧ (((σ17.2.1 8 v13.toNatClampNeg) = (σ17.2.1 5 v13.toNatClampNeg) → R (y1 + 1, σ17)) ∧ (¬ (σ17.2.1 8 v13.toNatClampNeg) = (σ17.2.1 5 v13.toNatClampNeg) → post (0 : Int32) σ17))))) ∧ (¬ (σ17.2.1 6 v13.toNatClampNeg) = (1 : Int32) → R (y1 + 1, σ17)))))))))
def j_M_good (σ : zS) (post : Int32 → zS → Prop) : Prop := zLP (b_M_good_2 post (fun v9 σ10 => znm (zI σ10 6 (0 : Int32)) fun σ11 => zLP (b_M_good_78 post (fun v21 σ22 => post (1 : Int32) σ22)) ((0 : Int32), σ11))) ((1 : Int32), σ)
def b_M_note_2 (post : zS → Prop) (K : Int32 → zS → Prop) (R : Int32 × zS → Prop) (q : Int32 × zS) : Prop := match q with
  | (y1, σ) => (((σ.1 4) ≤ y1 → K y1 σ) ∧ (¬ (σ.1 4) ≤ y1 → (vp_in y1 8 ∧ (((σ.2.1 6 y1.toNatClampNeg) = (1 : Int32) → j_M_isListed y1 σ (fun r3 σ2 => ((r3 = 0 → post σ2) ∧ (¬ r3 = 0 → R (y1 + 1, σ2))))) ∧ (¬ (σ.2.1 6 y1.toNatClampNeg) = (1 : Int32) → R (y1 + 1, σ))))))
def b_M_note_53 (post : zS → Prop) (K : Int64 → Int32 → zS → Prop) (R : Int64 × Int32 × zS → Prop) (q : Int64 × Int32 × zS) : Prop := match q with
  | (y1, y3, σ) => (((σ.1 6) ≤ y3 → K y1 y3 σ) ∧ (¬ (σ.1 6) ≤ y3 → (vp_in y3 8 ∧ znm (y1 + (((σ.2.1 10 y3.toNatClampNeg).toInt64) <<< (((4 : Int32) + ((4 : Int32) * y3)).toInt64 &&& 63))) fun v9 => R (v9, y3 + 1, σ))))
def b_M_note_88 (x1 : Int64) (post : zS → Prop) (K : Int32 → Int32 → zS → Prop) (R : Int32 × Int32 × zS → Prop) (q : Int32 × Int32 × zS) : Prop := match q with
  | (y3, y4, σ) => (((σ.1 7) ≤ y4 → K y3 y4 σ) ∧ (¬ (σ.1 7) ≤ y4 → ((y3 = 0 → (vp_in y4 1400 ∧ (((lg_cmp (σ.2.2 0 y4.toNatClampNeg) x1) = 0 → R ((1 : Int32), y4 + 1, σ)) ∧ (¬ (lg_cmp (σ.2.2 0 y4.toNatClampNeg) x1) = 0 → R ((0 : Int32), y4 + 1, σ))))) ∧ (¬ y3 = 0 → R ((1 : Int32), y4 + 1, σ)))))
def b_M_note_162 (post : zS → Prop) (K : Int32 → zS → Prop) (R : Int32 × zS → Prop) (q : Int32 × zS) : Prop := match q with
  | (y4, σ) => (((σ.1 5) ≤ y4 → K y4 σ) ∧ (¬ (σ.1 5) ≤ y4 → (vp_in y4 8 ∧ znm (σ.2.1 7 y4.toNatClampNeg) fun v18 => (vp_in v18 8 ∧ (((σ.2.1 6 v18.toNatClampNeg) = 0 → (vp_in v18 8 ∧ (vp_in v18 8 ∧ (vp_in (σ.2.1 0 v18.toNatClampNeg) 3 ∧ (vp_in (σ.2.1 0 v18.toNatClampNeg) 3 ∧ znm (zL σ 1 (σ.2.1 0 v18.toNatClampNeg).toNatClampNeg ((σ.2.2 1 (σ.2.1 0 v18.toNatClampNeg).toNatClampNeg) + (1 : Int64))) fun σ24 => (vp_in v18 8 ∧ (vp_in v18 8 ∧ (vp_in (σ24.2.1 0 v18.toNatClampNeg) 3 ∧ (vp_in v18 8 ∧ (vp_in (σ24.2.1 0 v18.toNatClampNeg) 3 ∧ znm (zA σ24 11 (σ24.2.1 0 v18.toNatClampNeg).toNatClampNeg ((σ24.2.1 11 (σ24.2.1 0 v18.toNatClampNeg).toNatClampNeg) ||| ((1 : Int32) <<< (((σ24.2.1 8 v18.toNatClampNeg) + (1 : Int32)) &&& 31)))) fun σ30 => R (y4 + 1, σ30))))))))))) ∧ (¬ (σ.2.1 6 v18.toNatClampNeg) = 0 → R (y4 + 1, σ)))))))
def j_M_note (σ : zS) (post : zS → Prop) : Prop := zLP (b_M_note_2 post (fun v4 σ5 => znm (zT σ5 ((σ5.2.2 2 0) + (1 : Int64))) fun σ6 => znm ((σ6.1 6).toInt64) fun v7 => zLP (b_M_note_53 post (fun v10 v11 σ12 => zLP (b_M_note_88 v10 post (fun v14 v15 σ16 => ((v14 = 0 → (((1400 : Int32) ≤ (σ16.1 7) → zLP (b_M_note_162 post (fun v33 σ34 => post σ34)) ((0 : Int32), σ16)) ∧ (¬ (1400 : Int32) ≤ (σ16.1 7) → (vp_in (σ16.1 7) 1400 ∧ znm (zL σ16 0 (σ16.1 7).toNatClampNeg v10) fun σ36 => znm (zI σ36 7 ((σ36.1 7) + (1 : Int32))) fun σ37 => zLP (b_M_note_162 post (fun v38 σ39 => post σ39)) ((0 : Int32), σ37))))) ∧ (¬ v14 = 0 → zLP (b_M_note_162 post (fun v31 σ32 => post σ32)) ((0 : Int32), σ16))))) ((0 : Int32), (0 : Int32), σ12))) (v7, (0 : Int32), σ6))) ((0 : Int32), σ)
def j_M_lengthen (x1 : Int32) (σ : zS) (post : zS → Prop) : Prop := (vp_in (σ.1 5) 8 ∧ znm (zA σ 7 (σ.1 5).toNatClampNeg x1) fun σ2 => znm (zI σ2 5 ((σ2.1 5) + (1 : Int32))) fun σ3 => j_M_good  σ3 (fun r5 σ4 => ((r5 = 0 → znm (zI σ4 5 ((σ4.1 5) - (1 : Int32))) fun σ6 => post σ6) ∧ (¬ r5 = 0 → j_M_note  σ4 (fun σ7 => (vp_in (σ7.1 5) 9 ∧ znm (zA σ7 9 (σ7.1 5).toNatClampNeg (0 : Int32)) fun σ9 => post σ9))))))
def b_M_work_12 (post : zS → Prop) (K : Int32 → zS → Prop) (R : Int32 × zS → Prop) (q : Int32 × zS) : Prop := match q with
  | (y1, σ) => (((3 : Int32) ≤ y1 → K y1 σ) ∧ (¬ (3 : Int32) ≤ y1 → (vp_in y1 3 ∧ znm (zL σ 1 y1.toNatClampNeg (0 : Int64)) fun σ4 => (vp_in y1 3 ∧ znm (zA σ4 11 y1.toNatClampNeg (0 : Int32)) fun σ6 => R (y1 + 1, σ6)))))
def b_M_work_60 (post : zS → Prop) (K : Int32 → zS → Prop) (R : Int32 × zS → Prop) (q : Int32 × zS) : Prop := match q with
  | (y1, σ) => (((2000000 : Int32) ≤ y1 → K y1 σ) ∧ (¬ (2000000 : Int32) ≤ y1 → (vp_in (σ.1 5) 9 ∧ znm (σ.2.1 9 (σ.1 5).toNatClampNeg) fun v15 => (((σ.1 4) ≤ v15 → (((σ.1 5) = 0 → post σ) ∧ (¬ (σ.1 5) = 0 → znm (zI σ 5 ((σ.1 5) - (1 : Int32))) fun σ16 => R (y1 + 1, σ16)))) ∧ (¬ (σ.1 4) ≤ v15 → (vp_in (σ.1 5) 9 ∧ znm (zA σ 9 (σ.1 5).toNatClampNeg (v15 + (1 : Int32))) fun σ18 => (vp_in v15 8 ∧ (((σ18.2.1 6 v15.toNatClampNeg) = (2 : Int32) → R (y1 + 1, σ18)) ∧ (¬ (σ18.2.1 6 v15.toNatClampNeg) = (2 : Int32) → j_M_isListed v15 σ18 (fun r21 σ20 => ((r21 = 0 → j_M_lengthen v15 σ20 (fun σ22 => R (y1 + 1, σ22))) ∧ (¬ r21 = 0 → R (y1 + 1, σ20)))))))))))))
def j_M_work (σ : zS) (post : zS → Prop) : Prop := znm (zT σ (0 : Int64)) fun σ1 => znm (zI σ1 7 (0 : Int32)) fun σ2 => zLP (b_M_work_12 post (fun v7 σ8 => znm (zI σ8 5 (0 : Int32)) fun σ9 => (vp_in (0 : Int32) 9 ∧ znm (zA σ9 9 (0 : Int32).toNatClampNeg (0 : Int32)) fun σ11 => znm (zI σ11 6 (0 : Int32)) fun σ12 => j_M_note  σ12 (fun σ13 => zLP (b_M_work_60 post (fun v23 σ24 => post σ24)) ((0 : Int32), σ13))))) ((0 : Int32), σ2)
def j_M_renew (x1 : Int32) (x2 : Int32) (σ : zS) (post : zS → Prop) : Prop := ((x1 = (1 : Int32) → znm (zI σ 0 x1) fun σ1 => (((1 : Int32) ≤ x2 → ((x2 ≤ (8 : Int32) → znm (zI σ1 1 x2) fun σ2 => znm (zI σ2 2 (0 : Int32)) fun σ3 => znm (zI σ3 3 (0 : Int32)) fun σ4 => znm (zI σ4 4 (0 : Int32)) fun σ5 => j_M_work  σ5 (fun σ6 => post σ6)) ∧ (¬ x2 ≤ (8 : Int32) → znm (zI σ1 1 (8 : Int32)) fun σ7 => znm (zI σ7 2 (0 : Int32)) fun σ8 => znm (zI σ8 3 (0 : Int32)) fun σ9 => znm (zI σ9 4 (0 : Int32)) fun σ10 => j_M_work  σ10 (fun σ11 => post σ11)))) ∧ (¬ (1 : Int32) ≤ x2 → znm (zI σ1 1 (1 : Int32)) fun σ12 => znm (zI σ12 2 (0 : Int32)) fun σ13 => znm (zI σ13 3 (0 : Int32)) fun σ14 => znm (zI σ14 4 (0 : Int32)) fun σ15 => j_M_work  σ15 (fun σ16 => post σ16)))) ∧ (¬ x1 = (1 : Int32) → ((x1 = (2 : Int32) → znm (zI σ 0 x1) fun σ33 => (((1 : Int32) ≤ x2 → ((x2 ≤ (8 : Int32) → znm (zI σ33 1 x2) fun σ34 => znm (zI σ34 2 (0 : Int32)) fun σ35 => znm (zI σ35 3 (0 : Int32)) fun σ36 => znm (zI σ36 4 (0 : Int32)) fun σ37 => j_M_work  σ37 (fun σ38 => post σ38)) ∧ (¬ x2 ≤ (8 : Int32) → znm (zI σ33 1 (8 : Int32)) fun σ39 => znm (zI σ39 2 (0 : Int32)) fun σ40 => znm (zI σ40 3 (0 : Int32)) fun σ41 => znm (zI σ41 4 (0 : Int32)) fun σ42 => j_M_work  σ42 (fun σ43 => post σ43)))) ∧ (¬ (1 : Int32) ≤ x2 → znm (zI σ33 1 (1 : Int32)) fun σ44 => znm (zI σ44 2 (0 : Int32)) fun σ45 => znm (zI σ45 3 (0 : Int32)) fun σ46 => znm (zI σ46 4 (0 : Int32)) fun σ47 => j_M_work  σ47 (fun σ48 => post σ48)))) ∧ (¬ x1 = (2 : Int32) → znm (zI σ 0 (0 : Int32)) fun σ17 => (((1 : Int32) ≤ x2 → ((x2 ≤ (8 : Int32) → znm (zI σ17 1 x2) fun σ18 => znm (zI σ18 2 (0 : Int32)) fun σ19 => znm (zI σ19 3 (0 : Int32)) fun σ20 => znm (zI σ20 4 (0 : Int32)) fun σ21 => j_M_work  σ21 (fun σ22 => post σ22)) ∧ (¬ x2 ≤ (8 : Int32) → znm (zI σ17 1 (8 : Int32)) fun σ23 => znm (zI σ23 2 (0 : Int32)) fun σ24 => znm (zI σ24 3 (0 : Int32)) fun σ25 => znm (zI σ25 4 (0 : Int32)) fun σ26 => j_M_work  σ26 (fun σ27 => post σ27)))) ∧ (¬ (1 : Int32) ≤ x2 → znm (zI σ17 1 (1 : Int32)) fun σ28 => znm (zI σ28 2 (0 : Int32)) fun σ29 => znm (zI σ29 3 (0 : Int32)) fun σ30 => znm (zI σ30 4 (0 : Int32)) fun σ31 => j_M_work  σ31 (fun σ32 => post σ32)))))))
def j_M_happened (σ : zS) (post : zS → Prop) : Prop := j_M_work  σ (fun σ1 => (((lg_cmp (σ1.2.2 2 0) (0 : Int64)) = 0 → (((σ1.1 3) = 0 → znm (zI σ1 3 (σ1.1 2)) fun σ2 => post σ2) ∧ (¬ (σ1.1 3) = 0 → post σ1))) ∧ (¬ (lg_cmp (σ1.2.2 2 0) (0 : Int64)) = 0 → post σ1)))
def j_M_begin (x1 : Int32) (x2 : Int32) (x3 : Int32) (σ : zS) (post : Int32 → zS → Prop) : Prop := ((x1 < 0 → post (0 : Int32) σ) ∧ (¬ x1 < 0 → (((2 : Int32) < x1 → post (0 : Int32) σ) ∧ (¬ (2 : Int32) < x1 → (((8 : Int32) ≤ (σ.1 4) → post (0 : Int32) σ) ∧ (¬ (8 : Int32) ≤ (σ.1 4) → j_M_openOf x1 σ (fun r2 σ1 => ((r2 < 0 → znm (zI σ1 2 ((σ1.1 2) + (1 : Int32))) fun σ3 => (vp_in (σ3.1 4) 8 ∧ znm (zA σ3 0 (σ3.1 4).toNatClampNeg x1) fun σ5 => (vp_in (σ5.1 4) 8 ∧ znm (zA σ5 1 (σ5.1 4).toNatClampNeg (vp_nar .boolean x2)) fun σ7 => (vp_in (σ7.1 4) 8 ∧ znm (zA σ7 2 (σ7.1 4).toNatClampNeg x3) fun σ9 => (vp_in (σ9.1 4) 8 ∧ znm (zA σ9 3 (σ9.1 4).toNatClampNeg (σ9.1 2)) fun σ11 => (vp_in (σ11.1 4) 8 ∧ znm (zA σ11 6 (σ11.1 4).toNatClampNeg (0 : Int32)) fun σ13 => znm (zI σ13 4 ((σ13.1 4) + (1 : Int32))) fun σ14 => j_M_happened  σ14 (fun σ15 => post (1 : Int32) σ15))))))) ∧ (¬ r2 < 0 → post (0 : Int32) σ1)))))))))
def j_M_close (x1 : Int32) (x2 : Int32) (x3 : Int32) (σ : zS) (post : zS → Prop) : Prop := znm (zI σ 2 ((σ.1 2) + (1 : Int32))) fun σ1 => (vp_in x1 8 ∧ znm (zA σ1 6 x1.toNatClampNeg x2) fun σ3 => (vp_in x1 8 ∧ znm (zA σ3 4 x1.toNatClampNeg (σ3.1 2)) fun σ5 => (vp_in x1 8 ∧ znm (zA σ5 5 x1.toNatClampNeg x3) fun σ7 => j_M_happened  σ7 (fun σ8 => post σ8))))
def j_M_beginPut (x1 : Int32) (x2 : Int32) (σ : zS) (post : Int32 → zS → Prop) : Prop := ((x2 < 0 → post (0 : Int32) σ) ∧ (¬ x2 < 0 → (((15 : Int32) < x2 → post (0 : Int32) σ) ∧ (¬ (15 : Int32) < x2 → (((σ.1 0) = (2 : Int32) → ((x1 = 0 → j_M_begin x1 (1 : Int32) x2 σ (fun r4 σ3 => (narrow .boolean (.int r4) = .int r4 ∧ post r4 σ3))) ∧ (¬ x1 = 0 → post (0 : Int32) σ))) ∧ (¬ (σ.1 0) = (2 : Int32) → j_M_begin x1 (1 : Int32) x2 σ (fun r2 σ1 => (narrow .boolean (.int r2) = .int r2 ∧ post r2 σ1))))))))
def j_M_beginTake (x1 : Int32) (σ : zS) (post : Int32 → zS → Prop) : Prop := j_M_begin x1 (0 : Int32) (0 : Int32) σ (fun r2 σ1 => (narrow .boolean (.int r2) = .int r2 ∧ post r2 σ1))
def j_M_endPut (x1 : Int32) (x2 : Int32) (σ : zS) (post : Int32 → zS → Prop) : Prop := j_M_openOf x1 σ (fun r2 σ1 => ((r2 < 0 → post (0 : Int32) σ1) ∧ (¬ r2 < 0 → (vp_in r2 8 ∧ (((σ1.2.1 1 r2.toNatClampNeg) = 0 → post (0 : Int32) σ1) ∧ (¬ (σ1.2.1 1 r2.toNatClampNeg) = 0 → ((x2 = 0 → j_M_close r2 (1 : Int32) (0 : Int32) σ1 (fun σ4 => post (1 : Int32) σ4)) ∧ (¬ x2 = 0 → j_M_close r2 (1 : Int32) (1 : Int32) σ1 (fun σ5 => post (1 : Int32) σ5)))))))))
def j_M_endTake (x1 : Int32) (x2 : Int32) (σ : zS) (post : Int32 → zS → Prop) : Prop := j_M_openOf x1 σ (fun r2 σ1 => ((r2 < 0 → post (0 : Int32) σ1) ∧ (¬ r2 < 0 → (vp_in r2 8 ∧ (((σ1.2.1 1 r2.toNatClampNeg) = 0 → ((x2 < (-1 : Int32) → post (0 : Int32) σ1) ∧ (¬ x2 < (-1 : Int32) → ((x2 ≤ (15 : Int32) → j_M_close r2 (1 : Int32) x2 σ1 (fun σ4 => post (1 : Int32) σ4)) ∧ (¬ x2 ≤ (15 : Int32) → post (0 : Int32) σ1))))) ∧ (¬ (σ1.2.1 1 r2.toNatClampNeg) = 0 → post (0 : Int32) σ1))))))
def j_M_giveUp (x1 : Int32) (σ : zS) (post : Int32 → zS → Prop) : Prop := j_M_openOf x1 σ (fun r2 σ1 => ((0 ≤ r2 → j_M_close r2 (2 : Int32) (0 : Int32) σ1 (fun σ3 => post (1 : Int32) σ3)) ∧ (¬ 0 ≤ r2 → post (0 : Int32) σ1)))
def j_M_events (σ : zS) (post : Int32 → zS → Prop) : Prop := post (σ.1 2) σ
def j_M_begun (σ : zS) (post : Int32 → zS → Prop) : Prop := post (σ.1 4) σ
def j_M_fits (σ : zS) (post : Int32 → zS → Prop) : Prop := (((lg_cmp (σ.2.2 2 0) (0 : Int64)) ≤ 0 → post (0 : Int32) σ) ∧ (¬ (lg_cmp (σ.2.2 2 0) (0 : Int64)) ≤ 0 → post (1 : Int32) σ))
def j_M_brokenAt (σ : zS) (post : Int32 → zS → Prop) : Prop := post (σ.1 3) σ
def j_M_explanations (σ : zS) (post : Int64 → zS → Prop) : Prop := post (σ.2.2 2 0) σ
def j_M_outcomes (σ : zS) (post : Int32 → zS → Prop) : Prop := post (σ.1 7) σ
def b_M_fewest_4 (post : Int32 → zS → Prop) (K : Int32 → Int32 → zS → Prop) (R : Int32 × Int32 × zS → Prop) (q : Int32 × Int32 × zS) : Prop := match q with
  | (y1, y2, σ) => (((σ.1 7) ≤ y2 → K y1 y2 σ) ∧ (¬ (σ.1 7) ≤ y2 → j_M_sizeOf y2 σ (fun r2 σ1 => ((y1 < 0 → R (r2, y2 + 1, σ1)) ∧ (¬ y1 < 0 → ((y1 ≤ r2 → R (y1, y2 + 1, σ1)) ∧ (¬ y1 ≤ r2 → R (r2, y2 + 1, σ1))))))))
def j_M_fewest (σ : zS) (post : Int32 → zS → Prop) : Prop := zLP (b_M_fewest_4 post (fun v3 v4 σ5 => post v3 σ5)) ((-1 : Int32), (0 : Int32), σ)
def b_M_most_4 (post : Int32 → zS → Prop) (K : Int32 → Int32 → zS → Prop) (R : Int32 × Int32 × zS → Prop) (q : Int32 × Int32 × zS) : Prop := match q with
  | (y1, y2, σ) => (((σ.1 7) ≤ y2 → K y1 y2 σ) ∧ (¬ (σ.1 7) ≤ y2 → j_M_sizeOf y2 σ (fun r2 σ1 => ((r2 ≤ y1 → R (y1, y2 + 1, σ1)) ∧ (¬ r2 ≤ y1 → R (r2, y2 + 1, σ1))))))
def j_M_most (σ : zS) (post : Int32 → zS → Prop) : Prop := zLP (b_M_most_4 post (fun v3 v4 σ5 => post v3 σ5)) ((-1 : Int32), (0 : Int32), σ)
def b_M_mayHold_27 (x1 : Int32) (x2 : Int32) (post : Int32 → zS → Prop) (K : Int32 → Int32 → zS → Prop) (R : Int32 × Int32 × zS → Prop) (q : Int32 × Int32 × zS) : Prop := match q with
  | (y3, y4, σ) => (((σ.1 7) ≤ y4 → K y3 y4 σ) ∧ (¬ (σ.1 7) ≤ y4 → ((y3 = 0 → j_M_sizeOf y4 σ (fun r2 σ1 => ((r2 ≤ x1 → R ((0 : Int32), y4 + 1, σ1)) ∧ (¬ r2 ≤ x1 → (vp_in y4 1400 ∧ (((lg_cmp (((σ1.2.2 0 y4.toNatClampNeg) >>> (((4 : Int32) + ((4 : Int32) * x1)).toInt64 &&& 63)) &&& (15 : Int64)) x2.toInt64) = 0 → R ((1 : Int32), y4 + 1, σ1)) ∧ (¬ (lg_cmp (((σ1.2.2 0 y4.toNatClampNeg) >>> (((4 : Int32) + ((4 : Int32) * x1)).toInt64 &&& 63)) &&& (15 : Int64)) x2.toInt64) = 0 → R ((0 : Int32), y4 + 1, σ1)))))))) ∧ (¬ y3 = 0 → R ((1 : Int32), y4 + 1, σ)))))
def j_M_mayHold (x1 : Int32) (x2 : Int32) (σ : zS) (post : Int32 → zS → Prop) : Prop := ((x1 < 0 → post (0 : Int32) σ) ∧ (¬ x1 < 0 → (((7 : Int32) < x1 → post (0 : Int32) σ) ∧ (¬ (7 : Int32) < x1 → ((x2 < 0 → post (0 : Int32) σ) ∧ (¬ x2 < 0 → ((x2 ≤ (15 : Int32) → zLP (b_M_mayHold_27 x1 x2 post (fun v4 v5 σ6 => (narrow .boolean (.int v4) = .int v4 ∧ post v4 σ6))) ((0 : Int32), (0 : Int32), σ)) ∧ (¬ x2 ≤ (15 : Int32) → post (0 : Int32) σ))))))))
def j_M_certain (x1 : Int32) (σ : zS) (post : Int32 → zS → Prop) : Prop := j_M_openOf x1 σ (fun r2 σ1 => ((r2 < 0 → post (0 : Int32) σ1) ∧ (¬ r2 < 0 → (((lg_cmp (σ1.2.2 2 0) (0 : Int64)) ≤ 0 → post (0 : Int32) σ1) ∧ (¬ (lg_cmp (σ1.2.2 2 0) (0 : Int64)) ≤ 0 → (vp_in x1 3 ∧ (((lg_cmp (σ1.2.2 1 x1.toNatClampNeg) (σ1.2.2 2 0)) = 0 → post (1 : Int32) σ1) ∧ (¬ (lg_cmp (σ1.2.2 1 x1.toNatClampNeg) (σ1.2.2 2 0)) = 0 → post (0 : Int32) σ1))))))))
def b_M_answers_14 (x1 : Int32) (post : Int32 → zS → Prop) (K : Int32 → Int32 → zS → Prop) (R : Int32 × Int32 × zS → Prop) (q : Int32 × Int32 × zS) : Prop := match q with
  | (y2, y3, σ) => (((17 : Int32) ≤ y3 → K y2 y3 σ) ∧ (¬ (17 : Int32) ≤ y3 → (vp_in x1 3 ∧ znm (y2 + (((σ.2.1 11 x1.toNatClampNeg) >>> (y3 &&& 31)) &&& (1 : Int32))) fun v4 => R (v4, y3 + 1, σ))))
def j_M_answers (x1 : Int32) (σ : zS) (post : Int32 → zS → Prop) : Prop := j_M_openOf x1 σ (fun r2 σ1 => ((0 ≤ r2 → zLP (b_M_answers_14 x1 post (fun v5 v6 σ7 => post v5 σ7)) ((0 : Int32), (0 : Int32), σ1)) ∧ (¬ 0 ≤ r2 → post (0 : Int32) σ1)))
end
section
/-! Arrays.fill(int[], int): a row of n ints is filled -/
theorem zfl_0 (f : Nat → Int32) (v : Int32) : zfl f 0 v = f := rfl
theorem zfl_s (f : Nat → Int32) (i : Nat) (v : Int32) : upd (zfl f i v) i v = zfl f (i + 1) v := by
  funext j
  unfold upd zfl
  by_cases h : j = i
  · subst h; simp
  · by_cases h2 : j < i
    · rw [if_neg h, if_pos h2, if_pos (by omega)]
    · rw [if_neg h, if_neg h2, if_neg (by omega)]
set_option maxHeartbeats 4000000 in
set_option maxRecDepth 100000 in
theorem wl_fill {l : Launch} {p : Program} {e : Env} {s : State} {m : MethodId} {args : Array Value} {below : List Frame} {meth : Method} {c : Code} {D : va_G} {tys : List (ClassId × FieldType)} {cA : ClassId} {n t0 q : Nat} {v : Int32} {f : Nat → Int32} {w0 : va_W} (hx : p.tables.exec = Jvm.exec) (hb : c.code = nC_JA_fill) (hr : meth.sig.returnType = none) (hlocks : meth.locks = false) (hK : va_K D nCl tys s) (ht : tys[t0]? = some (cA, .int)) (hn : n < 2 ^ 31) :
    ∀ (k i : Nat), i + k = n → ∀ (H : Heap) (locs : List Loc) (ls : Array Slot), va_P D nCl [(q, .inl (cA, n, .inl (zfl f i v)))] H → va_D (va_A w0 s.heap.size) [(q, .inl (cA, n, .inl (zfl f i v)))] → va_S (va_A w0 s.heap.size) s.heap H locs → lv_has ls 4 [(0, .ref q), (1, .int v), (2, .int (nI i)), (3, .int (nI n))] → W p l e ({ frames := 0, cells := 0, slots := 0, locals := 0 } : Room) s m args below meth c H locs 0 0 (MQ below (va_Qv (fun w' => w' = [(q, .inl (cA, n, .inl (zfl f n v)))]) (mQW D tys w0 s.heap.size) (va_A w0 s.heap.size)) args s 0 0 (va_A w0 s.heap.size)) (F0 m 5 ls []) := by
  intro k
  induction k with
  | zero =>
    intro i hi H locs ls hP hD hS hl
    have hi : i = n := by omega
    subst hi
    refine lv_iload_n hx hb nD_JA_fill_5 rfl (lv_at hl 2 rfl) ?_
    refine lv_iload_n hx hb nD_JA_fill_6 rfl (lv_at hl 3 rfl) ?_
    refine lv_icmp_ge (tgt := 20) hx hb nD_JA_fill_7 (by decide) (fun hc => ?_) (fun hc => ?_)
    · exact mw_v hx hb hr hlocks rfl hP hK hD hS nD_JA_fill_20
    · exact absurd (nI_le (Nat.le_refl i) hn) hc
  | succ k ih =>
    intro i hi H locs ls hP hD hS hl
    have hlt : i < n := by omega
    refine lv_iload_n hx hb nD_JA_fill_5 rfl (lv_at hl 2 rfl) ?_
    refine lv_iload_n hx hb nD_JA_fill_6 rfl (lv_at hl 3 rfl) ?_
    refine lv_icmp_ge (tgt := 20) hx hb nD_JA_fill_7 (by decide) (fun hc => ?_) (fun hc => ?_)
    · exact absurd hc (nI_ge hlt hn)
    · refine lv_aload_n hx hb nD_JA_fill_10 rfl (lv_at hl 0 rfl) ?_
      refine lv_iload_n hx hb nD_JA_fill_11 rfl (lv_at hl 2 rfl) ?_
      refine lv_iload_n hx hb nD_JA_fill_12 rfl (lv_at hl 1 rfl) ?_
      refine va_iast (D := D) hx hb hK hP hD hS 0 t0 rfl ht (vp_in_nI hlt hn) nD_JA_fill_13 (fun H locs hP hD hS => ?_)
      have hc : (nI i).toNatClampNeg = i := nI_clamp (by omega)
      rw [hc, zfl_s] at hP hD
      refine lv_iinc (k := 2) (v := nI (i + 1)) hx hb nD_JA_fill_14 hl rfl (nI_1 i) (by decide) rfl (fun ls hl => ?_)
      refine lv_goto (tgt := 5) hx hb nD_JA_fill_17 (by decide) ?_
      have hl := lv_sub (l' := [(0, .ref q), (1, .int v), (2, .int (nI (i + 1))), (3, .int (nI n))]) hl [1, 2, 0, 3] rfl
      exact ih (i + 1) (by omega) H locs ls hP hD hS hl
set_option maxHeartbeats 4000000 in
set_option maxRecDepth 100000 in
theorem c_JA_fill (l : Launch) (D : va_G) (tys : List (ClassId × FieldType)) (cA : ClassId) (n t0 q : Nat) (v : Int32) (f : Nat → Int32) (ht : tys[t0]? = some (cA, .int)) (hn : n < 2 ^ 31) : mWv l nM_JA_fill nC_JA_fill 4 ({ frames := 0, cells := 0, slots := 0, locals := 0 } : Room) D tys [.ref q, .int v] [(q, .inl (cA, n, .inl f))] (fun w' => w' = [(q, .inl (cA, n, .inl (zfl f n v)))]) := by
  intro sz
  refine mt_W (by decide) (Nat.le_of_ble_eq_true rfl) ?_
  intro p e s m below meth c ls hx hb hml hr hown hlocks hin hw hN hP hK hD hS hA hl hsz
  subst hsz
  have hl : lv_has ls 4 [(0, .ref q), (1, .int v)] := hl
  refine lv_iconst (v := (0 : Int32)) hx hb nD_JA_fill_0 (by decide) ?_
  refine lv_istore_n hx hb nD_JA_fill_1 rfl hl (by decide) rfl (fun ls hl => ?_)
  have hl : lv_has ls 4 [(2, .int (0 : Int32)), (0, .ref q), (1, .int v)] := hl
  refine lv_aload_n hx hb nD_JA_fill_2 rfl (lv_at hl 1 rfl) ?_
  refine va_alen (D := D) (v := nI n) hx hb hK hP 0 t0 rfl ht rfl nD_JA_fill_3 ?_
  refine lv_istore_n hx hb nD_JA_fill_4 rfl hl (by decide) rfl (fun ls hl => ?_)
  have hl : lv_has ls 4 [(3, .int (nI n)), (2, .int (0 : Int32)), (0, .ref q), (1, .int v)] := hl
  have hl := lv_sub (l' := [(0, .ref q), (1, .int v), (2, .int (0 : Int32)), (3, .int (nI n))]) hl [2, 3, 1, 0] rfl
  exact wl_fill (v := v) (f := f) hx hb hr hlocks hK ht hn n 0 (by omega) s.heap [] ls hP hD hS hl
section ZFILL
variable {p : Program} {l : Launch} {e : Env} {R : Room} {s : State} {m : MethodId} {args : Array Value} {below : List Frame} {meth : Method} {c : Code} {H : Heap} {locs : List Loc} {cells slots : Nat} {Q : State → Prop}
variable {cc : ByteArray} {pc nL : Nat} {ls : Array Slot} {rest : List Value} {D : va_G} {tys : List (ClassId × FieldType)} {A : Nat → Prop} {H0 : Heap}
theorem zsplit {ws : va_W} {k : Nat} {x : Nat × va_E} (h : ws[k]? = some x) : (ws.take k ++ [x]) ++ ws.drop (k + 1) = ws := by
  obtain ⟨hk, hx⟩ := List.getElem?_eq_some_iff.mp h
  rw [List.append_assoc, List.singleton_append, ← hx, ← List.drop_eq_getElem_cons hk, List.take_append_drop]
theorem zset {ws : va_W} {k : Nat} {x : Nat × va_E} (hk : k < ws.length) : (ws.take k ++ [x]) ++ ws.drop (k + 1) = ws.set k x := by
  rw [List.append_assoc, List.singleton_append, List.set_eq_take_append_cons_drop, if_pos hk]
/-- a call of fill on one cell of any world -/
theorem zC_fill {ws : va_W} {own : String} {index q0 t0 n a : Nat} {cA : ClassId} {f : Nat → Int32} {v : Int32} (S : CallFix p m c cc nL s args wA own) (h2 : Cond.methodLink own index nM_JA_fill ∈ wA) (hn : n < 2 ^ 31) (hK : va_K D nCl tys s) (hN : mN s) (hP : va_P D nCl ws H) (hD : va_D A ws) (hS : va_S A H0 H locs) (hA : ∀ q, H0.size ≤ q → A q) (ha : ws[q0]? = some (a, .inl (cA, n, .inl f))) (ht : tys[t0]? = some (cA, .int)) (hls : ls.size = nL) (hW : 2 * (F0 m pc ls (.int v :: .ref a :: rest)).monitorRoom + (rest.map fun v => v.category).sum ≤ 8) (hdg : decode cc pc = .ok (.invokestatic index, 3)) (hR : 0 + 1 ≤ R.frames ∧ 8 + (4 + 11) + 0 ≤ R.locals) (hcs : cells + 0 ≤ R.cells ∧ slots + 0 ≤ R.slots) (h1 : Cond.code nM_JA_fill nC_JA_fill 4 none ∈ wA) (h3 : Cond.static nM_JA_fill ∈ wA) (h5 : Cond.initialized nM_JA_fill.cls ∈ wA)
    (kk : ∀ (H1 : Heap) (locs1 : List Loc), va_P D nCl (ws.set q0 (a, .inl (cA, n, .inl (zfl f n v)))) H1 → va_D A (ws.set q0 (a, .inl (cA, n, .inl (zfl f n v)))) → va_S A H0 H1 locs1 → W p l e R s m args below meth c H1 locs1 cells slots Q (F0 m (pc + 3) ls rest)) : W p l e R s m args below meth c H locs cells slots Q (F0 m pc ls (.int v :: .ref a :: rest)) := by
  have hlt : q0 < ws.length := (List.getElem?_eq_some_iff.mp ha).1
  have hP1 : va_P D nCl ((ws.take q0 ++ [(a, .inl (cA, n, .inl f))]) ++ ws.drop (q0 + 1)) H := by rw [zsplit ha]; exact hP
  have hD1 : va_D A ((ws.take q0 ++ [(a, .inl (cA, n, .inl f))]) ++ ws.drop (q0 + 1)) := by rw [zsplit ha]; exact hD
  refine mC_v (pre := ws.take q0) (wc := [(a, .inl (cA, n, .inl f))]) (po := ws.drop (q0 + 1)) (tyc := tys) (va_runS (As := [.ref a, .int v]) (rest := rest) S (c_JA_fill l D tys cA n t0 a v f ht hn H.size) (mcS 2 S.2.2.2.2 h1 h2 h3 h5 rfl rfl nh_JA_fill hR) (mpW_S hP1 hD1 hK hN) rfl rfl hls rfl hW hdg ⟨hcs.1, hcs.2⟩) hP1 hD1 hS hA (fun w' H1 locs1 hp hP2 hD2 hS2 => ?_)
  subst hp
  rw [zset hlt] at hP2 hD2
  exact kk H1 locs1 hP2 hD2 hS2
end ZFILL
end
section
set_option maxHeartbeats 4000000 in
set_option maxRecDepth 100000 in
theorem c_X2_length (l : Launch) (x0 : Int64) (post : Int32 → Prop) (h : j_X2_length x0 post) : mSi l nM_X2_length nC_X2_length 2 (some .int) ({ frames := 0, cells := 0, slots := 0, locals := 0 } : Room) [.long x0] post := by
  refine mt_S (by decide) (Nat.le_of_ble_eq_true rfl) ?_
  intro p e s m below meth c ls hx hb hml hr hown hlocks hw hl
  have hl : lv_has ls 2 [(0, .long x0)] := hl
  unfold j_X2_length at h
  refine lv_lload_n hx hb nD_X2_length_0 rfl (lv_at hl 0 rfl) ?_
  refine lv_bipush (v := (32 : Int32)) hx hb nD_X2_length_1 (by decide) ?_
  refine lv_lushr (v := (x0.toUInt64 >>> ((32 : Int32).toInt64.toUInt64 &&& Int64.toUInt64 63)).toInt64) hx hb nD_X2_length_3 rfl ?_
  refine lv_l2i (v := ((x0.toUInt64 >>> ((32 : Int32).toInt64.toUInt64 &&& Int64.toUInt64 63)).toInt64).toInt32) hx hb nD_X2_length_4 rfl ?_
  exact mr_i hx hb hr hlocks h nD_X2_length_5
set_option maxHeartbeats 4000000 in
set_option maxRecDepth 100000 in
theorem c_X2_valueAt (l : Launch) (x0 : Int64) (x2 : Int32) (post : Int32 → Prop) (h : j_X2_valueAt x0 x2 post) : mSi l nM_X2_valueAt nC_X2_valueAt 3 (some .int) ({ frames := 0, cells := 0, slots := 0, locals := 0 } : Room) [.long x0, .int x2] post := by
  refine mt_S (by decide) (Nat.le_of_ble_eq_true rfl) ?_
  intro p e s m below meth c ls hx hb hml hr hown hlocks hw hl
  have hl : lv_has ls 3 [(0, .long x0), (2, .int x2)] := hl
  unfold j_X2_valueAt at h
  refine lv_lload_n hx hb nD_X2_valueAt_0 rfl (lv_at hl 0 rfl) ?_
  refine lv_iconst (v := (4 : Int32)) hx hb nD_X2_valueAt_1 (by decide) ?_
  refine lv_iload_n hx hb nD_X2_valueAt_2 rfl (lv_at hl 1 rfl) ?_
  refine lv_imul hx hb nD_X2_valueAt_3 ?_
  refine lv_lushr (v := (x0.toUInt64 >>> (((4 : Int32) * x2).toInt64.toUInt64 &&& Int64.toUInt64 63)).toInt64) hx hb nD_X2_valueAt_4 rfl ?_
  refine lv_l2i (v := ((x0.toUInt64 >>> (((4 : Int32) * x2).toInt64.toUInt64 &&& Int64.toUInt64 63)).toInt64).toInt32) hx hb nD_X2_valueAt_5 rfl ?_
  refine lv_bipush (v := (15 : Int32)) hx hb nD_X2_valueAt_6 (by decide) ?_
  refine lv_iand hx hb nD_X2_valueAt_8 ?_
  exact mr_i hx hb hr hlocks h nD_X2_valueAt_9
set_option maxHeartbeats 4000000 in
set_option maxRecDepth 100000 in
theorem c_X2_withBack (l : Launch) (x0 : Int64) (x2 : Int32) (post : Int64 → Prop) (h : j_X2_withBack x0 x2 post) : mSl l nM_X2_withBack nC_X2_withBack 3 ({ frames := 1, cells := 0, slots := 0, locals := 21 } : Room) [.long x0, .int x2] post := by
  refine mt_S (by decide) (Nat.le_of_ble_eq_true rfl) ?_
  intro p e s m below meth c ls hx hb hml hr hown hlocks hw hl
  have hl : lv_has ls 3 [(0, .long x0), (2, .int x2)] := hl
  unfold j_X2_withBack at h
  refine lv_lload_n hx hb nD_X2_withBack_0 rfl (lv_at hl 0 rfl) ?_
  refine lv_iload_n hx hb nD_X2_withBack_1 rfl (lv_at hl 1 rfl) ?_
  refine lv_i2l (v := x2.toInt64) hx hb nD_X2_withBack_2 rfl ?_
  refine lv_iconst (v := (4 : Int32)) hx hb nD_X2_withBack_3 (by decide) ?_
  refine lv_lload_n hx hb nD_X2_withBack_4 rfl (lv_at hl 0 rfl) ?_
  refine vp_callSi (W.runS (As := [.long x0]) (rest := [.int (4 : Int32), .long x2.toInt64, .long x0]) ⟨hx, hb, hml, hown, hw⟩ (c_X2_length l x0 _ h) (mcS 1 hw wm_199 wm_214 wm_198 wm_32 rfl rfl nh_X2_length ⟨Nat.le_of_ble_eq_true rfl, Nat.le_of_ble_eq_true rfl⟩) mp_S rfl rfl hl.1 rfl (lv_room (Nat.le_of_ble_eq_true rfl)) nD_X2_withBack_5 ⟨Nat.zero_le _, Nat.zero_le _⟩) (fun r1 h => ?_)
  refine lv_imul hx hb nD_X2_withBack_8 ?_
  refine lv_lshl (v := x2.toInt64 <<< (((4 : Int32) * r1).toInt64 &&& 63)) hx hb nD_X2_withBack_9 rfl ?_
  refine lv_lor hx hb nD_X2_withBack_10 ?_
  refine lv_ldc2 (v := (4294967296 : Int64)) hx hb hown (hw _ wm_215) nD_X2_withBack_11 ?_
  refine lv_ladd hx hb nD_X2_withBack_14 ?_
  exact mr_l hx hb hr hlocks h nD_X2_withBack_15
set_option maxHeartbeats 4000000 in
set_option maxRecDepth 100000 in
theorem c_X2_withoutBack (l : Launch) (x0 : Int64) (post : Int64 → Prop) (h : j_X2_withoutBack x0 post) : mSl l nM_X2_withoutBack nC_X2_withoutBack 3 ({ frames := 1, cells := 0, slots := 0, locals := 21 } : Room) [.long x0] post := by
  refine mt_S (by decide) (Nat.le_of_ble_eq_true rfl) ?_
  intro p e s m below meth c ls hx hb hml hr hown hlocks hw hl
  have hl : lv_has ls 3 [(0, .long x0)] := hl
  unfold j_X2_withoutBack at h
  refine lv_lload_n hx hb nD_X2_withoutBack_0 rfl (lv_at hl 0 rfl) ?_
  refine vp_callSi (W.runS (As := [.long x0]) (rest := []) ⟨hx, hb, hml, hown, hw⟩ (c_X2_length l x0 _ h) (mcS 1 hw wm_199 wm_214 wm_198 wm_32 rfl rfl nh_X2_length ⟨Nat.le_of_ble_eq_true rfl, Nat.le_of_ble_eq_true rfl⟩) mp_S rfl rfl hl.1 rfl (lv_room (Nat.le_of_ble_eq_true rfl)) nD_X2_withoutBack_1 ⟨Nat.zero_le _, Nat.zero_le _⟩) (fun r1 h => ?_)
  refine lv_iconst (v := (1 : Int32)) hx hb nD_X2_withoutBack_4 (by decide) ?_
  refine lv_isub hx hb nD_X2_withoutBack_5 ?_
  refine lv_topi (fun v2 e_v2 => ?_)
  have h := h v2 e_v2
  clear e_v2
  refine lv_istore_n hx hb nD_X2_withoutBack_6 rfl hl (by decide) rfl (fun ls hl => ?_)
  have hl : lv_has ls 3 [(2, .int v2), (0, .long x0)] := hl
  refine lv_lload_n hx hb nD_X2_withoutBack_7 rfl (lv_at hl 1 rfl) ?_
  refine lv_ldc2 (v := (15 : Int64)) hx hb hown (hw _ wm_219) nD_X2_withoutBack_8 ?_
  refine lv_iconst (v := (4 : Int32)) hx hb nD_X2_withoutBack_11 (by decide) ?_
  refine lv_iload_n hx hb nD_X2_withoutBack_12 rfl (lv_at hl 0 rfl) ?_
  refine lv_imul hx hb nD_X2_withoutBack_13 ?_
  refine lv_lshl (v := (15 : Int64) <<< (((4 : Int32) * v2).toInt64 &&& 63)) hx hb nD_X2_withoutBack_14 rfl ?_
  refine lv_ldc2 (v := (-1 : Int64)) hx hb hown (hw _ wm_220) nD_X2_withoutBack_15 ?_
  refine lv_lxor hx hb nD_X2_withoutBack_18 ?_
  refine lv_land hx hb nD_X2_withoutBack_19 ?_
  refine lv_ldc2 (v := (4294967296 : Int64)) hx hb hown (hw _ wm_215) nD_X2_withoutBack_20 ?_
  refine lv_lsub hx hb nD_X2_withoutBack_23 ?_
  exact mr_l hx hb hr hlocks h nD_X2_withoutBack_24
set_option maxHeartbeats 4000000 in
set_option maxRecDepth 100000 in
theorem c_X2_withoutFront (l : Launch) (x0 : Int64) (post : Int64 → Prop) (h : j_X2_withoutFront x0 post) : mSl l nM_X2_withoutFront nC_X2_withoutFront 4 ({ frames := 1, cells := 0, slots := 0, locals := 21 } : Room) [.long x0] post := by
  refine mt_S (by decide) (Nat.le_of_ble_eq_true rfl) ?_
  intro p e s m below meth c ls hx hb hml hr hown hlocks hw hl
  have hl : lv_has ls 4 [(0, .long x0)] := hl
  unfold j_X2_withoutFront at h
  refine lv_lload_n hx hb nD_X2_withoutFront_0 rfl (lv_at hl 0 rfl) ?_
  refine lv_ldc2 (v := (4294967295 : Int64)) hx hb hown (hw _ wm_224) nD_X2_withoutFront_1 ?_
  refine lv_land hx hb nD_X2_withoutFront_4 ?_
  refine lv_iconst (v := (4 : Int32)) hx hb nD_X2_withoutFront_5 (by decide) ?_
  refine lv_lushr (v := ((x0 &&& (4294967295 : Int64)).toUInt64 >>> ((4 : Int32).toInt64.toUInt64 &&& Int64.toUInt64 63)).toInt64) hx hb nD_X2_withoutFront_6 rfl ?_
  refine lv_topl (fun v1 e_v1 => ?_)
  have h := h v1 e_v1
  clear e_v1
  refine lv_lstore_n hx hb nD_X2_withoutFront_7 rfl hl (by decide) rfl (fun ls hl => ?_)
  have hl : lv_has ls 4 [(2, .long v1), (0, .long x0)] := hl
  refine lv_lload_n hx hb nD_X2_withoutFront_8 rfl (lv_at hl 0 rfl) ?_
  refine lv_lload_n hx hb nD_X2_withoutFront_9 rfl (lv_at hl 1 rfl) ?_
  refine vp_callSi (W.runS (As := [.long x0]) (rest := [.long v1]) ⟨hx, hb, hml, hown, hw⟩ (c_X2_length l x0 _ h) (mcS 1 hw wm_199 wm_214 wm_198 wm_32 rfl rfl nh_X2_length ⟨Nat.le_of_ble_eq_true rfl, Nat.le_of_ble_eq_true rfl⟩) mp_S rfl rfl hl.1 rfl (lv_room (Nat.le_of_ble_eq_true rfl)) nD_X2_withoutFront_10 ⟨Nat.zero_le _, Nat.zero_le _⟩) (fun r2 h => ?_)
  refine lv_iconst (v := (1 : Int32)) hx hb nD_X2_withoutFront_13 (by decide) ?_
  refine lv_isub hx hb nD_X2_withoutFront_14 ?_
  refine lv_i2l (v := (r2 - (1 : Int32)).toInt64) hx hb nD_X2_withoutFront_15 rfl ?_
  refine lv_bipush (v := (32 : Int32)) hx hb nD_X2_withoutFront_16 (by decide) ?_
  refine lv_lshl (v := ((r2 - (1 : Int32)).toInt64) <<< ((32 : Int32).toInt64 &&& 63)) hx hb nD_X2_withoutFront_18 rfl ?_
  refine lv_lor hx hb nD_X2_withoutFront_19 ?_
  exact mr_l hx hb hr hlocks h nD_X2_withoutFront_20
set_option maxHeartbeats 4000000 in
set_option maxRecDepth 100000 in
theorem c_X5_isWorker (l : Launch) (x0 : Int32) (post : Int32 → Prop) (h : j_X5_isWorker x0 post) : mSi l nM_X5_isWorker nC_X5_isWorker 1 (some .boolean) ({ frames := 0, cells := 0, slots := 0, locals := 0 } : Room) [.int x0] post := by
  refine mt_S (by decide) (Nat.le_of_ble_eq_true rfl) ?_
  intro p e s m below meth c ls hx hb hml hr hown hlocks hw hl
  have hl : lv_has ls 1 [(0, .int x0)] := hl
  unfold j_X5_isWorker at h
  refine lv_iload_n hx hb nD_X5_isWorker_0 rfl (lv_at hl 0 rfl) ?_
  refine lv_if_lt (tgt := 13) hx hb nD_X5_isWorker_1 (by decide) (fun hc => ?_) (fun hc => ?_)
  · have h := h.1 hc
    refine lv_iconst (v := (0 : Int32)) hx hb nD_X5_isWorker_13 (by decide) ?_
    exact mr_z hx hb hr hlocks rfl h nD_X5_isWorker_14
  · have h := h.2 hc
    refine lv_iload_n hx hb nD_X5_isWorker_4 rfl (lv_at hl 0 rfl) ?_
    refine lv_iconst (v := (3 : Int32)) hx hb nD_X5_isWorker_5 (by decide) ?_
    refine lv_icmp_ge (tgt := 13) hx hb nD_X5_isWorker_6 (by decide) (fun hc => ?_) (fun hc => ?_)
    · have h := h.1 hc
      refine lv_iconst (v := (0 : Int32)) hx hb nD_X5_isWorker_13 (by decide) ?_
      exact mr_z hx hb hr hlocks rfl h nD_X5_isWorker_14
    · have h := h.2 hc
      refine lv_iconst (v := (1 : Int32)) hx hb nD_X5_isWorker_9 (by decide) ?_
      refine lv_goto (tgt := 14) hx hb nD_X5_isWorker_10 (by decide) ?_
      exact mr_z hx hb hr hlocks rfl h nD_X5_isWorker_14
set_option maxHeartbeats 4000000 in
set_option maxRecDepth 100000 in
theorem c_X5_isValue (l : Launch) (x0 : Int32) (post : Int32 → Prop) (h : j_X5_isValue x0 post) : mSi l nM_X5_isValue nC_X5_isValue 1 (some .boolean) ({ frames := 0, cells := 0, slots := 0, locals := 0 } : Room) [.int x0] post := by
  refine mt_S (by decide) (Nat.le_of_ble_eq_true rfl) ?_
  intro p e s m below meth c ls hx hb hml hr hown hlocks hw hl
  have hl : lv_has ls 1 [(0, .int x0)] := hl
  unfold j_X5_isValue at h
  refine lv_iload_n hx hb nD_X5_isValue_0 rfl (lv_at hl 0 rfl) ?_
  refine lv_if_lt (tgt := 14) hx hb nD_X5_isValue_1 (by decide) (fun hc => ?_) (fun hc => ?_)
  · have h := h.1 hc
    refine lv_iconst (v := (0 : Int32)) hx hb nD_X5_isValue_14 (by decide) ?_
    exact mr_z hx hb hr hlocks rfl h nD_X5_isValue_15
  · have h := h.2 hc
    refine lv_iload_n hx hb nD_X5_isValue_4 rfl (lv_at hl 0 rfl) ?_
    refine lv_bipush (v := (16 : Int32)) hx hb nD_X5_isValue_5 (by decide) ?_
    refine lv_icmp_ge (tgt := 14) hx hb nD_X5_isValue_7 (by decide) (fun hc => ?_) (fun hc => ?_)
    · have h := h.1 hc
      refine lv_iconst (v := (0 : Int32)) hx hb nD_X5_isValue_14 (by decide) ?_
      exact mr_z hx hb hr hlocks rfl h nD_X5_isValue_15
    · have h := h.2 hc
      refine lv_iconst (v := (1 : Int32)) hx hb nD_X5_isValue_10 (by decide) ?_
      refine lv_goto (tgt := 15) hx hb nD_X5_isValue_11 (by decide) ?_
      exact mr_z hx hb hr hlocks rfl h nD_X5_isValue_15
set_option maxHeartbeats 4000000 in
set_option maxRecDepth 100000 in
theorem c_X5_isIn (l : Launch) (x0 : Int32) (x1 : Int32) (post : Int32 → Prop) (h : j_X5_isIn x0 x1 post) : mSi l nM_X5_isIn nC_X5_isIn 2 (some .boolean) ({ frames := 0, cells := 0, slots := 0, locals := 0 } : Room) [.int x0, .int x1] post := by
  refine mt_S (by decide) (Nat.le_of_ble_eq_true rfl) ?_
  intro p e s m below meth c ls hx hb hml hr hown hlocks hw hl
  have hl : lv_has ls 2 [(0, .int x0), (1, .int x1)] := hl
  unfold j_X5_isIn at h
  refine lv_iload_n hx hb nD_X5_isIn_0 rfl (lv_at hl 0 rfl) ?_
  refine lv_iload_n hx hb nD_X5_isIn_1 rfl (lv_at hl 1 rfl) ?_
  refine lv_ishr hx hb nD_X5_isIn_2 ?_
  refine lv_iconst (v := (1 : Int32)) hx hb nD_X5_isIn_3 (by decide) ?_
  refine lv_iand hx hb nD_X5_isIn_4 ?_
  refine lv_if_eq (tgt := 12) hx hb nD_X5_isIn_5 (by decide) (fun hc => ?_) (fun hc => ?_)
  · have h := h.1 hc
    refine lv_iconst (v := (0 : Int32)) hx hb nD_X5_isIn_12 (by decide) ?_
    exact mr_z hx hb hr hlocks rfl h nD_X5_isIn_13
  · have h := h.2 hc
    refine lv_iconst (v := (1 : Int32)) hx hb nD_X5_isIn_8 (by decide) ?_
    refine lv_goto (tgt := 13) hx hb nD_X5_isIn_9 (by decide) ?_
    exact mr_z hx hb hr hlocks rfl h nD_X5_isIn_13
set_option maxHeartbeats 4000000 in
set_option maxRecDepth 100000 in
theorem c_JI_bitCount (l : Launch) (x0 : Int32) (post : Int32 → Prop) (h : j_JI_bitCount x0 post) : mSi l nM_JI_bitCount nC_JI_bitCount 1 (some .int) ({ frames := 0, cells := 0, slots := 0, locals := 0 } : Room) [.int x0] post := by
  refine mt_S (by decide) (Nat.le_of_ble_eq_true rfl) ?_
  intro p e s m below meth c ls hx hb hml hr hown hlocks hw hl
  have hl : lv_has ls 1 [(0, .int x0)] := hl
  unfold j_JI_bitCount at h
  refine lv_iload_n hx hb nD_JI_bitCount_0 rfl (lv_at hl 0 rfl) ?_
  refine lv_iload_n hx hb nD_JI_bitCount_1 rfl (lv_at hl 0 rfl) ?_
  refine lv_iconst (v := (1 : Int32)) hx hb nD_JI_bitCount_2 (by decide) ?_
  refine lv_iushr (v := (x0.toUInt32 >>> ((1 : Int32).toUInt32 &&& Int32.toUInt32 31)).toInt32) hx hb nD_JI_bitCount_3 rfl ?_
  refine lv_ldcw (v := (1431655765 : Int32)) hx hb hown (hw _ wm_382) nD_JI_bitCount_4 ?_
  refine lv_iand hx hb nD_JI_bitCount_7 ?_
  refine lv_isub hx hb nD_JI_bitCount_8 ?_
  refine lv_topi (fun v1 e_v1 => ?_)
  have h := h v1 e_v1
  clear e_v1
  refine lv_istore_n hx hb nD_JI_bitCount_9 rfl hl (by decide) rfl (fun ls hl => ?_)
  have hl : lv_has ls 1 [(0, .int v1)] := hl
  refine lv_iload_n hx hb nD_JI_bitCount_10 rfl (lv_at hl 0 rfl) ?_
  refine lv_ldcw (v := (858993459 : Int32)) hx hb hown (hw _ wm_383) nD_JI_bitCount_11 ?_
  refine lv_iand hx hb nD_JI_bitCount_14 ?_
  refine lv_iload_n hx hb nD_JI_bitCount_15 rfl (lv_at hl 0 rfl) ?_
  refine lv_iconst (v := (2 : Int32)) hx hb nD_JI_bitCount_16 (by decide) ?_
  refine lv_iushr (v := (v1.toUInt32 >>> ((2 : Int32).toUInt32 &&& Int32.toUInt32 31)).toInt32) hx hb nD_JI_bitCount_17 rfl ?_
  refine lv_ldcw (v := (858993459 : Int32)) hx hb hown (hw _ wm_383) nD_JI_bitCount_18 ?_
  refine lv_iand hx hb nD_JI_bitCount_21 ?_
  refine lv_iadd hx hb nD_JI_bitCount_22 ?_
  refine lv_topi (fun v2 e_v2 => ?_)
  have h := h v2 e_v2
  clear e_v2
  refine lv_istore_n hx hb nD_JI_bitCount_23 rfl hl (by decide) rfl (fun ls hl => ?_)
  have hl : lv_has ls 1 [(0, .int v2)] := hl
  refine lv_iload_n hx hb nD_JI_bitCount_24 rfl (lv_at hl 0 rfl) ?_
  refine lv_iload_n hx hb nD_JI_bitCount_25 rfl (lv_at hl 0 rfl) ?_
  refine lv_iconst (v := (4 : Int32)) hx hb nD_JI_bitCount_26 (by decide) ?_
  refine lv_iushr (v := (v2.toUInt32 >>> ((4 : Int32).toUInt32 &&& Int32.toUInt32 31)).toInt32) hx hb nD_JI_bitCount_27 rfl ?_
  refine lv_iadd hx hb nD_JI_bitCount_28 ?_
  refine lv_ldcw (v := (252645135 : Int32)) hx hb hown (hw _ wm_384) nD_JI_bitCount_29 ?_
  refine lv_iand hx hb nD_JI_bitCount_32 ?_
  refine lv_topi (fun v3 e_v3 => ?_)
  have h := h v3 e_v3
  clear e_v3
  refine lv_istore_n hx hb nD_JI_bitCount_33 rfl hl (by decide) rfl (fun ls hl => ?_)
  have hl : lv_has ls 1 [(0, .int v3)] := hl
  refine lv_iload_n hx hb nD_JI_bitCount_34 rfl (lv_at hl 0 rfl) ?_
  refine lv_iload_n hx hb nD_JI_bitCount_35 rfl (lv_at hl 0 rfl) ?_
  refine lv_bipush (v := (8 : Int32)) hx hb nD_JI_bitCount_36 (by decide) ?_
  refine lv_iushr (v := (v3.toUInt32 >>> ((8 : Int32).toUInt32 &&& Int32.toUInt32 31)).toInt32) hx hb nD_JI_bitCount_38 rfl ?_
  refine lv_iadd hx hb nD_JI_bitCount_39 ?_
  refine lv_topi (fun v4 e_v4 => ?_)
  have h := h v4 e_v4
  clear e_v4
  refine lv_istore_n hx hb nD_JI_bitCount_40 rfl hl (by decide) rfl (fun ls hl => ?_)
  have hl : lv_has ls 1 [(0, .int v4)] := hl
  refine lv_iload_n hx hb nD_JI_bitCount_41 rfl (lv_at hl 0 rfl) ?_
  refine lv_iload_n hx hb nD_JI_bitCount_42 rfl (lv_at hl 0 rfl) ?_
  refine lv_bipush (v := (16 : Int32)) hx hb nD_JI_bitCount_43 (by decide) ?_
  refine lv_iushr (v := (v4.toUInt32 >>> ((16 : Int32).toUInt32 &&& Int32.toUInt32 31)).toInt32) hx hb nD_JI_bitCount_45 rfl ?_
  refine lv_iadd hx hb nD_JI_bitCount_46 ?_
  refine lv_topi (fun v5 e_v5 => ?_)
  have h := h v5 e_v5
  clear e_v5
  refine lv_istore_n hx hb nD_JI_bitCount_47 rfl hl (by decide) rfl (fun ls hl => ?_)
  have hl : lv_has ls 1 [(0, .int v5)] := hl
  refine lv_iload_n hx hb nD_JI_bitCount_48 rfl (lv_at hl 0 rfl) ?_
  refine lv_bipush (v := (63 : Int32)) hx hb nD_JI_bitCount_49 (by decide) ?_
  refine lv_iand hx hb nD_JI_bitCount_51 ?_
  exact mr_i hx hb hr hlocks h nD_JI_bitCount_52
end
section
set_option maxHeartbeats 4000000 in
set_option maxRecDepth 100000 in
theorem c_X4_setUp (l : Launch) (D : va_G) (tc : Nat → ClassId) (a : Nat → Nat) (x1 : Int32) (x2 : Int32) (σ : zS) (post : zS → Prop) (h : j_X4_setUp x1 x2 σ post) : mWv l nM_X4_setUp nC_X4_setUp 3 ({ frames := 1, cells := 0, slots := 0, locals := 15 } : Room) D (ztX tc) [.ref (a 1), .int x1, .int x2] (zX a tc σ) (zQv (zX a tc) post) := by
  intro sz
  refine mt_W (by decide) (Nat.le_of_ble_eq_true rfl) ?_
  intro p e s m below meth c ls hx hb hml hr hown hlocks hin hw hn hP hK hD hS hA hl hsz
  subst hsz
  have hl : lv_has ls 3 [(0, .ref (a 1)), (1, .int x1), (2, .int x2)] := hl
  unfold j_X4_setUp at h
  refine lv_aload_n hx hb nD_X4_setUp_0 rfl (lv_at hl 0 rfl) ?_
  refine lv_iload_n hx hb nD_X4_setUp_1 rfl (lv_at hl 1 rfl) ?_
  refine lv_iconst (v := (1 : Int32)) hx hb nD_X4_setUp_2 (by decide) ?_
  refine lv_icmp_eq (tgt := 11) hx hb nD_X4_setUp_3 (by decide) (fun hc => ?_) (fun hc => ?_)
  · have h := h.1 hc
    refine lv_iload_n hx hb nD_X4_setUp_11 rfl (lv_at hl 1 rfl) ?_
    refine lv_goto (tgt := 16) hx hb nD_X4_setUp_12 (by decide) ?_
    refine va_put (D := D) (ci := 3) (v := .int x1) (ty := .int) (C := nR_X4) (T := nT_X4) (N := 2) hx hb hw wu_X4 nY_X4 nO_X4 nN_X4 hown hK hP hD hS 1 xc_1 rfl 0 (by decide) (hw _ wm_49) (fun _ h9 => h9) rfl (by decide +kernel) rfl rfl (Nat.le_of_ble_eq_true rfl) nD_X4_setUp_16 (fun H locs hP hD hS => ?_)
    obtain ⟨σ1, e_σ1⟩ : ∃ z : zS, z = zI σ 0 x1 := ⟨_, rfl⟩
    obtain ⟨hP, hD⟩ := znew (w := zX a tc) e_σ1 (xp_1_0) hP hD
    have h := h σ1 e_σ1
    clear e_σ1
    refine lv_aload_n hx hb nD_X4_setUp_19 rfl (lv_at hl 0 rfl) ?_
    refine lv_iconst (v := (1 : Int32)) hx hb nD_X4_setUp_20 (by decide) ?_
    refine lv_iload_n hx hb nD_X4_setUp_21 rfl (lv_at hl 2 rfl) ?_
    refine lv_bipush (v := (8 : Int32)) hx hb nD_X4_setUp_22 (by decide) ?_
    refine va_mmin hx hb (hml.trans hl.1.symm) hown (hw _ wm_134) (hw _ wm_135) (hw _ wm_30) (hw _ wm_136) (Nat.le_of_ble_eq_true rfl) (Nat.le_of_ble_eq_true rfl) (Nat.zero_le _) (Nat.zero_le _) nD_X4_setUp_24 ?_
    refine va_mmax hx hb (hml.trans hl.1.symm) hown (hw _ wm_137) (hw _ wm_138) (hw _ wm_30) (hw _ wm_139) (Nat.le_of_ble_eq_true rfl) (Nat.le_of_ble_eq_true rfl) (Nat.zero_le _) (Nat.zero_le _) nD_X4_setUp_27 ?_
    refine va_put (D := D) (ci := 3) (v := .int (if (1 : Int32) < (if (8 : Int32) < x2 then (8 : Int32) else x2) then (if (8 : Int32) < x2 then (8 : Int32) else x2) else (1 : Int32))) (ty := .int) (C := nR_X4) (T := nT_X4) (N := 2) hx hb hw wu_X4 nY_X4 nO_X4 nN_X4 hown hK hP hD hS 1 xc_1 rfl 1 (by decide) (hw _ wm_50) (fun _ h9 => h9) rfl (by decide +kernel) rfl rfl (Nat.le_of_ble_eq_true rfl) nD_X4_setUp_30 (fun H locs hP hD hS => ?_)
    obtain ⟨σ2, e_σ2⟩ : ∃ z : zS, z = zI σ1 1 (if (1 : Int32) < (if (8 : Int32) < x2 then (8 : Int32) else x2) then (if (8 : Int32) < x2 then (8 : Int32) else x2) else (1 : Int32)) := ⟨_, rfl⟩
    obtain ⟨hP, hD⟩ := znew (w := zX a tc) e_σ2 (xp_1_1) hP hD
    have h := h σ2 e_σ2
    clear e_σ2
    exact mw_v hx hb hr hlocks ⟨σ2, rfl, h⟩ hP hK hD hS nD_X4_setUp_33
  · have h := h.2 hc
    refine lv_iload_n hx hb nD_X4_setUp_6 rfl (lv_at hl 1 rfl) ?_
    refine lv_iconst (v := (2 : Int32)) hx hb nD_X4_setUp_7 (by decide) ?_
    refine lv_icmp_ne (tgt := 15) hx hb nD_X4_setUp_8 (by decide) (fun hc => ?_) (fun hc => ?_)
    · have h := h.2 hc
      refine lv_iconst (v := (0 : Int32)) hx hb nD_X4_setUp_15 (by decide) ?_
      refine va_put (D := D) (ci := 3) (v := .int (0 : Int32)) (ty := .int) (C := nR_X4) (T := nT_X4) (N := 2) hx hb hw wu_X4 nY_X4 nO_X4 nN_X4 hown hK hP hD hS 1 xc_1 rfl 0 (by decide) (hw _ wm_49) (fun _ h9 => h9) rfl (by decide +kernel) rfl rfl (Nat.le_of_ble_eq_true rfl) nD_X4_setUp_16 (fun H locs hP hD hS => ?_)
      obtain ⟨σ3, e_σ3⟩ : ∃ z : zS, z = zI σ 0 (0 : Int32) := ⟨_, rfl⟩
      obtain ⟨hP, hD⟩ := znew (w := zX a tc) e_σ3 (xp_1_0) hP hD
      have h := h σ3 e_σ3
      clear e_σ3
      refine lv_aload_n hx hb nD_X4_setUp_19 rfl (lv_at hl 0 rfl) ?_
      refine lv_iconst (v := (1 : Int32)) hx hb nD_X4_setUp_20 (by decide) ?_
      refine lv_iload_n hx hb nD_X4_setUp_21 rfl (lv_at hl 2 rfl) ?_
      refine lv_bipush (v := (8 : Int32)) hx hb nD_X4_setUp_22 (by decide) ?_
      refine va_mmin hx hb (hml.trans hl.1.symm) hown (hw _ wm_134) (hw _ wm_135) (hw _ wm_30) (hw _ wm_136) (Nat.le_of_ble_eq_true rfl) (Nat.le_of_ble_eq_true rfl) (Nat.zero_le _) (Nat.zero_le _) nD_X4_setUp_24 ?_
      refine va_mmax hx hb (hml.trans hl.1.symm) hown (hw _ wm_137) (hw _ wm_138) (hw _ wm_30) (hw _ wm_139) (Nat.le_of_ble_eq_true rfl) (Nat.le_of_ble_eq_true rfl) (Nat.zero_le _) (Nat.zero_le _) nD_X4_setUp_27 ?_
      refine va_put (D := D) (ci := 3) (v := .int (if (1 : Int32) < (if (8 : Int32) < x2 then (8 : Int32) else x2) then (if (8 : Int32) < x2 then (8 : Int32) else x2) else (1 : Int32))) (ty := .int) (C := nR_X4) (T := nT_X4) (N := 2) hx hb hw wu_X4 nY_X4 nO_X4 nN_X4 hown hK hP hD hS 1 xc_1 rfl 1 (by decide) (hw _ wm_50) (fun _ h9 => h9) rfl (by decide +kernel) rfl rfl (Nat.le_of_ble_eq_true rfl) nD_X4_setUp_30 (fun H locs hP hD hS => ?_)
      obtain ⟨σ4, e_σ4⟩ : ∃ z : zS, z = zI σ3 1 (if (1 : Int32) < (if (8 : Int32) < x2 then (8 : Int32) else x2) then (if (8 : Int32) < x2 then (8 : Int32) else x2) else (1 : Int32)) := ⟨_, rfl⟩
      obtain ⟨hP, hD⟩ := znew (w := zX a tc) e_σ4 (xp_1_1) hP hD
      have h := h σ4 e_σ4
      clear e_σ4
      exact mw_v hx hb hr hlocks ⟨σ4, rfl, h⟩ hP hK hD hS nD_X4_setUp_33
    · have h := h.1 hc
      refine lv_iload_n hx hb nD_X4_setUp_11 rfl (lv_at hl 1 rfl) ?_
      refine lv_goto (tgt := 16) hx hb nD_X4_setUp_12 (by decide) ?_
      refine va_put (D := D) (ci := 3) (v := .int x1) (ty := .int) (C := nR_X4) (T := nT_X4) (N := 2) hx hb hw wu_X4 nY_X4 nO_X4 nN_X4 hown hK hP hD hS 1 xc_1 rfl 0 (by decide) (hw _ wm_49) (fun _ h9 => h9) rfl (by decide +kernel) rfl rfl (Nat.le_of_ble_eq_true rfl) nD_X4_setUp_16 (fun H locs hP hD hS => ?_)
      obtain ⟨σ5, e_σ5⟩ : ∃ z : zS, z = zI σ 0 x1 := ⟨_, rfl⟩
      obtain ⟨hP, hD⟩ := znew (w := zX a tc) e_σ5 (xp_1_0) hP hD
      have h := h σ5 e_σ5
      clear e_σ5
      refine lv_aload_n hx hb nD_X4_setUp_19 rfl (lv_at hl 0 rfl) ?_
      refine lv_iconst (v := (1 : Int32)) hx hb nD_X4_setUp_20 (by decide) ?_
      refine lv_iload_n hx hb nD_X4_setUp_21 rfl (lv_at hl 2 rfl) ?_
      refine lv_bipush (v := (8 : Int32)) hx hb nD_X4_setUp_22 (by decide) ?_
      refine va_mmin hx hb (hml.trans hl.1.symm) hown (hw _ wm_134) (hw _ wm_135) (hw _ wm_30) (hw _ wm_136) (Nat.le_of_ble_eq_true rfl) (Nat.le_of_ble_eq_true rfl) (Nat.zero_le _) (Nat.zero_le _) nD_X4_setUp_24 ?_
      refine va_mmax hx hb (hml.trans hl.1.symm) hown (hw _ wm_137) (hw _ wm_138) (hw _ wm_30) (hw _ wm_139) (Nat.le_of_ble_eq_true rfl) (Nat.le_of_ble_eq_true rfl) (Nat.zero_le _) (Nat.zero_le _) nD_X4_setUp_27 ?_
      refine va_put (D := D) (ci := 3) (v := .int (if (1 : Int32) < (if (8 : Int32) < x2 then (8 : Int32) else x2) then (if (8 : Int32) < x2 then (8 : Int32) else x2) else (1 : Int32))) (ty := .int) (C := nR_X4) (T := nT_X4) (N := 2) hx hb hw wu_X4 nY_X4 nO_X4 nN_X4 hown hK hP hD hS 1 xc_1 rfl 1 (by decide) (hw _ wm_50) (fun _ h9 => h9) rfl (by decide +kernel) rfl rfl (Nat.le_of_ble_eq_true rfl) nD_X4_setUp_30 (fun H locs hP hD hS => ?_)
      obtain ⟨σ6, e_σ6⟩ : ∃ z : zS, z = zI σ5 1 (if (1 : Int32) < (if (8 : Int32) < x2 then (8 : Int32) else x2) then (if (8 : Int32) < x2 then (8 : Int32) else x2) else (1 : Int32)) := ⟨_, rfl⟩
      obtain ⟨hP, hD⟩ := znew (w := zX a tc) e_σ6 (xp_1_1) hP hD
      have h := h σ6 e_σ6
      clear e_σ6
      exact mw_v hx hb hr hlocks ⟨σ6, rfl, h⟩ hP hK hD hS nD_X4_setUp_33
set_option maxHeartbeats 4000000 in
set_option maxRecDepth 100000 in
theorem c_X4_letsPut (l : Launch) (D : va_G) (tc : Nat → ClassId) (a : Nat → Nat) (x1 : Int32) (σ : zS) (post : Int32 → zS → Prop) (h : j_X4_letsPut x1 σ post) : mWi l nM_X4_letsPut nC_X4_letsPut 2 (some .boolean) ({ frames := 0, cells := 0, slots := 0, locals := 0 } : Room) D (ztX tc) [.ref (a 1), .int x1] (zX a tc σ) (zQi (zX a tc) post) := by
  intro sz
  refine mt_W (by decide) (Nat.le_of_ble_eq_true rfl) ?_
  intro p e s m below meth c ls hx hb hml hr hown hlocks hin hw hn hP hK hD hS hA hl hsz
  subst hsz
  have hl : lv_has ls 2 [(0, .ref (a 1)), (1, .int x1)] := hl
  unfold j_X4_letsPut at h
  refine lv_aload_n hx hb nD_X4_letsPut_0 rfl (lv_at hl 0 rfl) ?_
  refine va_get (D := D) (ci := 3) (v := .int (σ.1 0)) (C := nR_X4) (T := nT_X4) (N := 2) hx hb hw wu_X4 hown hK hP 1 xc_1 rfl 0 (by decide) (hw _ wm_49) (fun _ h9 => h9) rfl nD_X4_letsPut_1 ?_
  refine lv_iconst (v := (2 : Int32)) hx hb nD_X4_letsPut_4 (by decide) ?_
  refine lv_icmp_ne (tgt := 12) hx hb nD_X4_letsPut_5 (by decide) (fun hc => ?_) (fun hc => ?_)
  · have h := h.2 hc
    refine lv_iconst (v := (1 : Int32)) hx hb nD_X4_letsPut_12 (by decide) ?_
    refine lv_goto (tgt := 17) hx hb nD_X4_letsPut_13 (by decide) ?_
    exact mw_z hx hb hr hlocks rfl ⟨σ, rfl, h⟩ hP hK hD hS nD_X4_letsPut_17
  · have h := h.1 hc
    refine lv_iload_n hx hb nD_X4_letsPut_8 rfl (lv_at hl 1 rfl) ?_
    refine lv_if_ne (tgt := 16) hx hb nD_X4_letsPut_9 (by decide) (fun hc => ?_) (fun hc => ?_)
    · have h := h.2 hc
      refine lv_iconst (v := (0 : Int32)) hx hb nD_X4_letsPut_16 (by decide) ?_
      exact mw_z hx hb hr hlocks rfl ⟨σ, rfl, h⟩ hP hK hD hS nD_X4_letsPut_17
    · have h := h.1 hc
      refine lv_iconst (v := (1 : Int32)) hx hb nD_X4_letsPut_12 (by decide) ?_
      refine lv_goto (tgt := 17) hx hb nD_X4_letsPut_13 (by decide) ?_
      exact mw_z hx hb hr hlocks rfl ⟨σ, rfl, h⟩ hP hK hD hS nD_X4_letsPut_17
set_option maxHeartbeats 4000000 in
set_option maxRecDepth 100000 in
theorem c_X4_hasRoom (l : Launch) (D : va_G) (tc : Nat → ClassId) (a : Nat → Nat) (x1 : Int64) (σ : zS) (post : Int32 → zS → Prop) (h : j_X4_hasRoom x1 σ post) : mWi l nM_X4_hasRoom nC_X4_hasRoom 3 (some .boolean) ({ frames := 1, cells := 0, slots := 0, locals := 21 } : Room) D (ztX tc) [.ref (a 1), .long x1] (zX a tc σ) (zQi (zX a tc) post) := by
  intro sz
  refine mt_W (by decide) (Nat.le_of_ble_eq_true rfl) ?_
  intro p e s m below meth c ls hx hb hml hr hown hlocks hin hw hn hP hK hD hS hA hl hsz
  subst hsz
  have hl : lv_has ls 3 [(0, .ref (a 1)), (1, .long x1)] := hl
  unfold j_X4_hasRoom at h
  refine lv_lload_n hx hb nD_X4_hasRoom_0 rfl (lv_at hl 1 rfl) ?_
  refine vp_callSi (W.runS (As := [.long x1]) (rest := []) ⟨hx, hb, hml, hown, hw⟩ (c_X2_length l x1 _ h) (mcS 1 hw wm_199 wm_197 wm_198 wm_32 rfl rfl nh_X2_length ⟨Nat.le_of_ble_eq_true rfl, Nat.le_of_ble_eq_true rfl⟩) mp_S rfl rfl hl.1 rfl (lv_room (Nat.le_of_ble_eq_true rfl)) nD_X4_hasRoom_1 ⟨Nat.zero_le _, Nat.zero_le _⟩) (fun r1 h => ?_)
  refine lv_aload_n hx hb nD_X4_hasRoom_4 rfl (lv_at hl 0 rfl) ?_
  refine va_get (D := D) (ci := 3) (v := .int (σ.1 1)) (C := nR_X4) (T := nT_X4) (N := 2) hx hb hw wu_X4 hown hK hP 1 xc_1 rfl 1 (by decide) (hw _ wm_50) (fun _ h9 => h9) rfl nD_X4_hasRoom_5 ?_
  refine lv_icmp_ge (tgt := 15) hx hb nD_X4_hasRoom_8 (by decide) (fun hc => ?_) (fun hc => ?_)
  · have h := h.1 hc
    refine lv_iconst (v := (0 : Int32)) hx hb nD_X4_hasRoom_15 (by decide) ?_
    exact mw_z hx hb hr hlocks rfl ⟨σ, rfl, h⟩ hP hK hD hS nD_X4_hasRoom_16
  · have h := h.2 hc
    refine lv_iconst (v := (1 : Int32)) hx hb nD_X4_hasRoom_11 (by decide) ?_
    refine lv_goto (tgt := 16) hx hb nD_X4_hasRoom_12 (by decide) ?_
    exact mw_z hx hb hr hlocks rfl ⟨σ, rfl, h⟩ hP hK hD hS nD_X4_hasRoom_16
set_option maxHeartbeats 4000000 in
set_option maxRecDepth 100000 in
theorem c_X4_takesBack (l : Launch) (D : va_G) (tc : Nat → ClassId) (a : Nat → Nat) (x1 : Int32) (σ : zS) (post : Int32 → zS → Prop) (h : j_X4_takesBack x1 σ post) : mWi l nM_X4_takesBack nC_X4_takesBack 2 (some .boolean) ({ frames := 0, cells := 0, slots := 0, locals := 0 } : Room) D (ztX tc) [.ref (a 1), .int x1] (zX a tc σ) (zQi (zX a tc) post) := by
  intro sz
  refine mt_W (by decide) (Nat.le_of_ble_eq_true rfl) ?_
  intro p e s m below meth c ls hx hb hml hr hown hlocks hin hw hn hP hK hD hS hA hl hsz
  subst hsz
  have hl : lv_has ls 2 [(0, .ref (a 1)), (1, .int x1)] := hl
  unfold j_X4_takesBack at h
  refine lv_aload_n hx hb nD_X4_takesBack_0 rfl (lv_at hl 0 rfl) ?_
  refine va_get (D := D) (ci := 3) (v := .int (σ.1 0)) (C := nR_X4) (T := nT_X4) (N := 2) hx hb hw wu_X4 hown hK hP 1 xc_1 rfl 0 (by decide) (hw _ wm_49) (fun _ h9 => h9) rfl nD_X4_takesBack_1 ?_
  refine lv_iconst (v := (1 : Int32)) hx hb nD_X4_takesBack_4 (by decide) ?_
  refine lv_icmp_eq (tgt := 20) hx hb nD_X4_takesBack_5 (by decide) (fun hc => ?_) (fun hc => ?_)
  · have h := h.1 hc
    refine lv_iconst (v := (1 : Int32)) hx hb nD_X4_takesBack_20 (by decide) ?_
    refine lv_goto (tgt := 25) hx hb nD_X4_takesBack_21 (by decide) ?_
    exact mw_z hx hb hr hlocks rfl ⟨σ, rfl, h⟩ hP hK hD hS nD_X4_takesBack_25
  · have h := h.2 hc
    refine lv_aload_n hx hb nD_X4_takesBack_8 rfl (lv_at hl 0 rfl) ?_
    refine va_get (D := D) (ci := 3) (v := .int (σ.1 0)) (C := nR_X4) (T := nT_X4) (N := 2) hx hb hw wu_X4 hown hK hP 1 xc_1 rfl 0 (by decide) (hw _ wm_49) (fun _ h9 => h9) rfl nD_X4_takesBack_9 ?_
    refine lv_iconst (v := (2 : Int32)) hx hb nD_X4_takesBack_12 (by decide) ?_
    refine lv_icmp_ne (tgt := 24) hx hb nD_X4_takesBack_13 (by decide) (fun hc => ?_) (fun hc => ?_)
    · have h := h.2 hc
      refine lv_iconst (v := (0 : Int32)) hx hb nD_X4_takesBack_24 (by decide) ?_
      exact mw_z hx hb hr hlocks rfl ⟨σ, rfl, h⟩ hP hK hD hS nD_X4_takesBack_25
    · have h := h.1 hc
      refine lv_iload_n hx hb nD_X4_takesBack_16 rfl (lv_at hl 1 rfl) ?_
      refine lv_if_ne (tgt := 24) hx hb nD_X4_takesBack_17 (by decide) (fun hc => ?_) (fun hc => ?_)
      · have h := h.2 hc
        refine lv_iconst (v := (0 : Int32)) hx hb nD_X4_takesBack_24 (by decide) ?_
        exact mw_z hx hb hr hlocks rfl ⟨σ, rfl, h⟩ hP hK hD hS nD_X4_takesBack_25
      · have h := h.1 hc
        refine lv_iconst (v := (1 : Int32)) hx hb nD_X4_takesBack_20 (by decide) ?_
        refine lv_goto (tgt := 25) hx hb nD_X4_takesBack_21 (by decide) ?_
        exact mw_z hx hb hr hlocks rfl ⟨σ, rfl, h⟩ hP hK hD hS nD_X4_takesBack_25
set_option maxHeartbeats 4000000 in
set_option maxRecDepth 100000 in
theorem c_X4_replyTo (l : Launch) (D : va_G) (tc : Nat → ClassId) (a : Nat → Nat) (j1 : Nat) (x2 : Int64) (hj1 : j1 < 8) (σ : zS) (post : Int32 → zS → Prop) (h : j_X4_replyTo j1 x2 σ post) : mWi l nM_X4_replyTo nC_X4_replyTo 4 (some .int) ({ frames := 2, cells := 0, slots := 0, locals := 43 } : Room) D (ztX tc) [.ref (a 1), .ref (a (11 + j1)), .long x2] (zX a tc σ) (zQi (zX a tc) post) := by
  intro sz
  refine mt_W (by decide) (Nat.le_of_ble_eq_true rfl) ?_
  intro p e s m below meth c ls hx hb hml hr hown hlocks hin hw hn hP hK hD hS hA hl hsz
  subst hsz
  have hl : lv_has ls 4 [(0, .ref (a 1)), (1, .ref (a (11 + j1))), (2, .long x2)] := hl
  unfold j_X4_replyTo at h
  refine lv_aload_n hx hb nD_X4_replyTo_0 rfl (lv_at hl 1 rfl) ?_
  refine va_getN (D := D) (ci := 0) (v := .int (σ.2.1 6 j1)) (C := nR_X0) (T := nT_X0) (N := 5) hx hb hw wu_X0 hown hK hP (11 + j1) (xcC hj1) rfl 1 (by decide) (hn.use wn_108) (fun _ h9 => h9) rfl nD_X4_replyTo_1 ?_
  refine lv_if_eq (tgt := 21) hx hb nD_X4_replyTo_4 (by decide) (fun hc => ?_) (fun hc => ?_)
  · have h := h.1 hc
    refine lv_lload_n hx hb nD_X4_replyTo_21 rfl (lv_at hl 2 rfl) ?_
    refine lv_lconst (v := (0 : Int64)) hx hb nD_X4_replyTo_22 (by decide) ?_
    refine W.lcmp hx hb nD_X4_replyTo_23 ?_
    refine lv_if_ne (tgt := 29) hx hb nD_X4_replyTo_24 (by decide) (fun hc => ?_) (fun hc => ?_)
    · have h := h.2 hc
      refine lv_lload_n hx hb nD_X4_replyTo_29 rfl (lv_at hl 2 rfl) ?_
      refine lv_aload_n hx hb nD_X4_replyTo_30 rfl (lv_at hl 0 rfl) ?_
      refine lv_aload_n hx hb nD_X4_replyTo_31 rfl (lv_at hl 1 rfl) ?_
      refine va_getN (D := D) (ci := 0) (v := .int (σ.2.1 5 j1)) (C := nR_X0) (T := nT_X0) (N := 5) hx hb hw wu_X0 hown hK hP (11 + j1) (xcC hj1) rfl 0 (by decide) (hn.use wn_106) (fun _ h9 => h9) rfl nD_X4_replyTo_32 ?_
      refine zC_i (va_runV (As := [.int (σ.2.1 5 j1)]) (rest := [.long x2]) ⟨hx, hb, hml, hown, hw⟩ (c_X4_takesBack l D tc a (σ.2.1 5 j1) σ _ h _) (mcV 1 hw wm_203 wm_200 wm_202 wm_7 wm_26 rfl rfl nh_X4_takesBack ⟨Nat.le_of_ble_eq_true rfl, Nat.le_of_ble_eq_true rfl⟩) (zp_V (ci := 3) hP hD hK hn rfl xc_1) rfl rfl hl.1 rfl (lv_room (Nat.le_of_ble_eq_true rfl)) nD_X4_replyTo_35 ⟨Nat.zero_le _, Nat.zero_le _⟩) hD hS hA (fun r2 σ1 H locs h hP hD hS => ?_)
      refine lv_if_eq (tgt := 50) hx hb nD_X4_replyTo_38 (by decide) (fun hc => ?_) (fun hc => ?_)
      · have h := h.1 hc
        refine lv_iconst (v := (0 : Int32)) hx hb nD_X4_replyTo_50 (by decide) ?_
        refine vp_callSi (W.runS (As := [.long x2, .int (0 : Int32)]) (rest := []) ⟨hx, hb, hml, hown, hw⟩ (c_X2_valueAt l x2 (0 : Int32) _ h) (mcS 2 hw wm_206 wm_204 wm_205 wm_32 rfl rfl nh_X2_valueAt ⟨Nat.le_of_ble_eq_true rfl, Nat.le_of_ble_eq_true rfl⟩) mp_S rfl rfl hl.1 rfl (lv_room (Nat.le_of_ble_eq_true rfl)) nD_X4_replyTo_51 ⟨Nat.zero_le _, Nat.zero_le _⟩) (fun r3 h => ?_)
        exact mw_i hx hb hr hlocks ⟨σ1, rfl, h⟩ hP hK hD hS nD_X4_replyTo_54
      · have h := h.2 hc
        refine lv_lload_n hx hb nD_X4_replyTo_41 rfl (lv_at hl 2 rfl) ?_
        refine vp_callSi (W.runS (As := [.long x2]) (rest := [.long x2]) ⟨hx, hb, hml, hown, hw⟩ (c_X2_length l x2 _ h) (mcS 1 hw wm_199 wm_197 wm_198 wm_32 rfl rfl nh_X2_length ⟨Nat.le_of_ble_eq_true rfl, Nat.le_of_ble_eq_true rfl⟩) mp_S rfl rfl hl.1 rfl (lv_room (Nat.le_of_ble_eq_true rfl)) nD_X4_replyTo_42 ⟨Nat.zero_le _, Nat.zero_le _⟩) (fun r4 h => ?_)
        refine lv_iconst (v := (1 : Int32)) hx hb nD_X4_replyTo_45 (by decide) ?_
        refine lv_isub hx hb nD_X4_replyTo_46 ?_
        refine lv_goto (tgt := 51) hx hb nD_X4_replyTo_47 (by decide) ?_
        refine vp_callSi (W.runS (As := [.long x2, .int (r4 - (1 : Int32))]) (rest := []) ⟨hx, hb, hml, hown, hw⟩ (c_X2_valueAt l x2 (r4 - (1 : Int32)) _ h) (mcS 2 hw wm_206 wm_204 wm_205 wm_32 rfl rfl nh_X2_valueAt ⟨Nat.le_of_ble_eq_true rfl, Nat.le_of_ble_eq_true rfl⟩) mp_S rfl rfl hl.1 rfl (lv_room (Nat.le_of_ble_eq_true rfl)) nD_X4_replyTo_51 ⟨Nat.zero_le _, Nat.zero_le _⟩) (fun r5 h => ?_)
        exact mw_i hx hb hr hlocks ⟨σ1, rfl, h⟩ hP hK hD hS nD_X4_replyTo_54
    · have h := h.1 hc
      refine lv_iconst (v := (-1 : Int32)) hx hb nD_X4_replyTo_27 (by decide) ?_
      exact mw_i hx hb hr hlocks ⟨σ, rfl, h⟩ hP hK hD hS nD_X4_replyTo_28
  · have h := h.2 hc
    refine lv_aload_n hx hb nD_X4_replyTo_7 rfl (lv_at hl 0 rfl) ?_
    refine lv_lload_n hx hb nD_X4_replyTo_8 rfl (lv_at hl 2 rfl) ?_
    refine zC_i (va_runV (As := [.long x2]) (rest := []) ⟨hx, hb, hml, hown, hw⟩ (c_X4_hasRoom l D tc a x2 σ _ h _) (mcV 1 hw wm_196 wm_193 wm_195 wm_6 wm_26 rfl rfl nh_X4_hasRoom ⟨Nat.le_of_ble_eq_true rfl, Nat.le_of_ble_eq_true rfl⟩) (zp_V (ci := 3) hP hD hK hn rfl xc_1) rfl rfl hl.1 rfl (lv_room (Nat.le_of_ble_eq_true rfl)) nD_X4_replyTo_9 ⟨Nat.zero_le _, Nat.zero_le _⟩) hD hS hA (fun r7 σ6 H locs h hP hD hS => ?_)
    refine lv_if_eq (tgt := 19) hx hb nD_X4_replyTo_12 (by decide) (fun hc => ?_) (fun hc => ?_)
    · have h := h.1 hc
      refine lv_iconst (v := (0 : Int32)) hx hb nD_X4_replyTo_19 (by decide) ?_
      exact mw_i hx hb hr hlocks ⟨σ6, rfl, h⟩ hP hK hD hS nD_X4_replyTo_20
    · have h := h.2 hc
      refine lv_iconst (v := (1 : Int32)) hx hb nD_X4_replyTo_15 (by decide) ?_
      refine lv_goto (tgt := 20) hx hb nD_X4_replyTo_16 (by decide) ?_
      exact mw_i hx hb hr hlocks ⟨σ6, rfl, h⟩ hP hK hD hS nD_X4_replyTo_20
set_option maxHeartbeats 4000000 in
set_option maxRecDepth 100000 in
theorem c_X4_rowAfter (l : Launch) (D : va_G) (tc : Nat → ClassId) (a : Nat → Nat) (j1 : Nat) (x2 : Int64) (hj1 : j1 < 8) (σ : zS) (post : Int64 → zS → Prop) (h : j_X4_rowAfter j1 x2 σ post) : mWl l nM_X4_rowAfter nC_X4_rowAfter 4 ({ frames := 2, cells := 0, slots := 0, locals := 44 } : Room) D (ztX tc) [.ref (a 1), .ref (a (11 + j1)), .long x2] (zX a tc σ) (zQl (zX a tc) post) := by
  intro sz
  refine mt_W (by decide) (Nat.le_of_ble_eq_true rfl) ?_
  intro p e s m below meth c ls hx hb hml hr hown hlocks hin hw hn hP hK hD hS hA hl hsz
  subst hsz
  have hl : lv_has ls 4 [(0, .ref (a 1)), (1, .ref (a (11 + j1))), (2, .long x2)] := hl
  unfold j_X4_rowAfter at h
  refine lv_aload_n hx hb nD_X4_rowAfter_0 rfl (lv_at hl 1 rfl) ?_
  refine va_getN (D := D) (ci := 0) (v := .int (σ.2.1 6 j1)) (C := nR_X0) (T := nT_X0) (N := 5) hx hb hw wu_X0 hown hK hP (11 + j1) (xcC hj1) rfl 1 (by decide) (hn.use wn_108) (fun _ h9 => h9) rfl nD_X4_rowAfter_1 ?_
  refine lv_if_eq (tgt := 28) hx hb nD_X4_rowAfter_4 (by decide) (fun hc => ?_) (fun hc => ?_)
  · have h := h.1 hc
    refine lv_lload_n hx hb nD_X4_rowAfter_28 rfl (lv_at hl 2 rfl) ?_
    refine lv_lconst (v := (0 : Int64)) hx hb nD_X4_rowAfter_29 (by decide) ?_
    refine W.lcmp hx hb nD_X4_rowAfter_30 ?_
    refine lv_if_ne (tgt := 36) hx hb nD_X4_rowAfter_31 (by decide) (fun hc => ?_) (fun hc => ?_)
    · have h := h.2 hc
      refine lv_aload_n hx hb nD_X4_rowAfter_36 rfl (lv_at hl 0 rfl) ?_
      refine lv_aload_n hx hb nD_X4_rowAfter_37 rfl (lv_at hl 1 rfl) ?_
      refine va_getN (D := D) (ci := 0) (v := .int (σ.2.1 5 j1)) (C := nR_X0) (T := nT_X0) (N := 5) hx hb hw wu_X0 hown hK hP (11 + j1) (xcC hj1) rfl 0 (by decide) (hn.use wn_106) (fun _ h9 => h9) rfl nD_X4_rowAfter_38 ?_
      refine zC_i (va_runV (As := [.int (σ.2.1 5 j1)]) (rest := []) ⟨hx, hb, hml, hown, hw⟩ (c_X4_takesBack l D tc a (σ.2.1 5 j1) σ _ h _) (mcV 1 hw wm_203 wm_200 wm_202 wm_7 wm_26 rfl rfl nh_X4_takesBack ⟨Nat.le_of_ble_eq_true rfl, Nat.le_of_ble_eq_true rfl⟩) (zp_V (ci := 3) hP hD hK hn rfl xc_1) rfl rfl hl.1 rfl (lv_room (Nat.le_of_ble_eq_true rfl)) nD_X4_rowAfter_41 ⟨Nat.zero_le _, Nat.zero_le _⟩) hD hS hA (fun r2 σ1 H locs h hP hD hS => ?_)
      refine lv_if_eq (tgt := 54) hx hb nD_X4_rowAfter_44 (by decide) (fun hc => ?_) (fun hc => ?_)
      · have h := h.1 hc
        refine lv_lload_n hx hb nD_X4_rowAfter_54 rfl (lv_at hl 2 rfl) ?_
        refine vp_callSl (W.runS (As := [.long x2]) (rest := []) ⟨hx, hb, hml, hown, hw⟩ (c_X2_withoutFront l x2 _ h) (mcS 1 hw wm_223 wm_221 wm_222 wm_32 rfl rfl nh_X2_withoutFront ⟨Nat.le_of_ble_eq_true rfl, Nat.le_of_ble_eq_true rfl⟩) mp_S rfl rfl hl.1 rfl (lv_room (Nat.le_of_ble_eq_true rfl)) nD_X4_rowAfter_55 ⟨Nat.zero_le _, Nat.zero_le _⟩) (fun r3 h => ?_)
        exact mw_l hx hb hr hlocks ⟨σ1, rfl, h⟩ hP hK hD hS nD_X4_rowAfter_58
      · have h := h.2 hc
        refine lv_lload_n hx hb nD_X4_rowAfter_47 rfl (lv_at hl 2 rfl) ?_
        refine vp_callSl (W.runS (As := [.long x2]) (rest := []) ⟨hx, hb, hml, hown, hw⟩ (c_X2_withoutBack l x2 _ h) (mcS 1 hw wm_218 wm_216 wm_217 wm_32 rfl rfl nh_X2_withoutBack ⟨Nat.le_of_ble_eq_true rfl, Nat.le_of_ble_eq_true rfl⟩) mp_S rfl rfl hl.1 rfl (lv_room (Nat.le_of_ble_eq_true rfl)) nD_X4_rowAfter_48 ⟨Nat.zero_le _, Nat.zero_le _⟩) (fun r4 h => ?_)
        refine lv_goto (tgt := 58) hx hb nD_X4_rowAfter_51 (by decide) ?_
        exact mw_l hx hb hr hlocks ⟨σ1, rfl, h⟩ hP hK hD hS nD_X4_rowAfter_58
    · have h := h.1 hc
      refine lv_lload_n hx hb nD_X4_rowAfter_34 rfl (lv_at hl 2 rfl) ?_
      exact mw_l hx hb hr hlocks ⟨σ, rfl, h⟩ hP hK hD hS nD_X4_rowAfter_35
  · have h := h.2 hc
    refine lv_aload_n hx hb nD_X4_rowAfter_7 rfl (lv_at hl 0 rfl) ?_
    refine lv_lload_n hx hb nD_X4_rowAfter_8 rfl (lv_at hl 2 rfl) ?_
    refine zC_i (va_runV (As := [.long x2]) (rest := []) ⟨hx, hb, hml, hown, hw⟩ (c_X4_hasRoom l D tc a x2 σ _ h _) (mcV 1 hw wm_196 wm_193 wm_195 wm_6 wm_26 rfl rfl nh_X4_hasRoom ⟨Nat.le_of_ble_eq_true rfl, Nat.le_of_ble_eq_true rfl⟩) (zp_V (ci := 3) hP hD hK hn rfl xc_1) rfl rfl hl.1 rfl (lv_room (Nat.le_of_ble_eq_true rfl)) nD_X4_rowAfter_9 ⟨Nat.zero_le _, Nat.zero_le _⟩) hD hS hA (fun r6 σ5 H locs h hP hD hS => ?_)
    refine lv_if_eq (tgt := 26) hx hb nD_X4_rowAfter_12 (by decide) (fun hc => ?_) (fun hc => ?_)
    · have h := h.1 hc
      refine lv_lload_n hx hb nD_X4_rowAfter_26 rfl (lv_at hl 2 rfl) ?_
      exact mw_l hx hb hr hlocks ⟨σ5, rfl, h⟩ hP hK hD hS nD_X4_rowAfter_27
    · have h := h.2 hc
      refine lv_lload_n hx hb nD_X4_rowAfter_15 rfl (lv_at hl 2 rfl) ?_
      refine lv_aload_n hx hb nD_X4_rowAfter_16 rfl (lv_at hl 1 rfl) ?_
      refine va_getN (D := D) (ci := 0) (v := .int (σ5.2.1 7 j1)) (C := nR_X0) (T := nT_X0) (N := 5) hx hb hw wu_X0 hown hK hP (11 + j1) (xcC hj1) rfl 2 (by decide) (hn.use wn_111) (fun _ h9 => h9) rfl nD_X4_rowAfter_17 ?_
      refine vp_callSl (W.runS (As := [.long x2, .int (σ5.2.1 7 j1)]) (rest := []) ⟨hx, hb, hml, hown, hw⟩ (c_X2_withBack l x2 (σ5.2.1 7 j1) _ h) (mcS 2 hw wm_213 wm_211 wm_212 wm_32 rfl rfl nh_X2_withBack ⟨Nat.le_of_ble_eq_true rfl, Nat.le_of_ble_eq_true rfl⟩) mp_S rfl rfl hl.1 rfl (lv_room (Nat.le_of_ble_eq_true rfl)) nD_X4_rowAfter_20 ⟨Nat.zero_le _, Nat.zero_le _⟩) (fun r7 h => ?_)
      refine lv_goto (tgt := 27) hx hb nD_X4_rowAfter_23 (by decide) ?_
      exact mw_l hx hb hr hlocks ⟨σ5, rfl, h⟩ hP hK hD hS nD_X4_rowAfter_27
set_option maxHeartbeats 4000000 in
set_option maxRecDepth 100000 in
theorem c_X0_startPut (l : Launch) (D : va_G) (tc : Nat → ClassId) (a : Nat → Nat) (j : Nat) (x1 : Int32) (x2 : Int32) (x3 : Int32) (hj : j < 8) (σ : zS) (post : zS → Prop) (h : j_X0_startPut j x1 x2 x3 σ post) : mWv l nM_X0_startPut nC_X0_startPut 4 ({ frames := 0, cells := 0, slots := 0, locals := 0 } : Room) D (ztX tc) [.ref (a (11 + j)), .int x1, .int x2, .int x3] (zX a tc σ) (zQv (zX a tc) post) := by
  intro sz
  refine mt_W (by decide) (Nat.le_of_ble_eq_true rfl) ?_
  intro p e s m below meth c ls hx hb hml hr hown hlocks hin hw hn hP hK hD hS hA hl hsz
  subst hsz
  have hl : lv_has ls 4 [(0, .ref (a (11 + j))), (1, .int x1), (2, .int x2), (3, .int x3)] := hl
  unfold j_X0_startPut at h
  refine lv_aload_n hx hb nD_X0_startPut_0 rfl (lv_at hl 0 rfl) ?_
  refine lv_iload_n hx hb nD_X0_startPut_1 rfl (lv_at hl 1 rfl) ?_
  refine va_put (D := D) (ci := 0) (v := .int x1) (ty := .int) (C := nR_X0) (T := nT_X0) (N := 5) hx hb hw wu_X0 nY_X0 nO_X0 nN_X0 hown hK hP hD hS (11 + j) (xcC hj) rfl 0 (by decide) (hw _ wm_105) (fun _ h9 => h9) rfl (by decide +kernel) rfl rfl (Nat.le_of_ble_eq_true rfl) nD_X0_startPut_2 (fun H locs hP hD hS => ?_)
  obtain ⟨σ1, e_σ1⟩ : ∃ z : zS, z = zA σ 5 j x1 := ⟨_, rfl⟩
  obtain ⟨hP, hD⟩ := znew (w := zX a tc) e_σ1 (xpC_0 hj) hP hD
  have h := h σ1 e_σ1
  clear e_σ1
  refine lv_aload_n hx hb nD_X0_startPut_5 rfl (lv_at hl 0 rfl) ?_
  refine lv_iconst (v := (1 : Int32)) hx hb nD_X0_startPut_6 (by decide) ?_
  refine va_put (D := D) (ci := 0) (v := .int (1 : Int32)) (ty := .boolean) (C := nR_X0) (T := nT_X0) (N := 5) hx hb hw wu_X0 nY_X0 nO_X0 nN_X0 hown hK hP hD hS (11 + j) (xcC hj) rfl 1 (by decide) (hw _ wm_107) (fun _ h9 => h9) rfl (by decide +kernel) rfl rfl (Nat.le_of_ble_eq_true rfl) nD_X0_startPut_7 (fun H locs hP hD hS => ?_)
  obtain ⟨σ2, e_σ2⟩ : ∃ z : zS, z = zA σ1 6 j (1 : Int32) := ⟨_, rfl⟩
  obtain ⟨hP, hD⟩ := znew (w := zX a tc) e_σ2 (xpC_1 hj) hP hD
  have h := h σ2 e_σ2
  clear e_σ2
  refine lv_aload_n hx hb nD_X0_startPut_10 rfl (lv_at hl 0 rfl) ?_
  refine lv_iload_n hx hb nD_X0_startPut_11 rfl (lv_at hl 2 rfl) ?_
  refine va_put (D := D) (ci := 0) (v := .int x2) (ty := .int) (C := nR_X0) (T := nT_X0) (N := 5) hx hb hw wu_X0 nY_X0 nO_X0 nN_X0 hown hK hP hD hS (11 + j) (xcC hj) rfl 2 (by decide) (hw _ wm_110) (fun _ h9 => h9) rfl (by decide +kernel) rfl rfl (Nat.le_of_ble_eq_true rfl) nD_X0_startPut_12 (fun H locs hP hD hS => ?_)
  obtain ⟨σ3, e_σ3⟩ : ∃ z : zS, z = zA σ2 7 j x2 := ⟨_, rfl⟩
  obtain ⟨hP, hD⟩ := znew (w := zX a tc) e_σ3 (xpC_2 hj) hP hD
  have h := h σ3 e_σ3
  clear e_σ3
  refine lv_aload_n hx hb nD_X0_startPut_15 rfl (lv_at hl 0 rfl) ?_
  refine lv_iload_n hx hb nD_X0_startPut_16 rfl (lv_at hl 3 rfl) ?_
  refine va_put (D := D) (ci := 0) (v := .int x3) (ty := .int) (C := nR_X0) (T := nT_X0) (N := 5) hx hb hw wu_X0 nY_X0 nO_X0 nN_X0 hown hK hP hD hS (11 + j) (xcC hj) rfl 3 (by decide) (hw _ wm_112) (fun _ h9 => h9) rfl (by decide +kernel) rfl rfl (Nat.le_of_ble_eq_true rfl) nD_X0_startPut_17 (fun H locs hP hD hS => ?_)
  obtain ⟨σ4, e_σ4⟩ : ∃ z : zS, z = zA σ3 8 j x3 := ⟨_, rfl⟩
  obtain ⟨hP, hD⟩ := znew (w := zX a tc) e_σ4 (xpC_3 hj) hP hD
  have h := h σ4 e_σ4
  clear e_σ4
  exact mw_v hx hb hr hlocks ⟨σ4, rfl, h⟩ hP hK hD hS nD_X0_startPut_20
set_option maxHeartbeats 4000000 in
set_option maxRecDepth 100000 in
theorem c_X0_startTake (l : Launch) (D : va_G) (tc : Nat → ClassId) (a : Nat → Nat) (j : Nat) (x1 : Int32) (x2 : Int32) (hj : j < 8) (σ : zS) (post : zS → Prop) (h : j_X0_startTake j x1 x2 σ post) : mWv l nM_X0_startTake nC_X0_startTake 3 ({ frames := 0, cells := 0, slots := 0, locals := 0 } : Room) D (ztX tc) [.ref (a (11 + j)), .int x1, .int x2] (zX a tc σ) (zQv (zX a tc) post) := by
  intro sz
  refine mt_W (by decide) (Nat.le_of_ble_eq_true rfl) ?_
  intro p e s m below meth c ls hx hb hml hr hown hlocks hin hw hn hP hK hD hS hA hl hsz
  subst hsz
  have hl : lv_has ls 3 [(0, .ref (a (11 + j))), (1, .int x1), (2, .int x2)] := hl
  unfold j_X0_startTake at h
  refine lv_aload_n hx hb nD_X0_startTake_0 rfl (lv_at hl 0 rfl) ?_
  refine lv_iload_n hx hb nD_X0_startTake_1 rfl (lv_at hl 1 rfl) ?_
  refine va_put (D := D) (ci := 0) (v := .int x1) (ty := .int) (C := nR_X0) (T := nT_X0) (N := 5) hx hb hw wu_X0 nY_X0 nO_X0 nN_X0 hown hK hP hD hS (11 + j) (xcC hj) rfl 0 (by decide) (hw _ wm_105) (fun _ h9 => h9) rfl (by decide +kernel) rfl rfl (Nat.le_of_ble_eq_true rfl) nD_X0_startTake_2 (fun H locs hP hD hS => ?_)
  obtain ⟨σ1, e_σ1⟩ : ∃ z : zS, z = zA σ 5 j x1 := ⟨_, rfl⟩
  obtain ⟨hP, hD⟩ := znew (w := zX a tc) e_σ1 (xpC_0 hj) hP hD
  have h := h σ1 e_σ1
  clear e_σ1
  refine lv_aload_n hx hb nD_X0_startTake_5 rfl (lv_at hl 0 rfl) ?_
  refine lv_iconst (v := (0 : Int32)) hx hb nD_X0_startTake_6 (by decide) ?_
  refine va_put (D := D) (ci := 0) (v := .int (0 : Int32)) (ty := .boolean) (C := nR_X0) (T := nT_X0) (N := 5) hx hb hw wu_X0 nY_X0 nO_X0 nN_X0 hown hK hP hD hS (11 + j) (xcC hj) rfl 1 (by decide) (hw _ wm_107) (fun _ h9 => h9) rfl (by decide +kernel) rfl rfl (Nat.le_of_ble_eq_true rfl) nD_X0_startTake_7 (fun H locs hP hD hS => ?_)
  obtain ⟨σ2, e_σ2⟩ : ∃ z : zS, z = zA σ1 6 j (0 : Int32) := ⟨_, rfl⟩
  obtain ⟨hP, hD⟩ := znew (w := zX a tc) e_σ2 (xpC_1 hj) hP hD
  have h := h σ2 e_σ2
  clear e_σ2
  refine lv_aload_n hx hb nD_X0_startTake_10 rfl (lv_at hl 0 rfl) ?_
  refine lv_iload_n hx hb nD_X0_startTake_11 rfl (lv_at hl 2 rfl) ?_
  refine va_put (D := D) (ci := 0) (v := .int x2) (ty := .int) (C := nR_X0) (T := nT_X0) (N := 5) hx hb hw wu_X0 nY_X0 nO_X0 nN_X0 hown hK hP hD hS (11 + j) (xcC hj) rfl 3 (by decide) (hw _ wm_112) (fun _ h9 => h9) rfl (by decide +kernel) rfl rfl (Nat.le_of_ble_eq_true rfl) nD_X0_startTake_12 (fun H locs hP hD hS => ?_)
  obtain ⟨σ3, e_σ3⟩ : ∃ z : zS, z = zA σ2 8 j x2 := ⟨_, rfl⟩
  obtain ⟨hP, hD⟩ := znew (w := zX a tc) e_σ3 (xpC_3 hj) hP hD
  have h := h σ3 e_σ3
  clear e_σ3
  exact mw_v hx hb hr hlocks ⟨σ3, rfl, h⟩ hP hK hD hS nD_X0_startTake_15
end
section
set_option maxHeartbeats 4000000 in
set_option maxRecDepth 100000 in
theorem c_X3_clear (l : Launch) (D : va_G) (tc : Nat → ClassId) (a : Nat → Nat) (σ : zS) (post : zS → Prop) (h : j_X3_clear  σ post) : mWv l nM_X3_clear nC_X3_clear 1 ({ frames := 1, cells := 0, slots := 0, locals := 23 } : Room) D (ztX tc) [.ref (a 6)] (zX a tc σ) (zQv (zX a tc) post) := by
  intro sz
  refine mt_W (by decide) (Nat.le_of_ble_eq_true rfl) ?_
  intro p e s m below meth c ls hx hb hml hr hown hlocks hin hw hn hP hK hD hS hA hl hsz
  subst hsz
  have hl : lv_has ls 1 [(0, .ref (a 6))] := hl
  unfold j_X3_clear at h
  refine lv_aload_n hx hb nD_X3_clear_0 rfl (lv_at hl 0 rfl) ?_
  refine va_get (D := D) (ci := 2) (v := .ref (a 8)) (C := nR_X3) (T := nT_X3) (N := 3) hx hb hw wu_X3 hown hK hP 6 xc_6 rfl 1 (by decide) (hw _ wm_71) (fun _ h9 => h9) rfl nD_X3_clear_1 ?_
  refine lv_iconst (v := (0 : Int32)) hx hb nD_X3_clear_4 (by decide) ?_
  refine zC_fill (q0 := 8) (t0 := 4) (rest := []) ⟨hx, hb, hml, hown, hw⟩ wm_155 (by decide) hK hn hP hD hS hA xc_8 rfl hl.1 (lv_room (Nat.le_of_ble_eq_true rfl)) nD_X3_clear_5 ⟨Nat.le_of_ble_eq_true rfl, Nat.le_of_ble_eq_true rfl⟩ ⟨Nat.zero_le _, Nat.zero_le _⟩ wm_142 wm_141 wm_31 (fun H locs hP hD hS => ?_)
  obtain ⟨σ1, e_σ1⟩ : ∃ z : zS, z = zF σ 4 (zfl (σ.2.1 4) 1024 (0 : Int32)) := ⟨_, rfl⟩
  obtain ⟨hP, hD⟩ := znew (w := zX a tc) e_σ1 (xf_8) hP hD
  have h := h σ1 e_σ1
  clear e_σ1
  refine lv_aload_n hx hb nD_X3_clear_8 rfl (lv_at hl 0 rfl) ?_
  refine lv_iconst (v := (0 : Int32)) hx hb nD_X3_clear_9 (by decide) ?_
  refine va_put (D := D) (ci := 2) (v := .int (0 : Int32)) (ty := .int) (C := nR_X3) (T := nT_X3) (N := 3) hx hb hw wu_X3 nY_X3 nO_X3 nN_X3 hown hK hP hD hS 6 xc_6 rfl 2 (by decide) (hw _ wm_72) (fun _ h9 => h9) rfl (by decide +kernel) rfl rfl (Nat.le_of_ble_eq_true rfl) nD_X3_clear_10 (fun H locs hP hD hS => ?_)
  obtain ⟨σ2, e_σ2⟩ : ∃ z : zS, z = zI σ1 8 (0 : Int32) := ⟨_, rfl⟩
  obtain ⟨hP, hD⟩ := znew (w := zX a tc) e_σ2 (xp_6_2) hP hD
  have h := h σ2 e_σ2
  clear e_σ2
  exact mw_v hx hb hr hlocks ⟨σ2, rfl, h⟩ hP hK hD hS nD_X3_clear_13
set_option maxHeartbeats 4000000 in
set_option maxRecDepth 100000 in
theorem wl_X3_add_13 {l : Launch} {p : Program} {e : Env} {s : State} {m : MethodId} {args : Array Value} {below : List Frame} {meth : Method} {c : Code} {D : va_G} {tc : Nat → ClassId} {a : Nat → Nat} {w0 : va_W} (x1 : Int64) (post : zS → Prop) (K : Int32 → Int32 → zS → Prop) (hx : p.tables.exec = Jvm.exec) (hb : c.code = nC_X3_add) (hml : c.maxLocals = 6) (hr : meth.sig.returnType = none) (hown : s.vm.findClass nM_X3_add.cls = some m.cls) (hlocks : meth.locks = false) (hw : ∀ w ∈ wA, w.before args s = true) (hn : mN s) (hK : va_K D nCl (ztX tc) s) (hA : ∀ q, s.heap.size ≤ q → va_A w0 s.heap.size q)
    (hk : ∀ (y3 : Int32) (y4 : Int32) (σ : zS) (H : Heap) (locs : List Loc) (ls : Array Slot), K y3 y4 σ → va_P D nCl (zX a tc σ) H → va_D (va_A w0 s.heap.size) (zX a tc σ) → va_S (va_A w0 s.heap.size) s.heap H locs → lv_has ls 6 [(0, .ref (a 6)), (1, .long x1), (3, .int y3), (4, .int y4)] → W p l e ({ frames := 0, cells := 0, slots := 0, locals := 0 } : Room) s m args below meth c H locs 0 0 (MQ below (va_Qv (zQv (zX a tc) post) (mQW D (ztX tc) w0 s.heap.size) (va_A w0 s.heap.size)) args s 0 0 (va_A w0 s.heap.size)) (F0 m 109 ls [])) : ∀ q : Int32 × Int32 × zS, zLP (b_X3_add_13 x1 post K) q → ∀ (H : Heap) (locs : List Loc) (ls : Array Slot), va_P D nCl (zX a tc q.2.2) H → va_D (va_A w0 s.heap.size) (zX a tc q.2.2) → va_S (va_A w0 s.heap.size) s.heap H locs → lv_has ls 6 [(0, .ref (a 6)), (1, .long x1), (3, .int q.1), (4, .int q.2.1)] → W p l e ({ frames := 0, cells := 0, slots := 0, locals := 0 } : Room) s m args below meth c H locs 0 0 (MQ below (va_Qv (zQv (zX a tc) post) (mQW D (ztX tc) w0 s.heap.size) (va_A w0 s.heap.size)) args s 0 0 (va_A w0 s.heap.size)) (F0 m 13 ls []) := by
  refine zLP_walk ?_
  rintro R ⟨y3, y4, σ⟩ hR h H locs ls hP hD hS hl
  dsimp only at hP hD hl
  dsimp only [b_X3_add_13] at h
  refine lv_iload hx hb nD_X3_add_13 (lv_at hl 3 rfl) ?_
  refine lv_sipush (v := (1024 : Int32)) hx hb nD_X3_add_15 (by decide) ?_
  refine lv_icmp_ge (tgt := 109) hx hb nD_X3_add_18 (by decide) (fun hc => ?_) (fun hc => ?_)
  · have h := h.1 hc
    exact hk y3 y4 σ _ _ ls h hP hD hS hl
  · have h := h.2 hc
    refine lv_aload_n hx hb nD_X3_add_21 rfl (lv_at hl 0 rfl) ?_
    refine va_get (D := D) (ci := 2) (v := .ref (a 8)) (C := nR_X3) (T := nT_X3) (N := 3) hx hb hw wu_X3 hown hK hP 6 xc_6 rfl 1 (by decide) (hw _ wm_71) (fun _ h9 => h9) rfl nD_X3_add_22 ?_
    refine lv_iload_n hx hb nD_X3_add_25 rfl (lv_at hl 2 rfl) ?_
    obtain ⟨hi2, h⟩ := h
    refine va_iald (D := D) hx hb hK hP 8 4 xc_8 rfl hi2 nD_X3_add_26 ?_
    refine lv_topi (fun v3 e_v3 => ?_)
    have h := h v3 e_v3
    clear e_v3
    refine lv_istore hx hb nD_X3_add_27 hl (by decide) rfl (fun ls hl => ?_)
    have hl : lv_has ls 6 [(5, .int v3), (0, .ref (a 6)), (1, .long x1), (3, .int y3), (4, .int y4)] := hl
    refine lv_iload hx hb nD_X3_add_29 (lv_at hl 0 rfl) ?_
    refine lv_if_eq (tgt := 49) hx hb nD_X3_add_31 (by decide) (fun hc => ?_) (fun hc => ?_)
    · have h := h.1 hc
      refine lv_iload hx hb nD_X3_add_49 (lv_at hl 0 rfl) ?_
      refine lv_if_ne (tgt := 95) hx hb nD_X3_add_51 (by decide) (fun hc => ?_) (fun hc => ?_)
      · have h := h.2 hc
        refine lv_iload_n hx hb nD_X3_add_95 rfl (lv_at hl 3 rfl) ?_
        refine lv_iconst (v := (1 : Int32)) hx hb nD_X3_add_96 (by decide) ?_
        refine lv_iadd hx hb nD_X3_add_97 ?_
        refine lv_sipush (v := (1024 : Int32)) hx hb nD_X3_add_98 (by decide) ?_
        refine lv_irem hx hb nD_X3_add_101 (by decide) ?_
        refine lv_topi (fun v4 e_v4 => ?_)
        have h := h v4 e_v4
        clear e_v4
        refine lv_istore_n hx hb nD_X3_add_102 rfl hl (by decide) rfl (fun ls hl => ?_)
        have hl : lv_has ls 6 [(3, .int v4), (5, .int v3), (0, .ref (a 6)), (1, .long x1), (4, .int y4)] := hl
        refine lv_iinc (k := 4) (v := y4 + 1) hx hb nD_X3_add_103 hl rfl rfl (by decide) rfl (fun ls hl => ?_)
        have hl : lv_has ls 6 [(4, .int (y4 + 1)), (3, .int v4), (5, .int v3), (0, .ref (a 6)), (1, .long x1)] := hl
        refine lv_goto (tgt := 13) hx hb nD_X3_add_106 (by decide) ?_
        have hl := lv_sub (l' := [(0, .ref (a 6)), (1, .long x1), (3, .int v4), (4, .int (y4 + 1))]) hl [3, 4, 1, 0] rfl
        exact hR _ h _ _ ls hP hD hS hl
      · have h := h.1 hc
        refine lv_aload_n hx hb nD_X3_add_54 rfl (lv_at hl 1 rfl) ?_
        refine va_get (D := D) (ci := 2) (v := .int (σ.1 8)) (C := nR_X3) (T := nT_X3) (N := 3) hx hb hw wu_X3 hown hK hP 6 xc_6 rfl 2 (by decide) (hw _ wm_72) (fun _ h9 => h9) rfl nD_X3_add_55 ?_
        refine lv_sipush (v := (680 : Int32)) hx hb nD_X3_add_58 (by decide) ?_
        refine lv_icmp_ge (tgt := 95) hx hb nD_X3_add_61 (by decide) (fun hc => ?_) (fun hc => ?_)
        · have h := h.1 hc
          refine lv_iload_n hx hb nD_X3_add_95 rfl (lv_at hl 3 rfl) ?_
          refine lv_iconst (v := (1 : Int32)) hx hb nD_X3_add_96 (by decide) ?_
          refine lv_iadd hx hb nD_X3_add_97 ?_
          refine lv_sipush (v := (1024 : Int32)) hx hb nD_X3_add_98 (by decide) ?_
          refine lv_irem hx hb nD_X3_add_101 (by decide) ?_
          refine lv_topi (fun v5 e_v5 => ?_)
          have h := h v5 e_v5
          clear e_v5
          refine lv_istore_n hx hb nD_X3_add_102 rfl hl (by decide) rfl (fun ls hl => ?_)
          have hl : lv_has ls 6 [(3, .int v5), (5, .int v3), (0, .ref (a 6)), (1, .long x1), (4, .int y4)] := hl
          refine lv_iinc (k := 4) (v := y4 + 1) hx hb nD_X3_add_103 hl rfl rfl (by decide) rfl (fun ls hl => ?_)
          have hl : lv_has ls 6 [(4, .int (y4 + 1)), (3, .int v5), (5, .int v3), (0, .ref (a 6)), (1, .long x1)] := hl
          refine lv_goto (tgt := 13) hx hb nD_X3_add_106 (by decide) ?_
          have hl := lv_sub (l' := [(0, .ref (a 6)), (1, .long x1), (3, .int v5), (4, .int (y4 + 1))]) hl [3, 4, 1, 0] rfl
          exact hR _ h _ _ ls hP hD hS hl
        · have h := h.2 hc
          refine lv_aload_n hx hb nD_X3_add_64 rfl (lv_at hl 1 rfl) ?_
          refine va_get (D := D) (ci := 2) (v := .ref (a 7)) (C := nR_X3) (T := nT_X3) (N := 3) hx hb hw wu_X3 hown hK hP 6 xc_6 rfl 0 (by decide) (hw _ wm_70) (fun _ h9 => h9) rfl nD_X3_add_65 ?_
          refine lv_aload_n hx hb nD_X3_add_68 rfl (lv_at hl 1 rfl) ?_
          refine va_get (D := D) (ci := 2) (v := .int (σ.1 8)) (C := nR_X3) (T := nT_X3) (N := 3) hx hb hw wu_X3 hown hK hP 6 xc_6 rfl 2 (by decide) (hw _ wm_72) (fun _ h9 => h9) rfl nD_X3_add_69 ?_
          refine lv_lload_n hx hb nD_X3_add_72 rfl (lv_at hl 2 rfl) ?_
          obtain ⟨hi6, h⟩ := h
          refine va_last (D := D) hx hb hK hP hD hS 7 3 xc_7 rfl hi6 nD_X3_add_73 (fun H locs hP hD hS => ?_)
          obtain ⟨σ7, e_σ7⟩ : ∃ z : zS, z = zL σ 0 (σ.1 8).toNatClampNeg x1 := ⟨_, rfl⟩
          obtain ⟨hP, hD⟩ := znew (w := zX a tc) e_σ7 (xa_7) hP hD
          have h := h σ7 e_σ7
          clear e_σ7
          refine lv_aload_n hx hb nD_X3_add_74 rfl (lv_at hl 1 rfl) ?_
          refine lv_dup hx hb nD_X3_add_75 rfl ?_
          refine va_get (D := D) (ci := 2) (v := .int (σ7.1 8)) (C := nR_X3) (T := nT_X3) (N := 3) hx hb hw wu_X3 hown hK hP 6 xc_6 rfl 2 (by decide) (hw _ wm_72) (fun _ h9 => h9) rfl nD_X3_add_76 ?_
          refine lv_iconst (v := (1 : Int32)) hx hb nD_X3_add_79 (by decide) ?_
          refine lv_iadd hx hb nD_X3_add_80 ?_
          refine va_put (D := D) (ci := 2) (v := .int ((σ7.1 8) + (1 : Int32))) (ty := .int) (C := nR_X3) (T := nT_X3) (N := 3) hx hb hw wu_X3 nY_X3 nO_X3 nN_X3 hown hK hP hD hS 6 xc_6 rfl 2 (by decide) (hw _ wm_72) (fun _ h9 => h9) rfl (by decide +kernel) rfl rfl (Nat.le_of_ble_eq_true rfl) nD_X3_add_81 (fun H locs hP hD hS => ?_)
          obtain ⟨σ8, e_σ8⟩ : ∃ z : zS, z = zI σ7 8 ((σ7.1 8) + (1 : Int32)) := ⟨_, rfl⟩
          obtain ⟨hP, hD⟩ := znew (w := zX a tc) e_σ8 (xp_6_2) hP hD
          have h := h σ8 e_σ8
          clear e_σ8
          refine lv_aload_n hx hb nD_X3_add_84 rfl (lv_at hl 1 rfl) ?_
          refine va_get (D := D) (ci := 2) (v := .ref (a 8)) (C := nR_X3) (T := nT_X3) (N := 3) hx hb hw wu_X3 hown hK hP 6 xc_6 rfl 1 (by decide) (hw _ wm_71) (fun _ h9 => h9) rfl nD_X3_add_85 ?_
          refine lv_iload_n hx hb nD_X3_add_88 rfl (lv_at hl 3 rfl) ?_
          refine lv_aload_n hx hb nD_X3_add_89 rfl (lv_at hl 1 rfl) ?_
          refine va_get (D := D) (ci := 2) (v := .int (σ8.1 8)) (C := nR_X3) (T := nT_X3) (N := 3) hx hb hw wu_X3 hown hK hP 6 xc_6 rfl 2 (by decide) (hw _ wm_72) (fun _ h9 => h9) rfl nD_X3_add_90 ?_
          obtain ⟨hi9, h⟩ := h
          refine va_iast (D := D) hx hb hK hP hD hS 8 4 xc_8 rfl hi9 nD_X3_add_93 (fun H locs hP hD hS => ?_)
          obtain ⟨σ10, e_σ10⟩ : ∃ z : zS, z = zA σ8 4 y3.toNatClampNeg (σ8.1 8) := ⟨_, rfl⟩
          obtain ⟨hP, hD⟩ := znew (w := zX a tc) e_σ10 (xa_8) hP hD
          have h := h σ10 e_σ10
          clear e_σ10
          exact mw_v hx hb hr hlocks ⟨σ10, rfl, h⟩ hP hK hD hS nD_X3_add_94
    · have h := h.2 hc
      refine lv_aload_n hx hb nD_X3_add_34 rfl (lv_at hl 1 rfl) ?_
      refine va_get (D := D) (ci := 2) (v := .ref (a 7)) (C := nR_X3) (T := nT_X3) (N := 3) hx hb hw wu_X3 hown hK hP 6 xc_6 rfl 0 (by decide) (hw _ wm_70) (fun _ h9 => h9) rfl nD_X3_add_35 ?_
      refine lv_iload hx hb nD_X3_add_38 (lv_at hl 0 rfl) ?_
      refine lv_iconst (v := (1 : Int32)) hx hb nD_X3_add_40 (by decide) ?_
      refine lv_isub hx hb nD_X3_add_41 ?_
      obtain ⟨hi11, h⟩ := h
      refine va_lald (D := D) hx hb hK hP 7 3 xc_7 rfl hi11 nD_X3_add_42 ?_
      refine lv_lload_n hx hb nD_X3_add_43 rfl (lv_at hl 2 rfl) ?_
      refine W.lcmp hx hb nD_X3_add_44 ?_
      refine lv_if_ne (tgt := 49) hx hb nD_X3_add_45 (by decide) (fun hc => ?_) (fun hc => ?_)
      · have h := h.2 hc
        refine lv_iload hx hb nD_X3_add_49 (lv_at hl 0 rfl) ?_
        refine lv_if_ne (tgt := 95) hx hb nD_X3_add_51 (by decide) (fun hc => ?_) (fun hc => ?_)
        · have h := h.2 hc
          refine lv_iload_n hx hb nD_X3_add_95 rfl (lv_at hl 3 rfl) ?_
          refine lv_iconst (v := (1 : Int32)) hx hb nD_X3_add_96 (by decide) ?_
          refine lv_iadd hx hb nD_X3_add_97 ?_
          refine lv_sipush (v := (1024 : Int32)) hx hb nD_X3_add_98 (by decide) ?_
          refine lv_irem hx hb nD_X3_add_101 (by decide) ?_
          refine lv_topi (fun v12 e_v12 => ?_)
          have h := h v12 e_v12
          clear e_v12
          refine lv_istore_n hx hb nD_X3_add_102 rfl hl (by decide) rfl (fun ls hl => ?_)
          have hl : lv_has ls 6 [(3, .int v12), (5, .int v3), (0, .ref (a 6)), (1, .long x1), (4, .int y4)] := hl
          refine lv_iinc (k := 4) (v := y4 + 1) hx hb nD_X3_add_103 hl rfl rfl (by decide) rfl (fun ls hl => ?_)
          have hl : lv_has ls 6 [(4, .int (y4 + 1)), (3, .int v12), (5, .int v3), (0, .ref (a 6)), (1, .long x1)] := hl
          refine lv_goto (tgt := 13) hx hb nD_X3_add_106 (by decide) ?_
          have hl := lv_sub (l' := [(0, .ref (a 6)), (1, .long x1), (3, .int v12), (4, .int (y4 + 1))]) hl [3, 4, 1, 0] rfl
          exact hR _ h _ _ ls hP hD hS hl
        · have h := h.1 hc
          refine lv_aload_n hx hb nD_X3_add_54 rfl (lv_at hl 1 rfl) ?_
          refine va_get (D := D) (ci := 2) (v := .int (σ.1 8)) (C := nR_X3) (T := nT_X3) (N := 3) hx hb hw wu_X3 hown hK hP 6 xc_6 rfl 2 (by decide) (hw _ wm_72) (fun _ h9 => h9) rfl nD_X3_add_55 ?_
          refine lv_sipush (v := (680 : Int32)) hx hb nD_X3_add_58 (by decide) ?_
          refine lv_icmp_ge (tgt := 95) hx hb nD_X3_add_61 (by decide) (fun hc => ?_) (fun hc => ?_)
          · have h := h.1 hc
            refine lv_iload_n hx hb nD_X3_add_95 rfl (lv_at hl 3 rfl) ?_
            refine lv_iconst (v := (1 : Int32)) hx hb nD_X3_add_96 (by decide) ?_
            refine lv_iadd hx hb nD_X3_add_97 ?_
            refine lv_sipush (v := (1024 : Int32)) hx hb nD_X3_add_98 (by decide) ?_
            refine lv_irem hx hb nD_X3_add_101 (by decide) ?_
            refine lv_topi (fun v13 e_v13 => ?_)
            have h := h v13 e_v13
            clear e_v13
            refine lv_istore_n hx hb nD_X3_add_102 rfl hl (by decide) rfl (fun ls hl => ?_)
            have hl : lv_has ls 6 [(3, .int v13), (5, .int v3), (0, .ref (a 6)), (1, .long x1), (4, .int y4)] := hl
            refine lv_iinc (k := 4) (v := y4 + 1) hx hb nD_X3_add_103 hl rfl rfl (by decide) rfl (fun ls hl => ?_)
            have hl : lv_has ls 6 [(4, .int (y4 + 1)), (3, .int v13), (5, .int v3), (0, .ref (a 6)), (1, .long x1)] := hl
            refine lv_goto (tgt := 13) hx hb nD_X3_add_106 (by decide) ?_
            have hl := lv_sub (l' := [(0, .ref (a 6)), (1, .long x1), (3, .int v13), (4, .int (y4 + 1))]) hl [3, 4, 1, 0] rfl
            exact hR _ h _ _ ls hP hD hS hl
          · have h := h.2 hc
            refine lv_aload_n hx hb nD_X3_add_64 rfl (lv_at hl 1 rfl) ?_
            refine va_get (D := D) (ci := 2) (v := .ref (a 7)) (C := nR_X3) (T := nT_X3) (N := 3) hx hb hw wu_X3 hown hK hP 6 xc_6 rfl 0 (by decide) (hw _ wm_70) (fun _ h9 => h9) rfl nD_X3_add_65 ?_
            refine lv_aload_n hx hb nD_X3_add_68 rfl (lv_at hl 1 rfl) ?_
            refine va_get (D := D) (ci := 2) (v := .int (σ.1 8)) (C := nR_X3) (T := nT_X3) (N := 3) hx hb hw wu_X3 hown hK hP 6 xc_6 rfl 2 (by decide) (hw _ wm_72) (fun _ h9 => h9) rfl nD_X3_add_69 ?_
            refine lv_lload_n hx hb nD_X3_add_72 rfl (lv_at hl 2 rfl) ?_
            obtain ⟨hi14, h⟩ := h
            refine va_last (D := D) hx hb hK hP hD hS 7 3 xc_7 rfl hi14 nD_X3_add_73 (fun H locs hP hD hS => ?_)
            obtain ⟨σ15, e_σ15⟩ : ∃ z : zS, z = zL σ 0 (σ.1 8).toNatClampNeg x1 := ⟨_, rfl⟩
            obtain ⟨hP, hD⟩ := znew (w := zX a tc) e_σ15 (xa_7) hP hD
            have h := h σ15 e_σ15
            clear e_σ15
            refine lv_aload_n hx hb nD_X3_add_74 rfl (lv_at hl 1 rfl) ?_
            refine lv_dup hx hb nD_X3_add_75 rfl ?_
            refine va_get (D := D) (ci := 2) (v := .int (σ15.1 8)) (C := nR_X3) (T := nT_X3) (N := 3) hx hb hw wu_X3 hown hK hP 6 xc_6 rfl 2 (by decide) (hw _ wm_72) (fun _ h9 => h9) rfl nD_X3_add_76 ?_
            refine lv_iconst (v := (1 : Int32)) hx hb nD_X3_add_79 (by decide) ?_
            refine lv_iadd hx hb nD_X3_add_80 ?_
            refine va_put (D := D) (ci := 2) (v := .int ((σ15.1 8) + (1 : Int32))) (ty := .int) (C := nR_X3) (T := nT_X3) (N := 3) hx hb hw wu_X3 nY_X3 nO_X3 nN_X3 hown hK hP hD hS 6 xc_6 rfl 2 (by decide) (hw _ wm_72) (fun _ h9 => h9) rfl (by decide +kernel) rfl rfl (Nat.le_of_ble_eq_true rfl) nD_X3_add_81 (fun H locs hP hD hS => ?_)
            obtain ⟨σ16, e_σ16⟩ : ∃ z : zS, z = zI σ15 8 ((σ15.1 8) + (1 : Int32)) := ⟨_, rfl⟩
            obtain ⟨hP, hD⟩ := znew (w := zX a tc) e_σ16 (xp_6_2) hP hD
            have h := h σ16 e_σ16
            clear e_σ16
            refine lv_aload_n hx hb nD_X3_add_84 rfl (lv_at hl 1 rfl) ?_
            refine va_get (D := D) (ci := 2) (v := .ref (a 8)) (C := nR_X3) (T := nT_X3) (N := 3) hx hb hw wu_X3 hown hK hP 6 xc_6 rfl 1 (by decide) (hw _ wm_71) (fun _ h9 => h9) rfl nD_X3_add_85 ?_
            refine lv_iload_n hx hb nD_X3_add_88 rfl (lv_at hl 3 rfl) ?_
            refine lv_aload_n hx hb nD_X3_add_89 rfl (lv_at hl 1 rfl) ?_
            refine va_get (D := D) (ci := 2) (v := .int (σ16.1 8)) (C := nR_X3) (T := nT_X3) (N := 3) hx hb hw wu_X3 hown hK hP 6 xc_6 rfl 2 (by decide) (hw _ wm_72) (fun _ h9 => h9) rfl nD_X3_add_90 ?_
            obtain ⟨hi17, h⟩ := h
            refine va_iast (D := D) hx hb hK hP hD hS 8 4 xc_8 rfl hi17 nD_X3_add_93 (fun H locs hP hD hS => ?_)
            obtain ⟨σ18, e_σ18⟩ : ∃ z : zS, z = zA σ16 4 y3.toNatClampNeg (σ16.1 8) := ⟨_, rfl⟩
            obtain ⟨hP, hD⟩ := znew (w := zX a tc) e_σ18 (xa_8) hP hD
            have h := h σ18 e_σ18
            clear e_σ18
            exact mw_v hx hb hr hlocks ⟨σ18, rfl, h⟩ hP hK hD hS nD_X3_add_94
      · have h := h.1 hc
        exact mw_v hx hb hr hlocks ⟨σ, rfl, h⟩ hP hK hD hS nD_X3_add_48
set_option maxHeartbeats 4000000 in
set_option maxRecDepth 100000 in
theorem c_X3_add (l : Launch) (D : va_G) (tc : Nat → ClassId) (a : Nat → Nat) (x1 : Int64) (σ : zS) (post : zS → Prop) (h : j_X3_add x1 σ post) : mWv l nM_X3_add nC_X3_add 6 ({ frames := 0, cells := 0, slots := 0, locals := 0 } : Room) D (ztX tc) [.ref (a 6), .long x1] (zX a tc σ) (zQv (zX a tc) post) := by
  intro sz
  refine mt_W (by decide) (Nat.le_of_ble_eq_true rfl) ?_
  intro p e s m below meth c ls hx hb hml hr hown hlocks hin hw hn hP hK hD hS hA hl hsz
  subst hsz
  have hl : lv_has ls 6 [(0, .ref (a 6)), (1, .long x1)] := hl
  unfold j_X3_add at h
  refine lv_lload_n hx hb nD_X3_add_0 rfl (lv_at hl 1 rfl) ?_
  refine lv_ldc2 (v := (-7046029254386353131 : Int64)) hx hb hown (hw _ wm_173) nD_X3_add_1 ?_
  refine lv_lmul hx hb nD_X3_add_4 ?_
  refine lv_bipush (v := (54 : Int32)) hx hb nD_X3_add_5 (by decide) ?_
  refine lv_lushr (v := ((x1 * (-7046029254386353131 : Int64)).toUInt64 >>> ((54 : Int32).toInt64.toUInt64 &&& Int64.toUInt64 63)).toInt64) hx hb nD_X3_add_7 rfl ?_
  refine lv_l2i (v := (((x1 * (-7046029254386353131 : Int64)).toUInt64 >>> ((54 : Int32).toInt64.toUInt64 &&& Int64.toUInt64 63)).toInt64).toInt32) hx hb nD_X3_add_8 rfl ?_
  refine lv_topi (fun v1 e_v1 => ?_)
  have h := h v1 e_v1
  clear e_v1
  refine lv_istore_n hx hb nD_X3_add_9 rfl hl (by decide) rfl (fun ls hl => ?_)
  have hl : lv_has ls 6 [(3, .int v1), (0, .ref (a 6)), (1, .long x1)] := hl
  refine lv_iconst (v := (0 : Int32)) hx hb nD_X3_add_10 (by decide) ?_
  refine lv_istore hx hb nD_X3_add_11 hl (by decide) rfl (fun ls hl => ?_)
  have hl : lv_has ls 6 [(4, .int (0 : Int32)), (3, .int v1), (0, .ref (a 6)), (1, .long x1)] := hl
  have hl := lv_sub (l' := [(0, .ref (a 6)), (1, .long x1), (3, .int v1), (4, .int (0 : Int32))]) hl [2, 3, 1, 0] rfl
  refine wl_X3_add_13 (l := l) x1 post _ hx hb hml hr hown hlocks hw hn hK hA (fun v19 v20 σ21 H locs ls h hP hD hS hl => ?_) (v1, (0 : Int32), σ) h _ _ ls hP hD hS hl
  exact mw_v hx hb hr hlocks ⟨σ21, rfl, h⟩ hP hK hD hS nD_X3_add_109
set_option maxHeartbeats 4000000 in
set_option maxRecDepth 100000 in
theorem wl_X3_shortest_4 {l : Launch} {p : Program} {e : Env} {s : State} {m : MethodId} {args : Array Value} {below : List Frame} {meth : Method} {c : Code} {D : va_G} {tc : Nat → ClassId} {a : Nat → Nat} {w0 : va_W} (post : Int32 → zS → Prop) (K : Int32 → Int32 → zS → Prop) (hx : p.tables.exec = Jvm.exec) (hb : c.code = nC_X3_shortest) (hml : c.maxLocals = 4) (hr : meth.sig.returnType = (some .int)) (hown : s.vm.findClass nM_X3_shortest.cls = some m.cls) (hlocks : meth.locks = false) (hw : ∀ w ∈ wA, w.before args s = true) (hn : mN s) (hK : va_K D nCl (ztX tc) s) (hA : ∀ q, s.heap.size ≤ q → va_A w0 s.heap.size q)
    (hk : ∀ (y1 : Int32) (y2 : Int32) (σ : zS) (H : Heap) (locs : List Loc) (ls : Array Slot), K y1 y2 σ → va_P D nCl (zX a tc σ) H → va_D (va_A w0 s.heap.size) (zX a tc σ) → va_S (va_A w0 s.heap.size) s.heap H locs → lv_has ls 4 [(0, .ref (a 6)), (1, .int y1), (2, .int y2)] → W p l e ({ frames := 1, cells := 0, slots := 0, locals := 21 } : Room) s m args below meth c H locs 0 0 (MQ below (va_Qi (zQi (zX a tc) post) (mQW D (ztX tc) w0 s.heap.size) (va_A w0 s.heap.size)) args s 0 0 (va_A w0 s.heap.size)) (F0 m 43 ls [])) : ∀ q : Int32 × Int32 × zS, zLP (b_X3_shortest_4 post K) q → ∀ (H : Heap) (locs : List Loc) (ls : Array Slot), va_P D nCl (zX a tc q.2.2) H → va_D (va_A w0 s.heap.size) (zX a tc q.2.2) → va_S (va_A w0 s.heap.size) s.heap H locs → lv_has ls 4 [(0, .ref (a 6)), (1, .int q.1), (2, .int q.2.1)] → W p l e ({ frames := 1, cells := 0, slots := 0, locals := 21 } : Room) s m args below meth c H locs 0 0 (MQ below (va_Qi (zQi (zX a tc) post) (mQW D (ztX tc) w0 s.heap.size) (va_A w0 s.heap.size)) args s 0 0 (va_A w0 s.heap.size)) (F0 m 4 ls []) := by
  refine zLP_walk ?_
  rintro R ⟨y1, y2, σ⟩ hR h H locs ls hP hD hS hl
  dsimp only at hP hD hl
  dsimp only [b_X3_shortest_4] at h
  refine lv_iload_n hx hb nD_X3_shortest_4 rfl (lv_at hl 2 rfl) ?_
  refine lv_aload_n hx hb nD_X3_shortest_5 rfl (lv_at hl 0 rfl) ?_
  refine va_get (D := D) (ci := 2) (v := .int (σ.1 8)) (C := nR_X3) (T := nT_X3) (N := 3) hx hb hw wu_X3 hown hK hP 6 xc_6 rfl 2 (by decide) (hw _ wm_72) (fun _ h9 => h9) rfl nD_X3_shortest_6 ?_
  refine lv_icmp_ge (tgt := 43) hx hb nD_X3_shortest_9 (by decide) (fun hc => ?_) (fun hc => ?_)
  · have h := h.1 hc
    exact hk y1 y2 σ _ _ ls h hP hD hS hl
  · have h := h.2 hc
    refine lv_aload_n hx hb nD_X3_shortest_12 rfl (lv_at hl 0 rfl) ?_
    refine va_get (D := D) (ci := 2) (v := .ref (a 7)) (C := nR_X3) (T := nT_X3) (N := 3) hx hb hw wu_X3 hown hK hP 6 xc_6 rfl 0 (by decide) (hw _ wm_70) (fun _ h9 => h9) rfl nD_X3_shortest_13 ?_
    refine lv_iload_n hx hb nD_X3_shortest_16 rfl (lv_at hl 2 rfl) ?_
    obtain ⟨hi1, h⟩ := h
    refine va_lald (D := D) hx hb hK hP 7 3 xc_7 rfl hi1 nD_X3_shortest_17 ?_
    refine vp_callSi (W.runS (As := [.long (σ.2.2 0 y2.toNatClampNeg)]) (rest := []) ⟨hx, hb, hml, hown, hw⟩ (c_X2_length l (σ.2.2 0 y2.toNatClampNeg) _ h) (mcS 1 hw wm_199 wm_351 wm_198 wm_32 rfl rfl nh_X2_length ⟨Nat.le_of_ble_eq_true rfl, Nat.le_of_ble_eq_true rfl⟩) mp_S rfl rfl hl.1 rfl (lv_room (Nat.le_of_ble_eq_true rfl)) nD_X3_shortest_18 ⟨Nat.zero_le _, Nat.zero_le _⟩) (fun r2 h => ?_)
    refine lv_istore_n hx hb nD_X3_shortest_21 rfl hl (by decide) rfl (fun ls hl => ?_)
    have hl : lv_has ls 4 [(3, .int r2), (0, .ref (a 6)), (1, .int y1), (2, .int y2)] := hl
    refine lv_iload_n hx hb nD_X3_shortest_22 rfl (lv_at hl 2 rfl) ?_
    refine lv_iconst (v := (-1 : Int32)) hx hb nD_X3_shortest_23 (by decide) ?_
    refine lv_icmp_ne (tgt := 31) hx hb nD_X3_shortest_24 (by decide) (fun hc => ?_) (fun hc => ?_)
    · have h := h.2 hc
      refine lv_iload_n hx hb nD_X3_shortest_31 rfl (lv_at hl 2 rfl) ?_
      refine lv_iload_n hx hb nD_X3_shortest_32 rfl (lv_at hl 0 rfl) ?_
      refine va_mmin hx hb (hml.trans hl.1.symm) hown (hw _ wm_352) (hw _ wm_135) (hw _ wm_30) (hw _ wm_136) (Nat.le_of_ble_eq_true rfl) (Nat.le_of_ble_eq_true rfl) (Nat.zero_le _) (Nat.zero_le _) nD_X3_shortest_33 ?_
      refine lv_topi (fun v3 e_v3 => ?_)
      have h := h v3 e_v3
      clear e_v3
      refine lv_istore_n hx hb nD_X3_shortest_36 rfl hl (by decide) rfl (fun ls hl => ?_)
      have hl : lv_has ls 4 [(1, .int v3), (3, .int r2), (0, .ref (a 6)), (2, .int y2)] := hl
      refine lv_iinc (k := 3) (v := y2 + 1) hx hb nD_X3_shortest_37 hl rfl rfl (by decide) rfl (fun ls hl => ?_)
      have hl : lv_has ls 4 [(2, .int (y2 + 1)), (1, .int v3), (3, .int r2), (0, .ref (a 6))] := hl
      refine lv_goto (tgt := 4) hx hb nD_X3_shortest_40 (by decide) ?_
      have hl := lv_sub (l' := [(0, .ref (a 6)), (1, .int v3), (2, .int (y2 + 1))]) hl [3, 1, 0] rfl
      exact hR _ h _ _ ls hP hD hS hl
    · have h := h.1 hc
      refine lv_iload_n hx hb nD_X3_shortest_27 rfl (lv_at hl 0 rfl) ?_
      refine lv_goto (tgt := 36) hx hb nD_X3_shortest_28 (by decide) ?_
      refine lv_istore_n hx hb nD_X3_shortest_36 rfl hl (by decide) rfl (fun ls hl => ?_)
      have hl : lv_has ls 4 [(1, .int r2), (3, .int r2), (0, .ref (a 6)), (2, .int y2)] := hl
      refine lv_iinc (k := 3) (v := y2 + 1) hx hb nD_X3_shortest_37 hl rfl rfl (by decide) rfl (fun ls hl => ?_)
      have hl : lv_has ls 4 [(2, .int (y2 + 1)), (1, .int r2), (3, .int r2), (0, .ref (a 6))] := hl
      refine lv_goto (tgt := 4) hx hb nD_X3_shortest_40 (by decide) ?_
      have hl := lv_sub (l' := [(0, .ref (a 6)), (1, .int r2), (2, .int (y2 + 1))]) hl [3, 1, 0] rfl
      exact hR _ h _ _ ls hP hD hS hl
set_option maxHeartbeats 4000000 in
set_option maxRecDepth 100000 in
theorem c_X3_shortest (l : Launch) (D : va_G) (tc : Nat → ClassId) (a : Nat → Nat) (σ : zS) (post : Int32 → zS → Prop) (h : j_X3_shortest  σ post) : mWi l nM_X3_shortest nC_X3_shortest 4 (some .int) ({ frames := 1, cells := 0, slots := 0, locals := 21 } : Room) D (ztX tc) [.ref (a 6)] (zX a tc σ) (zQi (zX a tc) post) := by
  intro sz
  refine mt_W (by decide) (Nat.le_of_ble_eq_true rfl) ?_
  intro p e s m below meth c ls hx hb hml hr hown hlocks hin hw hn hP hK hD hS hA hl hsz
  subst hsz
  have hl : lv_has ls 4 [(0, .ref (a 6))] := hl
  unfold j_X3_shortest at h
  refine lv_iconst (v := (-1 : Int32)) hx hb nD_X3_shortest_0 (by decide) ?_
  refine lv_istore_n hx hb nD_X3_shortest_1 rfl hl (by decide) rfl (fun ls hl => ?_)
  have hl : lv_has ls 4 [(1, .int (-1 : Int32)), (0, .ref (a 6))] := hl
  refine lv_iconst (v := (0 : Int32)) hx hb nD_X3_shortest_2 (by decide) ?_
  refine lv_istore_n hx hb nD_X3_shortest_3 rfl hl (by decide) rfl (fun ls hl => ?_)
  have hl : lv_has ls 4 [(2, .int (0 : Int32)), (1, .int (-1 : Int32)), (0, .ref (a 6))] := hl
  have hl := lv_sub (l' := [(0, .ref (a 6)), (1, .int (-1 : Int32)), (2, .int (0 : Int32))]) hl [2, 1, 0] rfl
  refine wl_X3_shortest_4 (l := l) post _ hx hb hml hr hown hlocks hw hn hK hA (fun v4 v5 σ6 H locs ls h hP hD hS hl => ?_) ((-1 : Int32), (0 : Int32), σ) h _ _ ls hP hD hS hl
  refine lv_iload_n hx hb nD_X3_shortest_43 rfl (lv_at hl 1 rfl) ?_
  exact mw_i hx hb hr hlocks ⟨σ6, rfl, h⟩ hP hK hD hS nD_X3_shortest_44
set_option maxHeartbeats 4000000 in
set_option maxRecDepth 100000 in
theorem wl_X3_longest_4 {l : Launch} {p : Program} {e : Env} {s : State} {m : MethodId} {args : Array Value} {below : List Frame} {meth : Method} {c : Code} {D : va_G} {tc : Nat → ClassId} {a : Nat → Nat} {w0 : va_W} (post : Int32 → zS → Prop) (K : Int32 → Int32 → zS → Prop) (hx : p.tables.exec = Jvm.exec) (hb : c.code = nC_X3_longest) (hml : c.maxLocals = 3) (hr : meth.sig.returnType = (some .int)) (hown : s.vm.findClass nM_X3_longest.cls = some m.cls) (hlocks : meth.locks = false) (hw : ∀ w ∈ wA, w.before args s = true) (hn : mN s) (hK : va_K D nCl (ztX tc) s) (hA : ∀ q, s.heap.size ≤ q → va_A w0 s.heap.size q)
    (hk : ∀ (y1 : Int32) (y2 : Int32) (σ : zS) (H : Heap) (locs : List Loc) (ls : Array Slot), K y1 y2 σ → va_P D nCl (zX a tc σ) H → va_D (va_A w0 s.heap.size) (zX a tc σ) → va_S (va_A w0 s.heap.size) s.heap H locs → lv_has ls 3 [(0, .ref (a 6)), (1, .int y1), (2, .int y2)] → W p l e ({ frames := 1, cells := 0, slots := 0, locals := 21 } : Room) s m args below meth c H locs 0 0 (MQ below (va_Qi (zQi (zX a tc) post) (mQW D (ztX tc) w0 s.heap.size) (va_A w0 s.heap.size)) args s 0 0 (va_A w0 s.heap.size)) (F0 m 32 ls [])) : ∀ q : Int32 × Int32 × zS, zLP (b_X3_longest_4 post K) q → ∀ (H : Heap) (locs : List Loc) (ls : Array Slot), va_P D nCl (zX a tc q.2.2) H → va_D (va_A w0 s.heap.size) (zX a tc q.2.2) → va_S (va_A w0 s.heap.size) s.heap H locs → lv_has ls 3 [(0, .ref (a 6)), (1, .int q.1), (2, .int q.2.1)] → W p l e ({ frames := 1, cells := 0, slots := 0, locals := 21 } : Room) s m args below meth c H locs 0 0 (MQ below (va_Qi (zQi (zX a tc) post) (mQW D (ztX tc) w0 s.heap.size) (va_A w0 s.heap.size)) args s 0 0 (va_A w0 s.heap.size)) (F0 m 4 ls []) := by
  refine zLP_walk ?_
  rintro R ⟨y1, y2, σ⟩ hR h H locs ls hP hD hS hl
  dsimp only at hP hD hl
  dsimp only [b_X3_longest_4] at h
  refine lv_iload_n hx hb nD_X3_longest_4 rfl (lv_at hl 2 rfl) ?_
  refine lv_aload_n hx hb nD_X3_longest_5 rfl (lv_at hl 0 rfl) ?_
  refine va_get (D := D) (ci := 2) (v := .int (σ.1 8)) (C := nR_X3) (T := nT_X3) (N := 3) hx hb hw wu_X3 hown hK hP 6 xc_6 rfl 2 (by decide) (hw _ wm_72) (fun _ h9 => h9) rfl nD_X3_longest_6 ?_
  refine lv_icmp_ge (tgt := 32) hx hb nD_X3_longest_9 (by decide) (fun hc => ?_) (fun hc => ?_)
  · have h := h.1 hc
    exact hk y1 y2 σ _ _ ls h hP hD hS hl
  · have h := h.2 hc
    refine lv_iload_n hx hb nD_X3_longest_12 rfl (lv_at hl 1 rfl) ?_
    refine lv_aload_n hx hb nD_X3_longest_13 rfl (lv_at hl 0 rfl) ?_
    refine va_get (D := D) (ci := 2) (v := .ref (a 7)) (C := nR_X3) (T := nT_X3) (N := 3) hx hb hw wu_X3 hown hK hP 6 xc_6 rfl 0 (by decide) (hw _ wm_70) (fun _ h9 => h9) rfl nD_X3_longest_14 ?_
    refine lv_iload_n hx hb nD_X3_longest_17 rfl (lv_at hl 2 rfl) ?_
    obtain ⟨hi1, h⟩ := h
    refine va_lald (D := D) hx hb hK hP 7 3 xc_7 rfl hi1 nD_X3_longest_18 ?_
    refine vp_callSi (W.runS (As := [.long (σ.2.2 0 y2.toNatClampNeg)]) (rest := [.int y1]) ⟨hx, hb, hml, hown, hw⟩ (c_X2_length l (σ.2.2 0 y2.toNatClampNeg) _ h) (mcS 1 hw wm_199 wm_351 wm_198 wm_32 rfl rfl nh_X2_length ⟨Nat.le_of_ble_eq_true rfl, Nat.le_of_ble_eq_true rfl⟩) mp_S rfl rfl hl.1 rfl (lv_room (Nat.le_of_ble_eq_true rfl)) nD_X3_longest_19 ⟨Nat.zero_le _, Nat.zero_le _⟩) (fun r2 h => ?_)
    refine va_mmax hx hb (hml.trans hl.1.symm) hown (hw _ wm_361) (hw _ wm_138) (hw _ wm_30) (hw _ wm_139) (Nat.le_of_ble_eq_true rfl) (Nat.le_of_ble_eq_true rfl) (Nat.zero_le _) (Nat.zero_le _) nD_X3_longest_22 ?_
    refine lv_topi (fun v3 e_v3 => ?_)
    have h := h v3 e_v3
    clear e_v3
    refine lv_istore_n hx hb nD_X3_longest_25 rfl hl (by decide) rfl (fun ls hl => ?_)
    have hl : lv_has ls 3 [(1, .int v3), (0, .ref (a 6)), (2, .int y2)] := hl
    refine lv_iinc (k := 2) (v := y2 + 1) hx hb nD_X3_longest_26 hl rfl rfl (by decide) rfl (fun ls hl => ?_)
    have hl : lv_has ls 3 [(2, .int (y2 + 1)), (1, .int v3), (0, .ref (a 6))] := hl
    refine lv_goto (tgt := 4) hx hb nD_X3_longest_29 (by decide) ?_
    have hl := lv_sub (l' := [(0, .ref (a 6)), (1, .int v3), (2, .int (y2 + 1))]) hl [2, 1, 0] rfl
    exact hR _ h _ _ ls hP hD hS hl
set_option maxHeartbeats 4000000 in
set_option maxRecDepth 100000 in
theorem c_X3_longest (l : Launch) (D : va_G) (tc : Nat → ClassId) (a : Nat → Nat) (σ : zS) (post : Int32 → zS → Prop) (h : j_X3_longest  σ post) : mWi l nM_X3_longest nC_X3_longest 3 (some .int) ({ frames := 1, cells := 0, slots := 0, locals := 21 } : Room) D (ztX tc) [.ref (a 6)] (zX a tc σ) (zQi (zX a tc) post) := by
  intro sz
  refine mt_W (by decide) (Nat.le_of_ble_eq_true rfl) ?_
  intro p e s m below meth c ls hx hb hml hr hown hlocks hin hw hn hP hK hD hS hA hl hsz
  subst hsz
  have hl : lv_has ls 3 [(0, .ref (a 6))] := hl
  unfold j_X3_longest at h
  refine lv_iconst (v := (-1 : Int32)) hx hb nD_X3_longest_0 (by decide) ?_
  refine lv_istore_n hx hb nD_X3_longest_1 rfl hl (by decide) rfl (fun ls hl => ?_)
  have hl : lv_has ls 3 [(1, .int (-1 : Int32)), (0, .ref (a 6))] := hl
  refine lv_iconst (v := (0 : Int32)) hx hb nD_X3_longest_2 (by decide) ?_
  refine lv_istore_n hx hb nD_X3_longest_3 rfl hl (by decide) rfl (fun ls hl => ?_)
  have hl : lv_has ls 3 [(2, .int (0 : Int32)), (1, .int (-1 : Int32)), (0, .ref (a 6))] := hl
  have hl := lv_sub (l' := [(0, .ref (a 6)), (1, .int (-1 : Int32)), (2, .int (0 : Int32))]) hl [2, 1, 0] rfl
  refine wl_X3_longest_4 (l := l) post _ hx hb hml hr hown hlocks hw hn hK hA (fun v4 v5 σ6 H locs ls h hP hD hS hl => ?_) ((-1 : Int32), (0 : Int32), σ) h _ _ ls hP hD hS hl
  refine lv_iload_n hx hb nD_X3_longest_32 rfl (lv_at hl 1 rfl) ?_
  exact mw_i hx hb hr hlocks ⟨σ6, rfl, h⟩ hP hK hD hS nD_X3_longest_33
set_option maxHeartbeats 4000000 in
set_option maxRecDepth 100000 in
theorem wl_X3_anyHas_2 {l : Launch} {p : Program} {e : Env} {s : State} {m : MethodId} {args : Array Value} {below : List Frame} {meth : Method} {c : Code} {D : va_G} {tc : Nat → ClassId} {a : Nat → Nat} {w0 : va_W} (x1 : Int32) (x2 : Int32) (post : Int32 → zS → Prop) (K : Int32 → zS → Prop) (hx : p.tables.exec = Jvm.exec) (hb : c.code = nC_X3_anyHas) (hml : c.maxLocals = 4) (hr : meth.sig.returnType = (some .boolean)) (hown : s.vm.findClass nM_X3_anyHas.cls = some m.cls) (hlocks : meth.locks = false) (hw : ∀ w ∈ wA, w.before args s = true) (hn : mN s) (hK : va_K D nCl (ztX tc) s) (hA : ∀ q, s.heap.size ≤ q → va_A w0 s.heap.size q)
    (hk : ∀ (y3 : Int32) (σ : zS) (H : Heap) (locs : List Loc) (ls : Array Slot), K y3 σ → va_P D nCl (zX a tc σ) H → va_D (va_A w0 s.heap.size) (zX a tc σ) → va_S (va_A w0 s.heap.size) s.heap H locs → lv_has ls 4 [(0, .ref (a 6)), (1, .int x1), (2, .int x2), (3, .int y3)] → W p l e ({ frames := 1, cells := 0, slots := 0, locals := 22 } : Room) s m args below meth c H locs 0 0 (MQ below (va_Qi (zQi (zX a tc) post) (mQW D (ztX tc) w0 s.heap.size) (va_A w0 s.heap.size)) args s 0 0 (va_A w0 s.heap.size)) (F0 m 49 ls [])) : ∀ q : Int32 × zS, zLP (b_X3_anyHas_2 x1 x2 post K) q → ∀ (H : Heap) (locs : List Loc) (ls : Array Slot), va_P D nCl (zX a tc q.2) H → va_D (va_A w0 s.heap.size) (zX a tc q.2) → va_S (va_A w0 s.heap.size) s.heap H locs → lv_has ls 4 [(0, .ref (a 6)), (1, .int x1), (2, .int x2), (3, .int q.1)] → W p l e ({ frames := 1, cells := 0, slots := 0, locals := 22 } : Room) s m args below meth c H locs 0 0 (MQ below (va_Qi (zQi (zX a tc) post) (mQW D (ztX tc) w0 s.heap.size) (va_A w0 s.heap.size)) args s 0 0 (va_A w0 s.heap.size)) (F0 m 2 ls []) := by
  refine zLP_walk ?_
  rintro R ⟨y3, σ⟩ hR h H locs ls hP hD hS hl
  dsimp only at hP hD hl
  dsimp only [b_X3_anyHas_2] at h
  refine lv_iload_n hx hb nD_X3_anyHas_2 rfl (lv_at hl 3 rfl) ?_
  refine lv_aload_n hx hb nD_X3_anyHas_3 rfl (lv_at hl 0 rfl) ?_
  refine va_get (D := D) (ci := 2) (v := .int (σ.1 8)) (C := nR_X3) (T := nT_X3) (N := 3) hx hb hw wu_X3 hown hK hP 6 xc_6 rfl 2 (by decide) (hw _ wm_72) (fun _ h9 => h9) rfl nD_X3_anyHas_4 ?_
  refine lv_icmp_ge (tgt := 49) hx hb nD_X3_anyHas_7 (by decide) (fun hc => ?_) (fun hc => ?_)
  · have h := h.1 hc
    exact hk y3 σ _ _ ls h hP hD hS hl
  · have h := h.2 hc
    refine lv_iload_n hx hb nD_X3_anyHas_10 rfl (lv_at hl 1 rfl) ?_
    refine lv_if_lt (tgt := 43) hx hb nD_X3_anyHas_11 (by decide) (fun hc => ?_) (fun hc => ?_)
    · have h := h.1 hc
      refine lv_iinc (k := 3) (v := y3 + 1) hx hb nD_X3_anyHas_43 hl rfl rfl (by decide) rfl (fun ls hl => ?_)
      have hl : lv_has ls 4 [(3, .int (y3 + 1)), (0, .ref (a 6)), (1, .int x1), (2, .int x2)] := hl
      refine lv_goto (tgt := 2) hx hb nD_X3_anyHas_46 (by decide) ?_
      have hl := lv_sub (l' := [(0, .ref (a 6)), (1, .int x1), (2, .int x2), (3, .int (y3 + 1))]) hl [1, 2, 3, 0] rfl
      exact hR _ h _ _ ls hP hD hS hl
    · have h := h.2 hc
      refine lv_iload_n hx hb nD_X3_anyHas_14 rfl (lv_at hl 1 rfl) ?_
      refine lv_aload_n hx hb nD_X3_anyHas_15 rfl (lv_at hl 0 rfl) ?_
      refine va_get (D := D) (ci := 2) (v := .ref (a 7)) (C := nR_X3) (T := nT_X3) (N := 3) hx hb hw wu_X3 hown hK hP 6 xc_6 rfl 0 (by decide) (hw _ wm_70) (fun _ h9 => h9) rfl nD_X3_anyHas_16 ?_
      refine lv_iload_n hx hb nD_X3_anyHas_19 rfl (lv_at hl 3 rfl) ?_
      obtain ⟨hi1, h⟩ := h
      refine va_lald (D := D) hx hb hK hP 7 3 xc_7 rfl hi1 nD_X3_anyHas_20 ?_
      refine vp_callSi (W.runS (As := [.long (σ.2.2 0 y3.toNatClampNeg)]) (rest := [.int x1]) ⟨hx, hb, hml, hown, hw⟩ (c_X2_length l (σ.2.2 0 y3.toNatClampNeg) _ h) (mcS 1 hw wm_199 wm_351 wm_198 wm_32 rfl rfl nh_X2_length ⟨Nat.le_of_ble_eq_true rfl, Nat.le_of_ble_eq_true rfl⟩) mp_S rfl rfl hl.1 rfl (lv_room (Nat.le_of_ble_eq_true rfl)) nD_X3_anyHas_21 ⟨Nat.zero_le _, Nat.zero_le _⟩) (fun r2 h => ?_)
      refine lv_icmp_ge (tgt := 43) hx hb nD_X3_anyHas_24 (by decide) (fun hc => ?_) (fun hc => ?_)
      · have h := h.1 hc
        refine lv_iinc (k := 3) (v := y3 + 1) hx hb nD_X3_anyHas_43 hl rfl rfl (by decide) rfl (fun ls hl => ?_)
        have hl : lv_has ls 4 [(3, .int (y3 + 1)), (0, .ref (a 6)), (1, .int x1), (2, .int x2)] := hl
        refine lv_goto (tgt := 2) hx hb nD_X3_anyHas_46 (by decide) ?_
        have hl := lv_sub (l' := [(0, .ref (a 6)), (1, .int x1), (2, .int x2), (3, .int (y3 + 1))]) hl [1, 2, 3, 0] rfl
        exact hR _ h _ _ ls hP hD hS hl
      · have h := h.2 hc
        refine lv_aload_n hx hb nD_X3_anyHas_27 rfl (lv_at hl 0 rfl) ?_
        refine va_get (D := D) (ci := 2) (v := .ref (a 7)) (C := nR_X3) (T := nT_X3) (N := 3) hx hb hw wu_X3 hown hK hP 6 xc_6 rfl 0 (by decide) (hw _ wm_70) (fun _ h9 => h9) rfl nD_X3_anyHas_28 ?_
        refine lv_iload_n hx hb nD_X3_anyHas_31 rfl (lv_at hl 3 rfl) ?_
        obtain ⟨hi3, h⟩ := h
        refine va_lald (D := D) hx hb hK hP 7 3 xc_7 rfl hi3 nD_X3_anyHas_32 ?_
        refine lv_iload_n hx hb nD_X3_anyHas_33 rfl (lv_at hl 1 rfl) ?_
        refine vp_callSi (W.runS (As := [.long (σ.2.2 0 y3.toNatClampNeg), .int x1]) (rest := []) ⟨hx, hb, hml, hown, hw⟩ (c_X2_valueAt l (σ.2.2 0 y3.toNatClampNeg) x1 _ h) (mcS 2 hw wm_206 wm_370 wm_205 wm_32 rfl rfl nh_X2_valueAt ⟨Nat.le_of_ble_eq_true rfl, Nat.le_of_ble_eq_true rfl⟩) mp_S rfl rfl hl.1 rfl (lv_room (Nat.le_of_ble_eq_true rfl)) nD_X3_anyHas_34 ⟨Nat.zero_le _, Nat.zero_le _⟩) (fun r4 h => ?_)
        refine lv_iload_n hx hb nD_X3_anyHas_37 rfl (lv_at hl 2 rfl) ?_
        refine lv_icmp_ne (tgt := 43) hx hb nD_X3_anyHas_38 (by decide) (fun hc => ?_) (fun hc => ?_)
        · have h := h.2 hc
          refine lv_iinc (k := 3) (v := y3 + 1) hx hb nD_X3_anyHas_43 hl rfl rfl (by decide) rfl (fun ls hl => ?_)
          have hl : lv_has ls 4 [(3, .int (y3 + 1)), (0, .ref (a 6)), (1, .int x1), (2, .int x2)] := hl
          refine lv_goto (tgt := 2) hx hb nD_X3_anyHas_46 (by decide) ?_
          have hl := lv_sub (l' := [(0, .ref (a 6)), (1, .int x1), (2, .int x2), (3, .int (y3 + 1))]) hl [1, 2, 3, 0] rfl
          exact hR _ h _ _ ls hP hD hS hl
        · have h := h.1 hc
          refine lv_iconst (v := (1 : Int32)) hx hb nD_X3_anyHas_41 (by decide) ?_
          exact mw_z hx hb hr hlocks rfl ⟨σ, rfl, h⟩ hP hK hD hS nD_X3_anyHas_42
set_option maxHeartbeats 4000000 in
set_option maxRecDepth 100000 in
theorem c_X3_anyHas (l : Launch) (D : va_G) (tc : Nat → ClassId) (a : Nat → Nat) (x1 : Int32) (x2 : Int32) (σ : zS) (post : Int32 → zS → Prop) (h : j_X3_anyHas x1 x2 σ post) : mWi l nM_X3_anyHas nC_X3_anyHas 4 (some .boolean) ({ frames := 1, cells := 0, slots := 0, locals := 22 } : Room) D (ztX tc) [.ref (a 6), .int x1, .int x2] (zX a tc σ) (zQi (zX a tc) post) := by
  intro sz
  refine mt_W (by decide) (Nat.le_of_ble_eq_true rfl) ?_
  intro p e s m below meth c ls hx hb hml hr hown hlocks hin hw hn hP hK hD hS hA hl hsz
  subst hsz
  have hl : lv_has ls 4 [(0, .ref (a 6)), (1, .int x1), (2, .int x2)] := hl
  unfold j_X3_anyHas at h
  refine lv_iconst (v := (0 : Int32)) hx hb nD_X3_anyHas_0 (by decide) ?_
  refine lv_istore_n hx hb nD_X3_anyHas_1 rfl hl (by decide) rfl (fun ls hl => ?_)
  have hl : lv_has ls 4 [(3, .int (0 : Int32)), (0, .ref (a 6)), (1, .int x1), (2, .int x2)] := hl
  have hl := lv_sub (l' := [(0, .ref (a 6)), (1, .int x1), (2, .int x2), (3, .int (0 : Int32))]) hl [1, 2, 3, 0] rfl
  refine wl_X3_anyHas_2 (l := l) x1 x2 post _ hx hb hml hr hown hlocks hw hn hK hA (fun v5 σ6 H locs ls h hP hD hS hl => ?_) ((0 : Int32), σ) h _ _ ls hP hD hS hl
  refine lv_iconst (v := (0 : Int32)) hx hb nD_X3_anyHas_49 (by decide) ?_
  exact mw_z hx hb hr hlocks rfl ⟨σ6, rfl, h⟩ hP hK hD hS nD_X3_anyHas_50
set_option maxHeartbeats 4000000 in
set_option maxRecDepth 100000 in
theorem c_X1_clear (l : Launch) (D : va_G) (tc : Nat → ClassId) (a : Nat → Nat) (σ : zS) (post : zS → Prop) (h : j_X1_clear  σ post) : mWv l nM_X1_clear nC_X1_clear 1 ({ frames := 2, cells := 0, slots := 0, locals := 43 } : Room) D (ztX tc) [.ref (a 5)] (zX a tc σ) (zQv (zX a tc) post) := by
  intro sz
  refine mt_W (by decide) (Nat.le_of_ble_eq_true rfl) ?_
  intro p e s m below meth c ls hx hb hml hr hown hlocks hin hw hn hP hK hD hS hA hl hsz
  subst hsz
  have hl : lv_has ls 1 [(0, .ref (a 5))] := hl
  unfold j_X1_clear at h
  refine lv_aload_n hx hb nD_X1_clear_0 rfl (lv_at hl 0 rfl) ?_
  refine va_get (D := D) (ci := 1) (v := .ref (a 6)) (C := nR_X1) (T := nT_X1) (N := 4) hx hb hw wu_X1 hown hK hP 5 xc_5 rfl 0 (by decide) (hw _ wm_83) (fun _ h9 => h9) rfl nD_X1_clear_1 ?_
  refine zC_v (va_runV (As := []) (rest := []) ⟨hx, hb, hml, hown, hw⟩ (c_X3_clear l D tc a σ _ h _) (mcV 0 hw wm_154 wm_151 wm_152 wm_153 wm_28 rfl rfl nh_X3_clear ⟨Nat.le_of_ble_eq_true rfl, Nat.le_of_ble_eq_true rfl⟩) (zp_V (ci := 2) hP hD hK hn rfl xc_6) rfl rfl hl.1 rfl (lv_room (Nat.le_of_ble_eq_true rfl)) nD_X1_clear_4 ⟨Nat.zero_le _, Nat.zero_le _⟩) hD hS hA (fun σ1 H locs h hP hD hS => ?_)
  refine lv_aload_n hx hb nD_X1_clear_7 rfl (lv_at hl 0 rfl) ?_
  refine va_get (D := D) (ci := 1) (v := .ref (a 9)) (C := nR_X1) (T := nT_X1) (N := 4) hx hb hw wu_X1 hown hK hP 5 xc_5 rfl 1 (by decide) (hw _ wm_85) (fun _ h9 => h9) rfl nD_X1_clear_8 ?_
  refine lv_iconst (v := (0 : Int32)) hx hb nD_X1_clear_11 (by decide) ?_
  refine zC_fill (q0 := 9) (t0 := 5) (rest := []) ⟨hx, hb, hml, hown, hw⟩ wm_156 (by decide) hK hn hP hD hS hA xc_9 rfl hl.1 (lv_room (Nat.le_of_ble_eq_true rfl)) nD_X1_clear_12 ⟨Nat.le_of_ble_eq_true rfl, Nat.le_of_ble_eq_true rfl⟩ ⟨Nat.zero_le _, Nat.zero_le _⟩ wm_142 wm_141 wm_31 (fun H locs hP hD hS => ?_)
  obtain ⟨σ2, e_σ2⟩ : ∃ z : zS, z = zF σ1 2 (zfl (σ1.2.1 2) 3 (0 : Int32)) := ⟨_, rfl⟩
  obtain ⟨hP, hD⟩ := znew (w := zX a tc) e_σ2 (xf_9) hP hD
  have h := h σ2 e_σ2
  clear e_σ2
  refine lv_aload_n hx hb nD_X1_clear_15 rfl (lv_at hl 0 rfl) ?_
  refine va_get (D := D) (ci := 1) (v := .ref (a 10)) (C := nR_X1) (T := nT_X1) (N := 4) hx hb hw wu_X1 hown hK hP 5 xc_5 rfl 2 (by decide) (hw _ wm_87) (fun _ h9 => h9) rfl nD_X1_clear_16 ?_
  refine lv_iconst (v := (0 : Int32)) hx hb nD_X1_clear_19 (by decide) ?_
  refine zC_fill (q0 := 10) (t0 := 6) (rest := []) ⟨hx, hb, hml, hown, hw⟩ wm_156 (by decide) hK hn hP hD hS hA xc_10 rfl hl.1 (lv_room (Nat.le_of_ble_eq_true rfl)) nD_X1_clear_20 ⟨Nat.le_of_ble_eq_true rfl, Nat.le_of_ble_eq_true rfl⟩ ⟨Nat.zero_le _, Nat.zero_le _⟩ wm_142 wm_141 wm_31 (fun H locs hP hD hS => ?_)
  obtain ⟨σ3, e_σ3⟩ : ∃ z : zS, z = zF σ2 3 (zfl (σ2.2.1 3) 3 (0 : Int32)) := ⟨_, rfl⟩
  obtain ⟨hP, hD⟩ := znew (w := zX a tc) e_σ3 (xf_10) hP hD
  have h := h σ3 e_σ3
  clear e_σ3
  refine lv_aload_n hx hb nD_X1_clear_23 rfl (lv_at hl 0 rfl) ?_
  refine lv_iconst (v := (0 : Int32)) hx hb nD_X1_clear_24 (by decide) ?_
  refine va_put (D := D) (ci := 1) (v := .int (0 : Int32)) (ty := .int) (C := nR_X1) (T := nT_X1) (N := 4) hx hb hw wu_X1 nY_X1 nO_X1 nN_X1 hown hK hP hD hS 5 xc_5 rfl 3 (by decide) (hw _ wm_89) (fun _ h9 => h9) rfl (by decide +kernel) rfl rfl (Nat.le_of_ble_eq_true rfl) nD_X1_clear_25 (fun H locs hP hD hS => ?_)
  obtain ⟨σ4, e_σ4⟩ : ∃ z : zS, z = zI σ3 7 (0 : Int32) := ⟨_, rfl⟩
  obtain ⟨hP, hD⟩ := znew (w := zX a tc) e_σ4 (xp_5_3) hP hD
  have h := h σ4 e_σ4
  clear e_σ4
  exact mw_v hx hb hr hlocks ⟨σ4, rfl, h⟩ hP hK hD hS nD_X1_clear_28
set_option maxHeartbeats 4000000 in
set_option maxRecDepth 100000 in
theorem c_X1_addExplanation (l : Launch) (D : va_G) (tc : Nat → ClassId) (a : Nat → Nat) (x1 : Int64) (σ : zS) (post : zS → Prop) (h : j_X1_addExplanation x1 σ post) : mWv l nM_X1_addExplanation nC_X1_addExplanation 3 ({ frames := 1, cells := 0, slots := 0, locals := 25 } : Room) D (ztX tc) [.ref (a 5), .long x1] (zX a tc σ) (zQv (zX a tc) post) := by
  intro sz
  refine mt_W (by decide) (Nat.le_of_ble_eq_true rfl) ?_
  intro p e s m below meth c ls hx hb hml hr hown hlocks hin hw hn hP hK hD hS hA hl hsz
  subst hsz
  have hl : lv_has ls 3 [(0, .ref (a 5)), (1, .long x1)] := hl
  unfold j_X1_addExplanation at h
  refine lv_aload_n hx hb nD_X1_addExplanation_0 rfl (lv_at hl 0 rfl) ?_
  refine lv_dup hx hb nD_X1_addExplanation_1 rfl ?_
  refine va_get (D := D) (ci := 1) (v := .int (σ.1 7)) (C := nR_X1) (T := nT_X1) (N := 4) hx hb hw wu_X1 hown hK hP 5 xc_5 rfl 3 (by decide) (hw _ wm_89) (fun _ h9 => h9) rfl nD_X1_addExplanation_2 ?_
  refine lv_iconst (v := (1 : Int32)) hx hb nD_X1_addExplanation_5 (by decide) ?_
  refine lv_iadd hx hb nD_X1_addExplanation_6 ?_
  refine va_put (D := D) (ci := 1) (v := .int ((σ.1 7) + (1 : Int32))) (ty := .int) (C := nR_X1) (T := nT_X1) (N := 4) hx hb hw wu_X1 nY_X1 nO_X1 nN_X1 hown hK hP hD hS 5 xc_5 rfl 3 (by decide) (hw _ wm_89) (fun _ h9 => h9) rfl (by decide +kernel) rfl rfl (Nat.le_of_ble_eq_true rfl) nD_X1_addExplanation_7 (fun H locs hP hD hS => ?_)
  obtain ⟨σ1, e_σ1⟩ : ∃ z : zS, z = zI σ 7 ((σ.1 7) + (1 : Int32)) := ⟨_, rfl⟩
  obtain ⟨hP, hD⟩ := znew (w := zX a tc) e_σ1 (xp_5_3) hP hD
  have h := h σ1 e_σ1
  clear e_σ1
  refine lv_aload_n hx hb nD_X1_addExplanation_10 rfl (lv_at hl 0 rfl) ?_
  refine va_get (D := D) (ci := 1) (v := .ref (a 6)) (C := nR_X1) (T := nT_X1) (N := 4) hx hb hw wu_X1 hown hK hP 5 xc_5 rfl 0 (by decide) (hw _ wm_83) (fun _ h9 => h9) rfl nD_X1_addExplanation_11 ?_
  refine lv_lload_n hx hb nD_X1_addExplanation_14 rfl (lv_at hl 1 rfl) ?_
  refine zC_v (va_runV (As := [.long x1]) (rest := []) ⟨hx, hb, hml, hown, hw⟩ (c_X3_add l D tc a x1 σ1 _ h _) (mcV 1 hw wm_172 wm_169 wm_170 wm_171 wm_28 rfl rfl nh_X3_add ⟨Nat.le_of_ble_eq_true rfl, Nat.le_of_ble_eq_true rfl⟩) (zp_V (ci := 2) hP hD hK hn rfl xc_6) rfl rfl hl.1 rfl (lv_room (Nat.le_of_ble_eq_true rfl)) nD_X1_addExplanation_15 ⟨Nat.zero_le _, Nat.zero_le _⟩) hD hS hA (fun σ2 H locs h hP hD hS => ?_)
  exact mw_v hx hb hr hlocks ⟨σ2, rfl, h⟩ hP hK hD hS nD_X1_addExplanation_18
set_option maxHeartbeats 4000000 in
set_option maxRecDepth 100000 in
theorem c_X1_addReply (l : Launch) (D : va_G) (tc : Nat → ClassId) (a : Nat → Nat) (x1 : Int32) (x2 : Int32) (σ : zS) (post : zS → Prop) (h : j_X1_addReply x1 x2 σ post) : mWv l nM_X1_addReply nC_X1_addReply 3 ({ frames := 0, cells := 0, slots := 0, locals := 0 } : Room) D (ztX tc) [.ref (a 5), .int x1, .int x2] (zX a tc σ) (zQv (zX a tc) post) := by
  intro sz
  refine mt_W (by decide) (Nat.le_of_ble_eq_true rfl) ?_
  intro p e s m below meth c ls hx hb hml hr hown hlocks hin hw hn hP hK hD hS hA hl hsz
  subst hsz
  have hl : lv_has ls 3 [(0, .ref (a 5)), (1, .int x1), (2, .int x2)] := hl
  unfold j_X1_addReply at h
  refine lv_aload_n hx hb nD_X1_addReply_0 rfl (lv_at hl 0 rfl) ?_
  refine va_get (D := D) (ci := 1) (v := .ref (a 9)) (C := nR_X1) (T := nT_X1) (N := 4) hx hb hw wu_X1 hown hK hP 5 xc_5 rfl 1 (by decide) (hw _ wm_85) (fun _ h9 => h9) rfl nD_X1_addReply_1 ?_
  refine lv_iload_n hx hb nD_X1_addReply_4 rfl (lv_at hl 1 rfl) ?_
  refine lv_dup2_11 hx hb nD_X1_addReply_5 rfl rfl ?_
  obtain ⟨hi1, h⟩ := h
  refine va_iald (D := D) hx hb hK hP 9 5 xc_9 rfl hi1 nD_X1_addReply_6 ?_
  refine lv_iconst (v := (1 : Int32)) hx hb nD_X1_addReply_7 (by decide) ?_
  refine lv_iadd hx hb nD_X1_addReply_8 ?_
  obtain ⟨hi2, h⟩ := h
  refine va_iast (D := D) hx hb hK hP hD hS 9 5 xc_9 rfl hi2 nD_X1_addReply_9 (fun H locs hP hD hS => ?_)
  obtain ⟨σ3, e_σ3⟩ : ∃ z : zS, z = zA σ 2 x1.toNatClampNeg ((σ.2.1 2 x1.toNatClampNeg) + (1 : Int32)) := ⟨_, rfl⟩
  obtain ⟨hP, hD⟩ := znew (w := zX a tc) e_σ3 (xa_9) hP hD
  have h := h σ3 e_σ3
  clear e_σ3
  refine lv_aload_n hx hb nD_X1_addReply_10 rfl (lv_at hl 0 rfl) ?_
  refine va_get (D := D) (ci := 1) (v := .ref (a 10)) (C := nR_X1) (T := nT_X1) (N := 4) hx hb hw wu_X1 hown hK hP 5 xc_5 rfl 2 (by decide) (hw _ wm_87) (fun _ h9 => h9) rfl nD_X1_addReply_11 ?_
  refine lv_iload_n hx hb nD_X1_addReply_14 rfl (lv_at hl 1 rfl) ?_
  refine lv_dup2_11 hx hb nD_X1_addReply_15 rfl rfl ?_
  obtain ⟨hi4, h⟩ := h
  refine va_iald (D := D) hx hb hK hP 10 6 xc_10 rfl hi4 nD_X1_addReply_16 ?_
  refine lv_iconst (v := (1 : Int32)) hx hb nD_X1_addReply_17 (by decide) ?_
  refine lv_iload_n hx hb nD_X1_addReply_18 rfl (lv_at hl 2 rfl) ?_
  refine lv_iconst (v := (-1 : Int32)) hx hb nD_X1_addReply_19 (by decide) ?_
  refine lv_isub hx hb nD_X1_addReply_20 ?_
  refine lv_ishl hx hb nD_X1_addReply_21 ?_
  refine lv_ior hx hb nD_X1_addReply_22 ?_
  obtain ⟨hi5, h⟩ := h
  refine va_iast (D := D) hx hb hK hP hD hS 10 6 xc_10 rfl hi5 nD_X1_addReply_23 (fun H locs hP hD hS => ?_)
  obtain ⟨σ6, e_σ6⟩ : ∃ z : zS, z = zA σ3 3 x1.toNatClampNeg ((σ3.2.1 3 x1.toNatClampNeg) ||| ((1 : Int32) <<< ((x2 - (-1 : Int32)) &&& 31))) := ⟨_, rfl⟩
  obtain ⟨hP, hD⟩ := znew (w := zX a tc) e_σ6 (xa_10) hP hD
  have h := h σ6 e_σ6
  clear e_σ6
  exact mw_v hx hb hr hlocks ⟨σ6, rfl, h⟩ hP hK hD hS nD_X1_addReply_24
end
section
set_option maxHeartbeats 4000000 in
set_option maxRecDepth 100000 in
theorem c_X5_hasOpenCall (l : Launch) (D : va_G) (tc : Nat → ClassId) (a : Nat → Nat) (x1 : Int32) (σ : zS) (post : Int32 → zS → Prop) (h : j_X5_hasOpenCall x1 σ post) : mWi l nM_X5_hasOpenCall nC_X5_hasOpenCall 2 (some .boolean) ({ frames := 1, cells := 0, slots := 0, locals := 20 } : Room) D (ztX tc) [.ref (a 0), .int x1] (zX a tc σ) (zQi (zX a tc) post) := by
  intro sz
  refine mt_W (by decide) (Nat.le_of_ble_eq_true rfl) ?_
  intro p e s m below meth c ls hx hb hml hr hown hlocks hin hw hn hP hK hD hS hA hl hsz
  subst hsz
  have hl : lv_has ls 2 [(0, .ref (a 0)), (1, .int x1)] := hl
  unfold j_X5_hasOpenCall at h
  refine lv_iload_n hx hb nD_X5_hasOpenCall_0 rfl (lv_at hl 1 rfl) ?_
  refine vp_callSi (W.runS (As := [.int x1]) (rest := []) ⟨hx, hb, hml, hown, hw⟩ (c_X5_isWorker l x1 _ h) (mcS 1 hw wm_274 wm_272 wm_273 wm_25 rfl rfl nh_X5_isWorker ⟨Nat.le_of_ble_eq_true rfl, Nat.le_of_ble_eq_true rfl⟩) mp_S rfl rfl hl.1 rfl (lv_room (Nat.le_of_ble_eq_true rfl)) nD_X5_hasOpenCall_1 ⟨Nat.zero_le _, Nat.zero_le _⟩) (fun r1 h => ?_)
  refine lv_if_eq (tgt := 21) hx hb nD_X5_hasOpenCall_4 (by decide) (fun hc => ?_) (fun hc => ?_)
  · have h := h.1 hc
    refine lv_iconst (v := (0 : Int32)) hx hb nD_X5_hasOpenCall_21 (by decide) ?_
    exact mw_z hx hb hr hlocks rfl ⟨σ, rfl, h⟩ hP hK hD hS nD_X5_hasOpenCall_22
  · have h := h.2 hc
    refine lv_aload_n hx hb nD_X5_hasOpenCall_7 rfl (lv_at hl 0 rfl) ?_
    refine va_get (D := D) (ci := 4) (v := .ref (a 3)) (C := nR_X5) (T := nT_X5) (N := 10) hx hb hw wu_X5 hown hK hP 0 xc_0 rfl 2 (by decide) (hw _ wm_231) (fun _ h9 => h9) rfl nD_X5_hasOpenCall_8 ?_
    refine lv_iload_n hx hb nD_X5_hasOpenCall_11 rfl (lv_at hl 1 rfl) ?_
    obtain ⟨hi2, h⟩ := h
    refine va_iald (D := D) hx hb hK hP 3 1 xc_3 rfl hi2 nD_X5_hasOpenCall_12 ?_
    refine lv_iconst (v := (-1 : Int32)) hx hb nD_X5_hasOpenCall_13 (by decide) ?_
    refine lv_icmp_eq (tgt := 21) hx hb nD_X5_hasOpenCall_14 (by decide) (fun hc => ?_) (fun hc => ?_)
    · have h := h.1 hc
      refine lv_iconst (v := (0 : Int32)) hx hb nD_X5_hasOpenCall_21 (by decide) ?_
      exact mw_z hx hb hr hlocks rfl ⟨σ, rfl, h⟩ hP hK hD hS nD_X5_hasOpenCall_22
    · have h := h.2 hc
      refine lv_iconst (v := (1 : Int32)) hx hb nD_X5_hasOpenCall_17 (by decide) ?_
      refine lv_goto (tgt := 22) hx hb nD_X5_hasOpenCall_18 (by decide) ?_
      exact mw_z hx hb hr hlocks rfl ⟨σ, rfl, h⟩ hP hK hD hS nD_X5_hasOpenCall_22
set_option maxHeartbeats 4000000 in
set_option maxRecDepth 100000 in
theorem c_X5_mayBegin (l : Launch) (D : va_G) (tc : Nat → ClassId) (a : Nat → Nat) (x1 : Int32) (σ : zS) (post : Int32 → zS → Prop) (h : j_X5_mayBegin x1 σ post) : mWi l nM_X5_mayBegin nC_X5_mayBegin 2 (some .boolean) ({ frames := 1, cells := 0, slots := 0, locals := 20 } : Room) D (ztX tc) [.ref (a 0), .int x1] (zX a tc σ) (zQi (zX a tc) post) := by
  intro sz
  refine mt_W (by decide) (Nat.le_of_ble_eq_true rfl) ?_
  intro p e s m below meth c ls hx hb hml hr hown hlocks hin hw hn hP hK hD hS hA hl hsz
  subst hsz
  have hl : lv_has ls 2 [(0, .ref (a 0)), (1, .int x1)] := hl
  unfold j_X5_mayBegin at h
  refine lv_iload_n hx hb nD_X5_mayBegin_0 rfl (lv_at hl 1 rfl) ?_
  refine vp_callSi (W.runS (As := [.int x1]) (rest := []) ⟨hx, hb, hml, hown, hw⟩ (c_X5_isWorker l x1 _ h) (mcS 1 hw wm_274 wm_272 wm_273 wm_25 rfl rfl nh_X5_isWorker ⟨Nat.le_of_ble_eq_true rfl, Nat.le_of_ble_eq_true rfl⟩) mp_S rfl rfl hl.1 rfl (lv_room (Nat.le_of_ble_eq_true rfl)) nD_X5_mayBegin_1 ⟨Nat.zero_le _, Nat.zero_le _⟩) (fun r1 h => ?_)
  refine lv_if_eq (tgt := 30) hx hb nD_X5_mayBegin_4 (by decide) (fun hc => ?_) (fun hc => ?_)
  · have h := h.1 hc
    refine lv_iconst (v := (0 : Int32)) hx hb nD_X5_mayBegin_30 (by decide) ?_
    exact mw_z hx hb hr hlocks rfl ⟨σ, rfl, h⟩ hP hK hD hS nD_X5_mayBegin_31
  · have h := h.2 hc
    refine lv_aload_n hx hb nD_X5_mayBegin_7 rfl (lv_at hl 0 rfl) ?_
    refine va_get (D := D) (ci := 4) (v := .ref (a 3)) (C := nR_X5) (T := nT_X5) (N := 10) hx hb hw wu_X5 hown hK hP 0 xc_0 rfl 2 (by decide) (hw _ wm_231) (fun _ h9 => h9) rfl nD_X5_mayBegin_8 ?_
    refine lv_iload_n hx hb nD_X5_mayBegin_11 rfl (lv_at hl 1 rfl) ?_
    obtain ⟨hi2, h⟩ := h
    refine va_iald (D := D) hx hb hK hP 3 1 xc_3 rfl hi2 nD_X5_mayBegin_12 ?_
    refine lv_iconst (v := (-1 : Int32)) hx hb nD_X5_mayBegin_13 (by decide) ?_
    refine lv_icmp_ne (tgt := 30) hx hb nD_X5_mayBegin_14 (by decide) (fun hc => ?_) (fun hc => ?_)
    · have h := h.2 hc
      refine lv_iconst (v := (0 : Int32)) hx hb nD_X5_mayBegin_30 (by decide) ?_
      exact mw_z hx hb hr hlocks rfl ⟨σ, rfl, h⟩ hP hK hD hS nD_X5_mayBegin_31
    · have h := h.1 hc
      refine lv_aload_n hx hb nD_X5_mayBegin_17 rfl (lv_at hl 0 rfl) ?_
      refine va_get (D := D) (ci := 4) (v := .int (σ.1 2)) (C := nR_X5) (T := nT_X5) (N := 10) hx hb hw wu_X5 hown hK hP 0 xc_0 rfl 5 (by decide) (hw _ wm_234) (fun _ h9 => h9) rfl nD_X5_mayBegin_18 ?_
      refine lv_bipush (v := (8 : Int32)) hx hb nD_X5_mayBegin_21 (by decide) ?_
      refine lv_icmp_ge (tgt := 30) hx hb nD_X5_mayBegin_23 (by decide) (fun hc => ?_) (fun hc => ?_)
      · have h := h.1 hc
        refine lv_iconst (v := (0 : Int32)) hx hb nD_X5_mayBegin_30 (by decide) ?_
        exact mw_z hx hb hr hlocks rfl ⟨σ, rfl, h⟩ hP hK hD hS nD_X5_mayBegin_31
      · have h := h.2 hc
        refine lv_iconst (v := (1 : Int32)) hx hb nD_X5_mayBegin_26 (by decide) ?_
        refine lv_goto (tgt := 31) hx hb nD_X5_mayBegin_27 (by decide) ?_
        exact mw_z hx hb hr hlocks rfl ⟨σ, rfl, h⟩ hP hK hD hS nD_X5_mayBegin_31
set_option maxHeartbeats 4000000 in
set_option maxRecDepth 100000 in
theorem c_X5_openNextCall (l : Launch) (D : va_G) (tc : Nat → ClassId) (a : Nat → Nat) (x1 : Int32) (σ : zS) (post : zS → Prop) (h : j_X5_openNextCall x1 σ post) : mWv l nM_X5_openNextCall nC_X5_openNextCall 2 ({ frames := 0, cells := 0, slots := 0, locals := 0 } : Room) D (ztX tc) [.ref (a 0), .int x1] (zX a tc σ) (zQv (zX a tc) post) := by
  intro sz
  refine mt_W (by decide) (Nat.le_of_ble_eq_true rfl) ?_
  intro p e s m below meth c ls hx hb hml hr hown hlocks hin hw hn hP hK hD hS hA hl hsz
  subst hsz
  have hl : lv_has ls 2 [(0, .ref (a 0)), (1, .int x1)] := hl
  unfold j_X5_openNextCall at h
  refine lv_aload_n hx hb nD_X5_openNextCall_0 rfl (lv_at hl 0 rfl) ?_
  refine va_get (D := D) (ci := 4) (v := .ref (a 3)) (C := nR_X5) (T := nT_X5) (N := 10) hx hb hw wu_X5 hown hK hP 0 xc_0 rfl 2 (by decide) (hw _ wm_231) (fun _ h9 => h9) rfl nD_X5_openNextCall_1 ?_
  refine lv_iload_n hx hb nD_X5_openNextCall_4 rfl (lv_at hl 1 rfl) ?_
  refine lv_aload_n hx hb nD_X5_openNextCall_5 rfl (lv_at hl 0 rfl) ?_
  refine va_get (D := D) (ci := 4) (v := .int (σ.1 2)) (C := nR_X5) (T := nT_X5) (N := 10) hx hb hw wu_X5 hown hK hP 0 xc_0 rfl 5 (by decide) (hw _ wm_234) (fun _ h9 => h9) rfl nD_X5_openNextCall_6 ?_
  obtain ⟨hi1, h⟩ := h
  refine va_iast (D := D) hx hb hK hP hD hS 3 1 xc_3 rfl hi1 nD_X5_openNextCall_9 (fun H locs hP hD hS => ?_)
  obtain ⟨σ2, e_σ2⟩ : ∃ z : zS, z = zA σ 0 x1.toNatClampNeg (σ.1 2) := ⟨_, rfl⟩
  obtain ⟨hP, hD⟩ := znew (w := zX a tc) e_σ2 (xa_3) hP hD
  have h := h σ2 e_σ2
  clear e_σ2
  refine lv_aload_n hx hb nD_X5_openNextCall_10 rfl (lv_at hl 0 rfl) ?_
  refine lv_dup hx hb nD_X5_openNextCall_11 rfl ?_
  refine va_get (D := D) (ci := 4) (v := .int (σ2.1 2)) (C := nR_X5) (T := nT_X5) (N := 10) hx hb hw wu_X5 hown hK hP 0 xc_0 rfl 5 (by decide) (hw _ wm_234) (fun _ h9 => h9) rfl nD_X5_openNextCall_12 ?_
  refine lv_iconst (v := (1 : Int32)) hx hb nD_X5_openNextCall_15 (by decide) ?_
  refine lv_iadd hx hb nD_X5_openNextCall_16 ?_
  refine va_put (D := D) (ci := 4) (v := .int ((σ2.1 2) + (1 : Int32))) (ty := .int) (C := nR_X5) (T := nT_X5) (N := 10) hx hb hw wu_X5 nY_X5 nO_X5 nN_X5 hown hK hP hD hS 0 xc_0 rfl 5 (by decide) (hw _ wm_234) (fun _ h9 => h9) rfl (by decide +kernel) rfl rfl (Nat.le_of_ble_eq_true rfl) nD_X5_openNextCall_17 (fun H locs hP hD hS => ?_)
  obtain ⟨σ3, e_σ3⟩ : ∃ z : zS, z = zI σ2 2 ((σ2.1 2) + (1 : Int32)) := ⟨_, rfl⟩
  obtain ⟨hP, hD⟩ := znew (w := zX a tc) e_σ3 (xp_0_5) hP hD
  have h := h σ3 e_σ3
  clear e_σ3
  refine lv_aload_n hx hb nD_X5_openNextCall_20 rfl (lv_at hl 0 rfl) ?_
  refine lv_dup hx hb nD_X5_openNextCall_21 rfl ?_
  refine va_get (D := D) (ci := 4) (v := .int (σ3.1 5)) (C := nR_X5) (T := nT_X5) (N := 10) hx hb hw wu_X5 hown hK hP 0 xc_0 rfl 8 (by decide) (hw _ wm_237) (fun _ h9 => h9) rfl nD_X5_openNextCall_22 ?_
  refine lv_iconst (v := (1 : Int32)) hx hb nD_X5_openNextCall_25 (by decide) ?_
  refine lv_iadd hx hb nD_X5_openNextCall_26 ?_
  refine va_put (D := D) (ci := 4) (v := .int ((σ3.1 5) + (1 : Int32))) (ty := .int) (C := nR_X5) (T := nT_X5) (N := 10) hx hb hw wu_X5 nY_X5 nO_X5 nN_X5 hown hK hP hD hS 0 xc_0 rfl 8 (by decide) (hw _ wm_237) (fun _ h9 => h9) rfl (by decide +kernel) rfl rfl (Nat.le_of_ble_eq_true rfl) nD_X5_openNextCall_27 (fun H locs hP hD hS => ?_)
  obtain ⟨σ4, e_σ4⟩ : ∃ z : zS, z = zI σ3 5 ((σ3.1 5) + (1 : Int32)) := ⟨_, rfl⟩
  obtain ⟨hP, hD⟩ := znew (w := zX a tc) e_σ4 (xp_0_8) hP hD
  have h := h σ4 e_σ4
  clear e_σ4
  exact mw_v hx hb hr hlocks ⟨σ4, rfl, h⟩ hP hK hD hS nD_X5_openNextCall_30
set_option maxHeartbeats 4000000 in
set_option maxRecDepth 100000 in
theorem c_X5_closeOpenCall (l : Launch) (D : va_G) (tc : Nat → ClassId) (a : Nat → Nat) (x1 : Int32) (σ : zS) (post : zS → Prop) (h : j_X5_closeOpenCall x1 σ post) : mWv l nM_X5_closeOpenCall nC_X5_closeOpenCall 2 ({ frames := 0, cells := 0, slots := 0, locals := 0 } : Room) D (ztX tc) [.ref (a 0), .int x1] (zX a tc σ) (zQv (zX a tc) post) := by
  intro sz
  refine mt_W (by decide) (Nat.le_of_ble_eq_true rfl) ?_
  intro p e s m below meth c ls hx hb hml hr hown hlocks hin hw hn hP hK hD hS hA hl hsz
  subst hsz
  have hl : lv_has ls 2 [(0, .ref (a 0)), (1, .int x1)] := hl
  unfold j_X5_closeOpenCall at h
  refine lv_aload_n hx hb nD_X5_closeOpenCall_0 rfl (lv_at hl 0 rfl) ?_
  refine va_get (D := D) (ci := 4) (v := .ref (a 3)) (C := nR_X5) (T := nT_X5) (N := 10) hx hb hw wu_X5 hown hK hP 0 xc_0 rfl 2 (by decide) (hw _ wm_231) (fun _ h9 => h9) rfl nD_X5_closeOpenCall_1 ?_
  refine lv_iload_n hx hb nD_X5_closeOpenCall_4 rfl (lv_at hl 1 rfl) ?_
  refine lv_iconst (v := (-1 : Int32)) hx hb nD_X5_closeOpenCall_5 (by decide) ?_
  obtain ⟨hi1, h⟩ := h
  refine va_iast (D := D) hx hb hK hP hD hS 3 1 xc_3 rfl hi1 nD_X5_closeOpenCall_6 (fun H locs hP hD hS => ?_)
  obtain ⟨σ2, e_σ2⟩ : ∃ z : zS, z = zA σ 0 x1.toNatClampNeg (-1 : Int32) := ⟨_, rfl⟩
  obtain ⟨hP, hD⟩ := znew (w := zX a tc) e_σ2 (xa_3) hP hD
  have h := h σ2 e_σ2
  clear e_σ2
  refine lv_aload_n hx hb nD_X5_closeOpenCall_7 rfl (lv_at hl 0 rfl) ?_
  refine lv_dup hx hb nD_X5_closeOpenCall_8 rfl ?_
  refine va_get (D := D) (ci := 4) (v := .int (σ2.1 5)) (C := nR_X5) (T := nT_X5) (N := 10) hx hb hw wu_X5 hown hK hP 0 xc_0 rfl 8 (by decide) (hw _ wm_237) (fun _ h9 => h9) rfl nD_X5_closeOpenCall_9 ?_
  refine lv_iconst (v := (1 : Int32)) hx hb nD_X5_closeOpenCall_12 (by decide) ?_
  refine lv_iadd hx hb nD_X5_closeOpenCall_13 ?_
  refine va_put (D := D) (ci := 4) (v := .int ((σ2.1 5) + (1 : Int32))) (ty := .int) (C := nR_X5) (T := nT_X5) (N := 10) hx hb hw wu_X5 nY_X5 nO_X5 nN_X5 hown hK hP hD hS 0 xc_0 rfl 8 (by decide) (hw _ wm_237) (fun _ h9 => h9) rfl (by decide +kernel) rfl rfl (Nat.le_of_ble_eq_true rfl) nD_X5_closeOpenCall_14 (fun H locs hP hD hS => ?_)
  obtain ⟨σ3, e_σ3⟩ : ∃ z : zS, z = zI σ2 5 ((σ2.1 5) + (1 : Int32)) := ⟨_, rfl⟩
  obtain ⟨hP, hD⟩ := znew (w := zX a tc) e_σ3 (xp_0_8) hP hD
  have h := h σ3 e_σ3
  clear e_σ3
  exact mw_v hx hb hr hlocks ⟨σ3, rfl, h⟩ hP hK hD hS nD_X5_closeOpenCall_17
set_option maxHeartbeats 4000000 in
set_option maxRecDepth 100000 in
theorem c_X5_endOpenCall (l : Launch) (D : va_G) (tc : Nat → ClassId) (a : Nat → Nat) (x1 : Int32) (x2 : Int32) (σ : zS) (post : zS → Prop) (h : j_X5_endOpenCall x1 x2 σ post) : mWv l nM_X5_endOpenCall nC_X5_endOpenCall 4 ({ frames := 1, cells := 0, slots := 0, locals := 21 } : Room) D (ztX tc) [.ref (a 0), .int x1, .int x2] (zX a tc σ) (zQv (zX a tc) post) := by
  intro sz
  refine mt_W (by decide) (Nat.le_of_ble_eq_true rfl) ?_
  intro p e s m below meth c ls hx hb hml hr hown hlocks hin hw hn hP hK hD hS hA hl hsz
  subst hsz
  have hl : lv_has ls 4 [(0, .ref (a 0)), (1, .int x1), (2, .int x2)] := hl
  unfold j_X5_endOpenCall at h
  refine lv_aload_n hx hb nD_X5_endOpenCall_0 rfl (lv_at hl 0 rfl) ?_
  refine va_get (D := D) (ci := 4) (v := .ref (a 3)) (C := nR_X5) (T := nT_X5) (N := 10) hx hb hw wu_X5 hown hK hP 0 xc_0 rfl 2 (by decide) (hw _ wm_231) (fun _ h9 => h9) rfl nD_X5_endOpenCall_1 ?_
  refine lv_iload_n hx hb nD_X5_endOpenCall_4 rfl (lv_at hl 1 rfl) ?_
  obtain ⟨hi1, h⟩ := h
  refine va_iald (D := D) hx hb hK hP 3 1 xc_3 rfl hi1 nD_X5_endOpenCall_5 ?_
  refine lv_topi (fun v2 e_v2 => ?_)
  have h := h v2 e_v2
  clear e_v2
  refine lv_istore_n hx hb nD_X5_endOpenCall_6 rfl hl (by decide) rfl (fun ls hl => ?_)
  have hl : lv_has ls 4 [(3, .int v2), (0, .ref (a 0)), (1, .int x1), (2, .int x2)] := hl
  refine lv_aload_n hx hb nD_X5_endOpenCall_7 rfl (lv_at hl 1 rfl) ?_
  refine va_get (D := D) (ci := 4) (v := .ref (a 2)) (C := nR_X5) (T := nT_X5) (N := 10) hx hb hw wu_X5 hown hK hP 0 xc_0 rfl 1 (by decide) (hw _ wm_230) (fun _ h9 => h9) rfl nD_X5_endOpenCall_8 ?_
  refine lv_iload_n hx hb nD_X5_endOpenCall_11 rfl (lv_at hl 0 rfl) ?_
  obtain ⟨hi3, h⟩ := h
  refine va_aldq (D := D) hx hb hK hP 2 0 xc_2 rfl hi3 nD_X5_endOpenCall_12 ?_
  refine W.eq (g2 := F0 m 13 ls [.ref (a (11 + v2.toNatClampNeg))]) rfl ?_
  refine lv_iload_n hx hb nD_X5_endOpenCall_13 rfl (lv_at hl 3 rfl) ?_
  refine va_putN (D := D) (ci := 0) (v := .int x2) (ty := .int) (C := nR_X0) (T := nT_X0) (N := 5) hx hb hw wu_X0 nY_X0 nO_X0 nN_X0 hown hK hP hD hS (11 + v2.toNatClampNeg) (xcC (zin hi3)) rfl 4 (by decide) (hn.use wn_114) (fun _ h9 => h9) rfl (by decide +kernel) rfl rfl (Nat.le_of_ble_eq_true rfl) nD_X5_endOpenCall_14 (fun H locs hP hD hS => ?_)
  obtain ⟨σ4, e_σ4⟩ : ∃ z : zS, z = zA σ 9 v2.toNatClampNeg x2 := ⟨_, rfl⟩
  obtain ⟨hP, hD⟩ := znew (w := zX a tc) e_σ4 (xpC_4 (zin hi3)) hP hD
  have h := h σ4 e_σ4
  clear e_σ4
  refine lv_aload_n hx hb nD_X5_endOpenCall_17 rfl (lv_at hl 1 rfl) ?_
  refine lv_dup hx hb nD_X5_endOpenCall_18 rfl ?_
  refine va_get (D := D) (ci := 4) (v := .int (σ4.1 3)) (C := nR_X5) (T := nT_X5) (N := 10) hx hb hw wu_X5 hown hK hP 0 xc_0 rfl 6 (by decide) (hw _ wm_235) (fun _ h9 => h9) rfl nD_X5_endOpenCall_19 ?_
  refine lv_iconst (v := (1 : Int32)) hx hb nD_X5_endOpenCall_22 (by decide) ?_
  refine lv_iload_n hx hb nD_X5_endOpenCall_23 rfl (lv_at hl 0 rfl) ?_
  refine lv_ishl hx hb nD_X5_endOpenCall_24 ?_
  refine lv_ior hx hb nD_X5_endOpenCall_25 ?_
  refine va_put (D := D) (ci := 4) (v := .int ((σ4.1 3) ||| ((1 : Int32) <<< (v2 &&& 31)))) (ty := .int) (C := nR_X5) (T := nT_X5) (N := 10) hx hb hw wu_X5 nY_X5 nO_X5 nN_X5 hown hK hP hD hS 0 xc_0 rfl 6 (by decide) (hw _ wm_235) (fun _ h9 => h9) rfl (by decide +kernel) rfl rfl (Nat.le_of_ble_eq_true rfl) nD_X5_endOpenCall_26 (fun H locs hP hD hS => ?_)
  obtain ⟨σ5, e_σ5⟩ : ∃ z : zS, z = zI σ4 3 ((σ4.1 3) ||| ((1 : Int32) <<< (v2 &&& 31))) := ⟨_, rfl⟩
  obtain ⟨hP, hD⟩ := znew (w := zX a tc) e_σ5 (xp_0_6) hP hD
  have h := h σ5 e_σ5
  clear e_σ5
  refine lv_aload_n hx hb nD_X5_endOpenCall_29 rfl (lv_at hl 1 rfl) ?_
  refine lv_iload_n hx hb nD_X5_endOpenCall_30 rfl (lv_at hl 2 rfl) ?_
  refine zC_v (va_runV (As := [.int x1]) (rest := []) ⟨hx, hb, hml, hown, hw⟩ (c_X5_closeOpenCall l D tc a x1 σ5 _ h _) (mcV 1 hw wm_313 wm_310 wm_312 wm_12 wm_25 rfl rfl nh_X5_closeOpenCall ⟨Nat.le_of_ble_eq_true rfl, Nat.le_of_ble_eq_true rfl⟩) (zp_V (ci := 4) hP hD hK hn rfl xc_0) rfl rfl hl.1 rfl (lv_room (Nat.le_of_ble_eq_true rfl)) nD_X5_endOpenCall_31 ⟨Nat.zero_le _, Nat.zero_le _⟩) hD hS hA (fun σ6 H locs h hP hD hS => ?_)
  exact mw_v hx hb hr hlocks ⟨σ6, rfl, h⟩ hP hK hD hS nD_X5_endOpenCall_34
set_option maxHeartbeats 4000000 in
set_option maxRecDepth 100000 in
theorem c_X5_events (l : Launch) (D : va_G) (tc : Nat → ClassId) (a : Nat → Nat) (σ : zS) (post : Int32 → zS → Prop) (h : j_X5_events  σ post) : mWi l nM_X5_events nC_X5_events 1 (some .int) ({ frames := 0, cells := 0, slots := 0, locals := 0 } : Room) D (ztX tc) [.ref (a 0)] (zX a tc σ) (zQi (zX a tc) post) := by
  intro sz
  refine mt_W (by decide) (Nat.le_of_ble_eq_true rfl) ?_
  intro p e s m below meth c ls hx hb hml hr hown hlocks hin hw hn hP hK hD hS hA hl hsz
  subst hsz
  have hl : lv_has ls 1 [(0, .ref (a 0))] := hl
  unfold j_X5_events at h
  refine lv_aload_n hx hb nD_X5_events_0 rfl (lv_at hl 0 rfl) ?_
  refine va_get (D := D) (ci := 4) (v := .int (σ.1 5)) (C := nR_X5) (T := nT_X5) (N := 10) hx hb hw wu_X5 hown hK hP 0 xc_0 rfl 8 (by decide) (hw _ wm_237) (fun _ h9 => h9) rfl nD_X5_events_1 ?_
  exact mw_i hx hb hr hlocks ⟨σ, rfl, h⟩ hP hK hD hS nD_X5_events_4
set_option maxHeartbeats 4000000 in
set_option maxRecDepth 100000 in
theorem c_X5_begun (l : Launch) (D : va_G) (tc : Nat → ClassId) (a : Nat → Nat) (σ : zS) (post : Int32 → zS → Prop) (h : j_X5_begun  σ post) : mWi l nM_X5_begun nC_X5_begun 1 (some .int) ({ frames := 0, cells := 0, slots := 0, locals := 0 } : Room) D (ztX tc) [.ref (a 0)] (zX a tc σ) (zQi (zX a tc) post) := by
  intro sz
  refine mt_W (by decide) (Nat.le_of_ble_eq_true rfl) ?_
  intro p e s m below meth c ls hx hb hml hr hown hlocks hin hw hn hP hK hD hS hA hl hsz
  subst hsz
  have hl : lv_has ls 1 [(0, .ref (a 0))] := hl
  unfold j_X5_begun at h
  refine lv_aload_n hx hb nD_X5_begun_0 rfl (lv_at hl 0 rfl) ?_
  refine va_get (D := D) (ci := 4) (v := .int (σ.1 2)) (C := nR_X5) (T := nT_X5) (N := 10) hx hb hw wu_X5 hown hK hP 0 xc_0 rfl 5 (by decide) (hw _ wm_234) (fun _ h9 => h9) rfl nD_X5_begun_1 ?_
  exact mw_i hx hb hr hlocks ⟨σ, rfl, h⟩ hP hK hD hS nD_X5_begun_4
set_option maxHeartbeats 4000000 in
set_option maxRecDepth 100000 in
theorem c_X5_fits (l : Launch) (D : va_G) (tc : Nat → ClassId) (a : Nat → Nat) (σ : zS) (post : Int32 → zS → Prop) (h : j_X5_fits  σ post) : mWi l nM_X5_fits nC_X5_fits 1 (some .boolean) ({ frames := 0, cells := 0, slots := 0, locals := 0 } : Room) D (ztX tc) [.ref (a 0)] (zX a tc σ) (zQi (zX a tc) post) := by
  intro sz
  refine mt_W (by decide) (Nat.le_of_ble_eq_true rfl) ?_
  intro p e s m below meth c ls hx hb hml hr hown hlocks hin hw hn hP hK hD hS hA hl hsz
  subst hsz
  have hl : lv_has ls 1 [(0, .ref (a 0))] := hl
  unfold j_X5_fits at h
  refine lv_aload_n hx hb nD_X5_fits_0 rfl (lv_at hl 0 rfl) ?_
  refine va_get (D := D) (ci := 4) (v := .ref (a 5)) (C := nR_X5) (T := nT_X5) (N := 10) hx hb hw wu_X5 hown hK hP 0 xc_0 rfl 4 (by decide) (hw _ wm_233) (fun _ h9 => h9) rfl nD_X5_fits_1 ?_
  refine va_getN (D := D) (ci := 1) (v := .int (σ.1 7)) (C := nR_X1) (T := nT_X1) (N := 4) hx hb hw wu_X1 hown hK hP 5 xc_5 rfl 3 (by decide) (hn.use wn_90) (fun _ h9 => h9) rfl nD_X5_fits_4 ?_
  refine lv_if_le (tgt := 14) hx hb nD_X5_fits_7 (by decide) (fun hc => ?_) (fun hc => ?_)
  · have h := h.1 hc
    refine lv_iconst (v := (0 : Int32)) hx hb nD_X5_fits_14 (by decide) ?_
    exact mw_z hx hb hr hlocks rfl ⟨σ, rfl, h⟩ hP hK hD hS nD_X5_fits_15
  · have h := h.2 hc
    refine lv_iconst (v := (1 : Int32)) hx hb nD_X5_fits_10 (by decide) ?_
    refine lv_goto (tgt := 15) hx hb nD_X5_fits_11 (by decide) ?_
    exact mw_z hx hb hr hlocks rfl ⟨σ, rfl, h⟩ hP hK hD hS nD_X5_fits_15
set_option maxHeartbeats 4000000 in
set_option maxRecDepth 100000 in
theorem c_X5_brokenAt (l : Launch) (D : va_G) (tc : Nat → ClassId) (a : Nat → Nat) (σ : zS) (post : Int32 → zS → Prop) (h : j_X5_brokenAt  σ post) : mWi l nM_X5_brokenAt nC_X5_brokenAt 1 (some .int) ({ frames := 0, cells := 0, slots := 0, locals := 0 } : Room) D (ztX tc) [.ref (a 0)] (zX a tc σ) (zQi (zX a tc) post) := by
  intro sz
  refine mt_W (by decide) (Nat.le_of_ble_eq_true rfl) ?_
  intro p e s m below meth c ls hx hb hml hr hown hlocks hin hw hn hP hK hD hS hA hl hsz
  subst hsz
  have hl : lv_has ls 1 [(0, .ref (a 0))] := hl
  unfold j_X5_brokenAt at h
  refine lv_aload_n hx hb nD_X5_brokenAt_0 rfl (lv_at hl 0 rfl) ?_
  refine va_get (D := D) (ci := 4) (v := .int (σ.1 6)) (C := nR_X5) (T := nT_X5) (N := 10) hx hb hw wu_X5 hown hK hP 0 xc_0 rfl 9 (by decide) (hw _ wm_238) (fun _ h9 => h9) rfl nD_X5_brokenAt_1 ?_
  exact mw_i hx hb hr hlocks ⟨σ, rfl, h⟩ hP hK hD hS nD_X5_brokenAt_4
set_option maxHeartbeats 4000000 in
set_option maxRecDepth 100000 in
theorem c_X5_explanations (l : Launch) (D : va_G) (tc : Nat → ClassId) (a : Nat → Nat) (σ : zS) (post : Int64 → zS → Prop) (h : j_X5_explanations  σ post) : mWl l nM_X5_explanations nC_X5_explanations 1 ({ frames := 0, cells := 0, slots := 0, locals := 0 } : Room) D (ztX tc) [.ref (a 0)] (zX a tc σ) (zQl (zX a tc) post) := by
  intro sz
  refine mt_W (by decide) (Nat.le_of_ble_eq_true rfl) ?_
  intro p e s m below meth c ls hx hb hml hr hown hlocks hin hw hn hP hK hD hS hA hl hsz
  subst hsz
  have hl : lv_has ls 1 [(0, .ref (a 0))] := hl
  unfold j_X5_explanations at h
  refine lv_aload_n hx hb nD_X5_explanations_0 rfl (lv_at hl 0 rfl) ?_
  refine va_get (D := D) (ci := 4) (v := .ref (a 5)) (C := nR_X5) (T := nT_X5) (N := 10) hx hb hw wu_X5 hown hK hP 0 xc_0 rfl 4 (by decide) (hw _ wm_233) (fun _ h9 => h9) rfl nD_X5_explanations_1 ?_
  refine va_getN (D := D) (ci := 1) (v := .int (σ.1 7)) (C := nR_X1) (T := nT_X1) (N := 4) hx hb hw wu_X1 hown hK hP 5 xc_5 rfl 3 (by decide) (hn.use wn_90) (fun _ h9 => h9) rfl nD_X5_explanations_4 ?_
  refine lv_i2l (v := (σ.1 7).toInt64) hx hb nD_X5_explanations_7 rfl ?_
  exact mw_l hx hb hr hlocks ⟨σ, rfl, h⟩ hP hK hD hS nD_X5_explanations_8
set_option maxHeartbeats 4000000 in
set_option maxRecDepth 100000 in
theorem c_X5_outcomes (l : Launch) (D : va_G) (tc : Nat → ClassId) (a : Nat → Nat) (σ : zS) (post : Int32 → zS → Prop) (h : j_X5_outcomes  σ post) : mWi l nM_X5_outcomes nC_X5_outcomes 1 (some .int) ({ frames := 0, cells := 0, slots := 0, locals := 0 } : Room) D (ztX tc) [.ref (a 0)] (zX a tc σ) (zQi (zX a tc) post) := by
  intro sz
  refine mt_W (by decide) (Nat.le_of_ble_eq_true rfl) ?_
  intro p e s m below meth c ls hx hb hml hr hown hlocks hin hw hn hP hK hD hS hA hl hsz
  subst hsz
  have hl : lv_has ls 1 [(0, .ref (a 0))] := hl
  unfold j_X5_outcomes at h
  refine lv_aload_n hx hb nD_X5_outcomes_0 rfl (lv_at hl 0 rfl) ?_
  refine va_get (D := D) (ci := 4) (v := .ref (a 5)) (C := nR_X5) (T := nT_X5) (N := 10) hx hb hw wu_X5 hown hK hP 0 xc_0 rfl 4 (by decide) (hw _ wm_233) (fun _ h9 => h9) rfl nD_X5_outcomes_1 ?_
  refine va_getN (D := D) (ci := 1) (v := .ref (a 6)) (C := nR_X1) (T := nT_X1) (N := 4) hx hb hw wu_X1 hown hK hP 5 xc_5 rfl 0 (by decide) (hn.use wn_84) (fun _ h9 => h9) rfl nD_X5_outcomes_4 ?_
  refine va_getN (D := D) (ci := 2) (v := .int (σ.1 8)) (C := nR_X3) (T := nT_X3) (N := 3) hx hb hw wu_X3 hown hK hP 6 xc_6 rfl 2 (by decide) (hn.use wn_73) (fun _ h9 => h9) rfl nD_X5_outcomes_7 ?_
  exact mw_i hx hb hr hlocks ⟨σ, rfl, h⟩ hP hK hD hS nD_X5_outcomes_10
set_option maxHeartbeats 4000000 in
set_option maxRecDepth 100000 in
theorem c_X5_fewest (l : Launch) (D : va_G) (tc : Nat → ClassId) (a : Nat → Nat) (σ : zS) (post : Int32 → zS → Prop) (h : j_X5_fewest  σ post) : mWi l nM_X5_fewest nC_X5_fewest 1 (some .int) ({ frames := 2, cells := 0, slots := 0, locals := 44 } : Room) D (ztX tc) [.ref (a 0)] (zX a tc σ) (zQi (zX a tc) post) := by
  intro sz
  refine mt_W (by decide) (Nat.le_of_ble_eq_true rfl) ?_
  intro p e s m below meth c ls hx hb hml hr hown hlocks hin hw hn hP hK hD hS hA hl hsz
  subst hsz
  have hl : lv_has ls 1 [(0, .ref (a 0))] := hl
  unfold j_X5_fewest at h
  refine lv_aload_n hx hb nD_X5_fewest_0 rfl (lv_at hl 0 rfl) ?_
  refine va_get (D := D) (ci := 4) (v := .ref (a 5)) (C := nR_X5) (T := nT_X5) (N := 10) hx hb hw wu_X5 hown hK hP 0 xc_0 rfl 4 (by decide) (hw _ wm_233) (fun _ h9 => h9) rfl nD_X5_fewest_1 ?_
  refine va_getN (D := D) (ci := 1) (v := .ref (a 6)) (C := nR_X1) (T := nT_X1) (N := 4) hx hb hw wu_X1 hown hK hP 5 xc_5 rfl 0 (by decide) (hn.use wn_84) (fun _ h9 => h9) rfl nD_X5_fewest_4 ?_
  refine zC_i (va_runV (As := []) (rest := []) ⟨hx, hb, hml, hown, hw⟩ (c_X3_shortest l D tc a σ _ h _) (mcV 0 hw wm_350 wm_347 wm_348 wm_349 wm_28 rfl rfl nh_X3_shortest ⟨Nat.le_of_ble_eq_true rfl, Nat.le_of_ble_eq_true rfl⟩) (zp_V (ci := 2) hP hD hK hn rfl xc_6) rfl rfl hl.1 rfl (lv_room (Nat.le_of_ble_eq_true rfl)) nD_X5_fewest_7 ⟨Nat.zero_le _, Nat.zero_le _⟩) hD hS hA (fun r2 σ1 H locs h hP hD hS => ?_)
  exact mw_i hx hb hr hlocks ⟨σ1, rfl, h⟩ hP hK hD hS nD_X5_fewest_10
set_option maxHeartbeats 4000000 in
set_option maxRecDepth 100000 in
theorem c_X5_most (l : Launch) (D : va_G) (tc : Nat → ClassId) (a : Nat → Nat) (σ : zS) (post : Int32 → zS → Prop) (h : j_X5_most  σ post) : mWi l nM_X5_most nC_X5_most 1 (some .int) ({ frames := 2, cells := 0, slots := 0, locals := 43 } : Room) D (ztX tc) [.ref (a 0)] (zX a tc σ) (zQi (zX a tc) post) := by
  intro sz
  refine mt_W (by decide) (Nat.le_of_ble_eq_true rfl) ?_
  intro p e s m below meth c ls hx hb hml hr hown hlocks hin hw hn hP hK hD hS hA hl hsz
  subst hsz
  have hl : lv_has ls 1 [(0, .ref (a 0))] := hl
  unfold j_X5_most at h
  refine lv_aload_n hx hb nD_X5_most_0 rfl (lv_at hl 0 rfl) ?_
  refine va_get (D := D) (ci := 4) (v := .ref (a 5)) (C := nR_X5) (T := nT_X5) (N := 10) hx hb hw wu_X5 hown hK hP 0 xc_0 rfl 4 (by decide) (hw _ wm_233) (fun _ h9 => h9) rfl nD_X5_most_1 ?_
  refine va_getN (D := D) (ci := 1) (v := .ref (a 6)) (C := nR_X1) (T := nT_X1) (N := 4) hx hb hw wu_X1 hown hK hP 5 xc_5 rfl 0 (by decide) (hn.use wn_84) (fun _ h9 => h9) rfl nD_X5_most_4 ?_
  refine zC_i (va_runV (As := []) (rest := []) ⟨hx, hb, hml, hown, hw⟩ (c_X3_longest l D tc a σ _ h _) (mcV 0 hw wm_360 wm_357 wm_358 wm_359 wm_28 rfl rfl nh_X3_longest ⟨Nat.le_of_ble_eq_true rfl, Nat.le_of_ble_eq_true rfl⟩) (zp_V (ci := 2) hP hD hK hn rfl xc_6) rfl rfl hl.1 rfl (lv_room (Nat.le_of_ble_eq_true rfl)) nD_X5_most_7 ⟨Nat.zero_le _, Nat.zero_le _⟩) hD hS hA (fun r2 σ1 H locs h hP hD hS => ?_)
  exact mw_i hx hb hr hlocks ⟨σ1, rfl, h⟩ hP hK hD hS nD_X5_most_10
set_option maxHeartbeats 4000000 in
set_option maxRecDepth 100000 in
theorem c_X5_mayHold (l : Launch) (D : va_G) (tc : Nat → ClassId) (a : Nat → Nat) (x1 : Int32) (x2 : Int32) (σ : zS) (post : Int32 → zS → Prop) (h : j_X5_mayHold x1 x2 σ post) : mWi l nM_X5_mayHold nC_X5_mayHold 3 (some .boolean) ({ frames := 2, cells := 0, slots := 0, locals := 45 } : Room) D (ztX tc) [.ref (a 0), .int x1, .int x2] (zX a tc σ) (zQi (zX a tc) post) := by
  intro sz
  refine mt_W (by decide) (Nat.le_of_ble_eq_true rfl) ?_
  intro p e s m below meth c ls hx hb hml hr hown hlocks hin hw hn hP hK hD hS hA hl hsz
  subst hsz
  have hl : lv_has ls 3 [(0, .ref (a 0)), (1, .int x1), (2, .int x2)] := hl
  unfold j_X5_mayHold at h
  refine lv_aload_n hx hb nD_X5_mayHold_0 rfl (lv_at hl 0 rfl) ?_
  refine va_get (D := D) (ci := 4) (v := .ref (a 5)) (C := nR_X5) (T := nT_X5) (N := 10) hx hb hw wu_X5 hown hK hP 0 xc_0 rfl 4 (by decide) (hw _ wm_233) (fun _ h9 => h9) rfl nD_X5_mayHold_1 ?_
  refine va_getN (D := D) (ci := 1) (v := .ref (a 6)) (C := nR_X1) (T := nT_X1) (N := 4) hx hb hw wu_X1 hown hK hP 5 xc_5 rfl 0 (by decide) (hn.use wn_84) (fun _ h9 => h9) rfl nD_X5_mayHold_4 ?_
  refine lv_iload_n hx hb nD_X5_mayHold_7 rfl (lv_at hl 1 rfl) ?_
  refine lv_iload_n hx hb nD_X5_mayHold_8 rfl (lv_at hl 2 rfl) ?_
  refine zC_i (va_runV (As := [.int x1, .int x2]) (rest := []) ⟨hx, hb, hml, hown, hw⟩ (c_X3_anyHas l D tc a x1 x2 σ _ h _) (mcV 2 hw wm_369 wm_366 wm_367 wm_368 wm_28 rfl rfl nh_X3_anyHas ⟨Nat.le_of_ble_eq_true rfl, Nat.le_of_ble_eq_true rfl⟩) (zp_V (ci := 2) hP hD hK hn rfl xc_6) rfl rfl hl.1 rfl (lv_room (Nat.le_of_ble_eq_true rfl)) nD_X5_mayHold_9 ⟨Nat.zero_le _, Nat.zero_le _⟩) hD hS hA (fun r2 σ1 H locs h hP hD hS => ?_)
  exact mw_z hx hb hr hlocks h.1 ⟨σ1, rfl, h.2⟩ hP hK hD hS nD_X5_mayHold_12
set_option maxHeartbeats 4000000 in
set_option maxRecDepth 100000 in
theorem c_X5_certain (l : Launch) (D : va_G) (tc : Nat → ClassId) (a : Nat → Nat) (x1 : Int32) (σ : zS) (post : Int32 → zS → Prop) (h : j_X5_certain x1 σ post) : mWi l nM_X5_certain nC_X5_certain 2 (some .boolean) ({ frames := 2, cells := 0, slots := 0, locals := 41 } : Room) D (ztX tc) [.ref (a 0), .int x1] (zX a tc σ) (zQi (zX a tc) post) := by
  intro sz
  refine mt_W (by decide) (Nat.le_of_ble_eq_true rfl) ?_
  intro p e s m below meth c ls hx hb hml hr hown hlocks hin hw hn hP hK hD hS hA hl hsz
  subst hsz
  have hl : lv_has ls 2 [(0, .ref (a 0)), (1, .int x1)] := hl
  unfold j_X5_certain at h
  refine lv_aload_n hx hb nD_X5_certain_0 rfl (lv_at hl 0 rfl) ?_
  refine zC_i (va_runV (As := []) (rest := []) ⟨hx, hb, hml, hown, hw⟩ (c_X5_fits l D tc a σ _ h _) (mcV 0 hw wm_228 wm_225 wm_226 wm_227 wm_25 rfl rfl nh_X5_fits ⟨Nat.le_of_ble_eq_true rfl, Nat.le_of_ble_eq_true rfl⟩) (zp_V (ci := 4) hP hD hK hn rfl xc_0) rfl rfl hl.1 rfl (lv_room (Nat.le_of_ble_eq_true rfl)) nD_X5_certain_1 ⟨Nat.zero_le _, Nat.zero_le _⟩) hD hS hA (fun r2 σ1 H locs h hP hD hS => ?_)
  refine lv_if_eq (tgt := 38) hx hb nD_X5_certain_4 (by decide) (fun hc => ?_) (fun hc => ?_)
  · have h := h.1 hc
    refine lv_iconst (v := (0 : Int32)) hx hb nD_X5_certain_38 (by decide) ?_
    exact mw_z hx hb hr hlocks rfl ⟨σ1, rfl, h⟩ hP hK hD hS nD_X5_certain_39
  · have h := h.2 hc
    refine lv_aload_n hx hb nD_X5_certain_7 rfl (lv_at hl 0 rfl) ?_
    refine lv_iload_n hx hb nD_X5_certain_8 rfl (lv_at hl 1 rfl) ?_
    refine zC_i (va_runV (As := [.int x1]) (rest := []) ⟨hx, hb, hml, hown, hw⟩ (c_X5_hasOpenCall l D tc a x1 σ1 _ h _) (mcV 1 hw wm_305 wm_302 wm_304 wm_10 wm_25 rfl rfl nh_X5_hasOpenCall ⟨Nat.le_of_ble_eq_true rfl, Nat.le_of_ble_eq_true rfl⟩) (zp_V (ci := 4) hP hD hK hn rfl xc_0) rfl rfl hl.1 rfl (lv_room (Nat.le_of_ble_eq_true rfl)) nD_X5_certain_9 ⟨Nat.zero_le _, Nat.zero_le _⟩) hD hS hA (fun r4 σ3 H locs h hP hD hS => ?_)
    refine lv_if_eq (tgt := 38) hx hb nD_X5_certain_12 (by decide) (fun hc => ?_) (fun hc => ?_)
    · have h := h.1 hc
      refine lv_iconst (v := (0 : Int32)) hx hb nD_X5_certain_38 (by decide) ?_
      exact mw_z hx hb hr hlocks rfl ⟨σ3, rfl, h⟩ hP hK hD hS nD_X5_certain_39
    · have h := h.2 hc
      refine lv_aload_n hx hb nD_X5_certain_15 rfl (lv_at hl 0 rfl) ?_
      refine va_get (D := D) (ci := 4) (v := .ref (a 5)) (C := nR_X5) (T := nT_X5) (N := 10) hx hb hw wu_X5 hown hK hP 0 xc_0 rfl 4 (by decide) (hw _ wm_233) (fun _ h9 => h9) rfl nD_X5_certain_16 ?_
      refine va_getN (D := D) (ci := 1) (v := .ref (a 9)) (C := nR_X1) (T := nT_X1) (N := 4) hx hb hw wu_X1 hown hK hP 5 xc_5 rfl 1 (by decide) (hn.use wn_86) (fun _ h9 => h9) rfl nD_X5_certain_19 ?_
      refine lv_iload_n hx hb nD_X5_certain_22 rfl (lv_at hl 1 rfl) ?_
      obtain ⟨hi5, h⟩ := h
      refine va_iald (D := D) hx hb hK hP 9 5 xc_9 rfl hi5 nD_X5_certain_23 ?_
      refine lv_aload_n hx hb nD_X5_certain_24 rfl (lv_at hl 0 rfl) ?_
      refine va_get (D := D) (ci := 4) (v := .ref (a 5)) (C := nR_X5) (T := nT_X5) (N := 10) hx hb hw wu_X5 hown hK hP 0 xc_0 rfl 4 (by decide) (hw _ wm_233) (fun _ h9 => h9) rfl nD_X5_certain_25 ?_
      refine va_getN (D := D) (ci := 1) (v := .int (σ3.1 7)) (C := nR_X1) (T := nT_X1) (N := 4) hx hb hw wu_X1 hown hK hP 5 xc_5 rfl 3 (by decide) (hn.use wn_90) (fun _ h9 => h9) rfl nD_X5_certain_28 ?_
      refine lv_icmp_ne (tgt := 38) hx hb nD_X5_certain_31 (by decide) (fun hc => ?_) (fun hc => ?_)
      · have h := h.2 hc
        refine lv_iconst (v := (0 : Int32)) hx hb nD_X5_certain_38 (by decide) ?_
        exact mw_z hx hb hr hlocks rfl ⟨σ3, rfl, h⟩ hP hK hD hS nD_X5_certain_39
      · have h := h.1 hc
        refine lv_iconst (v := (1 : Int32)) hx hb nD_X5_certain_34 (by decide) ?_
        refine lv_goto (tgt := 39) hx hb nD_X5_certain_35 (by decide) ?_
        exact mw_z hx hb hr hlocks rfl ⟨σ3, rfl, h⟩ hP hK hD hS nD_X5_certain_39
set_option maxHeartbeats 4000000 in
set_option maxRecDepth 100000 in
theorem c_X5_answers (l : Launch) (D : va_G) (tc : Nat → ClassId) (a : Nat → Nat) (x1 : Int32) (σ : zS) (post : Int32 → zS → Prop) (h : j_X5_answers x1 σ post) : mWi l nM_X5_answers nC_X5_answers 2 (some .int) ({ frames := 2, cells := 0, slots := 0, locals := 41 } : Room) D (ztX tc) [.ref (a 0), .int x1] (zX a tc σ) (zQi (zX a tc) post) := by
  intro sz
  refine mt_W (by decide) (Nat.le_of_ble_eq_true rfl) ?_
  intro p e s m below meth c ls hx hb hml hr hown hlocks hin hw hn hP hK hD hS hA hl hsz
  subst hsz
  have hl : lv_has ls 2 [(0, .ref (a 0)), (1, .int x1)] := hl
  unfold j_X5_answers at h
  refine lv_aload_n hx hb nD_X5_answers_0 rfl (lv_at hl 0 rfl) ?_
  refine lv_iload_n hx hb nD_X5_answers_1 rfl (lv_at hl 1 rfl) ?_
  refine zC_i (va_runV (As := [.int x1]) (rest := []) ⟨hx, hb, hml, hown, hw⟩ (c_X5_hasOpenCall l D tc a x1 σ _ h _) (mcV 1 hw wm_305 wm_302 wm_304 wm_10 wm_25 rfl rfl nh_X5_hasOpenCall ⟨Nat.le_of_ble_eq_true rfl, Nat.le_of_ble_eq_true rfl⟩) (zp_V (ci := 4) hP hD hK hn rfl xc_0) rfl rfl hl.1 rfl (lv_room (Nat.le_of_ble_eq_true rfl)) nD_X5_answers_2 ⟨Nat.zero_le _, Nat.zero_le _⟩) hD hS hA (fun r2 σ1 H locs h hP hD hS => ?_)
  refine lv_if_eq (tgt := 23) hx hb nD_X5_answers_5 (by decide) (fun hc => ?_) (fun hc => ?_)
  · have h := h.1 hc
    refine lv_iconst (v := (0 : Int32)) hx hb nD_X5_answers_23 (by decide) ?_
    exact mw_i hx hb hr hlocks ⟨σ1, rfl, h⟩ hP hK hD hS nD_X5_answers_24
  · have h := h.2 hc
    refine lv_aload_n hx hb nD_X5_answers_8 rfl (lv_at hl 0 rfl) ?_
    refine va_get (D := D) (ci := 4) (v := .ref (a 5)) (C := nR_X5) (T := nT_X5) (N := 10) hx hb hw wu_X5 hown hK hP 0 xc_0 rfl 4 (by decide) (hw _ wm_233) (fun _ h9 => h9) rfl nD_X5_answers_9 ?_
    refine va_getN (D := D) (ci := 1) (v := .ref (a 10)) (C := nR_X1) (T := nT_X1) (N := 4) hx hb hw wu_X1 hown hK hP 5 xc_5 rfl 2 (by decide) (hn.use wn_88) (fun _ h9 => h9) rfl nD_X5_answers_12 ?_
    refine lv_iload_n hx hb nD_X5_answers_15 rfl (lv_at hl 1 rfl) ?_
    obtain ⟨hi3, h⟩ := h
    refine va_iald (D := D) hx hb hK hP 10 6 xc_10 rfl hi3 nD_X5_answers_16 ?_
    refine vp_callSi (W.runS (As := [.int (σ1.2.1 3 x1.toNatClampNeg)]) (rest := []) ⟨hx, hb, hml, hown, hw⟩ (c_JI_bitCount l (σ1.2.1 3 x1.toNatClampNeg) _ h) (mcS 1 hw wm_381 wm_379 wm_380 wm_34 rfl rfl nh_JI_bitCount ⟨Nat.le_of_ble_eq_true rfl, Nat.le_of_ble_eq_true rfl⟩) mp_S rfl rfl hl.1 rfl (lv_room (Nat.le_of_ble_eq_true rfl)) nD_X5_answers_17 ⟨Nat.zero_le _, Nat.zero_le _⟩) (fun r4 h => ?_)
    refine lv_goto (tgt := 24) hx hb nD_X5_answers_20 (by decide) ?_
    exact mw_i hx hb hr hlocks ⟨σ1, rfl, h⟩ hP hK hD hS nD_X5_answers_24
set_option maxHeartbeats 4000000 in
set_option maxRecDepth 100000 in
theorem c_X5_mayStandNext (l : Launch) (D : va_G) (tc : Nat → ClassId) (a : Nat → Nat) (x1 : Int32) (x2 : Int32) (σ : zS) (post : Int32 → zS → Prop) (h : j_X5_mayStandNext x1 x2 σ post) : mWi l nM_X5_mayStandNext nC_X5_mayStandNext 3 (some .boolean) ({ frames := 1, cells := 0, slots := 0, locals := 21 } : Room) D (ztX tc) [.ref (a 0), .int x1, .int x2] (zX a tc σ) (zQi (zX a tc) post) := by
  intro sz
  refine mt_W (by decide) (Nat.le_of_ble_eq_true rfl) ?_
  intro p e s m below meth c ls hx hb hml hr hown hlocks hin hw hn hP hK hD hS hA hl hsz
  subst hsz
  have hl : lv_has ls 3 [(0, .ref (a 0)), (1, .int x1), (2, .int x2)] := hl
  unfold j_X5_mayStandNext at h
  refine lv_iload_n hx hb nD_X5_mayStandNext_0 rfl (lv_at hl 2 rfl) ?_
  refine lv_aload_n hx hb nD_X5_mayStandNext_1 rfl (lv_at hl 0 rfl) ?_
  refine va_get (D := D) (ci := 4) (v := .int (σ.1 4)) (C := nR_X5) (T := nT_X5) (N := 10) hx hb hw wu_X5 hown hK hP 0 xc_0 rfl 7 (by decide) (hw _ wm_236) (fun _ h9 => h9) rfl nD_X5_mayStandNext_2 ?_
  refine lv_ior hx hb nD_X5_mayStandNext_5 ?_
  refine lv_iload_n hx hb nD_X5_mayStandNext_6 rfl (lv_at hl 1 rfl) ?_
  refine vp_callSi (W.runS (As := [.int (x2 ||| (σ.1 4)), .int x1]) (rest := []) ⟨hx, hb, hml, hown, hw⟩ (c_X5_isIn l (x2 ||| (σ.1 4)) x1 _ h) (mcS 2 hw wm_176 wm_174 wm_175 wm_25 rfl rfl nh_X5_isIn ⟨Nat.le_of_ble_eq_true rfl, Nat.le_of_ble_eq_true rfl⟩) mp_S rfl rfl hl.1 rfl (lv_room (Nat.le_of_ble_eq_true rfl)) nD_X5_mayStandNext_7 ⟨Nat.zero_le _, Nat.zero_le _⟩) (fun r1 h => ?_)
  refine lv_if_ne (tgt := 33) hx hb nD_X5_mayStandNext_10 (by decide) (fun hc => ?_) (fun hc => ?_)
  · have h := h.2 hc
    refine lv_iconst (v := (0 : Int32)) hx hb nD_X5_mayStandNext_33 (by decide) ?_
    exact mw_z hx hb hr hlocks rfl ⟨σ, rfl, h⟩ hP hK hD hS nD_X5_mayStandNext_34
  · have h := h.1 hc
    refine lv_aload_n hx hb nD_X5_mayStandNext_13 rfl (lv_at hl 0 rfl) ?_
    refine va_get (D := D) (ci := 4) (v := .ref (a 2)) (C := nR_X5) (T := nT_X5) (N := 10) hx hb hw wu_X5 hown hK hP 0 xc_0 rfl 1 (by decide) (hw _ wm_230) (fun _ h9 => h9) rfl nD_X5_mayStandNext_14 ?_
    refine lv_iload_n hx hb nD_X5_mayStandNext_17 rfl (lv_at hl 1 rfl) ?_
    obtain ⟨hi2, h⟩ := h
    refine va_aldq (D := D) hx hb hK hP 2 0 xc_2 rfl hi2 nD_X5_mayStandNext_18 ?_
    refine W.eq (g2 := F0 m 19 ls [.ref (a (11 + x1.toNatClampNeg))]) rfl ?_
    refine va_getN (D := D) (ci := 0) (v := .int (σ.2.1 8 x1.toNatClampNeg)) (C := nR_X0) (T := nT_X0) (N := 5) hx hb hw wu_X0 hown hK hP (11 + x1.toNatClampNeg) (xcC (zin hi2)) rfl 3 (by decide) (hn.use wn_113) (fun _ h9 => h9) rfl nD_X5_mayStandNext_19 ?_
    refine lv_iload_n hx hb nD_X5_mayStandNext_22 rfl (lv_at hl 2 rfl) ?_
    refine lv_iconst (v := (-1 : Int32)) hx hb nD_X5_mayStandNext_23 (by decide) ?_
    refine lv_ixor hx hb nD_X5_mayStandNext_24 ?_
    refine lv_iand hx hb nD_X5_mayStandNext_25 ?_
    refine lv_if_ne (tgt := 33) hx hb nD_X5_mayStandNext_26 (by decide) (fun hc => ?_) (fun hc => ?_)
    · have h := h.2 hc
      refine lv_iconst (v := (0 : Int32)) hx hb nD_X5_mayStandNext_33 (by decide) ?_
      exact mw_z hx hb hr hlocks rfl ⟨σ, rfl, h⟩ hP hK hD hS nD_X5_mayStandNext_34
    · have h := h.1 hc
      refine lv_iconst (v := (1 : Int32)) hx hb nD_X5_mayStandNext_29 (by decide) ?_
      refine lv_goto (tgt := 34) hx hb nD_X5_mayStandNext_30 (by decide) ?_
      exact mw_z hx hb hr hlocks rfl ⟨σ, rfl, h⟩ hP hK hD hS nD_X5_mayStandNext_34
set_option maxHeartbeats 4000000 in
set_option maxRecDepth 100000 in
theorem wl_X5_noteExplanation_11 {l : Launch} {p : Program} {e : Env} {s : State} {m : MethodId} {args : Array Value} {below : List Frame} {meth : Method} {c : Code} {D : va_G} {tc : Nat → ClassId} {a : Nat → Nat} {w0 : va_W} (x1 : Int32) (post : zS → Prop) (K : Int32 → zS → Prop) (hx : p.tables.exec = Jvm.exec) (hb : c.code = nC_X5_noteExplanation) (hml : c.maxLocals = 6) (hr : meth.sig.returnType = none) (hown : s.vm.findClass nM_X5_noteExplanation.cls = some m.cls) (hlocks : meth.locks = false) (hw : ∀ w ∈ wA, w.before args s = true) (hn : mN s) (hK : va_K D nCl (ztX tc) s) (hA : ∀ q, s.heap.size ≤ q → va_A w0 s.heap.size q)
    (hk : ∀ (y4 : Int32) (σ : zS) (H : Heap) (locs : List Loc) (ls : Array Slot), K y4 σ → va_P D nCl (zX a tc σ) H → va_D (va_A w0 s.heap.size) (zX a tc σ) → va_S (va_A w0 s.heap.size) s.heap H locs → lv_has ls 6 [(0, .ref (a 0)), (1, .int x1), (4, .int y4)] → W p l e ({ frames := 2, cells := 0, slots := 0, locals := 47 } : Room) s m args below meth c H locs 0 0 (MQ below (va_Qv (zQv (zX a tc) post) (mQW D (ztX tc) w0 s.heap.size) (va_A w0 s.heap.size)) args s 0 0 (va_A w0 s.heap.size)) (F0 m 63 ls [])) : ∀ q : Int32 × zS, zLP (b_X5_noteExplanation_11 x1 post K) q → ∀ (H : Heap) (locs : List Loc) (ls : Array Slot), va_P D nCl (zX a tc q.2) H → va_D (va_A w0 s.heap.size) (zX a tc q.2) → va_S (va_A w0 s.heap.size) s.heap H locs → lv_has ls 6 [(0, .ref (a 0)), (1, .int x1), (4, .int q.1)] → W p l e ({ frames := 2, cells := 0, slots := 0, locals := 47 } : Room) s m args below meth c H locs 0 0 (MQ below (va_Qv (zQv (zX a tc) post) (mQW D (ztX tc) w0 s.heap.size) (va_A w0 s.heap.size)) args s 0 0 (va_A w0 s.heap.size)) (F0 m 11 ls []) := by
  refine zLP_walk ?_
  rintro R ⟨y4, σ⟩ hR h H locs ls hP hD hS hl
  dsimp only at hP hD hl
  dsimp only [b_X5_noteExplanation_11] at h
  refine lv_iload hx hb nD_X5_noteExplanation_11 (lv_at hl 2 rfl) ?_
  refine lv_iconst (v := (3 : Int32)) hx hb nD_X5_noteExplanation_13 (by decide) ?_
  refine lv_icmp_ge (tgt := 63) hx hb nD_X5_noteExplanation_14 (by decide) (fun hc => ?_) (fun hc => ?_)
  · have h := h.1 hc
    exact hk y4 σ _ _ ls h hP hD hS hl
  · have h := h.2 hc
    refine lv_aload_n hx hb nD_X5_noteExplanation_17 rfl (lv_at hl 0 rfl) ?_
    refine va_get (D := D) (ci := 4) (v := .ref (a 3)) (C := nR_X5) (T := nT_X5) (N := 10) hx hb hw wu_X5 hown hK hP 0 xc_0 rfl 2 (by decide) (hw _ wm_231) (fun _ h9 => h9) rfl nD_X5_noteExplanation_18 ?_
    refine lv_iload hx hb nD_X5_noteExplanation_21 (lv_at hl 2 rfl) ?_
    obtain ⟨hi2, h⟩ := h
    refine va_iald (D := D) hx hb hK hP 3 1 xc_3 rfl hi2 nD_X5_noteExplanation_23 ?_
    refine lv_topi (fun v3 e_v3 => ?_)
    have h := h v3 e_v3
    clear e_v3
    refine lv_istore hx hb nD_X5_noteExplanation_24 hl (by decide) rfl (fun ls hl => ?_)
    have hl : lv_has ls 6 [(5, .int v3), (0, .ref (a 0)), (1, .int x1), (4, .int y4)] := hl
    refine lv_iload hx hb nD_X5_noteExplanation_26 (lv_at hl 0 rfl) ?_
    refine lv_iconst (v := (-1 : Int32)) hx hb nD_X5_noteExplanation_28 (by decide) ?_
    refine lv_icmp_eq (tgt := 57) hx hb nD_X5_noteExplanation_29 (by decide) (fun hc => ?_) (fun hc => ?_)
    · have h := h.1 hc
      refine lv_iinc (k := 3) (v := y4 + 1) hx hb nD_X5_noteExplanation_57 hl rfl rfl (by decide) rfl (fun ls hl => ?_)
      have hl : lv_has ls 6 [(4, .int (y4 + 1)), (5, .int v3), (0, .ref (a 0)), (1, .int x1)] := hl
      refine lv_goto (tgt := 11) hx hb nD_X5_noteExplanation_60 (by decide) ?_
      have hl := lv_sub (l' := [(0, .ref (a 0)), (1, .int x1), (4, .int (y4 + 1))]) hl [2, 3, 0] rfl
      exact hR _ h _ _ ls hP hD hS hl
    · have h := h.2 hc
      refine lv_iload_n hx hb nD_X5_noteExplanation_32 rfl (lv_at hl 2 rfl) ?_
      refine lv_iload hx hb nD_X5_noteExplanation_33 (lv_at hl 0 rfl) ?_
      refine vp_callSi (W.runS (As := [.int x1, .int v3]) (rest := []) ⟨hx, hb, hml, hown, hw⟩ (c_X5_isIn l x1 v3 _ h) (mcS 2 hw wm_176 wm_174 wm_175 wm_25 rfl rfl nh_X5_isIn ⟨Nat.le_of_ble_eq_true rfl, Nat.le_of_ble_eq_true rfl⟩) mp_S rfl rfl hl.1 rfl (lv_room (Nat.le_of_ble_eq_true rfl)) nD_X5_noteExplanation_35 ⟨Nat.zero_le _, Nat.zero_le _⟩) (fun r4 h => ?_)
      refine lv_if_eq (tgt := 57) hx hb nD_X5_noteExplanation_38 (by decide) (fun hc => ?_) (fun hc => ?_)
      · have h := h.1 hc
        refine lv_iinc (k := 3) (v := y4 + 1) hx hb nD_X5_noteExplanation_57 hl rfl rfl (by decide) rfl (fun ls hl => ?_)
        have hl : lv_has ls 6 [(4, .int (y4 + 1)), (5, .int v3), (0, .ref (a 0)), (1, .int x1)] := hl
        refine lv_goto (tgt := 11) hx hb nD_X5_noteExplanation_60 (by decide) ?_
        have hl := lv_sub (l' := [(0, .ref (a 0)), (1, .int x1), (4, .int (y4 + 1))]) hl [2, 3, 0] rfl
        exact hR _ h _ _ ls hP hD hS hl
      · have h := h.2 hc
        refine lv_aload_n hx hb nD_X5_noteExplanation_41 rfl (lv_at hl 1 rfl) ?_
        refine va_get (D := D) (ci := 4) (v := .ref (a 5)) (C := nR_X5) (T := nT_X5) (N := 10) hx hb hw wu_X5 hown hK hP 0 xc_0 rfl 4 (by decide) (hw _ wm_233) (fun _ h9 => h9) rfl nD_X5_noteExplanation_42 ?_
        refine lv_iload hx hb nD_X5_noteExplanation_45 (lv_at hl 3 rfl) ?_
        refine lv_aload_n hx hb nD_X5_noteExplanation_47 rfl (lv_at hl 1 rfl) ?_
        refine va_get (D := D) (ci := 4) (v := .ref (a 4)) (C := nR_X5) (T := nT_X5) (N := 10) hx hb hw wu_X5 hown hK hP 0 xc_0 rfl 3 (by decide) (hw _ wm_232) (fun _ h9 => h9) rfl nD_X5_noteExplanation_48 ?_
        refine lv_iload hx hb nD_X5_noteExplanation_51 (lv_at hl 0 rfl) ?_
        obtain ⟨hi5, h⟩ := h
        refine va_iald (D := D) hx hb hK hP 4 2 xc_4 rfl hi5 nD_X5_noteExplanation_53 ?_
        refine zC_v (va_runV (As := [.int y4, .int (σ.2.1 1 v3.toNatClampNeg)]) (rest := []) ⟨hx, hb, hml, hown, hw⟩ (c_X1_addReply l D tc a y4 (σ.2.1 1 v3.toNatClampNeg) σ _ h _) (mcV 2 hw wm_180 wm_177 wm_178 wm_179 wm_27 rfl rfl nh_X1_addReply ⟨Nat.le_of_ble_eq_true rfl, Nat.le_of_ble_eq_true rfl⟩) (zp_V (ci := 1) hP hD hK hn rfl xc_5) rfl rfl hl.1 rfl (lv_room (Nat.le_of_ble_eq_true rfl)) nD_X5_noteExplanation_54 ⟨Nat.zero_le _, Nat.zero_le _⟩) hD hS hA (fun σ6 H locs h hP hD hS => ?_)
        refine lv_iinc (k := 3) (v := y4 + 1) hx hb nD_X5_noteExplanation_57 hl rfl rfl (by decide) rfl (fun ls hl => ?_)
        have hl : lv_has ls 6 [(4, .int (y4 + 1)), (5, .int v3), (0, .ref (a 0)), (1, .int x1)] := hl
        refine lv_goto (tgt := 11) hx hb nD_X5_noteExplanation_60 (by decide) ?_
        have hl := lv_sub (l' := [(0, .ref (a 0)), (1, .int x1), (4, .int (y4 + 1))]) hl [2, 3, 0] rfl
        exact hR _ h _ _ ls hP hD hS hl
set_option maxHeartbeats 4000000 in
set_option maxRecDepth 100000 in
theorem c_X5_noteExplanation (l : Launch) (D : va_G) (tc : Nat → ClassId) (a : Nat → Nat) (x1 : Int32) (x2 : Int64) (σ : zS) (post : zS → Prop) (h : j_X5_noteExplanation x1 x2 σ post) : mWv l nM_X5_noteExplanation nC_X5_noteExplanation 6 ({ frames := 2, cells := 0, slots := 0, locals := 47 } : Room) D (ztX tc) [.ref (a 0), .int x1, .long x2] (zX a tc σ) (zQv (zX a tc) post) := by
  intro sz
  refine mt_W (by decide) (Nat.le_of_ble_eq_true rfl) ?_
  intro p e s m below meth c ls hx hb hml hr hown hlocks hin hw hn hP hK hD hS hA hl hsz
  subst hsz
  have hl : lv_has ls 6 [(0, .ref (a 0)), (1, .int x1), (2, .long x2)] := hl
  unfold j_X5_noteExplanation at h
  refine lv_aload_n hx hb nD_X5_noteExplanation_0 rfl (lv_at hl 0 rfl) ?_
  refine va_get (D := D) (ci := 4) (v := .ref (a 5)) (C := nR_X5) (T := nT_X5) (N := 10) hx hb hw wu_X5 hown hK hP 0 xc_0 rfl 4 (by decide) (hw _ wm_233) (fun _ h9 => h9) rfl nD_X5_noteExplanation_1 ?_
  refine lv_lload_n hx hb nD_X5_noteExplanation_4 rfl (lv_at hl 2 rfl) ?_
  refine zC_v (va_runV (As := [.long x2]) (rest := []) ⟨hx, hb, hml, hown, hw⟩ (c_X1_addExplanation l D tc a x2 σ _ h _) (mcV 1 hw wm_168 wm_165 wm_166 wm_167 wm_27 rfl rfl nh_X1_addExplanation ⟨Nat.le_of_ble_eq_true rfl, Nat.le_of_ble_eq_true rfl⟩) (zp_V (ci := 1) hP hD hK hn rfl xc_5) rfl rfl hl.1 rfl (lv_room (Nat.le_of_ble_eq_true rfl)) nD_X5_noteExplanation_5 ⟨Nat.zero_le _, Nat.zero_le _⟩) hD hS hA (fun σ1 H locs h hP hD hS => ?_)
  refine lv_iconst (v := (0 : Int32)) hx hb nD_X5_noteExplanation_8 (by decide) ?_
  refine lv_istore hx hb nD_X5_noteExplanation_9 hl (by decide) rfl (fun ls hl => ?_)
  have hl : lv_has ls 6 [(4, .int (0 : Int32)), (0, .ref (a 0)), (1, .int x1), (2, .long x2)] := hl
  have hl := lv_sub (l' := [(0, .ref (a 0)), (1, .int x1), (4, .int (0 : Int32))]) hl [1, 2, 0] rfl
  refine wl_X5_noteExplanation_11 (l := l) x1 post _ hx hb hml hr hown hlocks hw hn hK hA (fun v7 σ8 H locs ls h hP hD hS hl => ?_) ((0 : Int32), σ1) h _ _ ls hP hD hS hl
  exact mw_v hx hb hr hlocks ⟨σ8, rfl, h⟩ hP hK hD hS nD_X5_noteExplanation_63
end
section
set_option maxHeartbeats 4000000 in
set_option maxRecDepth 100000 in
theorem cF_X5_carryOut (l : Launch) {rf rl : Nat} (D : va_G) (tc : Nat → ClassId) (a : Nat → Nat) (FL : Int32 → Int64 → Int32 → zS → (zS → Prop) → Prop) {ff fl : Nat} (hFL : ∀ (x0 : Int32) (x1 : Int64) (x2 : Int32) (σ : zS) (post : zS → Prop), FL x0 x1 x2 σ post → mWv l nM_X5_lengthenList nC_X5_lengthenList 6 ({ frames := ff, cells := 0, slots := 0, locals := fl } : Room) D (ztX tc) [.ref (a 0), .int x0, .long x1, .int x2] (zX a tc σ) (zQv (zX a tc) post)) (hRFL : ff + 1 ≤ rf ∧ 8 + (6 + 11) + fl ≤ rl) (hRF : 3 ≤ rf) (hRL : 67 ≤ rl) (x1 : Int32) (x2 : Int32) (x3 : Int64) (x5 : Int32) (σ : zS) (post : zS → Prop) (h : jF_X5_carryOut FL x1 x2 x3 x5 σ post) : mWv l nM_X5_carryOut nC_X5_carryOut 7 ({ frames := rf, cells := 0, slots := 0, locals := rl } : Room) D (ztX tc) [.ref (a 0), .int x1, .int x2, .long x3, .int x5] (zX a tc σ) (zQv (zX a tc) post) := by
  intro sz
  refine mt_W (by decide) (Nat.le_of_ble_eq_true rfl) ?_
  intro p e s m below meth c ls hx hb hml hr hown hlocks hin hw hn hP hK hD hS hA hl hsz
  subst hsz
  have hl : lv_has ls 7 [(0, .ref (a 0)), (1, .int x1), (2, .int x2), (3, .long x3), (5, .int x5)] := hl
  unfold jF_X5_carryOut at h
  refine lv_aload_n hx hb nD_X5_carryOut_0 rfl (lv_at hl 0 rfl) ?_
  refine va_get (D := D) (ci := 4) (v := .ref (a 1)) (C := nR_X5) (T := nT_X5) (N := 10) hx hb hw wu_X5 hown hK hP 0 xc_0 rfl 0 (by decide) (hw _ wm_229) (fun _ h9 => h9) rfl nD_X5_carryOut_1 ?_
  refine lv_aload_n hx hb nD_X5_carryOut_4 rfl (lv_at hl 0 rfl) ?_
  refine va_get (D := D) (ci := 4) (v := .ref (a 2)) (C := nR_X5) (T := nT_X5) (N := 10) hx hb hw wu_X5 hown hK hP 0 xc_0 rfl 1 (by decide) (hw _ wm_230) (fun _ h9 => h9) rfl nD_X5_carryOut_5 ?_
  refine lv_iload_n hx hb nD_X5_carryOut_8 rfl (lv_at hl 1 rfl) ?_
  obtain ⟨hi1, h⟩ := h
  refine va_aldq (D := D) hx hb hK hP 2 0 xc_2 rfl hi1 nD_X5_carryOut_9 ?_
  refine W.eq (g2 := F0 m 10 ls [.ref (a (11 + x1.toNatClampNeg)), .ref (a 1)]) rfl ?_
  refine lv_lload_n hx hb nD_X5_carryOut_10 rfl (lv_at hl 3 rfl) ?_
  refine zC_i (va_runV (As := [.ref (a (11 + x1.toNatClampNeg)), .long x3]) (rest := []) ⟨hx, hb, hml, hown, hw⟩ (c_X4_replyTo l D tc a x1.toNatClampNeg x3 (zin hi1) σ _ h _) (mcV 2 hw wm_192 wm_189 wm_190 wm_191 wm_26 rfl rfl nh_X4_replyTo ⟨Nat.le_trans (Nat.le_of_ble_eq_true rfl) hRF, Nat.le_trans (Nat.le_of_ble_eq_true rfl) hRL⟩) (zp_V (ci := 3) hP hD hK hn rfl xc_1) rfl rfl hl.1 rfl (lv_room (Nat.le_of_ble_eq_true rfl)) nD_X5_carryOut_11 ⟨Nat.zero_le _, Nat.zero_le _⟩) hD hS hA (fun r3 σ2 H locs h hP hD hS => ?_)
  refine lv_istore hx hb nD_X5_carryOut_14 hl (by decide) rfl (fun ls hl => ?_)
  have hl : lv_has ls 7 [(6, .int r3), (0, .ref (a 0)), (1, .int x1), (2, .int x2), (3, .long x3), (5, .int x5)] := hl
  refine lv_aload_n hx hb nD_X5_carryOut_16 rfl (lv_at hl 1 rfl) ?_
  refine va_get (D := D) (ci := 4) (v := .int (σ2.1 3)) (C := nR_X5) (T := nT_X5) (N := 10) hx hb hw wu_X5 hown hK hP 0 xc_0 rfl 6 (by decide) (hw _ wm_235) (fun _ h9 => h9) rfl nD_X5_carryOut_17 ?_
  refine lv_iload_n hx hb nD_X5_carryOut_20 rfl (lv_at hl 2 rfl) ?_
  refine vp_callSi (W.runS (As := [.int (σ2.1 3), .int x1]) (rest := []) ⟨hx, hb, hml, hown, hw⟩ (c_X5_isIn l (σ2.1 3) x1 _ h) (mcS 2 hw wm_176 wm_174 wm_175 wm_25 rfl rfl nh_X5_isIn ⟨Nat.le_trans (Nat.le_of_ble_eq_true rfl) hRF, Nat.le_trans (Nat.le_of_ble_eq_true rfl) hRL⟩) mp_S rfl rfl hl.1 rfl (lv_room (Nat.le_of_ble_eq_true rfl)) nD_X5_carryOut_21 ⟨Nat.zero_le _, Nat.zero_le _⟩) (fun r4 h => ?_)
  refine lv_if_eq (tgt := 42) hx hb nD_X5_carryOut_24 (by decide) (fun hc => ?_) (fun hc => ?_)
  · have h := h.1 hc
    refine lv_aload_n hx hb nD_X5_carryOut_42 rfl (lv_at hl 1 rfl) ?_
    refine va_get (D := D) (ci := 4) (v := .ref (a 4)) (C := nR_X5) (T := nT_X5) (N := 10) hx hb hw wu_X5 hown hK hP 0 xc_0 rfl 3 (by decide) (hw _ wm_232) (fun _ h9 => h9) rfl nD_X5_carryOut_43 ?_
    refine lv_iload_n hx hb nD_X5_carryOut_46 rfl (lv_at hl 2 rfl) ?_
    refine lv_iload hx hb nD_X5_carryOut_47 (lv_at hl 0 rfl) ?_
    obtain ⟨hi5, h⟩ := h
    refine va_iast (D := D) hx hb hK hP hD hS 4 2 xc_4 rfl hi5 nD_X5_carryOut_49 (fun H locs hP hD hS => ?_)
    obtain ⟨σ6, e_σ6⟩ : ∃ z : zS, z = zA σ2 1 x1.toNatClampNeg r3 := ⟨_, rfl⟩
    obtain ⟨hP, hD⟩ := znew (w := zX a tc) e_σ6 (xa_4) hP hD
    have h := h σ6 e_σ6
    clear e_σ6
    refine lv_aload_n hx hb nD_X5_carryOut_50 rfl (lv_at hl 1 rfl) ?_
    refine lv_iload_n hx hb nD_X5_carryOut_51 rfl (lv_at hl 3 rfl) ?_
    refine lv_iconst (v := (1 : Int32)) hx hb nD_X5_carryOut_52 (by decide) ?_
    refine lv_iload_n hx hb nD_X5_carryOut_53 rfl (lv_at hl 2 rfl) ?_
    refine lv_ishl hx hb nD_X5_carryOut_54 ?_
    refine lv_ior hx hb nD_X5_carryOut_55 ?_
    refine lv_aload_n hx hb nD_X5_carryOut_56 rfl (lv_at hl 1 rfl) ?_
    refine va_get (D := D) (ci := 4) (v := .ref (a 1)) (C := nR_X5) (T := nT_X5) (N := 10) hx hb hw wu_X5 hown hK hP 0 xc_0 rfl 0 (by decide) (hw _ wm_229) (fun _ h9 => h9) rfl nD_X5_carryOut_57 ?_
    refine lv_aload_n hx hb nD_X5_carryOut_60 rfl (lv_at hl 1 rfl) ?_
    refine va_get (D := D) (ci := 4) (v := .ref (a 2)) (C := nR_X5) (T := nT_X5) (N := 10) hx hb hw wu_X5 hown hK hP 0 xc_0 rfl 1 (by decide) (hw _ wm_230) (fun _ h9 => h9) rfl nD_X5_carryOut_61 ?_
    refine lv_iload_n hx hb nD_X5_carryOut_64 rfl (lv_at hl 2 rfl) ?_
    obtain ⟨hi7, h⟩ := h
    refine va_aldq (D := D) hx hb hK hP 2 0 xc_2 rfl hi7 nD_X5_carryOut_65 ?_
    refine W.eq (g2 := F0 m 66 ls [.ref (a (11 + x1.toNatClampNeg)), .ref (a 1), .int (x2 ||| ((1 : Int32) <<< (x1 &&& 31))), .ref (a 0)]) rfl ?_
    refine lv_lload_n hx hb nD_X5_carryOut_66 rfl (lv_at hl 4 rfl) ?_
    refine zC_l (va_runV (As := [.ref (a (11 + x1.toNatClampNeg)), .long x3]) (rest := [.int (x2 ||| ((1 : Int32) <<< (x1 &&& 31))), .ref (a 0)]) ⟨hx, hb, hml, hown, hw⟩ (c_X4_rowAfter l D tc a x1.toNatClampNeg x3 (zin hi7) σ6 _ h _) (mcV 2 hw wm_210 wm_207 wm_208 wm_209 wm_26 rfl rfl nh_X4_rowAfter ⟨Nat.le_trans (Nat.le_of_ble_eq_true rfl) hRF, Nat.le_trans (Nat.le_of_ble_eq_true rfl) hRL⟩) (zp_V (ci := 3) hP hD hK hn rfl xc_1) rfl rfl hl.1 rfl (lv_room (Nat.le_of_ble_eq_true rfl)) nD_X5_carryOut_67 ⟨Nat.zero_le _, Nat.zero_le _⟩) hD hS hA (fun r9 σ8 H locs h hP hD hS => ?_)
    refine lv_iload hx hb nD_X5_carryOut_70 (lv_at hl 5 rfl) ?_
    refine lv_iconst (v := (1 : Int32)) hx hb nD_X5_carryOut_72 (by decide) ?_
    refine lv_iadd hx hb nD_X5_carryOut_73 ?_
    refine zC_v (va_runV (As := [.int (x2 ||| ((1 : Int32) <<< (x1 &&& 31))), .long r9, .int (x5 + (1 : Int32))]) (rest := []) ⟨hx, hb, hml, hown, hw⟩ (hFL (x2 ||| ((1 : Int32) <<< (x1 &&& 31))) r9 (x5 + (1 : Int32)) σ8 _ h _) (mcV 3 hw wm_160 wm_157 wm_159 wm_2 wm_25 rfl rfl nh_X5_lengthenList hRFL) (zp_V (ci := 4) hP hD hK hn rfl xc_0) rfl rfl hl.1 rfl (lv_room (Nat.le_of_ble_eq_true rfl)) nD_X5_carryOut_74 ⟨Nat.zero_le _, Nat.zero_le _⟩) hD hS hA (fun σ10 H locs h hP hD hS => ?_)
    exact mw_v hx hb hr hlocks ⟨σ10, rfl, h⟩ hP hK hD hS nD_X5_carryOut_77
  · have h := h.2 hc
    refine lv_iload hx hb nD_X5_carryOut_27 (lv_at hl 0 rfl) ?_
    refine lv_aload_n hx hb nD_X5_carryOut_29 rfl (lv_at hl 1 rfl) ?_
    refine va_get (D := D) (ci := 4) (v := .ref (a 2)) (C := nR_X5) (T := nT_X5) (N := 10) hx hb hw wu_X5 hown hK hP 0 xc_0 rfl 1 (by decide) (hw _ wm_230) (fun _ h9 => h9) rfl nD_X5_carryOut_30 ?_
    refine lv_iload_n hx hb nD_X5_carryOut_33 rfl (lv_at hl 2 rfl) ?_
    obtain ⟨hi11, h⟩ := h
    refine va_aldq (D := D) hx hb hK hP 2 0 xc_2 rfl hi11 nD_X5_carryOut_34 ?_
    refine W.eq (g2 := F0 m 35 ls [.ref (a (11 + x1.toNatClampNeg)), .int r3]) rfl ?_
    refine va_getN (D := D) (ci := 0) (v := .int (σ2.2.1 9 x1.toNatClampNeg)) (C := nR_X0) (T := nT_X0) (N := 5) hx hb hw wu_X0 hown hK hP (11 + x1.toNatClampNeg) (xcC (zin hi11)) rfl 4 (by decide) (hn.use wn_114) (fun _ h9 => h9) rfl nD_X5_carryOut_35 ?_
    refine lv_icmp_eq (tgt := 42) hx hb nD_X5_carryOut_38 (by decide) (fun hc => ?_) (fun hc => ?_)
    · have h := h.1 hc
      refine lv_aload_n hx hb nD_X5_carryOut_42 rfl (lv_at hl 1 rfl) ?_
      refine va_get (D := D) (ci := 4) (v := .ref (a 4)) (C := nR_X5) (T := nT_X5) (N := 10) hx hb hw wu_X5 hown hK hP 0 xc_0 rfl 3 (by decide) (hw _ wm_232) (fun _ h9 => h9) rfl nD_X5_carryOut_43 ?_
      refine lv_iload_n hx hb nD_X5_carryOut_46 rfl (lv_at hl 2 rfl) ?_
      refine lv_iload hx hb nD_X5_carryOut_47 (lv_at hl 0 rfl) ?_
      obtain ⟨hi12, h⟩ := h
      refine va_iast (D := D) hx hb hK hP hD hS 4 2 xc_4 rfl hi12 nD_X5_carryOut_49 (fun H locs hP hD hS => ?_)
      obtain ⟨σ13, e_σ13⟩ : ∃ z : zS, z = zA σ2 1 x1.toNatClampNeg r3 := ⟨_, rfl⟩
      obtain ⟨hP, hD⟩ := znew (w := zX a tc) e_σ13 (xa_4) hP hD
      have h := h σ13 e_σ13
      clear e_σ13
      refine lv_aload_n hx hb nD_X5_carryOut_50 rfl (lv_at hl 1 rfl) ?_
      refine lv_iload_n hx hb nD_X5_carryOut_51 rfl (lv_at hl 3 rfl) ?_
      refine lv_iconst (v := (1 : Int32)) hx hb nD_X5_carryOut_52 (by decide) ?_
      refine lv_iload_n hx hb nD_X5_carryOut_53 rfl (lv_at hl 2 rfl) ?_
      refine lv_ishl hx hb nD_X5_carryOut_54 ?_
      refine lv_ior hx hb nD_X5_carryOut_55 ?_
      refine lv_aload_n hx hb nD_X5_carryOut_56 rfl (lv_at hl 1 rfl) ?_
      refine va_get (D := D) (ci := 4) (v := .ref (a 1)) (C := nR_X5) (T := nT_X5) (N := 10) hx hb hw wu_X5 hown hK hP 0 xc_0 rfl 0 (by decide) (hw _ wm_229) (fun _ h9 => h9) rfl nD_X5_carryOut_57 ?_
      refine lv_aload_n hx hb nD_X5_carryOut_60 rfl (lv_at hl 1 rfl) ?_
      refine va_get (D := D) (ci := 4) (v := .ref (a 2)) (C := nR_X5) (T := nT_X5) (N := 10) hx hb hw wu_X5 hown hK hP 0 xc_0 rfl 1 (by decide) (hw _ wm_230) (fun _ h9 => h9) rfl nD_X5_carryOut_61 ?_
      refine lv_iload_n hx hb nD_X5_carryOut_64 rfl (lv_at hl 2 rfl) ?_
      obtain ⟨hi14, h⟩ := h
      refine va_aldq (D := D) hx hb hK hP 2 0 xc_2 rfl hi14 nD_X5_carryOut_65 ?_
      refine W.eq (g2 := F0 m 66 ls [.ref (a (11 + x1.toNatClampNeg)), .ref (a 1), .int (x2 ||| ((1 : Int32) <<< (x1 &&& 31))), .ref (a 0)]) rfl ?_
      refine lv_lload_n hx hb nD_X5_carryOut_66 rfl (lv_at hl 4 rfl) ?_
      refine zC_l (va_runV (As := [.ref (a (11 + x1.toNatClampNeg)), .long x3]) (rest := [.int (x2 ||| ((1 : Int32) <<< (x1 &&& 31))), .ref (a 0)]) ⟨hx, hb, hml, hown, hw⟩ (c_X4_rowAfter l D tc a x1.toNatClampNeg x3 (zin hi14) σ13 _ h _) (mcV 2 hw wm_210 wm_207 wm_208 wm_209 wm_26 rfl rfl nh_X4_rowAfter ⟨Nat.le_trans (Nat.le_of_ble_eq_true rfl) hRF, Nat.le_trans (Nat.le_of_ble_eq_true rfl) hRL⟩) (zp_V (ci := 3) hP hD hK hn rfl xc_1) rfl rfl hl.1 rfl (lv_room (Nat.le_of_ble_eq_true rfl)) nD_X5_carryOut_67 ⟨Nat.zero_le _, Nat.zero_le _⟩) hD hS hA (fun r16 σ15 H locs h hP hD hS => ?_)
      refine lv_iload hx hb nD_X5_carryOut_70 (lv_at hl 5 rfl) ?_
      refine lv_iconst (v := (1 : Int32)) hx hb nD_X5_carryOut_72 (by decide) ?_
      refine lv_iadd hx hb nD_X5_carryOut_73 ?_
      refine zC_v (va_runV (As := [.int (x2 ||| ((1 : Int32) <<< (x1 &&& 31))), .long r16, .int (x5 + (1 : Int32))]) (rest := []) ⟨hx, hb, hml, hown, hw⟩ (hFL (x2 ||| ((1 : Int32) <<< (x1 &&& 31))) r16 (x5 + (1 : Int32)) σ15 _ h _) (mcV 3 hw wm_160 wm_157 wm_159 wm_2 wm_25 rfl rfl nh_X5_lengthenList hRFL) (zp_V (ci := 4) hP hD hK hn rfl xc_0) rfl rfl hl.1 rfl (lv_room (Nat.le_of_ble_eq_true rfl)) nD_X5_carryOut_74 ⟨Nat.zero_le _, Nat.zero_le _⟩) hD hS hA (fun σ17 H locs h hP hD hS => ?_)
      exact mw_v hx hb hr hlocks ⟨σ17, rfl, h⟩ hP hK hD hS nD_X5_carryOut_77
    · have h := h.2 hc
      exact mw_v hx hb hr hlocks ⟨σ2, rfl, h⟩ hP hK hD hS nD_X5_carryOut_41
set_option maxHeartbeats 4000000 in
set_option maxRecDepth 100000 in
theorem wl_X5_lengthenList_28 {l : Launch} {p : Program} {e : Env} {s : State} {m : MethodId} {args : Array Value} {below : List Frame} {meth : Method} {c : Code} {D : va_G} {tc : Nat → ClassId} {a : Nat → Nat} {w0 : va_W} {rf rl : Nat} (FC : Int32 → Int32 → Int64 → Int32 → zS → (zS → Prop) → Prop) {ff fl : Nat} (hFC : ∀ (x0 : Int32) (x1 : Int32) (x2 : Int64) (x3 : Int32) (σ : zS) (post : zS → Prop), FC x0 x1 x2 x3 σ post → mWv l nM_X5_carryOut nC_X5_carryOut 7 ({ frames := ff, cells := 0, slots := 0, locals := fl } : Room) D (ztX tc) [.ref (a 0), .int x0, .int x1, .long x2, .int x3] (zX a tc σ) (zQv (zX a tc) post)) (hRFC : ff + 1 ≤ rf ∧ 8 + (7 + 11) + fl ≤ rl) (hRF : 3 ≤ rf) (hRL : 72 ≤ rl) (x1 : Int32) (x2 : Int64) (x4 : Int32) (post : zS → Prop) (K : Int32 → zS → Prop) (hx : p.tables.exec = Jvm.exec) (hb : c.code = nC_X5_lengthenList) (hml : c.maxLocals = 6) (hr : meth.sig.returnType = none) (hown : s.vm.findClass nM_X5_lengthenList.cls = some m.cls) (hlocks : meth.locks = false) (hw : ∀ w ∈ wA, w.before args s = true) (hn : mN s) (hK : va_K D nCl (ztX tc) s) (hA : ∀ q, s.heap.size ≤ q → va_A w0 s.heap.size q)
    (hk : ∀ (y5 : Int32) (σ : zS) (H : Heap) (locs : List Loc) (ls : Array Slot), K y5 σ → va_P D nCl (zX a tc σ) H → va_D (va_A w0 s.heap.size) (zX a tc σ) → va_S (va_A w0 s.heap.size) s.heap H locs → lv_has ls 6 [(0, .ref (a 0)), (1, .int x1), (2, .long x2), (4, .int x4), (5, .int y5)] → W p l e ({ frames := rf, cells := 0, slots := 0, locals := rl } : Room) s m args below meth c H locs 0 0 (MQ below (va_Qv (zQv (zX a tc) post) (mQW D (ztX tc) w0 s.heap.size) (va_A w0 s.heap.size)) args s 0 0 (va_A w0 s.heap.size)) (F0 m 63 ls [])) : ∀ q : Int32 × zS, zLP (b_X5_lengthenList_28 FC x1 x2 x4 post K) q → ∀ (H : Heap) (locs : List Loc) (ls : Array Slot), va_P D nCl (zX a tc q.2) H → va_D (va_A w0 s.heap.size) (zX a tc q.2) → va_S (va_A w0 s.heap.size) s.heap H locs → lv_has ls 6 [(0, .ref (a 0)), (1, .int x1), (2, .long x2), (4, .int x4), (5, .int q.1)] → W p l e ({ frames := rf, cells := 0, slots := 0, locals := rl } : Room) s m args below meth c H locs 0 0 (MQ below (va_Qv (zQv (zX a tc) post) (mQW D (ztX tc) w0 s.heap.size) (va_A w0 s.heap.size)) args s 0 0 (va_A w0 s.heap.size)) (F0 m 28 ls []) := by
  refine zLP_walk ?_
  rintro R ⟨y5, σ⟩ hR h H locs ls hP hD hS hl
  dsimp only at hP hD hl
  dsimp only [b_X5_lengthenList_28] at h
  refine lv_iload hx hb nD_X5_lengthenList_28 (lv_at hl 4 rfl) ?_
  refine lv_aload_n hx hb nD_X5_lengthenList_30 rfl (lv_at hl 0 rfl) ?_
  refine va_get (D := D) (ci := 4) (v := .int (σ.1 2)) (C := nR_X5) (T := nT_X5) (N := 10) hx hb hw wu_X5 hown hK hP 0 xc_0 rfl 5 (by decide) (hw _ wm_234) (fun _ h9 => h9) rfl nD_X5_lengthenList_31 ?_
  refine lv_icmp_ge (tgt := 63) hx hb nD_X5_lengthenList_34 (by decide) (fun hc => ?_) (fun hc => ?_)
  · have h := h.1 hc
    exact hk y5 σ _ _ ls h hP hD hS hl
  · have h := h.2 hc
    refine lv_aload_n hx hb nD_X5_lengthenList_37 rfl (lv_at hl 0 rfl) ?_
    refine lv_iload hx hb nD_X5_lengthenList_38 (lv_at hl 4 rfl) ?_
    refine lv_iload_n hx hb nD_X5_lengthenList_40 rfl (lv_at hl 1 rfl) ?_
    refine zC_i (va_runV (As := [.int y5, .int x1]) (rest := []) ⟨hx, hb, hml, hown, hw⟩ (c_X5_mayStandNext l D tc a y5 x1 σ _ h _) (mcV 2 hw wm_184 wm_181 wm_183 wm_4 wm_25 rfl rfl nh_X5_mayStandNext ⟨Nat.le_trans (Nat.le_of_ble_eq_true rfl) hRF, Nat.le_trans (Nat.le_of_ble_eq_true rfl) hRL⟩) (zp_V (ci := 4) hP hD hK hn rfl xc_0) rfl rfl hl.1 rfl (lv_room (Nat.le_of_ble_eq_true rfl)) nD_X5_lengthenList_41 ⟨Nat.zero_le _, Nat.zero_le _⟩) hD hS hA (fun r2 σ1 H locs h hP hD hS => ?_)
    refine lv_if_eq (tgt := 57) hx hb nD_X5_lengthenList_44 (by decide) (fun hc => ?_) (fun hc => ?_)
    · have h := h.1 hc
      refine lv_iinc (k := 4) (v := y5 + 1) hx hb nD_X5_lengthenList_57 hl rfl rfl (by decide) rfl (fun ls hl => ?_)
      have hl : lv_has ls 6 [(5, .int (y5 + 1)), (0, .ref (a 0)), (1, .int x1), (2, .long x2), (4, .int x4)] := hl
      refine lv_goto (tgt := 28) hx hb nD_X5_lengthenList_60 (by decide) ?_
      have hl := lv_sub (l' := [(0, .ref (a 0)), (1, .int x1), (2, .long x2), (4, .int x4), (5, .int (y5 + 1))]) hl [1, 2, 3, 4, 0] rfl
      exact hR _ h _ _ ls hP hD hS hl
    · have h := h.2 hc
      refine lv_aload_n hx hb nD_X5_lengthenList_47 rfl (lv_at hl 0 rfl) ?_
      refine lv_iload hx hb nD_X5_lengthenList_48 (lv_at hl 4 rfl) ?_
      refine lv_iload_n hx hb nD_X5_lengthenList_50 rfl (lv_at hl 1 rfl) ?_
      refine lv_lload_n hx hb nD_X5_lengthenList_51 rfl (lv_at hl 2 rfl) ?_
      refine lv_iload hx hb nD_X5_lengthenList_52 (lv_at hl 3 rfl) ?_
      refine zC_v (va_runV (As := [.int y5, .int x1, .long x2, .int x4]) (rest := []) ⟨hx, hb, hml, hown, hw⟩ (hFC y5 x1 x2 x4 σ1 _ h _) (mcV 4 hw wm_188 wm_185 wm_187 wm_5 wm_25 rfl rfl nh_X5_carryOut hRFC) (zp_V (ci := 4) hP hD hK hn rfl xc_0) rfl rfl hl.1 rfl (lv_room (Nat.le_of_ble_eq_true rfl)) nD_X5_lengthenList_54 ⟨Nat.zero_le _, Nat.zero_le _⟩) hD hS hA (fun σ3 H locs h hP hD hS => ?_)
      refine lv_iinc (k := 4) (v := y5 + 1) hx hb nD_X5_lengthenList_57 hl rfl rfl (by decide) rfl (fun ls hl => ?_)
      have hl : lv_has ls 6 [(5, .int (y5 + 1)), (0, .ref (a 0)), (1, .int x1), (2, .long x2), (4, .int x4)] := hl
      refine lv_goto (tgt := 28) hx hb nD_X5_lengthenList_60 (by decide) ?_
      have hl := lv_sub (l' := [(0, .ref (a 0)), (1, .int x1), (2, .long x2), (4, .int x4), (5, .int (y5 + 1))]) hl [1, 2, 3, 4, 0] rfl
      exact hR _ h _ _ ls hP hD hS hl
set_option maxHeartbeats 4000000 in
set_option maxRecDepth 100000 in
theorem cF_X5_lengthenList (l : Launch) {rf rl : Nat} (D : va_G) (tc : Nat → ClassId) (a : Nat → Nat) (FC : Int32 → Int32 → Int64 → Int32 → zS → (zS → Prop) → Prop) {ff fl : Nat} (hFC : ∀ (x0 : Int32) (x1 : Int32) (x2 : Int64) (x3 : Int32) (σ : zS) (post : zS → Prop), FC x0 x1 x2 x3 σ post → mWv l nM_X5_carryOut nC_X5_carryOut 7 ({ frames := ff, cells := 0, slots := 0, locals := fl } : Room) D (ztX tc) [.ref (a 0), .int x0, .int x1, .long x2, .int x3] (zX a tc σ) (zQv (zX a tc) post)) (hRFC : ff + 1 ≤ rf ∧ 8 + (7 + 11) + fl ≤ rl) (hRF : 3 ≤ rf) (hRL : 72 ≤ rl) (x1 : Int32) (x2 : Int64) (x4 : Int32) (σ : zS) (post : zS → Prop) (h : jF_X5_lengthenList FC x1 x2 x4 σ post) : mWv l nM_X5_lengthenList nC_X5_lengthenList 6 ({ frames := rf, cells := 0, slots := 0, locals := rl } : Room) D (ztX tc) [.ref (a 0), .int x1, .long x2, .int x4] (zX a tc σ) (zQv (zX a tc) post) := by
  intro sz
  refine mt_W (by decide) (Nat.le_of_ble_eq_true rfl) ?_
  intro p e s m below meth c ls hx hb hml hr hown hlocks hin hw hn hP hK hD hS hA hl hsz
  subst hsz
  have hl : lv_has ls 6 [(0, .ref (a 0)), (1, .int x1), (2, .long x2), (4, .int x4)] := hl
  unfold jF_X5_lengthenList at h
  refine lv_aload_n hx hb nD_X5_lengthenList_0 rfl (lv_at hl 0 rfl) ?_
  refine va_get (D := D) (ci := 4) (v := .int (σ.1 3)) (C := nR_X5) (T := nT_X5) (N := 10) hx hb hw wu_X5 hown hK hP 0 xc_0 rfl 6 (by decide) (hw _ wm_235) (fun _ h9 => h9) rfl nD_X5_lengthenList_1 ?_
  refine lv_iload_n hx hb nD_X5_lengthenList_4 rfl (lv_at hl 1 rfl) ?_
  refine lv_iconst (v := (-1 : Int32)) hx hb nD_X5_lengthenList_5 (by decide) ?_
  refine lv_ixor hx hb nD_X5_lengthenList_6 ?_
  refine lv_iand hx hb nD_X5_lengthenList_7 ?_
  refine lv_if_ne (tgt := 17) hx hb nD_X5_lengthenList_8 (by decide) (fun hc => ?_) (fun hc => ?_)
  · have h := h.2 hc
    refine lv_iload hx hb nD_X5_lengthenList_17 (lv_at hl 3 rfl) ?_
    refine lv_bipush (v := (8 : Int32)) hx hb nD_X5_lengthenList_19 (by decide) ?_
    refine lv_icmp_lt (tgt := 25) hx hb nD_X5_lengthenList_21 (by decide) (fun hc => ?_) (fun hc => ?_)
    · have h := h.1 hc
      refine lv_iconst (v := (0 : Int32)) hx hb nD_X5_lengthenList_25 (by decide) ?_
      refine lv_istore hx hb nD_X5_lengthenList_26 hl (by decide) rfl (fun ls hl => ?_)
      have hl : lv_has ls 6 [(5, .int (0 : Int32)), (0, .ref (a 0)), (1, .int x1), (2, .long x2), (4, .int x4)] := hl
      have hl := lv_sub (l' := [(0, .ref (a 0)), (1, .int x1), (2, .long x2), (4, .int x4), (5, .int (0 : Int32))]) hl [1, 2, 3, 4, 0] rfl
      refine wl_X5_lengthenList_28 (l := l) FC hFC hRFC hRF hRL x1 x2 x4 post _ hx hb hml hr hown hlocks hw hn hK hA (fun v4 σ5 H locs ls h hP hD hS hl => ?_) ((0 : Int32), σ) h _ _ ls hP hD hS hl
      exact mw_v hx hb hr hlocks ⟨σ5, rfl, h⟩ hP hK hD hS nD_X5_lengthenList_63
    · have h := h.2 hc
      exact mw_v hx hb hr hlocks ⟨σ, rfl, h⟩ hP hK hD hS nD_X5_lengthenList_24
  · have h := h.1 hc
    refine lv_aload_n hx hb nD_X5_lengthenList_11 rfl (lv_at hl 0 rfl) ?_
    refine lv_iload_n hx hb nD_X5_lengthenList_12 rfl (lv_at hl 1 rfl) ?_
    refine lv_lload_n hx hb nD_X5_lengthenList_13 rfl (lv_at hl 2 rfl) ?_
    refine zC_v (va_runV (As := [.int x1, .long x2]) (rest := []) ⟨hx, hb, hml, hown, hw⟩ (c_X5_noteExplanation l D tc a x1 x2 σ _ h _) (mcV 2 hw wm_164 wm_161 wm_163 wm_3 wm_25 rfl rfl nh_X5_noteExplanation ⟨Nat.le_trans (Nat.le_of_ble_eq_true rfl) hRF, Nat.le_trans (Nat.le_of_ble_eq_true rfl) hRL⟩) (zp_V (ci := 4) hP hD hK hn rfl xc_0) rfl rfl hl.1 rfl (lv_room (Nat.le_of_ble_eq_true rfl)) nD_X5_lengthenList_14 ⟨Nat.zero_le _, Nat.zero_le _⟩) hD hS hA (fun σ6 H locs h hP hD hS => ?_)
    refine lv_iload hx hb nD_X5_lengthenList_17 (lv_at hl 3 rfl) ?_
    refine lv_bipush (v := (8 : Int32)) hx hb nD_X5_lengthenList_19 (by decide) ?_
    refine lv_icmp_lt (tgt := 25) hx hb nD_X5_lengthenList_21 (by decide) (fun hc => ?_) (fun hc => ?_)
    · have h := h.1 hc
      refine lv_iconst (v := (0 : Int32)) hx hb nD_X5_lengthenList_25 (by decide) ?_
      refine lv_istore hx hb nD_X5_lengthenList_26 hl (by decide) rfl (fun ls hl => ?_)
      have hl : lv_has ls 6 [(5, .int (0 : Int32)), (0, .ref (a 0)), (1, .int x1), (2, .long x2), (4, .int x4)] := hl
      have hl := lv_sub (l' := [(0, .ref (a 0)), (1, .int x1), (2, .long x2), (4, .int x4), (5, .int (0 : Int32))]) hl [1, 2, 3, 4, 0] rfl
      refine wl_X5_lengthenList_28 (l := l) FC hFC hRFC hRF hRL x1 x2 x4 post _ hx hb hml hr hown hlocks hw hn hK hA (fun v7 σ8 H locs ls h hP hD hS hl => ?_) ((0 : Int32), σ6) h _ _ ls hP hD hS hl
      exact mw_v hx hb hr hlocks ⟨σ8, rfl, h⟩ hP hK hD hS nD_X5_lengthenList_63
    · have h := h.2 hc
      exact mw_v hx hb hr hlocks ⟨σ6, rfl, h⟩ hP hK hD hS nD_X5_lengthenList_24
set_option maxRecDepth 100000 in
theorem cLL (l : Launch) (D : va_G) (tc : Nat → ClassId) (a : Nat → Nat) : ∀ (d : Nat) (x1 : Int32) (x2 : Int64) (x4 : Int32) (σ : zS) (post : zS → Prop), jLL d x1 x2 x4 σ post → mWv l nM_X5_lengthenList nC_X5_lengthenList 6 ({ frames := 3 + 2 * d, cells := 0, slots := 0, locals := 72 + 51 * d } : Room) D (ztX tc) [.ref (a 0), .int x1, .long x2, .int x4] (zX a tc σ) (zQv (zX a tc) post) := by
  intro d
  induction d with
  | zero => intro x1 x2 x4 σ post h; exact h.elim
  | succ d ih =>
    intro x1 x2 x4 σ post h
    exact cF_X5_lengthenList (rf := 3 + 2 * (d + 1)) (rl := 72 + 51 * (d + 1)) l D tc a _ (ff := 3 + 2 * d + 1) (fl := 72 + 51 * d + 25) (fun x1 x2 x3 x4 σ post h => cF_X5_carryOut (rf := 3 + 2 * d + 1) (rl := 72 + 51 * d + 25) l D tc a _ (ff := 3 + 2 * d) (fl := 72 + 51 * d) (fun x1 x2 x3 σ post h => ih x1 x2 x3 σ post h) ⟨by omega, by omega⟩ (by omega) (by omega) x1 x2 x3 x4 σ post h) ⟨by omega, by omega⟩ (by omega) (by omega) x1 x2 x4 σ post h
theorem c_X5_lengthenList (l : Launch) (D : va_G) (tc : Nat → ClassId) (a : Nat → Nat) (x1 : Int32) (x2 : Int64) (x4 : Int32) (σ : zS) (post : zS → Prop) (h : j_X5_lengthenList x1 x2 x4 σ post) : mWv l nM_X5_lengthenList nC_X5_lengthenList 6 ({ frames := 21, cells := 0, slots := 0, locals := 531 } : Room) D (ztX tc) [.ref (a 0), .int x1, .long x2, .int x4] (zX a tc σ) (zQv (zX a tc) post) := cLL l D tc a 9 x1 x2 x4 σ post h
end
section
set_option maxHeartbeats 4000000 in
set_option maxRecDepth 100000 in
theorem c_X5_review (l : Launch) (D : va_G) (tc : Nat → ClassId) (a : Nat → Nat) (σ : zS) (post : zS → Prop) (h : j_X5_review  σ post) : mWv l nM_X5_review nC_X5_review 1 ({ frames := 22, cells := 0, slots := 0, locals := 556 } : Room) D (ztX tc) [.ref (a 0)] (zX a tc σ) (zQv (zX a tc) post) := by
  intro sz
  refine mt_W (by decide) (Nat.le_of_ble_eq_true rfl) ?_
  intro p e s m below meth c ls hx hb hml hr hown hlocks hin hw hn hP hK hD hS hA hl hsz
  subst hsz
  have hl : lv_has ls 1 [(0, .ref (a 0))] := hl
  unfold j_X5_review at h
  refine lv_aload_n hx hb nD_X5_review_0 rfl (lv_at hl 0 rfl) ?_
  refine va_get (D := D) (ci := 4) (v := .ref (a 5)) (C := nR_X5) (T := nT_X5) (N := 10) hx hb hw wu_X5 hown hK hP 0 xc_0 rfl 4 (by decide) (hw _ wm_233) (fun _ h9 => h9) rfl nD_X5_review_1 ?_
  refine zC_v (va_runV (As := []) (rest := []) ⟨hx, hb, hml, hown, hw⟩ (c_X1_clear l D tc a σ _ h _) (mcV 0 hw wm_150 wm_147 wm_148 wm_149 wm_27 rfl rfl nh_X1_clear ⟨Nat.le_of_ble_eq_true rfl, Nat.le_of_ble_eq_true rfl⟩) (zp_V (ci := 1) hP hD hK hn rfl xc_5) rfl rfl hl.1 rfl (lv_room (Nat.le_of_ble_eq_true rfl)) nD_X5_review_4 ⟨Nat.zero_le _, Nat.zero_le _⟩) hD hS hA (fun σ1 H locs h hP hD hS => ?_)
  refine lv_aload_n hx hb nD_X5_review_7 rfl (lv_at hl 0 rfl) ?_
  refine lv_iconst (v := (0 : Int32)) hx hb nD_X5_review_8 (by decide) ?_
  refine lv_lconst (v := (0 : Int64)) hx hb nD_X5_review_9 (by decide) ?_
  refine lv_iconst (v := (0 : Int32)) hx hb nD_X5_review_10 (by decide) ?_
  refine zC_v (va_runV (As := [.int (0 : Int32), .long (0 : Int64), .int (0 : Int32)]) (rest := []) ⟨hx, hb, hml, hown, hw⟩ (c_X5_lengthenList l D tc a (0 : Int32) (0 : Int64) (0 : Int32) σ1 _ h _) (mcV 3 hw wm_160 wm_157 wm_159 wm_2 wm_25 rfl rfl nh_X5_lengthenList ⟨Nat.le_of_ble_eq_true rfl, Nat.le_of_ble_eq_true rfl⟩) (zp_V (ci := 4) hP hD hK hn rfl xc_0) rfl rfl hl.1 rfl (lv_room (Nat.le_of_ble_eq_true rfl)) nD_X5_review_11 ⟨Nat.zero_le _, Nat.zero_le _⟩) hD hS hA (fun σ2 H locs h hP hD hS => ?_)
  refine lv_aload_n hx hb nD_X5_review_14 rfl (lv_at hl 0 rfl) ?_
  refine va_get (D := D) (ci := 4) (v := .int (σ2.1 6)) (C := nR_X5) (T := nT_X5) (N := 10) hx hb hw wu_X5 hown hK hP 0 xc_0 rfl 9 (by decide) (hw _ wm_238) (fun _ h9 => h9) rfl nD_X5_review_15 ?_
  refine lv_if_ne (tgt := 36) hx hb nD_X5_review_18 (by decide) (fun hc => ?_) (fun hc => ?_)
  · have h := h.2 hc
    exact mw_v hx hb hr hlocks ⟨σ2, rfl, h⟩ hP hK hD hS nD_X5_review_36
  · have h := h.1 hc
    refine lv_aload_n hx hb nD_X5_review_21 rfl (lv_at hl 0 rfl) ?_
    refine zC_i (va_runV (As := []) (rest := []) ⟨hx, hb, hml, hown, hw⟩ (c_X5_fits l D tc a σ2 _ h _) (mcV 0 hw wm_228 wm_225 wm_226 wm_227 wm_25 rfl rfl nh_X5_fits ⟨Nat.le_of_ble_eq_true rfl, Nat.le_of_ble_eq_true rfl⟩) (zp_V (ci := 4) hP hD hK hn rfl xc_0) rfl rfl hl.1 rfl (lv_room (Nat.le_of_ble_eq_true rfl)) nD_X5_review_22 ⟨Nat.zero_le _, Nat.zero_le _⟩) hD hS hA (fun r4 σ3 H locs h hP hD hS => ?_)
    refine lv_if_ne (tgt := 36) hx hb nD_X5_review_25 (by decide) (fun hc => ?_) (fun hc => ?_)
    · have h := h.2 hc
      exact mw_v hx hb hr hlocks ⟨σ3, rfl, h⟩ hP hK hD hS nD_X5_review_36
    · have h := h.1 hc
      refine lv_aload_n hx hb nD_X5_review_28 rfl (lv_at hl 0 rfl) ?_
      refine lv_aload_n hx hb nD_X5_review_29 rfl (lv_at hl 0 rfl) ?_
      refine va_get (D := D) (ci := 4) (v := .int (σ3.1 5)) (C := nR_X5) (T := nT_X5) (N := 10) hx hb hw wu_X5 hown hK hP 0 xc_0 rfl 8 (by decide) (hw _ wm_237) (fun _ h9 => h9) rfl nD_X5_review_30 ?_
      refine va_put (D := D) (ci := 4) (v := .int (σ3.1 5)) (ty := .int) (C := nR_X5) (T := nT_X5) (N := 10) hx hb hw wu_X5 nY_X5 nO_X5 nN_X5 hown hK hP hD hS 0 xc_0 rfl 9 (by decide) (hw _ wm_238) (fun _ h9 => h9) rfl (by decide +kernel) rfl rfl (Nat.le_of_ble_eq_true rfl) nD_X5_review_33 (fun H locs hP hD hS => ?_)
      obtain ⟨σ5, e_σ5⟩ : ∃ z : zS, z = zI σ3 6 (σ3.1 5) := ⟨_, rfl⟩
      obtain ⟨hP, hD⟩ := znew (w := zX a tc) e_σ5 (xp_0_9) hP hD
      have h := h σ5 e_σ5
      clear e_σ5
      exact mw_v hx hb hr hlocks ⟨σ5, rfl, h⟩ hP hK hD hS nD_X5_review_36
set_option maxHeartbeats 4000000 in
set_option maxRecDepth 100000 in
theorem c_X5_startRecord (l : Launch) (D : va_G) (tc : Nat → ClassId) (a : Nat → Nat) (x1 : Int32) (x2 : Int32) (σ : zS) (post : zS → Prop) (h : j_X5_startRecord x1 x2 σ post) : mWv l nM_X5_startRecord nC_X5_startRecord 3 ({ frames := 23, cells := 0, slots := 0, locals := 576 } : Room) D (ztX tc) [.ref (a 0), .int x1, .int x2] (zX a tc σ) (zQv (zX a tc) post) := by
  intro sz
  refine mt_W (by decide) (Nat.le_of_ble_eq_true rfl) ?_
  intro p e s m below meth c ls hx hb hml hr hown hlocks hin hw hn hP hK hD hS hA hl hsz
  subst hsz
  have hl : lv_has ls 3 [(0, .ref (a 0)), (1, .int x1), (2, .int x2)] := hl
  unfold j_X5_startRecord at h
  refine lv_aload_n hx hb nD_X5_startRecord_0 rfl (lv_at hl 0 rfl) ?_
  refine va_get (D := D) (ci := 4) (v := .ref (a 1)) (C := nR_X5) (T := nT_X5) (N := 10) hx hb hw wu_X5 hown hK hP 0 xc_0 rfl 0 (by decide) (hw _ wm_229) (fun _ h9 => h9) rfl nD_X5_startRecord_1 ?_
  refine lv_iload_n hx hb nD_X5_startRecord_4 rfl (lv_at hl 1 rfl) ?_
  refine lv_iload_n hx hb nD_X5_startRecord_5 rfl (lv_at hl 2 rfl) ?_
  refine zC_v (va_runV (As := [.int x1, .int x2]) (rest := []) ⟨hx, hb, hml, hown, hw⟩ (c_X4_setUp l D tc a x1 x2 σ _ h _) (mcV 2 hw wm_133 wm_130 wm_131 wm_132 wm_26 rfl rfl nh_X4_setUp ⟨Nat.le_of_ble_eq_true rfl, Nat.le_of_ble_eq_true rfl⟩) (zp_V (ci := 3) hP hD hK hn rfl xc_1) rfl rfl hl.1 rfl (lv_room (Nat.le_of_ble_eq_true rfl)) nD_X5_startRecord_6 ⟨Nat.zero_le _, Nat.zero_le _⟩) hD hS hA (fun σ1 H locs h hP hD hS => ?_)
  refine lv_aload_n hx hb nD_X5_startRecord_9 rfl (lv_at hl 0 rfl) ?_
  refine va_get (D := D) (ci := 4) (v := .ref (a 3)) (C := nR_X5) (T := nT_X5) (N := 10) hx hb hw wu_X5 hown hK hP 0 xc_0 rfl 2 (by decide) (hw _ wm_231) (fun _ h9 => h9) rfl nD_X5_startRecord_10 ?_
  refine lv_iconst (v := (-1 : Int32)) hx hb nD_X5_startRecord_13 (by decide) ?_
  refine zC_fill (q0 := 3) (t0 := 1) (rest := []) ⟨hx, hb, hml, hown, hw⟩ wm_140 (by decide) hK hn hP hD hS hA xc_3 rfl hl.1 (lv_room (Nat.le_of_ble_eq_true rfl)) nD_X5_startRecord_14 ⟨Nat.le_of_ble_eq_true rfl, Nat.le_of_ble_eq_true rfl⟩ ⟨Nat.zero_le _, Nat.zero_le _⟩ wm_142 wm_141 wm_31 (fun H locs hP hD hS => ?_)
  obtain ⟨σ2, e_σ2⟩ : ∃ z : zS, z = zF σ1 0 (zfl (σ1.2.1 0) 3 (-1 : Int32)) := ⟨_, rfl⟩
  obtain ⟨hP, hD⟩ := znew (w := zX a tc) e_σ2 (xf_3) hP hD
  have h := h σ2 e_σ2
  clear e_σ2
  refine lv_aload_n hx hb nD_X5_startRecord_17 rfl (lv_at hl 0 rfl) ?_
  refine lv_iconst (v := (0 : Int32)) hx hb nD_X5_startRecord_18 (by decide) ?_
  refine va_put (D := D) (ci := 4) (v := .int (0 : Int32)) (ty := .int) (C := nR_X5) (T := nT_X5) (N := 10) hx hb hw wu_X5 nY_X5 nO_X5 nN_X5 hown hK hP hD hS 0 xc_0 rfl 5 (by decide) (hw _ wm_234) (fun _ h9 => h9) rfl (by decide +kernel) rfl rfl (Nat.le_of_ble_eq_true rfl) nD_X5_startRecord_19 (fun H locs hP hD hS => ?_)
  obtain ⟨σ3, e_σ3⟩ : ∃ z : zS, z = zI σ2 2 (0 : Int32) := ⟨_, rfl⟩
  obtain ⟨hP, hD⟩ := znew (w := zX a tc) e_σ3 (xp_0_5) hP hD
  have h := h σ3 e_σ3
  clear e_σ3
  refine lv_aload_n hx hb nD_X5_startRecord_22 rfl (lv_at hl 0 rfl) ?_
  refine lv_iconst (v := (0 : Int32)) hx hb nD_X5_startRecord_23 (by decide) ?_
  refine va_put (D := D) (ci := 4) (v := .int (0 : Int32)) (ty := .int) (C := nR_X5) (T := nT_X5) (N := 10) hx hb hw wu_X5 nY_X5 nO_X5 nN_X5 hown hK hP hD hS 0 xc_0 rfl 6 (by decide) (hw _ wm_235) (fun _ h9 => h9) rfl (by decide +kernel) rfl rfl (Nat.le_of_ble_eq_true rfl) nD_X5_startRecord_24 (fun H locs hP hD hS => ?_)
  obtain ⟨σ4, e_σ4⟩ : ∃ z : zS, z = zI σ3 3 (0 : Int32) := ⟨_, rfl⟩
  obtain ⟨hP, hD⟩ := znew (w := zX a tc) e_σ4 (xp_0_6) hP hD
  have h := h σ4 e_σ4
  clear e_σ4
  refine lv_aload_n hx hb nD_X5_startRecord_27 rfl (lv_at hl 0 rfl) ?_
  refine lv_iconst (v := (0 : Int32)) hx hb nD_X5_startRecord_28 (by decide) ?_
  refine va_put (D := D) (ci := 4) (v := .int (0 : Int32)) (ty := .int) (C := nR_X5) (T := nT_X5) (N := 10) hx hb hw wu_X5 nY_X5 nO_X5 nN_X5 hown hK hP hD hS 0 xc_0 rfl 7 (by decide) (hw _ wm_236) (fun _ h9 => h9) rfl (by decide +kernel) rfl rfl (Nat.le_of_ble_eq_true rfl) nD_X5_startRecord_29 (fun H locs hP hD hS => ?_)
  obtain ⟨σ5, e_σ5⟩ : ∃ z : zS, z = zI σ4 4 (0 : Int32) := ⟨_, rfl⟩
  obtain ⟨hP, hD⟩ := znew (w := zX a tc) e_σ5 (xp_0_7) hP hD
  have h := h σ5 e_σ5
  clear e_σ5
  refine lv_aload_n hx hb nD_X5_startRecord_32 rfl (lv_at hl 0 rfl) ?_
  refine lv_iconst (v := (0 : Int32)) hx hb nD_X5_startRecord_33 (by decide) ?_
  refine va_put (D := D) (ci := 4) (v := .int (0 : Int32)) (ty := .int) (C := nR_X5) (T := nT_X5) (N := 10) hx hb hw wu_X5 nY_X5 nO_X5 nN_X5 hown hK hP hD hS 0 xc_0 rfl 8 (by decide) (hw _ wm_237) (fun _ h9 => h9) rfl (by decide +kernel) rfl rfl (Nat.le_of_ble_eq_true rfl) nD_X5_startRecord_34 (fun H locs hP hD hS => ?_)
  obtain ⟨σ6, e_σ6⟩ : ∃ z : zS, z = zI σ5 5 (0 : Int32) := ⟨_, rfl⟩
  obtain ⟨hP, hD⟩ := znew (w := zX a tc) e_σ6 (xp_0_8) hP hD
  have h := h σ6 e_σ6
  clear e_σ6
  refine lv_aload_n hx hb nD_X5_startRecord_37 rfl (lv_at hl 0 rfl) ?_
  refine lv_iconst (v := (0 : Int32)) hx hb nD_X5_startRecord_38 (by decide) ?_
  refine va_put (D := D) (ci := 4) (v := .int (0 : Int32)) (ty := .int) (C := nR_X5) (T := nT_X5) (N := 10) hx hb hw wu_X5 nY_X5 nO_X5 nN_X5 hown hK hP hD hS 0 xc_0 rfl 9 (by decide) (hw _ wm_238) (fun _ h9 => h9) rfl (by decide +kernel) rfl rfl (Nat.le_of_ble_eq_true rfl) nD_X5_startRecord_39 (fun H locs hP hD hS => ?_)
  obtain ⟨σ7, e_σ7⟩ : ∃ z : zS, z = zI σ6 6 (0 : Int32) := ⟨_, rfl⟩
  obtain ⟨hP, hD⟩ := znew (w := zX a tc) e_σ7 (xp_0_9) hP hD
  have h := h σ7 e_σ7
  clear e_σ7
  refine lv_aload_n hx hb nD_X5_startRecord_42 rfl (lv_at hl 0 rfl) ?_
  refine zC_v (va_runV (As := []) (rest := []) ⟨hx, hb, hml, hown, hw⟩ (c_X5_review l D tc a σ7 _ h _) (mcV 0 hw wm_146 wm_143 wm_145 wm_1 wm_25 rfl rfl nh_X5_review ⟨Nat.le_of_ble_eq_true rfl, Nat.le_of_ble_eq_true rfl⟩) (zp_V (ci := 4) hP hD hK hn rfl xc_0) rfl rfl hl.1 rfl (lv_room (Nat.le_of_ble_eq_true rfl)) nD_X5_startRecord_43 ⟨Nat.zero_le _, Nat.zero_le _⟩) hD hS hA (fun σ8 H locs h hP hD hS => ?_)
  exact mw_v hx hb hr hlocks ⟨σ8, rfl, h⟩ hP hK hD hS nD_X5_startRecord_46
set_option maxHeartbeats 4000000 in
set_option maxRecDepth 100000 in
theorem c_X5_renew (l : Launch) (D : va_G) (tc : Nat → ClassId) (a : Nat → Nat) (x1 : Int32) (x2 : Int32) (σ : zS) (post : zS → Prop) (h : j_X5_renew x1 x2 σ post) : mWv l nM_X5_renew nC_X5_renew 3 ({ frames := 24, cells := 0, slots := 0, locals := 598 } : Room) D (ztX tc) [.ref (a 0), .int x1, .int x2] (zX a tc σ) (zQv (zX a tc) post) := by
  intro sz
  refine mt_W (by decide) (Nat.le_of_ble_eq_true rfl) ?_
  intro p e s m below meth c ls hx hb hml hr hown hlocks hin hw hn hP hK hD hS hA hl hsz
  subst hsz
  have hl : lv_has ls 3 [(0, .ref (a 0)), (1, .int x1), (2, .int x2)] := hl
  unfold j_X5_renew at h
  refine lv_aload_n hx hb nD_X5_renew_0 rfl (lv_at hl 0 rfl) ?_
  refine lv_iload_n hx hb nD_X5_renew_1 rfl (lv_at hl 1 rfl) ?_
  refine lv_iload_n hx hb nD_X5_renew_2 rfl (lv_at hl 2 rfl) ?_
  refine zC_v (va_runV (As := [.int x1, .int x2]) (rest := []) ⟨hx, hb, hml, hown, hw⟩ (c_X5_startRecord l D tc a x1 x2 σ _ h _) (mcV 2 hw wm_129 wm_126 wm_128 wm_0 wm_25 rfl rfl nh_X5_startRecord ⟨Nat.le_of_ble_eq_true rfl, Nat.le_of_ble_eq_true rfl⟩) (zp_V (ci := 4) hP hD hK hn rfl xc_0) rfl rfl hl.1 rfl (lv_room (Nat.le_of_ble_eq_true rfl)) nD_X5_renew_3 ⟨Nat.zero_le _, Nat.zero_le _⟩) hD hS hA (fun σ1 H locs h hP hD hS => ?_)
  exact mw_v hx hb hr hlocks ⟨σ1, rfl, h⟩ hP hK hD hS nD_X5_renew_6
set_option maxHeartbeats 4000000 in
set_option maxRecDepth 100000 in
theorem c_X5_beginPut (l : Launch) (D : va_G) (tc : Nat → ClassId) (a : Nat → Nat) (x1 : Int32) (x2 : Int32) (σ : zS) (post : Int32 → zS → Prop) (h : j_X5_beginPut x1 x2 σ post) : mWi l nM_X5_beginPut nC_X5_beginPut 3 (some .boolean) ({ frames := 23, cells := 0, slots := 0, locals := 576 } : Room) D (ztX tc) [.ref (a 0), .int x1, .int x2] (zX a tc σ) (zQi (zX a tc) post) := by
  intro sz
  refine mt_W (by decide) (Nat.le_of_ble_eq_true rfl) ?_
  intro p e s m below meth c ls hx hb hml hr hown hlocks hin hw hn hP hK hD hS hA hl hsz
  subst hsz
  have hl : lv_has ls 3 [(0, .ref (a 0)), (1, .int x1), (2, .int x2)] := hl
  unfold j_X5_beginPut at h
  refine lv_aload_n hx hb nD_X5_beginPut_0 rfl (lv_at hl 0 rfl) ?_
  refine lv_iload_n hx hb nD_X5_beginPut_1 rfl (lv_at hl 1 rfl) ?_
  refine zC_i (va_runV (As := [.int x1]) (rest := []) ⟨hx, hb, hml, hown, hw⟩ (c_X5_mayBegin l D tc a x1 σ _ h _) (mcV 1 hw wm_271 wm_268 wm_270 wm_8 wm_25 rfl rfl nh_X5_mayBegin ⟨Nat.le_of_ble_eq_true rfl, Nat.le_of_ble_eq_true rfl⟩) (zp_V (ci := 4) hP hD hK hn rfl xc_0) rfl rfl hl.1 rfl (lv_room (Nat.le_of_ble_eq_true rfl)) nD_X5_beginPut_2 ⟨Nat.zero_le _, Nat.zero_le _⟩) hD hS hA (fun r2 σ1 H locs h hP hD hS => ?_)
  refine lv_if_eq (tgt := 26) hx hb nD_X5_beginPut_5 (by decide) (fun hc => ?_) (fun hc => ?_)
  · have h := h.1 hc
    refine lv_iconst (v := (0 : Int32)) hx hb nD_X5_beginPut_26 (by decide) ?_
    exact mw_z hx hb hr hlocks rfl ⟨σ1, rfl, h⟩ hP hK hD hS nD_X5_beginPut_27
  · have h := h.2 hc
    refine lv_iload_n hx hb nD_X5_beginPut_8 rfl (lv_at hl 2 rfl) ?_
    refine vp_callSi (W.runS (As := [.int x2]) (rest := []) ⟨hx, hb, hml, hown, hw⟩ (c_X5_isValue l x2 _ h) (mcS 1 hw wm_277 wm_275 wm_276 wm_25 rfl rfl nh_X5_isValue ⟨Nat.le_of_ble_eq_true rfl, Nat.le_of_ble_eq_true rfl⟩) mp_S rfl rfl hl.1 rfl (lv_room (Nat.le_of_ble_eq_true rfl)) nD_X5_beginPut_9 ⟨Nat.zero_le _, Nat.zero_le _⟩) (fun r3 h => ?_)
    refine lv_if_eq (tgt := 26) hx hb nD_X5_beginPut_12 (by decide) (fun hc => ?_) (fun hc => ?_)
    · have h := h.1 hc
      refine lv_iconst (v := (0 : Int32)) hx hb nD_X5_beginPut_26 (by decide) ?_
      exact mw_z hx hb hr hlocks rfl ⟨σ1, rfl, h⟩ hP hK hD hS nD_X5_beginPut_27
    · have h := h.2 hc
      refine lv_aload_n hx hb nD_X5_beginPut_15 rfl (lv_at hl 0 rfl) ?_
      refine va_get (D := D) (ci := 4) (v := .ref (a 1)) (C := nR_X5) (T := nT_X5) (N := 10) hx hb hw wu_X5 hown hK hP 0 xc_0 rfl 0 (by decide) (hw _ wm_229) (fun _ h9 => h9) rfl nD_X5_beginPut_16 ?_
      refine lv_iload_n hx hb nD_X5_beginPut_19 rfl (lv_at hl 1 rfl) ?_
      refine zC_i (va_runV (As := [.int x1]) (rest := []) ⟨hx, hb, hml, hown, hw⟩ (c_X4_letsPut l D tc a x1 σ1 _ h _) (mcV 1 hw wm_281 wm_278 wm_279 wm_280 wm_26 rfl rfl nh_X4_letsPut ⟨Nat.le_of_ble_eq_true rfl, Nat.le_of_ble_eq_true rfl⟩) (zp_V (ci := 3) hP hD hK hn rfl xc_1) rfl rfl hl.1 rfl (lv_room (Nat.le_of_ble_eq_true rfl)) nD_X5_beginPut_20 ⟨Nat.zero_le _, Nat.zero_le _⟩) hD hS hA (fun r5 σ4 H locs h hP hD hS => ?_)
      refine lv_if_ne (tgt := 28) hx hb nD_X5_beginPut_23 (by decide) (fun hc => ?_) (fun hc => ?_)
      · have h := h.2 hc
        refine lv_aload_n hx hb nD_X5_beginPut_28 rfl (lv_at hl 0 rfl) ?_
        refine va_get (D := D) (ci := 4) (v := .ref (a 2)) (C := nR_X5) (T := nT_X5) (N := 10) hx hb hw wu_X5 hown hK hP 0 xc_0 rfl 1 (by decide) (hw _ wm_230) (fun _ h9 => h9) rfl nD_X5_beginPut_29 ?_
        refine lv_aload_n hx hb nD_X5_beginPut_32 rfl (lv_at hl 0 rfl) ?_
        refine va_get (D := D) (ci := 4) (v := .int (σ4.1 2)) (C := nR_X5) (T := nT_X5) (N := 10) hx hb hw wu_X5 hown hK hP 0 xc_0 rfl 5 (by decide) (hw _ wm_234) (fun _ h9 => h9) rfl nD_X5_beginPut_33 ?_
        obtain ⟨hi6, h⟩ := h
        refine va_aldq (D := D) hx hb hK hP 2 0 xc_2 rfl hi6 nD_X5_beginPut_36 ?_
        refine W.eq (g2 := F0 m 37 ls [.ref (a (11 + ((σ4.1 2).toNatClampNeg)))]) rfl ?_
        refine lv_iload_n hx hb nD_X5_beginPut_37 rfl (lv_at hl 1 rfl) ?_
        refine lv_iload_n hx hb nD_X5_beginPut_38 rfl (lv_at hl 2 rfl) ?_
        refine lv_aload_n hx hb nD_X5_beginPut_39 rfl (lv_at hl 0 rfl) ?_
        refine va_get (D := D) (ci := 4) (v := .int (σ4.1 3)) (C := nR_X5) (T := nT_X5) (N := 10) hx hb hw wu_X5 hown hK hP 0 xc_0 rfl 6 (by decide) (hw _ wm_235) (fun _ h9 => h9) rfl nD_X5_beginPut_40 ?_
        refine zC_v (va_runV (As := [.int x1, .int x2, .int (σ4.1 3)]) (rest := []) ⟨hx, hb, hml, hown, hw⟩ (c_X0_startPut l D tc a ((σ4.1 2).toNatClampNeg) x1 x2 (σ4.1 3) (zin hi6) σ4 _ h _) (mcV 3 hw wm_285 wm_282 wm_283 wm_284 wm_29 rfl rfl nh_X0_startPut ⟨Nat.le_of_ble_eq_true rfl, Nat.le_of_ble_eq_true rfl⟩) (zp_V (ci := 0) hP hD hK hn rfl (xcC (zin hi6))) rfl rfl hl.1 rfl (lv_room (Nat.le_of_ble_eq_true rfl)) nD_X5_beginPut_43 ⟨Nat.zero_le _, Nat.zero_le _⟩) hD hS hA (fun σ7 H locs h hP hD hS => ?_)
        refine lv_aload_n hx hb nD_X5_beginPut_46 rfl (lv_at hl 0 rfl) ?_
        refine lv_iload_n hx hb nD_X5_beginPut_47 rfl (lv_at hl 1 rfl) ?_
        refine zC_v (va_runV (As := [.int x1]) (rest := []) ⟨hx, hb, hml, hown, hw⟩ (c_X5_openNextCall l D tc a x1 σ7 _ h _) (mcV 1 hw wm_289 wm_286 wm_288 wm_9 wm_25 rfl rfl nh_X5_openNextCall ⟨Nat.le_of_ble_eq_true rfl, Nat.le_of_ble_eq_true rfl⟩) (zp_V (ci := 4) hP hD hK hn rfl xc_0) rfl rfl hl.1 rfl (lv_room (Nat.le_of_ble_eq_true rfl)) nD_X5_beginPut_48 ⟨Nat.zero_le _, Nat.zero_le _⟩) hD hS hA (fun σ8 H locs h hP hD hS => ?_)
        refine lv_aload_n hx hb nD_X5_beginPut_51 rfl (lv_at hl 0 rfl) ?_
        refine zC_v (va_runV (As := []) (rest := []) ⟨hx, hb, hml, hown, hw⟩ (c_X5_review l D tc a σ8 _ h _) (mcV 0 hw wm_146 wm_143 wm_145 wm_1 wm_25 rfl rfl nh_X5_review ⟨Nat.le_of_ble_eq_true rfl, Nat.le_of_ble_eq_true rfl⟩) (zp_V (ci := 4) hP hD hK hn rfl xc_0) rfl rfl hl.1 rfl (lv_room (Nat.le_of_ble_eq_true rfl)) nD_X5_beginPut_52 ⟨Nat.zero_le _, Nat.zero_le _⟩) hD hS hA (fun σ9 H locs h hP hD hS => ?_)
        refine lv_iconst (v := (1 : Int32)) hx hb nD_X5_beginPut_55 (by decide) ?_
        exact mw_z hx hb hr hlocks rfl ⟨σ9, rfl, h⟩ hP hK hD hS nD_X5_beginPut_56
      · have h := h.1 hc
        refine lv_iconst (v := (0 : Int32)) hx hb nD_X5_beginPut_26 (by decide) ?_
        exact mw_z hx hb hr hlocks rfl ⟨σ4, rfl, h⟩ hP hK hD hS nD_X5_beginPut_27
set_option maxHeartbeats 4000000 in
set_option maxRecDepth 100000 in
theorem c_X5_beginTake (l : Launch) (D : va_G) (tc : Nat → ClassId) (a : Nat → Nat) (x1 : Int32) (σ : zS) (post : Int32 → zS → Prop) (h : j_X5_beginTake x1 σ post) : mWi l nM_X5_beginTake nC_X5_beginTake 2 (some .boolean) ({ frames := 23, cells := 0, slots := 0, locals := 576 } : Room) D (ztX tc) [.ref (a 0), .int x1] (zX a tc σ) (zQi (zX a tc) post) := by
  intro sz
  refine mt_W (by decide) (Nat.le_of_ble_eq_true rfl) ?_
  intro p e s m below meth c ls hx hb hml hr hown hlocks hin hw hn hP hK hD hS hA hl hsz
  subst hsz
  have hl : lv_has ls 2 [(0, .ref (a 0)), (1, .int x1)] := hl
  unfold j_X5_beginTake at h
  refine lv_aload_n hx hb nD_X5_beginTake_0 rfl (lv_at hl 0 rfl) ?_
  refine lv_iload_n hx hb nD_X5_beginTake_1 rfl (lv_at hl 1 rfl) ?_
  refine zC_i (va_runV (As := [.int x1]) (rest := []) ⟨hx, hb, hml, hown, hw⟩ (c_X5_mayBegin l D tc a x1 σ _ h _) (mcV 1 hw wm_271 wm_268 wm_270 wm_8 wm_25 rfl rfl nh_X5_mayBegin ⟨Nat.le_of_ble_eq_true rfl, Nat.le_of_ble_eq_true rfl⟩) (zp_V (ci := 4) hP hD hK hn rfl xc_0) rfl rfl hl.1 rfl (lv_room (Nat.le_of_ble_eq_true rfl)) nD_X5_beginTake_2 ⟨Nat.zero_le _, Nat.zero_le _⟩) hD hS hA (fun r2 σ1 H locs h hP hD hS => ?_)
  refine lv_if_ne (tgt := 10) hx hb nD_X5_beginTake_5 (by decide) (fun hc => ?_) (fun hc => ?_)
  · have h := h.2 hc
    refine lv_aload_n hx hb nD_X5_beginTake_10 rfl (lv_at hl 0 rfl) ?_
    refine va_get (D := D) (ci := 4) (v := .ref (a 2)) (C := nR_X5) (T := nT_X5) (N := 10) hx hb hw wu_X5 hown hK hP 0 xc_0 rfl 1 (by decide) (hw _ wm_230) (fun _ h9 => h9) rfl nD_X5_beginTake_11 ?_
    refine lv_aload_n hx hb nD_X5_beginTake_14 rfl (lv_at hl 0 rfl) ?_
    refine va_get (D := D) (ci := 4) (v := .int (σ1.1 2)) (C := nR_X5) (T := nT_X5) (N := 10) hx hb hw wu_X5 hown hK hP 0 xc_0 rfl 5 (by decide) (hw _ wm_234) (fun _ h9 => h9) rfl nD_X5_beginTake_15 ?_
    obtain ⟨hi3, h⟩ := h
    refine va_aldq (D := D) hx hb hK hP 2 0 xc_2 rfl hi3 nD_X5_beginTake_18 ?_
    refine W.eq (g2 := F0 m 19 ls [.ref (a (11 + ((σ1.1 2).toNatClampNeg)))]) rfl ?_
    refine lv_iload_n hx hb nD_X5_beginTake_19 rfl (lv_at hl 1 rfl) ?_
    refine lv_aload_n hx hb nD_X5_beginTake_20 rfl (lv_at hl 0 rfl) ?_
    refine va_get (D := D) (ci := 4) (v := .int (σ1.1 3)) (C := nR_X5) (T := nT_X5) (N := 10) hx hb hw wu_X5 hown hK hP 0 xc_0 rfl 6 (by decide) (hw _ wm_235) (fun _ h9 => h9) rfl nD_X5_beginTake_21 ?_
    refine zC_v (va_runV (As := [.int x1, .int (σ1.1 3)]) (rest := []) ⟨hx, hb, hml, hown, hw⟩ (c_X0_startTake l D tc a ((σ1.1 2).toNatClampNeg) x1 (σ1.1 3) (zin hi3) σ1 _ h _) (mcV 2 hw wm_297 wm_294 wm_295 wm_296 wm_29 rfl rfl nh_X0_startTake ⟨Nat.le_of_ble_eq_true rfl, Nat.le_of_ble_eq_true rfl⟩) (zp_V (ci := 0) hP hD hK hn rfl (xcC (zin hi3))) rfl rfl hl.1 rfl (lv_room (Nat.le_of_ble_eq_true rfl)) nD_X5_beginTake_24 ⟨Nat.zero_le _, Nat.zero_le _⟩) hD hS hA (fun σ4 H locs h hP hD hS => ?_)
    refine lv_aload_n hx hb nD_X5_beginTake_27 rfl (lv_at hl 0 rfl) ?_
    refine lv_iload_n hx hb nD_X5_beginTake_28 rfl (lv_at hl 1 rfl) ?_
    refine zC_v (va_runV (As := [.int x1]) (rest := []) ⟨hx, hb, hml, hown, hw⟩ (c_X5_openNextCall l D tc a x1 σ4 _ h _) (mcV 1 hw wm_289 wm_286 wm_288 wm_9 wm_25 rfl rfl nh_X5_openNextCall ⟨Nat.le_of_ble_eq_true rfl, Nat.le_of_ble_eq_true rfl⟩) (zp_V (ci := 4) hP hD hK hn rfl xc_0) rfl rfl hl.1 rfl (lv_room (Nat.le_of_ble_eq_true rfl)) nD_X5_beginTake_29 ⟨Nat.zero_le _, Nat.zero_le _⟩) hD hS hA (fun σ5 H locs h hP hD hS => ?_)
    refine lv_aload_n hx hb nD_X5_beginTake_32 rfl (lv_at hl 0 rfl) ?_
    refine zC_v (va_runV (As := []) (rest := []) ⟨hx, hb, hml, hown, hw⟩ (c_X5_review l D tc a σ5 _ h _) (mcV 0 hw wm_146 wm_143 wm_145 wm_1 wm_25 rfl rfl nh_X5_review ⟨Nat.le_of_ble_eq_true rfl, Nat.le_of_ble_eq_true rfl⟩) (zp_V (ci := 4) hP hD hK hn rfl xc_0) rfl rfl hl.1 rfl (lv_room (Nat.le_of_ble_eq_true rfl)) nD_X5_beginTake_33 ⟨Nat.zero_le _, Nat.zero_le _⟩) hD hS hA (fun σ6 H locs h hP hD hS => ?_)
    refine lv_iconst (v := (1 : Int32)) hx hb nD_X5_beginTake_36 (by decide) ?_
    exact mw_z hx hb hr hlocks rfl ⟨σ6, rfl, h⟩ hP hK hD hS nD_X5_beginTake_37
  · have h := h.1 hc
    refine lv_iconst (v := (0 : Int32)) hx hb nD_X5_beginTake_8 (by decide) ?_
    exact mw_z hx hb hr hlocks rfl ⟨σ1, rfl, h⟩ hP hK hD hS nD_X5_beginTake_9
set_option maxHeartbeats 4000000 in
set_option maxRecDepth 100000 in
theorem c_X5_endPut (l : Launch) (D : va_G) (tc : Nat → ClassId) (a : Nat → Nat) (x1 : Int32) (x2 : Int32) (σ : zS) (post : Int32 → zS → Prop) (h : j_X5_endPut x1 x2 σ post) : mWi l nM_X5_endPut nC_X5_endPut 3 (some .boolean) ({ frames := 23, cells := 0, slots := 0, locals := 576 } : Room) D (ztX tc) [.ref (a 0), .int x1, .int x2] (zX a tc σ) (zQi (zX a tc) post) := by
  intro sz
  refine mt_W (by decide) (Nat.le_of_ble_eq_true rfl) ?_
  intro p e s m below meth c ls hx hb hml hr hown hlocks hin hw hn hP hK hD hS hA hl hsz
  subst hsz
  have hl : lv_has ls 3 [(0, .ref (a 0)), (1, .int x1), (2, .int x2)] := hl
  unfold j_X5_endPut at h
  refine lv_aload_n hx hb nD_X5_endPut_0 rfl (lv_at hl 0 rfl) ?_
  refine lv_iload_n hx hb nD_X5_endPut_1 rfl (lv_at hl 1 rfl) ?_
  refine zC_i (va_runV (As := [.int x1]) (rest := []) ⟨hx, hb, hml, hown, hw⟩ (c_X5_hasOpenCall l D tc a x1 σ _ h _) (mcV 1 hw wm_305 wm_302 wm_304 wm_10 wm_25 rfl rfl nh_X5_hasOpenCall ⟨Nat.le_of_ble_eq_true rfl, Nat.le_of_ble_eq_true rfl⟩) (zp_V (ci := 4) hP hD hK hn rfl xc_0) rfl rfl hl.1 rfl (lv_room (Nat.le_of_ble_eq_true rfl)) nD_X5_endPut_2 ⟨Nat.zero_le _, Nat.zero_le _⟩) hD hS hA (fun r2 σ1 H locs h hP hD hS => ?_)
  refine lv_if_eq (tgt := 25) hx hb nD_X5_endPut_5 (by decide) (fun hc => ?_) (fun hc => ?_)
  · have h := h.1 hc
    refine lv_iconst (v := (0 : Int32)) hx hb nD_X5_endPut_25 (by decide) ?_
    exact mw_z hx hb hr hlocks rfl ⟨σ1, rfl, h⟩ hP hK hD hS nD_X5_endPut_26
  · have h := h.2 hc
    refine lv_aload_n hx hb nD_X5_endPut_8 rfl (lv_at hl 0 rfl) ?_
    refine va_get (D := D) (ci := 4) (v := .ref (a 2)) (C := nR_X5) (T := nT_X5) (N := 10) hx hb hw wu_X5 hown hK hP 0 xc_0 rfl 1 (by decide) (hw _ wm_230) (fun _ h9 => h9) rfl nD_X5_endPut_9 ?_
    refine lv_aload_n hx hb nD_X5_endPut_12 rfl (lv_at hl 0 rfl) ?_
    refine va_get (D := D) (ci := 4) (v := .ref (a 3)) (C := nR_X5) (T := nT_X5) (N := 10) hx hb hw wu_X5 hown hK hP 0 xc_0 rfl 2 (by decide) (hw _ wm_231) (fun _ h9 => h9) rfl nD_X5_endPut_13 ?_
    refine lv_iload_n hx hb nD_X5_endPut_16 rfl (lv_at hl 1 rfl) ?_
    obtain ⟨hi3, h⟩ := h
    refine va_iald (D := D) hx hb hK hP 3 1 xc_3 rfl hi3 nD_X5_endPut_17 ?_
    obtain ⟨hi4, h⟩ := h
    refine va_aldq (D := D) hx hb hK hP 2 0 xc_2 rfl hi4 nD_X5_endPut_18 ?_
    refine W.eq (g2 := F0 m 19 ls [.ref (a (11 + ((σ1.2.1 0 x1.toNatClampNeg).toNatClampNeg)))]) rfl ?_
    refine va_getN (D := D) (ci := 0) (v := .int (σ1.2.1 6 ((σ1.2.1 0 x1.toNatClampNeg).toNatClampNeg))) (C := nR_X0) (T := nT_X0) (N := 5) hx hb hw wu_X0 hown hK hP (11 + ((σ1.2.1 0 x1.toNatClampNeg).toNatClampNeg)) (xcC (zin hi4)) rfl 1 (by decide) (hn.use wn_109) (fun _ h9 => h9) rfl nD_X5_endPut_19 ?_
    refine lv_if_ne (tgt := 27) hx hb nD_X5_endPut_22 (by decide) (fun hc => ?_) (fun hc => ?_)
    · have h := h.2 hc
      refine lv_aload_n hx hb nD_X5_endPut_27 rfl (lv_at hl 0 rfl) ?_
      refine lv_iload_n hx hb nD_X5_endPut_28 rfl (lv_at hl 1 rfl) ?_
      refine lv_iload_n hx hb nD_X5_endPut_29 rfl (lv_at hl 2 rfl) ?_
      refine lv_if_eq (tgt := 37) hx hb nD_X5_endPut_30 (by decide) (fun hc => ?_) (fun hc => ?_)
      · have h := h.1 hc
        refine lv_iconst (v := (0 : Int32)) hx hb nD_X5_endPut_37 (by decide) ?_
        refine zC_v (va_runV (As := [.int x1, .int (0 : Int32)]) (rest := []) ⟨hx, hb, hml, hown, hw⟩ (c_X5_endOpenCall l D tc a x1 (0 : Int32) σ1 _ h _) (mcV 2 hw wm_309 wm_306 wm_308 wm_11 wm_25 rfl rfl nh_X5_endOpenCall ⟨Nat.le_of_ble_eq_true rfl, Nat.le_of_ble_eq_true rfl⟩) (zp_V (ci := 4) hP hD hK hn rfl xc_0) rfl rfl hl.1 rfl (lv_room (Nat.le_of_ble_eq_true rfl)) nD_X5_endPut_38 ⟨Nat.zero_le _, Nat.zero_le _⟩) hD hS hA (fun σ5 H locs h hP hD hS => ?_)
        refine lv_aload_n hx hb nD_X5_endPut_41 rfl (lv_at hl 0 rfl) ?_
        refine zC_v (va_runV (As := []) (rest := []) ⟨hx, hb, hml, hown, hw⟩ (c_X5_review l D tc a σ5 _ h _) (mcV 0 hw wm_146 wm_143 wm_145 wm_1 wm_25 rfl rfl nh_X5_review ⟨Nat.le_of_ble_eq_true rfl, Nat.le_of_ble_eq_true rfl⟩) (zp_V (ci := 4) hP hD hK hn rfl xc_0) rfl rfl hl.1 rfl (lv_room (Nat.le_of_ble_eq_true rfl)) nD_X5_endPut_42 ⟨Nat.zero_le _, Nat.zero_le _⟩) hD hS hA (fun σ6 H locs h hP hD hS => ?_)
        refine lv_iconst (v := (1 : Int32)) hx hb nD_X5_endPut_45 (by decide) ?_
        exact mw_z hx hb hr hlocks rfl ⟨σ6, rfl, h⟩ hP hK hD hS nD_X5_endPut_46
      · have h := h.2 hc
        refine lv_iconst (v := (1 : Int32)) hx hb nD_X5_endPut_33 (by decide) ?_
        refine lv_goto (tgt := 38) hx hb nD_X5_endPut_34 (by decide) ?_
        refine zC_v (va_runV (As := [.int x1, .int (1 : Int32)]) (rest := []) ⟨hx, hb, hml, hown, hw⟩ (c_X5_endOpenCall l D tc a x1 (1 : Int32) σ1 _ h _) (mcV 2 hw wm_309 wm_306 wm_308 wm_11 wm_25 rfl rfl nh_X5_endOpenCall ⟨Nat.le_of_ble_eq_true rfl, Nat.le_of_ble_eq_true rfl⟩) (zp_V (ci := 4) hP hD hK hn rfl xc_0) rfl rfl hl.1 rfl (lv_room (Nat.le_of_ble_eq_true rfl)) nD_X5_endPut_38 ⟨Nat.zero_le _, Nat.zero_le _⟩) hD hS hA (fun σ7 H locs h hP hD hS => ?_)
        refine lv_aload_n hx hb nD_X5_endPut_41 rfl (lv_at hl 0 rfl) ?_
        refine zC_v (va_runV (As := []) (rest := []) ⟨hx, hb, hml, hown, hw⟩ (c_X5_review l D tc a σ7 _ h _) (mcV 0 hw wm_146 wm_143 wm_145 wm_1 wm_25 rfl rfl nh_X5_review ⟨Nat.le_of_ble_eq_true rfl, Nat.le_of_ble_eq_true rfl⟩) (zp_V (ci := 4) hP hD hK hn rfl xc_0) rfl rfl hl.1 rfl (lv_room (Nat.le_of_ble_eq_true rfl)) nD_X5_endPut_42 ⟨Nat.zero_le _, Nat.zero_le _⟩) hD hS hA (fun σ8 H locs h hP hD hS => ?_)
        refine lv_iconst (v := (1 : Int32)) hx hb nD_X5_endPut_45 (by decide) ?_
        exact mw_z hx hb hr hlocks rfl ⟨σ8, rfl, h⟩ hP hK hD hS nD_X5_endPut_46
    · have h := h.1 hc
      refine lv_iconst (v := (0 : Int32)) hx hb nD_X5_endPut_25 (by decide) ?_
      exact mw_z hx hb hr hlocks rfl ⟨σ1, rfl, h⟩ hP hK hD hS nD_X5_endPut_26
set_option maxHeartbeats 4000000 in
set_option maxRecDepth 100000 in
theorem c_X5_endTake (l : Launch) (D : va_G) (tc : Nat → ClassId) (a : Nat → Nat) (x1 : Int32) (x2 : Int32) (σ : zS) (post : Int32 → zS → Prop) (h : j_X5_endTake x1 x2 σ post) : mWi l nM_X5_endTake nC_X5_endTake 3 (some .boolean) ({ frames := 23, cells := 0, slots := 0, locals := 576 } : Room) D (ztX tc) [.ref (a 0), .int x1, .int x2] (zX a tc σ) (zQi (zX a tc) post) := by
  intro sz
  refine mt_W (by decide) (Nat.le_of_ble_eq_true rfl) ?_
  intro p e s m below meth c ls hx hb hml hr hown hlocks hin hw hn hP hK hD hS hA hl hsz
  subst hsz
  have hl : lv_has ls 3 [(0, .ref (a 0)), (1, .int x1), (2, .int x2)] := hl
  unfold j_X5_endTake at h
  refine lv_aload_n hx hb nD_X5_endTake_0 rfl (lv_at hl 0 rfl) ?_
  refine lv_iload_n hx hb nD_X5_endTake_1 rfl (lv_at hl 1 rfl) ?_
  refine zC_i (va_runV (As := [.int x1]) (rest := []) ⟨hx, hb, hml, hown, hw⟩ (c_X5_hasOpenCall l D tc a x1 σ _ h _) (mcV 1 hw wm_305 wm_302 wm_304 wm_10 wm_25 rfl rfl nh_X5_hasOpenCall ⟨Nat.le_of_ble_eq_true rfl, Nat.le_of_ble_eq_true rfl⟩) (zp_V (ci := 4) hP hD hK hn rfl xc_0) rfl rfl hl.1 rfl (lv_room (Nat.le_of_ble_eq_true rfl)) nD_X5_endTake_2 ⟨Nat.zero_le _, Nat.zero_le _⟩) hD hS hA (fun r2 σ1 H locs h hP hD hS => ?_)
  refine lv_if_eq (tgt := 25) hx hb nD_X5_endTake_5 (by decide) (fun hc => ?_) (fun hc => ?_)
  · have h := h.1 hc
    refine lv_iconst (v := (0 : Int32)) hx hb nD_X5_endTake_25 (by decide) ?_
    exact mw_z hx hb hr hlocks rfl ⟨σ1, rfl, h⟩ hP hK hD hS nD_X5_endTake_26
  · have h := h.2 hc
    refine lv_aload_n hx hb nD_X5_endTake_8 rfl (lv_at hl 0 rfl) ?_
    refine va_get (D := D) (ci := 4) (v := .ref (a 2)) (C := nR_X5) (T := nT_X5) (N := 10) hx hb hw wu_X5 hown hK hP 0 xc_0 rfl 1 (by decide) (hw _ wm_230) (fun _ h9 => h9) rfl nD_X5_endTake_9 ?_
    refine lv_aload_n hx hb nD_X5_endTake_12 rfl (lv_at hl 0 rfl) ?_
    refine va_get (D := D) (ci := 4) (v := .ref (a 3)) (C := nR_X5) (T := nT_X5) (N := 10) hx hb hw wu_X5 hown hK hP 0 xc_0 rfl 2 (by decide) (hw _ wm_231) (fun _ h9 => h9) rfl nD_X5_endTake_13 ?_
    refine lv_iload_n hx hb nD_X5_endTake_16 rfl (lv_at hl 1 rfl) ?_
    obtain ⟨hi3, h⟩ := h
    refine va_iald (D := D) hx hb hK hP 3 1 xc_3 rfl hi3 nD_X5_endTake_17 ?_
    obtain ⟨hi4, h⟩ := h
    refine va_aldq (D := D) hx hb hK hP 2 0 xc_2 rfl hi4 nD_X5_endTake_18 ?_
    refine W.eq (g2 := F0 m 19 ls [.ref (a (11 + ((σ1.2.1 0 x1.toNatClampNeg).toNatClampNeg)))]) rfl ?_
    refine va_getN (D := D) (ci := 0) (v := .int (σ1.2.1 6 ((σ1.2.1 0 x1.toNatClampNeg).toNatClampNeg))) (C := nR_X0) (T := nT_X0) (N := 5) hx hb hw wu_X0 hown hK hP (11 + ((σ1.2.1 0 x1.toNatClampNeg).toNatClampNeg)) (xcC (zin hi4)) rfl 1 (by decide) (hn.use wn_109) (fun _ h9 => h9) rfl nD_X5_endTake_19 ?_
    refine lv_if_eq (tgt := 27) hx hb nD_X5_endTake_22 (by decide) (fun hc => ?_) (fun hc => ?_)
    · have h := h.1 hc
      refine lv_iload_n hx hb nD_X5_endTake_27 rfl (lv_at hl 2 rfl) ?_
      refine lv_iconst (v := (-1 : Int32)) hx hb nD_X5_endTake_28 (by decide) ?_
      refine lv_icmp_eq (tgt := 41) hx hb nD_X5_endTake_29 (by decide) (fun hc => ?_) (fun hc => ?_)
      · have h := h.1 hc
        refine lv_aload_n hx hb nD_X5_endTake_41 rfl (lv_at hl 0 rfl) ?_
        refine lv_iload_n hx hb nD_X5_endTake_42 rfl (lv_at hl 1 rfl) ?_
        refine lv_iload_n hx hb nD_X5_endTake_43 rfl (lv_at hl 2 rfl) ?_
        refine zC_v (va_runV (As := [.int x1, .int x2]) (rest := []) ⟨hx, hb, hml, hown, hw⟩ (c_X5_endOpenCall l D tc a x1 x2 σ1 _ h _) (mcV 2 hw wm_309 wm_306 wm_308 wm_11 wm_25 rfl rfl nh_X5_endOpenCall ⟨Nat.le_of_ble_eq_true rfl, Nat.le_of_ble_eq_true rfl⟩) (zp_V (ci := 4) hP hD hK hn rfl xc_0) rfl rfl hl.1 rfl (lv_room (Nat.le_of_ble_eq_true rfl)) nD_X5_endTake_44 ⟨Nat.zero_le _, Nat.zero_le _⟩) hD hS hA (fun σ5 H locs h hP hD hS => ?_)
        refine lv_aload_n hx hb nD_X5_endTake_47 rfl (lv_at hl 0 rfl) ?_
        refine zC_v (va_runV (As := []) (rest := []) ⟨hx, hb, hml, hown, hw⟩ (c_X5_review l D tc a σ5 _ h _) (mcV 0 hw wm_146 wm_143 wm_145 wm_1 wm_25 rfl rfl nh_X5_review ⟨Nat.le_of_ble_eq_true rfl, Nat.le_of_ble_eq_true rfl⟩) (zp_V (ci := 4) hP hD hK hn rfl xc_0) rfl rfl hl.1 rfl (lv_room (Nat.le_of_ble_eq_true rfl)) nD_X5_endTake_48 ⟨Nat.zero_le _, Nat.zero_le _⟩) hD hS hA (fun σ6 H locs h hP hD hS => ?_)
        refine lv_iconst (v := (1 : Int32)) hx hb nD_X5_endTake_51 (by decide) ?_
        exact mw_z hx hb hr hlocks rfl ⟨σ6, rfl, h⟩ hP hK hD hS nD_X5_endTake_52
      · have h := h.2 hc
        refine lv_iload_n hx hb nD_X5_endTake_32 rfl (lv_at hl 2 rfl) ?_
        refine vp_callSi (W.runS (As := [.int x2]) (rest := []) ⟨hx, hb, hml, hown, hw⟩ (c_X5_isValue l x2 _ h) (mcS 1 hw wm_277 wm_275 wm_276 wm_25 rfl rfl nh_X5_isValue ⟨Nat.le_of_ble_eq_true rfl, Nat.le_of_ble_eq_true rfl⟩) mp_S rfl rfl hl.1 rfl (lv_room (Nat.le_of_ble_eq_true rfl)) nD_X5_endTake_33 ⟨Nat.zero_le _, Nat.zero_le _⟩) (fun r7 h => ?_)
        refine lv_if_ne (tgt := 41) hx hb nD_X5_endTake_36 (by decide) (fun hc => ?_) (fun hc => ?_)
        · have h := h.2 hc
          refine lv_aload_n hx hb nD_X5_endTake_41 rfl (lv_at hl 0 rfl) ?_
          refine lv_iload_n hx hb nD_X5_endTake_42 rfl (lv_at hl 1 rfl) ?_
          refine lv_iload_n hx hb nD_X5_endTake_43 rfl (lv_at hl 2 rfl) ?_
          refine zC_v (va_runV (As := [.int x1, .int x2]) (rest := []) ⟨hx, hb, hml, hown, hw⟩ (c_X5_endOpenCall l D tc a x1 x2 σ1 _ h _) (mcV 2 hw wm_309 wm_306 wm_308 wm_11 wm_25 rfl rfl nh_X5_endOpenCall ⟨Nat.le_of_ble_eq_true rfl, Nat.le_of_ble_eq_true rfl⟩) (zp_V (ci := 4) hP hD hK hn rfl xc_0) rfl rfl hl.1 rfl (lv_room (Nat.le_of_ble_eq_true rfl)) nD_X5_endTake_44 ⟨Nat.zero_le _, Nat.zero_le _⟩) hD hS hA (fun σ8 H locs h hP hD hS => ?_)
          refine lv_aload_n hx hb nD_X5_endTake_47 rfl (lv_at hl 0 rfl) ?_
          refine zC_v (va_runV (As := []) (rest := []) ⟨hx, hb, hml, hown, hw⟩ (c_X5_review l D tc a σ8 _ h _) (mcV 0 hw wm_146 wm_143 wm_145 wm_1 wm_25 rfl rfl nh_X5_review ⟨Nat.le_of_ble_eq_true rfl, Nat.le_of_ble_eq_true rfl⟩) (zp_V (ci := 4) hP hD hK hn rfl xc_0) rfl rfl hl.1 rfl (lv_room (Nat.le_of_ble_eq_true rfl)) nD_X5_endTake_48 ⟨Nat.zero_le _, Nat.zero_le _⟩) hD hS hA (fun σ9 H locs h hP hD hS => ?_)
          refine lv_iconst (v := (1 : Int32)) hx hb nD_X5_endTake_51 (by decide) ?_
          exact mw_z hx hb hr hlocks rfl ⟨σ9, rfl, h⟩ hP hK hD hS nD_X5_endTake_52
        · have h := h.1 hc
          refine lv_iconst (v := (0 : Int32)) hx hb nD_X5_endTake_39 (by decide) ?_
          exact mw_z hx hb hr hlocks rfl ⟨σ1, rfl, h⟩ hP hK hD hS nD_X5_endTake_40
    · have h := h.2 hc
      refine lv_iconst (v := (0 : Int32)) hx hb nD_X5_endTake_25 (by decide) ?_
      exact mw_z hx hb hr hlocks rfl ⟨σ1, rfl, h⟩ hP hK hD hS nD_X5_endTake_26
set_option maxHeartbeats 4000000 in
set_option maxRecDepth 100000 in
theorem c_X5_giveUp (l : Launch) (D : va_G) (tc : Nat → ClassId) (a : Nat → Nat) (x1 : Int32) (σ : zS) (post : Int32 → zS → Prop) (h : j_X5_giveUp x1 σ post) : mWi l nM_X5_giveUp nC_X5_giveUp 2 (some .boolean) ({ frames := 23, cells := 0, slots := 0, locals := 576 } : Room) D (ztX tc) [.ref (a 0), .int x1] (zX a tc σ) (zQi (zX a tc) post) := by
  intro sz
  refine mt_W (by decide) (Nat.le_of_ble_eq_true rfl) ?_
  intro p e s m below meth c ls hx hb hml hr hown hlocks hin hw hn hP hK hD hS hA hl hsz
  subst hsz
  have hl : lv_has ls 2 [(0, .ref (a 0)), (1, .int x1)] := hl
  unfold j_X5_giveUp at h
  refine lv_aload_n hx hb nD_X5_giveUp_0 rfl (lv_at hl 0 rfl) ?_
  refine lv_iload_n hx hb nD_X5_giveUp_1 rfl (lv_at hl 1 rfl) ?_
  refine zC_i (va_runV (As := [.int x1]) (rest := []) ⟨hx, hb, hml, hown, hw⟩ (c_X5_hasOpenCall l D tc a x1 σ _ h _) (mcV 1 hw wm_305 wm_302 wm_304 wm_10 wm_25 rfl rfl nh_X5_hasOpenCall ⟨Nat.le_of_ble_eq_true rfl, Nat.le_of_ble_eq_true rfl⟩) (zp_V (ci := 4) hP hD hK hn rfl xc_0) rfl rfl hl.1 rfl (lv_room (Nat.le_of_ble_eq_true rfl)) nD_X5_giveUp_2 ⟨Nat.zero_le _, Nat.zero_le _⟩) hD hS hA (fun r2 σ1 H locs h hP hD hS => ?_)
  refine lv_if_ne (tgt := 10) hx hb nD_X5_giveUp_5 (by decide) (fun hc => ?_) (fun hc => ?_)
  · have h := h.2 hc
    refine lv_aload_n hx hb nD_X5_giveUp_10 rfl (lv_at hl 0 rfl) ?_
    refine lv_dup hx hb nD_X5_giveUp_11 rfl ?_
    refine va_get (D := D) (ci := 4) (v := .int (σ1.1 4)) (C := nR_X5) (T := nT_X5) (N := 10) hx hb hw wu_X5 hown hK hP 0 xc_0 rfl 7 (by decide) (hw _ wm_236) (fun _ h9 => h9) rfl nD_X5_giveUp_12 ?_
    refine lv_iconst (v := (1 : Int32)) hx hb nD_X5_giveUp_15 (by decide) ?_
    refine lv_aload_n hx hb nD_X5_giveUp_16 rfl (lv_at hl 0 rfl) ?_
    refine va_get (D := D) (ci := 4) (v := .ref (a 3)) (C := nR_X5) (T := nT_X5) (N := 10) hx hb hw wu_X5 hown hK hP 0 xc_0 rfl 2 (by decide) (hw _ wm_231) (fun _ h9 => h9) rfl nD_X5_giveUp_17 ?_
    refine lv_iload_n hx hb nD_X5_giveUp_20 rfl (lv_at hl 1 rfl) ?_
    obtain ⟨hi3, h⟩ := h
    refine va_iald (D := D) hx hb hK hP 3 1 xc_3 rfl hi3 nD_X5_giveUp_21 ?_
    refine lv_ishl hx hb nD_X5_giveUp_22 ?_
    refine lv_ior hx hb nD_X5_giveUp_23 ?_
    refine va_put (D := D) (ci := 4) (v := .int ((σ1.1 4) ||| ((1 : Int32) <<< ((σ1.2.1 0 x1.toNatClampNeg) &&& 31)))) (ty := .int) (C := nR_X5) (T := nT_X5) (N := 10) hx hb hw wu_X5 nY_X5 nO_X5 nN_X5 hown hK hP hD hS 0 xc_0 rfl 7 (by decide) (hw _ wm_236) (fun _ h9 => h9) rfl (by decide +kernel) rfl rfl (Nat.le_of_ble_eq_true rfl) nD_X5_giveUp_24 (fun H locs hP hD hS => ?_)
    obtain ⟨σ4, e_σ4⟩ : ∃ z : zS, z = zI σ1 4 ((σ1.1 4) ||| ((1 : Int32) <<< ((σ1.2.1 0 x1.toNatClampNeg) &&& 31))) := ⟨_, rfl⟩
    obtain ⟨hP, hD⟩ := znew (w := zX a tc) e_σ4 (xp_0_7) hP hD
    have h := h σ4 e_σ4
    clear e_σ4
    refine lv_aload_n hx hb nD_X5_giveUp_27 rfl (lv_at hl 0 rfl) ?_
    refine lv_iload_n hx hb nD_X5_giveUp_28 rfl (lv_at hl 1 rfl) ?_
    refine zC_v (va_runV (As := [.int x1]) (rest := []) ⟨hx, hb, hml, hown, hw⟩ (c_X5_closeOpenCall l D tc a x1 σ4 _ h _) (mcV 1 hw wm_313 wm_310 wm_312 wm_12 wm_25 rfl rfl nh_X5_closeOpenCall ⟨Nat.le_of_ble_eq_true rfl, Nat.le_of_ble_eq_true rfl⟩) (zp_V (ci := 4) hP hD hK hn rfl xc_0) rfl rfl hl.1 rfl (lv_room (Nat.le_of_ble_eq_true rfl)) nD_X5_giveUp_29 ⟨Nat.zero_le _, Nat.zero_le _⟩) hD hS hA (fun σ5 H locs h hP hD hS => ?_)
    refine lv_aload_n hx hb nD_X5_giveUp_32 rfl (lv_at hl 0 rfl) ?_
    refine zC_v (va_runV (As := []) (rest := []) ⟨hx, hb, hml, hown, hw⟩ (c_X5_review l D tc a σ5 _ h _) (mcV 0 hw wm_146 wm_143 wm_145 wm_1 wm_25 rfl rfl nh_X5_review ⟨Nat.le_of_ble_eq_true rfl, Nat.le_of_ble_eq_true rfl⟩) (zp_V (ci := 4) hP hD hK hn rfl xc_0) rfl rfl hl.1 rfl (lv_room (Nat.le_of_ble_eq_true rfl)) nD_X5_giveUp_33 ⟨Nat.zero_le _, Nat.zero_le _⟩) hD hS hA (fun σ6 H locs h hP hD hS => ?_)
    refine lv_iconst (v := (1 : Int32)) hx hb nD_X5_giveUp_36 (by decide) ?_
    exact mw_z hx hb hr hlocks rfl ⟨σ6, rfl, h⟩ hP hK hD hS nD_X5_giveUp_37
  · have h := h.1 hc
    refine lv_iconst (v := (0 : Int32)) hx hb nD_X5_giveUp_8 (by decide) ?_
    exact mw_z hx hb hr hlocks rfl ⟨σ1, rfl, h⟩ hP hK hD hS nD_X5_giveUp_9
end
section
set_option maxHeartbeats 4000000 in
set_option maxRecDepth 100000 in
theorem wl_M_openOf_4 {l : Launch} {p : Program} {e : Env} {s : State} {m : MethodId} {args : Array Value} {below : List Frame} {meth : Method} {c : Code} {D : va_G} {tc : Nat → ClassId} {a : Nat → Nat} {w0 : va_W} (x1 : Int32) (post : Int32 → zS → Prop) (K : Int32 → Int32 → zS → Prop) (hx : p.tables.exec = Jvm.exec) (hb : c.code = nC_M_openOf) (hml : c.maxLocals = 4) (hr : meth.sig.returnType = (some .int)) (hown : s.vm.findClass nM_M_openOf.cls = some m.cls) (hlocks : meth.locks = false) (hw : ∀ w ∈ wA, w.before args s = true) (hn : mN s) (hK : va_K D nCl (ztM tc) s) (hA : ∀ q, s.heap.size ≤ q → va_A w0 s.heap.size q)
    (hk : ∀ (y2 : Int32) (y3 : Int32) (σ : zS) (H : Heap) (locs : List Loc) (ls : Array Slot), K y2 y3 σ → va_P D nCl (zM a tc σ) H → va_D (va_A w0 s.heap.size) (zM a tc σ) → va_S (va_A w0 s.heap.size) s.heap H locs → lv_has ls 4 [(0, .ref (a 0)), (1, .int x1), (2, .int y2), (3, .int y3)] → W p l e ({ frames := 0, cells := 0, slots := 0, locals := 0 } : Room) s m args below meth c H locs 0 0 (MQ below (va_Qi (zQi (zM a tc) post) (mQW D (ztM tc) w0 s.heap.size) (va_A w0 s.heap.size)) args s 0 0 (va_A w0 s.heap.size)) (F0 m 43 ls [])) : ∀ q : Int32 × Int32 × zS, zLP (b_M_openOf_4 x1 post K) q → ∀ (H : Heap) (locs : List Loc) (ls : Array Slot), va_P D nCl (zM a tc q.2.2) H → va_D (va_A w0 s.heap.size) (zM a tc q.2.2) → va_S (va_A w0 s.heap.size) s.heap H locs → lv_has ls 4 [(0, .ref (a 0)), (1, .int x1), (2, .int q.1), (3, .int q.2.1)] → W p l e ({ frames := 0, cells := 0, slots := 0, locals := 0 } : Room) s m args below meth c H locs 0 0 (MQ below (va_Qi (zQi (zM a tc) post) (mQW D (ztM tc) w0 s.heap.size) (va_A w0 s.heap.size)) args s 0 0 (va_A w0 s.heap.size)) (F0 m 4 ls []) := by
  refine zLP_walk ?_
  rintro R ⟨y2, y3, σ⟩ hR h H locs ls hP hD hS hl
  dsimp only at hP hD hl
  dsimp only [b_M_openOf_4] at h
  refine lv_iload_n hx hb nD_M_openOf_4 rfl (lv_at hl 3 rfl) ?_
  refine lv_aload_n hx hb nD_M_openOf_5 rfl (lv_at hl 0 rfl) ?_
  refine va_get (D := D) (ci := 5) (v := .int (σ.1 4)) (C := nR_M) (T := nT_M) (N := 23) hx hb hw wu_M hown hK hP 0 yc_0 rfl 4 (by decide) (hw _ wm_427) (fun _ h9 => h9) rfl nD_M_openOf_6 ?_
  refine lv_icmp_ge (tgt := 43) hx hb nD_M_openOf_9 (by decide) (fun hc => ?_) (fun hc => ?_)
  · have h := h.1 hc
    exact hk y2 y3 σ _ _ ls h hP hD hS hl
  · have h := h.2 hc
    refine lv_aload_n hx hb nD_M_openOf_12 rfl (lv_at hl 0 rfl) ?_
    refine va_get (D := D) (ci := 5) (v := .ref (a 1)) (C := nR_M) (T := nT_M) (N := 23) hx hb hw wu_M hown hK hP 0 yc_0 rfl 5 (by decide) (hw _ wm_428) (fun _ h9 => h9) rfl nD_M_openOf_13 ?_
    refine lv_iload_n hx hb nD_M_openOf_16 rfl (lv_at hl 3 rfl) ?_
    obtain ⟨hi1, h⟩ := h
    refine va_iald (D := D) hx hb hK hP 1 0 yc_1 rfl hi1 nD_M_openOf_17 ?_
    refine lv_iload_n hx hb nD_M_openOf_18 rfl (lv_at hl 1 rfl) ?_
    refine lv_icmp_ne (tgt := 35) hx hb nD_M_openOf_19 (by decide) (fun hc => ?_) (fun hc => ?_)
    · have h := h.2 hc
      refine lv_iload_n hx hb nD_M_openOf_35 rfl (lv_at hl 2 rfl) ?_
      refine lv_istore_n hx hb nD_M_openOf_36 rfl hl (by decide) rfl (fun ls hl => ?_)
      have hl : lv_has ls 4 [(2, .int y2), (0, .ref (a 0)), (1, .int x1), (3, .int y3)] := hl
      refine lv_iinc (k := 3) (v := y3 + 1) hx hb nD_M_openOf_37 hl rfl rfl (by decide) rfl (fun ls hl => ?_)
      have hl : lv_has ls 4 [(3, .int (y3 + 1)), (2, .int y2), (0, .ref (a 0)), (1, .int x1)] := hl
      refine lv_goto (tgt := 4) hx hb nD_M_openOf_40 (by decide) ?_
      have hl := lv_sub (l' := [(0, .ref (a 0)), (1, .int x1), (2, .int y2), (3, .int (y3 + 1))]) hl [2, 3, 1, 0] rfl
      exact hR _ h _ _ ls hP hD hS hl
    · have h := h.1 hc
      refine lv_aload_n hx hb nD_M_openOf_22 rfl (lv_at hl 0 rfl) ?_
      refine va_get (D := D) (ci := 5) (v := .ref (a 7)) (C := nR_M) (T := nT_M) (N := 23) hx hb hw wu_M hown hK hP 0 yc_0 rfl 11 (by decide) (hw _ wm_434) (fun _ h9 => h9) rfl nD_M_openOf_23 ?_
      refine lv_iload_n hx hb nD_M_openOf_26 rfl (lv_at hl 3 rfl) ?_
      obtain ⟨hi2, h⟩ := h
      refine va_iald (D := D) hx hb hK hP 7 6 yc_7 rfl hi2 nD_M_openOf_27 ?_
      refine lv_if_ne (tgt := 35) hx hb nD_M_openOf_28 (by decide) (fun hc => ?_) (fun hc => ?_)
      · have h := h.2 hc
        refine lv_iload_n hx hb nD_M_openOf_35 rfl (lv_at hl 2 rfl) ?_
        refine lv_istore_n hx hb nD_M_openOf_36 rfl hl (by decide) rfl (fun ls hl => ?_)
        have hl : lv_has ls 4 [(2, .int y2), (0, .ref (a 0)), (1, .int x1), (3, .int y3)] := hl
        refine lv_iinc (k := 3) (v := y3 + 1) hx hb nD_M_openOf_37 hl rfl rfl (by decide) rfl (fun ls hl => ?_)
        have hl : lv_has ls 4 [(3, .int (y3 + 1)), (2, .int y2), (0, .ref (a 0)), (1, .int x1)] := hl
        refine lv_goto (tgt := 4) hx hb nD_M_openOf_40 (by decide) ?_
        have hl := lv_sub (l' := [(0, .ref (a 0)), (1, .int x1), (2, .int y2), (3, .int (y3 + 1))]) hl [2, 3, 1, 0] rfl
        exact hR _ h _ _ ls hP hD hS hl
      · have h := h.1 hc
        refine lv_iload_n hx hb nD_M_openOf_31 rfl (lv_at hl 3 rfl) ?_
        refine lv_goto (tgt := 36) hx hb nD_M_openOf_32 (by decide) ?_
        refine lv_istore_n hx hb nD_M_openOf_36 rfl hl (by decide) rfl (fun ls hl => ?_)
        have hl : lv_has ls 4 [(2, .int y3), (0, .ref (a 0)), (1, .int x1), (3, .int y3)] := hl
        refine lv_iinc (k := 3) (v := y3 + 1) hx hb nD_M_openOf_37 hl rfl rfl (by decide) rfl (fun ls hl => ?_)
        have hl : lv_has ls 4 [(3, .int (y3 + 1)), (2, .int y3), (0, .ref (a 0)), (1, .int x1)] := hl
        refine lv_goto (tgt := 4) hx hb nD_M_openOf_40 (by decide) ?_
        have hl := lv_sub (l' := [(0, .ref (a 0)), (1, .int x1), (2, .int y3), (3, .int (y3 + 1))]) hl [2, 3, 1, 0] rfl
        exact hR _ h _ _ ls hP hD hS hl
set_option maxHeartbeats 4000000 in
set_option maxRecDepth 100000 in
theorem c_M_openOf (l : Launch) (D : va_G) (tc : Nat → ClassId) (a : Nat → Nat) (x1 : Int32) (σ : zS) (post : Int32 → zS → Prop) (h : j_M_openOf x1 σ post) : mWi l nM_M_openOf nC_M_openOf 4 (some .int) ({ frames := 0, cells := 0, slots := 0, locals := 0 } : Room) D (ztM tc) [.ref (a 0), .int x1] (zM a tc σ) (zQi (zM a tc) post) := by
  intro sz
  refine mt_W (by decide) (Nat.le_of_ble_eq_true rfl) ?_
  intro p e s m below meth c ls hx hb hml hr hown hlocks hin hw hn hP hK hD hS hA hl hsz
  subst hsz
  have hl : lv_has ls 4 [(0, .ref (a 0)), (1, .int x1)] := hl
  unfold j_M_openOf at h
  refine lv_iconst (v := (-1 : Int32)) hx hb nD_M_openOf_0 (by decide) ?_
  refine lv_istore_n hx hb nD_M_openOf_1 rfl hl (by decide) rfl (fun ls hl => ?_)
  have hl : lv_has ls 4 [(2, .int (-1 : Int32)), (0, .ref (a 0)), (1, .int x1)] := hl
  refine lv_iconst (v := (0 : Int32)) hx hb nD_M_openOf_2 (by decide) ?_
  refine lv_istore_n hx hb nD_M_openOf_3 rfl hl (by decide) rfl (fun ls hl => ?_)
  have hl : lv_has ls 4 [(3, .int (0 : Int32)), (2, .int (-1 : Int32)), (0, .ref (a 0)), (1, .int x1)] := hl
  have hl := lv_sub (l' := [(0, .ref (a 0)), (1, .int x1), (2, .int (-1 : Int32)), (3, .int (0 : Int32))]) hl [2, 3, 1, 0] rfl
  refine wl_M_openOf_4 (l := l) x1 post _ hx hb hml hr hown hlocks hw hn hK hA (fun v3 v4 σ5 H locs ls h hP hD hS hl => ?_) ((-1 : Int32), (0 : Int32), σ) h _ _ ls hP hD hS hl
  refine lv_iload_n hx hb nD_M_openOf_43 rfl (lv_at hl 2 rfl) ?_
  exact mw_i hx hb hr hlocks ⟨σ5, rfl, h⟩ hP hK hD hS nD_M_openOf_44
set_option maxHeartbeats 4000000 in
set_option maxRecDepth 100000 in
theorem wl_M_carryOut_127 {l : Launch} {p : Program} {e : Env} {s : State} {m : MethodId} {args : Array Value} {below : List Frame} {meth : Method} {c : Code} {D : va_G} {tc : Nat → ClassId} {a : Nat → Nat} {w0 : va_W} (x2 : Int32) (x3 : Int32) (post : Int32 → zS → Prop) (K : Int32 → zS → Prop) (hx : p.tables.exec = Jvm.exec) (hb : c.code = nC_M_carryOut) (hml : c.maxLocals = 5) (hr : meth.sig.returnType = (some .int)) (hown : s.vm.findClass nM_M_carryOut.cls = some m.cls) (hlocks : meth.locks = false) (hw : ∀ w ∈ wA, w.before args s = true) (hn : mN s) (hK : va_K D nCl (ztM tc) s) (hA : ∀ q, s.heap.size ≤ q → va_A w0 s.heap.size q)
    (hk : ∀ (y4 : Int32) (σ : zS) (H : Heap) (locs : List Loc) (ls : Array Slot), K y4 σ → va_P D nCl (zM a tc σ) H → va_D (va_A w0 s.heap.size) (zM a tc σ) → va_S (va_A w0 s.heap.size) s.heap H locs → lv_has ls 5 [(0, .ref (a 0)), (2, .int x2), (3, .int x3), (4, .int y4)] → W p l e ({ frames := 0, cells := 0, slots := 0, locals := 0 } : Room) s m args below meth c H locs 0 0 (MQ below (va_Qi (zQi (zM a tc) post) (mQW D (ztM tc) w0 s.heap.size) (va_A w0 s.heap.size)) args s 0 0 (va_A w0 s.heap.size)) (F0 m 162 ls [])) : ∀ q : Int32 × zS, zLP (b_M_carryOut_127 x2 x3 post K) q → ∀ (H : Heap) (locs : List Loc) (ls : Array Slot), va_P D nCl (zM a tc q.2) H → va_D (va_A w0 s.heap.size) (zM a tc q.2) → va_S (va_A w0 s.heap.size) s.heap H locs → lv_has ls 5 [(0, .ref (a 0)), (2, .int x2), (3, .int x3), (4, .int q.1)] → W p l e ({ frames := 0, cells := 0, slots := 0, locals := 0 } : Room) s m args below meth c H locs 0 0 (MQ below (va_Qi (zQi (zM a tc) post) (mQW D (ztM tc) w0 s.heap.size) (va_A w0 s.heap.size)) args s 0 0 (va_A w0 s.heap.size)) (F0 m 127 ls []) := by
  refine zLP_walk ?_
  rintro R ⟨y4, σ⟩ hR h H locs ls hP hD hS hl
  dsimp only at hP hD hl
  dsimp only [b_M_carryOut_127] at h
  refine lv_iload hx hb nD_M_carryOut_127 (lv_at hl 3 rfl) ?_
  refine lv_aload_n hx hb nD_M_carryOut_129 rfl (lv_at hl 0 rfl) ?_
  refine va_get (D := D) (ci := 5) (v := .int (σ.1 6)) (C := nR_M) (T := nT_M) (N := 23) hx hb hw wu_M hown hK hP 0 yc_0 rfl 16 (by decide) (hw _ wm_439) (fun _ h9 => h9) rfl nD_M_carryOut_130 ?_
  refine lv_icmp_ge (tgt := 162) hx hb nD_M_carryOut_133 (by decide) (fun hc => ?_) (fun hc => ?_)
  · have h := h.1 hc
    exact hk y4 σ _ _ ls h hP hD hS hl
  · have h := h.2 hc
    refine lv_iload_n hx hb nD_M_carryOut_136 rfl (lv_at hl 1 rfl) ?_
    refine lv_if_ne (tgt := 162) hx hb nD_M_carryOut_137 (by decide) (fun hc => ?_) (fun hc => ?_)
    · have h := h.2 hc
      exact hk y4 σ _ _ ls h hP hD hS hl
    · have h := h.1 hc
      refine lv_aload_n hx hb nD_M_carryOut_140 rfl (lv_at hl 0 rfl) ?_
      refine va_get (D := D) (ci := 5) (v := .ref (a 11)) (C := nR_M) (T := nT_M) (N := 23) hx hb hw wu_M hown hK hP 0 yc_0 rfl 17 (by decide) (hw _ wm_440) (fun _ h9 => h9) rfl nD_M_carryOut_141 ?_
      refine lv_iload hx hb nD_M_carryOut_144 (lv_at hl 3 rfl) ?_
      refine lv_aload_n hx hb nD_M_carryOut_146 rfl (lv_at hl 0 rfl) ?_
      refine va_get (D := D) (ci := 5) (v := .ref (a 11)) (C := nR_M) (T := nT_M) (N := 23) hx hb hw wu_M hown hK hP 0 yc_0 rfl 17 (by decide) (hw _ wm_440) (fun _ h9 => h9) rfl nD_M_carryOut_147 ?_
      refine lv_iload hx hb nD_M_carryOut_150 (lv_at hl 3 rfl) ?_
      refine lv_iconst (v := (1 : Int32)) hx hb nD_M_carryOut_152 (by decide) ?_
      refine lv_iadd hx hb nD_M_carryOut_153 ?_
      obtain ⟨hi5, h⟩ := h
      refine va_iald (D := D) hx hb hK hP 11 10 yc_11 rfl hi5 nD_M_carryOut_154 ?_
      obtain ⟨hi6, h⟩ := h
      refine va_iast (D := D) hx hb hK hP hD hS 11 10 yc_11 rfl hi6 nD_M_carryOut_155 (fun H locs hP hD hS => ?_)
      obtain ⟨σ7, e_σ7⟩ : ∃ z : zS, z = zA σ 10 y4.toNatClampNeg (σ.2.1 10 (y4 + (1 : Int32)).toNatClampNeg) := ⟨_, rfl⟩
      obtain ⟨hP, hD⟩ := znew (w := zM a tc) e_σ7 (ya_11) hP hD
      have h := h σ7 e_σ7
      clear e_σ7
      refine lv_iinc (k := 3) (v := y4 + 1) hx hb nD_M_carryOut_156 hl rfl rfl (by decide) rfl (fun ls hl => ?_)
      have hl : lv_has ls 5 [(4, .int (y4 + 1)), (0, .ref (a 0)), (2, .int x2), (3, .int x3)] := hl
      refine lv_goto (tgt := 127) hx hb nD_M_carryOut_159 (by decide) ?_
      have hl := lv_sub (l' := [(0, .ref (a 0)), (2, .int x2), (3, .int x3), (4, .int (y4 + 1))]) hl [1, 2, 3, 0] rfl
      exact hR _ h _ _ ls hP hD hS hl
set_option maxHeartbeats 4000000 in
set_option maxRecDepth 100000 in
theorem c_M_carryOut (l : Launch) (D : va_G) (tc : Nat → ClassId) (a : Nat → Nat) (x1 : Int32) (σ : zS) (post : Int32 → zS → Prop) (h : j_M_carryOut x1 σ post) : mWi l nM_M_carryOut nC_M_carryOut 5 (some .int) ({ frames := 0, cells := 0, slots := 0, locals := 0 } : Room) D (ztM tc) [.ref (a 0), .int x1] (zM a tc σ) (zQi (zM a tc) post) := by
  intro sz
  refine mt_W (by decide) (Nat.le_of_ble_eq_true rfl) ?_
  intro p e s m below meth c ls hx hb hml hr hown hlocks hin hw hn hP hK hD hS hA hl hsz
  subst hsz
  have hl : lv_has ls 5 [(0, .ref (a 0)), (1, .int x1)] := hl
  unfold j_M_carryOut at h
  refine lv_aload_n hx hb nD_M_carryOut_0 rfl (lv_at hl 0 rfl) ?_
  refine va_get (D := D) (ci := 5) (v := .ref (a 2)) (C := nR_M) (T := nT_M) (N := 23) hx hb hw wu_M hown hK hP 0 yc_0 rfl 6 (by decide) (hw _ wm_429) (fun _ h9 => h9) rfl nD_M_carryOut_1 ?_
  refine lv_iload_n hx hb nD_M_carryOut_4 rfl (lv_at hl 1 rfl) ?_
  obtain ⟨hi1, h⟩ := h
  refine va_zald (D := D) hx hb hK hP 2 1 yc_2 rfl hi1 nD_M_carryOut_5 ?_
  refine lv_if_eq (tgt := 49) hx hb nD_M_carryOut_6 (by decide) (fun hc => ?_) (fun hc => ?_)
  · have h := h.1 hc
    refine lv_aload_n hx hb nD_M_carryOut_49 rfl (lv_at hl 0 rfl) ?_
    refine va_get (D := D) (ci := 5) (v := .int (σ.1 6)) (C := nR_M) (T := nT_M) (N := 23) hx hb hw wu_M hown hK hP 0 yc_0 rfl 16 (by decide) (hw _ wm_439) (fun _ h9 => h9) rfl nD_M_carryOut_50 ?_
    refine lv_if_ne (tgt := 58) hx hb nD_M_carryOut_53 (by decide) (fun hc => ?_) (fun hc => ?_)
    · have h := h.2 hc
      refine lv_aload_n hx hb nD_M_carryOut_58 rfl (lv_at hl 0 rfl) ?_
      refine va_get (D := D) (ci := 5) (v := .int (σ.1 0)) (C := nR_M) (T := nT_M) (N := 23) hx hb hw wu_M hown hK hP 0 yc_0 rfl 0 (by decide) (hw _ wm_423) (fun _ h9 => h9) rfl nD_M_carryOut_59 ?_
      refine lv_iconst (v := (1 : Int32)) hx hb nD_M_carryOut_62 (by decide) ?_
      refine lv_icmp_eq (tgt := 83) hx hb nD_M_carryOut_63 (by decide) (fun hc => ?_) (fun hc => ?_)
      · have h := h.1 hc
        refine lv_iconst (v := (1 : Int32)) hx hb nD_M_carryOut_83 (by decide) ?_
        refine lv_goto (tgt := 88) hx hb nD_M_carryOut_84 (by decide) ?_
        refine lv_istore_n hx hb nD_M_carryOut_88 rfl hl (by decide) rfl (fun ls hl => ?_)
        have hl : lv_has ls 5 [(2, .int (1 : Int32)), (0, .ref (a 0)), (1, .int x1)] := hl
        refine lv_iload_n hx hb nD_M_carryOut_89 rfl (lv_at hl 0 rfl) ?_
        refine lv_if_eq (tgt := 107) hx hb nD_M_carryOut_90 (by decide) (fun hc => ?_) (fun hc => ?_)
        · have h := h.1 hc
          refine lv_aload_n hx hb nD_M_carryOut_107 rfl (lv_at hl 1 rfl) ?_
          refine va_get (D := D) (ci := 5) (v := .ref (a 11)) (C := nR_M) (T := nT_M) (N := 23) hx hb hw wu_M hown hK hP 0 yc_0 rfl 17 (by decide) (hw _ wm_440) (fun _ h9 => h9) rfl nD_M_carryOut_108 ?_
          refine lv_iconst (v := (0 : Int32)) hx hb nD_M_carryOut_111 (by decide) ?_
          obtain ⟨hi2, h⟩ := h
          refine va_iald (D := D) hx hb hK hP 11 10 yc_11 rfl hi2 nD_M_carryOut_112 ?_
          refine lv_topi (fun v3 e_v3 => ?_)
          have h := h v3 e_v3
          clear e_v3
          refine lv_istore_n hx hb nD_M_carryOut_113 rfl hl (by decide) rfl (fun ls hl => ?_)
          have hl : lv_has ls 5 [(3, .int v3), (2, .int (1 : Int32)), (0, .ref (a 0)), (1, .int x1)] := hl
          refine lv_aload_n hx hb nD_M_carryOut_114 rfl (lv_at hl 2 rfl) ?_
          refine lv_dup hx hb nD_M_carryOut_115 rfl ?_
          refine va_get (D := D) (ci := 5) (v := .int (σ.1 6)) (C := nR_M) (T := nT_M) (N := 23) hx hb hw wu_M hown hK hP 0 yc_0 rfl 16 (by decide) (hw _ wm_439) (fun _ h9 => h9) rfl nD_M_carryOut_116 ?_
          refine lv_iconst (v := (1 : Int32)) hx hb nD_M_carryOut_119 (by decide) ?_
          refine lv_isub hx hb nD_M_carryOut_120 ?_
          refine va_put (D := D) (ci := 5) (v := .int ((σ.1 6) - (1 : Int32))) (ty := .int) (C := nR_M) (T := nT_M) (N := 23) hx hb hw wu_M nY_M nO_M nN_M hown hK hP hD hS 0 yc_0 rfl 16 (by decide) (hw _ wm_439) (fun _ h9 => h9) rfl (by decide +kernel) rfl rfl (Nat.le_of_ble_eq_true rfl) nD_M_carryOut_121 (fun H locs hP hD hS => ?_)
          obtain ⟨σ4, e_σ4⟩ : ∃ z : zS, z = zI σ 6 ((σ.1 6) - (1 : Int32)) := ⟨_, rfl⟩
          obtain ⟨hP, hD⟩ := znew (w := zM a tc) e_σ4 (yp_0_16) hP hD
          have h := h σ4 e_σ4
          clear e_σ4
          refine lv_iconst (v := (0 : Int32)) hx hb nD_M_carryOut_124 (by decide) ?_
          refine lv_istore hx hb nD_M_carryOut_125 hl (by decide) rfl (fun ls hl => ?_)
          have hl : lv_has ls 5 [(4, .int (0 : Int32)), (3, .int v3), (2, .int (1 : Int32)), (0, .ref (a 0)), (1, .int x1)] := hl
          have hl := lv_sub (l' := [(0, .ref (a 0)), (2, .int (1 : Int32)), (3, .int v3), (4, .int (0 : Int32))]) hl [3, 2, 1, 0] rfl
          refine wl_M_carryOut_127 (l := l) (1 : Int32) v3 post _ hx hb hml hr hown hlocks hw hn hK hA (fun v8 σ9 H locs ls h hP hD hS hl => ?_) ((0 : Int32), σ4) h _ _ ls hP hD hS hl
          refine lv_iload_n hx hb nD_M_carryOut_162 rfl (lv_at hl 2 rfl) ?_
          exact mw_i hx hb hr hlocks ⟨σ9, rfl, h⟩ hP hK hD hS nD_M_carryOut_163
        · have h := h.2 hc
          refine lv_aload_n hx hb nD_M_carryOut_93 rfl (lv_at hl 1 rfl) ?_
          refine va_get (D := D) (ci := 5) (v := .ref (a 11)) (C := nR_M) (T := nT_M) (N := 23) hx hb hw wu_M hown hK hP 0 yc_0 rfl 17 (by decide) (hw _ wm_440) (fun _ h9 => h9) rfl nD_M_carryOut_94 ?_
          refine lv_aload_n hx hb nD_M_carryOut_97 rfl (lv_at hl 1 rfl) ?_
          refine va_get (D := D) (ci := 5) (v := .int (σ.1 6)) (C := nR_M) (T := nT_M) (N := 23) hx hb hw wu_M hown hK hP 0 yc_0 rfl 16 (by decide) (hw _ wm_439) (fun _ h9 => h9) rfl nD_M_carryOut_98 ?_
          refine lv_iconst (v := (1 : Int32)) hx hb nD_M_carryOut_101 (by decide) ?_
          refine lv_isub hx hb nD_M_carryOut_102 ?_
          obtain ⟨hi10, h⟩ := h
          refine va_iald (D := D) hx hb hK hP 11 10 yc_11 rfl hi10 nD_M_carryOut_103 ?_
          refine lv_goto (tgt := 113) hx hb nD_M_carryOut_104 (by decide) ?_
          refine lv_topi (fun v11 e_v11 => ?_)
          have h := h v11 e_v11
          clear e_v11
          refine lv_istore_n hx hb nD_M_carryOut_113 rfl hl (by decide) rfl (fun ls hl => ?_)
          have hl : lv_has ls 5 [(3, .int v11), (2, .int (1 : Int32)), (0, .ref (a 0)), (1, .int x1)] := hl
          refine lv_aload_n hx hb nD_M_carryOut_114 rfl (lv_at hl 2 rfl) ?_
          refine lv_dup hx hb nD_M_carryOut_115 rfl ?_
          refine va_get (D := D) (ci := 5) (v := .int (σ.1 6)) (C := nR_M) (T := nT_M) (N := 23) hx hb hw wu_M hown hK hP 0 yc_0 rfl 16 (by decide) (hw _ wm_439) (fun _ h9 => h9) rfl nD_M_carryOut_116 ?_
          refine lv_iconst (v := (1 : Int32)) hx hb nD_M_carryOut_119 (by decide) ?_
          refine lv_isub hx hb nD_M_carryOut_120 ?_
          refine va_put (D := D) (ci := 5) (v := .int ((σ.1 6) - (1 : Int32))) (ty := .int) (C := nR_M) (T := nT_M) (N := 23) hx hb hw wu_M nY_M nO_M nN_M hown hK hP hD hS 0 yc_0 rfl 16 (by decide) (hw _ wm_439) (fun _ h9 => h9) rfl (by decide +kernel) rfl rfl (Nat.le_of_ble_eq_true rfl) nD_M_carryOut_121 (fun H locs hP hD hS => ?_)
          obtain ⟨σ12, e_σ12⟩ : ∃ z : zS, z = zI σ 6 ((σ.1 6) - (1 : Int32)) := ⟨_, rfl⟩
          obtain ⟨hP, hD⟩ := znew (w := zM a tc) e_σ12 (yp_0_16) hP hD
          have h := h σ12 e_σ12
          clear e_σ12
          refine lv_iconst (v := (0 : Int32)) hx hb nD_M_carryOut_124 (by decide) ?_
          refine lv_istore hx hb nD_M_carryOut_125 hl (by decide) rfl (fun ls hl => ?_)
          have hl : lv_has ls 5 [(4, .int (0 : Int32)), (3, .int v11), (2, .int (1 : Int32)), (0, .ref (a 0)), (1, .int x1)] := hl
          have hl := lv_sub (l' := [(0, .ref (a 0)), (2, .int (1 : Int32)), (3, .int v11), (4, .int (0 : Int32))]) hl [3, 2, 1, 0] rfl
          refine wl_M_carryOut_127 (l := l) (1 : Int32) v11 post _ hx hb hml hr hown hlocks hw hn hK hA (fun v13 σ14 H locs ls h hP hD hS hl => ?_) ((0 : Int32), σ12) h _ _ ls hP hD hS hl
          refine lv_iload_n hx hb nD_M_carryOut_162 rfl (lv_at hl 2 rfl) ?_
          exact mw_i hx hb hr hlocks ⟨σ14, rfl, h⟩ hP hK hD hS nD_M_carryOut_163
      · have h := h.2 hc
        refine lv_aload_n hx hb nD_M_carryOut_66 rfl (lv_at hl 0 rfl) ?_
        refine va_get (D := D) (ci := 5) (v := .int (σ.1 0)) (C := nR_M) (T := nT_M) (N := 23) hx hb hw wu_M hown hK hP 0 yc_0 rfl 0 (by decide) (hw _ wm_423) (fun _ h9 => h9) rfl nD_M_carryOut_67 ?_
        refine lv_iconst (v := (2 : Int32)) hx hb nD_M_carryOut_70 (by decide) ?_
        refine lv_icmp_ne (tgt := 87) hx hb nD_M_carryOut_71 (by decide) (fun hc => ?_) (fun hc => ?_)
        · have h := h.2 hc
          refine lv_iconst (v := (0 : Int32)) hx hb nD_M_carryOut_87 (by decide) ?_
          refine lv_istore_n hx hb nD_M_carryOut_88 rfl hl (by decide) rfl (fun ls hl => ?_)
          have hl : lv_has ls 5 [(2, .int (0 : Int32)), (0, .ref (a 0)), (1, .int x1)] := hl
          refine lv_iload_n hx hb nD_M_carryOut_89 rfl (lv_at hl 0 rfl) ?_
          refine lv_if_eq (tgt := 107) hx hb nD_M_carryOut_90 (by decide) (fun hc => ?_) (fun hc => ?_)
          · have h := h.1 hc
            refine lv_aload_n hx hb nD_M_carryOut_107 rfl (lv_at hl 1 rfl) ?_
            refine va_get (D := D) (ci := 5) (v := .ref (a 11)) (C := nR_M) (T := nT_M) (N := 23) hx hb hw wu_M hown hK hP 0 yc_0 rfl 17 (by decide) (hw _ wm_440) (fun _ h9 => h9) rfl nD_M_carryOut_108 ?_
            refine lv_iconst (v := (0 : Int32)) hx hb nD_M_carryOut_111 (by decide) ?_
            obtain ⟨hi15, h⟩ := h
            refine va_iald (D := D) hx hb hK hP 11 10 yc_11 rfl hi15 nD_M_carryOut_112 ?_
            refine lv_topi (fun v16 e_v16 => ?_)
            have h := h v16 e_v16
            clear e_v16
            refine lv_istore_n hx hb nD_M_carryOut_113 rfl hl (by decide) rfl (fun ls hl => ?_)
            have hl : lv_has ls 5 [(3, .int v16), (2, .int (0 : Int32)), (0, .ref (a 0)), (1, .int x1)] := hl
            refine lv_aload_n hx hb nD_M_carryOut_114 rfl (lv_at hl 2 rfl) ?_
            refine lv_dup hx hb nD_M_carryOut_115 rfl ?_
            refine va_get (D := D) (ci := 5) (v := .int (σ.1 6)) (C := nR_M) (T := nT_M) (N := 23) hx hb hw wu_M hown hK hP 0 yc_0 rfl 16 (by decide) (hw _ wm_439) (fun _ h9 => h9) rfl nD_M_carryOut_116 ?_
            refine lv_iconst (v := (1 : Int32)) hx hb nD_M_carryOut_119 (by decide) ?_
            refine lv_isub hx hb nD_M_carryOut_120 ?_
            refine va_put (D := D) (ci := 5) (v := .int ((σ.1 6) - (1 : Int32))) (ty := .int) (C := nR_M) (T := nT_M) (N := 23) hx hb hw wu_M nY_M nO_M nN_M hown hK hP hD hS 0 yc_0 rfl 16 (by decide) (hw _ wm_439) (fun _ h9 => h9) rfl (by decide +kernel) rfl rfl (Nat.le_of_ble_eq_true rfl) nD_M_carryOut_121 (fun H locs hP hD hS => ?_)
            obtain ⟨σ17, e_σ17⟩ : ∃ z : zS, z = zI σ 6 ((σ.1 6) - (1 : Int32)) := ⟨_, rfl⟩
            obtain ⟨hP, hD⟩ := znew (w := zM a tc) e_σ17 (yp_0_16) hP hD
            have h := h σ17 e_σ17
            clear e_σ17
            refine lv_iconst (v := (0 : Int32)) hx hb nD_M_carryOut_124 (by decide) ?_
            refine lv_istore hx hb nD_M_carryOut_125 hl (by decide) rfl (fun ls hl => ?_)
            have hl : lv_has ls 5 [(4, .int (0 : Int32)), (3, .int v16), (2, .int (0 : Int32)), (0, .ref (a 0)), (1, .int x1)] := hl
            have hl := lv_sub (l' := [(0, .ref (a 0)), (2, .int (0 : Int32)), (3, .int v16), (4, .int (0 : Int32))]) hl [3, 2, 1, 0] rfl
            refine wl_M_carryOut_127 (l := l) (0 : Int32) v16 post _ hx hb hml hr hown hlocks hw hn hK hA (fun v18 σ19 H locs ls h hP hD hS hl => ?_) ((0 : Int32), σ17) h _ _ ls hP hD hS hl
            refine lv_iload_n hx hb nD_M_carryOut_162 rfl (lv_at hl 2 rfl) ?_
            exact mw_i hx hb hr hlocks ⟨σ19, rfl, h⟩ hP hK hD hS nD_M_carryOut_163
          · have h := h.2 hc
            refine lv_aload_n hx hb nD_M_carryOut_93 rfl (lv_at hl 1 rfl) ?_
            refine va_get (D := D) (ci := 5) (v := .ref (a 11)) (C := nR_M) (T := nT_M) (N := 23) hx hb hw wu_M hown hK hP 0 yc_0 rfl 17 (by decide) (hw _ wm_440) (fun _ h9 => h9) rfl nD_M_carryOut_94 ?_
            refine lv_aload_n hx hb nD_M_carryOut_97 rfl (lv_at hl 1 rfl) ?_
            refine va_get (D := D) (ci := 5) (v := .int (σ.1 6)) (C := nR_M) (T := nT_M) (N := 23) hx hb hw wu_M hown hK hP 0 yc_0 rfl 16 (by decide) (hw _ wm_439) (fun _ h9 => h9) rfl nD_M_carryOut_98 ?_
            refine lv_iconst (v := (1 : Int32)) hx hb nD_M_carryOut_101 (by decide) ?_
            refine lv_isub hx hb nD_M_carryOut_102 ?_
            obtain ⟨hi20, h⟩ := h
            refine va_iald (D := D) hx hb hK hP 11 10 yc_11 rfl hi20 nD_M_carryOut_103 ?_
            refine lv_goto (tgt := 113) hx hb nD_M_carryOut_104 (by decide) ?_
            refine lv_topi (fun v21 e_v21 => ?_)
            have h := h v21 e_v21
            clear e_v21
            refine lv_istore_n hx hb nD_M_carryOut_113 rfl hl (by decide) rfl (fun ls hl => ?_)
            have hl : lv_has ls 5 [(3, .int v21), (2, .int (0 : Int32)), (0, .ref (a 0)), (1, .int x1)] := hl
            refine lv_aload_n hx hb nD_M_carryOut_114 rfl (lv_at hl 2 rfl) ?_
            refine lv_dup hx hb nD_M_carryOut_115 rfl ?_
            refine va_get (D := D) (ci := 5) (v := .int (σ.1 6)) (C := nR_M) (T := nT_M) (N := 23) hx hb hw wu_M hown hK hP 0 yc_0 rfl 16 (by decide) (hw _ wm_439) (fun _ h9 => h9) rfl nD_M_carryOut_116 ?_
            refine lv_iconst (v := (1 : Int32)) hx hb nD_M_carryOut_119 (by decide) ?_
            refine lv_isub hx hb nD_M_carryOut_120 ?_
            refine va_put (D := D) (ci := 5) (v := .int ((σ.1 6) - (1 : Int32))) (ty := .int) (C := nR_M) (T := nT_M) (N := 23) hx hb hw wu_M nY_M nO_M nN_M hown hK hP hD hS 0 yc_0 rfl 16 (by decide) (hw _ wm_439) (fun _ h9 => h9) rfl (by decide +kernel) rfl rfl (Nat.le_of_ble_eq_true rfl) nD_M_carryOut_121 (fun H locs hP hD hS => ?_)
            obtain ⟨σ22, e_σ22⟩ : ∃ z : zS, z = zI σ 6 ((σ.1 6) - (1 : Int32)) := ⟨_, rfl⟩
            obtain ⟨hP, hD⟩ := znew (w := zM a tc) e_σ22 (yp_0_16) hP hD
            have h := h σ22 e_σ22
            clear e_σ22
            refine lv_iconst (v := (0 : Int32)) hx hb nD_M_carryOut_124 (by decide) ?_
            refine lv_istore hx hb nD_M_carryOut_125 hl (by decide) rfl (fun ls hl => ?_)
            have hl : lv_has ls 5 [(4, .int (0 : Int32)), (3, .int v21), (2, .int (0 : Int32)), (0, .ref (a 0)), (1, .int x1)] := hl
            have hl := lv_sub (l' := [(0, .ref (a 0)), (2, .int (0 : Int32)), (3, .int v21), (4, .int (0 : Int32))]) hl [3, 2, 1, 0] rfl
            refine wl_M_carryOut_127 (l := l) (0 : Int32) v21 post _ hx hb hml hr hown hlocks hw hn hK hA (fun v23 σ24 H locs ls h hP hD hS hl => ?_) ((0 : Int32), σ22) h _ _ ls hP hD hS hl
            refine lv_iload_n hx hb nD_M_carryOut_162 rfl (lv_at hl 2 rfl) ?_
            exact mw_i hx hb hr hlocks ⟨σ24, rfl, h⟩ hP hK hD hS nD_M_carryOut_163
        · have h := h.1 hc
          refine lv_aload_n hx hb nD_M_carryOut_74 rfl (lv_at hl 0 rfl) ?_
          refine va_get (D := D) (ci := 5) (v := .ref (a 1)) (C := nR_M) (T := nT_M) (N := 23) hx hb hw wu_M hown hK hP 0 yc_0 rfl 5 (by decide) (hw _ wm_428) (fun _ h9 => h9) rfl nD_M_carryOut_75 ?_
          refine lv_iload_n hx hb nD_M_carryOut_78 rfl (lv_at hl 1 rfl) ?_
          obtain ⟨hi25, h⟩ := h
          refine va_iald (D := D) hx hb hK hP 1 0 yc_1 rfl hi25 nD_M_carryOut_79 ?_
          refine lv_if_ne (tgt := 87) hx hb nD_M_carryOut_80 (by decide) (fun hc => ?_) (fun hc => ?_)
          · have h := h.2 hc
            refine lv_iconst (v := (0 : Int32)) hx hb nD_M_carryOut_87 (by decide) ?_
            refine lv_istore_n hx hb nD_M_carryOut_88 rfl hl (by decide) rfl (fun ls hl => ?_)
            have hl : lv_has ls 5 [(2, .int (0 : Int32)), (0, .ref (a 0)), (1, .int x1)] := hl
            refine lv_iload_n hx hb nD_M_carryOut_89 rfl (lv_at hl 0 rfl) ?_
            refine lv_if_eq (tgt := 107) hx hb nD_M_carryOut_90 (by decide) (fun hc => ?_) (fun hc => ?_)
            · have h := h.1 hc
              refine lv_aload_n hx hb nD_M_carryOut_107 rfl (lv_at hl 1 rfl) ?_
              refine va_get (D := D) (ci := 5) (v := .ref (a 11)) (C := nR_M) (T := nT_M) (N := 23) hx hb hw wu_M hown hK hP 0 yc_0 rfl 17 (by decide) (hw _ wm_440) (fun _ h9 => h9) rfl nD_M_carryOut_108 ?_
              refine lv_iconst (v := (0 : Int32)) hx hb nD_M_carryOut_111 (by decide) ?_
              obtain ⟨hi26, h⟩ := h
              refine va_iald (D := D) hx hb hK hP 11 10 yc_11 rfl hi26 nD_M_carryOut_112 ?_
              refine lv_topi (fun v27 e_v27 => ?_)
              have h := h v27 e_v27
              clear e_v27
              refine lv_istore_n hx hb nD_M_carryOut_113 rfl hl (by decide) rfl (fun ls hl => ?_)
              have hl : lv_has ls 5 [(3, .int v27), (2, .int (0 : Int32)), (0, .ref (a 0)), (1, .int x1)] := hl
              refine lv_aload_n hx hb nD_M_carryOut_114 rfl (lv_at hl 2 rfl) ?_
              refine lv_dup hx hb nD_M_carryOut_115 rfl ?_
              refine va_get (D := D) (ci := 5) (v := .int (σ.1 6)) (C := nR_M) (T := nT_M) (N := 23) hx hb hw wu_M hown hK hP 0 yc_0 rfl 16 (by decide) (hw _ wm_439) (fun _ h9 => h9) rfl nD_M_carryOut_116 ?_
              refine lv_iconst (v := (1 : Int32)) hx hb nD_M_carryOut_119 (by decide) ?_
              refine lv_isub hx hb nD_M_carryOut_120 ?_
              refine va_put (D := D) (ci := 5) (v := .int ((σ.1 6) - (1 : Int32))) (ty := .int) (C := nR_M) (T := nT_M) (N := 23) hx hb hw wu_M nY_M nO_M nN_M hown hK hP hD hS 0 yc_0 rfl 16 (by decide) (hw _ wm_439) (fun _ h9 => h9) rfl (by decide +kernel) rfl rfl (Nat.le_of_ble_eq_true rfl) nD_M_carryOut_121 (fun H locs hP hD hS => ?_)
              obtain ⟨σ28, e_σ28⟩ : ∃ z : zS, z = zI σ 6 ((σ.1 6) - (1 : Int32)) := ⟨_, rfl⟩
              obtain ⟨hP, hD⟩ := znew (w := zM a tc) e_σ28 (yp_0_16) hP hD
              have h := h σ28 e_σ28
              clear e_σ28
              refine lv_iconst (v := (0 : Int32)) hx hb nD_M_carryOut_124 (by decide) ?_
              refine lv_istore hx hb nD_M_carryOut_125 hl (by decide) rfl (fun ls hl => ?_)
              have hl : lv_has ls 5 [(4, .int (0 : Int32)), (3, .int v27), (2, .int (0 : Int32)), (0, .ref (a 0)), (1, .int x1)] := hl
              have hl := lv_sub (l' := [(0, .ref (a 0)), (2, .int (0 : Int32)), (3, .int v27), (4, .int (0 : Int32))]) hl [3, 2, 1, 0] rfl
              refine wl_M_carryOut_127 (l := l) (0 : Int32) v27 post _ hx hb hml hr hown hlocks hw hn hK hA (fun v29 σ30 H locs ls h hP hD hS hl => ?_) ((0 : Int32), σ28) h _ _ ls hP hD hS hl
              refine lv_iload_n hx hb nD_M_carryOut_162 rfl (lv_at hl 2 rfl) ?_
              exact mw_i hx hb hr hlocks ⟨σ30, rfl, h⟩ hP hK hD hS nD_M_carryOut_163
            · have h := h.2 hc
              refine lv_aload_n hx hb nD_M_carryOut_93 rfl (lv_at hl 1 rfl) ?_
              refine va_get (D := D) (ci := 5) (v := .ref (a 11)) (C := nR_M) (T := nT_M) (N := 23) hx hb hw wu_M hown hK hP 0 yc_0 rfl 17 (by decide) (hw _ wm_440) (fun _ h9 => h9) rfl nD_M_carryOut_94 ?_
              refine lv_aload_n hx hb nD_M_carryOut_97 rfl (lv_at hl 1 rfl) ?_
              refine va_get (D := D) (ci := 5) (v := .int (σ.1 6)) (C := nR_M) (T := nT_M) (N := 23) hx hb hw wu_M hown hK hP 0 yc_0 rfl 16 (by decide) (hw _ wm_439) (fun _ h9 => h9) rfl nD_M_carryOut_98 ?_
              refine lv_iconst (v := (1 : Int32)) hx hb nD_M_carryOut_101 (by decide) ?_
              refine lv_isub hx hb nD_M_carryOut_102 ?_
              obtain ⟨hi31, h⟩ := h
              refine va_iald (D := D) hx hb hK hP 11 10 yc_11 rfl hi31 nD_M_carryOut_103 ?_
              refine lv_goto (tgt := 113) hx hb nD_M_carryOut_104 (by decide) ?_
              refine lv_topi (fun v32 e_v32 => ?_)
              have h := h v32 e_v32
              clear e_v32
              refine lv_istore_n hx hb nD_M_carryOut_113 rfl hl (by decide) rfl (fun ls hl => ?_)
              have hl : lv_has ls 5 [(3, .int v32), (2, .int (0 : Int32)), (0, .ref (a 0)), (1, .int x1)] := hl
              refine lv_aload_n hx hb nD_M_carryOut_114 rfl (lv_at hl 2 rfl) ?_
              refine lv_dup hx hb nD_M_carryOut_115 rfl ?_
              refine va_get (D := D) (ci := 5) (v := .int (σ.1 6)) (C := nR_M) (T := nT_M) (N := 23) hx hb hw wu_M hown hK hP 0 yc_0 rfl 16 (by decide) (hw _ wm_439) (fun _ h9 => h9) rfl nD_M_carryOut_116 ?_
              refine lv_iconst (v := (1 : Int32)) hx hb nD_M_carryOut_119 (by decide) ?_
              refine lv_isub hx hb nD_M_carryOut_120 ?_
              refine va_put (D := D) (ci := 5) (v := .int ((σ.1 6) - (1 : Int32))) (ty := .int) (C := nR_M) (T := nT_M) (N := 23) hx hb hw wu_M nY_M nO_M nN_M hown hK hP hD hS 0 yc_0 rfl 16 (by decide) (hw _ wm_439) (fun _ h9 => h9) rfl (by decide +kernel) rfl rfl (Nat.le_of_ble_eq_true rfl) nD_M_carryOut_121 (fun H locs hP hD hS => ?_)
              obtain ⟨σ33, e_σ33⟩ : ∃ z : zS, z = zI σ 6 ((σ.1 6) - (1 : Int32)) := ⟨_, rfl⟩
              obtain ⟨hP, hD⟩ := znew (w := zM a tc) e_σ33 (yp_0_16) hP hD
              have h := h σ33 e_σ33
              clear e_σ33
              refine lv_iconst (v := (0 : Int32)) hx hb nD_M_carryOut_124 (by decide) ?_
              refine lv_istore hx hb nD_M_carryOut_125 hl (by decide) rfl (fun ls hl => ?_)
              have hl : lv_has ls 5 [(4, .int (0 : Int32)), (3, .int v32), (2, .int (0 : Int32)), (0, .ref (a 0)), (1, .int x1)] := hl
              have hl := lv_sub (l' := [(0, .ref (a 0)), (2, .int (0 : Int32)), (3, .int v32), (4, .int (0 : Int32))]) hl [3, 2, 1, 0] rfl
              refine wl_M_carryOut_127 (l := l) (0 : Int32) v32 post _ hx hb hml hr hown hlocks hw hn hK hA (fun v34 σ35 H locs ls h hP hD hS hl => ?_) ((0 : Int32), σ33) h _ _ ls hP hD hS hl
              refine lv_iload_n hx hb nD_M_carryOut_162 rfl (lv_at hl 2 rfl) ?_
              exact mw_i hx hb hr hlocks ⟨σ35, rfl, h⟩ hP hK hD hS nD_M_carryOut_163
          · have h := h.1 hc
            refine lv_iconst (v := (1 : Int32)) hx hb nD_M_carryOut_83 (by decide) ?_
            refine lv_goto (tgt := 88) hx hb nD_M_carryOut_84 (by decide) ?_
            refine lv_istore_n hx hb nD_M_carryOut_88 rfl hl (by decide) rfl (fun ls hl => ?_)
            have hl : lv_has ls 5 [(2, .int (1 : Int32)), (0, .ref (a 0)), (1, .int x1)] := hl
            refine lv_iload_n hx hb nD_M_carryOut_89 rfl (lv_at hl 0 rfl) ?_
            refine lv_if_eq (tgt := 107) hx hb nD_M_carryOut_90 (by decide) (fun hc => ?_) (fun hc => ?_)
            · have h := h.1 hc
              refine lv_aload_n hx hb nD_M_carryOut_107 rfl (lv_at hl 1 rfl) ?_
              refine va_get (D := D) (ci := 5) (v := .ref (a 11)) (C := nR_M) (T := nT_M) (N := 23) hx hb hw wu_M hown hK hP 0 yc_0 rfl 17 (by decide) (hw _ wm_440) (fun _ h9 => h9) rfl nD_M_carryOut_108 ?_
              refine lv_iconst (v := (0 : Int32)) hx hb nD_M_carryOut_111 (by decide) ?_
              obtain ⟨hi36, h⟩ := h
              refine va_iald (D := D) hx hb hK hP 11 10 yc_11 rfl hi36 nD_M_carryOut_112 ?_
              refine lv_topi (fun v37 e_v37 => ?_)
              have h := h v37 e_v37
              clear e_v37
              refine lv_istore_n hx hb nD_M_carryOut_113 rfl hl (by decide) rfl (fun ls hl => ?_)
              have hl : lv_has ls 5 [(3, .int v37), (2, .int (1 : Int32)), (0, .ref (a 0)), (1, .int x1)] := hl
              refine lv_aload_n hx hb nD_M_carryOut_114 rfl (lv_at hl 2 rfl) ?_
              refine lv_dup hx hb nD_M_carryOut_115 rfl ?_
              refine va_get (D := D) (ci := 5) (v := .int (σ.1 6)) (C := nR_M) (T := nT_M) (N := 23) hx hb hw wu_M hown hK hP 0 yc_0 rfl 16 (by decide) (hw _ wm_439) (fun _ h9 => h9) rfl nD_M_carryOut_116 ?_
              refine lv_iconst (v := (1 : Int32)) hx hb nD_M_carryOut_119 (by decide) ?_
              refine lv_isub hx hb nD_M_carryOut_120 ?_
              refine va_put (D := D) (ci := 5) (v := .int ((σ.1 6) - (1 : Int32))) (ty := .int) (C := nR_M) (T := nT_M) (N := 23) hx hb hw wu_M nY_M nO_M nN_M hown hK hP hD hS 0 yc_0 rfl 16 (by decide) (hw _ wm_439) (fun _ h9 => h9) rfl (by decide +kernel) rfl rfl (Nat.le_of_ble_eq_true rfl) nD_M_carryOut_121 (fun H locs hP hD hS => ?_)
              obtain ⟨σ38, e_σ38⟩ : ∃ z : zS, z = zI σ 6 ((σ.1 6) - (1 : Int32)) := ⟨_, rfl⟩
              obtain ⟨hP, hD⟩ := znew (w := zM a tc) e_σ38 (yp_0_16) hP hD
              have h := h σ38 e_σ38
              clear e_σ38
              refine lv_iconst (v := (0 : Int32)) hx hb nD_M_carryOut_124 (by decide) ?_
              refine lv_istore hx hb nD_M_carryOut_125 hl (by decide) rfl (fun ls hl => ?_)
              have hl : lv_has ls 5 [(4, .int (0 : Int32)), (3, .int v37), (2, .int (1 : Int32)), (0, .ref (a 0)), (1, .int x1)] := hl
              have hl := lv_sub (l' := [(0, .ref (a 0)), (2, .int (1 : Int32)), (3, .int v37), (4, .int (0 : Int32))]) hl [3, 2, 1, 0] rfl
              refine wl_M_carryOut_127 (l := l) (1 : Int32) v37 post _ hx hb hml hr hown hlocks hw hn hK hA (fun v39 σ40 H locs ls h hP hD hS hl => ?_) ((0 : Int32), σ38) h _ _ ls hP hD hS hl
              refine lv_iload_n hx hb nD_M_carryOut_162 rfl (lv_at hl 2 rfl) ?_
              exact mw_i hx hb hr hlocks ⟨σ40, rfl, h⟩ hP hK hD hS nD_M_carryOut_163
            · have h := h.2 hc
              refine lv_aload_n hx hb nD_M_carryOut_93 rfl (lv_at hl 1 rfl) ?_
              refine va_get (D := D) (ci := 5) (v := .ref (a 11)) (C := nR_M) (T := nT_M) (N := 23) hx hb hw wu_M hown hK hP 0 yc_0 rfl 17 (by decide) (hw _ wm_440) (fun _ h9 => h9) rfl nD_M_carryOut_94 ?_
              refine lv_aload_n hx hb nD_M_carryOut_97 rfl (lv_at hl 1 rfl) ?_
              refine va_get (D := D) (ci := 5) (v := .int (σ.1 6)) (C := nR_M) (T := nT_M) (N := 23) hx hb hw wu_M hown hK hP 0 yc_0 rfl 16 (by decide) (hw _ wm_439) (fun _ h9 => h9) rfl nD_M_carryOut_98 ?_
              refine lv_iconst (v := (1 : Int32)) hx hb nD_M_carryOut_101 (by decide) ?_
              refine lv_isub hx hb nD_M_carryOut_102 ?_
              obtain ⟨hi41, h⟩ := h
              refine va_iald (D := D) hx hb hK hP 11 10 yc_11 rfl hi41 nD_M_carryOut_103 ?_
              refine lv_goto (tgt := 113) hx hb nD_M_carryOut_104 (by decide) ?_
              refine lv_topi (fun v42 e_v42 => ?_)
              have h := h v42 e_v42
              clear e_v42
              refine lv_istore_n hx hb nD_M_carryOut_113 rfl hl (by decide) rfl (fun ls hl => ?_)
              have hl : lv_has ls 5 [(3, .int v42), (2, .int (1 : Int32)), (0, .ref (a 0)), (1, .int x1)] := hl
              refine lv_aload_n hx hb nD_M_carryOut_114 rfl (lv_at hl 2 rfl) ?_
              refine lv_dup hx hb nD_M_carryOut_115 rfl ?_
              refine va_get (D := D) (ci := 5) (v := .int (σ.1 6)) (C := nR_M) (T := nT_M) (N := 23) hx hb hw wu_M hown hK hP 0 yc_0 rfl 16 (by decide) (hw _ wm_439) (fun _ h9 => h9) rfl nD_M_carryOut_116 ?_
              refine lv_iconst (v := (1 : Int32)) hx hb nD_M_carryOut_119 (by decide) ?_
              refine lv_isub hx hb nD_M_carryOut_120 ?_
              refine va_put (D := D) (ci := 5) (v := .int ((σ.1 6) - (1 : Int32))) (ty := .int) (C := nR_M) (T := nT_M) (N := 23) hx hb hw wu_M nY_M nO_M nN_M hown hK hP hD hS 0 yc_0 rfl 16 (by decide) (hw _ wm_439) (fun _ h9 => h9) rfl (by decide +kernel) rfl rfl (Nat.le_of_ble_eq_true rfl) nD_M_carryOut_121 (fun H locs hP hD hS => ?_)
              obtain ⟨σ43, e_σ43⟩ : ∃ z : zS, z = zI σ 6 ((σ.1 6) - (1 : Int32)) := ⟨_, rfl⟩
              obtain ⟨hP, hD⟩ := znew (w := zM a tc) e_σ43 (yp_0_16) hP hD
              have h := h σ43 e_σ43
              clear e_σ43
              refine lv_iconst (v := (0 : Int32)) hx hb nD_M_carryOut_124 (by decide) ?_
              refine lv_istore hx hb nD_M_carryOut_125 hl (by decide) rfl (fun ls hl => ?_)
              have hl : lv_has ls 5 [(4, .int (0 : Int32)), (3, .int v42), (2, .int (1 : Int32)), (0, .ref (a 0)), (1, .int x1)] := hl
              have hl := lv_sub (l' := [(0, .ref (a 0)), (2, .int (1 : Int32)), (3, .int v42), (4, .int (0 : Int32))]) hl [3, 2, 1, 0] rfl
              refine wl_M_carryOut_127 (l := l) (1 : Int32) v42 post _ hx hb hml hr hown hlocks hw hn hK hA (fun v44 σ45 H locs ls h hP hD hS hl => ?_) ((0 : Int32), σ43) h _ _ ls hP hD hS hl
              refine lv_iload_n hx hb nD_M_carryOut_162 rfl (lv_at hl 2 rfl) ?_
              exact mw_i hx hb hr hlocks ⟨σ45, rfl, h⟩ hP hK hD hS nD_M_carryOut_163
    · have h := h.1 hc
      refine lv_iconst (v := (-1 : Int32)) hx hb nD_M_carryOut_56 (by decide) ?_
      exact mw_i hx hb hr hlocks ⟨σ, rfl, h⟩ hP hK hD hS nD_M_carryOut_57
  · have h := h.2 hc
    refine lv_aload_n hx hb nD_M_carryOut_9 rfl (lv_at hl 0 rfl) ?_
    refine va_get (D := D) (ci := 5) (v := .int (σ.1 6)) (C := nR_M) (T := nT_M) (N := 23) hx hb hw wu_M hown hK hP 0 yc_0 rfl 16 (by decide) (hw _ wm_439) (fun _ h9 => h9) rfl nD_M_carryOut_10 ?_
    refine lv_aload_n hx hb nD_M_carryOut_13 rfl (lv_at hl 0 rfl) ?_
    refine va_get (D := D) (ci := 5) (v := .int (σ.1 1)) (C := nR_M) (T := nT_M) (N := 23) hx hb hw wu_M hown hK hP 0 yc_0 rfl 1 (by decide) (hw _ wm_424) (fun _ h9 => h9) rfl nD_M_carryOut_14 ?_
    refine lv_icmp_lt (tgt := 22) hx hb nD_M_carryOut_17 (by decide) (fun hc => ?_) (fun hc => ?_)
    · have h := h.1 hc
      refine lv_aload_n hx hb nD_M_carryOut_22 rfl (lv_at hl 0 rfl) ?_
      refine va_get (D := D) (ci := 5) (v := .ref (a 11)) (C := nR_M) (T := nT_M) (N := 23) hx hb hw wu_M hown hK hP 0 yc_0 rfl 17 (by decide) (hw _ wm_440) (fun _ h9 => h9) rfl nD_M_carryOut_23 ?_
      refine lv_aload_n hx hb nD_M_carryOut_26 rfl (lv_at hl 0 rfl) ?_
      refine va_get (D := D) (ci := 5) (v := .int (σ.1 6)) (C := nR_M) (T := nT_M) (N := 23) hx hb hw wu_M hown hK hP 0 yc_0 rfl 16 (by decide) (hw _ wm_439) (fun _ h9 => h9) rfl nD_M_carryOut_27 ?_
      refine lv_aload_n hx hb nD_M_carryOut_30 rfl (lv_at hl 0 rfl) ?_
      refine va_get (D := D) (ci := 5) (v := .ref (a 3)) (C := nR_M) (T := nT_M) (N := 23) hx hb hw wu_M hown hK hP 0 yc_0 rfl 7 (by decide) (hw _ wm_430) (fun _ h9 => h9) rfl nD_M_carryOut_31 ?_
      refine lv_iload_n hx hb nD_M_carryOut_34 rfl (lv_at hl 1 rfl) ?_
      obtain ⟨hi46, h⟩ := h
      refine va_iald (D := D) hx hb hK hP 3 2 yc_3 rfl hi46 nD_M_carryOut_35 ?_
      obtain ⟨hi47, h⟩ := h
      refine va_iast (D := D) hx hb hK hP hD hS 11 10 yc_11 rfl hi47 nD_M_carryOut_36 (fun H locs hP hD hS => ?_)
      obtain ⟨σ48, e_σ48⟩ : ∃ z : zS, z = zA σ 10 (σ.1 6).toNatClampNeg (σ.2.1 2 x1.toNatClampNeg) := ⟨_, rfl⟩
      obtain ⟨hP, hD⟩ := znew (w := zM a tc) e_σ48 (ya_11) hP hD
      have h := h σ48 e_σ48
      clear e_σ48
      refine lv_aload_n hx hb nD_M_carryOut_37 rfl (lv_at hl 0 rfl) ?_
      refine lv_dup hx hb nD_M_carryOut_38 rfl ?_
      refine va_get (D := D) (ci := 5) (v := .int (σ48.1 6)) (C := nR_M) (T := nT_M) (N := 23) hx hb hw wu_M hown hK hP 0 yc_0 rfl 16 (by decide) (hw _ wm_439) (fun _ h9 => h9) rfl nD_M_carryOut_39 ?_
      refine lv_iconst (v := (1 : Int32)) hx hb nD_M_carryOut_42 (by decide) ?_
      refine lv_iadd hx hb nD_M_carryOut_43 ?_
      refine va_put (D := D) (ci := 5) (v := .int ((σ48.1 6) + (1 : Int32))) (ty := .int) (C := nR_M) (T := nT_M) (N := 23) hx hb hw wu_M nY_M nO_M nN_M hown hK hP hD hS 0 yc_0 rfl 16 (by decide) (hw _ wm_439) (fun _ h9 => h9) rfl (by decide +kernel) rfl rfl (Nat.le_of_ble_eq_true rfl) nD_M_carryOut_44 (fun H locs hP hD hS => ?_)
      obtain ⟨σ49, e_σ49⟩ : ∃ z : zS, z = zI σ48 6 ((σ48.1 6) + (1 : Int32)) := ⟨_, rfl⟩
      obtain ⟨hP, hD⟩ := znew (w := zM a tc) e_σ49 (yp_0_16) hP hD
      have h := h σ49 e_σ49
      clear e_σ49
      refine lv_iconst (v := (1 : Int32)) hx hb nD_M_carryOut_47 (by decide) ?_
      exact mw_i hx hb hr hlocks ⟨σ49, rfl, h⟩ hP hK hD hS nD_M_carryOut_48
    · have h := h.2 hc
      refine lv_iconst (v := (0 : Int32)) hx hb nD_M_carryOut_20 (by decide) ?_
      exact mw_i hx hb hr hlocks ⟨σ, rfl, h⟩ hP hK hD hS nD_M_carryOut_21
set_option maxHeartbeats 4000000 in
set_option maxRecDepth 100000 in
theorem wl_M_isListed_4 {l : Launch} {p : Program} {e : Env} {s : State} {m : MethodId} {args : Array Value} {below : List Frame} {meth : Method} {c : Code} {D : va_G} {tc : Nat → ClassId} {a : Nat → Nat} {w0 : va_W} (x1 : Int32) (post : Int32 → zS → Prop) (K : Int32 → Int32 → zS → Prop) (hx : p.tables.exec = Jvm.exec) (hb : c.code = nC_M_isListed) (hml : c.maxLocals = 4) (hr : meth.sig.returnType = (some .boolean)) (hown : s.vm.findClass nM_M_isListed.cls = some m.cls) (hlocks : meth.locks = false) (hw : ∀ w ∈ wA, w.before args s = true) (hn : mN s) (hK : va_K D nCl (ztM tc) s) (hA : ∀ q, s.heap.size ≤ q → va_A w0 s.heap.size q)
    (hk : ∀ (y2 : Int32) (y3 : Int32) (σ : zS) (H : Heap) (locs : List Loc) (ls : Array Slot), K y2 y3 σ → va_P D nCl (zM a tc σ) H → va_D (va_A w0 s.heap.size) (zM a tc σ) → va_S (va_A w0 s.heap.size) s.heap H locs → lv_has ls 4 [(0, .ref (a 0)), (1, .int x1), (2, .int y2), (3, .int y3)] → W p l e ({ frames := 0, cells := 0, slots := 0, locals := 0 } : Room) s m args below meth c H locs 0 0 (MQ below (va_Qi (zQi (zM a tc) post) (mQW D (ztM tc) w0 s.heap.size) (va_A w0 s.heap.size)) args s 0 0 (va_A w0 s.heap.size)) (F0 m 38 ls [])) : ∀ q : Int32 × Int32 × zS, zLP (b_M_isListed_4 x1 post K) q → ∀ (H : Heap) (locs : List Loc) (ls : Array Slot), va_P D nCl (zM a tc q.2.2) H → va_D (va_A w0 s.heap.size) (zM a tc q.2.2) → va_S (va_A w0 s.heap.size) s.heap H locs → lv_has ls 4 [(0, .ref (a 0)), (1, .int x1), (2, .int q.1), (3, .int q.2.1)] → W p l e ({ frames := 0, cells := 0, slots := 0, locals := 0 } : Room) s m args below meth c H locs 0 0 (MQ below (va_Qi (zQi (zM a tc) post) (mQW D (ztM tc) w0 s.heap.size) (va_A w0 s.heap.size)) args s 0 0 (va_A w0 s.heap.size)) (F0 m 4 ls []) := by
  refine zLP_walk ?_
  rintro R ⟨y2, y3, σ⟩ hR h H locs ls hP hD hS hl
  dsimp only at hP hD hl
  dsimp only [b_M_isListed_4] at h
  refine lv_iload_n hx hb nD_M_isListed_4 rfl (lv_at hl 3 rfl) ?_
  refine lv_aload_n hx hb nD_M_isListed_5 rfl (lv_at hl 0 rfl) ?_
  refine va_get (D := D) (ci := 5) (v := .int (σ.1 5)) (C := nR_M) (T := nT_M) (N := 23) hx hb hw wu_M hown hK hP 0 yc_0 rfl 12 (by decide) (hw _ wm_435) (fun _ h9 => h9) rfl nD_M_isListed_6 ?_
  refine lv_icmp_ge (tgt := 38) hx hb nD_M_isListed_9 (by decide) (fun hc => ?_) (fun hc => ?_)
  · have h := h.1 hc
    exact hk y2 y3 σ _ _ ls h hP hD hS hl
  · have h := h.2 hc
    refine lv_iload_n hx hb nD_M_isListed_12 rfl (lv_at hl 2 rfl) ?_
    refine lv_if_ne (tgt := 26) hx hb nD_M_isListed_13 (by decide) (fun hc => ?_) (fun hc => ?_)
    · have h := h.2 hc
      refine lv_iconst (v := (1 : Int32)) hx hb nD_M_isListed_26 (by decide) ?_
      refine lv_goto (tgt := 31) hx hb nD_M_isListed_27 (by decide) ?_
      refine lv_istore_n hx hb nD_M_isListed_31 rfl hl (by decide) rfl (fun ls hl => ?_)
      have hl : lv_has ls 4 [(2, .int (1 : Int32)), (0, .ref (a 0)), (1, .int x1), (3, .int y3)] := hl
      refine lv_iinc (k := 3) (v := y3 + 1) hx hb nD_M_isListed_32 hl rfl rfl (by decide) rfl (fun ls hl => ?_)
      have hl : lv_has ls 4 [(3, .int (y3 + 1)), (2, .int (1 : Int32)), (0, .ref (a 0)), (1, .int x1)] := hl
      refine lv_goto (tgt := 4) hx hb nD_M_isListed_35 (by decide) ?_
      have hl := lv_sub (l' := [(0, .ref (a 0)), (1, .int x1), (2, .int (1 : Int32)), (3, .int (y3 + 1))]) hl [2, 3, 1, 0] rfl
      exact hR _ h _ _ ls hP hD hS hl
    · have h := h.1 hc
      refine lv_aload_n hx hb nD_M_isListed_16 rfl (lv_at hl 0 rfl) ?_
      refine va_get (D := D) (ci := 5) (v := .ref (a 8)) (C := nR_M) (T := nT_M) (N := 23) hx hb hw wu_M hown hK hP 0 yc_0 rfl 13 (by decide) (hw _ wm_436) (fun _ h9 => h9) rfl nD_M_isListed_17 ?_
      refine lv_iload_n hx hb nD_M_isListed_20 rfl (lv_at hl 3 rfl) ?_
      obtain ⟨hi1, h⟩ := h
      refine va_iald (D := D) hx hb hK hP 8 7 yc_8 rfl hi1 nD_M_isListed_21 ?_
      refine lv_iload_n hx hb nD_M_isListed_22 rfl (lv_at hl 1 rfl) ?_
      refine lv_icmp_ne (tgt := 30) hx hb nD_M_isListed_23 (by decide) (fun hc => ?_) (fun hc => ?_)
      · have h := h.2 hc
        refine lv_iconst (v := (0 : Int32)) hx hb nD_M_isListed_30 (by decide) ?_
        refine lv_istore_n hx hb nD_M_isListed_31 rfl hl (by decide) rfl (fun ls hl => ?_)
        have hl : lv_has ls 4 [(2, .int (0 : Int32)), (0, .ref (a 0)), (1, .int x1), (3, .int y3)] := hl
        refine lv_iinc (k := 3) (v := y3 + 1) hx hb nD_M_isListed_32 hl rfl rfl (by decide) rfl (fun ls hl => ?_)
        have hl : lv_has ls 4 [(3, .int (y3 + 1)), (2, .int (0 : Int32)), (0, .ref (a 0)), (1, .int x1)] := hl
        refine lv_goto (tgt := 4) hx hb nD_M_isListed_35 (by decide) ?_
        have hl := lv_sub (l' := [(0, .ref (a 0)), (1, .int x1), (2, .int (0 : Int32)), (3, .int (y3 + 1))]) hl [2, 3, 1, 0] rfl
        exact hR _ h _ _ ls hP hD hS hl
      · have h := h.1 hc
        refine lv_iconst (v := (1 : Int32)) hx hb nD_M_isListed_26 (by decide) ?_
        refine lv_goto (tgt := 31) hx hb nD_M_isListed_27 (by decide) ?_
        refine lv_istore_n hx hb nD_M_isListed_31 rfl hl (by decide) rfl (fun ls hl => ?_)
        have hl : lv_has ls 4 [(2, .int (1 : Int32)), (0, .ref (a 0)), (1, .int x1), (3, .int y3)] := hl
        refine lv_iinc (k := 3) (v := y3 + 1) hx hb nD_M_isListed_32 hl rfl rfl (by decide) rfl (fun ls hl => ?_)
        have hl : lv_has ls 4 [(3, .int (y3 + 1)), (2, .int (1 : Int32)), (0, .ref (a 0)), (1, .int x1)] := hl
        refine lv_goto (tgt := 4) hx hb nD_M_isListed_35 (by decide) ?_
        have hl := lv_sub (l' := [(0, .ref (a 0)), (1, .int x1), (2, .int (1 : Int32)), (3, .int (y3 + 1))]) hl [2, 3, 1, 0] rfl
        exact hR _ h _ _ ls hP hD hS hl
set_option maxHeartbeats 4000000 in
set_option maxRecDepth 100000 in
theorem c_M_isListed (l : Launch) (D : va_G) (tc : Nat → ClassId) (a : Nat → Nat) (x1 : Int32) (σ : zS) (post : Int32 → zS → Prop) (h : j_M_isListed x1 σ post) : mWi l nM_M_isListed nC_M_isListed 4 (some .boolean) ({ frames := 0, cells := 0, slots := 0, locals := 0 } : Room) D (ztM tc) [.ref (a 0), .int x1] (zM a tc σ) (zQi (zM a tc) post) := by
  intro sz
  refine mt_W (by decide) (Nat.le_of_ble_eq_true rfl) ?_
  intro p e s m below meth c ls hx hb hml hr hown hlocks hin hw hn hP hK hD hS hA hl hsz
  subst hsz
  have hl : lv_has ls 4 [(0, .ref (a 0)), (1, .int x1)] := hl
  unfold j_M_isListed at h
  refine lv_iconst (v := (0 : Int32)) hx hb nD_M_isListed_0 (by decide) ?_
  refine lv_istore_n hx hb nD_M_isListed_1 rfl hl (by decide) rfl (fun ls hl => ?_)
  have hl : lv_has ls 4 [(2, .int (0 : Int32)), (0, .ref (a 0)), (1, .int x1)] := hl
  refine lv_iconst (v := (0 : Int32)) hx hb nD_M_isListed_2 (by decide) ?_
  refine lv_istore_n hx hb nD_M_isListed_3 rfl hl (by decide) rfl (fun ls hl => ?_)
  have hl : lv_has ls 4 [(3, .int (0 : Int32)), (2, .int (0 : Int32)), (0, .ref (a 0)), (1, .int x1)] := hl
  have hl := lv_sub (l' := [(0, .ref (a 0)), (1, .int x1), (2, .int (0 : Int32)), (3, .int (0 : Int32))]) hl [2, 3, 1, 0] rfl
  refine wl_M_isListed_4 (l := l) x1 post _ hx hb hml hr hown hlocks hw hn hK hA (fun v2 v3 σ4 H locs ls h hP hD hS hl => ?_) ((0 : Int32), (0 : Int32), σ) h _ _ ls hP hD hS hl
  refine lv_iload_n hx hb nD_M_isListed_38 rfl (lv_at hl 2 rfl) ?_
  exact mw_z hx hb hr hlocks h.1 ⟨σ4, rfl, h.2⟩ hP hK hD hS nD_M_isListed_39
set_option maxHeartbeats 4000000 in
set_option maxRecDepth 100000 in
theorem c_M_sizeOf (l : Launch) (D : va_G) (tc : Nat → ClassId) (a : Nat → Nat) (x1 : Int32) (σ : zS) (post : Int32 → zS → Prop) (h : j_M_sizeOf x1 σ post) : mWi l nM_M_sizeOf nC_M_sizeOf 2 (some .int) ({ frames := 0, cells := 0, slots := 0, locals := 0 } : Room) D (ztM tc) [.ref (a 0), .int x1] (zM a tc σ) (zQi (zM a tc) post) := by
  intro sz
  refine mt_W (by decide) (Nat.le_of_ble_eq_true rfl) ?_
  intro p e s m below meth c ls hx hb hml hr hown hlocks hin hw hn hP hK hD hS hA hl hsz
  subst hsz
  have hl : lv_has ls 2 [(0, .ref (a 0)), (1, .int x1)] := hl
  unfold j_M_sizeOf at h
  refine lv_aload_n hx hb nD_M_sizeOf_0 rfl (lv_at hl 0 rfl) ?_
  refine va_get (D := D) (ci := 5) (v := .ref (a 12)) (C := nR_M) (T := nT_M) (N := 23) hx hb hw wu_M hown hK hP 0 yc_0 rfl 20 (by decide) (hw _ wm_443) (fun _ h9 => h9) rfl nD_M_sizeOf_1 ?_
  refine lv_iload_n hx hb nD_M_sizeOf_4 rfl (lv_at hl 1 rfl) ?_
  obtain ⟨hi1, h⟩ := h
  refine va_lald (D := D) hx hb hK hP 12 11 yc_12 rfl hi1 nD_M_sizeOf_5 ?_
  refine lv_ldc2 (v := (15 : Int64)) hx hb hown (hw _ wm_563) nD_M_sizeOf_6 ?_
  refine lv_land hx hb nD_M_sizeOf_9 ?_
  refine lv_l2i (v := ((σ.2.2 0 x1.toNatClampNeg) &&& (15 : Int64)).toInt32) hx hb nD_M_sizeOf_10 rfl ?_
  exact mw_i hx hb hr hlocks ⟨σ, rfl, h⟩ hP hK hD hS nD_M_sizeOf_11
set_option maxHeartbeats 4000000 in
set_option maxRecDepth 100000 in
theorem wl_M_good_12 {l : Launch} {p : Program} {e : Env} {s : State} {m : MethodId} {args : Array Value} {below : List Frame} {meth : Method} {c : Code} {D : va_G} {tc : Nat → ClassId} {a : Nat → Nat} {w0 : va_W} (x1 : Int32) (post : Int32 → zS → Prop) (K : Int32 → zS → Prop) (hx : p.tables.exec = Jvm.exec) (hb : c.code = nC_M_good) (hml : c.maxLocals = 3) (hr : meth.sig.returnType = (some .boolean)) (hown : s.vm.findClass nM_M_good.cls = some m.cls) (hlocks : meth.locks = false) (hw : ∀ w ∈ wA, w.before args s = true) (hn : mN s) (hK : va_K D nCl (ztM tc) s) (hA : ∀ q, s.heap.size ≤ q → va_A w0 s.heap.size q)
    (hk : ∀ (y2 : Int32) (σ : zS) (H : Heap) (locs : List Loc) (ls : Array Slot), K y2 σ → va_P D nCl (zM a tc σ) H → va_D (va_A w0 s.heap.size) (zM a tc σ) → va_S (va_A w0 s.heap.size) s.heap H locs → lv_has ls 3 [(0, .ref (a 0)), (1, .int x1), (2, .int y2)] → W p l e ({ frames := 1, cells := 0, slots := 0, locals := 24 } : Room) s m args below meth c H locs 0 0 (MQ below (va_Qi (zQi (zM a tc) post) (mQW D (ztM tc) w0 s.heap.size) (va_A w0 s.heap.size)) args s 0 0 (va_A w0 s.heap.size)) (F0 m 65 ls [])) : ∀ q : Int32 × zS, zLP (b_M_good_12 x1 post K) q → ∀ (H : Heap) (locs : List Loc) (ls : Array Slot), va_P D nCl (zM a tc q.2) H → va_D (va_A w0 s.heap.size) (zM a tc q.2) → va_S (va_A w0 s.heap.size) s.heap H locs → lv_has ls 3 [(0, .ref (a 0)), (1, .int x1), (2, .int q.1)] → W p l e ({ frames := 1, cells := 0, slots := 0, locals := 24 } : Room) s m args below meth c H locs 0 0 (MQ below (va_Qi (zQi (zM a tc) post) (mQW D (ztM tc) w0 s.heap.size) (va_A w0 s.heap.size)) args s 0 0 (va_A w0 s.heap.size)) (F0 m 12 ls []) := by
  refine zLP_walk ?_
  rintro R ⟨y2, σ⟩ hR h H locs ls hP hD hS hl
  dsimp only at hP hD hl
  dsimp only [b_M_good_12] at h
  refine lv_iload_n hx hb nD_M_good_12 rfl (lv_at hl 2 rfl) ?_
  refine lv_iload_n hx hb nD_M_good_13 rfl (lv_at hl 1 rfl) ?_
  refine lv_icmp_ge (tgt := 65) hx hb nD_M_good_14 (by decide) (fun hc => ?_) (fun hc => ?_)
  · have h := h.1 hc
    exact hk y2 σ _ _ ls h hP hD hS hl
  · have h := h.2 hc
    refine lv_aload_n hx hb nD_M_good_17 rfl (lv_at hl 0 rfl) ?_
    refine va_get (D := D) (ci := 5) (v := .ref (a 7)) (C := nR_M) (T := nT_M) (N := 23) hx hb hw wu_M hown hK hP 0 yc_0 rfl 11 (by decide) (hw _ wm_434) (fun _ h9 => h9) rfl nD_M_good_18 ?_
    refine lv_aload_n hx hb nD_M_good_21 rfl (lv_at hl 0 rfl) ?_
    refine va_get (D := D) (ci := 5) (v := .ref (a 8)) (C := nR_M) (T := nT_M) (N := 23) hx hb hw wu_M hown hK hP 0 yc_0 rfl 13 (by decide) (hw _ wm_436) (fun _ h9 => h9) rfl nD_M_good_22 ?_
    refine lv_iload_n hx hb nD_M_good_25 rfl (lv_at hl 1 rfl) ?_
    obtain ⟨hi1, h⟩ := h
    refine va_iald (D := D) hx hb hK hP 8 7 yc_8 rfl hi1 nD_M_good_26 ?_
    obtain ⟨hi2, h⟩ := h
    refine va_iald (D := D) hx hb hK hP 7 6 yc_7 rfl hi2 nD_M_good_27 ?_
    refine lv_iconst (v := (1 : Int32)) hx hb nD_M_good_28 (by decide) ?_
    refine lv_icmp_ne (tgt := 59) hx hb nD_M_good_29 (by decide) (fun hc => ?_) (fun hc => ?_)
    · have h := h.2 hc
      refine lv_iinc (k := 2) (v := y2 + 1) hx hb nD_M_good_59 hl rfl rfl (by decide) rfl (fun ls hl => ?_)
      have hl : lv_has ls 3 [(2, .int (y2 + 1)), (0, .ref (a 0)), (1, .int x1)] := hl
      refine lv_goto (tgt := 12) hx hb nD_M_good_62 (by decide) ?_
      have hl := lv_sub (l' := [(0, .ref (a 0)), (1, .int x1), (2, .int (y2 + 1))]) hl [1, 2, 0] rfl
      exact hR _ h _ _ ls hP hD hS hl
    · have h := h.1 hc
      refine lv_aload_n hx hb nD_M_good_32 rfl (lv_at hl 0 rfl) ?_
      refine va_get (D := D) (ci := 5) (v := .ref (a 5)) (C := nR_M) (T := nT_M) (N := 23) hx hb hw wu_M hown hK hP 0 yc_0 rfl 9 (by decide) (hw _ wm_432) (fun _ h9 => h9) rfl nD_M_good_33 ?_
      refine lv_aload_n hx hb nD_M_good_36 rfl (lv_at hl 0 rfl) ?_
      refine va_get (D := D) (ci := 5) (v := .ref (a 8)) (C := nR_M) (T := nT_M) (N := 23) hx hb hw wu_M hown hK hP 0 yc_0 rfl 13 (by decide) (hw _ wm_436) (fun _ h9 => h9) rfl nD_M_good_37 ?_
      refine lv_iload_n hx hb nD_M_good_40 rfl (lv_at hl 1 rfl) ?_
      obtain ⟨hi3, h⟩ := h
      refine va_iald (D := D) hx hb hK hP 8 7 yc_8 rfl hi3 nD_M_good_41 ?_
      obtain ⟨hi4, h⟩ := h
      refine va_iald (D := D) hx hb hK hP 5 4 yc_5 rfl hi4 nD_M_good_42 ?_
      refine lv_aload_n hx hb nD_M_good_43 rfl (lv_at hl 0 rfl) ?_
      refine va_get (D := D) (ci := 5) (v := .ref (a 4)) (C := nR_M) (T := nT_M) (N := 23) hx hb hw wu_M hown hK hP 0 yc_0 rfl 8 (by decide) (hw _ wm_431) (fun _ h9 => h9) rfl nD_M_good_44 ?_
      refine lv_aload_n hx hb nD_M_good_47 rfl (lv_at hl 0 rfl) ?_
      refine va_get (D := D) (ci := 5) (v := .ref (a 8)) (C := nR_M) (T := nT_M) (N := 23) hx hb hw wu_M hown hK hP 0 yc_0 rfl 13 (by decide) (hw _ wm_436) (fun _ h9 => h9) rfl nD_M_good_48 ?_
      refine lv_iload_n hx hb nD_M_good_51 rfl (lv_at hl 2 rfl) ?_
      obtain ⟨hi5, h⟩ := h
      refine va_iald (D := D) hx hb hK hP 8 7 yc_8 rfl hi5 nD_M_good_52 ?_
      obtain ⟨hi6, h⟩ := h
      refine va_iald (D := D) hx hb hK hP 4 3 yc_4 rfl hi6 nD_M_good_53 ?_
      refine lv_icmp_ge (tgt := 59) hx hb nD_M_good_54 (by decide) (fun hc => ?_) (fun hc => ?_)
      · have h := h.1 hc
        refine lv_iinc (k := 2) (v := y2 + 1) hx hb nD_M_good_59 hl rfl rfl (by decide) rfl (fun ls hl => ?_)
        have hl : lv_has ls 3 [(2, .int (y2 + 1)), (0, .ref (a 0)), (1, .int x1)] := hl
        refine lv_goto (tgt := 12) hx hb nD_M_good_62 (by decide) ?_
        have hl := lv_sub (l' := [(0, .ref (a 0)), (1, .int x1), (2, .int (y2 + 1))]) hl [1, 2, 0] rfl
        exact hR _ h _ _ ls hP hD hS hl
      · have h := h.2 hc
        refine lv_iconst (v := (0 : Int32)) hx hb nD_M_good_57 (by decide) ?_
        exact mw_z hx hb hr hlocks rfl ⟨σ, rfl, h⟩ hP hK hD hS nD_M_good_58
set_option maxHeartbeats 4000000 in
set_option maxRecDepth 100000 in
theorem wl_M_good_2 {l : Launch} {p : Program} {e : Env} {s : State} {m : MethodId} {args : Array Value} {below : List Frame} {meth : Method} {c : Code} {D : va_G} {tc : Nat → ClassId} {a : Nat → Nat} {w0 : va_W} (post : Int32 → zS → Prop) (K : Int32 → zS → Prop) (hx : p.tables.exec = Jvm.exec) (hb : c.code = nC_M_good) (hml : c.maxLocals = 3) (hr : meth.sig.returnType = (some .boolean)) (hown : s.vm.findClass nM_M_good.cls = some m.cls) (hlocks : meth.locks = false) (hw : ∀ w ∈ wA, w.before args s = true) (hn : mN s) (hK : va_K D nCl (ztM tc) s) (hA : ∀ q, s.heap.size ≤ q → va_A w0 s.heap.size q)
    (hk : ∀ (y1 : Int32) (σ : zS) (H : Heap) (locs : List Loc) (ls : Array Slot), K y1 σ → va_P D nCl (zM a tc σ) H → va_D (va_A w0 s.heap.size) (zM a tc σ) → va_S (va_A w0 s.heap.size) s.heap H locs → lv_has ls 3 [(0, .ref (a 0)), (1, .int y1)] → W p l e ({ frames := 1, cells := 0, slots := 0, locals := 24 } : Room) s m args below meth c H locs 0 0 (MQ below (va_Qi (zQi (zM a tc) post) (mQW D (ztM tc) w0 s.heap.size) (va_A w0 s.heap.size)) args s 0 0 (va_A w0 s.heap.size)) (F0 m 71 ls [])) : ∀ q : Int32 × zS, zLP (b_M_good_2 post K) q → ∀ (H : Heap) (locs : List Loc) (ls : Array Slot), va_P D nCl (zM a tc q.2) H → va_D (va_A w0 s.heap.size) (zM a tc q.2) → va_S (va_A w0 s.heap.size) s.heap H locs → lv_has ls 3 [(0, .ref (a 0)), (1, .int q.1)] → W p l e ({ frames := 1, cells := 0, slots := 0, locals := 24 } : Room) s m args below meth c H locs 0 0 (MQ below (va_Qi (zQi (zM a tc) post) (mQW D (ztM tc) w0 s.heap.size) (va_A w0 s.heap.size)) args s 0 0 (va_A w0 s.heap.size)) (F0 m 2 ls []) := by
  refine zLP_walk ?_
  rintro R ⟨y1, σ⟩ hR h H locs ls hP hD hS hl
  dsimp only at hP hD hl
  dsimp only [b_M_good_2] at h
  refine lv_iload_n hx hb nD_M_good_2 rfl (lv_at hl 1 rfl) ?_
  refine lv_aload_n hx hb nD_M_good_3 rfl (lv_at hl 0 rfl) ?_
  refine va_get (D := D) (ci := 5) (v := .int (σ.1 5)) (C := nR_M) (T := nT_M) (N := 23) hx hb hw wu_M hown hK hP 0 yc_0 rfl 12 (by decide) (hw _ wm_435) (fun _ h9 => h9) rfl nD_M_good_4 ?_
  refine lv_icmp_ge (tgt := 71) hx hb nD_M_good_7 (by decide) (fun hc => ?_) (fun hc => ?_)
  · have h := h.1 hc
    exact hk y1 σ _ _ ls h hP hD hS hl
  · have h := h.2 hc
    refine lv_iconst (v := (0 : Int32)) hx hb nD_M_good_10 (by decide) ?_
    refine lv_istore_n hx hb nD_M_good_11 rfl hl (by decide) rfl (fun ls hl => ?_)
    have hl : lv_has ls 3 [(2, .int (0 : Int32)), (0, .ref (a 0)), (1, .int y1)] := hl
    have hl := lv_sub (l' := [(0, .ref (a 0)), (1, .int y1), (2, .int (0 : Int32))]) hl [1, 2, 0] rfl
    refine wl_M_good_12 (l := l) y1 post _ hx hb hml hr hown hlocks hw hn hK hA (fun v7 σ8 H locs ls h hP hD hS hl => ?_) ((0 : Int32), σ) h _ _ ls hP hD hS hl
    refine lv_iinc (k := 1) (v := y1 + 1) hx hb nD_M_good_65 hl rfl rfl (by decide) rfl (fun ls hl => ?_)
    have hl : lv_has ls 3 [(1, .int (y1 + 1)), (0, .ref (a 0)), (2, .int v7)] := hl
    refine lv_goto (tgt := 2) hx hb nD_M_good_68 (by decide) ?_
    have hl := lv_sub (l' := [(0, .ref (a 0)), (1, .int (y1 + 1))]) hl [1, 0] rfl
    exact hR _ h _ _ ls hP hD hS hl
set_option maxHeartbeats 4000000 in
set_option maxRecDepth 100000 in
theorem wl_M_good_78 {l : Launch} {p : Program} {e : Env} {s : State} {m : MethodId} {args : Array Value} {below : List Frame} {meth : Method} {c : Code} {D : va_G} {tc : Nat → ClassId} {a : Nat → Nat} {w0 : va_W} (post : Int32 → zS → Prop) (K : Int32 → zS → Prop) (hx : p.tables.exec = Jvm.exec) (hb : c.code = nC_M_good) (hml : c.maxLocals = 3) (hr : meth.sig.returnType = (some .boolean)) (hown : s.vm.findClass nM_M_good.cls = some m.cls) (hlocks : meth.locks = false) (hw : ∀ w ∈ wA, w.before args s = true) (hn : mN s) (hK : va_K D nCl (ztM tc) s) (hA : ∀ q, s.heap.size ≤ q → va_A w0 s.heap.size q)
    (hk : ∀ (y1 : Int32) (σ : zS) (H : Heap) (locs : List Loc) (ls : Array Slot), K y1 σ → va_P D nCl (zM a tc σ) H → va_D (va_A w0 s.heap.size) (zM a tc σ) → va_S (va_A w0 s.heap.size) s.heap H locs → lv_has ls 3 [(0, .ref (a 0)), (1, .int y1)] → W p l e ({ frames := 1, cells := 0, slots := 0, locals := 24 } : Room) s m args below meth c H locs 0 0 (MQ below (va_Qi (zQi (zM a tc) post) (mQW D (ztM tc) w0 s.heap.size) (va_A w0 s.heap.size)) args s 0 0 (va_A w0 s.heap.size)) (F0 m 137 ls [])) : ∀ q : Int32 × zS, zLP (b_M_good_78 post K) q → ∀ (H : Heap) (locs : List Loc) (ls : Array Slot), va_P D nCl (zM a tc q.2) H → va_D (va_A w0 s.heap.size) (zM a tc q.2) → va_S (va_A w0 s.heap.size) s.heap H locs → lv_has ls 3 [(0, .ref (a 0)), (1, .int q.1)] → W p l e ({ frames := 1, cells := 0, slots := 0, locals := 24 } : Room) s m args below meth c H locs 0 0 (MQ below (va_Qi (zQi (zM a tc) post) (mQW D (ztM tc) w0 s.heap.size) (va_A w0 s.heap.size)) args s 0 0 (va_A w0 s.heap.size)) (F0 m 78 ls []) := by
  refine zLP_walk ?_
  rintro R ⟨y1, σ⟩ hR h H locs ls hP hD hS hl
  dsimp only at hP hD hl
  dsimp only [b_M_good_78] at h
  refine lv_iload_n hx hb nD_M_good_78 rfl (lv_at hl 1 rfl) ?_
  refine lv_aload_n hx hb nD_M_good_79 rfl (lv_at hl 0 rfl) ?_
  refine va_get (D := D) (ci := 5) (v := .int (σ.1 5)) (C := nR_M) (T := nT_M) (N := 23) hx hb hw wu_M hown hK hP 0 yc_0 rfl 12 (by decide) (hw _ wm_435) (fun _ h9 => h9) rfl nD_M_good_80 ?_
  refine lv_icmp_ge (tgt := 137) hx hb nD_M_good_83 (by decide) (fun hc => ?_) (fun hc => ?_)
  · have h := h.1 hc
    exact hk y1 σ _ _ ls h hP hD hS hl
  · have h := h.2 hc
    refine lv_aload_n hx hb nD_M_good_86 rfl (lv_at hl 0 rfl) ?_
    refine va_get (D := D) (ci := 5) (v := .ref (a 8)) (C := nR_M) (T := nT_M) (N := 23) hx hb hw wu_M hown hK hP 0 yc_0 rfl 13 (by decide) (hw _ wm_436) (fun _ h9 => h9) rfl nD_M_good_87 ?_
    refine lv_iload_n hx hb nD_M_good_90 rfl (lv_at hl 1 rfl) ?_
    obtain ⟨hi12, h⟩ := h
    refine va_iald (D := D) hx hb hK hP 8 7 yc_8 rfl hi12 nD_M_good_91 ?_
    refine lv_topi (fun v13 e_v13 => ?_)
    have h := h v13 e_v13
    clear e_v13
    refine lv_istore_n hx hb nD_M_good_92 rfl hl (by decide) rfl (fun ls hl => ?_)
    have hl : lv_has ls 3 [(2, .int v13), (0, .ref (a 0)), (1, .int y1)] := hl
    refine lv_aload_n hx hb nD_M_good_93 rfl (lv_at hl 1 rfl) ?_
    refine va_get (D := D) (ci := 5) (v := .ref (a 9)) (C := nR_M) (T := nT_M) (N := 23) hx hb hw wu_M hown hK hP 0 yc_0 rfl 14 (by decide) (hw _ wm_437) (fun _ h9 => h9) rfl nD_M_good_94 ?_
    refine lv_iload_n hx hb nD_M_good_97 rfl (lv_at hl 0 rfl) ?_
    refine lv_aload_n hx hb nD_M_good_98 rfl (lv_at hl 1 rfl) ?_
    refine lv_iload_n hx hb nD_M_good_99 rfl (lv_at hl 0 rfl) ?_
    refine zC_i (va_runV (As := [.int v13]) (rest := [.int v13, .ref (a 9)]) ⟨hx, hb, hml, hown, hw⟩ (c_M_carryOut l D tc a v13 σ _ h _) (mcV 1 hw wm_422 wm_419 wm_421 wm_18 wm_33 rfl rfl nh_M_carryOut ⟨Nat.le_of_ble_eq_true rfl, Nat.le_of_ble_eq_true rfl⟩) (zp_V (ci := 5) hP hD hK hn rfl yc_0) rfl rfl hl.1 rfl (lv_room (Nat.le_of_ble_eq_true rfl)) nD_M_good_100 ⟨Nat.zero_le _, Nat.zero_le _⟩) hD hS hA (fun r15 σ14 H locs h hP hD hS => ?_)
    obtain ⟨hi16, h⟩ := h
    refine va_iast (D := D) hx hb hK hP hD hS 9 8 yc_9 rfl hi16 nD_M_good_103 (fun H locs hP hD hS => ?_)
    obtain ⟨σ17, e_σ17⟩ : ∃ z : zS, z = zA σ14 8 v13.toNatClampNeg r15 := ⟨_, rfl⟩
    obtain ⟨hP, hD⟩ := znew (w := zM a tc) e_σ17 (ya_9) hP hD
    have h := h σ17 e_σ17
    clear e_σ17
    refine lv_aload_n hx hb nD_M_good_104 rfl (lv_at hl 1 rfl) ?_
    refine va_get (D := D) (ci := 5) (v := .ref (a 7)) (C := nR_M) (T := nT_M) (N := 23) hx hb hw wu_M hown hK hP 0 yc_0 rfl 11 (by decide) (hw _ wm_434) (fun _ h9 => h9) rfl nD_M_good_105 ?_
    refine lv_iload_n hx hb nD_M_good_108 rfl (lv_at hl 0 rfl) ?_
    obtain ⟨hi18, h⟩ := h
    refine va_iald (D := D) hx hb hK hP 7 6 yc_7 rfl hi18 nD_M_good_109 ?_
    refine lv_iconst (v := (1 : Int32)) hx hb nD_M_good_110 (by decide) ?_
    refine lv_icmp_ne (tgt := 131) hx hb nD_M_good_111 (by decide) (fun hc => ?_) (fun hc => ?_)
    · have h := h.2 hc
      refine lv_iinc (k := 2) (v := y1 + 1) hx hb nD_M_good_131 hl rfl rfl (by decide) rfl (fun ls hl => ?_)
      have hl : lv_has ls 3 [(1, .int (y1 + 1)), (2, .int v13), (0, .ref (a 0))] := hl
      refine lv_goto (tgt := 78) hx hb nD_M_good_134 (by decide) ?_
      have hl := lv_sub (l' := [(0, .ref (a 0)), (1, .int (y1 + 1))]) hl [2, 0] rfl
      exact hR _ h _ _ ls hP hD hS hl
    · have h := h.1 hc
      refine lv_aload_n hx hb nD_M_good_114 rfl (lv_at hl 1 rfl) ?_
      refine va_get (D := D) (ci := 5) (v := .ref (a 9)) (C := nR_M) (T := nT_M) (N := 23) hx hb hw wu_M hown hK hP 0 yc_0 rfl 14 (by decide) (hw _ wm_437) (fun _ h9 => h9) rfl nD_M_good_115 ?_
      refine lv_iload_n hx hb nD_M_good_118 rfl (lv_at hl 0 rfl) ?_
      obtain ⟨hi19, h⟩ := h
      refine va_iald (D := D) hx hb hK hP 9 8 yc_9 rfl hi19 nD_M_good_119 ?_
      refine lv_aload_n hx hb nD_M_good_120 rfl (lv_at hl 1 rfl) ?_
      refine va_get (D := D) (ci := 5) (v := .ref (a 6)) (C := nR_M) (T := nT_M) (N := 23) hx hb hw wu_M hown hK hP 0 yc_0 rfl 10 (by decide) (hw _ wm_433) (fun _ h9 => h9) rfl nD_M_good_121 ?_
      refine lv_iload_n hx hb nD_M_good_124 rfl (lv_at hl 0 rfl) ?_
      obtain ⟨hi20, h⟩ := h
      refine va_iald (D := D) hx hb hK hP 6 5 yc_6 rfl hi20 nD_M_good_125 ?_
      refine lv_icmp_eq (tgt := 131) hx hb nD_M_good_126 (by decide) (fun hc => ?_) (fun hc => ?_)
      · have h := h.1 hc
        refine lv_iinc (k := 2) (v := y1 + 1) hx hb nD_M_good_131 hl rfl rfl (by decide) rfl (fun ls hl => ?_)
        have hl : lv_has ls 3 [(1, .int (y1 + 1)), (2, .int v13), (0, .ref (a 0))] := hl
        refine lv_goto (tgt := 78) hx hb nD_M_good_134 (by decide) ?_
        have hl := lv_sub (l' := [(0, .ref (a 0)), (1, .int (y1 + 1))]) hl [2, 0] rfl
        exact hR _ h _ _ ls hP hD hS hl
      · have h := h.2 hc
        refine lv_iconst (v := (0 : Int32)) hx hb nD_M_good_129 (by decide) ?_
        exact mw_z hx hb hr hlocks rfl ⟨σ17, rfl, h⟩ hP hK hD hS nD_M_good_130
set_option maxHeartbeats 4000000 in
set_option maxRecDepth 100000 in
theorem c_M_good (l : Launch) (D : va_G) (tc : Nat → ClassId) (a : Nat → Nat) (σ : zS) (post : Int32 → zS → Prop) (h : j_M_good  σ post) : mWi l nM_M_good nC_M_good 3 (some .boolean) ({ frames := 1, cells := 0, slots := 0, locals := 24 } : Room) D (ztM tc) [.ref (a 0)] (zM a tc σ) (zQi (zM a tc) post) := by
  intro sz
  refine mt_W (by decide) (Nat.le_of_ble_eq_true rfl) ?_
  intro p e s m below meth c ls hx hb hml hr hown hlocks hin hw hn hP hK hD hS hA hl hsz
  subst hsz
  have hl : lv_has ls 3 [(0, .ref (a 0))] := hl
  unfold j_M_good at h
  refine lv_iconst (v := (1 : Int32)) hx hb nD_M_good_0 (by decide) ?_
  refine lv_istore_n hx hb nD_M_good_1 rfl hl (by decide) rfl (fun ls hl => ?_)
  have hl : lv_has ls 3 [(1, .int (1 : Int32)), (0, .ref (a 0))] := hl
  have hl := lv_sub (l' := [(0, .ref (a 0)), (1, .int (1 : Int32))]) hl [1, 0] rfl
  refine wl_M_good_2 (l := l) post _ hx hb hml hr hown hlocks hw hn hK hA (fun v9 σ10 H locs ls h hP hD hS hl => ?_) ((1 : Int32), σ) h _ _ ls hP hD hS hl
  refine lv_aload_n hx hb nD_M_good_71 rfl (lv_at hl 0 rfl) ?_
  refine lv_iconst (v := (0 : Int32)) hx hb nD_M_good_72 (by decide) ?_
  refine va_put (D := D) (ci := 5) (v := .int (0 : Int32)) (ty := .int) (C := nR_M) (T := nT_M) (N := 23) hx hb hw wu_M nY_M nO_M nN_M hown hK hP hD hS 0 yc_0 rfl 16 (by decide) (hw _ wm_439) (fun _ h9 => h9) rfl (by decide +kernel) rfl rfl (Nat.le_of_ble_eq_true rfl) nD_M_good_73 (fun H locs hP hD hS => ?_)
  obtain ⟨σ11, e_σ11⟩ : ∃ z : zS, z = zI σ10 6 (0 : Int32) := ⟨_, rfl⟩
  obtain ⟨hP, hD⟩ := znew (w := zM a tc) e_σ11 (yp_0_16) hP hD
  have h := h σ11 e_σ11
  clear e_σ11
  refine lv_iconst (v := (0 : Int32)) hx hb nD_M_good_76 (by decide) ?_
  refine lv_istore_n hx hb nD_M_good_77 rfl hl (by decide) rfl (fun ls hl => ?_)
  have hl : lv_has ls 3 [(1, .int (0 : Int32)), (0, .ref (a 0))] := hl
  have hl := lv_sub (l' := [(0, .ref (a 0)), (1, .int (0 : Int32))]) hl [1, 0] rfl
  refine wl_M_good_78 (l := l) post _ hx hb hml hr hown hlocks hw hn hK hA (fun v21 σ22 H locs ls h hP hD hS hl => ?_) ((0 : Int32), σ11) h _ _ ls hP hD hS hl
  refine lv_iconst (v := (1 : Int32)) hx hb nD_M_good_137 (by decide) ?_
  exact mw_z hx hb hr hlocks rfl ⟨σ22, rfl, h⟩ hP hK hD hS nD_M_good_138
end
section
set_option maxHeartbeats 4000000 in
set_option maxRecDepth 100000 in
theorem wl_M_note_2 {l : Launch} {p : Program} {e : Env} {s : State} {m : MethodId} {args : Array Value} {below : List Frame} {meth : Method} {c : Code} {D : va_G} {tc : Nat → ClassId} {a : Nat → Nat} {w0 : va_W} (post : zS → Prop) (K : Int32 → zS → Prop) (hx : p.tables.exec = Jvm.exec) (hb : c.code = nC_M_note) (hml : c.maxLocals = 6) (hr : meth.sig.returnType = none) (hown : s.vm.findClass nM_M_note.cls = some m.cls) (hlocks : meth.locks = false) (hw : ∀ w ∈ wA, w.before args s = true) (hn : mN s) (hK : va_K D nCl (ztM tc) s) (hA : ∀ q, s.heap.size ≤ q → va_A w0 s.heap.size q)
    (hk : ∀ (y1 : Int32) (σ : zS) (H : Heap) (locs : List Loc) (ls : Array Slot), K y1 σ → va_P D nCl (zM a tc σ) H → va_D (va_A w0 s.heap.size) (zM a tc σ) → va_S (va_A w0 s.heap.size) s.heap H locs → lv_has ls 6 [(0, .ref (a 0)), (1, .int y1)] → W p l e ({ frames := 1, cells := 0, slots := 0, locals := 23 } : Room) s m args below meth c H locs 0 0 (MQ below (va_Qv (zQv (zM a tc) post) (mQW D (ztM tc) w0 s.heap.size) (va_A w0 s.heap.size)) args s 0 0 (va_A w0 s.heap.size)) (F0 m 35 ls [])) : ∀ q : Int32 × zS, zLP (b_M_note_2 post K) q → ∀ (H : Heap) (locs : List Loc) (ls : Array Slot), va_P D nCl (zM a tc q.2) H → va_D (va_A w0 s.heap.size) (zM a tc q.2) → va_S (va_A w0 s.heap.size) s.heap H locs → lv_has ls 6 [(0, .ref (a 0)), (1, .int q.1)] → W p l e ({ frames := 1, cells := 0, slots := 0, locals := 23 } : Room) s m args below meth c H locs 0 0 (MQ below (va_Qv (zQv (zM a tc) post) (mQW D (ztM tc) w0 s.heap.size) (va_A w0 s.heap.size)) args s 0 0 (va_A w0 s.heap.size)) (F0 m 2 ls []) := by
  refine zLP_walk ?_
  rintro R ⟨y1, σ⟩ hR h H locs ls hP hD hS hl
  dsimp only at hP hD hl
  dsimp only [b_M_note_2] at h
  refine lv_iload_n hx hb nD_M_note_2 rfl (lv_at hl 1 rfl) ?_
  refine lv_aload_n hx hb nD_M_note_3 rfl (lv_at hl 0 rfl) ?_
  refine va_get (D := D) (ci := 5) (v := .int (σ.1 4)) (C := nR_M) (T := nT_M) (N := 23) hx hb hw wu_M hown hK hP 0 yc_0 rfl 4 (by decide) (hw _ wm_427) (fun _ h9 => h9) rfl nD_M_note_4 ?_
  refine lv_icmp_ge (tgt := 35) hx hb nD_M_note_7 (by decide) (fun hc => ?_) (fun hc => ?_)
  · have h := h.1 hc
    exact hk y1 σ _ _ ls h hP hD hS hl
  · have h := h.2 hc
    refine lv_aload_n hx hb nD_M_note_10 rfl (lv_at hl 0 rfl) ?_
    refine va_get (D := D) (ci := 5) (v := .ref (a 7)) (C := nR_M) (T := nT_M) (N := 23) hx hb hw wu_M hown hK hP 0 yc_0 rfl 11 (by decide) (hw _ wm_434) (fun _ h9 => h9) rfl nD_M_note_11 ?_
    refine lv_iload_n hx hb nD_M_note_14 rfl (lv_at hl 1 rfl) ?_
    obtain ⟨hi1, h⟩ := h
    refine va_iald (D := D) hx hb hK hP 7 6 yc_7 rfl hi1 nD_M_note_15 ?_
    refine lv_iconst (v := (1 : Int32)) hx hb nD_M_note_16 (by decide) ?_
    refine lv_icmp_ne (tgt := 29) hx hb nD_M_note_17 (by decide) (fun hc => ?_) (fun hc => ?_)
    · have h := h.2 hc
      refine lv_iinc (k := 1) (v := y1 + 1) hx hb nD_M_note_29 hl rfl rfl (by decide) rfl (fun ls hl => ?_)
      have hl : lv_has ls 6 [(1, .int (y1 + 1)), (0, .ref (a 0))] := hl
      refine lv_goto (tgt := 2) hx hb nD_M_note_32 (by decide) ?_
      have hl := lv_sub (l' := [(0, .ref (a 0)), (1, .int (y1 + 1))]) hl [1, 0] rfl
      exact hR _ h _ _ ls hP hD hS hl
    · have h := h.1 hc
      refine lv_aload_n hx hb nD_M_note_20 rfl (lv_at hl 0 rfl) ?_
      refine lv_iload_n hx hb nD_M_note_21 rfl (lv_at hl 1 rfl) ?_
      refine zC_i (va_runV (As := [.int y1]) (rest := []) ⟨hx, hb, hml, hown, hw⟩ (c_M_isListed l D tc a y1 σ _ h _) (mcV 1 hw wm_409 wm_406 wm_408 wm_15 wm_33 rfl rfl nh_M_isListed ⟨Nat.le_of_ble_eq_true rfl, Nat.le_of_ble_eq_true rfl⟩) (zp_V (ci := 5) hP hD hK hn rfl yc_0) rfl rfl hl.1 rfl (lv_room (Nat.le_of_ble_eq_true rfl)) nD_M_note_22 ⟨Nat.zero_le _, Nat.zero_le _⟩) hD hS hA (fun r3 σ2 H locs h hP hD hS => ?_)
      refine lv_if_ne (tgt := 29) hx hb nD_M_note_25 (by decide) (fun hc => ?_) (fun hc => ?_)
      · have h := h.2 hc
        refine lv_iinc (k := 1) (v := y1 + 1) hx hb nD_M_note_29 hl rfl rfl (by decide) rfl (fun ls hl => ?_)
        have hl : lv_has ls 6 [(1, .int (y1 + 1)), (0, .ref (a 0))] := hl
        refine lv_goto (tgt := 2) hx hb nD_M_note_32 (by decide) ?_
        have hl := lv_sub (l' := [(0, .ref (a 0)), (1, .int (y1 + 1))]) hl [1, 0] rfl
        exact hR _ h _ _ ls hP hD hS hl
      · have h := h.1 hc
        exact mw_v hx hb hr hlocks ⟨σ2, rfl, h⟩ hP hK hD hS nD_M_note_28
set_option maxHeartbeats 4000000 in
set_option maxRecDepth 100000 in
theorem wl_M_note_53 {l : Launch} {p : Program} {e : Env} {s : State} {m : MethodId} {args : Array Value} {below : List Frame} {meth : Method} {c : Code} {D : va_G} {tc : Nat → ClassId} {a : Nat → Nat} {w0 : va_W} (post : zS → Prop) (K : Int64 → Int32 → zS → Prop) (hx : p.tables.exec = Jvm.exec) (hb : c.code = nC_M_note) (hml : c.maxLocals = 6) (hr : meth.sig.returnType = none) (hown : s.vm.findClass nM_M_note.cls = some m.cls) (hlocks : meth.locks = false) (hw : ∀ w ∈ wA, w.before args s = true) (hn : mN s) (hK : va_K D nCl (ztM tc) s) (hA : ∀ q, s.heap.size ≤ q → va_A w0 s.heap.size q)
    (hk : ∀ (y1 : Int64) (y3 : Int32) (σ : zS) (H : Heap) (locs : List Loc) (ls : Array Slot), K y1 y3 σ → va_P D nCl (zM a tc σ) H → va_D (va_A w0 s.heap.size) (zM a tc σ) → va_S (va_A w0 s.heap.size) s.heap H locs → lv_has ls 6 [(0, .ref (a 0)), (1, .long y1), (3, .int y3)] → W p l e ({ frames := 1, cells := 0, slots := 0, locals := 23 } : Room) s m args below meth c H locs 0 0 (MQ below (va_Qv (zQv (zM a tc) post) (mQW D (ztM tc) w0 s.heap.size) (va_A w0 s.heap.size)) args s 0 0 (va_A w0 s.heap.size)) (F0 m 83 ls [])) : ∀ q : Int64 × Int32 × zS, zLP (b_M_note_53 post K) q → ∀ (H : Heap) (locs : List Loc) (ls : Array Slot), va_P D nCl (zM a tc q.2.2) H → va_D (va_A w0 s.heap.size) (zM a tc q.2.2) → va_S (va_A w0 s.heap.size) s.heap H locs → lv_has ls 6 [(0, .ref (a 0)), (1, .long q.1), (3, .int q.2.1)] → W p l e ({ frames := 1, cells := 0, slots := 0, locals := 23 } : Room) s m args below meth c H locs 0 0 (MQ below (va_Qv (zQv (zM a tc) post) (mQW D (ztM tc) w0 s.heap.size) (va_A w0 s.heap.size)) args s 0 0 (va_A w0 s.heap.size)) (F0 m 53 ls []) := by
  refine zLP_walk ?_
  rintro R ⟨y1, y3, σ⟩ hR h H locs ls hP hD hS hl
  dsimp only at hP hD hl
  dsimp only [b_M_note_53] at h
  refine lv_iload_n hx hb nD_M_note_53 rfl (lv_at hl 2 rfl) ?_
  refine lv_aload_n hx hb nD_M_note_54 rfl (lv_at hl 0 rfl) ?_
  refine va_get (D := D) (ci := 5) (v := .int (σ.1 6)) (C := nR_M) (T := nT_M) (N := 23) hx hb hw wu_M hown hK hP 0 yc_0 rfl 16 (by decide) (hw _ wm_439) (fun _ h9 => h9) rfl nD_M_note_55 ?_
  refine lv_icmp_ge (tgt := 83) hx hb nD_M_note_58 (by decide) (fun hc => ?_) (fun hc => ?_)
  · have h := h.1 hc
    exact hk y1 y3 σ _ _ ls h hP hD hS hl
  · have h := h.2 hc
    refine lv_lload_n hx hb nD_M_note_61 rfl (lv_at hl 1 rfl) ?_
    refine lv_aload_n hx hb nD_M_note_62 rfl (lv_at hl 0 rfl) ?_
    refine va_get (D := D) (ci := 5) (v := .ref (a 11)) (C := nR_M) (T := nT_M) (N := 23) hx hb hw wu_M hown hK hP 0 yc_0 rfl 17 (by decide) (hw _ wm_440) (fun _ h9 => h9) rfl nD_M_note_63 ?_
    refine lv_iload_n hx hb nD_M_note_66 rfl (lv_at hl 2 rfl) ?_
    obtain ⟨hi8, h⟩ := h
    refine va_iald (D := D) hx hb hK hP 11 10 yc_11 rfl hi8 nD_M_note_67 ?_
    refine lv_i2l (v := (σ.2.1 10 y3.toNatClampNeg).toInt64) hx hb nD_M_note_68 rfl ?_
    refine lv_iconst (v := (4 : Int32)) hx hb nD_M_note_69 (by decide) ?_
    refine lv_iconst (v := (4 : Int32)) hx hb nD_M_note_70 (by decide) ?_
    refine lv_iload_n hx hb nD_M_note_71 rfl (lv_at hl 2 rfl) ?_
    refine lv_imul hx hb nD_M_note_72 ?_
    refine lv_iadd hx hb nD_M_note_73 ?_
    refine lv_lshl (v := ((σ.2.1 10 y3.toNatClampNeg).toInt64) <<< (((4 : Int32) + ((4 : Int32) * y3)).toInt64 &&& 63)) hx hb nD_M_note_74 rfl ?_
    refine lv_ladd hx hb nD_M_note_75 ?_
    refine lv_topl (fun v9 e_v9 => ?_)
    have h := h v9 e_v9
    clear e_v9
    refine lv_lstore_n hx hb nD_M_note_76 rfl hl (by decide) rfl (fun ls hl => ?_)
    have hl : lv_has ls 6 [(1, .long v9), (0, .ref (a 0)), (3, .int y3)] := hl
    refine lv_iinc (k := 2) (v := y3 + 1) hx hb nD_M_note_77 hl rfl rfl (by decide) rfl (fun ls hl => ?_)
    have hl : lv_has ls 6 [(3, .int (y3 + 1)), (1, .long v9), (0, .ref (a 0))] := hl
    refine lv_goto (tgt := 53) hx hb nD_M_note_80 (by decide) ?_
    have hl := lv_sub (l' := [(0, .ref (a 0)), (1, .long v9), (3, .int (y3 + 1))]) hl [2, 1, 0] rfl
    exact hR _ h _ _ ls hP hD hS hl
set_option maxHeartbeats 4000000 in
set_option maxRecDepth 100000 in
theorem wl_M_note_88 {l : Launch} {p : Program} {e : Env} {s : State} {m : MethodId} {args : Array Value} {below : List Frame} {meth : Method} {c : Code} {D : va_G} {tc : Nat → ClassId} {a : Nat → Nat} {w0 : va_W} (x1 : Int64) (post : zS → Prop) (K : Int32 → Int32 → zS → Prop) (hx : p.tables.exec = Jvm.exec) (hb : c.code = nC_M_note) (hml : c.maxLocals = 6) (hr : meth.sig.returnType = none) (hown : s.vm.findClass nM_M_note.cls = some m.cls) (hlocks : meth.locks = false) (hw : ∀ w ∈ wA, w.before args s = true) (hn : mN s) (hK : va_K D nCl (ztM tc) s) (hA : ∀ q, s.heap.size ≤ q → va_A w0 s.heap.size q)
    (hk : ∀ (y3 : Int32) (y4 : Int32) (σ : zS) (H : Heap) (locs : List Loc) (ls : Array Slot), K y3 y4 σ → va_P D nCl (zM a tc σ) H → va_D (va_A w0 s.heap.size) (zM a tc σ) → va_S (va_A w0 s.heap.size) s.heap H locs → lv_has ls 6 [(0, .ref (a 0)), (1, .long x1), (3, .int y3), (4, .int y4)] → W p l e ({ frames := 1, cells := 0, slots := 0, locals := 23 } : Room) s m args below meth c H locs 0 0 (MQ below (va_Qv (zQv (zM a tc) post) (mQW D (ztM tc) w0 s.heap.size) (va_A w0 s.heap.size)) args s 0 0 (va_A w0 s.heap.size)) (F0 m 125 ls [])) : ∀ q : Int32 × Int32 × zS, zLP (b_M_note_88 x1 post K) q → ∀ (H : Heap) (locs : List Loc) (ls : Array Slot), va_P D nCl (zM a tc q.2.2) H → va_D (va_A w0 s.heap.size) (zM a tc q.2.2) → va_S (va_A w0 s.heap.size) s.heap H locs → lv_has ls 6 [(0, .ref (a 0)), (1, .long x1), (3, .int q.1), (4, .int q.2.1)] → W p l e ({ frames := 1, cells := 0, slots := 0, locals := 23 } : Room) s m args below meth c H locs 0 0 (MQ below (va_Qv (zQv (zM a tc) post) (mQW D (ztM tc) w0 s.heap.size) (va_A w0 s.heap.size)) args s 0 0 (va_A w0 s.heap.size)) (F0 m 88 ls []) := by
  refine zLP_walk ?_
  rintro R ⟨y3, y4, σ⟩ hR h H locs ls hP hD hS hl
  dsimp only at hP hD hl
  dsimp only [b_M_note_88] at h
  refine lv_iload hx hb nD_M_note_88 (lv_at hl 3 rfl) ?_
  refine lv_aload_n hx hb nD_M_note_90 rfl (lv_at hl 0 rfl) ?_
  refine va_get (D := D) (ci := 5) (v := .int (σ.1 7)) (C := nR_M) (T := nT_M) (N := 23) hx hb hw wu_M hown hK hP 0 yc_0 rfl 19 (by decide) (hw _ wm_442) (fun _ h9 => h9) rfl nD_M_note_91 ?_
  refine lv_icmp_ge (tgt := 125) hx hb nD_M_note_94 (by decide) (fun hc => ?_) (fun hc => ?_)
  · have h := h.1 hc
    exact hk y3 y4 σ _ _ ls h hP hD hS hl
  · have h := h.2 hc
    refine lv_iload_n hx hb nD_M_note_97 rfl (lv_at hl 2 rfl) ?_
    refine lv_if_ne (tgt := 113) hx hb nD_M_note_98 (by decide) (fun hc => ?_) (fun hc => ?_)
    · have h := h.2 hc
      refine lv_iconst (v := (1 : Int32)) hx hb nD_M_note_113 (by decide) ?_
      refine lv_goto (tgt := 118) hx hb nD_M_note_114 (by decide) ?_
      refine lv_istore_n hx hb nD_M_note_118 rfl hl (by decide) rfl (fun ls hl => ?_)
      have hl : lv_has ls 6 [(3, .int (1 : Int32)), (0, .ref (a 0)), (1, .long x1), (4, .int y4)] := hl
      refine lv_iinc (k := 3) (v := y4 + 1) hx hb nD_M_note_119 hl rfl rfl (by decide) rfl (fun ls hl => ?_)
      have hl : lv_has ls 6 [(4, .int (y4 + 1)), (3, .int (1 : Int32)), (0, .ref (a 0)), (1, .long x1)] := hl
      refine lv_goto (tgt := 88) hx hb nD_M_note_122 (by decide) ?_
      have hl := lv_sub (l' := [(0, .ref (a 0)), (1, .long x1), (3, .int (1 : Int32)), (4, .int (y4 + 1))]) hl [2, 3, 1, 0] rfl
      exact hR _ h _ _ ls hP hD hS hl
    · have h := h.1 hc
      refine lv_aload_n hx hb nD_M_note_101 rfl (lv_at hl 0 rfl) ?_
      refine va_get (D := D) (ci := 5) (v := .ref (a 12)) (C := nR_M) (T := nT_M) (N := 23) hx hb hw wu_M hown hK hP 0 yc_0 rfl 20 (by decide) (hw _ wm_443) (fun _ h9 => h9) rfl nD_M_note_102 ?_
      refine lv_iload hx hb nD_M_note_105 (lv_at hl 3 rfl) ?_
      obtain ⟨hi13, h⟩ := h
      refine va_lald (D := D) hx hb hK hP 12 11 yc_12 rfl hi13 nD_M_note_107 ?_
      refine lv_lload_n hx hb nD_M_note_108 rfl (lv_at hl 1 rfl) ?_
      refine W.lcmp hx hb nD_M_note_109 ?_
      refine lv_if_ne (tgt := 117) hx hb nD_M_note_110 (by decide) (fun hc => ?_) (fun hc => ?_)
      · have h := h.2 hc
        refine lv_iconst (v := (0 : Int32)) hx hb nD_M_note_117 (by decide) ?_
        refine lv_istore_n hx hb nD_M_note_118 rfl hl (by decide) rfl (fun ls hl => ?_)
        have hl : lv_has ls 6 [(3, .int (0 : Int32)), (0, .ref (a 0)), (1, .long x1), (4, .int y4)] := hl
        refine lv_iinc (k := 3) (v := y4 + 1) hx hb nD_M_note_119 hl rfl rfl (by decide) rfl (fun ls hl => ?_)
        have hl : lv_has ls 6 [(4, .int (y4 + 1)), (3, .int (0 : Int32)), (0, .ref (a 0)), (1, .long x1)] := hl
        refine lv_goto (tgt := 88) hx hb nD_M_note_122 (by decide) ?_
        have hl := lv_sub (l' := [(0, .ref (a 0)), (1, .long x1), (3, .int (0 : Int32)), (4, .int (y4 + 1))]) hl [2, 3, 1, 0] rfl
        exact hR _ h _ _ ls hP hD hS hl
      · have h := h.1 hc
        refine lv_iconst (v := (1 : Int32)) hx hb nD_M_note_113 (by decide) ?_
        refine lv_goto (tgt := 118) hx hb nD_M_note_114 (by decide) ?_
        refine lv_istore_n hx hb nD_M_note_118 rfl hl (by decide) rfl (fun ls hl => ?_)
        have hl : lv_has ls 6 [(3, .int (1 : Int32)), (0, .ref (a 0)), (1, .long x1), (4, .int y4)] := hl
        refine lv_iinc (k := 3) (v := y4 + 1) hx hb nD_M_note_119 hl rfl rfl (by decide) rfl (fun ls hl => ?_)
        have hl : lv_has ls 6 [(4, .int (y4 + 1)), (3, .int (1 : Int32)), (0, .ref (a 0)), (1, .long x1)] := hl
        refine lv_goto (tgt := 88) hx hb nD_M_note_122 (by decide) ?_
        have hl := lv_sub (l' := [(0, .ref (a 0)), (1, .long x1), (3, .int (1 : Int32)), (4, .int (y4 + 1))]) hl [2, 3, 1, 0] rfl
        exact hR _ h _ _ ls hP hD hS hl
set_option maxHeartbeats 4000000 in
set_option maxRecDepth 100000 in
theorem wl_M_note_162 {l : Launch} {p : Program} {e : Env} {s : State} {m : MethodId} {args : Array Value} {below : List Frame} {meth : Method} {c : Code} {D : va_G} {tc : Nat → ClassId} {a : Nat → Nat} {w0 : va_W} (post : zS → Prop) (K : Int32 → zS → Prop) (hx : p.tables.exec = Jvm.exec) (hb : c.code = nC_M_note) (hml : c.maxLocals = 6) (hr : meth.sig.returnType = none) (hown : s.vm.findClass nM_M_note.cls = some m.cls) (hlocks : meth.locks = false) (hw : ∀ w ∈ wA, w.before args s = true) (hn : mN s) (hK : va_K D nCl (ztM tc) s) (hA : ∀ q, s.heap.size ≤ q → va_A w0 s.heap.size q)
    (hk : ∀ (y4 : Int32) (σ : zS) (H : Heap) (locs : List Loc) (ls : Array Slot), K y4 σ → va_P D nCl (zM a tc σ) H → va_D (va_A w0 s.heap.size) (zM a tc σ) → va_S (va_A w0 s.heap.size) s.heap H locs → lv_has ls 6 [(0, .ref (a 0)), (4, .int y4)] → W p l e ({ frames := 1, cells := 0, slots := 0, locals := 23 } : Room) s m args below meth c H locs 0 0 (MQ below (va_Qv (zQv (zM a tc) post) (mQW D (ztM tc) w0 s.heap.size) (va_A w0 s.heap.size)) args s 0 0 (va_A w0 s.heap.size)) (F0 m 258 ls [])) : ∀ q : Int32 × zS, zLP (b_M_note_162 post K) q → ∀ (H : Heap) (locs : List Loc) (ls : Array Slot), va_P D nCl (zM a tc q.2) H → va_D (va_A w0 s.heap.size) (zM a tc q.2) → va_S (va_A w0 s.heap.size) s.heap H locs → lv_has ls 6 [(0, .ref (a 0)), (4, .int q.1)] → W p l e ({ frames := 1, cells := 0, slots := 0, locals := 23 } : Room) s m args below meth c H locs 0 0 (MQ below (va_Qv (zQv (zM a tc) post) (mQW D (ztM tc) w0 s.heap.size) (va_A w0 s.heap.size)) args s 0 0 (va_A w0 s.heap.size)) (F0 m 162 ls []) := by
  refine zLP_walk ?_
  rintro R ⟨y4, σ⟩ hR h H locs ls hP hD hS hl
  dsimp only at hP hD hl
  dsimp only [b_M_note_162] at h
  refine lv_iload hx hb nD_M_note_162 (lv_at hl 1 rfl) ?_
  refine lv_aload_n hx hb nD_M_note_164 rfl (lv_at hl 0 rfl) ?_
  refine va_get (D := D) (ci := 5) (v := .int (σ.1 5)) (C := nR_M) (T := nT_M) (N := 23) hx hb hw wu_M hown hK hP 0 yc_0 rfl 12 (by decide) (hw _ wm_435) (fun _ h9 => h9) rfl nD_M_note_165 ?_
  refine lv_icmp_ge (tgt := 258) hx hb nD_M_note_168 (by decide) (fun hc => ?_) (fun hc => ?_)
  · have h := h.1 hc
    exact hk y4 σ _ _ ls h hP hD hS hl
  · have h := h.2 hc
    refine lv_aload_n hx hb nD_M_note_171 rfl (lv_at hl 0 rfl) ?_
    refine va_get (D := D) (ci := 5) (v := .ref (a 8)) (C := nR_M) (T := nT_M) (N := 23) hx hb hw wu_M hown hK hP 0 yc_0 rfl 13 (by decide) (hw _ wm_436) (fun _ h9 => h9) rfl nD_M_note_172 ?_
    refine lv_iload hx hb nD_M_note_175 (lv_at hl 1 rfl) ?_
    obtain ⟨hi17, h⟩ := h
    refine va_iald (D := D) hx hb hK hP 8 7 yc_8 rfl hi17 nD_M_note_177 ?_
    refine lv_topi (fun v18 e_v18 => ?_)
    have h := h v18 e_v18
    clear e_v18
    refine lv_istore hx hb nD_M_note_178 hl (by decide) rfl (fun ls hl => ?_)
    have hl : lv_has ls 6 [(5, .int v18), (0, .ref (a 0)), (4, .int y4)] := hl
    refine lv_aload_n hx hb nD_M_note_180 rfl (lv_at hl 1 rfl) ?_
    refine va_get (D := D) (ci := 5) (v := .ref (a 7)) (C := nR_M) (T := nT_M) (N := 23) hx hb hw wu_M hown hK hP 0 yc_0 rfl 11 (by decide) (hw _ wm_434) (fun _ h9 => h9) rfl nD_M_note_181 ?_
    refine lv_iload hx hb nD_M_note_184 (lv_at hl 0 rfl) ?_
    obtain ⟨hi19, h⟩ := h
    refine va_iald (D := D) hx hb hK hP 7 6 yc_7 rfl hi19 nD_M_note_186 ?_
    refine lv_if_ne (tgt := 252) hx hb nD_M_note_187 (by decide) (fun hc => ?_) (fun hc => ?_)
    · have h := h.2 hc
      refine lv_iinc (k := 2) (v := y4 + 1) hx hb nD_M_note_252 hl rfl rfl (by decide) rfl (fun ls hl => ?_)
      have hl : lv_has ls 6 [(4, .int (y4 + 1)), (5, .int v18), (0, .ref (a 0))] := hl
      refine lv_goto (tgt := 162) hx hb nD_M_note_255 (by decide) ?_
      have hl := lv_sub (l' := [(0, .ref (a 0)), (4, .int (y4 + 1))]) hl [2, 0] rfl
      exact hR _ h _ _ ls hP hD hS hl
    · have h := h.1 hc
      refine lv_aload_n hx hb nD_M_note_190 rfl (lv_at hl 1 rfl) ?_
      refine va_get (D := D) (ci := 5) (v := .ref (a 13)) (C := nR_M) (T := nT_M) (N := 23) hx hb hw wu_M hown hK hP 0 yc_0 rfl 21 (by decide) (hw _ wm_444) (fun _ h9 => h9) rfl nD_M_note_191 ?_
      refine lv_aload_n hx hb nD_M_note_194 rfl (lv_at hl 1 rfl) ?_
      refine va_get (D := D) (ci := 5) (v := .ref (a 1)) (C := nR_M) (T := nT_M) (N := 23) hx hb hw wu_M hown hK hP 0 yc_0 rfl 5 (by decide) (hw _ wm_428) (fun _ h9 => h9) rfl nD_M_note_195 ?_
      refine lv_iload hx hb nD_M_note_198 (lv_at hl 0 rfl) ?_
      obtain ⟨hi20, h⟩ := h
      refine va_iald (D := D) hx hb hK hP 1 0 yc_1 rfl hi20 nD_M_note_200 ?_
      refine lv_aload_n hx hb nD_M_note_201 rfl (lv_at hl 1 rfl) ?_
      refine va_get (D := D) (ci := 5) (v := .ref (a 13)) (C := nR_M) (T := nT_M) (N := 23) hx hb hw wu_M hown hK hP 0 yc_0 rfl 21 (by decide) (hw _ wm_444) (fun _ h9 => h9) rfl nD_M_note_202 ?_
      refine lv_aload_n hx hb nD_M_note_205 rfl (lv_at hl 1 rfl) ?_
      refine va_get (D := D) (ci := 5) (v := .ref (a 1)) (C := nR_M) (T := nT_M) (N := 23) hx hb hw wu_M hown hK hP 0 yc_0 rfl 5 (by decide) (hw _ wm_428) (fun _ h9 => h9) rfl nD_M_note_206 ?_
      refine lv_iload hx hb nD_M_note_209 (lv_at hl 0 rfl) ?_
      obtain ⟨hi21, h⟩ := h
      refine va_iald (D := D) hx hb hK hP 1 0 yc_1 rfl hi21 nD_M_note_211 ?_
      obtain ⟨hi22, h⟩ := h
      refine va_lald (D := D) hx hb hK hP 13 12 yc_13 rfl hi22 nD_M_note_212 ?_
      refine lv_lconst (v := (1 : Int64)) hx hb nD_M_note_213 (by decide) ?_
      refine lv_ladd hx hb nD_M_note_214 ?_
      obtain ⟨hi23, h⟩ := h
      refine va_last (D := D) hx hb hK hP hD hS 13 12 yc_13 rfl hi23 nD_M_note_215 (fun H locs hP hD hS => ?_)
      obtain ⟨σ24, e_σ24⟩ : ∃ z : zS, z = zL σ 1 (σ.2.1 0 v18.toNatClampNeg).toNatClampNeg ((σ.2.2 1 (σ.2.1 0 v18.toNatClampNeg).toNatClampNeg) + (1 : Int64)) := ⟨_, rfl⟩
      obtain ⟨hP, hD⟩ := znew (w := zM a tc) e_σ24 (ya_13) hP hD
      have h := h σ24 e_σ24
      clear e_σ24
      refine lv_aload_n hx hb nD_M_note_216 rfl (lv_at hl 1 rfl) ?_
      refine va_get (D := D) (ci := 5) (v := .ref (a 14)) (C := nR_M) (T := nT_M) (N := 23) hx hb hw wu_M hown hK hP 0 yc_0 rfl 22 (by decide) (hw _ wm_445) (fun _ h9 => h9) rfl nD_M_note_217 ?_
      refine lv_aload_n hx hb nD_M_note_220 rfl (lv_at hl 1 rfl) ?_
      refine va_get (D := D) (ci := 5) (v := .ref (a 1)) (C := nR_M) (T := nT_M) (N := 23) hx hb hw wu_M hown hK hP 0 yc_0 rfl 5 (by decide) (hw _ wm_428) (fun _ h9 => h9) rfl nD_M_note_221 ?_
      refine lv_iload hx hb nD_M_note_224 (lv_at hl 0 rfl) ?_
      obtain ⟨hi25, h⟩ := h
      refine va_iald (D := D) hx hb hK hP 1 0 yc_1 rfl hi25 nD_M_note_226 ?_
      refine lv_aload_n hx hb nD_M_note_227 rfl (lv_at hl 1 rfl) ?_
      refine va_get (D := D) (ci := 5) (v := .ref (a 14)) (C := nR_M) (T := nT_M) (N := 23) hx hb hw wu_M hown hK hP 0 yc_0 rfl 22 (by decide) (hw _ wm_445) (fun _ h9 => h9) rfl nD_M_note_228 ?_
      refine lv_aload_n hx hb nD_M_note_231 rfl (lv_at hl 1 rfl) ?_
      refine va_get (D := D) (ci := 5) (v := .ref (a 1)) (C := nR_M) (T := nT_M) (N := 23) hx hb hw wu_M hown hK hP 0 yc_0 rfl 5 (by decide) (hw _ wm_428) (fun _ h9 => h9) rfl nD_M_note_232 ?_
      refine lv_iload hx hb nD_M_note_235 (lv_at hl 0 rfl) ?_
      obtain ⟨hi26, h⟩ := h
      refine va_iald (D := D) hx hb hK hP 1 0 yc_1 rfl hi26 nD_M_note_237 ?_
      obtain ⟨hi27, h⟩ := h
      refine va_iald (D := D) hx hb hK hP 14 13 yc_14 rfl hi27 nD_M_note_238 ?_
      refine lv_iconst (v := (1 : Int32)) hx hb nD_M_note_239 (by decide) ?_
      refine lv_aload_n hx hb nD_M_note_240 rfl (lv_at hl 1 rfl) ?_
      refine va_get (D := D) (ci := 5) (v := .ref (a 9)) (C := nR_M) (T := nT_M) (N := 23) hx hb hw wu_M hown hK hP 0 yc_0 rfl 14 (by decide) (hw _ wm_437) (fun _ h9 => h9) rfl nD_M_note_241 ?_
      refine lv_iload hx hb nD_M_note_244 (lv_at hl 0 rfl) ?_
      obtain ⟨hi28, h⟩ := h
      refine va_iald (D := D) hx hb hK hP 9 8 yc_9 rfl hi28 nD_M_note_246 ?_
      refine lv_iconst (v := (1 : Int32)) hx hb nD_M_note_247 (by decide) ?_
      refine lv_iadd hx hb nD_M_note_248 ?_
      refine lv_ishl hx hb nD_M_note_249 ?_
      refine lv_ior hx hb nD_M_note_250 ?_
      obtain ⟨hi29, h⟩ := h
      refine va_iast (D := D) hx hb hK hP hD hS 14 13 yc_14 rfl hi29 nD_M_note_251 (fun H locs hP hD hS => ?_)
      obtain ⟨σ30, e_σ30⟩ : ∃ z : zS, z = zA σ24 11 (σ24.2.1 0 v18.toNatClampNeg).toNatClampNeg ((σ24.2.1 11 (σ24.2.1 0 v18.toNatClampNeg).toNatClampNeg) ||| ((1 : Int32) <<< (((σ24.2.1 8 v18.toNatClampNeg) + (1 : Int32)) &&& 31))) := ⟨_, rfl⟩
      obtain ⟨hP, hD⟩ := znew (w := zM a tc) e_σ30 (ya_14) hP hD
      have h := h σ30 e_σ30
      clear e_σ30
      refine lv_iinc (k := 2) (v := y4 + 1) hx hb nD_M_note_252 hl rfl rfl (by decide) rfl (fun ls hl => ?_)
      have hl : lv_has ls 6 [(4, .int (y4 + 1)), (5, .int v18), (0, .ref (a 0))] := hl
      refine lv_goto (tgt := 162) hx hb nD_M_note_255 (by decide) ?_
      have hl := lv_sub (l' := [(0, .ref (a 0)), (4, .int (y4 + 1))]) hl [2, 0] rfl
      exact hR _ h _ _ ls hP hD hS hl
set_option maxHeartbeats 4000000 in
set_option maxRecDepth 100000 in
theorem c_M_note (l : Launch) (D : va_G) (tc : Nat → ClassId) (a : Nat → Nat) (σ : zS) (post : zS → Prop) (h : j_M_note  σ post) : mWv l nM_M_note nC_M_note 6 ({ frames := 1, cells := 0, slots := 0, locals := 23 } : Room) D (ztM tc) [.ref (a 0)] (zM a tc σ) (zQv (zM a tc) post) := by
  intro sz
  refine mt_W (by decide) (Nat.le_of_ble_eq_true rfl) ?_
  intro p e s m below meth c ls hx hb hml hr hown hlocks hin hw hn hP hK hD hS hA hl hsz
  subst hsz
  have hl : lv_has ls 6 [(0, .ref (a 0))] := hl
  unfold j_M_note at h
  refine lv_iconst (v := (0 : Int32)) hx hb nD_M_note_0 (by decide) ?_
  refine lv_istore_n hx hb nD_M_note_1 rfl hl (by decide) rfl (fun ls hl => ?_)
  have hl : lv_has ls 6 [(1, .int (0 : Int32)), (0, .ref (a 0))] := hl
  have hl := lv_sub (l' := [(0, .ref (a 0)), (1, .int (0 : Int32))]) hl [1, 0] rfl
  refine wl_M_note_2 (l := l) post _ hx hb hml hr hown hlocks hw hn hK hA (fun v4 σ5 H locs ls h hP hD hS hl => ?_) ((0 : Int32), σ) h _ _ ls hP hD hS hl
  refine lv_aload_n hx hb nD_M_note_35 rfl (lv_at hl 0 rfl) ?_
  refine lv_dup hx hb nD_M_note_36 rfl ?_
  refine va_get (D := D) (ci := 5) (v := .long (σ5.2.2 2 0)) (C := nR_M) (T := nT_M) (N := 23) hx hb hw wu_M hown hK hP 0 yc_0 rfl 18 (by decide) (hw _ wm_441) (fun _ h9 => h9) rfl nD_M_note_37 ?_
  refine lv_lconst (v := (1 : Int64)) hx hb nD_M_note_40 (by decide) ?_
  refine lv_ladd hx hb nD_M_note_41 ?_
  refine va_put (D := D) (ci := 5) (v := .long ((σ5.2.2 2 0) + (1 : Int64))) (ty := .long) (C := nR_M) (T := nT_M) (N := 23) hx hb hw wu_M nY_M nO_M nN_M hown hK hP hD hS 0 yc_0 rfl 18 (by decide) (hw _ wm_441) (fun _ h9 => h9) rfl (by decide +kernel) rfl rfl (Nat.le_of_ble_eq_true rfl) nD_M_note_42 (fun H locs hP hD hS => ?_)
  obtain ⟨σ6, e_σ6⟩ : ∃ z : zS, z = zT σ5 ((σ5.2.2 2 0) + (1 : Int64)) := ⟨_, rfl⟩
  obtain ⟨hP, hD⟩ := znew (w := zM a tc) e_σ6 (yp_0_18) hP hD
  have h := h σ6 e_σ6
  clear e_σ6
  refine lv_aload_n hx hb nD_M_note_45 rfl (lv_at hl 0 rfl) ?_
  refine va_get (D := D) (ci := 5) (v := .int (σ6.1 6)) (C := nR_M) (T := nT_M) (N := 23) hx hb hw wu_M hown hK hP 0 yc_0 rfl 16 (by decide) (hw _ wm_439) (fun _ h9 => h9) rfl nD_M_note_46 ?_
  refine lv_i2l (v := (σ6.1 6).toInt64) hx hb nD_M_note_49 rfl ?_
  refine lv_topl (fun v7 e_v7 => ?_)
  have h := h v7 e_v7
  clear e_v7
  refine lv_lstore_n hx hb nD_M_note_50 rfl hl (by decide) rfl (fun ls hl => ?_)
  have hl : lv_has ls 6 [(1, .long v7), (0, .ref (a 0))] := hl
  refine lv_iconst (v := (0 : Int32)) hx hb nD_M_note_51 (by decide) ?_
  refine lv_istore_n hx hb nD_M_note_52 rfl hl (by decide) rfl (fun ls hl => ?_)
  have hl : lv_has ls 6 [(3, .int (0 : Int32)), (1, .long v7), (0, .ref (a 0))] := hl
  have hl := lv_sub (l' := [(0, .ref (a 0)), (1, .long v7), (3, .int (0 : Int32))]) hl [2, 1, 0] rfl
  refine wl_M_note_53 (l := l) post _ hx hb hml hr hown hlocks hw hn hK hA (fun v10 v11 σ12 H locs ls h hP hD hS hl => ?_) (v7, (0 : Int32), σ6) h _ _ ls hP hD hS hl
  refine lv_iconst (v := (0 : Int32)) hx hb nD_M_note_83 (by decide) ?_
  refine lv_istore_n hx hb nD_M_note_84 rfl hl (by decide) rfl (fun ls hl => ?_)
  have hl : lv_has ls 6 [(3, .int (0 : Int32)), (0, .ref (a 0)), (1, .long v10)] := hl
  refine lv_iconst (v := (0 : Int32)) hx hb nD_M_note_85 (by decide) ?_
  refine lv_istore hx hb nD_M_note_86 hl (by decide) rfl (fun ls hl => ?_)
  have hl : lv_has ls 6 [(4, .int (0 : Int32)), (3, .int (0 : Int32)), (0, .ref (a 0)), (1, .long v10)] := hl
  have hl := lv_sub (l' := [(0, .ref (a 0)), (1, .long v10), (3, .int (0 : Int32)), (4, .int (0 : Int32))]) hl [2, 3, 1, 0] rfl
  refine wl_M_note_88 (l := l) v10 post _ hx hb hml hr hown hlocks hw hn hK hA (fun v14 v15 σ16 H locs ls h hP hD hS hl => ?_) ((0 : Int32), (0 : Int32), σ12) h _ _ ls hP hD hS hl
  refine lv_iload_n hx hb nD_M_note_125 rfl (lv_at hl 2 rfl) ?_
  refine lv_if_ne (tgt := 159) hx hb nD_M_note_126 (by decide) (fun hc => ?_) (fun hc => ?_)
  · have h := h.2 hc
    refine lv_iconst (v := (0 : Int32)) hx hb nD_M_note_159 (by decide) ?_
    refine lv_istore hx hb nD_M_note_160 hl (by decide) rfl (fun ls hl => ?_)
    have hl : lv_has ls 6 [(4, .int (0 : Int32)), (0, .ref (a 0)), (1, .long v10), (3, .int v14)] := hl
    have hl := lv_sub (l' := [(0, .ref (a 0)), (4, .int (0 : Int32))]) hl [1, 0] rfl
    refine wl_M_note_162 (l := l) post _ hx hb hml hr hown hlocks hw hn hK hA (fun v31 σ32 H locs ls h hP hD hS hl => ?_) ((0 : Int32), σ16) h _ _ ls hP hD hS hl
    exact mw_v hx hb hr hlocks ⟨σ32, rfl, h⟩ hP hK hD hS nD_M_note_258
  · have h := h.1 hc
    refine lv_aload_n hx hb nD_M_note_129 rfl (lv_at hl 0 rfl) ?_
    refine va_get (D := D) (ci := 5) (v := .int (σ16.1 7)) (C := nR_M) (T := nT_M) (N := 23) hx hb hw wu_M hown hK hP 0 yc_0 rfl 19 (by decide) (hw _ wm_442) (fun _ h9 => h9) rfl nD_M_note_130 ?_
    refine lv_sipush (v := (1400 : Int32)) hx hb nD_M_note_133 (by decide) ?_
    refine lv_icmp_ge (tgt := 159) hx hb nD_M_note_136 (by decide) (fun hc => ?_) (fun hc => ?_)
    · have h := h.1 hc
      refine lv_iconst (v := (0 : Int32)) hx hb nD_M_note_159 (by decide) ?_
      refine lv_istore hx hb nD_M_note_160 hl (by decide) rfl (fun ls hl => ?_)
      have hl : lv_has ls 6 [(4, .int (0 : Int32)), (0, .ref (a 0)), (1, .long v10), (3, .int v14)] := hl
      have hl := lv_sub (l' := [(0, .ref (a 0)), (4, .int (0 : Int32))]) hl [1, 0] rfl
      refine wl_M_note_162 (l := l) post _ hx hb hml hr hown hlocks hw hn hK hA (fun v33 σ34 H locs ls h hP hD hS hl => ?_) ((0 : Int32), σ16) h _ _ ls hP hD hS hl
      exact mw_v hx hb hr hlocks ⟨σ34, rfl, h⟩ hP hK hD hS nD_M_note_258
    · have h := h.2 hc
      refine lv_aload_n hx hb nD_M_note_139 rfl (lv_at hl 0 rfl) ?_
      refine va_get (D := D) (ci := 5) (v := .ref (a 12)) (C := nR_M) (T := nT_M) (N := 23) hx hb hw wu_M hown hK hP 0 yc_0 rfl 20 (by decide) (hw _ wm_443) (fun _ h9 => h9) rfl nD_M_note_140 ?_
      refine lv_aload_n hx hb nD_M_note_143 rfl (lv_at hl 0 rfl) ?_
      refine va_get (D := D) (ci := 5) (v := .int (σ16.1 7)) (C := nR_M) (T := nT_M) (N := 23) hx hb hw wu_M hown hK hP 0 yc_0 rfl 19 (by decide) (hw _ wm_442) (fun _ h9 => h9) rfl nD_M_note_144 ?_
      refine lv_lload_n hx hb nD_M_note_147 rfl (lv_at hl 1 rfl) ?_
      obtain ⟨hi35, h⟩ := h
      refine va_last (D := D) hx hb hK hP hD hS 12 11 yc_12 rfl hi35 nD_M_note_148 (fun H locs hP hD hS => ?_)
      obtain ⟨σ36, e_σ36⟩ : ∃ z : zS, z = zL σ16 0 (σ16.1 7).toNatClampNeg v10 := ⟨_, rfl⟩
      obtain ⟨hP, hD⟩ := znew (w := zM a tc) e_σ36 (ya_12) hP hD
      have h := h σ36 e_σ36
      clear e_σ36
      refine lv_aload_n hx hb nD_M_note_149 rfl (lv_at hl 0 rfl) ?_
      refine lv_dup hx hb nD_M_note_150 rfl ?_
      refine va_get (D := D) (ci := 5) (v := .int (σ36.1 7)) (C := nR_M) (T := nT_M) (N := 23) hx hb hw wu_M hown hK hP 0 yc_0 rfl 19 (by decide) (hw _ wm_442) (fun _ h9 => h9) rfl nD_M_note_151 ?_
      refine lv_iconst (v := (1 : Int32)) hx hb nD_M_note_154 (by decide) ?_
      refine lv_iadd hx hb nD_M_note_155 ?_
      refine va_put (D := D) (ci := 5) (v := .int ((σ36.1 7) + (1 : Int32))) (ty := .int) (C := nR_M) (T := nT_M) (N := 23) hx hb hw wu_M nY_M nO_M nN_M hown hK hP hD hS 0 yc_0 rfl 19 (by decide) (hw _ wm_442) (fun _ h9 => h9) rfl (by decide +kernel) rfl rfl (Nat.le_of_ble_eq_true rfl) nD_M_note_156 (fun H locs hP hD hS => ?_)
      obtain ⟨σ37, e_σ37⟩ : ∃ z : zS, z = zI σ36 7 ((σ36.1 7) + (1 : Int32)) := ⟨_, rfl⟩
      obtain ⟨hP, hD⟩ := znew (w := zM a tc) e_σ37 (yp_0_19) hP hD
      have h := h σ37 e_σ37
      clear e_σ37
      refine lv_iconst (v := (0 : Int32)) hx hb nD_M_note_159 (by decide) ?_
      refine lv_istore hx hb nD_M_note_160 hl (by decide) rfl (fun ls hl => ?_)
      have hl : lv_has ls 6 [(4, .int (0 : Int32)), (0, .ref (a 0)), (1, .long v10), (3, .int v14)] := hl
      have hl := lv_sub (l' := [(0, .ref (a 0)), (4, .int (0 : Int32))]) hl [1, 0] rfl
      refine wl_M_note_162 (l := l) post _ hx hb hml hr hown hlocks hw hn hK hA (fun v38 σ39 H locs ls h hP hD hS hl => ?_) ((0 : Int32), σ37) h _ _ ls hP hD hS hl
      exact mw_v hx hb hr hlocks ⟨σ39, rfl, h⟩ hP hK hD hS nD_M_note_258
set_option maxHeartbeats 4000000 in
set_option maxRecDepth 100000 in
theorem c_M_lengthen (l : Launch) (D : va_G) (tc : Nat → ClassId) (a : Nat → Nat) (x1 : Int32) (σ : zS) (post : zS → Prop) (h : j_M_lengthen x1 σ post) : mWv l nM_M_lengthen nC_M_lengthen 2 ({ frames := 2, cells := 0, slots := 0, locals := 48 } : Room) D (ztM tc) [.ref (a 0), .int x1] (zM a tc σ) (zQv (zM a tc) post) := by
  intro sz
  refine mt_W (by decide) (Nat.le_of_ble_eq_true rfl) ?_
  intro p e s m below meth c ls hx hb hml hr hown hlocks hin hw hn hP hK hD hS hA hl hsz
  subst hsz
  have hl : lv_has ls 2 [(0, .ref (a 0)), (1, .int x1)] := hl
  unfold j_M_lengthen at h
  refine lv_aload_n hx hb nD_M_lengthen_0 rfl (lv_at hl 0 rfl) ?_
  refine va_get (D := D) (ci := 5) (v := .ref (a 8)) (C := nR_M) (T := nT_M) (N := 23) hx hb hw wu_M hown hK hP 0 yc_0 rfl 13 (by decide) (hw _ wm_436) (fun _ h9 => h9) rfl nD_M_lengthen_1 ?_
  refine lv_aload_n hx hb nD_M_lengthen_4 rfl (lv_at hl 0 rfl) ?_
  refine va_get (D := D) (ci := 5) (v := .int (σ.1 5)) (C := nR_M) (T := nT_M) (N := 23) hx hb hw wu_M hown hK hP 0 yc_0 rfl 12 (by decide) (hw _ wm_435) (fun _ h9 => h9) rfl nD_M_lengthen_5 ?_
  refine lv_iload_n hx hb nD_M_lengthen_8 rfl (lv_at hl 1 rfl) ?_
  obtain ⟨hi1, h⟩ := h
  refine va_iast (D := D) hx hb hK hP hD hS 8 7 yc_8 rfl hi1 nD_M_lengthen_9 (fun H locs hP hD hS => ?_)
  obtain ⟨σ2, e_σ2⟩ : ∃ z : zS, z = zA σ 7 (σ.1 5).toNatClampNeg x1 := ⟨_, rfl⟩
  obtain ⟨hP, hD⟩ := znew (w := zM a tc) e_σ2 (ya_8) hP hD
  have h := h σ2 e_σ2
  clear e_σ2
  refine lv_aload_n hx hb nD_M_lengthen_10 rfl (lv_at hl 0 rfl) ?_
  refine lv_dup hx hb nD_M_lengthen_11 rfl ?_
  refine va_get (D := D) (ci := 5) (v := .int (σ2.1 5)) (C := nR_M) (T := nT_M) (N := 23) hx hb hw wu_M hown hK hP 0 yc_0 rfl 12 (by decide) (hw _ wm_435) (fun _ h9 => h9) rfl nD_M_lengthen_12 ?_
  refine lv_iconst (v := (1 : Int32)) hx hb nD_M_lengthen_15 (by decide) ?_
  refine lv_iadd hx hb nD_M_lengthen_16 ?_
  refine va_put (D := D) (ci := 5) (v := .int ((σ2.1 5) + (1 : Int32))) (ty := .int) (C := nR_M) (T := nT_M) (N := 23) hx hb hw wu_M nY_M nO_M nN_M hown hK hP hD hS 0 yc_0 rfl 12 (by decide) (hw _ wm_435) (fun _ h9 => h9) rfl (by decide +kernel) rfl rfl (Nat.le_of_ble_eq_true rfl) nD_M_lengthen_17 (fun H locs hP hD hS => ?_)
  obtain ⟨σ3, e_σ3⟩ : ∃ z : zS, z = zI σ2 5 ((σ2.1 5) + (1 : Int32)) := ⟨_, rfl⟩
  obtain ⟨hP, hD⟩ := znew (w := zM a tc) e_σ3 (yp_0_12) hP hD
  have h := h σ3 e_σ3
  clear e_σ3
  refine lv_aload_n hx hb nD_M_lengthen_20 rfl (lv_at hl 0 rfl) ?_
  refine zC_i (va_runV (As := []) (rest := []) ⟨hx, hb, hml, hown, hw⟩ (c_M_good l D tc a σ3 _ h _) (mcV 0 hw wm_418 wm_415 wm_417 wm_17 wm_33 rfl rfl nh_M_good ⟨Nat.le_of_ble_eq_true rfl, Nat.le_of_ble_eq_true rfl⟩) (zp_V (ci := 5) hP hD hK hn rfl yc_0) rfl rfl hl.1 rfl (lv_room (Nat.le_of_ble_eq_true rfl)) nD_M_lengthen_21 ⟨Nat.zero_le _, Nat.zero_le _⟩) hD hS hA (fun r5 σ4 H locs h hP hD hS => ?_)
  refine lv_if_eq (tgt := 44) hx hb nD_M_lengthen_24 (by decide) (fun hc => ?_) (fun hc => ?_)
  · have h := h.1 hc
    refine lv_aload_n hx hb nD_M_lengthen_44 rfl (lv_at hl 0 rfl) ?_
    refine lv_dup hx hb nD_M_lengthen_45 rfl ?_
    refine va_get (D := D) (ci := 5) (v := .int (σ4.1 5)) (C := nR_M) (T := nT_M) (N := 23) hx hb hw wu_M hown hK hP 0 yc_0 rfl 12 (by decide) (hw _ wm_435) (fun _ h9 => h9) rfl nD_M_lengthen_46 ?_
    refine lv_iconst (v := (1 : Int32)) hx hb nD_M_lengthen_49 (by decide) ?_
    refine lv_isub hx hb nD_M_lengthen_50 ?_
    refine va_put (D := D) (ci := 5) (v := .int ((σ4.1 5) - (1 : Int32))) (ty := .int) (C := nR_M) (T := nT_M) (N := 23) hx hb hw wu_M nY_M nO_M nN_M hown hK hP hD hS 0 yc_0 rfl 12 (by decide) (hw _ wm_435) (fun _ h9 => h9) rfl (by decide +kernel) rfl rfl (Nat.le_of_ble_eq_true rfl) nD_M_lengthen_51 (fun H locs hP hD hS => ?_)
    obtain ⟨σ6, e_σ6⟩ : ∃ z : zS, z = zI σ4 5 ((σ4.1 5) - (1 : Int32)) := ⟨_, rfl⟩
    obtain ⟨hP, hD⟩ := znew (w := zM a tc) e_σ6 (yp_0_12) hP hD
    have h := h σ6 e_σ6
    clear e_σ6
    exact mw_v hx hb hr hlocks ⟨σ6, rfl, h⟩ hP hK hD hS nD_M_lengthen_54
  · have h := h.2 hc
    refine lv_aload_n hx hb nD_M_lengthen_27 rfl (lv_at hl 0 rfl) ?_
    refine zC_v (va_runV (As := []) (rest := []) ⟨hx, hb, hml, hown, hw⟩ (c_M_note l D tc a σ4 _ h _) (mcV 0 hw wm_405 wm_402 wm_404 wm_14 wm_33 rfl rfl nh_M_note ⟨Nat.le_of_ble_eq_true rfl, Nat.le_of_ble_eq_true rfl⟩) (zp_V (ci := 5) hP hD hK hn rfl yc_0) rfl rfl hl.1 rfl (lv_room (Nat.le_of_ble_eq_true rfl)) nD_M_lengthen_28 ⟨Nat.zero_le _, Nat.zero_le _⟩) hD hS hA (fun σ7 H locs h hP hD hS => ?_)
    refine lv_aload_n hx hb nD_M_lengthen_31 rfl (lv_at hl 0 rfl) ?_
    refine va_get (D := D) (ci := 5) (v := .ref (a 10)) (C := nR_M) (T := nT_M) (N := 23) hx hb hw wu_M hown hK hP 0 yc_0 rfl 15 (by decide) (hw _ wm_438) (fun _ h9 => h9) rfl nD_M_lengthen_32 ?_
    refine lv_aload_n hx hb nD_M_lengthen_35 rfl (lv_at hl 0 rfl) ?_
    refine va_get (D := D) (ci := 5) (v := .int (σ7.1 5)) (C := nR_M) (T := nT_M) (N := 23) hx hb hw wu_M hown hK hP 0 yc_0 rfl 12 (by decide) (hw _ wm_435) (fun _ h9 => h9) rfl nD_M_lengthen_36 ?_
    refine lv_iconst (v := (0 : Int32)) hx hb nD_M_lengthen_39 (by decide) ?_
    obtain ⟨hi8, h⟩ := h
    refine va_iast (D := D) hx hb hK hP hD hS 10 9 yc_10 rfl hi8 nD_M_lengthen_40 (fun H locs hP hD hS => ?_)
    obtain ⟨σ9, e_σ9⟩ : ∃ z : zS, z = zA σ7 9 (σ7.1 5).toNatClampNeg (0 : Int32) := ⟨_, rfl⟩
    obtain ⟨hP, hD⟩ := znew (w := zM a tc) e_σ9 (ya_10) hP hD
    have h := h σ9 e_σ9
    clear e_σ9
    refine lv_goto (tgt := 54) hx hb nD_M_lengthen_41 (by decide) ?_
    exact mw_v hx hb hr hlocks ⟨σ9, rfl, h⟩ hP hK hD hS nD_M_lengthen_54
set_option maxHeartbeats 4000000 in
set_option maxRecDepth 100000 in
theorem wl_M_work_12 {l : Launch} {p : Program} {e : Env} {s : State} {m : MethodId} {args : Array Value} {below : List Frame} {meth : Method} {c : Code} {D : va_G} {tc : Nat → ClassId} {a : Nat → Nat} {w0 : va_W} (post : zS → Prop) (K : Int32 → zS → Prop) (hx : p.tables.exec = Jvm.exec) (hb : c.code = nC_M_work) (hml : c.maxLocals = 3) (hr : meth.sig.returnType = none) (hown : s.vm.findClass nM_M_work.cls = some m.cls) (hlocks : meth.locks = false) (hw : ∀ w ∈ wA, w.before args s = true) (hn : mN s) (hK : va_K D nCl (ztM tc) s) (hA : ∀ q, s.heap.size ≤ q → va_A w0 s.heap.size q)
    (hk : ∀ (y1 : Int32) (σ : zS) (H : Heap) (locs : List Loc) (ls : Array Slot), K y1 σ → va_P D nCl (zM a tc σ) H → va_D (va_A w0 s.heap.size) (zM a tc σ) → va_S (va_A w0 s.heap.size) s.heap H locs → lv_has ls 3 [(0, .ref (a 0)), (1, .int y1)] → W p l e ({ frames := 3, cells := 0, slots := 0, locals := 69 } : Room) s m args below meth c H locs 0 0 (MQ below (va_Qv (zQv (zM a tc) post) (mQW D (ztM tc) w0 s.heap.size) (va_A w0 s.heap.size)) args s 0 0 (va_A w0 s.heap.size)) (F0 m 37 ls [])) : ∀ q : Int32 × zS, zLP (b_M_work_12 post K) q → ∀ (H : Heap) (locs : List Loc) (ls : Array Slot), va_P D nCl (zM a tc q.2) H → va_D (va_A w0 s.heap.size) (zM a tc q.2) → va_S (va_A w0 s.heap.size) s.heap H locs → lv_has ls 3 [(0, .ref (a 0)), (1, .int q.1)] → W p l e ({ frames := 3, cells := 0, slots := 0, locals := 69 } : Room) s m args below meth c H locs 0 0 (MQ below (va_Qv (zQv (zM a tc) post) (mQW D (ztM tc) w0 s.heap.size) (va_A w0 s.heap.size)) args s 0 0 (va_A w0 s.heap.size)) (F0 m 12 ls []) := by
  refine zLP_walk ?_
  rintro R ⟨y1, σ⟩ hR h H locs ls hP hD hS hl
  dsimp only at hP hD hl
  dsimp only [b_M_work_12] at h
  refine lv_iload_n hx hb nD_M_work_12 rfl (lv_at hl 1 rfl) ?_
  refine lv_iconst (v := (3 : Int32)) hx hb nD_M_work_13 (by decide) ?_
  refine lv_icmp_ge (tgt := 37) hx hb nD_M_work_14 (by decide) (fun hc => ?_) (fun hc => ?_)
  · have h := h.1 hc
    exact hk y1 σ _ _ ls h hP hD hS hl
  · have h := h.2 hc
    refine lv_aload_n hx hb nD_M_work_17 rfl (lv_at hl 0 rfl) ?_
    refine va_get (D := D) (ci := 5) (v := .ref (a 13)) (C := nR_M) (T := nT_M) (N := 23) hx hb hw wu_M hown hK hP 0 yc_0 rfl 21 (by decide) (hw _ wm_444) (fun _ h9 => h9) rfl nD_M_work_18 ?_
    refine lv_iload_n hx hb nD_M_work_21 rfl (lv_at hl 1 rfl) ?_
    refine lv_lconst (v := (0 : Int64)) hx hb nD_M_work_22 (by decide) ?_
    obtain ⟨hi3, h⟩ := h
    refine va_last (D := D) hx hb hK hP hD hS 13 12 yc_13 rfl hi3 nD_M_work_23 (fun H locs hP hD hS => ?_)
    obtain ⟨σ4, e_σ4⟩ : ∃ z : zS, z = zL σ 1 y1.toNatClampNeg (0 : Int64) := ⟨_, rfl⟩
    obtain ⟨hP, hD⟩ := znew (w := zM a tc) e_σ4 (ya_13) hP hD
    have h := h σ4 e_σ4
    clear e_σ4
    refine lv_aload_n hx hb nD_M_work_24 rfl (lv_at hl 0 rfl) ?_
    refine va_get (D := D) (ci := 5) (v := .ref (a 14)) (C := nR_M) (T := nT_M) (N := 23) hx hb hw wu_M hown hK hP 0 yc_0 rfl 22 (by decide) (hw _ wm_445) (fun _ h9 => h9) rfl nD_M_work_25 ?_
    refine lv_iload_n hx hb nD_M_work_28 rfl (lv_at hl 1 rfl) ?_
    refine lv_iconst (v := (0 : Int32)) hx hb nD_M_work_29 (by decide) ?_
    obtain ⟨hi5, h⟩ := h
    refine va_iast (D := D) hx hb hK hP hD hS 14 13 yc_14 rfl hi5 nD_M_work_30 (fun H locs hP hD hS => ?_)
    obtain ⟨σ6, e_σ6⟩ : ∃ z : zS, z = zA σ4 11 y1.toNatClampNeg (0 : Int32) := ⟨_, rfl⟩
    obtain ⟨hP, hD⟩ := znew (w := zM a tc) e_σ6 (ya_14) hP hD
    have h := h σ6 e_σ6
    clear e_σ6
    refine lv_iinc (k := 1) (v := y1 + 1) hx hb nD_M_work_31 hl rfl rfl (by decide) rfl (fun ls hl => ?_)
    have hl : lv_has ls 3 [(1, .int (y1 + 1)), (0, .ref (a 0))] := hl
    refine lv_goto (tgt := 12) hx hb nD_M_work_34 (by decide) ?_
    have hl := lv_sub (l' := [(0, .ref (a 0)), (1, .int (y1 + 1))]) hl [1, 0] rfl
    exact hR _ h _ _ ls hP hD hS hl
set_option maxHeartbeats 4000000 in
set_option maxRecDepth 100000 in
theorem wl_M_work_60 {l : Launch} {p : Program} {e : Env} {s : State} {m : MethodId} {args : Array Value} {below : List Frame} {meth : Method} {c : Code} {D : va_G} {tc : Nat → ClassId} {a : Nat → Nat} {w0 : va_W} (post : zS → Prop) (K : Int32 → zS → Prop) (hx : p.tables.exec = Jvm.exec) (hb : c.code = nC_M_work) (hml : c.maxLocals = 3) (hr : meth.sig.returnType = none) (hown : s.vm.findClass nM_M_work.cls = some m.cls) (hlocks : meth.locks = false) (hw : ∀ w ∈ wA, w.before args s = true) (hn : mN s) (hK : va_K D nCl (ztM tc) s) (hA : ∀ q, s.heap.size ≤ q → va_A w0 s.heap.size q)
    (hk : ∀ (y1 : Int32) (σ : zS) (H : Heap) (locs : List Loc) (ls : Array Slot), K y1 σ → va_P D nCl (zM a tc σ) H → va_D (va_A w0 s.heap.size) (zM a tc σ) → va_S (va_A w0 s.heap.size) s.heap H locs → lv_has ls 3 [(0, .ref (a 0)), (1, .int y1)] → W p l e ({ frames := 3, cells := 0, slots := 0, locals := 69 } : Room) s m args below meth c H locs 0 0 (MQ below (va_Qv (zQv (zM a tc) post) (mQW D (ztM tc) w0 s.heap.size) (va_A w0 s.heap.size)) args s 0 0 (va_A w0 s.heap.size)) (F0 m 146 ls [])) : ∀ q : Int32 × zS, zLP (b_M_work_60 post K) q → ∀ (H : Heap) (locs : List Loc) (ls : Array Slot), va_P D nCl (zM a tc q.2) H → va_D (va_A w0 s.heap.size) (zM a tc q.2) → va_S (va_A w0 s.heap.size) s.heap H locs → lv_has ls 3 [(0, .ref (a 0)), (1, .int q.1)] → W p l e ({ frames := 3, cells := 0, slots := 0, locals := 69 } : Room) s m args below meth c H locs 0 0 (MQ below (va_Qv (zQv (zM a tc) post) (mQW D (ztM tc) w0 s.heap.size) (va_A w0 s.heap.size)) args s 0 0 (va_A w0 s.heap.size)) (F0 m 60 ls []) := by
  refine zLP_walk ?_
  rintro R ⟨y1, σ⟩ hR h H locs ls hP hD hS hl
  dsimp only at hP hD hl
  dsimp only [b_M_work_60] at h
  refine lv_iload_n hx hb nD_M_work_60 rfl (lv_at hl 1 rfl) ?_
  refine lv_ldc (v := (2000000 : Int32)) hx hb hown (hw _ wm_410) nD_M_work_61 ?_
  refine lv_icmp_ge (tgt := 146) hx hb nD_M_work_63 (by decide) (fun hc => ?_) (fun hc => ?_)
  · have h := h.1 hc
    exact hk y1 σ _ _ ls h hP hD hS hl
  · have h := h.2 hc
    refine lv_aload_n hx hb nD_M_work_66 rfl (lv_at hl 0 rfl) ?_
    refine va_get (D := D) (ci := 5) (v := .ref (a 10)) (C := nR_M) (T := nT_M) (N := 23) hx hb hw wu_M hown hK hP 0 yc_0 rfl 15 (by decide) (hw _ wm_438) (fun _ h9 => h9) rfl nD_M_work_67 ?_
    refine lv_aload_n hx hb nD_M_work_70 rfl (lv_at hl 0 rfl) ?_
    refine va_get (D := D) (ci := 5) (v := .int (σ.1 5)) (C := nR_M) (T := nT_M) (N := 23) hx hb hw wu_M hown hK hP 0 yc_0 rfl 12 (by decide) (hw _ wm_435) (fun _ h9 => h9) rfl nD_M_work_71 ?_
    obtain ⟨hi14, h⟩ := h
    refine va_iald (D := D) hx hb hK hP 10 9 yc_10 rfl hi14 nD_M_work_74 ?_
    refine lv_topi (fun v15 e_v15 => ?_)
    have h := h v15 e_v15
    clear e_v15
    refine lv_istore_n hx hb nD_M_work_75 rfl hl (by decide) rfl (fun ls hl => ?_)
    have hl : lv_has ls 3 [(2, .int v15), (0, .ref (a 0)), (1, .int y1)] := hl
    refine lv_iload_n hx hb nD_M_work_76 rfl (lv_at hl 0 rfl) ?_
    refine lv_aload_n hx hb nD_M_work_77 rfl (lv_at hl 1 rfl) ?_
    refine va_get (D := D) (ci := 5) (v := .int (σ.1 4)) (C := nR_M) (T := nT_M) (N := 23) hx hb hw wu_M hown hK hP 0 yc_0 rfl 4 (by decide) (hw _ wm_427) (fun _ h9 => h9) rfl nD_M_work_78 ?_
    refine lv_icmp_ge (tgt := 122) hx hb nD_M_work_81 (by decide) (fun hc => ?_) (fun hc => ?_)
    · have h := h.1 hc
      refine lv_aload_n hx hb nD_M_work_122 rfl (lv_at hl 1 rfl) ?_
      refine va_get (D := D) (ci := 5) (v := .int (σ.1 5)) (C := nR_M) (T := nT_M) (N := 23) hx hb hw wu_M hown hK hP 0 yc_0 rfl 12 (by decide) (hw _ wm_435) (fun _ h9 => h9) rfl nD_M_work_123 ?_
      refine lv_if_ne (tgt := 130) hx hb nD_M_work_126 (by decide) (fun hc => ?_) (fun hc => ?_)
      · have h := h.2 hc
        refine lv_aload_n hx hb nD_M_work_130 rfl (lv_at hl 1 rfl) ?_
        refine lv_dup hx hb nD_M_work_131 rfl ?_
        refine va_get (D := D) (ci := 5) (v := .int (σ.1 5)) (C := nR_M) (T := nT_M) (N := 23) hx hb hw wu_M hown hK hP 0 yc_0 rfl 12 (by decide) (hw _ wm_435) (fun _ h9 => h9) rfl nD_M_work_132 ?_
        refine lv_iconst (v := (1 : Int32)) hx hb nD_M_work_135 (by decide) ?_
        refine lv_isub hx hb nD_M_work_136 ?_
        refine va_put (D := D) (ci := 5) (v := .int ((σ.1 5) - (1 : Int32))) (ty := .int) (C := nR_M) (T := nT_M) (N := 23) hx hb hw wu_M nY_M nO_M nN_M hown hK hP hD hS 0 yc_0 rfl 12 (by decide) (hw _ wm_435) (fun _ h9 => h9) rfl (by decide +kernel) rfl rfl (Nat.le_of_ble_eq_true rfl) nD_M_work_137 (fun H locs hP hD hS => ?_)
        obtain ⟨σ16, e_σ16⟩ : ∃ z : zS, z = zI σ 5 ((σ.1 5) - (1 : Int32)) := ⟨_, rfl⟩
        obtain ⟨hP, hD⟩ := znew (w := zM a tc) e_σ16 (yp_0_12) hP hD
        have h := h σ16 e_σ16
        clear e_σ16
        refine lv_iinc (k := 2) (v := y1 + 1) hx hb nD_M_work_140 hl rfl rfl (by decide) rfl (fun ls hl => ?_)
        have hl : lv_has ls 3 [(1, .int (y1 + 1)), (2, .int v15), (0, .ref (a 0))] := hl
        refine lv_goto (tgt := 60) hx hb nD_M_work_143 (by decide) ?_
        have hl := lv_sub (l' := [(0, .ref (a 0)), (1, .int (y1 + 1))]) hl [2, 0] rfl
        exact hR _ h _ _ ls hP hD hS hl
      · have h := h.1 hc
        exact mw_v hx hb hr hlocks ⟨σ, rfl, h⟩ hP hK hD hS nD_M_work_129
    · have h := h.2 hc
      refine lv_aload_n hx hb nD_M_work_84 rfl (lv_at hl 1 rfl) ?_
      refine va_get (D := D) (ci := 5) (v := .ref (a 10)) (C := nR_M) (T := nT_M) (N := 23) hx hb hw wu_M hown hK hP 0 yc_0 rfl 15 (by decide) (hw _ wm_438) (fun _ h9 => h9) rfl nD_M_work_85 ?_
      refine lv_aload_n hx hb nD_M_work_88 rfl (lv_at hl 1 rfl) ?_
      refine va_get (D := D) (ci := 5) (v := .int (σ.1 5)) (C := nR_M) (T := nT_M) (N := 23) hx hb hw wu_M hown hK hP 0 yc_0 rfl 12 (by decide) (hw _ wm_435) (fun _ h9 => h9) rfl nD_M_work_89 ?_
      refine lv_iload_n hx hb nD_M_work_92 rfl (lv_at hl 0 rfl) ?_
      refine lv_iconst (v := (1 : Int32)) hx hb nD_M_work_93 (by decide) ?_
      refine lv_iadd hx hb nD_M_work_94 ?_
      obtain ⟨hi17, h⟩ := h
      refine va_iast (D := D) hx hb hK hP hD hS 10 9 yc_10 rfl hi17 nD_M_work_95 (fun H locs hP hD hS => ?_)
      obtain ⟨σ18, e_σ18⟩ : ∃ z : zS, z = zA σ 9 (σ.1 5).toNatClampNeg (v15 + (1 : Int32)) := ⟨_, rfl⟩
      obtain ⟨hP, hD⟩ := znew (w := zM a tc) e_σ18 (ya_10) hP hD
      have h := h σ18 e_σ18
      clear e_σ18
      refine lv_aload_n hx hb nD_M_work_96 rfl (lv_at hl 1 rfl) ?_
      refine va_get (D := D) (ci := 5) (v := .ref (a 7)) (C := nR_M) (T := nT_M) (N := 23) hx hb hw wu_M hown hK hP 0 yc_0 rfl 11 (by decide) (hw _ wm_434) (fun _ h9 => h9) rfl nD_M_work_97 ?_
      refine lv_iload_n hx hb nD_M_work_100 rfl (lv_at hl 0 rfl) ?_
      obtain ⟨hi19, h⟩ := h
      refine va_iald (D := D) hx hb hK hP 7 6 yc_7 rfl hi19 nD_M_work_101 ?_
      refine lv_iconst (v := (2 : Int32)) hx hb nD_M_work_102 (by decide) ?_
      refine lv_icmp_eq (tgt := 140) hx hb nD_M_work_103 (by decide) (fun hc => ?_) (fun hc => ?_)
      · have h := h.1 hc
        refine lv_iinc (k := 2) (v := y1 + 1) hx hb nD_M_work_140 hl rfl rfl (by decide) rfl (fun ls hl => ?_)
        have hl : lv_has ls 3 [(1, .int (y1 + 1)), (2, .int v15), (0, .ref (a 0))] := hl
        refine lv_goto (tgt := 60) hx hb nD_M_work_143 (by decide) ?_
        have hl := lv_sub (l' := [(0, .ref (a 0)), (1, .int (y1 + 1))]) hl [2, 0] rfl
        exact hR _ h _ _ ls hP hD hS hl
      · have h := h.2 hc
        refine lv_aload_n hx hb nD_M_work_106 rfl (lv_at hl 1 rfl) ?_
        refine lv_iload_n hx hb nD_M_work_107 rfl (lv_at hl 0 rfl) ?_
        refine zC_i (va_runV (As := [.int v15]) (rest := []) ⟨hx, hb, hml, hown, hw⟩ (c_M_isListed l D tc a v15 σ18 _ h _) (mcV 1 hw wm_409 wm_406 wm_408 wm_15 wm_33 rfl rfl nh_M_isListed ⟨Nat.le_of_ble_eq_true rfl, Nat.le_of_ble_eq_true rfl⟩) (zp_V (ci := 5) hP hD hK hn rfl yc_0) rfl rfl hl.1 rfl (lv_room (Nat.le_of_ble_eq_true rfl)) nD_M_work_108 ⟨Nat.zero_le _, Nat.zero_le _⟩) hD hS hA (fun r21 σ20 H locs h hP hD hS => ?_)
        refine lv_if_ne (tgt := 140) hx hb nD_M_work_111 (by decide) (fun hc => ?_) (fun hc => ?_)
        · have h := h.2 hc
          refine lv_iinc (k := 2) (v := y1 + 1) hx hb nD_M_work_140 hl rfl rfl (by decide) rfl (fun ls hl => ?_)
          have hl : lv_has ls 3 [(1, .int (y1 + 1)), (2, .int v15), (0, .ref (a 0))] := hl
          refine lv_goto (tgt := 60) hx hb nD_M_work_143 (by decide) ?_
          have hl := lv_sub (l' := [(0, .ref (a 0)), (1, .int (y1 + 1))]) hl [2, 0] rfl
          exact hR _ h _ _ ls hP hD hS hl
        · have h := h.1 hc
          refine lv_aload_n hx hb nD_M_work_114 rfl (lv_at hl 1 rfl) ?_
          refine lv_iload_n hx hb nD_M_work_115 rfl (lv_at hl 0 rfl) ?_
          refine zC_v (va_runV (As := [.int v15]) (rest := []) ⟨hx, hb, hml, hown, hw⟩ (c_M_lengthen l D tc a v15 σ20 _ h _) (mcV 1 hw wm_414 wm_411 wm_413 wm_16 wm_33 rfl rfl nh_M_lengthen ⟨Nat.le_of_ble_eq_true rfl, Nat.le_of_ble_eq_true rfl⟩) (zp_V (ci := 5) hP hD hK hn rfl yc_0) rfl rfl hl.1 rfl (lv_room (Nat.le_of_ble_eq_true rfl)) nD_M_work_116 ⟨Nat.zero_le _, Nat.zero_le _⟩) hD hS hA (fun σ22 H locs h hP hD hS => ?_)
          refine lv_goto (tgt := 140) hx hb nD_M_work_119 (by decide) ?_
          refine lv_iinc (k := 2) (v := y1 + 1) hx hb nD_M_work_140 hl rfl rfl (by decide) rfl (fun ls hl => ?_)
          have hl : lv_has ls 3 [(1, .int (y1 + 1)), (2, .int v15), (0, .ref (a 0))] := hl
          refine lv_goto (tgt := 60) hx hb nD_M_work_143 (by decide) ?_
          have hl := lv_sub (l' := [(0, .ref (a 0)), (1, .int (y1 + 1))]) hl [2, 0] rfl
          exact hR _ h _ _ ls hP hD hS hl
set_option maxHeartbeats 4000000 in
set_option maxRecDepth 100000 in
theorem c_M_work (l : Launch) (D : va_G) (tc : Nat → ClassId) (a : Nat → Nat) (σ : zS) (post : zS → Prop) (h : j_M_work  σ post) : mWv l nM_M_work nC_M_work 3 ({ frames := 3, cells := 0, slots := 0, locals := 69 } : Room) D (ztM tc) [.ref (a 0)] (zM a tc σ) (zQv (zM a tc) post) := by
  intro sz
  refine mt_W (by decide) (Nat.le_of_ble_eq_true rfl) ?_
  intro p e s m below meth c ls hx hb hml hr hown hlocks hin hw hn hP hK hD hS hA hl hsz
  subst hsz
  have hl : lv_has ls 3 [(0, .ref (a 0))] := hl
  unfold j_M_work at h
  refine lv_aload_n hx hb nD_M_work_0 rfl (lv_at hl 0 rfl) ?_
  refine lv_lconst (v := (0 : Int64)) hx hb nD_M_work_1 (by decide) ?_
  refine va_put (D := D) (ci := 5) (v := .long (0 : Int64)) (ty := .long) (C := nR_M) (T := nT_M) (N := 23) hx hb hw wu_M nY_M nO_M nN_M hown hK hP hD hS 0 yc_0 rfl 18 (by decide) (hw _ wm_441) (fun _ h9 => h9) rfl (by decide +kernel) rfl rfl (Nat.le_of_ble_eq_true rfl) nD_M_work_2 (fun H locs hP hD hS => ?_)
  obtain ⟨σ1, e_σ1⟩ : ∃ z : zS, z = zT σ (0 : Int64) := ⟨_, rfl⟩
  obtain ⟨hP, hD⟩ := znew (w := zM a tc) e_σ1 (yp_0_18) hP hD
  have h := h σ1 e_σ1
  clear e_σ1
  refine lv_aload_n hx hb nD_M_work_5 rfl (lv_at hl 0 rfl) ?_
  refine lv_iconst (v := (0 : Int32)) hx hb nD_M_work_6 (by decide) ?_
  refine va_put (D := D) (ci := 5) (v := .int (0 : Int32)) (ty := .int) (C := nR_M) (T := nT_M) (N := 23) hx hb hw wu_M nY_M nO_M nN_M hown hK hP hD hS 0 yc_0 rfl 19 (by decide) (hw _ wm_442) (fun _ h9 => h9) rfl (by decide +kernel) rfl rfl (Nat.le_of_ble_eq_true rfl) nD_M_work_7 (fun H locs hP hD hS => ?_)
  obtain ⟨σ2, e_σ2⟩ : ∃ z : zS, z = zI σ1 7 (0 : Int32) := ⟨_, rfl⟩
  obtain ⟨hP, hD⟩ := znew (w := zM a tc) e_σ2 (yp_0_19) hP hD
  have h := h σ2 e_σ2
  clear e_σ2
  refine lv_iconst (v := (0 : Int32)) hx hb nD_M_work_10 (by decide) ?_
  refine lv_istore_n hx hb nD_M_work_11 rfl hl (by decide) rfl (fun ls hl => ?_)
  have hl : lv_has ls 3 [(1, .int (0 : Int32)), (0, .ref (a 0))] := hl
  have hl := lv_sub (l' := [(0, .ref (a 0)), (1, .int (0 : Int32))]) hl [1, 0] rfl
  refine wl_M_work_12 (l := l) post _ hx hb hml hr hown hlocks hw hn hK hA (fun v7 σ8 H locs ls h hP hD hS hl => ?_) ((0 : Int32), σ2) h _ _ ls hP hD hS hl
  refine lv_aload_n hx hb nD_M_work_37 rfl (lv_at hl 0 rfl) ?_
  refine lv_iconst (v := (0 : Int32)) hx hb nD_M_work_38 (by decide) ?_
  refine va_put (D := D) (ci := 5) (v := .int (0 : Int32)) (ty := .int) (C := nR_M) (T := nT_M) (N := 23) hx hb hw wu_M nY_M nO_M nN_M hown hK hP hD hS 0 yc_0 rfl 12 (by decide) (hw _ wm_435) (fun _ h9 => h9) rfl (by decide +kernel) rfl rfl (Nat.le_of_ble_eq_true rfl) nD_M_work_39 (fun H locs hP hD hS => ?_)
  obtain ⟨σ9, e_σ9⟩ : ∃ z : zS, z = zI σ8 5 (0 : Int32) := ⟨_, rfl⟩
  obtain ⟨hP, hD⟩ := znew (w := zM a tc) e_σ9 (yp_0_12) hP hD
  have h := h σ9 e_σ9
  clear e_σ9
  refine lv_aload_n hx hb nD_M_work_42 rfl (lv_at hl 0 rfl) ?_
  refine va_get (D := D) (ci := 5) (v := .ref (a 10)) (C := nR_M) (T := nT_M) (N := 23) hx hb hw wu_M hown hK hP 0 yc_0 rfl 15 (by decide) (hw _ wm_438) (fun _ h9 => h9) rfl nD_M_work_43 ?_
  refine lv_iconst (v := (0 : Int32)) hx hb nD_M_work_46 (by decide) ?_
  refine lv_iconst (v := (0 : Int32)) hx hb nD_M_work_47 (by decide) ?_
  obtain ⟨hi10, h⟩ := h
  refine va_iast (D := D) hx hb hK hP hD hS 10 9 yc_10 rfl hi10 nD_M_work_48 (fun H locs hP hD hS => ?_)
  obtain ⟨σ11, e_σ11⟩ : ∃ z : zS, z = zA σ9 9 (0 : Int32).toNatClampNeg (0 : Int32) := ⟨_, rfl⟩
  obtain ⟨hP, hD⟩ := znew (w := zM a tc) e_σ11 (ya_10) hP hD
  have h := h σ11 e_σ11
  clear e_σ11
  refine lv_aload_n hx hb nD_M_work_49 rfl (lv_at hl 0 rfl) ?_
  refine lv_iconst (v := (0 : Int32)) hx hb nD_M_work_50 (by decide) ?_
  refine va_put (D := D) (ci := 5) (v := .int (0 : Int32)) (ty := .int) (C := nR_M) (T := nT_M) (N := 23) hx hb hw wu_M nY_M nO_M nN_M hown hK hP hD hS 0 yc_0 rfl 16 (by decide) (hw _ wm_439) (fun _ h9 => h9) rfl (by decide +kernel) rfl rfl (Nat.le_of_ble_eq_true rfl) nD_M_work_51 (fun H locs hP hD hS => ?_)
  obtain ⟨σ12, e_σ12⟩ : ∃ z : zS, z = zI σ11 6 (0 : Int32) := ⟨_, rfl⟩
  obtain ⟨hP, hD⟩ := znew (w := zM a tc) e_σ12 (yp_0_16) hP hD
  have h := h σ12 e_σ12
  clear e_σ12
  refine lv_aload_n hx hb nD_M_work_54 rfl (lv_at hl 0 rfl) ?_
  refine zC_v (va_runV (As := []) (rest := []) ⟨hx, hb, hml, hown, hw⟩ (c_M_note l D tc a σ12 _ h _) (mcV 0 hw wm_405 wm_402 wm_404 wm_14 wm_33 rfl rfl nh_M_note ⟨Nat.le_of_ble_eq_true rfl, Nat.le_of_ble_eq_true rfl⟩) (zp_V (ci := 5) hP hD hK hn rfl yc_0) rfl rfl hl.1 rfl (lv_room (Nat.le_of_ble_eq_true rfl)) nD_M_work_55 ⟨Nat.zero_le _, Nat.zero_le _⟩) hD hS hA (fun σ13 H locs h hP hD hS => ?_)
  refine lv_iconst (v := (0 : Int32)) hx hb nD_M_work_58 (by decide) ?_
  refine lv_istore_n hx hb nD_M_work_59 rfl hl (by decide) rfl (fun ls hl => ?_)
  have hl : lv_has ls 3 [(1, .int (0 : Int32)), (0, .ref (a 0))] := hl
  have hl := lv_sub (l' := [(0, .ref (a 0)), (1, .int (0 : Int32))]) hl [1, 0] rfl
  refine wl_M_work_60 (l := l) post _ hx hb hml hr hown hlocks hw hn hK hA (fun v23 σ24 H locs ls h hP hD hS hl => ?_) ((0 : Int32), σ13) h _ _ ls hP hD hS hl
  exact mw_v hx hb hr hlocks ⟨σ24, rfl, h⟩ hP hK hD hS nD_M_work_146
end
section
set_option maxHeartbeats 4000000 in
set_option maxRecDepth 100000 in
theorem c_M_renew (l : Launch) (D : va_G) (tc : Nat → ClassId) (a : Nat → Nat) (x1 : Int32) (x2 : Int32) (σ : zS) (post : zS → Prop) (h : j_M_renew x1 x2 σ post) : mWv l nM_M_renew nC_M_renew 3 ({ frames := 4, cells := 0, slots := 0, locals := 91 } : Room) D (ztM tc) [.ref (a 0), .int x1, .int x2] (zM a tc σ) (zQv (zM a tc) post) := by
  intro sz
  refine mt_W (by decide) (Nat.le_of_ble_eq_true rfl) ?_
  intro p e s m below meth c ls hx hb hml hr hown hlocks hin hw hn hP hK hD hS hA hl hsz
  subst hsz
  have hl : lv_has ls 3 [(0, .ref (a 0)), (1, .int x1), (2, .int x2)] := hl
  unfold j_M_renew at h
  refine lv_aload_n hx hb nD_M_renew_0 rfl (lv_at hl 0 rfl) ?_
  refine lv_iload_n hx hb nD_M_renew_1 rfl (lv_at hl 1 rfl) ?_
  refine lv_iconst (v := (1 : Int32)) hx hb nD_M_renew_2 (by decide) ?_
  refine lv_icmp_eq (tgt := 11) hx hb nD_M_renew_3 (by decide) (fun hc => ?_) (fun hc => ?_)
  · have h := h.1 hc
    refine lv_iload_n hx hb nD_M_renew_11 rfl (lv_at hl 1 rfl) ?_
    refine lv_goto (tgt := 16) hx hb nD_M_renew_12 (by decide) ?_
    refine va_put (D := D) (ci := 5) (v := .int x1) (ty := .int) (C := nR_M) (T := nT_M) (N := 23) hx hb hw wu_M nY_M nO_M nN_M hown hK hP hD hS 0 yc_0 rfl 0 (by decide) (hw _ wm_423) (fun _ h9 => h9) rfl (by decide +kernel) rfl rfl (Nat.le_of_ble_eq_true rfl) nD_M_renew_16 (fun H locs hP hD hS => ?_)
    obtain ⟨σ1, e_σ1⟩ : ∃ z : zS, z = zI σ 0 x1 := ⟨_, rfl⟩
    obtain ⟨hP, hD⟩ := znew (w := zM a tc) e_σ1 (yp_0_0) hP hD
    have h := h σ1 e_σ1
    clear e_σ1
    refine lv_aload_n hx hb nD_M_renew_19 rfl (lv_at hl 0 rfl) ?_
    refine lv_iload_n hx hb nD_M_renew_20 rfl (lv_at hl 2 rfl) ?_
    refine lv_iconst (v := (1 : Int32)) hx hb nD_M_renew_21 (by decide) ?_
    refine lv_icmp_ge (tgt := 29) hx hb nD_M_renew_22 (by decide) (fun hc => ?_) (fun hc => ?_)
    · have h := h.1 hc
      refine lv_iload_n hx hb nD_M_renew_29 rfl (lv_at hl 2 rfl) ?_
      refine lv_bipush (v := (8 : Int32)) hx hb nD_M_renew_30 (by decide) ?_
      refine lv_icmp_le (tgt := 40) hx hb nD_M_renew_32 (by decide) (fun hc => ?_) (fun hc => ?_)
      · have h := h.1 hc
        refine lv_iload_n hx hb nD_M_renew_40 rfl (lv_at hl 2 rfl) ?_
        refine va_put (D := D) (ci := 5) (v := .int x2) (ty := .int) (C := nR_M) (T := nT_M) (N := 23) hx hb hw wu_M nY_M nO_M nN_M hown hK hP hD hS 0 yc_0 rfl 1 (by decide) (hw _ wm_424) (fun _ h9 => h9) rfl (by decide +kernel) rfl rfl (Nat.le_of_ble_eq_true rfl) nD_M_renew_41 (fun H locs hP hD hS => ?_)
        obtain ⟨σ2, e_σ2⟩ : ∃ z : zS, z = zI σ1 1 x2 := ⟨_, rfl⟩
        obtain ⟨hP, hD⟩ := znew (w := zM a tc) e_σ2 (yp_0_1) hP hD
        have h := h σ2 e_σ2
        clear e_σ2
        refine lv_aload_n hx hb nD_M_renew_44 rfl (lv_at hl 0 rfl) ?_
        refine lv_iconst (v := (0 : Int32)) hx hb nD_M_renew_45 (by decide) ?_
        refine va_put (D := D) (ci := 5) (v := .int (0 : Int32)) (ty := .int) (C := nR_M) (T := nT_M) (N := 23) hx hb hw wu_M nY_M nO_M nN_M hown hK hP hD hS 0 yc_0 rfl 2 (by decide) (hw _ wm_425) (fun _ h9 => h9) rfl (by decide +kernel) rfl rfl (Nat.le_of_ble_eq_true rfl) nD_M_renew_46 (fun H locs hP hD hS => ?_)
        obtain ⟨σ3, e_σ3⟩ : ∃ z : zS, z = zI σ2 2 (0 : Int32) := ⟨_, rfl⟩
        obtain ⟨hP, hD⟩ := znew (w := zM a tc) e_σ3 (yp_0_2) hP hD
        have h := h σ3 e_σ3
        clear e_σ3
        refine lv_aload_n hx hb nD_M_renew_49 rfl (lv_at hl 0 rfl) ?_
        refine lv_iconst (v := (0 : Int32)) hx hb nD_M_renew_50 (by decide) ?_
        refine va_put (D := D) (ci := 5) (v := .int (0 : Int32)) (ty := .int) (C := nR_M) (T := nT_M) (N := 23) hx hb hw wu_M nY_M nO_M nN_M hown hK hP hD hS 0 yc_0 rfl 3 (by decide) (hw _ wm_426) (fun _ h9 => h9) rfl (by decide +kernel) rfl rfl (Nat.le_of_ble_eq_true rfl) nD_M_renew_51 (fun H locs hP hD hS => ?_)
        obtain ⟨σ4, e_σ4⟩ : ∃ z : zS, z = zI σ3 3 (0 : Int32) := ⟨_, rfl⟩
        obtain ⟨hP, hD⟩ := znew (w := zM a tc) e_σ4 (yp_0_3) hP hD
        have h := h σ4 e_σ4
        clear e_σ4
        refine lv_aload_n hx hb nD_M_renew_54 rfl (lv_at hl 0 rfl) ?_
        refine lv_iconst (v := (0 : Int32)) hx hb nD_M_renew_55 (by decide) ?_
        refine va_put (D := D) (ci := 5) (v := .int (0 : Int32)) (ty := .int) (C := nR_M) (T := nT_M) (N := 23) hx hb hw wu_M nY_M nO_M nN_M hown hK hP hD hS 0 yc_0 rfl 4 (by decide) (hw _ wm_427) (fun _ h9 => h9) rfl (by decide +kernel) rfl rfl (Nat.le_of_ble_eq_true rfl) nD_M_renew_56 (fun H locs hP hD hS => ?_)
        obtain ⟨σ5, e_σ5⟩ : ∃ z : zS, z = zI σ4 4 (0 : Int32) := ⟨_, rfl⟩
        obtain ⟨hP, hD⟩ := znew (w := zM a tc) e_σ5 (yp_0_4) hP hD
        have h := h σ5 e_σ5
        clear e_σ5
        refine lv_aload_n hx hb nD_M_renew_59 rfl (lv_at hl 0 rfl) ?_
        refine zC_v (va_runV (As := []) (rest := []) ⟨hx, hb, hml, hown, hw⟩ (c_M_work l D tc a σ5 _ h _) (mcV 0 hw wm_401 wm_398 wm_400 wm_13 wm_33 rfl rfl nh_M_work ⟨Nat.le_of_ble_eq_true rfl, Nat.le_of_ble_eq_true rfl⟩) (zp_V (ci := 5) hP hD hK hn rfl yc_0) rfl rfl hl.1 rfl (lv_room (Nat.le_of_ble_eq_true rfl)) nD_M_renew_60 ⟨Nat.zero_le _, Nat.zero_le _⟩) hD hS hA (fun σ6 H locs h hP hD hS => ?_)
        exact mw_v hx hb hr hlocks ⟨σ6, rfl, h⟩ hP hK hD hS nD_M_renew_63
      · have h := h.2 hc
        refine lv_bipush (v := (8 : Int32)) hx hb nD_M_renew_35 (by decide) ?_
        refine lv_goto (tgt := 41) hx hb nD_M_renew_37 (by decide) ?_
        refine va_put (D := D) (ci := 5) (v := .int (8 : Int32)) (ty := .int) (C := nR_M) (T := nT_M) (N := 23) hx hb hw wu_M nY_M nO_M nN_M hown hK hP hD hS 0 yc_0 rfl 1 (by decide) (hw _ wm_424) (fun _ h9 => h9) rfl (by decide +kernel) rfl rfl (Nat.le_of_ble_eq_true rfl) nD_M_renew_41 (fun H locs hP hD hS => ?_)
        obtain ⟨σ7, e_σ7⟩ : ∃ z : zS, z = zI σ1 1 (8 : Int32) := ⟨_, rfl⟩
        obtain ⟨hP, hD⟩ := znew (w := zM a tc) e_σ7 (yp_0_1) hP hD
        have h := h σ7 e_σ7
        clear e_σ7
        refine lv_aload_n hx hb nD_M_renew_44 rfl (lv_at hl 0 rfl) ?_
        refine lv_iconst (v := (0 : Int32)) hx hb nD_M_renew_45 (by decide) ?_
        refine va_put (D := D) (ci := 5) (v := .int (0 : Int32)) (ty := .int) (C := nR_M) (T := nT_M) (N := 23) hx hb hw wu_M nY_M nO_M nN_M hown hK hP hD hS 0 yc_0 rfl 2 (by decide) (hw _ wm_425) (fun _ h9 => h9) rfl (by decide +kernel) rfl rfl (Nat.le_of_ble_eq_true rfl) nD_M_renew_46 (fun H locs hP hD hS => ?_)
        obtain ⟨σ8, e_σ8⟩ : ∃ z : zS, z = zI σ7 2 (0 : Int32) := ⟨_, rfl⟩
        obtain ⟨hP, hD⟩ := znew (w := zM a tc) e_σ8 (yp_0_2) hP hD
        have h := h σ8 e_σ8
        clear e_σ8
        refine lv_aload_n hx hb nD_M_renew_49 rfl (lv_at hl 0 rfl) ?_
        refine lv_iconst (v := (0 : Int32)) hx hb nD_M_renew_50 (by decide) ?_
        refine va_put (D := D) (ci := 5) (v := .int (0 : Int32)) (ty := .int) (C := nR_M) (T := nT_M) (N := 23) hx hb hw wu_M nY_M nO_M nN_M hown hK hP hD hS 0 yc_0 rfl 3 (by decide) (hw _ wm_426) (fun _ h9 => h9) rfl (by decide +kernel) rfl rfl (Nat.le_of_ble_eq_true rfl) nD_M_renew_51 (fun H locs hP hD hS => ?_)
        obtain ⟨σ9, e_σ9⟩ : ∃ z : zS, z = zI σ8 3 (0 : Int32) := ⟨_, rfl⟩
        obtain ⟨hP, hD⟩ := znew (w := zM a tc) e_σ9 (yp_0_3) hP hD
        have h := h σ9 e_σ9
        clear e_σ9
        refine lv_aload_n hx hb nD_M_renew_54 rfl (lv_at hl 0 rfl) ?_
        refine lv_iconst (v := (0 : Int32)) hx hb nD_M_renew_55 (by decide) ?_
        refine va_put (D := D) (ci := 5) (v := .int (0 : Int32)) (ty := .int) (C := nR_M) (T := nT_M) (N := 23) hx hb hw wu_M nY_M nO_M nN_M hown hK hP hD hS 0 yc_0 rfl 4 (by decide) (hw _ wm_427) (fun _ h9 => h9) rfl (by decide +kernel) rfl rfl (Nat.le_of_ble_eq_true rfl) nD_M_renew_56 (fun H locs hP hD hS => ?_)
        obtain ⟨σ10, e_σ10⟩ : ∃ z : zS, z = zI σ9 4 (0 : Int32) := ⟨_, rfl⟩
        obtain ⟨hP, hD⟩ := znew (w := zM a tc) e_σ10 (yp_0_4) hP hD
        have h := h σ10 e_σ10
        clear e_σ10
        refine lv_aload_n hx hb nD_M_renew_59 rfl (lv_at hl 0 rfl) ?_
        refine zC_v (va_runV (As := []) (rest := []) ⟨hx, hb, hml, hown, hw⟩ (c_M_work l D tc a σ10 _ h _) (mcV 0 hw wm_401 wm_398 wm_400 wm_13 wm_33 rfl rfl nh_M_work ⟨Nat.le_of_ble_eq_true rfl, Nat.le_of_ble_eq_true rfl⟩) (zp_V (ci := 5) hP hD hK hn rfl yc_0) rfl rfl hl.1 rfl (lv_room (Nat.le_of_ble_eq_true rfl)) nD_M_renew_60 ⟨Nat.zero_le _, Nat.zero_le _⟩) hD hS hA (fun σ11 H locs h hP hD hS => ?_)
        exact mw_v hx hb hr hlocks ⟨σ11, rfl, h⟩ hP hK hD hS nD_M_renew_63
    · have h := h.2 hc
      refine lv_iconst (v := (1 : Int32)) hx hb nD_M_renew_25 (by decide) ?_
      refine lv_goto (tgt := 41) hx hb nD_M_renew_26 (by decide) ?_
      refine va_put (D := D) (ci := 5) (v := .int (1 : Int32)) (ty := .int) (C := nR_M) (T := nT_M) (N := 23) hx hb hw wu_M nY_M nO_M nN_M hown hK hP hD hS 0 yc_0 rfl 1 (by decide) (hw _ wm_424) (fun _ h9 => h9) rfl (by decide +kernel) rfl rfl (Nat.le_of_ble_eq_true rfl) nD_M_renew_41 (fun H locs hP hD hS => ?_)
      obtain ⟨σ12, e_σ12⟩ : ∃ z : zS, z = zI σ1 1 (1 : Int32) := ⟨_, rfl⟩
      obtain ⟨hP, hD⟩ := znew (w := zM a tc) e_σ12 (yp_0_1) hP hD
      have h := h σ12 e_σ12
      clear e_σ12
      refine lv_aload_n hx hb nD_M_renew_44 rfl (lv_at hl 0 rfl) ?_
      refine lv_iconst (v := (0 : Int32)) hx hb nD_M_renew_45 (by decide) ?_
      refine va_put (D := D) (ci := 5) (v := .int (0 : Int32)) (ty := .int) (C := nR_M) (T := nT_M) (N := 23) hx hb hw wu_M nY_M nO_M nN_M hown hK hP hD hS 0 yc_0 rfl 2 (by decide) (hw _ wm_425) (fun _ h9 => h9) rfl (by decide +kernel) rfl rfl (Nat.le_of_ble_eq_true rfl) nD_M_renew_46 (fun H locs hP hD hS => ?_)
      obtain ⟨σ13, e_σ13⟩ : ∃ z : zS, z = zI σ12 2 (0 : Int32) := ⟨_, rfl⟩
      obtain ⟨hP, hD⟩ := znew (w := zM a tc) e_σ13 (yp_0_2) hP hD
      have h := h σ13 e_σ13
      clear e_σ13
      refine lv_aload_n hx hb nD_M_renew_49 rfl (lv_at hl 0 rfl) ?_
      refine lv_iconst (v := (0 : Int32)) hx hb nD_M_renew_50 (by decide) ?_
      refine va_put (D := D) (ci := 5) (v := .int (0 : Int32)) (ty := .int) (C := nR_M) (T := nT_M) (N := 23) hx hb hw wu_M nY_M nO_M nN_M hown hK hP hD hS 0 yc_0 rfl 3 (by decide) (hw _ wm_426) (fun _ h9 => h9) rfl (by decide +kernel) rfl rfl (Nat.le_of_ble_eq_true rfl) nD_M_renew_51 (fun H locs hP hD hS => ?_)
      obtain ⟨σ14, e_σ14⟩ : ∃ z : zS, z = zI σ13 3 (0 : Int32) := ⟨_, rfl⟩
      obtain ⟨hP, hD⟩ := znew (w := zM a tc) e_σ14 (yp_0_3) hP hD
      have h := h σ14 e_σ14
      clear e_σ14
      refine lv_aload_n hx hb nD_M_renew_54 rfl (lv_at hl 0 rfl) ?_
      refine lv_iconst (v := (0 : Int32)) hx hb nD_M_renew_55 (by decide) ?_
      refine va_put (D := D) (ci := 5) (v := .int (0 : Int32)) (ty := .int) (C := nR_M) (T := nT_M) (N := 23) hx hb hw wu_M nY_M nO_M nN_M hown hK hP hD hS 0 yc_0 rfl 4 (by decide) (hw _ wm_427) (fun _ h9 => h9) rfl (by decide +kernel) rfl rfl (Nat.le_of_ble_eq_true rfl) nD_M_renew_56 (fun H locs hP hD hS => ?_)
      obtain ⟨σ15, e_σ15⟩ : ∃ z : zS, z = zI σ14 4 (0 : Int32) := ⟨_, rfl⟩
      obtain ⟨hP, hD⟩ := znew (w := zM a tc) e_σ15 (yp_0_4) hP hD
      have h := h σ15 e_σ15
      clear e_σ15
      refine lv_aload_n hx hb nD_M_renew_59 rfl (lv_at hl 0 rfl) ?_
      refine zC_v (va_runV (As := []) (rest := []) ⟨hx, hb, hml, hown, hw⟩ (c_M_work l D tc a σ15 _ h _) (mcV 0 hw wm_401 wm_398 wm_400 wm_13 wm_33 rfl rfl nh_M_work ⟨Nat.le_of_ble_eq_true rfl, Nat.le_of_ble_eq_true rfl⟩) (zp_V (ci := 5) hP hD hK hn rfl yc_0) rfl rfl hl.1 rfl (lv_room (Nat.le_of_ble_eq_true rfl)) nD_M_renew_60 ⟨Nat.zero_le _, Nat.zero_le _⟩) hD hS hA (fun σ16 H locs h hP hD hS => ?_)
      exact mw_v hx hb hr hlocks ⟨σ16, rfl, h⟩ hP hK hD hS nD_M_renew_63
  · have h := h.2 hc
    refine lv_iload_n hx hb nD_M_renew_6 rfl (lv_at hl 1 rfl) ?_
    refine lv_iconst (v := (2 : Int32)) hx hb nD_M_renew_7 (by decide) ?_
    refine lv_icmp_ne (tgt := 15) hx hb nD_M_renew_8 (by decide) (fun hc => ?_) (fun hc => ?_)
    · have h := h.2 hc
      refine lv_iconst (v := (0 : Int32)) hx hb nD_M_renew_15 (by decide) ?_
      refine va_put (D := D) (ci := 5) (v := .int (0 : Int32)) (ty := .int) (C := nR_M) (T := nT_M) (N := 23) hx hb hw wu_M nY_M nO_M nN_M hown hK hP hD hS 0 yc_0 rfl 0 (by decide) (hw _ wm_423) (fun _ h9 => h9) rfl (by decide +kernel) rfl rfl (Nat.le_of_ble_eq_true rfl) nD_M_renew_16 (fun H locs hP hD hS => ?_)
      obtain ⟨σ17, e_σ17⟩ : ∃ z : zS, z = zI σ 0 (0 : Int32) := ⟨_, rfl⟩
      obtain ⟨hP, hD⟩ := znew (w := zM a tc) e_σ17 (yp_0_0) hP hD
      have h := h σ17 e_σ17
      clear e_σ17
      refine lv_aload_n hx hb nD_M_renew_19 rfl (lv_at hl 0 rfl) ?_
      refine lv_iload_n hx hb nD_M_renew_20 rfl (lv_at hl 2 rfl) ?_
      refine lv_iconst (v := (1 : Int32)) hx hb nD_M_renew_21 (by decide) ?_
      refine lv_icmp_ge (tgt := 29) hx hb nD_M_renew_22 (by decide) (fun hc => ?_) (fun hc => ?_)
      · have h := h.1 hc
        refine lv_iload_n hx hb nD_M_renew_29 rfl (lv_at hl 2 rfl) ?_
        refine lv_bipush (v := (8 : Int32)) hx hb nD_M_renew_30 (by decide) ?_
        refine lv_icmp_le (tgt := 40) hx hb nD_M_renew_32 (by decide) (fun hc => ?_) (fun hc => ?_)
        · have h := h.1 hc
          refine lv_iload_n hx hb nD_M_renew_40 rfl (lv_at hl 2 rfl) ?_
          refine va_put (D := D) (ci := 5) (v := .int x2) (ty := .int) (C := nR_M) (T := nT_M) (N := 23) hx hb hw wu_M nY_M nO_M nN_M hown hK hP hD hS 0 yc_0 rfl 1 (by decide) (hw _ wm_424) (fun _ h9 => h9) rfl (by decide +kernel) rfl rfl (Nat.le_of_ble_eq_true rfl) nD_M_renew_41 (fun H locs hP hD hS => ?_)
          obtain ⟨σ18, e_σ18⟩ : ∃ z : zS, z = zI σ17 1 x2 := ⟨_, rfl⟩
          obtain ⟨hP, hD⟩ := znew (w := zM a tc) e_σ18 (yp_0_1) hP hD
          have h := h σ18 e_σ18
          clear e_σ18
          refine lv_aload_n hx hb nD_M_renew_44 rfl (lv_at hl 0 rfl) ?_
          refine lv_iconst (v := (0 : Int32)) hx hb nD_M_renew_45 (by decide) ?_
          refine va_put (D := D) (ci := 5) (v := .int (0 : Int32)) (ty := .int) (C := nR_M) (T := nT_M) (N := 23) hx hb hw wu_M nY_M nO_M nN_M hown hK hP hD hS 0 yc_0 rfl 2 (by decide) (hw _ wm_425) (fun _ h9 => h9) rfl (by decide +kernel) rfl rfl (Nat.le_of_ble_eq_true rfl) nD_M_renew_46 (fun H locs hP hD hS => ?_)
          obtain ⟨σ19, e_σ19⟩ : ∃ z : zS, z = zI σ18 2 (0 : Int32) := ⟨_, rfl⟩
          obtain ⟨hP, hD⟩ := znew (w := zM a tc) e_σ19 (yp_0_2) hP hD
          have h := h σ19 e_σ19
          clear e_σ19
          refine lv_aload_n hx hb nD_M_renew_49 rfl (lv_at hl 0 rfl) ?_
          refine lv_iconst (v := (0 : Int32)) hx hb nD_M_renew_50 (by decide) ?_
          refine va_put (D := D) (ci := 5) (v := .int (0 : Int32)) (ty := .int) (C := nR_M) (T := nT_M) (N := 23) hx hb hw wu_M nY_M nO_M nN_M hown hK hP hD hS 0 yc_0 rfl 3 (by decide) (hw _ wm_426) (fun _ h9 => h9) rfl (by decide +kernel) rfl rfl (Nat.le_of_ble_eq_true rfl) nD_M_renew_51 (fun H locs hP hD hS => ?_)
          obtain ⟨σ20, e_σ20⟩ : ∃ z : zS, z = zI σ19 3 (0 : Int32) := ⟨_, rfl⟩
          obtain ⟨hP, hD⟩ := znew (w := zM a tc) e_σ20 (yp_0_3) hP hD
          have h := h σ20 e_σ20
          clear e_σ20
          refine lv_aload_n hx hb nD_M_renew_54 rfl (lv_at hl 0 rfl) ?_
          refine lv_iconst (v := (0 : Int32)) hx hb nD_M_renew_55 (by decide) ?_
          refine va_put (D := D) (ci := 5) (v := .int (0 : Int32)) (ty := .int) (C := nR_M) (T := nT_M) (N := 23) hx hb hw wu_M nY_M nO_M nN_M hown hK hP hD hS 0 yc_0 rfl 4 (by decide) (hw _ wm_427) (fun _ h9 => h9) rfl (by decide +kernel) rfl rfl (Nat.le_of_ble_eq_true rfl) nD_M_renew_56 (fun H locs hP hD hS => ?_)
          obtain ⟨σ21, e_σ21⟩ : ∃ z : zS, z = zI σ20 4 (0 : Int32) := ⟨_, rfl⟩
          obtain ⟨hP, hD⟩ := znew (w := zM a tc) e_σ21 (yp_0_4) hP hD
          have h := h σ21 e_σ21
          clear e_σ21
          refine lv_aload_n hx hb nD_M_renew_59 rfl (lv_at hl 0 rfl) ?_
          refine zC_v (va_runV (As := []) (rest := []) ⟨hx, hb, hml, hown, hw⟩ (c_M_work l D tc a σ21 _ h _) (mcV 0 hw wm_401 wm_398 wm_400 wm_13 wm_33 rfl rfl nh_M_work ⟨Nat.le_of_ble_eq_true rfl, Nat.le_of_ble_eq_true rfl⟩) (zp_V (ci := 5) hP hD hK hn rfl yc_0) rfl rfl hl.1 rfl (lv_room (Nat.le_of_ble_eq_true rfl)) nD_M_renew_60 ⟨Nat.zero_le _, Nat.zero_le _⟩) hD hS hA (fun σ22 H locs h hP hD hS => ?_)
          exact mw_v hx hb hr hlocks ⟨σ22, rfl, h⟩ hP hK hD hS nD_M_renew_63
        · have h := h.2 hc
          refine lv_bipush (v := (8 : Int32)) hx hb nD_M_renew_35 (by decide) ?_
          refine lv_goto (tgt := 41) hx hb nD_M_renew_37 (by decide) ?_
          refine va_put (D := D) (ci := 5) (v := .int (8 : Int32)) (ty := .int) (C := nR_M) (T := nT_M) (N := 23) hx hb hw wu_M nY_M nO_M nN_M hown hK hP hD hS 0 yc_0 rfl 1 (by decide) (hw _ wm_424) (fun _ h9 => h9) rfl (by decide +kernel) rfl rfl (Nat.le_of_ble_eq_true rfl) nD_M_renew_41 (fun H locs hP hD hS => ?_)
          obtain ⟨σ23, e_σ23⟩ : ∃ z : zS, z = zI σ17 1 (8 : Int32) := ⟨_, rfl⟩
          obtain ⟨hP, hD⟩ := znew (w := zM a tc) e_σ23 (yp_0_1) hP hD
          have h := h σ23 e_σ23
          clear e_σ23
          refine lv_aload_n hx hb nD_M_renew_44 rfl (lv_at hl 0 rfl) ?_
          refine lv_iconst (v := (0 : Int32)) hx hb nD_M_renew_45 (by decide) ?_
          refine va_put (D := D) (ci := 5) (v := .int (0 : Int32)) (ty := .int) (C := nR_M) (T := nT_M) (N := 23) hx hb hw wu_M nY_M nO_M nN_M hown hK hP hD hS 0 yc_0 rfl 2 (by decide) (hw _ wm_425) (fun _ h9 => h9) rfl (by decide +kernel) rfl rfl (Nat.le_of_ble_eq_true rfl) nD_M_renew_46 (fun H locs hP hD hS => ?_)
          obtain ⟨σ24, e_σ24⟩ : ∃ z : zS, z = zI σ23 2 (0 : Int32) := ⟨_, rfl⟩
          obtain ⟨hP, hD⟩ := znew (w := zM a tc) e_σ24 (yp_0_2) hP hD
          have h := h σ24 e_σ24
          clear e_σ24
          refine lv_aload_n hx hb nD_M_renew_49 rfl (lv_at hl 0 rfl) ?_
          refine lv_iconst (v := (0 : Int32)) hx hb nD_M_renew_50 (by decide) ?_
          refine va_put (D := D) (ci := 5) (v := .int (0 : Int32)) (ty := .int) (C := nR_M) (T := nT_M) (N := 23) hx hb hw wu_M nY_M nO_M nN_M hown hK hP hD hS 0 yc_0 rfl 3 (by decide) (hw _ wm_426) (fun _ h9 => h9) rfl (by decide +kernel) rfl rfl (Nat.le_of_ble_eq_true rfl) nD_M_renew_51 (fun H locs hP hD hS => ?_)
          obtain ⟨σ25, e_σ25⟩ : ∃ z : zS, z = zI σ24 3 (0 : Int32) := ⟨_, rfl⟩
          obtain ⟨hP, hD⟩ := znew (w := zM a tc) e_σ25 (yp_0_3) hP hD
          have h := h σ25 e_σ25
          clear e_σ25
          refine lv_aload_n hx hb nD_M_renew_54 rfl (lv_at hl 0 rfl) ?_
          refine lv_iconst (v := (0 : Int32)) hx hb nD_M_renew_55 (by decide) ?_
          refine va_put (D := D) (ci := 5) (v := .int (0 : Int32)) (ty := .int) (C := nR_M) (T := nT_M) (N := 23) hx hb hw wu_M nY_M nO_M nN_M hown hK hP hD hS 0 yc_0 rfl 4 (by decide) (hw _ wm_427) (fun _ h9 => h9) rfl (by decide +kernel) rfl rfl (Nat.le_of_ble_eq_true rfl) nD_M_renew_56 (fun H locs hP hD hS => ?_)
          obtain ⟨σ26, e_σ26⟩ : ∃ z : zS, z = zI σ25 4 (0 : Int32) := ⟨_, rfl⟩
          obtain ⟨hP, hD⟩ := znew (w := zM a tc) e_σ26 (yp_0_4) hP hD
          have h := h σ26 e_σ26
          clear e_σ26
          refine lv_aload_n hx hb nD_M_renew_59 rfl (lv_at hl 0 rfl) ?_
          refine zC_v (va_runV (As := []) (rest := []) ⟨hx, hb, hml, hown, hw⟩ (c_M_work l D tc a σ26 _ h _) (mcV 0 hw wm_401 wm_398 wm_400 wm_13 wm_33 rfl rfl nh_M_work ⟨Nat.le_of_ble_eq_true rfl, Nat.le_of_ble_eq_true rfl⟩) (zp_V (ci := 5) hP hD hK hn rfl yc_0) rfl rfl hl.1 rfl (lv_room (Nat.le_of_ble_eq_true rfl)) nD_M_renew_60 ⟨Nat.zero_le _, Nat.zero_le _⟩) hD hS hA (fun σ27 H locs h hP hD hS => ?_)
          exact mw_v hx hb hr hlocks ⟨σ27, rfl, h⟩ hP hK hD hS nD_M_renew_63
      · have h := h.2 hc
        refine lv_iconst (v := (1 : Int32)) hx hb nD_M_renew_25 (by decide) ?_
        refine lv_goto (tgt := 41) hx hb nD_M_renew_26 (by decide) ?_
        refine va_put (D := D) (ci := 5) (v := .int (1 : Int32)) (ty := .int) (C := nR_M) (T := nT_M) (N := 23) hx hb hw wu_M nY_M nO_M nN_M hown hK hP hD hS 0 yc_0 rfl 1 (by decide) (hw _ wm_424) (fun _ h9 => h9) rfl (by decide +kernel) rfl rfl (Nat.le_of_ble_eq_true rfl) nD_M_renew_41 (fun H locs hP hD hS => ?_)
        obtain ⟨σ28, e_σ28⟩ : ∃ z : zS, z = zI σ17 1 (1 : Int32) := ⟨_, rfl⟩
        obtain ⟨hP, hD⟩ := znew (w := zM a tc) e_σ28 (yp_0_1) hP hD
        have h := h σ28 e_σ28
        clear e_σ28
        refine lv_aload_n hx hb nD_M_renew_44 rfl (lv_at hl 0 rfl) ?_
        refine lv_iconst (v := (0 : Int32)) hx hb nD_M_renew_45 (by decide) ?_
        refine va_put (D := D) (ci := 5) (v := .int (0 : Int32)) (ty := .int) (C := nR_M) (T := nT_M) (N := 23) hx hb hw wu_M nY_M nO_M nN_M hown hK hP hD hS 0 yc_0 rfl 2 (by decide) (hw _ wm_425) (fun _ h9 => h9) rfl (by decide +kernel) rfl rfl (Nat.le_of_ble_eq_true rfl) nD_M_renew_46 (fun H locs hP hD hS => ?_)
        obtain ⟨σ29, e_σ29⟩ : ∃ z : zS, z = zI σ28 2 (0 : Int32) := ⟨_, rfl⟩
        obtain ⟨hP, hD⟩ := znew (w := zM a tc) e_σ29 (yp_0_2) hP hD
        have h := h σ29 e_σ29
        clear e_σ29
        refine lv_aload_n hx hb nD_M_renew_49 rfl (lv_at hl 0 rfl) ?_
        refine lv_iconst (v := (0 : Int32)) hx hb nD_M_renew_50 (by decide) ?_
        refine va_put (D := D) (ci := 5) (v := .int (0 : Int32)) (ty := .int) (C := nR_M) (T := nT_M) (N := 23) hx hb hw wu_M nY_M nO_M nN_M hown hK hP hD hS 0 yc_0 rfl 3 (by decide) (hw _ wm_426) (fun _ h9 => h9) rfl (by decide +kernel) rfl rfl (Nat.le_of_ble_eq_true rfl) nD_M_renew_51 (fun H locs hP hD hS => ?_)
        obtain ⟨σ30, e_σ30⟩ : ∃ z : zS, z = zI σ29 3 (0 : Int32) := ⟨_, rfl⟩
        obtain ⟨hP, hD⟩ := znew (w := zM a tc) e_σ30 (yp_0_3) hP hD
        have h := h σ30 e_σ30
        clear e_σ30
        refine lv_aload_n hx hb nD_M_renew_54 rfl (lv_at hl 0 rfl) ?_
        refine lv_iconst (v := (0 : Int32)) hx hb nD_M_renew_55 (by decide) ?_
        refine va_put (D := D) (ci := 5) (v := .int (0 : Int32)) (ty := .int) (C := nR_M) (T := nT_M) (N := 23) hx hb hw wu_M nY_M nO_M nN_M hown hK hP hD hS 0 yc_0 rfl 4 (by decide) (hw _ wm_427) (fun _ h9 => h9) rfl (by decide +kernel) rfl rfl (Nat.le_of_ble_eq_true rfl) nD_M_renew_56 (fun H locs hP hD hS => ?_)
        obtain ⟨σ31, e_σ31⟩ : ∃ z : zS, z = zI σ30 4 (0 : Int32) := ⟨_, rfl⟩
        obtain ⟨hP, hD⟩ := znew (w := zM a tc) e_σ31 (yp_0_4) hP hD
        have h := h σ31 e_σ31
        clear e_σ31
        refine lv_aload_n hx hb nD_M_renew_59 rfl (lv_at hl 0 rfl) ?_
        refine zC_v (va_runV (As := []) (rest := []) ⟨hx, hb, hml, hown, hw⟩ (c_M_work l D tc a σ31 _ h _) (mcV 0 hw wm_401 wm_398 wm_400 wm_13 wm_33 rfl rfl nh_M_work ⟨Nat.le_of_ble_eq_true rfl, Nat.le_of_ble_eq_true rfl⟩) (zp_V (ci := 5) hP hD hK hn rfl yc_0) rfl rfl hl.1 rfl (lv_room (Nat.le_of_ble_eq_true rfl)) nD_M_renew_60 ⟨Nat.zero_le _, Nat.zero_le _⟩) hD hS hA (fun σ32 H locs h hP hD hS => ?_)
        exact mw_v hx hb hr hlocks ⟨σ32, rfl, h⟩ hP hK hD hS nD_M_renew_63
    · have h := h.1 hc
      refine lv_iload_n hx hb nD_M_renew_11 rfl (lv_at hl 1 rfl) ?_
      refine lv_goto (tgt := 16) hx hb nD_M_renew_12 (by decide) ?_
      refine va_put (D := D) (ci := 5) (v := .int x1) (ty := .int) (C := nR_M) (T := nT_M) (N := 23) hx hb hw wu_M nY_M nO_M nN_M hown hK hP hD hS 0 yc_0 rfl 0 (by decide) (hw _ wm_423) (fun _ h9 => h9) rfl (by decide +kernel) rfl rfl (Nat.le_of_ble_eq_true rfl) nD_M_renew_16 (fun H locs hP hD hS => ?_)
      obtain ⟨σ33, e_σ33⟩ : ∃ z : zS, z = zI σ 0 x1 := ⟨_, rfl⟩
      obtain ⟨hP, hD⟩ := znew (w := zM a tc) e_σ33 (yp_0_0) hP hD
      have h := h σ33 e_σ33
      clear e_σ33
      refine lv_aload_n hx hb nD_M_renew_19 rfl (lv_at hl 0 rfl) ?_
      refine lv_iload_n hx hb nD_M_renew_20 rfl (lv_at hl 2 rfl) ?_
      refine lv_iconst (v := (1 : Int32)) hx hb nD_M_renew_21 (by decide) ?_
      refine lv_icmp_ge (tgt := 29) hx hb nD_M_renew_22 (by decide) (fun hc => ?_) (fun hc => ?_)
      · have h := h.1 hc
        refine lv_iload_n hx hb nD_M_renew_29 rfl (lv_at hl 2 rfl) ?_
        refine lv_bipush (v := (8 : Int32)) hx hb nD_M_renew_30 (by decide) ?_
        refine lv_icmp_le (tgt := 40) hx hb nD_M_renew_32 (by decide) (fun hc => ?_) (fun hc => ?_)
        · have h := h.1 hc
          refine lv_iload_n hx hb nD_M_renew_40 rfl (lv_at hl 2 rfl) ?_
          refine va_put (D := D) (ci := 5) (v := .int x2) (ty := .int) (C := nR_M) (T := nT_M) (N := 23) hx hb hw wu_M nY_M nO_M nN_M hown hK hP hD hS 0 yc_0 rfl 1 (by decide) (hw _ wm_424) (fun _ h9 => h9) rfl (by decide +kernel) rfl rfl (Nat.le_of_ble_eq_true rfl) nD_M_renew_41 (fun H locs hP hD hS => ?_)
          obtain ⟨σ34, e_σ34⟩ : ∃ z : zS, z = zI σ33 1 x2 := ⟨_, rfl⟩
          obtain ⟨hP, hD⟩ := znew (w := zM a tc) e_σ34 (yp_0_1) hP hD
          have h := h σ34 e_σ34
          clear e_σ34
          refine lv_aload_n hx hb nD_M_renew_44 rfl (lv_at hl 0 rfl) ?_
          refine lv_iconst (v := (0 : Int32)) hx hb nD_M_renew_45 (by decide) ?_
          refine va_put (D := D) (ci := 5) (v := .int (0 : Int32)) (ty := .int) (C := nR_M) (T := nT_M) (N := 23) hx hb hw wu_M nY_M nO_M nN_M hown hK hP hD hS 0 yc_0 rfl 2 (by decide) (hw _ wm_425) (fun _ h9 => h9) rfl (by decide +kernel) rfl rfl (Nat.le_of_ble_eq_true rfl) nD_M_renew_46 (fun H locs hP hD hS => ?_)
          obtain ⟨σ35, e_σ35⟩ : ∃ z : zS, z = zI σ34 2 (0 : Int32) := ⟨_, rfl⟩
          obtain ⟨hP, hD⟩ := znew (w := zM a tc) e_σ35 (yp_0_2) hP hD
          have h := h σ35 e_σ35
          clear e_σ35
          refine lv_aload_n hx hb nD_M_renew_49 rfl (lv_at hl 0 rfl) ?_
          refine lv_iconst (v := (0 : Int32)) hx hb nD_M_renew_50 (by decide) ?_
          refine va_put (D := D) (ci := 5) (v := .int (0 : Int32)) (ty := .int) (C := nR_M) (T := nT_M) (N := 23) hx hb hw wu_M nY_M nO_M nN_M hown hK hP hD hS 0 yc_0 rfl 3 (by decide) (hw _ wm_426) (fun _ h9 => h9) rfl (by decide +kernel) rfl rfl (Nat.le_of_ble_eq_true rfl) nD_M_renew_51 (fun H locs hP hD hS => ?_)
          obtain ⟨σ36, e_σ36⟩ : ∃ z : zS, z = zI σ35 3 (0 : Int32) := ⟨_, rfl⟩
          obtain ⟨hP, hD⟩ := znew (w := zM a tc) e_σ36 (yp_0_3) hP hD
          have h := h σ36 e_σ36
          clear e_σ36
          refine lv_aload_n hx hb nD_M_renew_54 rfl (lv_at hl 0 rfl) ?_
          refine lv_iconst (v := (0 : Int32)) hx hb nD_M_renew_55 (by decide) ?_
          refine va_put (D := D) (ci := 5) (v := .int (0 : Int32)) (ty := .int) (C := nR_M) (T := nT_M) (N := 23) hx hb hw wu_M nY_M nO_M nN_M hown hK hP hD hS 0 yc_0 rfl 4 (by decide) (hw _ wm_427) (fun _ h9 => h9) rfl (by decide +kernel) rfl rfl (Nat.le_of_ble_eq_true rfl) nD_M_renew_56 (fun H locs hP hD hS => ?_)
          obtain ⟨σ37, e_σ37⟩ : ∃ z : zS, z = zI σ36 4 (0 : Int32) := ⟨_, rfl⟩
          obtain ⟨hP, hD⟩ := znew (w := zM a tc) e_σ37 (yp_0_4) hP hD
          have h := h σ37 e_σ37
          clear e_σ37
          refine lv_aload_n hx hb nD_M_renew_59 rfl (lv_at hl 0 rfl) ?_
          refine zC_v (va_runV (As := []) (rest := []) ⟨hx, hb, hml, hown, hw⟩ (c_M_work l D tc a σ37 _ h _) (mcV 0 hw wm_401 wm_398 wm_400 wm_13 wm_33 rfl rfl nh_M_work ⟨Nat.le_of_ble_eq_true rfl, Nat.le_of_ble_eq_true rfl⟩) (zp_V (ci := 5) hP hD hK hn rfl yc_0) rfl rfl hl.1 rfl (lv_room (Nat.le_of_ble_eq_true rfl)) nD_M_renew_60 ⟨Nat.zero_le _, Nat.zero_le _⟩) hD hS hA (fun σ38 H locs h hP hD hS => ?_)
          exact mw_v hx hb hr hlocks ⟨σ38, rfl, h⟩ hP hK hD hS nD_M_renew_63
        · have h := h.2 hc
          refine lv_bipush (v := (8 : Int32)) hx hb nD_M_renew_35 (by decide) ?_
          refine lv_goto (tgt := 41) hx hb nD_M_renew_37 (by decide) ?_
          refine va_put (D := D) (ci := 5) (v := .int (8 : Int32)) (ty := .int) (C := nR_M) (T := nT_M) (N := 23) hx hb hw wu_M nY_M nO_M nN_M hown hK hP hD hS 0 yc_0 rfl 1 (by decide) (hw _ wm_424) (fun _ h9 => h9) rfl (by decide +kernel) rfl rfl (Nat.le_of_ble_eq_true rfl) nD_M_renew_41 (fun H locs hP hD hS => ?_)
          obtain ⟨σ39, e_σ39⟩ : ∃ z : zS, z = zI σ33 1 (8 : Int32) := ⟨_, rfl⟩
          obtain ⟨hP, hD⟩ := znew (w := zM a tc) e_σ39 (yp_0_1) hP hD
          have h := h σ39 e_σ39
          clear e_σ39
          refine lv_aload_n hx hb nD_M_renew_44 rfl (lv_at hl 0 rfl) ?_
          refine lv_iconst (v := (0 : Int32)) hx hb nD_M_renew_45 (by decide) ?_
          refine va_put (D := D) (ci := 5) (v := .int (0 : Int32)) (ty := .int) (C := nR_M) (T := nT_M) (N := 23) hx hb hw wu_M nY_M nO_M nN_M hown hK hP hD hS 0 yc_0 rfl 2 (by decide) (hw _ wm_425) (fun _ h9 => h9) rfl (by decide +kernel) rfl rfl (Nat.le_of_ble_eq_true rfl) nD_M_renew_46 (fun H locs hP hD hS => ?_)
          obtain ⟨σ40, e_σ40⟩ : ∃ z : zS, z = zI σ39 2 (0 : Int32) := ⟨_, rfl⟩
          obtain ⟨hP, hD⟩ := znew (w := zM a tc) e_σ40 (yp_0_2) hP hD
          have h := h σ40 e_σ40
          clear e_σ40
          refine lv_aload_n hx hb nD_M_renew_49 rfl (lv_at hl 0 rfl) ?_
          refine lv_iconst (v := (0 : Int32)) hx hb nD_M_renew_50 (by decide) ?_
          refine va_put (D := D) (ci := 5) (v := .int (0 : Int32)) (ty := .int) (C := nR_M) (T := nT_M) (N := 23) hx hb hw wu_M nY_M nO_M nN_M hown hK hP hD hS 0 yc_0 rfl 3 (by decide) (hw _ wm_426) (fun _ h9 => h9) rfl (by decide +kernel) rfl rfl (Nat.le_of_ble_eq_true rfl) nD_M_renew_51 (fun H locs hP hD hS => ?_)
          obtain ⟨σ41, e_σ41⟩ : ∃ z : zS, z = zI σ40 3 (0 : Int32) := ⟨_, rfl⟩
          obtain ⟨hP, hD⟩ := znew (w := zM a tc) e_σ41 (yp_0_3) hP hD
          have h := h σ41 e_σ41
          clear e_σ41
          refine lv_aload_n hx hb nD_M_renew_54 rfl (lv_at hl 0 rfl) ?_
          refine lv_iconst (v := (0 : Int32)) hx hb nD_M_renew_55 (by decide) ?_
          refine va_put (D := D) (ci := 5) (v := .int (0 : Int32)) (ty := .int) (C := nR_M) (T := nT_M) (N := 23) hx hb hw wu_M nY_M nO_M nN_M hown hK hP hD hS 0 yc_0 rfl 4 (by decide) (hw _ wm_427) (fun _ h9 => h9) rfl (by decide +kernel) rfl rfl (Nat.le_of_ble_eq_true rfl) nD_M_renew_56 (fun H locs hP hD hS => ?_)
          obtain ⟨σ42, e_σ42⟩ : ∃ z : zS, z = zI σ41 4 (0 : Int32) := ⟨_, rfl⟩
          obtain ⟨hP, hD⟩ := znew (w := zM a tc) e_σ42 (yp_0_4) hP hD
          have h := h σ42 e_σ42
          clear e_σ42
          refine lv_aload_n hx hb nD_M_renew_59 rfl (lv_at hl 0 rfl) ?_
          refine zC_v (va_runV (As := []) (rest := []) ⟨hx, hb, hml, hown, hw⟩ (c_M_work l D tc a σ42 _ h _) (mcV 0 hw wm_401 wm_398 wm_400 wm_13 wm_33 rfl rfl nh_M_work ⟨Nat.le_of_ble_eq_true rfl, Nat.le_of_ble_eq_true rfl⟩) (zp_V (ci := 5) hP hD hK hn rfl yc_0) rfl rfl hl.1 rfl (lv_room (Nat.le_of_ble_eq_true rfl)) nD_M_renew_60 ⟨Nat.zero_le _, Nat.zero_le _⟩) hD hS hA (fun σ43 H locs h hP hD hS => ?_)
          exact mw_v hx hb hr hlocks ⟨σ43, rfl, h⟩ hP hK hD hS nD_M_renew_63
      · have h := h.2 hc
        refine lv_iconst (v := (1 : Int32)) hx hb nD_M_renew_25 (by decide) ?_
        refine lv_goto (tgt := 41) hx hb nD_M_renew_26 (by decide) ?_
        refine va_put (D := D) (ci := 5) (v := .int (1 : Int32)) (ty := .int) (C := nR_M) (T := nT_M) (N := 23) hx hb hw wu_M nY_M nO_M nN_M hown hK hP hD hS 0 yc_0 rfl 1 (by decide) (hw _ wm_424) (fun _ h9 => h9) rfl (by decide +kernel) rfl rfl (Nat.le_of_ble_eq_true rfl) nD_M_renew_41 (fun H locs hP hD hS => ?_)
        obtain ⟨σ44, e_σ44⟩ : ∃ z : zS, z = zI σ33 1 (1 : Int32) := ⟨_, rfl⟩
        obtain ⟨hP, hD⟩ := znew (w := zM a tc) e_σ44 (yp_0_1) hP hD
        have h := h σ44 e_σ44
        clear e_σ44
        refine lv_aload_n hx hb nD_M_renew_44 rfl (lv_at hl 0 rfl) ?_
        refine lv_iconst (v := (0 : Int32)) hx hb nD_M_renew_45 (by decide) ?_
        refine va_put (D := D) (ci := 5) (v := .int (0 : Int32)) (ty := .int) (C := nR_M) (T := nT_M) (N := 23) hx hb hw wu_M nY_M nO_M nN_M hown hK hP hD hS 0 yc_0 rfl 2 (by decide) (hw _ wm_425) (fun _ h9 => h9) rfl (by decide +kernel) rfl rfl (Nat.le_of_ble_eq_true rfl) nD_M_renew_46 (fun H locs hP hD hS => ?_)
        obtain ⟨σ45, e_σ45⟩ : ∃ z : zS, z = zI σ44 2 (0 : Int32) := ⟨_, rfl⟩
        obtain ⟨hP, hD⟩ := znew (w := zM a tc) e_σ45 (yp_0_2) hP hD
        have h := h σ45 e_σ45
        clear e_σ45
        refine lv_aload_n hx hb nD_M_renew_49 rfl (lv_at hl 0 rfl) ?_
        refine lv_iconst (v := (0 : Int32)) hx hb nD_M_renew_50 (by decide) ?_
        refine va_put (D := D) (ci := 5) (v := .int (0 : Int32)) (ty := .int) (C := nR_M) (T := nT_M) (N := 23) hx hb hw wu_M nY_M nO_M nN_M hown hK hP hD hS 0 yc_0 rfl 3 (by decide) (hw _ wm_426) (fun _ h9 => h9) rfl (by decide +kernel) rfl rfl (Nat.le_of_ble_eq_true rfl) nD_M_renew_51 (fun H locs hP hD hS => ?_)
        obtain ⟨σ46, e_σ46⟩ : ∃ z : zS, z = zI σ45 3 (0 : Int32) := ⟨_, rfl⟩
        obtain ⟨hP, hD⟩ := znew (w := zM a tc) e_σ46 (yp_0_3) hP hD
        have h := h σ46 e_σ46
        clear e_σ46
        refine lv_aload_n hx hb nD_M_renew_54 rfl (lv_at hl 0 rfl) ?_
        refine lv_iconst (v := (0 : Int32)) hx hb nD_M_renew_55 (by decide) ?_
        refine va_put (D := D) (ci := 5) (v := .int (0 : Int32)) (ty := .int) (C := nR_M) (T := nT_M) (N := 23) hx hb hw wu_M nY_M nO_M nN_M hown hK hP hD hS 0 yc_0 rfl 4 (by decide) (hw _ wm_427) (fun _ h9 => h9) rfl (by decide +kernel) rfl rfl (Nat.le_of_ble_eq_true rfl) nD_M_renew_56 (fun H locs hP hD hS => ?_)
        obtain ⟨σ47, e_σ47⟩ : ∃ z : zS, z = zI σ46 4 (0 : Int32) := ⟨_, rfl⟩
        obtain ⟨hP, hD⟩ := znew (w := zM a tc) e_σ47 (yp_0_4) hP hD
        have h := h σ47 e_σ47
        clear e_σ47
        refine lv_aload_n hx hb nD_M_renew_59 rfl (lv_at hl 0 rfl) ?_
        refine zC_v (va_runV (As := []) (rest := []) ⟨hx, hb, hml, hown, hw⟩ (c_M_work l D tc a σ47 _ h _) (mcV 0 hw wm_401 wm_398 wm_400 wm_13 wm_33 rfl rfl nh_M_work ⟨Nat.le_of_ble_eq_true rfl, Nat.le_of_ble_eq_true rfl⟩) (zp_V (ci := 5) hP hD hK hn rfl yc_0) rfl rfl hl.1 rfl (lv_room (Nat.le_of_ble_eq_true rfl)) nD_M_renew_60 ⟨Nat.zero_le _, Nat.zero_le _⟩) hD hS hA (fun σ48 H locs h hP hD hS => ?_)
        exact mw_v hx hb hr hlocks ⟨σ48, rfl, h⟩ hP hK hD hS nD_M_renew_63
set_option maxHeartbeats 4000000 in
set_option maxRecDepth 100000 in
theorem c_M_happened (l : Launch) (D : va_G) (tc : Nat → ClassId) (a : Nat → Nat) (σ : zS) (post : zS → Prop) (h : j_M_happened  σ post) : mWv l nM_M_happened nC_M_happened 1 ({ frames := 4, cells := 0, slots := 0, locals := 91 } : Room) D (ztM tc) [.ref (a 0)] (zM a tc σ) (zQv (zM a tc) post) := by
  intro sz
  refine mt_W (by decide) (Nat.le_of_ble_eq_true rfl) ?_
  intro p e s m below meth c ls hx hb hml hr hown hlocks hin hw hn hP hK hD hS hA hl hsz
  subst hsz
  have hl : lv_has ls 1 [(0, .ref (a 0))] := hl
  unfold j_M_happened at h
  refine lv_aload_n hx hb nD_M_happened_0 rfl (lv_at hl 0 rfl) ?_
  refine zC_v (va_runV (As := []) (rest := []) ⟨hx, hb, hml, hown, hw⟩ (c_M_work l D tc a σ _ h _) (mcV 0 hw wm_401 wm_398 wm_400 wm_13 wm_33 rfl rfl nh_M_work ⟨Nat.le_of_ble_eq_true rfl, Nat.le_of_ble_eq_true rfl⟩) (zp_V (ci := 5) hP hD hK hn rfl yc_0) rfl rfl hl.1 rfl (lv_room (Nat.le_of_ble_eq_true rfl)) nD_M_happened_1 ⟨Nat.zero_le _, Nat.zero_le _⟩) hD hS hA (fun σ1 H locs h hP hD hS => ?_)
  refine lv_aload_n hx hb nD_M_happened_4 rfl (lv_at hl 0 rfl) ?_
  refine va_get (D := D) (ci := 5) (v := .long (σ1.2.2 2 0)) (C := nR_M) (T := nT_M) (N := 23) hx hb hw wu_M hown hK hP 0 yc_0 rfl 18 (by decide) (hw _ wm_441) (fun _ h9 => h9) rfl nD_M_happened_5 ?_
  refine lv_lconst (v := (0 : Int64)) hx hb nD_M_happened_8 (by decide) ?_
  refine W.lcmp hx hb nD_M_happened_9 ?_
  refine lv_if_ne (tgt := 28) hx hb nD_M_happened_10 (by decide) (fun hc => ?_) (fun hc => ?_)
  · have h := h.2 hc
    exact mw_v hx hb hr hlocks ⟨σ1, rfl, h⟩ hP hK hD hS nD_M_happened_28
  · have h := h.1 hc
    refine lv_aload_n hx hb nD_M_happened_13 rfl (lv_at hl 0 rfl) ?_
    refine va_get (D := D) (ci := 5) (v := .int (σ1.1 3)) (C := nR_M) (T := nT_M) (N := 23) hx hb hw wu_M hown hK hP 0 yc_0 rfl 3 (by decide) (hw _ wm_426) (fun _ h9 => h9) rfl nD_M_happened_14 ?_
    refine lv_if_ne (tgt := 28) hx hb nD_M_happened_17 (by decide) (fun hc => ?_) (fun hc => ?_)
    · have h := h.2 hc
      exact mw_v hx hb hr hlocks ⟨σ1, rfl, h⟩ hP hK hD hS nD_M_happened_28
    · have h := h.1 hc
      refine lv_aload_n hx hb nD_M_happened_20 rfl (lv_at hl 0 rfl) ?_
      refine lv_aload_n hx hb nD_M_happened_21 rfl (lv_at hl 0 rfl) ?_
      refine va_get (D := D) (ci := 5) (v := .int (σ1.1 2)) (C := nR_M) (T := nT_M) (N := 23) hx hb hw wu_M hown hK hP 0 yc_0 rfl 2 (by decide) (hw _ wm_425) (fun _ h9 => h9) rfl nD_M_happened_22 ?_
      refine va_put (D := D) (ci := 5) (v := .int (σ1.1 2)) (ty := .int) (C := nR_M) (T := nT_M) (N := 23) hx hb hw wu_M nY_M nO_M nN_M hown hK hP hD hS 0 yc_0 rfl 3 (by decide) (hw _ wm_426) (fun _ h9 => h9) rfl (by decide +kernel) rfl rfl (Nat.le_of_ble_eq_true rfl) nD_M_happened_25 (fun H locs hP hD hS => ?_)
      obtain ⟨σ2, e_σ2⟩ : ∃ z : zS, z = zI σ1 3 (σ1.1 2) := ⟨_, rfl⟩
      obtain ⟨hP, hD⟩ := znew (w := zM a tc) e_σ2 (yp_0_3) hP hD
      have h := h σ2 e_σ2
      clear e_σ2
      exact mw_v hx hb hr hlocks ⟨σ2, rfl, h⟩ hP hK hD hS nD_M_happened_28
set_option maxHeartbeats 4000000 in
set_option maxRecDepth 100000 in
theorem c_M_begin (l : Launch) (D : va_G) (tc : Nat → ClassId) (a : Nat → Nat) (x1 : Int32) (x2 : Int32) (x3 : Int32) (σ : zS) (post : Int32 → zS → Prop) (h : j_M_begin x1 x2 x3 σ post) : mWi l nM_M_begin nC_M_begin 4 (some .boolean) ({ frames := 5, cells := 0, slots := 0, locals := 111 } : Room) D (ztM tc) [.ref (a 0), .int x1, .int x2, .int x3] (zM a tc σ) (zQi (zM a tc) post) := by
  intro sz
  refine mt_W (by decide) (Nat.le_of_ble_eq_true rfl) ?_
  intro p e s m below meth c ls hx hb hml hr hown hlocks hin hw hn hP hK hD hS hA hl hsz
  subst hsz
  have hl : lv_has ls 4 [(0, .ref (a 0)), (1, .int x1), (2, .int x2), (3, .int x3)] := hl
  unfold j_M_begin at h
  refine lv_iload_n hx hb nD_M_begin_0 rfl (lv_at hl 1 rfl) ?_
  refine lv_if_lt (tgt := 26) hx hb nD_M_begin_1 (by decide) (fun hc => ?_) (fun hc => ?_)
  · have h := h.1 hc
    refine lv_iconst (v := (0 : Int32)) hx hb nD_M_begin_26 (by decide) ?_
    exact mw_z hx hb hr hlocks rfl ⟨σ, rfl, h⟩ hP hK hD hS nD_M_begin_27
  · have h := h.2 hc
    refine lv_iload_n hx hb nD_M_begin_4 rfl (lv_at hl 1 rfl) ?_
    refine lv_iconst (v := (2 : Int32)) hx hb nD_M_begin_5 (by decide) ?_
    refine lv_icmp_gt (tgt := 26) hx hb nD_M_begin_6 (by decide) (fun hc => ?_) (fun hc => ?_)
    · have h := h.1 hc
      refine lv_iconst (v := (0 : Int32)) hx hb nD_M_begin_26 (by decide) ?_
      exact mw_z hx hb hr hlocks rfl ⟨σ, rfl, h⟩ hP hK hD hS nD_M_begin_27
    · have h := h.2 hc
      refine lv_aload_n hx hb nD_M_begin_9 rfl (lv_at hl 0 rfl) ?_
      refine va_get (D := D) (ci := 5) (v := .int (σ.1 4)) (C := nR_M) (T := nT_M) (N := 23) hx hb hw wu_M hown hK hP 0 yc_0 rfl 4 (by decide) (hw _ wm_427) (fun _ h9 => h9) rfl nD_M_begin_10 ?_
      refine lv_bipush (v := (8 : Int32)) hx hb nD_M_begin_13 (by decide) ?_
      refine lv_icmp_ge (tgt := 26) hx hb nD_M_begin_15 (by decide) (fun hc => ?_) (fun hc => ?_)
      · have h := h.1 hc
        refine lv_iconst (v := (0 : Int32)) hx hb nD_M_begin_26 (by decide) ?_
        exact mw_z hx hb hr hlocks rfl ⟨σ, rfl, h⟩ hP hK hD hS nD_M_begin_27
      · have h := h.2 hc
        refine lv_aload_n hx hb nD_M_begin_18 rfl (lv_at hl 0 rfl) ?_
        refine lv_iload_n hx hb nD_M_begin_19 rfl (lv_at hl 1 rfl) ?_
        refine zC_i (va_runV (As := [.int x1]) (rest := []) ⟨hx, hb, hml, hown, hw⟩ (c_M_openOf l D tc a x1 σ _ h _) (mcV 1 hw wm_506 wm_503 wm_505 wm_20 wm_33 rfl rfl nh_M_openOf ⟨Nat.le_of_ble_eq_true rfl, Nat.le_of_ble_eq_true rfl⟩) (zp_V (ci := 5) hP hD hK hn rfl yc_0) rfl rfl hl.1 rfl (lv_room (Nat.le_of_ble_eq_true rfl)) nD_M_begin_20 ⟨Nat.zero_le _, Nat.zero_le _⟩) hD hS hA (fun r2 σ1 H locs h hP hD hS => ?_)
        refine lv_if_lt (tgt := 28) hx hb nD_M_begin_23 (by decide) (fun hc => ?_) (fun hc => ?_)
        · have h := h.1 hc
          refine lv_aload_n hx hb nD_M_begin_28 rfl (lv_at hl 0 rfl) ?_
          refine lv_dup hx hb nD_M_begin_29 rfl ?_
          refine va_get (D := D) (ci := 5) (v := .int (σ1.1 2)) (C := nR_M) (T := nT_M) (N := 23) hx hb hw wu_M hown hK hP 0 yc_0 rfl 2 (by decide) (hw _ wm_425) (fun _ h9 => h9) rfl nD_M_begin_30 ?_
          refine lv_iconst (v := (1 : Int32)) hx hb nD_M_begin_33 (by decide) ?_
          refine lv_iadd hx hb nD_M_begin_34 ?_
          refine va_put (D := D) (ci := 5) (v := .int ((σ1.1 2) + (1 : Int32))) (ty := .int) (C := nR_M) (T := nT_M) (N := 23) hx hb hw wu_M nY_M nO_M nN_M hown hK hP hD hS 0 yc_0 rfl 2 (by decide) (hw _ wm_425) (fun _ h9 => h9) rfl (by decide +kernel) rfl rfl (Nat.le_of_ble_eq_true rfl) nD_M_begin_35 (fun H locs hP hD hS => ?_)
          obtain ⟨σ3, e_σ3⟩ : ∃ z : zS, z = zI σ1 2 ((σ1.1 2) + (1 : Int32)) := ⟨_, rfl⟩
          obtain ⟨hP, hD⟩ := znew (w := zM a tc) e_σ3 (yp_0_2) hP hD
          have h := h σ3 e_σ3
          clear e_σ3
          refine lv_aload_n hx hb nD_M_begin_38 rfl (lv_at hl 0 rfl) ?_
          refine va_get (D := D) (ci := 5) (v := .ref (a 1)) (C := nR_M) (T := nT_M) (N := 23) hx hb hw wu_M hown hK hP 0 yc_0 rfl 5 (by decide) (hw _ wm_428) (fun _ h9 => h9) rfl nD_M_begin_39 ?_
          refine lv_aload_n hx hb nD_M_begin_42 rfl (lv_at hl 0 rfl) ?_
          refine va_get (D := D) (ci := 5) (v := .int (σ3.1 4)) (C := nR_M) (T := nT_M) (N := 23) hx hb hw wu_M hown hK hP 0 yc_0 rfl 4 (by decide) (hw _ wm_427) (fun _ h9 => h9) rfl nD_M_begin_43 ?_
          refine lv_iload_n hx hb nD_M_begin_46 rfl (lv_at hl 1 rfl) ?_
          obtain ⟨hi4, h⟩ := h
          refine va_iast (D := D) hx hb hK hP hD hS 1 0 yc_1 rfl hi4 nD_M_begin_47 (fun H locs hP hD hS => ?_)
          obtain ⟨σ5, e_σ5⟩ : ∃ z : zS, z = zA σ3 0 (σ3.1 4).toNatClampNeg x1 := ⟨_, rfl⟩
          obtain ⟨hP, hD⟩ := znew (w := zM a tc) e_σ5 (ya_1) hP hD
          have h := h σ5 e_σ5
          clear e_σ5
          refine lv_aload_n hx hb nD_M_begin_48 rfl (lv_at hl 0 rfl) ?_
          refine va_get (D := D) (ci := 5) (v := .ref (a 2)) (C := nR_M) (T := nT_M) (N := 23) hx hb hw wu_M hown hK hP 0 yc_0 rfl 6 (by decide) (hw _ wm_429) (fun _ h9 => h9) rfl nD_M_begin_49 ?_
          refine lv_aload_n hx hb nD_M_begin_52 rfl (lv_at hl 0 rfl) ?_
          refine va_get (D := D) (ci := 5) (v := .int (σ5.1 4)) (C := nR_M) (T := nT_M) (N := 23) hx hb hw wu_M hown hK hP 0 yc_0 rfl 4 (by decide) (hw _ wm_427) (fun _ h9 => h9) rfl nD_M_begin_53 ?_
          refine lv_iload_n hx hb nD_M_begin_56 rfl (lv_at hl 2 rfl) ?_
          obtain ⟨hi6, h⟩ := h
          refine va_zast (D := D) hx hb hK hP hD hS 2 1 yc_2 rfl hi6 nD_M_begin_57 (fun H locs hP hD hS => ?_)
          obtain ⟨σ7, e_σ7⟩ : ∃ z : zS, z = zA σ5 1 (σ5.1 4).toNatClampNeg (vp_nar .boolean x2) := ⟨_, rfl⟩
          obtain ⟨hP, hD⟩ := znew (w := zM a tc) e_σ7 (ya_2) hP hD
          have h := h σ7 e_σ7
          clear e_σ7
          refine lv_aload_n hx hb nD_M_begin_58 rfl (lv_at hl 0 rfl) ?_
          refine va_get (D := D) (ci := 5) (v := .ref (a 3)) (C := nR_M) (T := nT_M) (N := 23) hx hb hw wu_M hown hK hP 0 yc_0 rfl 7 (by decide) (hw _ wm_430) (fun _ h9 => h9) rfl nD_M_begin_59 ?_
          refine lv_aload_n hx hb nD_M_begin_62 rfl (lv_at hl 0 rfl) ?_
          refine va_get (D := D) (ci := 5) (v := .int (σ7.1 4)) (C := nR_M) (T := nT_M) (N := 23) hx hb hw wu_M hown hK hP 0 yc_0 rfl 4 (by decide) (hw _ wm_427) (fun _ h9 => h9) rfl nD_M_begin_63 ?_
          refine lv_iload_n hx hb nD_M_begin_66 rfl (lv_at hl 3 rfl) ?_
          obtain ⟨hi8, h⟩ := h
          refine va_iast (D := D) hx hb hK hP hD hS 3 2 yc_3 rfl hi8 nD_M_begin_67 (fun H locs hP hD hS => ?_)
          obtain ⟨σ9, e_σ9⟩ : ∃ z : zS, z = zA σ7 2 (σ7.1 4).toNatClampNeg x3 := ⟨_, rfl⟩
          obtain ⟨hP, hD⟩ := znew (w := zM a tc) e_σ9 (ya_3) hP hD
          have h := h σ9 e_σ9
          clear e_σ9
          refine lv_aload_n hx hb nD_M_begin_68 rfl (lv_at hl 0 rfl) ?_
          refine va_get (D := D) (ci := 5) (v := .ref (a 4)) (C := nR_M) (T := nT_M) (N := 23) hx hb hw wu_M hown hK hP 0 yc_0 rfl 8 (by decide) (hw _ wm_431) (fun _ h9 => h9) rfl nD_M_begin_69 ?_
          refine lv_aload_n hx hb nD_M_begin_72 rfl (lv_at hl 0 rfl) ?_
          refine va_get (D := D) (ci := 5) (v := .int (σ9.1 4)) (C := nR_M) (T := nT_M) (N := 23) hx hb hw wu_M hown hK hP 0 yc_0 rfl 4 (by decide) (hw _ wm_427) (fun _ h9 => h9) rfl nD_M_begin_73 ?_
          refine lv_aload_n hx hb nD_M_begin_76 rfl (lv_at hl 0 rfl) ?_
          refine va_get (D := D) (ci := 5) (v := .int (σ9.1 2)) (C := nR_M) (T := nT_M) (N := 23) hx hb hw wu_M hown hK hP 0 yc_0 rfl 2 (by decide) (hw _ wm_425) (fun _ h9 => h9) rfl nD_M_begin_77 ?_
          obtain ⟨hi10, h⟩ := h
          refine va_iast (D := D) hx hb hK hP hD hS 4 3 yc_4 rfl hi10 nD_M_begin_80 (fun H locs hP hD hS => ?_)
          obtain ⟨σ11, e_σ11⟩ : ∃ z : zS, z = zA σ9 3 (σ9.1 4).toNatClampNeg (σ9.1 2) := ⟨_, rfl⟩
          obtain ⟨hP, hD⟩ := znew (w := zM a tc) e_σ11 (ya_4) hP hD
          have h := h σ11 e_σ11
          clear e_σ11
          refine lv_aload_n hx hb nD_M_begin_81 rfl (lv_at hl 0 rfl) ?_
          refine va_get (D := D) (ci := 5) (v := .ref (a 7)) (C := nR_M) (T := nT_M) (N := 23) hx hb hw wu_M hown hK hP 0 yc_0 rfl 11 (by decide) (hw _ wm_434) (fun _ h9 => h9) rfl nD_M_begin_82 ?_
          refine lv_aload_n hx hb nD_M_begin_85 rfl (lv_at hl 0 rfl) ?_
          refine va_get (D := D) (ci := 5) (v := .int (σ11.1 4)) (C := nR_M) (T := nT_M) (N := 23) hx hb hw wu_M hown hK hP 0 yc_0 rfl 4 (by decide) (hw _ wm_427) (fun _ h9 => h9) rfl nD_M_begin_86 ?_
          refine lv_iconst (v := (0 : Int32)) hx hb nD_M_begin_89 (by decide) ?_
          obtain ⟨hi12, h⟩ := h
          refine va_iast (D := D) hx hb hK hP hD hS 7 6 yc_7 rfl hi12 nD_M_begin_90 (fun H locs hP hD hS => ?_)
          obtain ⟨σ13, e_σ13⟩ : ∃ z : zS, z = zA σ11 6 (σ11.1 4).toNatClampNeg (0 : Int32) := ⟨_, rfl⟩
          obtain ⟨hP, hD⟩ := znew (w := zM a tc) e_σ13 (ya_7) hP hD
          have h := h σ13 e_σ13
          clear e_σ13
          refine lv_aload_n hx hb nD_M_begin_91 rfl (lv_at hl 0 rfl) ?_
          refine lv_dup hx hb nD_M_begin_92 rfl ?_
          refine va_get (D := D) (ci := 5) (v := .int (σ13.1 4)) (C := nR_M) (T := nT_M) (N := 23) hx hb hw wu_M hown hK hP 0 yc_0 rfl 4 (by decide) (hw _ wm_427) (fun _ h9 => h9) rfl nD_M_begin_93 ?_
          refine lv_iconst (v := (1 : Int32)) hx hb nD_M_begin_96 (by decide) ?_
          refine lv_iadd hx hb nD_M_begin_97 ?_
          refine va_put (D := D) (ci := 5) (v := .int ((σ13.1 4) + (1 : Int32))) (ty := .int) (C := nR_M) (T := nT_M) (N := 23) hx hb hw wu_M nY_M nO_M nN_M hown hK hP hD hS 0 yc_0 rfl 4 (by decide) (hw _ wm_427) (fun _ h9 => h9) rfl (by decide +kernel) rfl rfl (Nat.le_of_ble_eq_true rfl) nD_M_begin_98 (fun H locs hP hD hS => ?_)
          obtain ⟨σ14, e_σ14⟩ : ∃ z : zS, z = zI σ13 4 ((σ13.1 4) + (1 : Int32)) := ⟨_, rfl⟩
          obtain ⟨hP, hD⟩ := znew (w := zM a tc) e_σ14 (yp_0_4) hP hD
          have h := h σ14 e_σ14
          clear e_σ14
          refine lv_aload_n hx hb nD_M_begin_101 rfl (lv_at hl 0 rfl) ?_
          refine zC_v (va_runV (As := []) (rest := []) ⟨hx, hb, hml, hown, hw⟩ (c_M_happened l D tc a σ14 _ h _) (mcV 0 hw wm_510 wm_507 wm_509 wm_21 wm_33 rfl rfl nh_M_happened ⟨Nat.le_of_ble_eq_true rfl, Nat.le_of_ble_eq_true rfl⟩) (zp_V (ci := 5) hP hD hK hn rfl yc_0) rfl rfl hl.1 rfl (lv_room (Nat.le_of_ble_eq_true rfl)) nD_M_begin_102 ⟨Nat.zero_le _, Nat.zero_le _⟩) hD hS hA (fun σ15 H locs h hP hD hS => ?_)
          refine lv_iconst (v := (1 : Int32)) hx hb nD_M_begin_105 (by decide) ?_
          exact mw_z hx hb hr hlocks rfl ⟨σ15, rfl, h⟩ hP hK hD hS nD_M_begin_106
        · have h := h.2 hc
          refine lv_iconst (v := (0 : Int32)) hx hb nD_M_begin_26 (by decide) ?_
          exact mw_z hx hb hr hlocks rfl ⟨σ1, rfl, h⟩ hP hK hD hS nD_M_begin_27
set_option maxHeartbeats 4000000 in
set_option maxRecDepth 100000 in
theorem c_M_close (l : Launch) (D : va_G) (tc : Nat → ClassId) (a : Nat → Nat) (x1 : Int32) (x2 : Int32) (x3 : Int32) (σ : zS) (post : zS → Prop) (h : j_M_close x1 x2 x3 σ post) : mWv l nM_M_close nC_M_close 4 ({ frames := 5, cells := 0, slots := 0, locals := 111 } : Room) D (ztM tc) [.ref (a 0), .int x1, .int x2, .int x3] (zM a tc σ) (zQv (zM a tc) post) := by
  intro sz
  refine mt_W (by decide) (Nat.le_of_ble_eq_true rfl) ?_
  intro p e s m below meth c ls hx hb hml hr hown hlocks hin hw hn hP hK hD hS hA hl hsz
  subst hsz
  have hl : lv_has ls 4 [(0, .ref (a 0)), (1, .int x1), (2, .int x2), (3, .int x3)] := hl
  unfold j_M_close at h
  refine lv_aload_n hx hb nD_M_close_0 rfl (lv_at hl 0 rfl) ?_
  refine lv_dup hx hb nD_M_close_1 rfl ?_
  refine va_get (D := D) (ci := 5) (v := .int (σ.1 2)) (C := nR_M) (T := nT_M) (N := 23) hx hb hw wu_M hown hK hP 0 yc_0 rfl 2 (by decide) (hw _ wm_425) (fun _ h9 => h9) rfl nD_M_close_2 ?_
  refine lv_iconst (v := (1 : Int32)) hx hb nD_M_close_5 (by decide) ?_
  refine lv_iadd hx hb nD_M_close_6 ?_
  refine va_put (D := D) (ci := 5) (v := .int ((σ.1 2) + (1 : Int32))) (ty := .int) (C := nR_M) (T := nT_M) (N := 23) hx hb hw wu_M nY_M nO_M nN_M hown hK hP hD hS 0 yc_0 rfl 2 (by decide) (hw _ wm_425) (fun _ h9 => h9) rfl (by decide +kernel) rfl rfl (Nat.le_of_ble_eq_true rfl) nD_M_close_7 (fun H locs hP hD hS => ?_)
  obtain ⟨σ1, e_σ1⟩ : ∃ z : zS, z = zI σ 2 ((σ.1 2) + (1 : Int32)) := ⟨_, rfl⟩
  obtain ⟨hP, hD⟩ := znew (w := zM a tc) e_σ1 (yp_0_2) hP hD
  have h := h σ1 e_σ1
  clear e_σ1
  refine lv_aload_n hx hb nD_M_close_10 rfl (lv_at hl 0 rfl) ?_
  refine va_get (D := D) (ci := 5) (v := .ref (a 7)) (C := nR_M) (T := nT_M) (N := 23) hx hb hw wu_M hown hK hP 0 yc_0 rfl 11 (by decide) (hw _ wm_434) (fun _ h9 => h9) rfl nD_M_close_11 ?_
  refine lv_iload_n hx hb nD_M_close_14 rfl (lv_at hl 1 rfl) ?_
  refine lv_iload_n hx hb nD_M_close_15 rfl (lv_at hl 2 rfl) ?_
  obtain ⟨hi2, h⟩ := h
  refine va_iast (D := D) hx hb hK hP hD hS 7 6 yc_7 rfl hi2 nD_M_close_16 (fun H locs hP hD hS => ?_)
  obtain ⟨σ3, e_σ3⟩ : ∃ z : zS, z = zA σ1 6 x1.toNatClampNeg x2 := ⟨_, rfl⟩
  obtain ⟨hP, hD⟩ := znew (w := zM a tc) e_σ3 (ya_7) hP hD
  have h := h σ3 e_σ3
  clear e_σ3
  refine lv_aload_n hx hb nD_M_close_17 rfl (lv_at hl 0 rfl) ?_
  refine va_get (D := D) (ci := 5) (v := .ref (a 5)) (C := nR_M) (T := nT_M) (N := 23) hx hb hw wu_M hown hK hP 0 yc_0 rfl 9 (by decide) (hw _ wm_432) (fun _ h9 => h9) rfl nD_M_close_18 ?_
  refine lv_iload_n hx hb nD_M_close_21 rfl (lv_at hl 1 rfl) ?_
  refine lv_aload_n hx hb nD_M_close_22 rfl (lv_at hl 0 rfl) ?_
  refine va_get (D := D) (ci := 5) (v := .int (σ3.1 2)) (C := nR_M) (T := nT_M) (N := 23) hx hb hw wu_M hown hK hP 0 yc_0 rfl 2 (by decide) (hw _ wm_425) (fun _ h9 => h9) rfl nD_M_close_23 ?_
  obtain ⟨hi4, h⟩ := h
  refine va_iast (D := D) hx hb hK hP hD hS 5 4 yc_5 rfl hi4 nD_M_close_26 (fun H locs hP hD hS => ?_)
  obtain ⟨σ5, e_σ5⟩ : ∃ z : zS, z = zA σ3 4 x1.toNatClampNeg (σ3.1 2) := ⟨_, rfl⟩
  obtain ⟨hP, hD⟩ := znew (w := zM a tc) e_σ5 (ya_5) hP hD
  have h := h σ5 e_σ5
  clear e_σ5
  refine lv_aload_n hx hb nD_M_close_27 rfl (lv_at hl 0 rfl) ?_
  refine va_get (D := D) (ci := 5) (v := .ref (a 6)) (C := nR_M) (T := nT_M) (N := 23) hx hb hw wu_M hown hK hP 0 yc_0 rfl 10 (by decide) (hw _ wm_433) (fun _ h9 => h9) rfl nD_M_close_28 ?_
  refine lv_iload_n hx hb nD_M_close_31 rfl (lv_at hl 1 rfl) ?_
  refine lv_iload_n hx hb nD_M_close_32 rfl (lv_at hl 3 rfl) ?_
  obtain ⟨hi6, h⟩ := h
  refine va_iast (D := D) hx hb hK hP hD hS 6 5 yc_6 rfl hi6 nD_M_close_33 (fun H locs hP hD hS => ?_)
  obtain ⟨σ7, e_σ7⟩ : ∃ z : zS, z = zA σ5 5 x1.toNatClampNeg x3 := ⟨_, rfl⟩
  obtain ⟨hP, hD⟩ := znew (w := zM a tc) e_σ7 (ya_6) hP hD
  have h := h σ7 e_σ7
  clear e_σ7
  refine lv_aload_n hx hb nD_M_close_34 rfl (lv_at hl 0 rfl) ?_
  refine zC_v (va_runV (As := []) (rest := []) ⟨hx, hb, hml, hown, hw⟩ (c_M_happened l D tc a σ7 _ h _) (mcV 0 hw wm_510 wm_507 wm_509 wm_21 wm_33 rfl rfl nh_M_happened ⟨Nat.le_of_ble_eq_true rfl, Nat.le_of_ble_eq_true rfl⟩) (zp_V (ci := 5) hP hD hK hn rfl yc_0) rfl rfl hl.1 rfl (lv_room (Nat.le_of_ble_eq_true rfl)) nD_M_close_35 ⟨Nat.zero_le _, Nat.zero_le _⟩) hD hS hA (fun σ8 H locs h hP hD hS => ?_)
  exact mw_v hx hb hr hlocks ⟨σ8, rfl, h⟩ hP hK hD hS nD_M_close_38
set_option maxHeartbeats 4000000 in
set_option maxRecDepth 100000 in
theorem c_M_beginPut (l : Launch) (D : va_G) (tc : Nat → ClassId) (a : Nat → Nat) (x1 : Int32) (x2 : Int32) (σ : zS) (post : Int32 → zS → Prop) (h : j_M_beginPut x1 x2 σ post) : mWi l nM_M_beginPut nC_M_beginPut 3 (some .boolean) ({ frames := 6, cells := 0, slots := 0, locals := 134 } : Room) D (ztM tc) [.ref (a 0), .int x1, .int x2] (zM a tc σ) (zQi (zM a tc) post) := by
  intro sz
  refine mt_W (by decide) (Nat.le_of_ble_eq_true rfl) ?_
  intro p e s m below meth c ls hx hb hml hr hown hlocks hin hw hn hP hK hD hS hA hl hsz
  subst hsz
  have hl : lv_has ls 3 [(0, .ref (a 0)), (1, .int x1), (2, .int x2)] := hl
  unfold j_M_beginPut at h
  refine lv_iload_n hx hb nD_M_beginPut_0 rfl (lv_at hl 2 rfl) ?_
  refine lv_if_lt (tgt := 22) hx hb nD_M_beginPut_1 (by decide) (fun hc => ?_) (fun hc => ?_)
  · have h := h.1 hc
    refine lv_iconst (v := (0 : Int32)) hx hb nD_M_beginPut_22 (by decide) ?_
    exact mw_z hx hb hr hlocks rfl ⟨σ, rfl, h⟩ hP hK hD hS nD_M_beginPut_23
  · have h := h.2 hc
    refine lv_iload_n hx hb nD_M_beginPut_4 rfl (lv_at hl 2 rfl) ?_
    refine lv_bipush (v := (15 : Int32)) hx hb nD_M_beginPut_5 (by decide) ?_
    refine lv_icmp_gt (tgt := 22) hx hb nD_M_beginPut_7 (by decide) (fun hc => ?_) (fun hc => ?_)
    · have h := h.1 hc
      refine lv_iconst (v := (0 : Int32)) hx hb nD_M_beginPut_22 (by decide) ?_
      exact mw_z hx hb hr hlocks rfl ⟨σ, rfl, h⟩ hP hK hD hS nD_M_beginPut_23
    · have h := h.2 hc
      refine lv_aload_n hx hb nD_M_beginPut_10 rfl (lv_at hl 0 rfl) ?_
      refine va_get (D := D) (ci := 5) (v := .int (σ.1 0)) (C := nR_M) (T := nT_M) (N := 23) hx hb hw wu_M hown hK hP 0 yc_0 rfl 0 (by decide) (hw _ wm_423) (fun _ h9 => h9) rfl nD_M_beginPut_11 ?_
      refine lv_iconst (v := (2 : Int32)) hx hb nD_M_beginPut_14 (by decide) ?_
      refine lv_icmp_ne (tgt := 24) hx hb nD_M_beginPut_15 (by decide) (fun hc => ?_) (fun hc => ?_)
      · have h := h.2 hc
        refine lv_aload_n hx hb nD_M_beginPut_24 rfl (lv_at hl 0 rfl) ?_
        refine lv_iload_n hx hb nD_M_beginPut_25 rfl (lv_at hl 1 rfl) ?_
        refine lv_iconst (v := (1 : Int32)) hx hb nD_M_beginPut_26 (by decide) ?_
        refine lv_iload_n hx hb nD_M_beginPut_27 rfl (lv_at hl 2 rfl) ?_
        refine zC_i (va_runV (As := [.int x1, .int (1 : Int32), .int x2]) (rest := []) ⟨hx, hb, hml, hown, hw⟩ (c_M_begin l D tc a x1 (1 : Int32) x2 σ _ h _) (mcV 3 hw wm_502 wm_499 wm_501 wm_19 wm_33 rfl rfl nh_M_begin ⟨Nat.le_of_ble_eq_true rfl, Nat.le_of_ble_eq_true rfl⟩) (zp_V (ci := 5) hP hD hK hn rfl yc_0) rfl rfl hl.1 rfl (lv_room (Nat.le_of_ble_eq_true rfl)) nD_M_beginPut_28 ⟨Nat.zero_le _, Nat.zero_le _⟩) hD hS hA (fun r2 σ1 H locs h hP hD hS => ?_)
        exact mw_z hx hb hr hlocks h.1 ⟨σ1, rfl, h.2⟩ hP hK hD hS nD_M_beginPut_31
      · have h := h.1 hc
        refine lv_iload_n hx hb nD_M_beginPut_18 rfl (lv_at hl 1 rfl) ?_
        refine lv_if_eq (tgt := 24) hx hb nD_M_beginPut_19 (by decide) (fun hc => ?_) (fun hc => ?_)
        · have h := h.1 hc
          refine lv_aload_n hx hb nD_M_beginPut_24 rfl (lv_at hl 0 rfl) ?_
          refine lv_iload_n hx hb nD_M_beginPut_25 rfl (lv_at hl 1 rfl) ?_
          refine lv_iconst (v := (1 : Int32)) hx hb nD_M_beginPut_26 (by decide) ?_
          refine lv_iload_n hx hb nD_M_beginPut_27 rfl (lv_at hl 2 rfl) ?_
          refine zC_i (va_runV (As := [.int x1, .int (1 : Int32), .int x2]) (rest := []) ⟨hx, hb, hml, hown, hw⟩ (c_M_begin l D tc a x1 (1 : Int32) x2 σ _ h _) (mcV 3 hw wm_502 wm_499 wm_501 wm_19 wm_33 rfl rfl nh_M_begin ⟨Nat.le_of_ble_eq_true rfl, Nat.le_of_ble_eq_true rfl⟩) (zp_V (ci := 5) hP hD hK hn rfl yc_0) rfl rfl hl.1 rfl (lv_room (Nat.le_of_ble_eq_true rfl)) nD_M_beginPut_28 ⟨Nat.zero_le _, Nat.zero_le _⟩) hD hS hA (fun r4 σ3 H locs h hP hD hS => ?_)
          exact mw_z hx hb hr hlocks h.1 ⟨σ3, rfl, h.2⟩ hP hK hD hS nD_M_beginPut_31
        · have h := h.2 hc
          refine lv_iconst (v := (0 : Int32)) hx hb nD_M_beginPut_22 (by decide) ?_
          exact mw_z hx hb hr hlocks rfl ⟨σ, rfl, h⟩ hP hK hD hS nD_M_beginPut_23
set_option maxHeartbeats 4000000 in
set_option maxRecDepth 100000 in
theorem c_M_beginTake (l : Launch) (D : va_G) (tc : Nat → ClassId) (a : Nat → Nat) (x1 : Int32) (σ : zS) (post : Int32 → zS → Prop) (h : j_M_beginTake x1 σ post) : mWi l nM_M_beginTake nC_M_beginTake 2 (some .boolean) ({ frames := 6, cells := 0, slots := 0, locals := 134 } : Room) D (ztM tc) [.ref (a 0), .int x1] (zM a tc σ) (zQi (zM a tc) post) := by
  intro sz
  refine mt_W (by decide) (Nat.le_of_ble_eq_true rfl) ?_
  intro p e s m below meth c ls hx hb hml hr hown hlocks hin hw hn hP hK hD hS hA hl hsz
  subst hsz
  have hl : lv_has ls 2 [(0, .ref (a 0)), (1, .int x1)] := hl
  unfold j_M_beginTake at h
  refine lv_aload_n hx hb nD_M_beginTake_0 rfl (lv_at hl 0 rfl) ?_
  refine lv_iload_n hx hb nD_M_beginTake_1 rfl (lv_at hl 1 rfl) ?_
  refine lv_iconst (v := (0 : Int32)) hx hb nD_M_beginTake_2 (by decide) ?_
  refine lv_iconst (v := (0 : Int32)) hx hb nD_M_beginTake_3 (by decide) ?_
  refine zC_i (va_runV (As := [.int x1, .int (0 : Int32), .int (0 : Int32)]) (rest := []) ⟨hx, hb, hml, hown, hw⟩ (c_M_begin l D tc a x1 (0 : Int32) (0 : Int32) σ _ h _) (mcV 3 hw wm_502 wm_499 wm_501 wm_19 wm_33 rfl rfl nh_M_begin ⟨Nat.le_of_ble_eq_true rfl, Nat.le_of_ble_eq_true rfl⟩) (zp_V (ci := 5) hP hD hK hn rfl yc_0) rfl rfl hl.1 rfl (lv_room (Nat.le_of_ble_eq_true rfl)) nD_M_beginTake_4 ⟨Nat.zero_le _, Nat.zero_le _⟩) hD hS hA (fun r2 σ1 H locs h hP hD hS => ?_)
  exact mw_z hx hb hr hlocks h.1 ⟨σ1, rfl, h.2⟩ hP hK hD hS nD_M_beginTake_7
set_option maxHeartbeats 4000000 in
set_option maxRecDepth 100000 in
theorem c_M_endPut (l : Launch) (D : va_G) (tc : Nat → ClassId) (a : Nat → Nat) (x1 : Int32) (x2 : Int32) (σ : zS) (post : Int32 → zS → Prop) (h : j_M_endPut x1 x2 σ post) : mWi l nM_M_endPut nC_M_endPut 4 (some .boolean) ({ frames := 6, cells := 0, slots := 0, locals := 134 } : Room) D (ztM tc) [.ref (a 0), .int x1, .int x2] (zM a tc σ) (zQi (zM a tc) post) := by
  intro sz
  refine mt_W (by decide) (Nat.le_of_ble_eq_true rfl) ?_
  intro p e s m below meth c ls hx hb hml hr hown hlocks hin hw hn hP hK hD hS hA hl hsz
  subst hsz
  have hl : lv_has ls 4 [(0, .ref (a 0)), (1, .int x1), (2, .int x2)] := hl
  unfold j_M_endPut at h
  refine lv_aload_n hx hb nD_M_endPut_0 rfl (lv_at hl 0 rfl) ?_
  refine lv_iload_n hx hb nD_M_endPut_1 rfl (lv_at hl 1 rfl) ?_
  refine zC_i (va_runV (As := [.int x1]) (rest := []) ⟨hx, hb, hml, hown, hw⟩ (c_M_openOf l D tc a x1 σ _ h _) (mcV 1 hw wm_506 wm_503 wm_505 wm_20 wm_33 rfl rfl nh_M_openOf ⟨Nat.le_of_ble_eq_true rfl, Nat.le_of_ble_eq_true rfl⟩) (zp_V (ci := 5) hP hD hK hn rfl yc_0) rfl rfl hl.1 rfl (lv_room (Nat.le_of_ble_eq_true rfl)) nD_M_endPut_2 ⟨Nat.zero_le _, Nat.zero_le _⟩) hD hS hA (fun r2 σ1 H locs h hP hD hS => ?_)
  refine lv_istore_n hx hb nD_M_endPut_5 rfl hl (by decide) rfl (fun ls hl => ?_)
  have hl : lv_has ls 4 [(3, .int r2), (0, .ref (a 0)), (1, .int x1), (2, .int x2)] := hl
  refine lv_iload_n hx hb nD_M_endPut_6 rfl (lv_at hl 0 rfl) ?_
  refine lv_if_lt (tgt := 19) hx hb nD_M_endPut_7 (by decide) (fun hc => ?_) (fun hc => ?_)
  · have h := h.1 hc
    refine lv_iconst (v := (0 : Int32)) hx hb nD_M_endPut_19 (by decide) ?_
    exact mw_z hx hb hr hlocks rfl ⟨σ1, rfl, h⟩ hP hK hD hS nD_M_endPut_20
  · have h := h.2 hc
    refine lv_aload_n hx hb nD_M_endPut_10 rfl (lv_at hl 1 rfl) ?_
    refine va_get (D := D) (ci := 5) (v := .ref (a 2)) (C := nR_M) (T := nT_M) (N := 23) hx hb hw wu_M hown hK hP 0 yc_0 rfl 6 (by decide) (hw _ wm_429) (fun _ h9 => h9) rfl nD_M_endPut_11 ?_
    refine lv_iload_n hx hb nD_M_endPut_14 rfl (lv_at hl 0 rfl) ?_
    obtain ⟨hi3, h⟩ := h
    refine va_zald (D := D) hx hb hK hP 2 1 yc_2 rfl hi3 nD_M_endPut_15 ?_
    refine lv_if_ne (tgt := 21) hx hb nD_M_endPut_16 (by decide) (fun hc => ?_) (fun hc => ?_)
    · have h := h.2 hc
      refine lv_aload_n hx hb nD_M_endPut_21 rfl (lv_at hl 1 rfl) ?_
      refine lv_iload_n hx hb nD_M_endPut_22 rfl (lv_at hl 0 rfl) ?_
      refine lv_iconst (v := (1 : Int32)) hx hb nD_M_endPut_23 (by decide) ?_
      refine lv_iload_n hx hb nD_M_endPut_24 rfl (lv_at hl 3 rfl) ?_
      refine lv_if_eq (tgt := 32) hx hb nD_M_endPut_25 (by decide) (fun hc => ?_) (fun hc => ?_)
      · have h := h.1 hc
        refine lv_iconst (v := (0 : Int32)) hx hb nD_M_endPut_32 (by decide) ?_
        refine zC_v (va_runV (As := [.int r2, .int (1 : Int32), .int (0 : Int32)]) (rest := []) ⟨hx, hb, hml, hown, hw⟩ (c_M_close l D tc a r2 (1 : Int32) (0 : Int32) σ1 _ h _) (mcV 3 hw wm_522 wm_519 wm_521 wm_22 wm_33 rfl rfl nh_M_close ⟨Nat.le_of_ble_eq_true rfl, Nat.le_of_ble_eq_true rfl⟩) (zp_V (ci := 5) hP hD hK hn rfl yc_0) rfl rfl hl.1 rfl (lv_room (Nat.le_of_ble_eq_true rfl)) nD_M_endPut_33 ⟨Nat.zero_le _, Nat.zero_le _⟩) hD hS hA (fun σ4 H locs h hP hD hS => ?_)
        refine lv_iconst (v := (1 : Int32)) hx hb nD_M_endPut_36 (by decide) ?_
        exact mw_z hx hb hr hlocks rfl ⟨σ4, rfl, h⟩ hP hK hD hS nD_M_endPut_37
      · have h := h.2 hc
        refine lv_iconst (v := (1 : Int32)) hx hb nD_M_endPut_28 (by decide) ?_
        refine lv_goto (tgt := 33) hx hb nD_M_endPut_29 (by decide) ?_
        refine zC_v (va_runV (As := [.int r2, .int (1 : Int32), .int (1 : Int32)]) (rest := []) ⟨hx, hb, hml, hown, hw⟩ (c_M_close l D tc a r2 (1 : Int32) (1 : Int32) σ1 _ h _) (mcV 3 hw wm_522 wm_519 wm_521 wm_22 wm_33 rfl rfl nh_M_close ⟨Nat.le_of_ble_eq_true rfl, Nat.le_of_ble_eq_true rfl⟩) (zp_V (ci := 5) hP hD hK hn rfl yc_0) rfl rfl hl.1 rfl (lv_room (Nat.le_of_ble_eq_true rfl)) nD_M_endPut_33 ⟨Nat.zero_le _, Nat.zero_le _⟩) hD hS hA (fun σ5 H locs h hP hD hS => ?_)
        refine lv_iconst (v := (1 : Int32)) hx hb nD_M_endPut_36 (by decide) ?_
        exact mw_z hx hb hr hlocks rfl ⟨σ5, rfl, h⟩ hP hK hD hS nD_M_endPut_37
    · have h := h.1 hc
      refine lv_iconst (v := (0 : Int32)) hx hb nD_M_endPut_19 (by decide) ?_
      exact mw_z hx hb hr hlocks rfl ⟨σ1, rfl, h⟩ hP hK hD hS nD_M_endPut_20
set_option maxHeartbeats 4000000 in
set_option maxRecDepth 100000 in
theorem c_M_endTake (l : Launch) (D : va_G) (tc : Nat → ClassId) (a : Nat → Nat) (x1 : Int32) (x2 : Int32) (σ : zS) (post : Int32 → zS → Prop) (h : j_M_endTake x1 x2 σ post) : mWi l nM_M_endTake nC_M_endTake 4 (some .boolean) ({ frames := 6, cells := 0, slots := 0, locals := 134 } : Room) D (ztM tc) [.ref (a 0), .int x1, .int x2] (zM a tc σ) (zQi (zM a tc) post) := by
  intro sz
  refine mt_W (by decide) (Nat.le_of_ble_eq_true rfl) ?_
  intro p e s m below meth c ls hx hb hml hr hown hlocks hin hw hn hP hK hD hS hA hl hsz
  subst hsz
  have hl : lv_has ls 4 [(0, .ref (a 0)), (1, .int x1), (2, .int x2)] := hl
  unfold j_M_endTake at h
  refine lv_aload_n hx hb nD_M_endTake_0 rfl (lv_at hl 0 rfl) ?_
  refine lv_iload_n hx hb nD_M_endTake_1 rfl (lv_at hl 1 rfl) ?_
  refine zC_i (va_runV (As := [.int x1]) (rest := []) ⟨hx, hb, hml, hown, hw⟩ (c_M_openOf l D tc a x1 σ _ h _) (mcV 1 hw wm_506 wm_503 wm_505 wm_20 wm_33 rfl rfl nh_M_openOf ⟨Nat.le_of_ble_eq_true rfl, Nat.le_of_ble_eq_true rfl⟩) (zp_V (ci := 5) hP hD hK hn rfl yc_0) rfl rfl hl.1 rfl (lv_room (Nat.le_of_ble_eq_true rfl)) nD_M_endTake_2 ⟨Nat.zero_le _, Nat.zero_le _⟩) hD hS hA (fun r2 σ1 H locs h hP hD hS => ?_)
  refine lv_istore_n hx hb nD_M_endTake_5 rfl hl (by decide) rfl (fun ls hl => ?_)
  have hl : lv_has ls 4 [(3, .int r2), (0, .ref (a 0)), (1, .int x1), (2, .int x2)] := hl
  refine lv_iload_n hx hb nD_M_endTake_6 rfl (lv_at hl 0 rfl) ?_
  refine lv_if_lt (tgt := 30) hx hb nD_M_endTake_7 (by decide) (fun hc => ?_) (fun hc => ?_)
  · have h := h.1 hc
    refine lv_iconst (v := (0 : Int32)) hx hb nD_M_endTake_30 (by decide) ?_
    exact mw_z hx hb hr hlocks rfl ⟨σ1, rfl, h⟩ hP hK hD hS nD_M_endTake_31
  · have h := h.2 hc
    refine lv_aload_n hx hb nD_M_endTake_10 rfl (lv_at hl 1 rfl) ?_
    refine va_get (D := D) (ci := 5) (v := .ref (a 2)) (C := nR_M) (T := nT_M) (N := 23) hx hb hw wu_M hown hK hP 0 yc_0 rfl 6 (by decide) (hw _ wm_429) (fun _ h9 => h9) rfl nD_M_endTake_11 ?_
    refine lv_iload_n hx hb nD_M_endTake_14 rfl (lv_at hl 0 rfl) ?_
    obtain ⟨hi3, h⟩ := h
    refine va_zald (D := D) hx hb hK hP 2 1 yc_2 rfl hi3 nD_M_endTake_15 ?_
    refine lv_if_ne (tgt := 30) hx hb nD_M_endTake_16 (by decide) (fun hc => ?_) (fun hc => ?_)
    · have h := h.2 hc
      refine lv_iconst (v := (0 : Int32)) hx hb nD_M_endTake_30 (by decide) ?_
      exact mw_z hx hb hr hlocks rfl ⟨σ1, rfl, h⟩ hP hK hD hS nD_M_endTake_31
    · have h := h.1 hc
      refine lv_iload_n hx hb nD_M_endTake_19 rfl (lv_at hl 3 rfl) ?_
      refine lv_iconst (v := (-1 : Int32)) hx hb nD_M_endTake_20 (by decide) ?_
      refine lv_icmp_lt (tgt := 30) hx hb nD_M_endTake_21 (by decide) (fun hc => ?_) (fun hc => ?_)
      · have h := h.1 hc
        refine lv_iconst (v := (0 : Int32)) hx hb nD_M_endTake_30 (by decide) ?_
        exact mw_z hx hb hr hlocks rfl ⟨σ1, rfl, h⟩ hP hK hD hS nD_M_endTake_31
      · have h := h.2 hc
        refine lv_iload_n hx hb nD_M_endTake_24 rfl (lv_at hl 3 rfl) ?_
        refine lv_bipush (v := (15 : Int32)) hx hb nD_M_endTake_25 (by decide) ?_
        refine lv_icmp_le (tgt := 32) hx hb nD_M_endTake_27 (by decide) (fun hc => ?_) (fun hc => ?_)
        · have h := h.1 hc
          refine lv_aload_n hx hb nD_M_endTake_32 rfl (lv_at hl 1 rfl) ?_
          refine lv_iload_n hx hb nD_M_endTake_33 rfl (lv_at hl 0 rfl) ?_
          refine lv_iconst (v := (1 : Int32)) hx hb nD_M_endTake_34 (by decide) ?_
          refine lv_iload_n hx hb nD_M_endTake_35 rfl (lv_at hl 3 rfl) ?_
          refine zC_v (va_runV (As := [.int r2, .int (1 : Int32), .int x2]) (rest := []) ⟨hx, hb, hml, hown, hw⟩ (c_M_close l D tc a r2 (1 : Int32) x2 σ1 _ h _) (mcV 3 hw wm_522 wm_519 wm_521 wm_22 wm_33 rfl rfl nh_M_close ⟨Nat.le_of_ble_eq_true rfl, Nat.le_of_ble_eq_true rfl⟩) (zp_V (ci := 5) hP hD hK hn rfl yc_0) rfl rfl hl.1 rfl (lv_room (Nat.le_of_ble_eq_true rfl)) nD_M_endTake_36 ⟨Nat.zero_le _, Nat.zero_le _⟩) hD hS hA (fun σ4 H locs h hP hD hS => ?_)
          refine lv_iconst (v := (1 : Int32)) hx hb nD_M_endTake_39 (by decide) ?_
          exact mw_z hx hb hr hlocks rfl ⟨σ4, rfl, h⟩ hP hK hD hS nD_M_endTake_40
        · have h := h.2 hc
          refine lv_iconst (v := (0 : Int32)) hx hb nD_M_endTake_30 (by decide) ?_
          exact mw_z hx hb hr hlocks rfl ⟨σ1, rfl, h⟩ hP hK hD hS nD_M_endTake_31
set_option maxHeartbeats 4000000 in
set_option maxRecDepth 100000 in
theorem c_M_giveUp (l : Launch) (D : va_G) (tc : Nat → ClassId) (a : Nat → Nat) (x1 : Int32) (σ : zS) (post : Int32 → zS → Prop) (h : j_M_giveUp x1 σ post) : mWi l nM_M_giveUp nC_M_giveUp 3 (some .boolean) ({ frames := 6, cells := 0, slots := 0, locals := 134 } : Room) D (ztM tc) [.ref (a 0), .int x1] (zM a tc σ) (zQi (zM a tc) post) := by
  intro sz
  refine mt_W (by decide) (Nat.le_of_ble_eq_true rfl) ?_
  intro p e s m below meth c ls hx hb hml hr hown hlocks hin hw hn hP hK hD hS hA hl hsz
  subst hsz
  have hl : lv_has ls 3 [(0, .ref (a 0)), (1, .int x1)] := hl
  unfold j_M_giveUp at h
  refine lv_aload_n hx hb nD_M_giveUp_0 rfl (lv_at hl 0 rfl) ?_
  refine lv_iload_n hx hb nD_M_giveUp_1 rfl (lv_at hl 1 rfl) ?_
  refine zC_i (va_runV (As := [.int x1]) (rest := []) ⟨hx, hb, hml, hown, hw⟩ (c_M_openOf l D tc a x1 σ _ h _) (mcV 1 hw wm_506 wm_503 wm_505 wm_20 wm_33 rfl rfl nh_M_openOf ⟨Nat.le_of_ble_eq_true rfl, Nat.le_of_ble_eq_true rfl⟩) (zp_V (ci := 5) hP hD hK hn rfl yc_0) rfl rfl hl.1 rfl (lv_room (Nat.le_of_ble_eq_true rfl)) nD_M_giveUp_2 ⟨Nat.zero_le _, Nat.zero_le _⟩) hD hS hA (fun r2 σ1 H locs h hP hD hS => ?_)
  refine lv_istore_n hx hb nD_M_giveUp_5 rfl hl (by decide) rfl (fun ls hl => ?_)
  have hl : lv_has ls 3 [(2, .int r2), (0, .ref (a 0)), (1, .int x1)] := hl
  refine lv_iload_n hx hb nD_M_giveUp_6 rfl (lv_at hl 0 rfl) ?_
  refine lv_if_ge (tgt := 12) hx hb nD_M_giveUp_7 (by decide) (fun hc => ?_) (fun hc => ?_)
  · have h := h.1 hc
    refine lv_aload_n hx hb nD_M_giveUp_12 rfl (lv_at hl 1 rfl) ?_
    refine lv_iload_n hx hb nD_M_giveUp_13 rfl (lv_at hl 0 rfl) ?_
    refine lv_iconst (v := (2 : Int32)) hx hb nD_M_giveUp_14 (by decide) ?_
    refine lv_iconst (v := (0 : Int32)) hx hb nD_M_giveUp_15 (by decide) ?_
    refine zC_v (va_runV (As := [.int r2, .int (2 : Int32), .int (0 : Int32)]) (rest := []) ⟨hx, hb, hml, hown, hw⟩ (c_M_close l D tc a r2 (2 : Int32) (0 : Int32) σ1 _ h _) (mcV 3 hw wm_522 wm_519 wm_521 wm_22 wm_33 rfl rfl nh_M_close ⟨Nat.le_of_ble_eq_true rfl, Nat.le_of_ble_eq_true rfl⟩) (zp_V (ci := 5) hP hD hK hn rfl yc_0) rfl rfl hl.1 rfl (lv_room (Nat.le_of_ble_eq_true rfl)) nD_M_giveUp_16 ⟨Nat.zero_le _, Nat.zero_le _⟩) hD hS hA (fun σ3 H locs h hP hD hS => ?_)
    refine lv_iconst (v := (1 : Int32)) hx hb nD_M_giveUp_19 (by decide) ?_
    exact mw_z hx hb hr hlocks rfl ⟨σ3, rfl, h⟩ hP hK hD hS nD_M_giveUp_20
  · have h := h.2 hc
    refine lv_iconst (v := (0 : Int32)) hx hb nD_M_giveUp_10 (by decide) ?_
    exact mw_z hx hb hr hlocks rfl ⟨σ1, rfl, h⟩ hP hK hD hS nD_M_giveUp_11
set_option maxHeartbeats 4000000 in
set_option maxRecDepth 100000 in
theorem c_M_events (l : Launch) (D : va_G) (tc : Nat → ClassId) (a : Nat → Nat) (σ : zS) (post : Int32 → zS → Prop) (h : j_M_events  σ post) : mWi l nM_M_events nC_M_events 1 (some .int) ({ frames := 0, cells := 0, slots := 0, locals := 0 } : Room) D (ztM tc) [.ref (a 0)] (zM a tc σ) (zQi (zM a tc) post) := by
  intro sz
  refine mt_W (by decide) (Nat.le_of_ble_eq_true rfl) ?_
  intro p e s m below meth c ls hx hb hml hr hown hlocks hin hw hn hP hK hD hS hA hl hsz
  subst hsz
  have hl : lv_has ls 1 [(0, .ref (a 0))] := hl
  unfold j_M_events at h
  refine lv_aload_n hx hb nD_M_events_0 rfl (lv_at hl 0 rfl) ?_
  refine va_get (D := D) (ci := 5) (v := .int (σ.1 2)) (C := nR_M) (T := nT_M) (N := 23) hx hb hw wu_M hown hK hP 0 yc_0 rfl 2 (by decide) (hw _ wm_425) (fun _ h9 => h9) rfl nD_M_events_1 ?_
  exact mw_i hx hb hr hlocks ⟨σ, rfl, h⟩ hP hK hD hS nD_M_events_4
set_option maxHeartbeats 4000000 in
set_option maxRecDepth 100000 in
theorem c_M_begun (l : Launch) (D : va_G) (tc : Nat → ClassId) (a : Nat → Nat) (σ : zS) (post : Int32 → zS → Prop) (h : j_M_begun  σ post) : mWi l nM_M_begun nC_M_begun 1 (some .int) ({ frames := 0, cells := 0, slots := 0, locals := 0 } : Room) D (ztM tc) [.ref (a 0)] (zM a tc σ) (zQi (zM a tc) post) := by
  intro sz
  refine mt_W (by decide) (Nat.le_of_ble_eq_true rfl) ?_
  intro p e s m below meth c ls hx hb hml hr hown hlocks hin hw hn hP hK hD hS hA hl hsz
  subst hsz
  have hl : lv_has ls 1 [(0, .ref (a 0))] := hl
  unfold j_M_begun at h
  refine lv_aload_n hx hb nD_M_begun_0 rfl (lv_at hl 0 rfl) ?_
  refine va_get (D := D) (ci := 5) (v := .int (σ.1 4)) (C := nR_M) (T := nT_M) (N := 23) hx hb hw wu_M hown hK hP 0 yc_0 rfl 4 (by decide) (hw _ wm_427) (fun _ h9 => h9) rfl nD_M_begun_1 ?_
  exact mw_i hx hb hr hlocks ⟨σ, rfl, h⟩ hP hK hD hS nD_M_begun_4
set_option maxHeartbeats 4000000 in
set_option maxRecDepth 100000 in
theorem c_M_fits (l : Launch) (D : va_G) (tc : Nat → ClassId) (a : Nat → Nat) (σ : zS) (post : Int32 → zS → Prop) (h : j_M_fits  σ post) : mWi l nM_M_fits nC_M_fits 1 (some .boolean) ({ frames := 0, cells := 0, slots := 0, locals := 0 } : Room) D (ztM tc) [.ref (a 0)] (zM a tc σ) (zQi (zM a tc) post) := by
  intro sz
  refine mt_W (by decide) (Nat.le_of_ble_eq_true rfl) ?_
  intro p e s m below meth c ls hx hb hml hr hown hlocks hin hw hn hP hK hD hS hA hl hsz
  subst hsz
  have hl : lv_has ls 1 [(0, .ref (a 0))] := hl
  unfold j_M_fits at h
  refine lv_aload_n hx hb nD_M_fits_0 rfl (lv_at hl 0 rfl) ?_
  refine va_get (D := D) (ci := 5) (v := .long (σ.2.2 2 0)) (C := nR_M) (T := nT_M) (N := 23) hx hb hw wu_M hown hK hP 0 yc_0 rfl 18 (by decide) (hw _ wm_441) (fun _ h9 => h9) rfl nD_M_fits_1 ?_
  refine lv_lconst (v := (0 : Int64)) hx hb nD_M_fits_4 (by decide) ?_
  refine W.lcmp hx hb nD_M_fits_5 ?_
  refine lv_if_le (tgt := 13) hx hb nD_M_fits_6 (by decide) (fun hc => ?_) (fun hc => ?_)
  · have h := h.1 hc
    refine lv_iconst (v := (0 : Int32)) hx hb nD_M_fits_13 (by decide) ?_
    exact mw_z hx hb hr hlocks rfl ⟨σ, rfl, h⟩ hP hK hD hS nD_M_fits_14
  · have h := h.2 hc
    refine lv_iconst (v := (1 : Int32)) hx hb nD_M_fits_9 (by decide) ?_
    refine lv_goto (tgt := 14) hx hb nD_M_fits_10 (by decide) ?_
    exact mw_z hx hb hr hlocks rfl ⟨σ, rfl, h⟩ hP hK hD hS nD_M_fits_14
set_option maxHeartbeats 4000000 in
set_option maxRecDepth 100000 in
theorem c_M_brokenAt (l : Launch) (D : va_G) (tc : Nat → ClassId) (a : Nat → Nat) (σ : zS) (post : Int32 → zS → Prop) (h : j_M_brokenAt  σ post) : mWi l nM_M_brokenAt nC_M_brokenAt 1 (some .int) ({ frames := 0, cells := 0, slots := 0, locals := 0 } : Room) D (ztM tc) [.ref (a 0)] (zM a tc σ) (zQi (zM a tc) post) := by
  intro sz
  refine mt_W (by decide) (Nat.le_of_ble_eq_true rfl) ?_
  intro p e s m below meth c ls hx hb hml hr hown hlocks hin hw hn hP hK hD hS hA hl hsz
  subst hsz
  have hl : lv_has ls 1 [(0, .ref (a 0))] := hl
  unfold j_M_brokenAt at h
  refine lv_aload_n hx hb nD_M_brokenAt_0 rfl (lv_at hl 0 rfl) ?_
  refine va_get (D := D) (ci := 5) (v := .int (σ.1 3)) (C := nR_M) (T := nT_M) (N := 23) hx hb hw wu_M hown hK hP 0 yc_0 rfl 3 (by decide) (hw _ wm_426) (fun _ h9 => h9) rfl nD_M_brokenAt_1 ?_
  exact mw_i hx hb hr hlocks ⟨σ, rfl, h⟩ hP hK hD hS nD_M_brokenAt_4
set_option maxHeartbeats 4000000 in
set_option maxRecDepth 100000 in
theorem c_M_explanations (l : Launch) (D : va_G) (tc : Nat → ClassId) (a : Nat → Nat) (σ : zS) (post : Int64 → zS → Prop) (h : j_M_explanations  σ post) : mWl l nM_M_explanations nC_M_explanations 1 ({ frames := 0, cells := 0, slots := 0, locals := 0 } : Room) D (ztM tc) [.ref (a 0)] (zM a tc σ) (zQl (zM a tc) post) := by
  intro sz
  refine mt_W (by decide) (Nat.le_of_ble_eq_true rfl) ?_
  intro p e s m below meth c ls hx hb hml hr hown hlocks hin hw hn hP hK hD hS hA hl hsz
  subst hsz
  have hl : lv_has ls 1 [(0, .ref (a 0))] := hl
  unfold j_M_explanations at h
  refine lv_aload_n hx hb nD_M_explanations_0 rfl (lv_at hl 0 rfl) ?_
  refine va_get (D := D) (ci := 5) (v := .long (σ.2.2 2 0)) (C := nR_M) (T := nT_M) (N := 23) hx hb hw wu_M hown hK hP 0 yc_0 rfl 18 (by decide) (hw _ wm_441) (fun _ h9 => h9) rfl nD_M_explanations_1 ?_
  exact mw_l hx hb hr hlocks ⟨σ, rfl, h⟩ hP hK hD hS nD_M_explanations_4
set_option maxHeartbeats 4000000 in
set_option maxRecDepth 100000 in
theorem c_M_outcomes (l : Launch) (D : va_G) (tc : Nat → ClassId) (a : Nat → Nat) (σ : zS) (post : Int32 → zS → Prop) (h : j_M_outcomes  σ post) : mWi l nM_M_outcomes nC_M_outcomes 1 (some .int) ({ frames := 0, cells := 0, slots := 0, locals := 0 } : Room) D (ztM tc) [.ref (a 0)] (zM a tc σ) (zQi (zM a tc) post) := by
  intro sz
  refine mt_W (by decide) (Nat.le_of_ble_eq_true rfl) ?_
  intro p e s m below meth c ls hx hb hml hr hown hlocks hin hw hn hP hK hD hS hA hl hsz
  subst hsz
  have hl : lv_has ls 1 [(0, .ref (a 0))] := hl
  unfold j_M_outcomes at h
  refine lv_aload_n hx hb nD_M_outcomes_0 rfl (lv_at hl 0 rfl) ?_
  refine va_get (D := D) (ci := 5) (v := .int (σ.1 7)) (C := nR_M) (T := nT_M) (N := 23) hx hb hw wu_M hown hK hP 0 yc_0 rfl 19 (by decide) (hw _ wm_442) (fun _ h9 => h9) rfl nD_M_outcomes_1 ?_
  exact mw_i hx hb hr hlocks ⟨σ, rfl, h⟩ hP hK hD hS nD_M_outcomes_4
set_option maxHeartbeats 4000000 in
set_option maxRecDepth 100000 in
theorem wl_M_fewest_4 {l : Launch} {p : Program} {e : Env} {s : State} {m : MethodId} {args : Array Value} {below : List Frame} {meth : Method} {c : Code} {D : va_G} {tc : Nat → ClassId} {a : Nat → Nat} {w0 : va_W} (post : Int32 → zS → Prop) (K : Int32 → Int32 → zS → Prop) (hx : p.tables.exec = Jvm.exec) (hb : c.code = nC_M_fewest) (hml : c.maxLocals = 4) (hr : meth.sig.returnType = (some .int)) (hown : s.vm.findClass nM_M_fewest.cls = some m.cls) (hlocks : meth.locks = false) (hw : ∀ w ∈ wA, w.before args s = true) (hn : mN s) (hK : va_K D nCl (ztM tc) s) (hA : ∀ q, s.heap.size ≤ q → va_A w0 s.heap.size q)
    (hk : ∀ (y1 : Int32) (y2 : Int32) (σ : zS) (H : Heap) (locs : List Loc) (ls : Array Slot), K y1 y2 σ → va_P D nCl (zM a tc σ) H → va_D (va_A w0 s.heap.size) (zM a tc σ) → va_S (va_A w0 s.heap.size) s.heap H locs → lv_has ls 4 [(0, .ref (a 0)), (1, .int y1), (2, .int y2)] → W p l e ({ frames := 1, cells := 0, slots := 0, locals := 21 } : Room) s m args below meth c H locs 0 0 (MQ below (va_Qi (zQi (zM a tc) post) (mQW D (ztM tc) w0 s.heap.size) (va_A w0 s.heap.size)) args s 0 0 (va_A w0 s.heap.size)) (F0 m 39 ls [])) : ∀ q : Int32 × Int32 × zS, zLP (b_M_fewest_4 post K) q → ∀ (H : Heap) (locs : List Loc) (ls : Array Slot), va_P D nCl (zM a tc q.2.2) H → va_D (va_A w0 s.heap.size) (zM a tc q.2.2) → va_S (va_A w0 s.heap.size) s.heap H locs → lv_has ls 4 [(0, .ref (a 0)), (1, .int q.1), (2, .int q.2.1)] → W p l e ({ frames := 1, cells := 0, slots := 0, locals := 21 } : Room) s m args below meth c H locs 0 0 (MQ below (va_Qi (zQi (zM a tc) post) (mQW D (ztM tc) w0 s.heap.size) (va_A w0 s.heap.size)) args s 0 0 (va_A w0 s.heap.size)) (F0 m 4 ls []) := by
  refine zLP_walk ?_
  rintro R ⟨y1, y2, σ⟩ hR h H locs ls hP hD hS hl
  dsimp only at hP hD hl
  dsimp only [b_M_fewest_4] at h
  refine lv_iload_n hx hb nD_M_fewest_4 rfl (lv_at hl 2 rfl) ?_
  refine lv_aload_n hx hb nD_M_fewest_5 rfl (lv_at hl 0 rfl) ?_
  refine va_get (D := D) (ci := 5) (v := .int (σ.1 7)) (C := nR_M) (T := nT_M) (N := 23) hx hb hw wu_M hown hK hP 0 yc_0 rfl 19 (by decide) (hw _ wm_442) (fun _ h9 => h9) rfl nD_M_fewest_6 ?_
  refine lv_icmp_ge (tgt := 39) hx hb nD_M_fewest_9 (by decide) (fun hc => ?_) (fun hc => ?_)
  · have h := h.1 hc
    exact hk y1 y2 σ _ _ ls h hP hD hS hl
  · have h := h.2 hc
    refine lv_aload_n hx hb nD_M_fewest_12 rfl (lv_at hl 0 rfl) ?_
    refine lv_iload_n hx hb nD_M_fewest_13 rfl (lv_at hl 2 rfl) ?_
    refine zC_i (va_runV (As := [.int y2]) (rest := []) ⟨hx, hb, hml, hown, hw⟩ (c_M_sizeOf l D tc a y2 σ _ h _) (mcV 1 hw wm_562 wm_559 wm_561 wm_23 wm_33 rfl rfl nh_M_sizeOf ⟨Nat.le_of_ble_eq_true rfl, Nat.le_of_ble_eq_true rfl⟩) (zp_V (ci := 5) hP hD hK hn rfl yc_0) rfl rfl hl.1 rfl (lv_room (Nat.le_of_ble_eq_true rfl)) nD_M_fewest_14 ⟨Nat.zero_le _, Nat.zero_le _⟩) hD hS hA (fun r2 σ1 H locs h hP hD hS => ?_)
    refine lv_istore_n hx hb nD_M_fewest_17 rfl hl (by decide) rfl (fun ls hl => ?_)
    have hl : lv_has ls 4 [(3, .int r2), (0, .ref (a 0)), (1, .int y1), (2, .int y2)] := hl
    refine lv_iload_n hx hb nD_M_fewest_18 rfl (lv_at hl 2 rfl) ?_
    refine lv_if_lt (tgt := 27) hx hb nD_M_fewest_19 (by decide) (fun hc => ?_) (fun hc => ?_)
    · have h := h.1 hc
      refine lv_iload_n hx hb nD_M_fewest_27 rfl (lv_at hl 0 rfl) ?_
      refine lv_goto (tgt := 32) hx hb nD_M_fewest_28 (by decide) ?_
      refine lv_istore_n hx hb nD_M_fewest_32 rfl hl (by decide) rfl (fun ls hl => ?_)
      have hl : lv_has ls 4 [(1, .int r2), (3, .int r2), (0, .ref (a 0)), (2, .int y2)] := hl
      refine lv_iinc (k := 3) (v := y2 + 1) hx hb nD_M_fewest_33 hl rfl rfl (by decide) rfl (fun ls hl => ?_)
      have hl : lv_has ls 4 [(2, .int (y2 + 1)), (1, .int r2), (3, .int r2), (0, .ref (a 0))] := hl
      refine lv_goto (tgt := 4) hx hb nD_M_fewest_36 (by decide) ?_
      have hl := lv_sub (l' := [(0, .ref (a 0)), (1, .int r2), (2, .int (y2 + 1))]) hl [3, 1, 0] rfl
      exact hR _ h _ _ ls hP hD hS hl
    · have h := h.2 hc
      refine lv_iload_n hx hb nD_M_fewest_22 rfl (lv_at hl 0 rfl) ?_
      refine lv_iload_n hx hb nD_M_fewest_23 rfl (lv_at hl 2 rfl) ?_
      refine lv_icmp_ge (tgt := 31) hx hb nD_M_fewest_24 (by decide) (fun hc => ?_) (fun hc => ?_)
      · have h := h.1 hc
        refine lv_iload_n hx hb nD_M_fewest_31 rfl (lv_at hl 2 rfl) ?_
        refine lv_istore_n hx hb nD_M_fewest_32 rfl hl (by decide) rfl (fun ls hl => ?_)
        have hl : lv_has ls 4 [(1, .int y1), (3, .int r2), (0, .ref (a 0)), (2, .int y2)] := hl
        refine lv_iinc (k := 3) (v := y2 + 1) hx hb nD_M_fewest_33 hl rfl rfl (by decide) rfl (fun ls hl => ?_)
        have hl : lv_has ls 4 [(2, .int (y2 + 1)), (1, .int y1), (3, .int r2), (0, .ref (a 0))] := hl
        refine lv_goto (tgt := 4) hx hb nD_M_fewest_36 (by decide) ?_
        have hl := lv_sub (l' := [(0, .ref (a 0)), (1, .int y1), (2, .int (y2 + 1))]) hl [3, 1, 0] rfl
        exact hR _ h _ _ ls hP hD hS hl
      · have h := h.2 hc
        refine lv_iload_n hx hb nD_M_fewest_27 rfl (lv_at hl 0 rfl) ?_
        refine lv_goto (tgt := 32) hx hb nD_M_fewest_28 (by decide) ?_
        refine lv_istore_n hx hb nD_M_fewest_32 rfl hl (by decide) rfl (fun ls hl => ?_)
        have hl : lv_has ls 4 [(1, .int r2), (3, .int r2), (0, .ref (a 0)), (2, .int y2)] := hl
        refine lv_iinc (k := 3) (v := y2 + 1) hx hb nD_M_fewest_33 hl rfl rfl (by decide) rfl (fun ls hl => ?_)
        have hl : lv_has ls 4 [(2, .int (y2 + 1)), (1, .int r2), (3, .int r2), (0, .ref (a 0))] := hl
        refine lv_goto (tgt := 4) hx hb nD_M_fewest_36 (by decide) ?_
        have hl := lv_sub (l' := [(0, .ref (a 0)), (1, .int r2), (2, .int (y2 + 1))]) hl [3, 1, 0] rfl
        exact hR _ h _ _ ls hP hD hS hl
set_option maxHeartbeats 4000000 in
set_option maxRecDepth 100000 in
theorem c_M_fewest (l : Launch) (D : va_G) (tc : Nat → ClassId) (a : Nat → Nat) (σ : zS) (post : Int32 → zS → Prop) (h : j_M_fewest  σ post) : mWi l nM_M_fewest nC_M_fewest 4 (some .int) ({ frames := 1, cells := 0, slots := 0, locals := 21 } : Room) D (ztM tc) [.ref (a 0)] (zM a tc σ) (zQi (zM a tc) post) := by
  intro sz
  refine mt_W (by decide) (Nat.le_of_ble_eq_true rfl) ?_
  intro p e s m below meth c ls hx hb hml hr hown hlocks hin hw hn hP hK hD hS hA hl hsz
  subst hsz
  have hl : lv_has ls 4 [(0, .ref (a 0))] := hl
  unfold j_M_fewest at h
  refine lv_iconst (v := (-1 : Int32)) hx hb nD_M_fewest_0 (by decide) ?_
  refine lv_istore_n hx hb nD_M_fewest_1 rfl hl (by decide) rfl (fun ls hl => ?_)
  have hl : lv_has ls 4 [(1, .int (-1 : Int32)), (0, .ref (a 0))] := hl
  refine lv_iconst (v := (0 : Int32)) hx hb nD_M_fewest_2 (by decide) ?_
  refine lv_istore_n hx hb nD_M_fewest_3 rfl hl (by decide) rfl (fun ls hl => ?_)
  have hl : lv_has ls 4 [(2, .int (0 : Int32)), (1, .int (-1 : Int32)), (0, .ref (a 0))] := hl
  have hl := lv_sub (l' := [(0, .ref (a 0)), (1, .int (-1 : Int32)), (2, .int (0 : Int32))]) hl [2, 1, 0] rfl
  refine wl_M_fewest_4 (l := l) post _ hx hb hml hr hown hlocks hw hn hK hA (fun v3 v4 σ5 H locs ls h hP hD hS hl => ?_) ((-1 : Int32), (0 : Int32), σ) h _ _ ls hP hD hS hl
  refine lv_iload_n hx hb nD_M_fewest_39 rfl (lv_at hl 1 rfl) ?_
  exact mw_i hx hb hr hlocks ⟨σ5, rfl, h⟩ hP hK hD hS nD_M_fewest_40
set_option maxHeartbeats 4000000 in
set_option maxRecDepth 100000 in
theorem wl_M_most_4 {l : Launch} {p : Program} {e : Env} {s : State} {m : MethodId} {args : Array Value} {below : List Frame} {meth : Method} {c : Code} {D : va_G} {tc : Nat → ClassId} {a : Nat → Nat} {w0 : va_W} (post : Int32 → zS → Prop) (K : Int32 → Int32 → zS → Prop) (hx : p.tables.exec = Jvm.exec) (hb : c.code = nC_M_most) (hml : c.maxLocals = 4) (hr : meth.sig.returnType = (some .int)) (hown : s.vm.findClass nM_M_most.cls = some m.cls) (hlocks : meth.locks = false) (hw : ∀ w ∈ wA, w.before args s = true) (hn : mN s) (hK : va_K D nCl (ztM tc) s) (hA : ∀ q, s.heap.size ≤ q → va_A w0 s.heap.size q)
    (hk : ∀ (y1 : Int32) (y2 : Int32) (σ : zS) (H : Heap) (locs : List Loc) (ls : Array Slot), K y1 y2 σ → va_P D nCl (zM a tc σ) H → va_D (va_A w0 s.heap.size) (zM a tc σ) → va_S (va_A w0 s.heap.size) s.heap H locs → lv_has ls 4 [(0, .ref (a 0)), (1, .int y1), (2, .int y2)] → W p l e ({ frames := 1, cells := 0, slots := 0, locals := 21 } : Room) s m args below meth c H locs 0 0 (MQ below (va_Qi (zQi (zM a tc) post) (mQW D (ztM tc) w0 s.heap.size) (va_A w0 s.heap.size)) args s 0 0 (va_A w0 s.heap.size)) (F0 m 35 ls [])) : ∀ q : Int32 × Int32 × zS, zLP (b_M_most_4 post K) q → ∀ (H : Heap) (locs : List Loc) (ls : Array Slot), va_P D nCl (zM a tc q.2.2) H → va_D (va_A w0 s.heap.size) (zM a tc q.2.2) → va_S (va_A w0 s.heap.size) s.heap H locs → lv_has ls 4 [(0, .ref (a 0)), (1, .int q.1), (2, .int q.2.1)] → W p l e ({ frames := 1, cells := 0, slots := 0, locals := 21 } : Room) s m args below meth c H locs 0 0 (MQ below (va_Qi (zQi (zM a tc) post) (mQW D (ztM tc) w0 s.heap.size) (va_A w0 s.heap.size)) args s 0 0 (va_A w0 s.heap.size)) (F0 m 4 ls []) := by
  refine zLP_walk ?_
  rintro R ⟨y1, y2, σ⟩ hR h H locs ls hP hD hS hl
  dsimp only at hP hD hl
  dsimp only [b_M_most_4] at h
  refine lv_iload_n hx hb nD_M_most_4 rfl (lv_at hl 2 rfl) ?_
  refine lv_aload_n hx hb nD_M_most_5 rfl (lv_at hl 0 rfl) ?_
  refine va_get (D := D) (ci := 5) (v := .int (σ.1 7)) (C := nR_M) (T := nT_M) (N := 23) hx hb hw wu_M hown hK hP 0 yc_0 rfl 19 (by decide) (hw _ wm_442) (fun _ h9 => h9) rfl nD_M_most_6 ?_
  refine lv_icmp_ge (tgt := 35) hx hb nD_M_most_9 (by decide) (fun hc => ?_) (fun hc => ?_)
  · have h := h.1 hc
    exact hk y1 y2 σ _ _ ls h hP hD hS hl
  · have h := h.2 hc
    refine lv_aload_n hx hb nD_M_most_12 rfl (lv_at hl 0 rfl) ?_
    refine lv_iload_n hx hb nD_M_most_13 rfl (lv_at hl 2 rfl) ?_
    refine zC_i (va_runV (As := [.int y2]) (rest := []) ⟨hx, hb, hml, hown, hw⟩ (c_M_sizeOf l D tc a y2 σ _ h _) (mcV 1 hw wm_562 wm_559 wm_561 wm_23 wm_33 rfl rfl nh_M_sizeOf ⟨Nat.le_of_ble_eq_true rfl, Nat.le_of_ble_eq_true rfl⟩) (zp_V (ci := 5) hP hD hK hn rfl yc_0) rfl rfl hl.1 rfl (lv_room (Nat.le_of_ble_eq_true rfl)) nD_M_most_14 ⟨Nat.zero_le _, Nat.zero_le _⟩) hD hS hA (fun r2 σ1 H locs h hP hD hS => ?_)
    refine lv_istore_n hx hb nD_M_most_17 rfl hl (by decide) rfl (fun ls hl => ?_)
    have hl : lv_has ls 4 [(3, .int r2), (0, .ref (a 0)), (1, .int y1), (2, .int y2)] := hl
    refine lv_iload_n hx hb nD_M_most_18 rfl (lv_at hl 0 rfl) ?_
    refine lv_iload_n hx hb nD_M_most_19 rfl (lv_at hl 2 rfl) ?_
    refine lv_icmp_le (tgt := 27) hx hb nD_M_most_20 (by decide) (fun hc => ?_) (fun hc => ?_)
    · have h := h.1 hc
      refine lv_iload_n hx hb nD_M_most_27 rfl (lv_at hl 2 rfl) ?_
      refine lv_istore_n hx hb nD_M_most_28 rfl hl (by decide) rfl (fun ls hl => ?_)
      have hl : lv_has ls 4 [(1, .int y1), (3, .int r2), (0, .ref (a 0)), (2, .int y2)] := hl
      refine lv_iinc (k := 3) (v := y2 + 1) hx hb nD_M_most_29 hl rfl rfl (by decide) rfl (fun ls hl => ?_)
      have hl : lv_has ls 4 [(2, .int (y2 + 1)), (1, .int y1), (3, .int r2), (0, .ref (a 0))] := hl
      refine lv_goto (tgt := 4) hx hb nD_M_most_32 (by decide) ?_
      have hl := lv_sub (l' := [(0, .ref (a 0)), (1, .int y1), (2, .int (y2 + 1))]) hl [3, 1, 0] rfl
      exact hR _ h _ _ ls hP hD hS hl
    · have h := h.2 hc
      refine lv_iload_n hx hb nD_M_most_23 rfl (lv_at hl 0 rfl) ?_
      refine lv_goto (tgt := 28) hx hb nD_M_most_24 (by decide) ?_
      refine lv_istore_n hx hb nD_M_most_28 rfl hl (by decide) rfl (fun ls hl => ?_)
      have hl : lv_has ls 4 [(1, .int r2), (3, .int r2), (0, .ref (a 0)), (2, .int y2)] := hl
      refine lv_iinc (k := 3) (v := y2 + 1) hx hb nD_M_most_29 hl rfl rfl (by decide) rfl (fun ls hl => ?_)
      have hl : lv_has ls 4 [(2, .int (y2 + 1)), (1, .int r2), (3, .int r2), (0, .ref (a 0))] := hl
      refine lv_goto (tgt := 4) hx hb nD_M_most_32 (by decide) ?_
      have hl := lv_sub (l' := [(0, .ref (a 0)), (1, .int r2), (2, .int (y2 + 1))]) hl [3, 1, 0] rfl
      exact hR _ h _ _ ls hP hD hS hl
set_option maxHeartbeats 4000000 in
set_option maxRecDepth 100000 in
theorem c_M_most (l : Launch) (D : va_G) (tc : Nat → ClassId) (a : Nat → Nat) (σ : zS) (post : Int32 → zS → Prop) (h : j_M_most  σ post) : mWi l nM_M_most nC_M_most 4 (some .int) ({ frames := 1, cells := 0, slots := 0, locals := 21 } : Room) D (ztM tc) [.ref (a 0)] (zM a tc σ) (zQi (zM a tc) post) := by
  intro sz
  refine mt_W (by decide) (Nat.le_of_ble_eq_true rfl) ?_
  intro p e s m below meth c ls hx hb hml hr hown hlocks hin hw hn hP hK hD hS hA hl hsz
  subst hsz
  have hl : lv_has ls 4 [(0, .ref (a 0))] := hl
  unfold j_M_most at h
  refine lv_iconst (v := (-1 : Int32)) hx hb nD_M_most_0 (by decide) ?_
  refine lv_istore_n hx hb nD_M_most_1 rfl hl (by decide) rfl (fun ls hl => ?_)
  have hl : lv_has ls 4 [(1, .int (-1 : Int32)), (0, .ref (a 0))] := hl
  refine lv_iconst (v := (0 : Int32)) hx hb nD_M_most_2 (by decide) ?_
  refine lv_istore_n hx hb nD_M_most_3 rfl hl (by decide) rfl (fun ls hl => ?_)
  have hl : lv_has ls 4 [(2, .int (0 : Int32)), (1, .int (-1 : Int32)), (0, .ref (a 0))] := hl
  have hl := lv_sub (l' := [(0, .ref (a 0)), (1, .int (-1 : Int32)), (2, .int (0 : Int32))]) hl [2, 1, 0] rfl
  refine wl_M_most_4 (l := l) post _ hx hb hml hr hown hlocks hw hn hK hA (fun v3 v4 σ5 H locs ls h hP hD hS hl => ?_) ((-1 : Int32), (0 : Int32), σ) h _ _ ls hP hD hS hl
  refine lv_iload_n hx hb nD_M_most_35 rfl (lv_at hl 1 rfl) ?_
  exact mw_i hx hb hr hlocks ⟨σ5, rfl, h⟩ hP hK hD hS nD_M_most_36
set_option maxHeartbeats 4000000 in
set_option maxRecDepth 100000 in
theorem wl_M_mayHold_27 {l : Launch} {p : Program} {e : Env} {s : State} {m : MethodId} {args : Array Value} {below : List Frame} {meth : Method} {c : Code} {D : va_G} {tc : Nat → ClassId} {a : Nat → Nat} {w0 : va_W} (x1 : Int32) (x2 : Int32) (post : Int32 → zS → Prop) (K : Int32 → Int32 → zS → Prop) (hx : p.tables.exec = Jvm.exec) (hb : c.code = nC_M_mayHold) (hml : c.maxLocals = 5) (hr : meth.sig.returnType = (some .boolean)) (hown : s.vm.findClass nM_M_mayHold.cls = some m.cls) (hlocks : meth.locks = false) (hw : ∀ w ∈ wA, w.before args s = true) (hn : mN s) (hK : va_K D nCl (ztM tc) s) (hA : ∀ q, s.heap.size ≤ q → va_A w0 s.heap.size q)
    (hk : ∀ (y3 : Int32) (y4 : Int32) (σ : zS) (H : Heap) (locs : List Loc) (ls : Array Slot), K y3 y4 σ → va_P D nCl (zM a tc σ) H → va_D (va_A w0 s.heap.size) (zM a tc σ) → va_S (va_A w0 s.heap.size) s.heap H locs → lv_has ls 5 [(0, .ref (a 0)), (1, .int x1), (2, .int x2), (3, .int y3), (4, .int y4)] → W p l e ({ frames := 1, cells := 0, slots := 0, locals := 21 } : Room) s m args below meth c H locs 0 0 (MQ below (va_Qi (zQi (zM a tc) post) (mQW D (ztM tc) w0 s.heap.size) (va_A w0 s.heap.size)) args s 0 0 (va_A w0 s.heap.size)) (F0 m 85 ls [])) : ∀ q : Int32 × Int32 × zS, zLP (b_M_mayHold_27 x1 x2 post K) q → ∀ (H : Heap) (locs : List Loc) (ls : Array Slot), va_P D nCl (zM a tc q.2.2) H → va_D (va_A w0 s.heap.size) (zM a tc q.2.2) → va_S (va_A w0 s.heap.size) s.heap H locs → lv_has ls 5 [(0, .ref (a 0)), (1, .int x1), (2, .int x2), (3, .int q.1), (4, .int q.2.1)] → W p l e ({ frames := 1, cells := 0, slots := 0, locals := 21 } : Room) s m args below meth c H locs 0 0 (MQ below (va_Qi (zQi (zM a tc) post) (mQW D (ztM tc) w0 s.heap.size) (va_A w0 s.heap.size)) args s 0 0 (va_A w0 s.heap.size)) (F0 m 27 ls []) := by
  refine zLP_walk ?_
  rintro R ⟨y3, y4, σ⟩ hR h H locs ls hP hD hS hl
  dsimp only at hP hD hl
  dsimp only [b_M_mayHold_27] at h
  refine lv_iload hx hb nD_M_mayHold_27 (lv_at hl 4 rfl) ?_
  refine lv_aload_n hx hb nD_M_mayHold_29 rfl (lv_at hl 0 rfl) ?_
  refine va_get (D := D) (ci := 5) (v := .int (σ.1 7)) (C := nR_M) (T := nT_M) (N := 23) hx hb hw wu_M hown hK hP 0 yc_0 rfl 19 (by decide) (hw _ wm_442) (fun _ h9 => h9) rfl nD_M_mayHold_30 ?_
  refine lv_icmp_ge (tgt := 85) hx hb nD_M_mayHold_33 (by decide) (fun hc => ?_) (fun hc => ?_)
  · have h := h.1 hc
    exact hk y3 y4 σ _ _ ls h hP hD hS hl
  · have h := h.2 hc
    refine lv_iload_n hx hb nD_M_mayHold_36 rfl (lv_at hl 3 rfl) ?_
    refine lv_if_ne (tgt := 73) hx hb nD_M_mayHold_37 (by decide) (fun hc => ?_) (fun hc => ?_)
    · have h := h.2 hc
      refine lv_iconst (v := (1 : Int32)) hx hb nD_M_mayHold_73 (by decide) ?_
      refine lv_goto (tgt := 78) hx hb nD_M_mayHold_74 (by decide) ?_
      refine lv_istore_n hx hb nD_M_mayHold_78 rfl hl (by decide) rfl (fun ls hl => ?_)
      have hl : lv_has ls 5 [(3, .int (1 : Int32)), (0, .ref (a 0)), (1, .int x1), (2, .int x2), (4, .int y4)] := hl
      refine lv_iinc (k := 4) (v := y4 + 1) hx hb nD_M_mayHold_79 hl rfl rfl (by decide) rfl (fun ls hl => ?_)
      have hl : lv_has ls 5 [(4, .int (y4 + 1)), (3, .int (1 : Int32)), (0, .ref (a 0)), (1, .int x1), (2, .int x2)] := hl
      refine lv_goto (tgt := 27) hx hb nD_M_mayHold_82 (by decide) ?_
      have hl := lv_sub (l' := [(0, .ref (a 0)), (1, .int x1), (2, .int x2), (3, .int (1 : Int32)), (4, .int (y4 + 1))]) hl [2, 3, 4, 1, 0] rfl
      exact hR _ h _ _ ls hP hD hS hl
    · have h := h.1 hc
      refine lv_iload_n hx hb nD_M_mayHold_40 rfl (lv_at hl 1 rfl) ?_
      refine lv_aload_n hx hb nD_M_mayHold_41 rfl (lv_at hl 0 rfl) ?_
      refine lv_iload hx hb nD_M_mayHold_42 (lv_at hl 4 rfl) ?_
      refine zC_i (va_runV (As := [.int y4]) (rest := [.int x1]) ⟨hx, hb, hml, hown, hw⟩ (c_M_sizeOf l D tc a y4 σ _ h _) (mcV 1 hw wm_562 wm_559 wm_561 wm_23 wm_33 rfl rfl nh_M_sizeOf ⟨Nat.le_of_ble_eq_true rfl, Nat.le_of_ble_eq_true rfl⟩) (zp_V (ci := 5) hP hD hK hn rfl yc_0) rfl rfl hl.1 rfl (lv_room (Nat.le_of_ble_eq_true rfl)) nD_M_mayHold_44 ⟨Nat.zero_le _, Nat.zero_le _⟩) hD hS hA (fun r2 σ1 H locs h hP hD hS => ?_)
      refine lv_icmp_ge (tgt := 77) hx hb nD_M_mayHold_47 (by decide) (fun hc => ?_) (fun hc => ?_)
      · have h := h.1 hc
        refine lv_iconst (v := (0 : Int32)) hx hb nD_M_mayHold_77 (by decide) ?_
        refine lv_istore_n hx hb nD_M_mayHold_78 rfl hl (by decide) rfl (fun ls hl => ?_)
        have hl : lv_has ls 5 [(3, .int (0 : Int32)), (0, .ref (a 0)), (1, .int x1), (2, .int x2), (4, .int y4)] := hl
        refine lv_iinc (k := 4) (v := y4 + 1) hx hb nD_M_mayHold_79 hl rfl rfl (by decide) rfl (fun ls hl => ?_)
        have hl : lv_has ls 5 [(4, .int (y4 + 1)), (3, .int (0 : Int32)), (0, .ref (a 0)), (1, .int x1), (2, .int x2)] := hl
        refine lv_goto (tgt := 27) hx hb nD_M_mayHold_82 (by decide) ?_
        have hl := lv_sub (l' := [(0, .ref (a 0)), (1, .int x1), (2, .int x2), (3, .int (0 : Int32)), (4, .int (y4 + 1))]) hl [2, 3, 4, 1, 0] rfl
        exact hR _ h _ _ ls hP hD hS hl
      · have h := h.2 hc
        refine lv_aload_n hx hb nD_M_mayHold_50 rfl (lv_at hl 0 rfl) ?_
        refine va_get (D := D) (ci := 5) (v := .ref (a 12)) (C := nR_M) (T := nT_M) (N := 23) hx hb hw wu_M hown hK hP 0 yc_0 rfl 20 (by decide) (hw _ wm_443) (fun _ h9 => h9) rfl nD_M_mayHold_51 ?_
        refine lv_iload hx hb nD_M_mayHold_54 (lv_at hl 4 rfl) ?_
        obtain ⟨hi3, h⟩ := h
        refine va_lald (D := D) hx hb hK hP 12 11 yc_12 rfl hi3 nD_M_mayHold_56 ?_
        refine lv_iconst (v := (4 : Int32)) hx hb nD_M_mayHold_57 (by decide) ?_
        refine lv_iconst (v := (4 : Int32)) hx hb nD_M_mayHold_58 (by decide) ?_
        refine lv_iload_n hx hb nD_M_mayHold_59 rfl (lv_at hl 1 rfl) ?_
        refine lv_imul hx hb nD_M_mayHold_60 ?_
        refine lv_iadd hx hb nD_M_mayHold_61 ?_
        refine lv_lshr (v := (σ1.2.2 0 y4.toNatClampNeg) >>> (((4 : Int32) + ((4 : Int32) * x1)).toInt64 &&& 63)) hx hb nD_M_mayHold_62 rfl ?_
        refine lv_ldc2 (v := (15 : Int64)) hx hb hown (hw _ wm_563) nD_M_mayHold_63 ?_
        refine lv_land hx hb nD_M_mayHold_66 ?_
        refine lv_iload_n hx hb nD_M_mayHold_67 rfl (lv_at hl 2 rfl) ?_
        refine lv_i2l (v := x2.toInt64) hx hb nD_M_mayHold_68 rfl ?_
        refine W.lcmp hx hb nD_M_mayHold_69 ?_
        refine lv_if_ne (tgt := 77) hx hb nD_M_mayHold_70 (by decide) (fun hc => ?_) (fun hc => ?_)
        · have h := h.2 hc
          refine lv_iconst (v := (0 : Int32)) hx hb nD_M_mayHold_77 (by decide) ?_
          refine lv_istore_n hx hb nD_M_mayHold_78 rfl hl (by decide) rfl (fun ls hl => ?_)
          have hl : lv_has ls 5 [(3, .int (0 : Int32)), (0, .ref (a 0)), (1, .int x1), (2, .int x2), (4, .int y4)] := hl
          refine lv_iinc (k := 4) (v := y4 + 1) hx hb nD_M_mayHold_79 hl rfl rfl (by decide) rfl (fun ls hl => ?_)
          have hl : lv_has ls 5 [(4, .int (y4 + 1)), (3, .int (0 : Int32)), (0, .ref (a 0)), (1, .int x1), (2, .int x2)] := hl
          refine lv_goto (tgt := 27) hx hb nD_M_mayHold_82 (by decide) ?_
          have hl := lv_sub (l' := [(0, .ref (a 0)), (1, .int x1), (2, .int x2), (3, .int (0 : Int32)), (4, .int (y4 + 1))]) hl [2, 3, 4, 1, 0] rfl
          exact hR _ h _ _ ls hP hD hS hl
        · have h := h.1 hc
          refine lv_iconst (v := (1 : Int32)) hx hb nD_M_mayHold_73 (by decide) ?_
          refine lv_goto (tgt := 78) hx hb nD_M_mayHold_74 (by decide) ?_
          refine lv_istore_n hx hb nD_M_mayHold_78 rfl hl (by decide) rfl (fun ls hl => ?_)
          have hl : lv_has ls 5 [(3, .int (1 : Int32)), (0, .ref (a 0)), (1, .int x1), (2, .int x2), (4, .int y4)] := hl
          refine lv_iinc (k := 4) (v := y4 + 1) hx hb nD_M_mayHold_79 hl rfl rfl (by decide) rfl (fun ls hl => ?_)
          have hl : lv_has ls 5 [(4, .int (y4 + 1)), (3, .int (1 : Int32)), (0, .ref (a 0)), (1, .int x1), (2, .int x2)] := hl
          refine lv_goto (tgt := 27) hx hb nD_M_mayHold_82 (by decide) ?_
          have hl := lv_sub (l' := [(0, .ref (a 0)), (1, .int x1), (2, .int x2), (3, .int (1 : Int32)), (4, .int (y4 + 1))]) hl [2, 3, 4, 1, 0] rfl
          exact hR _ h _ _ ls hP hD hS hl
set_option maxHeartbeats 4000000 in
set_option maxRecDepth 100000 in
theorem c_M_mayHold (l : Launch) (D : va_G) (tc : Nat → ClassId) (a : Nat → Nat) (x1 : Int32) (x2 : Int32) (σ : zS) (post : Int32 → zS → Prop) (h : j_M_mayHold x1 x2 σ post) : mWi l nM_M_mayHold nC_M_mayHold 5 (some .boolean) ({ frames := 1, cells := 0, slots := 0, locals := 21 } : Room) D (ztM tc) [.ref (a 0), .int x1, .int x2] (zM a tc σ) (zQi (zM a tc) post) := by
  intro sz
  refine mt_W (by decide) (Nat.le_of_ble_eq_true rfl) ?_
  intro p e s m below meth c ls hx hb hml hr hown hlocks hin hw hn hP hK hD hS hA hl hsz
  subst hsz
  have hl : lv_has ls 5 [(0, .ref (a 0)), (1, .int x1), (2, .int x2)] := hl
  unfold j_M_mayHold at h
  refine lv_iload_n hx hb nD_M_mayHold_0 rfl (lv_at hl 1 rfl) ?_
  refine lv_if_lt (tgt := 20) hx hb nD_M_mayHold_1 (by decide) (fun hc => ?_) (fun hc => ?_)
  · have h := h.1 hc
    refine lv_iconst (v := (0 : Int32)) hx hb nD_M_mayHold_20 (by decide) ?_
    exact mw_z hx hb hr hlocks rfl ⟨σ, rfl, h⟩ hP hK hD hS nD_M_mayHold_21
  · have h := h.2 hc
    refine lv_iload_n hx hb nD_M_mayHold_4 rfl (lv_at hl 1 rfl) ?_
    refine lv_bipush (v := (7 : Int32)) hx hb nD_M_mayHold_5 (by decide) ?_
    refine lv_icmp_gt (tgt := 20) hx hb nD_M_mayHold_7 (by decide) (fun hc => ?_) (fun hc => ?_)
    · have h := h.1 hc
      refine lv_iconst (v := (0 : Int32)) hx hb nD_M_mayHold_20 (by decide) ?_
      exact mw_z hx hb hr hlocks rfl ⟨σ, rfl, h⟩ hP hK hD hS nD_M_mayHold_21
    · have h := h.2 hc
      refine lv_iload_n hx hb nD_M_mayHold_10 rfl (lv_at hl 2 rfl) ?_
      refine lv_if_lt (tgt := 20) hx hb nD_M_mayHold_11 (by decide) (fun hc => ?_) (fun hc => ?_)
      · have h := h.1 hc
        refine lv_iconst (v := (0 : Int32)) hx hb nD_M_mayHold_20 (by decide) ?_
        exact mw_z hx hb hr hlocks rfl ⟨σ, rfl, h⟩ hP hK hD hS nD_M_mayHold_21
      · have h := h.2 hc
        refine lv_iload_n hx hb nD_M_mayHold_14 rfl (lv_at hl 2 rfl) ?_
        refine lv_bipush (v := (15 : Int32)) hx hb nD_M_mayHold_15 (by decide) ?_
        refine lv_icmp_le (tgt := 22) hx hb nD_M_mayHold_17 (by decide) (fun hc => ?_) (fun hc => ?_)
        · have h := h.1 hc
          refine lv_iconst (v := (0 : Int32)) hx hb nD_M_mayHold_22 (by decide) ?_
          refine lv_istore_n hx hb nD_M_mayHold_23 rfl hl (by decide) rfl (fun ls hl => ?_)
          have hl : lv_has ls 5 [(3, .int (0 : Int32)), (0, .ref (a 0)), (1, .int x1), (2, .int x2)] := hl
          refine lv_iconst (v := (0 : Int32)) hx hb nD_M_mayHold_24 (by decide) ?_
          refine lv_istore hx hb nD_M_mayHold_25 hl (by decide) rfl (fun ls hl => ?_)
          have hl : lv_has ls 5 [(4, .int (0 : Int32)), (3, .int (0 : Int32)), (0, .ref (a 0)), (1, .int x1), (2, .int x2)] := hl
          have hl := lv_sub (l' := [(0, .ref (a 0)), (1, .int x1), (2, .int x2), (3, .int (0 : Int32)), (4, .int (0 : Int32))]) hl [2, 3, 4, 1, 0] rfl
          refine wl_M_mayHold_27 (l := l) x1 x2 post _ hx hb hml hr hown hlocks hw hn hK hA (fun v4 v5 σ6 H locs ls h hP hD hS hl => ?_) ((0 : Int32), (0 : Int32), σ) h _ _ ls hP hD hS hl
          refine lv_iload_n hx hb nD_M_mayHold_85 rfl (lv_at hl 3 rfl) ?_
          exact mw_z hx hb hr hlocks h.1 ⟨σ6, rfl, h.2⟩ hP hK hD hS nD_M_mayHold_86
        · have h := h.2 hc
          refine lv_iconst (v := (0 : Int32)) hx hb nD_M_mayHold_20 (by decide) ?_
          exact mw_z hx hb hr hlocks rfl ⟨σ, rfl, h⟩ hP hK hD hS nD_M_mayHold_21
set_option maxHeartbeats 4000000 in
set_option maxRecDepth 100000 in
theorem c_M_certain (l : Launch) (D : va_G) (tc : Nat → ClassId) (a : Nat → Nat) (x1 : Int32) (σ : zS) (post : Int32 → zS → Prop) (h : j_M_certain x1 σ post) : mWi l nM_M_certain nC_M_certain 2 (some .boolean) ({ frames := 1, cells := 0, slots := 0, locals := 23 } : Room) D (ztM tc) [.ref (a 0), .int x1] (zM a tc σ) (zQi (zM a tc) post) := by
  intro sz
  refine mt_W (by decide) (Nat.le_of_ble_eq_true rfl) ?_
  intro p e s m below meth c ls hx hb hml hr hown hlocks hin hw hn hP hK hD hS hA hl hsz
  subst hsz
  have hl : lv_has ls 2 [(0, .ref (a 0)), (1, .int x1)] := hl
  unfold j_M_certain at h
  refine lv_aload_n hx hb nD_M_certain_0 rfl (lv_at hl 0 rfl) ?_
  refine lv_iload_n hx hb nD_M_certain_1 rfl (lv_at hl 1 rfl) ?_
  refine zC_i (va_runV (As := [.int x1]) (rest := []) ⟨hx, hb, hml, hown, hw⟩ (c_M_openOf l D tc a x1 σ _ h _) (mcV 1 hw wm_506 wm_503 wm_505 wm_20 wm_33 rfl rfl nh_M_openOf ⟨Nat.le_of_ble_eq_true rfl, Nat.le_of_ble_eq_true rfl⟩) (zp_V (ci := 5) hP hD hK hn rfl yc_0) rfl rfl hl.1 rfl (lv_room (Nat.le_of_ble_eq_true rfl)) nD_M_certain_2 ⟨Nat.zero_le _, Nat.zero_le _⟩) hD hS hA (fun r2 σ1 H locs h hP hD hS => ?_)
  refine lv_if_lt (tgt := 35) hx hb nD_M_certain_5 (by decide) (fun hc => ?_) (fun hc => ?_)
  · have h := h.1 hc
    refine lv_iconst (v := (0 : Int32)) hx hb nD_M_certain_35 (by decide) ?_
    exact mw_z hx hb hr hlocks rfl ⟨σ1, rfl, h⟩ hP hK hD hS nD_M_certain_36
  · have h := h.2 hc
    refine lv_aload_n hx hb nD_M_certain_8 rfl (lv_at hl 0 rfl) ?_
    refine va_get (D := D) (ci := 5) (v := .long (σ1.2.2 2 0)) (C := nR_M) (T := nT_M) (N := 23) hx hb hw wu_M hown hK hP 0 yc_0 rfl 18 (by decide) (hw _ wm_441) (fun _ h9 => h9) rfl nD_M_certain_9 ?_
    refine lv_lconst (v := (0 : Int64)) hx hb nD_M_certain_12 (by decide) ?_
    refine W.lcmp hx hb nD_M_certain_13 ?_
    refine lv_if_le (tgt := 35) hx hb nD_M_certain_14 (by decide) (fun hc => ?_) (fun hc => ?_)
    · have h := h.1 hc
      refine lv_iconst (v := (0 : Int32)) hx hb nD_M_certain_35 (by decide) ?_
      exact mw_z hx hb hr hlocks rfl ⟨σ1, rfl, h⟩ hP hK hD hS nD_M_certain_36
    · have h := h.2 hc
      refine lv_aload_n hx hb nD_M_certain_17 rfl (lv_at hl 0 rfl) ?_
      refine va_get (D := D) (ci := 5) (v := .ref (a 13)) (C := nR_M) (T := nT_M) (N := 23) hx hb hw wu_M hown hK hP 0 yc_0 rfl 21 (by decide) (hw _ wm_444) (fun _ h9 => h9) rfl nD_M_certain_18 ?_
      refine lv_iload_n hx hb nD_M_certain_21 rfl (lv_at hl 1 rfl) ?_
      obtain ⟨hi3, h⟩ := h
      refine va_lald (D := D) hx hb hK hP 13 12 yc_13 rfl hi3 nD_M_certain_22 ?_
      refine lv_aload_n hx hb nD_M_certain_23 rfl (lv_at hl 0 rfl) ?_
      refine va_get (D := D) (ci := 5) (v := .long (σ1.2.2 2 0)) (C := nR_M) (T := nT_M) (N := 23) hx hb hw wu_M hown hK hP 0 yc_0 rfl 18 (by decide) (hw _ wm_441) (fun _ h9 => h9) rfl nD_M_certain_24 ?_
      refine W.lcmp hx hb nD_M_certain_27 ?_
      refine lv_if_ne (tgt := 35) hx hb nD_M_certain_28 (by decide) (fun hc => ?_) (fun hc => ?_)
      · have h := h.2 hc
        refine lv_iconst (v := (0 : Int32)) hx hb nD_M_certain_35 (by decide) ?_
        exact mw_z hx hb hr hlocks rfl ⟨σ1, rfl, h⟩ hP hK hD hS nD_M_certain_36
      · have h := h.1 hc
        refine lv_iconst (v := (1 : Int32)) hx hb nD_M_certain_31 (by decide) ?_
        refine lv_goto (tgt := 36) hx hb nD_M_certain_32 (by decide) ?_
        exact mw_z hx hb hr hlocks rfl ⟨σ1, rfl, h⟩ hP hK hD hS nD_M_certain_36
set_option maxHeartbeats 4000000 in
set_option maxRecDepth 100000 in
theorem wl_M_answers_14 {l : Launch} {p : Program} {e : Env} {s : State} {m : MethodId} {args : Array Value} {below : List Frame} {meth : Method} {c : Code} {D : va_G} {tc : Nat → ClassId} {a : Nat → Nat} {w0 : va_W} (x1 : Int32) (post : Int32 → zS → Prop) (K : Int32 → Int32 → zS → Prop) (hx : p.tables.exec = Jvm.exec) (hb : c.code = nC_M_answers) (hml : c.maxLocals = 4) (hr : meth.sig.returnType = (some .int)) (hown : s.vm.findClass nM_M_answers.cls = some m.cls) (hlocks : meth.locks = false) (hw : ∀ w ∈ wA, w.before args s = true) (hn : mN s) (hK : va_K D nCl (ztM tc) s) (hA : ∀ q, s.heap.size ≤ q → va_A w0 s.heap.size q)
    (hk : ∀ (y2 : Int32) (y3 : Int32) (σ : zS) (H : Heap) (locs : List Loc) (ls : Array Slot), K y2 y3 σ → va_P D nCl (zM a tc σ) H → va_D (va_A w0 s.heap.size) (zM a tc σ) → va_S (va_A w0 s.heap.size) s.heap H locs → lv_has ls 4 [(0, .ref (a 0)), (1, .int x1), (2, .int y2), (3, .int y3)] → W p l e ({ frames := 1, cells := 0, slots := 0, locals := 23 } : Room) s m args below meth c H locs 0 0 (MQ below (va_Qi (zQi (zM a tc) post) (mQW D (ztM tc) w0 s.heap.size) (va_A w0 s.heap.size)) args s 0 0 (va_A w0 s.heap.size)) (F0 m 39 ls [])) : ∀ q : Int32 × Int32 × zS, zLP (b_M_answers_14 x1 post K) q → ∀ (H : Heap) (locs : List Loc) (ls : Array Slot), va_P D nCl (zM a tc q.2.2) H → va_D (va_A w0 s.heap.size) (zM a tc q.2.2) → va_S (va_A w0 s.heap.size) s.heap H locs → lv_has ls 4 [(0, .ref (a 0)), (1, .int x1), (2, .int q.1), (3, .int q.2.1)] → W p l e ({ frames := 1, cells := 0, slots := 0, locals := 23 } : Room) s m args below meth c H locs 0 0 (MQ below (va_Qi (zQi (zM a tc) post) (mQW D (ztM tc) w0 s.heap.size) (va_A w0 s.heap.size)) args s 0 0 (va_A w0 s.heap.size)) (F0 m 14 ls []) := by
  refine zLP_walk ?_
  rintro R ⟨y2, y3, σ⟩ hR h H locs ls hP hD hS hl
  dsimp only at hP hD hl
  dsimp only [b_M_answers_14] at h
  refine lv_iload_n hx hb nD_M_answers_14 rfl (lv_at hl 3 rfl) ?_
  refine lv_bipush (v := (17 : Int32)) hx hb nD_M_answers_15 (by decide) ?_
  refine lv_icmp_ge (tgt := 39) hx hb nD_M_answers_17 (by decide) (fun hc => ?_) (fun hc => ?_)
  · have h := h.1 hc
    exact hk y2 y3 σ _ _ ls h hP hD hS hl
  · have h := h.2 hc
    refine lv_iload_n hx hb nD_M_answers_20 rfl (lv_at hl 2 rfl) ?_
    refine lv_aload_n hx hb nD_M_answers_21 rfl (lv_at hl 0 rfl) ?_
    refine va_get (D := D) (ci := 5) (v := .ref (a 14)) (C := nR_M) (T := nT_M) (N := 23) hx hb hw wu_M hown hK hP 0 yc_0 rfl 22 (by decide) (hw _ wm_445) (fun _ h9 => h9) rfl nD_M_answers_22 ?_
    refine lv_iload_n hx hb nD_M_answers_25 rfl (lv_at hl 1 rfl) ?_
    obtain ⟨hi3, h⟩ := h
    refine va_iald (D := D) hx hb hK hP 14 13 yc_14 rfl hi3 nD_M_answers_26 ?_
    refine lv_iload_n hx hb nD_M_answers_27 rfl (lv_at hl 3 rfl) ?_
    refine lv_ishr hx hb nD_M_answers_28 ?_
    refine lv_iconst (v := (1 : Int32)) hx hb nD_M_answers_29 (by decide) ?_
    refine lv_iand hx hb nD_M_answers_30 ?_
    refine lv_iadd hx hb nD_M_answers_31 ?_
    refine lv_topi (fun v4 e_v4 => ?_)
    have h := h v4 e_v4
    clear e_v4
    refine lv_istore_n hx hb nD_M_answers_32 rfl hl (by decide) rfl (fun ls hl => ?_)
    have hl : lv_has ls 4 [(2, .int v4), (0, .ref (a 0)), (1, .int x1), (3, .int y3)] := hl
    refine lv_iinc (k := 3) (v := y3 + 1) hx hb nD_M_answers_33 hl rfl rfl (by decide) rfl (fun ls hl => ?_)
    have hl : lv_has ls 4 [(3, .int (y3 + 1)), (2, .int v4), (0, .ref (a 0)), (1, .int x1)] := hl
    refine lv_goto (tgt := 14) hx hb nD_M_answers_36 (by decide) ?_
    have hl := lv_sub (l' := [(0, .ref (a 0)), (1, .int x1), (2, .int v4), (3, .int (y3 + 1))]) hl [2, 3, 1, 0] rfl
    exact hR _ h _ _ ls hP hD hS hl
set_option maxHeartbeats 4000000 in
set_option maxRecDepth 100000 in
theorem c_M_answers (l : Launch) (D : va_G) (tc : Nat → ClassId) (a : Nat → Nat) (x1 : Int32) (σ : zS) (post : Int32 → zS → Prop) (h : j_M_answers x1 σ post) : mWi l nM_M_answers nC_M_answers 4 (some .int) ({ frames := 1, cells := 0, slots := 0, locals := 23 } : Room) D (ztM tc) [.ref (a 0), .int x1] (zM a tc σ) (zQi (zM a tc) post) := by
  intro sz
  refine mt_W (by decide) (Nat.le_of_ble_eq_true rfl) ?_
  intro p e s m below meth c ls hx hb hml hr hown hlocks hin hw hn hP hK hD hS hA hl hsz
  subst hsz
  have hl : lv_has ls 4 [(0, .ref (a 0)), (1, .int x1)] := hl
  unfold j_M_answers at h
  refine lv_aload_n hx hb nD_M_answers_0 rfl (lv_at hl 0 rfl) ?_
  refine lv_iload_n hx hb nD_M_answers_1 rfl (lv_at hl 1 rfl) ?_
  refine zC_i (va_runV (As := [.int x1]) (rest := []) ⟨hx, hb, hml, hown, hw⟩ (c_M_openOf l D tc a x1 σ _ h _) (mcV 1 hw wm_506 wm_503 wm_505 wm_20 wm_33 rfl rfl nh_M_openOf ⟨Nat.le_of_ble_eq_true rfl, Nat.le_of_ble_eq_true rfl⟩) (zp_V (ci := 5) hP hD hK hn rfl yc_0) rfl rfl hl.1 rfl (lv_room (Nat.le_of_ble_eq_true rfl)) nD_M_answers_2 ⟨Nat.zero_le _, Nat.zero_le _⟩) hD hS hA (fun r2 σ1 H locs h hP hD hS => ?_)
  refine lv_if_ge (tgt := 10) hx hb nD_M_answers_5 (by decide) (fun hc => ?_) (fun hc => ?_)
  · have h := h.1 hc
    refine lv_iconst (v := (0 : Int32)) hx hb nD_M_answers_10 (by decide) ?_
    refine lv_istore_n hx hb nD_M_answers_11 rfl hl (by decide) rfl (fun ls hl => ?_)
    have hl : lv_has ls 4 [(2, .int (0 : Int32)), (0, .ref (a 0)), (1, .int x1)] := hl
    refine lv_iconst (v := (0 : Int32)) hx hb nD_M_answers_12 (by decide) ?_
    refine lv_istore_n hx hb nD_M_answers_13 rfl hl (by decide) rfl (fun ls hl => ?_)
    have hl : lv_has ls 4 [(3, .int (0 : Int32)), (2, .int (0 : Int32)), (0, .ref (a 0)), (1, .int x1)] := hl
    have hl := lv_sub (l' := [(0, .ref (a 0)), (1, .int x1), (2, .int (0 : Int32)), (3, .int (0 : Int32))]) hl [2, 3, 1, 0] rfl
    refine wl_M_answers_14 (l := l) x1 post _ hx hb hml hr hown hlocks hw hn hK hA (fun v5 v6 σ7 H locs ls h hP hD hS hl => ?_) ((0 : Int32), (0 : Int32), σ1) h _ _ ls hP hD hS hl
    refine lv_iload_n hx hb nD_M_answers_39 rfl (lv_at hl 2 rfl) ?_
    exact mw_i hx hb hr hlocks ⟨σ7, rfl, h⟩ hP hK hD hS nD_M_answers_40
  · have h := h.2 hc
    refine lv_iconst (v := (0 : Int32)) hx hb nD_M_answers_8 (by decide) ?_
    exact mw_i hx hb hr hlocks ⟨σ1, rfl, h⟩ hP hK hD hS nD_M_answers_9
end
section
/-! ===== Int32 by its bits: bt x i ===== -/
def bt (x : Int32) (i : Nat) : Bool := x.toBitVec.getLsbD i
theorem b_ext {x y : Int32} (h : ∀ i, i < 32 → bt x i = bt y i) : x = y := Int32.toBitVec_inj.mp (BitVec.eq_of_getLsbD_eq (fun i hi => h i hi))
theorem b_or (x y : Int32) (i : Nat) : bt (x ||| y) i = (bt x i || bt y i) := by unfold bt; rw [Int32.toBitVec_or, BitVec.getLsbD_or]
theorem b_and (x y : Int32) (i : Nat) : bt (x &&& y) i = (bt x i && bt y i) := by unfold bt; rw [Int32.toBitVec_and, BitVec.getLsbD_and]
theorem b_xor (x y : Int32) (i : Nat) : bt (x ^^^ y) i = (bt x i ^^ bt y i) := by unfold bt; rw [Int32.toBitVec_xor, BitVec.getLsbD_xor]
theorem b_big {x : Int32} {i : Nat} (h : 32 ≤ i) : bt x i = false := BitVec.getLsbD_of_ge _ _ h
theorem b_255 (i : Nat) : bt 255 i = decide (i < 8) := by
  rcases Nat.lt_or_ge i 32 with h | h
  · exact (by decide +kernel : ∀ i, i < 32 → bt 255 i = decide (i < 8)) i h
  · rw [b_big h, decide_eq_false (by omega)]
theorem b_65535 (i : Nat) : bt 65535 i = decide (i < 16) := by
  rcases Nat.lt_or_ge i 32 with h | h
  · exact (by decide +kernel : ∀ i, i < 32 → bt 65535 i = decide (i < 16)) i h
  · rw [b_big h, decide_eq_false (by omega)]
theorem b_m1 : ∀ i, i < 32 → bt (-1) i = true := by decide +kernel
theorem b_0 (i : Nat) : bt 0 i = false := BitVec.getLsbD_zero
theorem s_l : ∀ n, n < 32 → ((nI n &&& 31).toBitVec.smod 32).toNat = n := by decide +kernel
theorem s_u : ∀ n, n < 32 → (((nI n).toUInt32 &&& Int32.toUInt32 31).toBitVec % 32).toNat = n := by decide +kernel
theorem b_shl (n : Nat) (hn : n < 32) (x : Int32) {i : Nat} (hi : i < 32) : bt (x <<< (nI n &&& 31)) i = (decide (n ≤ i) && bt x (i - n)) := by
  unfold bt
  rw [Int32.toBitVec_shiftLeft]
  show (x.toBitVec <<< ((nI n &&& 31).toBitVec.smod 32).toNat).getLsbD i = _
  rw [s_l n hn, BitVec.getLsbD_shiftLeft]
  rcases Nat.lt_or_ge i n with h | h
  · simp [h, Nat.not_le.mpr h]
  · simp [hi, h, Nat.not_lt.mpr h]
theorem b_ushr (n : Nat) (hn : n < 32) (x : Int32) (i : Nat) : bt ((x.toUInt32 >>> ((nI n).toUInt32 &&& Int32.toUInt32 31)).toInt32) i = bt x (n + i) := by
  show (x.toUInt32 >>> ((nI n).toUInt32 &&& Int32.toUInt32 31)).toBitVec.getLsbD i = x.toUInt32.toBitVec.getLsbD (n + i)
  rw [UInt32.toBitVec_shiftRight]
  show (x.toUInt32.toBitVec >>> (((nI n).toUInt32 &&& Int32.toUInt32 31).toBitVec % 32).toNat).getLsbD i = _
  rw [s_u n hn, BitVec.getLsbD_ushiftRight]
theorem b_sshr (n : Nat) (hn : n < 32) (x : Int32) {i : Nat} (hi : i < 32) : bt (x >>> (nI n &&& 31)) i = if n + i < 32 then bt x (n + i) else bt x 31 := by
  unfold bt
  rw [Int32.toBitVec_shiftRight]
  show (x.toBitVec.sshiftRight ((nI n &&& 31).toBitVec.smod 32).toNat).getLsbD i = _
  rw [s_l n hn, BitVec.getLsbD_sshiftRight, BitVec.msb_eq_getLsbD_last]
  simp [hi]
theorem b_shl8 (x : Int32) {i : Nat} (hi : i < 32) : bt (x <<< ((8 : Int32) &&& 31)) i = (decide (8 ≤ i) && bt x (i - 8)) := b_shl 8 (by omega) x hi
theorem b_shl16 (x : Int32) {i : Nat} (hi : i < 32) : bt (x <<< ((16 : Int32) &&& 31)) i = (decide (16 ≤ i) && bt x (i - 16)) := b_shl 16 (by omega) x hi
theorem b_shl24 (x : Int32) {i : Nat} (hi : i < 32) : bt (x <<< ((24 : Int32) &&& 31)) i = (decide (24 ≤ i) && bt x (i - 24)) := b_shl 24 (by omega) x hi
theorem b_sshr8 (x : Int32) {i : Nat} (hi : i < 32) : bt (x >>> ((8 : Int32) &&& 31)) i = if 8 + i < 32 then bt x (8 + i) else bt x 31 := b_sshr 8 (by omega) x hi
/-! ===== nI under and, xor, >>>, one bit, 65535 ===== -/
theorem nx_and (a b : Nat) : nI a &&& nI b = nI (a &&& b) := by
  apply Int32.toBitVec_inj.1
  show BitVec.ofNat 32 a &&& BitVec.ofNat 32 b = BitVec.ofNat 32 (a &&& b)
  apply BitVec.eq_of_getLsbD_eq
  intro i hi
  simp [hi]
theorem nx_xor (a b : Nat) : nI a ^^^ nI b = nI (a ^^^ b) := by
  apply Int32.toBitVec_inj.1
  show BitVec.ofNat 32 a ^^^ BitVec.ofNat 32 b = BitVec.ofNat 32 (a ^^^ b)
  apply BitVec.eq_of_getLsbD_eq
  intro i hi
  simp [hi]
theorem nx_cnt : ∀ j : Fin 32, (UInt32.ofNat j.val &&& Int32.toUInt32 31).toNat % 32 = j.val := by decide +kernel
theorem nx_ush {k j : Nat} (hk : k < 65536) (hj : j < 32) : ((nI k).toUInt32 >>> ((nI j).toUInt32 &&& Int32.toUInt32 31)).toInt32 = nI (k >>> j) := by
  have hs : k >>> j ≤ k := by
    rw [Nat.shiftRight_eq_div_pow]
    exact Nat.div_le_self _ _
  have e2 : UInt32.ofNat k >>> (UInt32.ofNat j &&& Int32.toUInt32 31) = UInt32.ofNat (k >>> j) := by
    apply UInt32.toNat_inj.1
    have h1 : (UInt32.ofNat k).toNat = k := Nat.mod_eq_of_lt (by omega)
    have h2 : (UInt32.ofNat (k >>> j)).toNat = k >>> j := Nat.mod_eq_of_lt (by omega)
    rw [UInt32.toNat_shiftRight, nx_cnt ⟨j, hj⟩, h1, h2]
  show (UInt32.ofNat k >>> (UInt32.ofNat j &&& Int32.toUInt32 31)).toInt32 = _
  rw [e2]
  rfl
theorem nx_bit {k j : Nat} (hk : k < 65536) (hj : j < 16) : (((nI k).toUInt32 >>> ((nI j).toUInt32 &&& Int32.toUInt32 31)).toInt32 &&& 1) = 0 ↔ k.testBit j = false := by
  rw [nx_ush hk (by omega)]
  show nI (k >>> j) &&& nI 1 = 0 ↔ _
  rw [nx_and, Nat.and_one_is_mod, ← nI_0, nI_eq (by omega) (by omega), Nat.testBit_eq_decide_div_mod_eq, Nat.shiftRight_eq_div_pow, decide_eq_false_iff_not]
  generalize k / 2 ^ j = z
  omega
theorem nx_mod (k : Nat) : nI k &&& 65535 = nI (k % 65536) := by
  show nI k &&& nI 65535 = _
  rw [nx_and, show (65535 : Nat) = 2 ^ 16 - 1 from rfl, Nat.and_two_pow_sub_one_eq_mod]
theorem nx_m16 {k : Nat} (h : k < 65536) : nI k &&& 65535 = nI k := by rw [nx_mod, Nat.mod_eq_of_lt h]
theorem nx_mask (x : Int32) : ∃ k, k < 65536 ∧ x &&& 65535 = nI k := by
  have e : x = nI x.toBitVec.toNat := by
    apply Int32.toBitVec_inj.1
    show x.toBitVec = BitVec.ofNat 32 x.toBitVec.toNat
    simp
  refine ⟨x.toBitVec.toNat % 65536, Nat.mod_lt _ (by omega), ?_⟩
  rw [← nx_mod, ← e]
/-! ===== lN n to 2^64: shifts, and, or, masks, one bit ===== -/
theorem wb_tb (n : Nat) : (lN n).toBitVec = BitVec.ofNat 64 n := rfl
theorem wb_inj {a b : Int64} (h : a.toBitVec = b.toBitVec) : a = b := Int64.toBitVec_inj.mp h
theorem wb_tn {n : Nat} (h : n < 2 ^ 64) : (lN n).toBitVec.toNat = n := by rw [wb_tb, BitVec.toNat_ofNat, Nat.mod_eq_of_lt h]
theorem wb_of (x : Int64) : ∃ n, n < 2 ^ 64 ∧ x = lN n := ⟨x.toBitVec.toNat, x.toBitVec.isLt, wb_inj (by rw [wb_tb]; simp)⟩
theorem wb_of32 (x : Int32) : ∃ n, n < 2 ^ 32 ∧ x = nI n := ⟨x.toBitVec.toNat, x.toBitVec.isLt, Int32.toBitVec_inj.mp (by show _ = BitVec.ofNat 32 _; simp)⟩
theorem wb_c : ∀ k, k < 64 → ((nI k).toInt64 &&& 63) = lN k := by decide +kernel
theorem wb_cu : ∀ k, k < 64 → ((nI k).toInt64.toUInt64 &&& Int64.toUInt64 63) = UInt64.ofNat k := by decide +kernel
theorem wb_sm : ∀ k, k < 64 → (BitVec.ofNat 64 k).smod 64 = BitVec.ofNat 64 k := by decide +kernel
theorem wb_pw {a b : Nat} (h : a ≤ b) : 2 ^ b = 2 ^ a * 2 ^ (b - a) := by rw [← Nat.pow_add]; congr 1; omega
theorem wb_lt2 {a b : Nat} (h : a < b) : 2 ^ a < 2 ^ b := Nat.pow_lt_pow_right (by decide) h
theorem wb_mod (n : Nat) : lN n = lN (n % 2 ^ 64) := wb_inj (by rw [wb_tb, wb_tb]; apply BitVec.eq_of_toNat_eq; rw [BitVec.toNat_ofNat, BitVec.toNat_ofNat, Nat.mod_mod])
theorem wb_shr {n k : Nat} (hn : n < 2 ^ 64) (hk : k < 64) : ((lN n).toUInt64 >>> ((nI k).toInt64.toUInt64 &&& Int64.toUInt64 63)).toInt64 = lN (n / 2 ^ k) := by
  rw [wb_cu k hk]
  apply wb_inj
  apply BitVec.eq_of_toNat_eq
  show ((lN n).toUInt64 >>> UInt64.ofNat k).toNat = (BitVec.ofNat 64 _).toNat
  have h1 : (UInt64.ofNat k).toNat = k := by
    show (BitVec.ofNat 64 k).toNat = k
    rw [BitVec.toNat_ofNat, Nat.mod_eq_of_lt (by omega)]
  have h2 : (lN n).toUInt64.toNat = n := wb_tn hn
  rw [UInt64.toNat_shiftRight, h1, h2, Nat.mod_eq_of_lt hk, Nat.shiftRight_eq_div_pow, BitVec.toNat_ofNat, Nat.mod_eq_of_lt (Nat.lt_of_le_of_lt (Nat.div_le_self _ _) hn)]
theorem wb_shl (n : Nat) {k : Nat} (hk : k < 64) : lN n <<< ((nI k).toInt64 &&& 63) = lN (n * 2 ^ k) := by
  rw [wb_c k hk]
  apply wb_inj
  rw [Int64.toBitVec_shiftLeft, wb_tb, wb_tb, wb_tb, wb_sm k hk]
  apply BitVec.eq_of_toNat_eq
  rw [BitVec.shiftLeft_eq', BitVec.toNat_shiftLeft, BitVec.toNat_ofNat, BitVec.toNat_ofNat, BitVec.toNat_ofNat, Nat.mod_eq_of_lt (show k < 2 ^ 64 by omega), Nat.shiftLeft_eq, Nat.mul_mod, Nat.mod_mod, ← Nat.mul_mod]
theorem wb_and {a b : Nat} (ha : a < 2 ^ 64) (hb : b < 2 ^ 64) : lN a &&& lN b = lN (a &&& b) := by
  apply wb_inj
  rw [Int64.toBitVec_and, wb_tb, wb_tb, wb_tb]
  apply BitVec.eq_of_toNat_eq
  rw [BitVec.toNat_and, BitVec.toNat_ofNat, BitVec.toNat_ofNat, BitVec.toNat_ofNat, Nat.mod_eq_of_lt ha, Nat.mod_eq_of_lt hb, Nat.mod_eq_of_lt (Nat.and_lt_two_pow _ hb)]
theorem wb_or {a b : Nat} (ha : a < 2 ^ 64) (hb : b < 2 ^ 64) : lN a ||| lN b = lN (a ||| b) := by
  apply wb_inj
  rw [Int64.toBitVec_or, wb_tb, wb_tb, wb_tb]
  apply BitVec.eq_of_toNat_eq
  rw [BitVec.toNat_or, BitVec.toNat_ofNat, BitVec.toNat_ofNat, BitVec.toNat_ofNat, Nat.mod_eq_of_lt ha, Nat.mod_eq_of_lt hb, Nat.mod_eq_of_lt (Nat.or_lt_two_pow ha hb)]
theorem wb_mask {n k : Nat} (hn : n < 2 ^ 64) (hk : k < 64) : lN n &&& lN (2 ^ k - 1) = lN (n % 2 ^ k) := by
  rw [wb_and hn (by have := wb_lt2 hk; omega), Nat.and_two_pow_sub_one_eq_mod]
theorem wb_a1 {n : Nat} (hn : n < 2 ^ 64) : lN n &&& 1 = lN (n % 2) := wb_mask (k := 1) hn (by decide)
theorem wb_bit {n k : Nat} (hn : n < 2 ^ 64) (hk : k < 64) : ((lN n).toUInt64 >>> ((nI k).toInt64.toUInt64 &&& Int64.toUInt64 63)).toInt64 &&& 1 = lN (n / 2 ^ k % 2) := by
  rw [wb_shr hn hk, wb_a1 (Nat.lt_of_le_of_lt (Nat.div_le_self _ _) hn)]
theorem wb_xor {q k : Nat} (hk : k < 63) (h : 2 ^ k ≤ q) (h2 : q < 2 ^ (k + 1)) : lN q ^^^ lN (2 ^ k) = lN (q - 2 ^ k) := by
  obtain ⟨r, rfl⟩ : ∃ r, q = 2 ^ k + r := ⟨q - 2 ^ k, by omega⟩
  have hr : r < 2 ^ k := by rw [Nat.pow_succ] at h2; omega
  have hx : (2 ^ k + r) ^^^ 2 ^ k = r := by
    apply Nat.eq_of_testBit_eq
    intro i
    rw [Nat.testBit_xor, Nat.testBit_two_pow]
    rcases Nat.lt_trichotomy i k with h | h | h
    · rw [Nat.testBit_two_pow_add_gt h]
      simp [show ¬ k = i by omega]
    · subst h
      rw [Nat.testBit_two_pow_add_eq]
      simp
    · have a1 : 2 ^ (k + 1) ≤ 2 ^ i := Nat.pow_le_pow_right (by decide) h
      rw [Nat.testBit_lt_two_pow (show 2 ^ k + r < 2 ^ i by omega), Nat.testBit_lt_two_pow (show r < 2 ^ i by omega)]
      simp [show ¬ k = i by omega]
  have b1 := wb_lt2 (show k + 1 < 64 by omega)
  have b2 := wb_lt2 (show k < 64 by omega)
  apply wb_inj
  rw [Int64.toBitVec_xor, wb_tb, wb_tb, wb_tb]
  apply BitVec.eq_of_toNat_eq
  rw [BitVec.toNat_xor, BitVec.toNat_ofNat, BitVec.toNat_ofNat, BitVec.toNat_ofNat, Nat.mod_eq_of_lt (by omega : 2 ^ k + r < 2 ^ 64), Nat.mod_eq_of_lt b2, hx, Nat.add_sub_cancel_left, Nat.mod_eq_of_lt (by omega)]
/-! ===== lN: masks, 'or' of parts that don't overlap is a sum ===== -/
theorem u_tn {n : Nat} (h : n < 2 ^ 64) : (UInt64.ofNat n).toNat = n := Nat.mod_eq_of_lt h
theorem g_and {a b c : Nat} (ha : a < 2 ^ 64) (hb : b < 2 ^ 64) (hc : a &&& b = c) : lN a &&& lN b = lN c := by
  subst hc
  have h : UInt64.ofNat a &&& UInt64.ofNat b = UInt64.ofNat (a &&& b) := UInt64.toNat_inj.mp (by rw [UInt64.toNat_and, u_tn ha, u_tn hb, u_tn (Nat.and_lt_two_pow a hb)])
  have h2 := congrArg UInt64.toInt64 h
  exact h2
theorem g_and1 {a : Nat} (ha : a < 2 ^ 64) : lN a &&& 1 = lN (a % 2) := g_and (b := 1) ha (by decide) (Nat.and_two_pow_sub_one_eq_mod a 1)
theorem g_mask {a s p : Nat} (hp : 2 ^ s = p) (hs : s < 64) (ha : a < 2 ^ 64) : lN a &&& lN (p - 1) = lN (a % p) := by
  subst hp
  have := Nat.pow_lt_pow_right (show 1 < 2 by decide) hs
  exact g_and ha (by omega) (Nat.and_two_pow_sub_one_eq_mod a s)
theorem g_or {k p a b : Nat} (hp : 2 ^ k = p) (ha : a < p) (h : b * p + a < 2 ^ 64) : lN (b * p) ||| lN a = lN (b * p + a) := by
  subst hp
  have h1 : b * 2 ^ k ||| a = b * 2 ^ k + a := by rw [← Nat.shiftLeft_eq, Nat.shiftLeft_add_eq_or_of_lt ha]
  have h3 : UInt64.ofNat (b * 2 ^ k) ||| UInt64.ofNat a = UInt64.ofNat (b * 2 ^ k + a) := UInt64.toNat_inj.mp (by rw [UInt64.toNat_or, u_tn (by omega), u_tn (by omega), u_tn h, h1])
  have h2 := congrArg UInt64.toInt64 h3
  exact h2
theorem g_or' {k p a b : Nat} (hp : 2 ^ k = p) (ha : a < p) (h : a + b * p < 2 ^ 64) : lN a ||| lN (b * p) = lN (a + b * p) := by
  rw [Int64.or_comm, g_or hp ha (by omega), Nat.add_comm]
theorem g_ushr {a k p : Nat} {y : UInt64} (hy : y = UInt64.ofNat k) (hk : k < 64) (hp : 2 ^ k = p) (ha : a < 2 ^ 64) : ((lN a).toUInt64 >>> y).toInt64 = lN (a / p) := by
  subst hy hp
  have h : UInt64.ofNat a >>> UInt64.ofNat k = UInt64.ofNat (a / 2 ^ k) := UInt64.toNat_inj.mp (by rw [UInt64.toNat_shiftRight, u_tn ha, u_tn (by omega), u_tn (Nat.lt_of_le_of_lt (Nat.div_le_self _ _) ha), Nat.mod_eq_of_lt hk, Nat.shiftRight_eq_div_pow])
  have h2 := congrArg UInt64.toInt64 h
  exact h2
theorem g_shl {a k p : Nat} {y : Int64} (hy : y.toBitVec.smod 64 = BitVec.ofNat 64 k) (hk : k < 64) (hp : 2 ^ k = p) (ha : a < 2 ^ 64) : lN a <<< y = lN (a * p) := by
  subst hp
  apply Int64.toBitVec_inj.mp
  rw [Int64.toBitVec_shiftLeft, hy]
  apply BitVec.eq_of_toNat_eq
  have hb : (lN a).toBitVec.toNat = a := Nat.mod_eq_of_lt ha
  have hk' : (BitVec.ofNat 64 k).toNat = k := Nat.mod_eq_of_lt (by omega)
  have h : ((lN a).toBitVec <<< BitVec.ofNat 64 k).toNat = (a * 2 ^ k) % 2 ^ 64 := by simp only [BitVec.shiftLeft_eq', BitVec.toNat_shiftLeft, hb, hk', Nat.shiftLeft_eq]
  exact h
end
section
/-! The record in the abstract: kind, capacity, number of calls, their ints (worker, put, value, answer, state), begin and end events -/
abbrev zR : Type := Int32 × Nat × Nat × (Nat → Nat → Int32) × (Nat → Nat) × (Nat → Nat)
def rK (r : zR) : Int32 := r.1
def rC (r : zR) : Nat := r.2.1
def rN (r : zR) : Nat := r.2.2.1
def rW (r : zR) (c : Nat) : Int32 := r.2.2.2.1 0 c
def rP (r : zR) (c : Nat) : Int32 := r.2.2.2.1 1 c
def rV (r : zR) (c : Nat) : Nat := (r.2.2.2.1 2 c).toNatClampNeg
def rA (r : zR) (c : Nat) : Int32 := r.2.2.2.1 3 c
def rS (r : zR) (c : Nat) : Int32 := r.2.2.2.1 4 c
def rF (r : zR) (c : Nat) : Nat := r.2.2.2.2.1 c
def rU (r : zR) (c : Nat) : Nat := r.2.2.2.2.2 c
/-- a record as calls make it -/
def rWF (r : zR) : Prop := rN r ≤ 8 ∧ (1 ≤ rC r ∧ rC r ≤ 8) ∧ (∀ c, c < rN r → (rW r c = 0 ∨ rW r c = 1 ∨ rW r c = 2) ∧ (rS r c = 0 ∨ rS r c = 1 ∨ rS r c = 2) ∧ (rS r c = 1 → rF r c < rU r c) ∧ (rP r c ≠ 0 → rV r c < 16))
  ∧ (∀ c d, c < d → d < rN r → rF r c < rF r d) ∧ (∀ c d, c < d → d < rN r → rW r c = rW r d → rS r c ≠ 0 ∧ rU r c < rF r d)
/-- what the store does -/
def rStep (r : zR) (c : Nat) (w : List Nat) : Int32 × List Nat :=
  if rP r c = 0 then
    (if w = [] then (-1, []) else if rK r = 1 ∨ (rK r = 2 ∧ rW r c = 0) then (nI (w.getD (w.length - 1) 0), w.dropLast) else (nI (w.getD 0 0), w.tail))
  else if w.length < rC r then (1, w ++ [rV r c]) else (0, w)
def rAdd (r : zR) (s : List Nat × (Nat → Int32)) (c : Nat) : List Nat × (Nat → Int32) := ((rStep r c s.1).2, va_up s.2 c (rStep r c s.1).1)
def rRun (r : zR) (L : List Nat) : List Nat × (Nat → Int32) := L.foldl (rAdd r) ([], fun _ => 0)
theorem rRun_nil (r : zR) : rRun r [] = ([], fun _ => 0) := rfl
theorem rRun_snoc (r : zR) (L : List Nat) (c : Nat) : rRun r (L ++ [c]) = rAdd r (rRun r L) c := by
  simp [rRun, List.foldl_append]
noncomputable def rif {α : Type} (p : Prop) (a b : α) : α := @ite α p (Classical.propDecidable p) a b
theorem rif_t {α : Type} {p : Prop} {a b : α} (h : p) : rif p a b = a := if_pos h
theorem rif_f {α : Type} {p : Prop} {a b : α} (h : ¬ p) : rif p a b = b := if_neg h
def rAll (r : zR) (L : List Nat) : Prop := ∀ d, d < rN r → rS r d = 1 → d ∈ L
def rCX (r : zR) (L : List Nat) (c : Nat) : Prop := (c ∉ L ∧ rS r c ≠ 2) ∧ ∀ d, d < rN r → rS r d = 1 → rU r d < rF r c → d ∈ L
def rCM (r : zR) (L : List Nat) (c : Nat) : Prop := (c ∉ L ∧ rS r c ≠ 2) ∧ ∀ x, x ∈ L → ¬ (rS r c = 1 ∧ rU r c < rF r x)
def rRe (r : zR) (L : List Nat) (c : Nat) : Prop := rS r c = 1 → (rStep r c (rRun r L).1).1 = rA r c
noncomputable def rNote (r : zR) (L : List Nat) : List (List Nat) := rif (rAll r L) [L] []
noncomputable def rVX (r : zR) : Nat → List Nat → List (List Nat)
  | 0, L => rNote r L
  | k + 1, L => rNote r L ++ (List.range (rN r)).flatMap (fun c => rif (rCX r L c ∧ rRe r L c) (rVX r k (L ++ [c])) [])
noncomputable def rVM (r : zR) : Nat → List Nat → List (List Nat)
  | 0, L => rNote r L
  | k + 1, L => rNote r L ++ (List.range (rN r)).flatMap (fun c => rif (rCM r L c ∧ rRe r L c) (rVM r k (L ++ [c])) [])
theorem fm_congr {α β : Type} {l : List α} {f g : α → List β} (h : ∀ a, a ∈ l → f a = g a) : l.flatMap f = l.flatMap g := by
  induction l with
  | nil => rfl
  | cons a t ih =>
    rw [List.flatMap_cons, List.flatMap_cons, h a (List.mem_cons_self ..), ih (fun b hb => h b (List.mem_cons_of_mem _ hb))]
/-- a list in which a call stands too early gives nothing -/
theorem rVM_dead (r : zR) : ∀ (k : Nat) (L : List Nat) (d x : Nat), d < rN r → rS r d = 1 → d ∉ L → x ∈ L → rU r d < rF r x → rVM r k L = [] := by
  intro k
  induction k with
  | zero =>
    intro L d x hd hs hn hx hu
    exact rif_f (fun h => hn (h d hd hs))
  | succ k ih =>
    intro L d x hd hs hn hx hu
    show rNote r L ++ _ = []
    have h1 : rNote r L = [] := rif_f (fun h => hn (h d hd hs))
    rw [h1, List.nil_append, List.flatMap_eq_nil_iff]
    intro c hc
    by_cases hk : rCM r L c ∧ rRe r L c
    · rw [rif_t hk]
      by_cases hcd : c = d
      · subst hcd
        exact absurd ⟨hs, hu⟩ (hk.1.2 x hx)
      · refine ih (L ++ [c]) d x hd hs ?_ (List.mem_append_left _ hx) hu
        intro h
        rcases List.mem_append.mp h with h | h
        · exact hn h
        · exact hcd (List.mem_singleton.mp h).symm
    · exact rif_f hk
def rCl (r : zR) (L : List Nat) : Prop := ∀ x, x ∈ L → ∀ d, d < rN r → rS r d = 1 → rU r d < rF r x → d ∈ L
theorem rCl_nil (r : zR) : rCl r [] := fun x hx => absurd hx (List.not_mem_nil)
theorem rCl_snoc {r : zR} {L : List Nat} {c : Nat} (h : rCl r L) (hc : rCX r L c) : rCl r (L ++ [c]) := by
  intro x hx d hd hs hu
  rcases List.mem_append.mp hx with hx | hx
  · exact List.mem_append_left _ (h x hx d hd hs hu)
  · rw [List.mem_singleton.mp hx] at hu
    exact List.mem_append_left _ (hc.2 d hd hs hu)
theorem rVXM {r : zR} (hwf : rWF r) : ∀ (k : Nat) (L : List Nat), rCl r L → rVX r k L = rVM r k L := by
  intro k
  induction k with
  | zero => intro L _; rfl
  | succ k ih =>
    intro L hL
    show rNote r L ++ _ = rNote r L ++ _
    congr 1
    refine fm_congr (fun c hc => ?_)
    have hcn : c < rN r := List.mem_range.mp hc
    by_cases hre : rRe r L c
    · by_cases hX : rCX r L c
      · have hM : rCM r L c := ⟨hX.1, fun x hx h => hX.1.1 (hL x hx c hcn h.1 h.2)⟩
        rw [rif_t ⟨hX, hre⟩, rif_t ⟨hM, hre⟩]
        exact ih _ (rCl_snoc hL hX)
      · rw [rif_f (fun h => hX h.1)]
        by_cases hM : rCM r L c
        · rw [rif_t ⟨hM, hre⟩]
          have : ∃ d, d < rN r ∧ rS r d = 1 ∧ rU r d < rF r c ∧ d ∉ L := by
            apply Classical.byContradiction
            intro hno
            apply hX
            refine ⟨hM.1, fun d hd hs hu => ?_⟩
            apply Classical.byContradiction
            intro hdl
            exact hno ⟨d, hd, hs, hu, hdl⟩
          obtain ⟨d, hd, hs, hu, hdl⟩ := this
          refine (rVM_dead r k (L ++ [c]) d c hd hs ?_ (List.mem_append_right _ (List.mem_singleton.mpr rfl)) hu).symm
          intro h
          rcases List.mem_append.mp h with h | h
          · exact hdl h
          · have e : d = c := List.mem_singleton.mp h
            subst e
            have := (hwf.2.2.1 d hd).2.2.1 hs
            omega
        · rw [rif_f (fun h => hM h.1)]
    · rw [rif_f (fun h => hre h.2), rif_f (fun h => hre h.2)]
/-- all explanations, in the order in which both find them -/
noncomputable def rE (r : zR) : List (List Nat) := rVM r 8 []
theorem rE_X {r : zR} (hwf : rWF r) : rVX r 8 [] = rE r := rVXM hwf 8 [] (rCl_nil r)
def rG (r : zR) (L : List Nat) : Prop := L.Nodup ∧ (∀ c, c ∈ L → c < rN r ∧ rS r c ≠ 2) ∧ L.Pairwise (fun x y => ¬ (rS r y = 1 ∧ rU r y < rF r x))
theorem rG_nil (r : zR) : rG r [] := ⟨List.nodup_nil, fun c hc => absurd hc (List.not_mem_nil), List.Pairwise.nil⟩
theorem rG_snoc {r : zR} {L : List Nat} {c : Nat} (h : rG r L) (hc : c < rN r) (hk : rCM r L c) : rG r (L ++ [c]) := by
  refine ⟨List.nodup_append.mpr ⟨h.1, by simp, ?_⟩, ?_, List.pairwise_append.mpr ⟨h.2.2, by simp, ?_⟩⟩
  · intro a ha b hb e
    rw [List.mem_singleton.mp hb] at e
    exact hk.1.1 (e ▸ ha)
  · intro x hx
    rcases List.mem_append.mp hx with hx | hx
    · exact h.2.1 x hx
    · rw [List.mem_singleton.mp hx]; exact ⟨hc, hk.1.2⟩
  · intro a ha b hb
    rw [List.mem_singleton.mp hb]
    exact hk.2 a ha
theorem rVM_mem {r : zR} : ∀ (k : Nat) (L M : List Nat), M ∈ rVM r k L → (∃ t, M = L ++ t) ∧ rAll r M ∧ (rG r L → rG r M) := by
  intro k
  have note : ∀ L M : List Nat, M ∈ rNote r L → (∃ t, M = L ++ t) ∧ rAll r M ∧ (rG r L → rG r M) := by
    intro L M h
    unfold rNote at h
    by_cases ha : rAll r L
    · rw [rif_t ha] at h
      rw [List.mem_singleton.mp h]
      exact ⟨⟨[], (List.append_nil _).symm⟩, ha, id⟩
    · rw [rif_f ha] at h
      exact absurd h (List.not_mem_nil)
  induction k with
  | zero => intro L M h; exact note L M h
  | succ k ih =>
    intro L M h
    have h : M ∈ rNote r L ++ (List.range (rN r)).flatMap (fun c => rif (rCM r L c ∧ rRe r L c) (rVM r k (L ++ [c])) []) := h
    rcases List.mem_append.mp h with h | h
    · exact note L M h
    · obtain ⟨c, hc, h⟩ := List.mem_flatMap.mp h
      by_cases hk : rCM r L c ∧ rRe r L c
      · rw [rif_t hk] at h
        obtain ⟨⟨t, ht⟩, h2, h3⟩ := ih _ _ h
        exact ⟨⟨c :: t, by rw [ht, List.append_assoc]; rfl⟩, h2, fun hg => h3 (rG_snoc hg (List.mem_range.mp hc) hk.1)⟩
      · rw [rif_f hk] at h
        exact absurd h (List.not_mem_nil)
theorem rVM_nodup {r : zR} : ∀ (k : Nat) (L : List Nat), (rVM r k L).Nodup := by
  have note : ∀ L : List Nat, (rNote r L).Nodup := by
    intro L
    unfold rNote
    by_cases ha : rAll r L
    · rw [rif_t ha]; simp
    · rw [rif_f ha]; simp
  intro k
  induction k with
  | zero => exact note
  | succ k ih =>
    intro L
    show (rNote r L ++ _).Nodup
    have kids : ∀ c M, M ∈ rif (rCM r L c ∧ rRe r L c) (rVM r k (L ++ [c])) [] → ∃ t, M = L ++ c :: t := by
      intro c M h
      by_cases hk : rCM r L c ∧ rRe r L c
      · rw [rif_t hk] at h
        obtain ⟨⟨t, ht⟩, -⟩ := rVM_mem k _ _ h
        exact ⟨t, by rw [ht, List.append_assoc]; rfl⟩
      · rw [rif_f hk] at h
        exact absurd h (List.not_mem_nil)
    refine List.nodup_append.mpr ⟨note L, ?_, ?_⟩
    · show List.Pairwise (· ≠ ·) _
      rw [List.pairwise_flatMap]
      refine ⟨fun c _ => ?_, ?_⟩
      · by_cases hk : rCM r L c ∧ rRe r L c
        · rw [rif_t hk]; exact ih _
        · rw [rif_f hk]; exact List.Pairwise.nil
      · have hr : (List.range (rN r)).Pairwise (· ≠ ·) := List.nodup_range
        refine hr.imp (fun {c d} hcd x hx y hy e => ?_)
        obtain ⟨t, ht⟩ := kids c x hx
        obtain ⟨u, hu⟩ := kids d y hy
        rw [ht, hu] at e
        have e := List.append_cancel_left e
        exact hcd (List.cons.inj e).1
    · intro a ha b hb e
      obtain ⟨c, hc, hb⟩ := List.mem_flatMap.mp hb
      obtain ⟨t, ht⟩ := kids c b hb
      have ha : a = L := by
        unfold rNote at ha
        by_cases hA : rAll r L
        · rw [rif_t hA] at ha; exact List.mem_singleton.mp ha
        · rw [rif_f hA] at ha; exact absurd ha (List.not_mem_nil)
      rw [← e, ha] at ht
      have := congrArg List.length ht
      rw [List.length_append, List.length_cons] at this
      omega
end
section
/-! At most 680 explanations: a list is read off from its calls in the order of their beginnings; S: which workers have a call that isn't listed yet -/
def gArr : Nat → List Nat → List (List Nat)
  | 0, _ => [[]]
  | k + 1, xs => [] :: xs.flatMap (fun x => (gArr k (xs.erase x)).map (fun q => x :: q))
theorem gArr_mem : ∀ (q : List Nat) (k : Nat) (xs : List Nat), q.Nodup → (∀ x, x ∈ q → x ∈ xs) → q.length ≤ k → q ∈ gArr k xs := by
  intro q
  induction q with
  | nil =>
    intro k xs _ _ _
    cases k with
    | zero => exact List.mem_singleton.mpr rfl
    | succ k => exact List.mem_cons_self ..
  | cons x q ih =>
    intro k xs hn hs hl
    cases k with
    | zero => exact absurd hl (by simp)
    | succ k =>
      rw [List.nodup_cons] at hn
      refine List.mem_cons_of_mem _ (List.mem_flatMap.mpr ⟨x, hs x (List.mem_cons_self ..), List.mem_map.mpr ⟨q, ih k _ hn.2 (fun y hy => ?_) (by simpa using hl), rfl⟩⟩)
      have hne : y ≠ x := fun e => hn.1 (e ▸ hy)
      exact (List.mem_erase_of_ne hne).mpr (hs y (List.mem_cons_of_mem _ hy))
def gB (S u : Nat) : Bool := S / 2 ^ u % 2 == 1
def gM (f : Nat → Bool) : Nat := (if f 0 then 1 else 0) + (if f 1 then 2 else 0) + (if f 2 then 4 else 0)
theorem gM_bit (f : Nat → Bool) (u : Nat) (hu : u < 3) : gB (gM f) u = f u := by
  have h : u = 0 ∨ u = 1 ∨ u = 2 := by omega
  unfold gB gM
  rcases h with rfl | rfl | rfl <;> cases f 0 <;> cases f 1 <;> cases f 2 <;> rfl
theorem gM_lt (f : Nat → Bool) : gM f < 8 := by
  unfold gM
  cases f 0 <;> cases f 1 <;> cases f 2 <;> decide
def gL (S : Nat) : List Nat := [0, 1, 2].filter (fun u => gB S u)
theorem gL_mem {S u : Nat} (hu : u < 3) (h : gB S u = true) : u ∈ gL S := by
  refine List.mem_filter.mpr ⟨?_, h⟩
  have : u = 0 ∨ u = 1 ∨ u = 2 := by omega
  rcases this with rfl | rfl | rfl <;> decide
/-- S without u; S behind a call of u that began once q and u's earlier call are listed -/
def gD (S u : Nat) : Nat := gM (fun v => v != u && gB S v)
def gN (S u : Nat) (q : List Nat) : Nat := gM (fun v => v == u || (gB S v && !(q.contains v)))
def gGen (w : Nat → Nat) : List Nat → Nat → (Nat → Nat) → List (List Nat)
  | [], S, pd => (gArr 3 (gL S)).map (fun q => q.map pd)
  | c :: cs, S, pd => if gB S (w c) = true then (gArr 3 (gL (gD S (w c)))).flatMap (fun q => (gGen w cs (gN S (w c) q) (va_up pd (w c) c)).map (fun t => q.map pd ++ pd (w c) :: t)) else gGen w cs (gN S (w c) []) (va_up pd (w c) c)
def gF : List Nat → Nat → Nat
  | [], S => (gArr 3 (gL S)).length
  | u :: ws, S => if gB S u = true then ((gArr 3 (gL (gD S u))).map (fun q => gF ws (gN S u q))).sum else gF ws (gN S u [])
theorem gGen_len (w : Nat → Nat) : ∀ (cs : List Nat) (S : Nat) (pd : Nat → Nat), (gGen w cs S pd).length = gF (cs.map w) S := by
  intro cs
  induction cs with
  | nil => intro S pd; simp [gGen, gF]
  | cons c cs ih =>
    intro S pd
    rw [List.map_cons]
    unfold gGen gF
    by_cases h : gB S (w c) = true
    · rw [if_pos h, if_pos h, List.length_flatMap]
      congr 1
      refine List.map_congr_left (fun q _ => ?_)
      rw [List.length_map, ih]
    · rw [if_neg h, if_neg h, ih]
/-- what is left of a list -/
def gI (r : zR) (w : Nat → Nat) (cs : List Nat) (S : Nat) (pd : Nat → Nat) (T : List Nat) : Prop :=
  T.Nodup ∧ (∀ x, x ∈ T → (∃ u, u < 3 ∧ gB S u = true ∧ x = pd u) ∨ x ∈ cs) ∧ T.Pairwise (fun x y => ¬ (rS r y = 1 ∧ rU r y < rF r x))
  ∧ (∀ u, u < 3 → gB S u = true → w (pd u) = u ∧ pd u < rN r ∧ rS r (pd u) ≠ 2 ∧ (rS r (pd u) = 1 → pd u ∈ T) ∧ ∀ c, c ∈ cs → pd u < c)
  ∧ cs.Pairwise (fun x y => x < y) ∧ ∀ c, c ∈ cs → c < rN r ∧ rS r c ≠ 2 ∧ (rS r c = 1 → c ∈ T)
theorem gN_other {S u v : Nat} {q : List Nat} (hv : v < 3) (hne : v ≠ u) : gB (gN S u q) v = (gB S v && !(q.contains v)) := by
  unfold gN
  rw [gM_bit _ v hv]
  have : (v == u) = false := by simpa using hne
  rw [this, Bool.false_or]
theorem gN_self {S u : Nat} {q : List Nat} (hu : u < 3) : gB (gN S u q) u = true := by
  unfold gN
  rw [gM_bit _ u hu]
  simp
theorem gD_other {S u v : Nat} (hv : v < 3) (hne : v ≠ u) (h : gB S v = true) : gB (gD S u) v = true := by
  unfold gD
  rw [gM_bit _ v hv, h]
  simpa using hne
theorem gGen_mem {r : zR} (hwf : rWF r) {w : Nat → Nat} (hw : ∀ c, c < rN r → w c < 3) (hww : ∀ c d, c < rN r → d < rN r → w c = w d → rW r c = rW r d) :
    ∀ (cs : List Nat) (S : Nat) (pd : Nat → Nat) (T : List Nat), gI r w cs S pd T → T ∈ gGen w cs S pd := by
  obtain ⟨-, -, hst, hfr, hun⟩ := hwf
  have mapback : ∀ (S : Nat) (pd : Nat → Nat) (q : List Nat), (∀ x, x ∈ q → ∃ u, u < 3 ∧ gB S u = true ∧ x = pd u) → (∀ u, u < 3 → gB S u = true → w (pd u) = u) → (q.map w).map pd = q := by
    intro S pd q h1 h2
    rw [List.map_map]
    conv => rhs; rw [← List.map_id q]
    refine List.map_congr_left (fun x hx => ?_)
    obtain ⟨u, hu, hb, rfl⟩ := h1 x hx
    show pd (w (pd u)) = id (pd u)
    rw [h2 u hu hb]
    rfl
  have nodupback : ∀ (S : Nat) (pd : Nat → Nat) (q : List Nat), q.Nodup → (q.map w).map pd = q → (q.map w).Nodup := by
    intro S pd q hn he
    have h1 : ((q.map w).map pd).Pairwise (· ≠ ·) := by rw [he]; exact hn
    rw [List.pairwise_map] at h1
    exact h1.imp (fun h e => h (congrArg pd e))
  have short : ∀ l : List Nat, l.Nodup → (∀ x, x ∈ l → x < 3) → l.length ≤ 3 := by
    intro l hn hl
    have := List.Nodup.length_le_of_subset (l₂ := [0, 1, 2]) hn (fun x hx => by
      have := hl x hx
      have h : x = 0 ∨ x = 1 ∨ x = 2 := by omega
      rcases h with rfl | rfl | rfl <;> decide)
    simpa using this
  intro cs
  induction cs with
  | nil =>
    intro S pd T hI
    obtain ⟨hnd, hel, hpw, hpd, -, -⟩ := hI
    have hel : ∀ x, x ∈ T → ∃ u, u < 3 ∧ gB S u = true ∧ x = pd u := fun x hx => (hel x hx).elim id (fun h => absurd h (List.not_mem_nil))
    have he := mapback S pd T hel (fun u hu hb => (hpd u hu hb).1)
    have hn2 := nodupback S pd T hnd he
    have hin : ∀ x, x ∈ T.map w → x < 3 ∧ gB S x = true := by
      intro x hx
      obtain ⟨y, hy, rfl⟩ := List.mem_map.mp hx
      obtain ⟨u, hu, hb, rfl⟩ := hel y hy
      rw [(hpd u hu hb).1]
      exact ⟨hu, hb⟩
    exact List.mem_map.mpr ⟨T.map w, gArr_mem _ 3 _ hn2 (fun x hx => gL_mem (hin x hx).1 (hin x hx).2) (short _ hn2 (fun x hx => (hin x hx).1)), he⟩
  | cons c cs ih =>
    intro S pd T hI
    obtain ⟨hnd, hel, hpw, hpd, hcs, hcc⟩ := hI
    rw [List.pairwise_cons] at hcs
    have hc := hcc c (List.mem_cons_self ..)
    have hu : w c < 3 := hw c hc.1
    unfold gGen
    by_cases hb : gB S (w c) = true
    · rw [if_pos hb]
      obtain ⟨hd1, hd2, hd3, hd4, hd5⟩ := hpd (w c) hu hb
      have hdc : pd (w c) < c := hd5 c (List.mem_cons_self ..)
      obtain ⟨hne, hlt⟩ := hun (pd (w c)) c hdc hc.1 (hww _ _ hd2 hc.1 hd1)
      have hs1 : rS r (pd (w c)) = 1 := by
        rcases (hst _ hd2).2.1 with h | h | h
        · exact absurd h hne
        · exact h
        · exact absurd h hd3
      obtain ⟨q, t, hT⟩ := List.append_of_mem (hd4 hs1)
      subst hT
      rw [List.nodup_append, List.nodup_cons] at hnd
      obtain ⟨hnq, ⟨hdt, hnt⟩, hqt⟩ := hnd
      rw [List.pairwise_append, List.pairwise_cons] at hpw
      obtain ⟨hpq, ⟨hpdt, hpt⟩, hpqt⟩ := hpw
      have hq : ∀ x, x ∈ q → ∃ u, u < 3 ∧ gB S u = true ∧ x = pd u := by
        intro x hx
        rcases hel x (List.mem_append_left _ hx) with h | h
        · exact h
        · exfalso
          have hno := hpqt x hx (pd (w c)) (List.mem_cons_self ..)
          have hge : rF r c ≤ rF r x := by
            rcases List.mem_cons.mp h with h | h
            · rw [h]; exact Nat.le_refl _
            · exact Nat.le_of_lt (hfr c x (hcs.1 x h) (hcc x (List.mem_cons_of_mem _ h)).1)
          exact hno ⟨hs1, by omega⟩
      have he := mapback S pd q hq (fun u hu hb => (hpd u hu hb).1)
      have hn2 := nodupback S pd q hnq he
      have hin : ∀ x, x ∈ q.map w → x < 3 ∧ gB S x = true ∧ x ≠ w c ∧ pd x ∈ q := by
        intro x hx
        obtain ⟨y, hy, rfl⟩ := List.mem_map.mp hx
        obtain ⟨u, hu, hb, rfl⟩ := hq y hy
        rw [(hpd u hu hb).1]
        refine ⟨hu, hb, fun e => ?_, hy⟩
        exact hqt (pd u) hy (pd (w c)) (List.mem_cons_self ..) (by rw [e])
      refine List.mem_flatMap.mpr ⟨q.map w, gArr_mem _ 3 _ hn2 (fun x hx => gL_mem (hin x hx).1 (gD_other (hin x hx).1 (hin x hx).2.2.1 (hin x hx).2.1)) (short _ hn2 (fun x hx => (hin x hx).1)), List.mem_map.mpr ⟨t, ?_, by rw [he]⟩⟩
      refine ih _ _ _ ⟨hnt, ?_, hpt, ?_, hcs.2, fun d hd => ?_⟩
      · intro x hx
        rcases hel x (List.mem_append_right _ (List.mem_cons_of_mem _ hx)) with ⟨u, hu2, hb2, rfl⟩ | h
        · left
          have hne2 : u ≠ w c := fun e => hdt (by rw [← e]; exact hx)
          refine ⟨u, hu2, ?_, by rw [va_up_ne _ _ hne2]⟩
          rw [gN_other hu2 hne2, hb2]
          have : (q.map w).contains u = false := by
            rw [← Bool.not_eq_true, List.contains_iff_mem]
            intro hm
            exact hqt (pd u) (hin u hm).2.2.2 (pd u) (List.mem_cons_of_mem _ hx) rfl
          rw [this]
          rfl
        · rcases List.mem_cons.mp h with h | h
          · left
            exact ⟨w c, hu, gN_self hu, by rw [va_up_self]; exact h⟩
          · exact Or.inr h
      · intro v hv hbv
        by_cases hvc : v = w c
        · subst hvc
          rw [va_up_self]
          refine ⟨rfl, hc.1, hc.2.1, fun h => ?_, fun d hd => hcs.1 d hd⟩
          have hm := hc.2.2 h
          rcases List.mem_append.mp hm with hm | hm
          · exfalso
            obtain ⟨u, hu2, hb2, e⟩ := hq c hm
            have := (hpd u hu2 hb2).2.2.2.2 c (List.mem_cons_self ..)
            omega
          · rcases List.mem_cons.mp hm with hm | hm
            · omega
            · exact hm
        · rw [va_up_ne _ _ hvc]
          rw [gN_other hv hvc, Bool.and_eq_true] at hbv
          obtain ⟨g1, g2, g3, g4, g5⟩ := hpd v hv hbv.1
          refine ⟨g1, g2, g3, fun h => ?_, fun d hd => g5 d (List.mem_cons_of_mem _ hd)⟩
          rcases List.mem_append.mp (g4 h) with hm | hm
          · exfalso
            have : v ∈ q.map w := List.mem_map.mpr ⟨pd v, hm, g1⟩
            have hcn := hbv.2
            rw [Bool.not_eq_true', ← Bool.not_eq_true, List.contains_iff_mem] at hcn
            exact hcn this
          · rcases List.mem_cons.mp hm with hm | hm
            · exfalso
              apply hvc
              rw [← g1, hm, hd1]
            · exact hm
      · obtain ⟨g1, g2, g3⟩ := hcc d (List.mem_cons_of_mem _ hd)
        refine ⟨g1, g2, fun h => ?_⟩
        rcases List.mem_append.mp (g3 h) with hm | hm
        · exfalso
          obtain ⟨u, hu2, hb2, e⟩ := hq d hm
          have := (hpd u hu2 hb2).2.2.2.2 d (List.mem_cons_of_mem _ hd)
          omega
        · rcases List.mem_cons.mp hm with hm | hm
          · have := hcs.1 d hd
            omega
          · exact hm
    · rw [if_neg hb]
      refine ih _ _ _ ⟨hnd, ?_, hpw, ?_, hcs.2, fun d hd => hcc d (List.mem_cons_of_mem _ hd)⟩
      · intro x hx
        rcases hel x hx with ⟨u, hu2, hb2, rfl⟩ | h
        · left
          have hne2 : u ≠ w c := fun e => hb (by rw [← e]; exact hb2)
          refine ⟨u, hu2, ?_, by rw [va_up_ne _ _ hne2]⟩
          rw [gN_other hu2 hne2, hb2]
          rfl
        · rcases List.mem_cons.mp h with h | h
          · left
            exact ⟨w c, hu, gN_self hu, by rw [va_up_self]; exact h⟩
          · exact Or.inr h
      · intro v hv hbv
        by_cases hvc : v = w c
        · subst hvc
          rw [va_up_self]
          exact ⟨rfl, hc.1, hc.2.1, hc.2.2, fun d hd => hcs.1 d hd⟩
        · rw [va_up_ne _ _ hvc]
          rw [gN_other hv hvc, Bool.and_eq_true] at hbv
          obtain ⟨g1, g2, g3, g4, g5⟩ := hpd v hv hbv.1
          exact ⟨g1, g2, g3, g4, fun d hd => g5 d (List.mem_cons_of_mem _ hd)⟩
/-! the number -/
def gV (ws : List Nat) : List Nat := [gF ws 0, gF ws 1, gF ws 2, gF ws 3, gF ws 4, gF ws 5, gF ws 6, gF ws 7]
def gT (u : Nat) (v : List Nat) : List Nat := match u, v with
  | 0, [_, b, _, d, _, f, _, h] => [b, b, d, d + b, f, f + b, h, h + f + d + 2 * b]
  | 1, [_, _, c, d, _, _, g, h] => [c, d, c, d + c, g, h, g + c, h + g + d + 2 * c]
  | 2, [_, _, _, _, e, f, g, h] => [e, f, g, h, e, f + e, g + e, h + g + f + 2 * e]
  | _, v => v
theorem gV_cons (u : Nat) (hu : u < 3) (ws : List Nat) : gV (u :: ws) = gT u (gV ws) := by
  have h : u = 0 ∨ u = 1 ∨ u = 2 := by omega
  rcases h with rfl | rfl | rfl
  · have e0 : gF (0 :: ws) 0 = gF ws 1 := rfl
    have e1 : gF (0 :: ws) 1 = gF ws 1 + 0 := rfl
    have e2 : gF (0 :: ws) 2 = gF ws 3 := rfl
    have e3 : gF (0 :: ws) 3 = gF ws 3 + (gF ws 1 + 0) := rfl
    have e4 : gF (0 :: ws) 4 = gF ws 5 := rfl
    have e5 : gF (0 :: ws) 5 = gF ws 5 + (gF ws 1 + 0) := rfl
    have e6 : gF (0 :: ws) 6 = gF ws 7 := rfl
    have e7 : gF (0 :: ws) 7 = gF ws 7 + (gF ws 5 + (gF ws 1 + (gF ws 3 + (gF ws 1 + 0)))) := rfl
    unfold gV gT
    rw [e0, e1, e2, e3, e4, e5, e6, e7]
    simp
    omega
  · have e0 : gF (1 :: ws) 0 = gF ws 2 := rfl
    have e1 : gF (1 :: ws) 1 = gF ws 3 := rfl
    have e2 : gF (1 :: ws) 2 = gF ws 2 + 0 := rfl
    have e3 : gF (1 :: ws) 3 = gF ws 3 + (gF ws 2 + 0) := rfl
    have e4 : gF (1 :: ws) 4 = gF ws 6 := rfl
    have e5 : gF (1 :: ws) 5 = gF ws 7 := rfl
    have e6 : gF (1 :: ws) 6 = gF ws 6 + (gF ws 2 + 0) := rfl
    have e7 : gF (1 :: ws) 7 = gF ws 7 + (gF ws 6 + (gF ws 2 + (gF ws 3 + (gF ws 2 + 0)))) := rfl
    unfold gV gT
    rw [e0, e1, e2, e3, e4, e5, e6, e7]
    simp
    omega
  · have e0 : gF (2 :: ws) 0 = gF ws 4 := rfl
    have e1 : gF (2 :: ws) 1 = gF ws 5 := rfl
    have e2 : gF (2 :: ws) 2 = gF ws 6 := rfl
    have e3 : gF (2 :: ws) 3 = gF ws 7 := rfl
    have e4 : gF (2 :: ws) 4 = gF ws 4 + 0 := rfl
    have e5 : gF (2 :: ws) 5 = gF ws 5 + (gF ws 4 + 0) := rfl
    have e6 : gF (2 :: ws) 6 = gF ws 6 + (gF ws 4 + 0) := rfl
    have e7 : gF (2 :: ws) 7 = gF ws 7 + (gF ws 6 + (gF ws 4 + (gF ws 5 + (gF ws 4 + 0)))) := rfl
    unfold gV gT
    rw [e0, e1, e2, e3, e4, e5, e6, e7]
    simp
    omega
def gK : Nat → List Nat → Bool
  | 0, v => Nat.ble (v.headD 0) 680
  | k + 1, v => Nat.ble (v.headD 0) 680 && (gK k (gT 0 v) && (gK k (gT 1 v) && gK k (gT 2 v)))
theorem gK_8 : gK 8 [1, 2, 2, 5, 2, 5, 5, 16] = true := by decide +kernel
theorem gK_use : ∀ (ps : List Nat) (k : Nat) (ws : List Nat), (∀ u, u ∈ ps → u < 3) → ps.length ≤ k → gK k (gV ws) = true → gF (ps.reverse ++ ws) 0 ≤ 680 := by
  intro ps
  induction ps with
  | nil =>
    intro k ws _ _ h
    have h1 : Nat.ble ((gV ws).headD 0) 680 = true := by
      cases k with
      | zero => exact h
      | succ k => exact (Bool.and_eq_true _ _ ▸ h).1
    exact Nat.le_of_ble_eq_true h1
  | cons u ps ih =>
    intro k ws hu hk h
    cases k with
    | zero => simp at hk
    | succ k =>
      rw [List.reverse_cons, List.append_assoc, List.singleton_append]
      have hu0 := hu u (List.mem_cons_self ..)
      refine ih k (u :: ws) (fun v hv => hu v (List.mem_cons_of_mem _ hv)) (by simpa using hk) ?_
      rw [gV_cons u hu0]
      have h : (Nat.ble ((gV ws).headD 0) 680 && (gK k (gT 0 (gV ws)) && (gK k (gT 1 (gV ws)) && gK k (gT 2 (gV ws))))) = true := h
      rw [Bool.and_eq_true, Bool.and_eq_true, Bool.and_eq_true] at h
      have h3 : u = 0 ∨ u = 1 ∨ u = 2 := by omega
      rcases h3 with rfl | rfl | rfl
      · exact h.2.1
      · exact h.2.2.1
      · exact h.2.2.2
theorem gF_680 (ws : List Nat) (h : ∀ u, u ∈ ws → u < 3) (hl : ws.length ≤ 8) : gF ws 0 ≤ 680 := by
  have := gK_use ws.reverse 8 [] (fun u hu => h u (List.mem_reverse.mp hu)) (by simpa using hl) gK_8
  simpa using this
def rWn (r : zR) (c : Nat) : Nat := if rW r c = 0 then 0 else if rW r c = 1 then 1 else 2
theorem rE_680 {r : zR} (hwf : rWF r) : (rE r).length ≤ 680 := by
  have hw : ∀ c, c < rN r → rWn r c < 3 := by
    intro c _
    unfold rWn
    split
    · omega
    · split <;> omega
  have hww : ∀ c d, c < rN r → d < rN r → rWn r c = rWn r d → rW r c = rW r d := by
    intro c d hc hd e
    unfold rWn at e
    rcases (hwf.2.2.1 c hc).1 with h | h | h <;> rcases (hwf.2.2.1 d hd).1 with h2 | h2 | h2 <;> rw [h, h2] at e ⊢ <;> first | rfl | exact absurd e (by decide)
  have hcs : ((List.range (rN r)).filter (fun c => !(rS r c == 2))).Pairwise (fun x y => x < y) := List.Pairwise.filter _ List.pairwise_lt_range
  have hlen : ((List.range (rN r)).filter (fun c => !(rS r c == 2))).length ≤ 8 := Nat.le_trans (List.length_filter_le ..) (by rw [List.length_range]; exact hwf.1)
  have hmem : ∀ c, c ∈ (List.range (rN r)).filter (fun c => !(rS r c == 2)) ↔ c < rN r ∧ rS r c ≠ 2 := by
    intro c
    rw [List.mem_filter, List.mem_range]
    simp
  refine Nat.le_trans (List.Nodup.length_le_of_subset (l₂ := gGen (rWn r) ((List.range (rN r)).filter (fun c => !(rS r c == 2))) 0 (fun _ => 0)) (rVM_nodup 8 []) ?_) ?_
  · intro M hM
    obtain ⟨-, hall, hg⟩ := rVM_mem 8 [] M hM
    obtain ⟨g1, g2, g3⟩ := hg (rG_nil r)
    refine gGen_mem hwf hw hww _ _ _ _ ⟨g1, fun x hx => Or.inr ((hmem x).mpr (g2 x hx)), g3, ?_, hcs, fun c hc => ?_⟩
    · intro u hu hb
      exfalso
      have h3 : u = 0 ∨ u = 1 ∨ u = 2 := by omega
      rcases h3 with rfl | rfl | rfl <;> exact absurd hb (by decide)
    · have := (hmem c).mp hc
      exact ⟨this.1, this.2, fun h => hall c this.1 h⟩
  · rw [gGen_len]
    refine gF_680 _ (fun u hu => ?_) (by rw [List.length_map]; exact hlen)
    obtain ⟨c, hc, rfl⟩ := List.mem_map.mp hu
    exact hw c ((hmem c).mp hc).1
end
section
/-! Rows of values as numbers: the class's (eX) and the reference's (eM) -/
def eN : List Nat → Nat
  | [] => 0
  | x :: t => x + 16 * eN t
theorem eN_cons (x : Nat) (t : List Nat) : eN (x :: t) = x + 16 * eN t := rfl
theorem eN_one (x : Nat) : eN [x] = x := by show x + 16 * 0 = x; omega
def eOk (w : List Nat) : Prop := w.length ≤ 8 ∧ ∀ x, x ∈ w → x < 16
theorem eN_lt : ∀ (w : List Nat), (∀ x, x ∈ w → x < 16) → eN w < 16 ^ w.length := by
  intro w
  induction w with
  | nil => intro _; simp [eN]
  | cons x t ih =>
    intro h
    have h1 := h x (List.mem_cons_self ..)
    have h2 := ih (fun y hy => h y (List.mem_cons_of_mem _ hy))
    rw [List.length_cons, Nat.pow_succ, eN_cons]
    omega
theorem eN_8 {w : List Nat} (h : eOk w) : eN w < 4294967296 :=
  Nat.lt_of_lt_of_le (eN_lt w h.2) (Nat.le_trans (Nat.pow_le_pow_right (by omega) h.1) (by decide))
theorem eN_app (l m : List Nat) : eN (l ++ m) = eN l + 16 ^ l.length * eN m := by
  induction l with
  | nil => simp [eN]
  | cons x t ih =>
    rw [List.cons_append, List.length_cons, eN_cons, eN_cons, ih, Nat.pow_succ, Nat.mul_add, Nat.mul_comm (16 ^ t.length) 16, Nat.mul_assoc]
    omega
theorem eN_rep (n : Nat) : eN (List.replicate n 0) = 0 := by
  induction n with
  | zero => rfl
  | succ n ih => rw [List.replicate_succ, eN_cons]; omega
theorem eN_div : ∀ (i : Nat) (l : List Nat), (∀ x, x ∈ l → x < 16) → eN l / 16 ^ i = eN (l.drop i) := by
  intro i
  induction i with
  | zero => intro l _; simp
  | succ i ih =>
    intro l h
    cases l with
    | nil => simp [eN]
    | cons x t =>
      have h1 := h x (List.mem_cons_self ..)
      rw [List.drop_succ_cons, ← ih t (fun y hy => h y (List.mem_cons_of_mem _ hy)), Nat.pow_succ, Nat.mul_comm, ← Nat.div_div_eq_div_mul]
      congr 1
      rw [eN_cons]
      omega
theorem eN_mod {l : List Nat} (h : ∀ x, x ∈ l → x < 16) : eN l % 16 = l.getD 0 0 := by
  cases l with
  | nil => rfl
  | cons x t =>
    have h1 := h x (List.mem_cons_self ..)
    show (x + 16 * eN t) % 16 = x
    omega
theorem eN_get {l : List Nat} (h : ∀ x, x ∈ l → x < 16) (i : Nat) : eN l / 16 ^ i % 16 = l.getD i 0 := by
  rw [eN_div i l h, eN_mod (fun x hx => h x (List.mem_of_mem_drop hx))]
  simp [List.getD]
theorem eN_inj : ∀ (w v : List Nat), w.length = v.length → (∀ x, x ∈ w → x < 16) → (∀ x, x ∈ v → x < 16) → eN w = eN v → w = v := by
  intro w
  induction w with
  | nil =>
    intro v hl _ _ _
    exact (List.length_eq_zero_iff.mp hl.symm).symm
  | cons x t ih =>
    intro v hl h1 h2 he
    cases v with
    | nil => simp at hl
    | cons y u =>
      have a := h1 x (List.mem_cons_self ..)
      have b := h2 y (List.mem_cons_self ..)
      have he : x + 16 * eN t = y + 16 * eN u := he
      have e1 : x = y := by omega
      have e2 : eN t = eN u := by omega
      rw [e1, ih u (by simpa using hl) (fun z hz => h1 z (List.mem_cons_of_mem _ hz)) (fun z hz => h2 z (List.mem_cons_of_mem _ hz)) e2]
def eX (w : List Nat) : Int64 := lN (eN w + 4294967296 * w.length)
def eM (w : List Nat) : Int64 := lN (w.length + 16 * eN w)
theorem eX_inj {w v : List Nat} (hw : eOk w) (hv : eOk v) (h : eX w = eX v) : w = v := by
  have a := eN_8 hw
  have b := eN_8 hv
  have c := hw.1
  have d := hv.1
  have h := (pk_lEQ (by omega) (by omega)).mp h
  have e1 : w.length = v.length := by omega
  exact eN_inj w v e1 hw.2 hv.2 (by omega)
theorem eM_inj {w v : List Nat} (hw : eOk w) (hv : eOk v) (h : eM w = eM v) : w = v := by
  have a := eN_8 hw
  have b := eN_8 hv
  have c := hw.1
  have d := hv.1
  have h := (pk_lEQ (by omega) (by omega)).mp h
  have e1 : w.length = v.length := by omega
  exact eN_inj w v e1 hw.2 hv.2 (by omega)
theorem eX_pad {w : List Nat} (h : eOk w) : eN w + 4294967296 * w.length = eN (w ++ (List.replicate (8 - w.length) 0 ++ [w.length])) := by
  have h8 := h.1
  rw [eN_app, eN_app, eN_rep, List.length_replicate, Nat.zero_add, ← Nat.mul_assoc, ← Nat.pow_add]
  have : w.length + (8 - w.length) = 8 := by omega
  rw [this]
  show _ = eN w + 16 ^ 8 * (w.length + 16 * 0)
  omega
theorem eX_padd {w : List Nat} (h : eOk w) : ∀ x, x ∈ w ++ (List.replicate (8 - w.length) 0 ++ [w.length]) → x < 16 := by
  intro x hx
  rcases List.mem_append.mp hx with hx | hx
  · exact h.2 x hx
  · rcases List.mem_append.mp hx with hx | hx
    · have := List.eq_of_mem_replicate hx
      omega
    · have := List.mem_singleton.mp hx
      have := h.1
      omega
theorem nI_and15 (z : Nat) : nI z &&& 15 = nI (z % 16) := by
  rw [pk_and (nI z) 4 (by decide)]
  congr 1
  show (BitVec.ofNat 32 z).toNat % 2 ^ 4 = z % 16
  rw [BitVec.toNat_ofNat]
  omega
theorem p16 (i : Nat) : 2 ^ (4 * i) = 16 ^ i := by rw [Nat.pow_mul]
theorem eX_len {w : List Nat} (h : eOk w) : (((eX w).toUInt64 >>> ((32 : Int32).toInt64.toUInt64 &&& Int64.toUInt64 63)).toInt64).toInt32 = nI w.length := by
  have h1 := eN_8 h
  have h2 := h.1
  unfold eX
  rw [g_ushr (k := 32) (p := 4294967296) (by decide) (by omega) (by decide) (by omega), lN_i]
  congr 1
  omega
theorem mul4 (i : Nat) : (4 : Int32) * nI i = nI (4 * i) := pk_mul 4 i
theorem eX_at {w : List Nat} (h : eOk w) {i : Nat} (hi : i < w.length) : (((eX w).toUInt64 >>> (((4 : Int32) * nI i).toInt64.toUInt64 &&& Int64.toUInt64 63)).toInt64).toInt32 &&& (15 : Int32) = nI (w.getD i 0) := by
  have h1 := eN_8 h
  have h2 := h.1
  rw [mul4, wb_cu (4 * i) (by omega)]
  unfold eX
  rw [g_ushr (k := 4 * i) (p := 2 ^ (4 * i)) rfl (by omega) rfl (by omega), lN_i, nI_and15, eX_pad h, p16, eN_get (eX_padd h)]
  congr 1
  simp [List.getD, List.getElem?_append_left hi]
theorem eX_back {w : List Nat} (h : eOk w) (hl : w.length < 8) {v : Nat} (hv : v < 16) : (eX w ||| ((nI v).toInt64 <<< (((4 : Int32) * nI w.length).toInt64 &&& 63))) + (4294967296 : Int64) = eX (w ++ [v]) := by
  have h1 := eN_lt w h.2
  have h8 := eN_8 h
  have hp : v * 16 ^ w.length + eN w < 4294967296 := by
    have a : v * 16 ^ w.length + eN w < (v + 1) * 16 ^ w.length := by rw [Nat.add_mul, Nat.one_mul]; omega
    have b : (v + 1) * 16 ^ w.length ≤ 16 * 16 ^ 7 := Nat.mul_le_mul (by omega) (Nat.pow_le_pow_right (by omega) (by omega))
    have c : 16 * 16 ^ 7 = 4294967296 := by decide
    omega
  rw [mul4, nI_l (by omega), wb_shl v (by omega)]
  unfold eX
  rw [wb_or (by omega) (by rw [p16]; omega)]
  show lN _ + lN 4294967296 = lN _
  rw [lN_add]
  congr 1
  rw [eN_app, List.length_append, p16]
  have e1 : eN w + 4294967296 * w.length = 2 ^ 32 * w.length ||| eN w := by
    rw [← Nat.two_pow_add_eq_or_of_lt (by omega)]
    omega
  have e2 : eN w ||| v * 16 ^ w.length = v * 16 ^ w.length + eN w := by
    rw [Nat.or_comm, ← p16, Nat.mul_comm, ← Nat.two_pow_add_eq_or_of_lt (by rw [p16]; exact h1)]
  rw [e1, Nat.or_assoc, e2, ← Nat.two_pow_add_eq_or_of_lt (by omega)]
  show 2 ^ 32 * w.length + (v * 16 ^ w.length + eN w) + 4294967296 = eN w + 16 ^ w.length * eN [v] + 4294967296 * (w.length + 1)
  rw [eN_one, Nat.mul_comm (16 ^ w.length) v]
  omega
theorem lA_not (x y : Int64) : x &&& (y ^^^ (-1)) = x - (x &&& y) := by
  apply Int64.toBitVec_inj.1
  rw [Int64.toBitVec_and, Int64.toBitVec_xor, Int64.toBitVec_sub, Int64.toBitVec_and]
  generalize x.toBitVec = X
  generalize y.toBitVec = Y
  have e : Y ^^^ (-1 : Int64).toBitVec = ~~~ Y := by
    apply BitVec.eq_of_getLsbD_eq
    intro i hi
    have : (-1 : Int64).toBitVec = BitVec.allOnes 64 := by decide
    rw [this, BitVec.getLsbD_xor, BitVec.getLsbD_not, BitVec.getLsbD_allOnes]
    cases Y.getLsbD i <;> simp [hi]
  rw [e]
  have h0 : (X &&& Y) &&& (X &&& ~~~ Y) = 0#64 := by
    apply BitVec.eq_of_getLsbD_eq
    intro i hi
    rw [BitVec.getLsbD_and, BitVec.getLsbD_and, BitVec.getLsbD_and, BitVec.getLsbD_not, BitVec.getLsbD_zero]
    cases X.getLsbD i <;> cases Y.getLsbD i <;> simp
  have h1 : (X &&& Y) + (X &&& ~~~ Y) = X := by
    rw [BitVec.add_eq_or_of_and_eq_zero _ _ h0]
    apply BitVec.eq_of_getLsbD_eq
    intro i hi
    rw [BitVec.getLsbD_or, BitVec.getLsbD_and, BitVec.getLsbD_and, BitVec.getLsbD_not]
    cases X.getLsbD i <;> cases Y.getLsbD i <;> simp [hi]
  calc X &&& ~~~ Y = (X &&& Y) + (X &&& ~~~ Y) - (X &&& Y) := by rw [BitVec.add_comm, BitVec.add_sub_cancel]
    _ = X - (X &&& Y) := by rw [h1]
theorem and15 (a k : Nat) : a &&& 15 * 2 ^ k = a / 2 ^ k % 16 * 2 ^ k := by
  apply Nat.eq_of_testBit_eq
  intro i
  rw [Nat.testBit_and, Nat.testBit_mul_two_pow, Nat.testBit_mul_two_pow]
  by_cases h : k ≤ i
  · have e : (15 : Nat) = 2 ^ 4 - 1 := by decide
    have e2 : (16 : Nat) = 2 ^ 4 := by decide
    rw [e, e2, Nat.testBit_two_pow_sub_one, Nat.testBit_mod_two_pow, Nat.testBit_div_two_pow]
    have : i - k + k = i := by omega
    have h3 : k + (i - k) = i := by omega
    simp only [this, h3, ge_iff_le, h, decide_true, Bool.true_and]
    rw [Bool.and_comm]
  · simp [h]
theorem eX_dropB {w : List Nat} (h : eOk w) (hne : w ≠ []) : (eX w &&& ((((15 : Int64) <<< (((4 : Int32) * (nI w.length - (1 : Int32))).toInt64 &&& 63))) ^^^ (-1 : Int64))) - (4294967296 : Int64) = eX w.dropLast := by
  have h8 := eN_8 h
  have h2 := h.1
  obtain ⟨x, hx⟩ : ∃ x, w = w.dropLast ++ [x] := ⟨w.getLast hne, (List.dropLast_concat_getLast hne).symm⟩
  generalize w.dropLast = d at hx
  subst hx
  have hd : eOk d := ⟨by simp at h2; omega, fun y hy => h.2 y (List.mem_append_left _ hy)⟩
  have hx : x < 16 := h.2 x (List.mem_append_right _ (List.mem_singleton.mpr rfl))
  have h3 := eN_lt d hd.2
  have hl : (d ++ [x]).length = d.length + 1 := by simp
  rw [hl] at h2
  have e0 : nI (d ++ [x]).length - (1 : Int32) = nI d.length := by rw [hl]; exact nI_pred _
  rw [e0, mul4]
  have e1 : (15 : Int64) <<< ((nI (4 * d.length)).toInt64 &&& 63) = lN (15 * 2 ^ (4 * d.length)) := wb_shl 15 (by omega)
  have hb : 15 * 2 ^ (4 * d.length) < 4294967296 := by
    have b : 15 * 16 ^ d.length ≤ 15 * 16 ^ 7 := Nat.mul_le_mul (by omega) (Nat.pow_le_pow_right (by omega) (by omega))
    have c : 15 * 16 ^ 7 < 4294967296 := by decide
    rw [p16]
    omega
  rw [e1, lA_not]
  unfold eX
  rw [wb_and (by omega) (by omega), and15, p16]
  have e2 : (eN (d ++ [x]) + 4294967296 * (d ++ [x]).length) / 16 ^ d.length % 16 = x := by
    rw [eX_pad h, eN_get (eX_padd h)]
    simp [List.getD]
  rw [e2]
  have e3 : eN (d ++ [x]) = eN d + 16 ^ d.length * x := by
    rw [eN_app, eN_one]
  rw [e3, hl, Nat.mul_comm x]
  have e4 : (4294967296 : Int64) = lN 4294967296 := by decide
  rw [e4, lN_sub (by omega), lN_sub (by omega)]
  exact congrArg lN (by omega)
theorem eX_dropF {w : List Nat} (h : eOk w) (hne : w ≠ []) : ((eX w &&& (4294967295 : Int64)).toUInt64 >>> ((4 : Int32).toInt64.toUInt64 &&& Int64.toUInt64 63)).toInt64 ||| (((nI w.length - (1 : Int32)).toInt64) <<< ((32 : Int32).toInt64 &&& 63)) = eX w.tail := by
  cases w with
  | nil => exact absurd rfl hne
  | cons x t =>
    have h8 := eN_8 h
    have h2 : t.length + 1 ≤ 8 := h.1
    have hx : x < 16 := h.2 x (List.mem_cons_self ..)
    have ht : eOk t := ⟨by omega, fun y hy => h.2 y (List.mem_cons_of_mem _ hy)⟩
    have h9 := eN_8 ht
    have e0 : nI (x :: t).length - (1 : Int32) = nI t.length := nI_pred _
    have e1 : (nI t.length).toInt64 <<< ((32 : Int32).toInt64 &&& 63) = lN (t.length * 2 ^ 32) := by
      rw [nI_l (by omega)]
      exact wb_shl (k := 32) _ (by omega)
    have e2 : eX (x :: t) &&& (4294967295 : Int64) = lN (eN (x :: t)) := by
      have hm : (4294967295 : Int64) = lN (2 ^ 32 - 1) := by decide
      have hl : (x :: t).length = t.length + 1 := rfl
      unfold eX
      rw [hm, wb_mask (k := 32) (by rw [hl]; omega) (by omega)]
      exact congrArg lN (by omega)
    rw [e0, e1, e2, g_ushr (k := 4) (p := 16) (by decide) (by omega) (by decide) (by omega)]
    have e3 : eN (x :: t) / 16 = eN t := by
      show (x + 16 * eN t) / 16 = _
      omega
    rw [e3, g_or' (k := 32) (p := 2 ^ 32) rfl (by omega) (by omega)]
    show lN _ = lN (eN t + 4294967296 * t.length)
    congr 1
    omega
theorem eX_nil : eX [] = 0 := by decide
theorem eX_zero {w : List Nat} (h : eOk w) : eX w = 0 ↔ w = [] := by
  refine ⟨fun e => ?_, fun e => by rw [e, eX_nil]⟩
  exact eX_inj h ⟨by simp, fun x hx => absurd hx (List.not_mem_nil)⟩ (by rw [e, eX_nil])
end
section
/-! Sets of calls as bits; the class's store, row by row -/
theorem bt1 : ∀ i, i < 32 → bt 1 i = decide (i = 0) := by decide +kernel
theorem mB_in (x : Int32) {i : Nat} (hi : i < 32) : ((x >>> (nI i &&& 31)) &&& (1 : Int32)) = 0 ↔ bt x i = false := by
  constructor
  · intro h
    have h2 := congrArg (fun z => bt z 0) h
    rw [b_and, b_sshr i hi x (by omega), bt1 0 (by omega), b_0, if_pos (by omega)] at h2
    simpa using h2
  · intro h
    apply b_ext
    intro j hj
    rw [b_and, b_0, bt1 j hj]
    by_cases h0 : j = 0
    · subst h0
      rw [b_sshr i hi x hj, if_pos (by omega), Nat.add_zero, h]
      rfl
    · simp [h0]
theorem mB_sub (x y : Int32) : (x &&& (y ^^^ (-1 : Int32))) = 0 ↔ ∀ i, i < 32 → bt x i = true → bt y i = true := by
  constructor
  · intro h i hi hx
    have h2 := congrArg (fun z => bt z i) h
    rw [b_and, b_xor, b_m1 i hi, b_0, hx] at h2
    simpa using h2
  · intro h
    apply b_ext
    intro i hi
    rw [b_and, b_xor, b_m1 i hi, b_0]
    by_cases hx : bt x i = true
    · rw [hx, h i hi hx]; rfl
    · rw [Bool.not_eq_true] at hx
      rw [hx]; rfl
theorem mB_set (x : Int32) {c i : Nat} (hc : c < 32) (hi : i < 32) : bt (x ||| ((1 : Int32) <<< (nI c &&& 31))) i = (bt x i || decide (i = c)) := by
  rw [b_or, b_shl c hc 1 hi]
  congr 1
  by_cases h : c ≤ i
  · rw [bt1 (i - c) (by omega)]
    by_cases h2 : i = c
    · subst h2; simp
    · have : ¬ i - c = 0 := by omega
      simp [h2, this]
  · have : ¬ i = c := by omega
    simp [h, this]
theorem lgc0 (x y : Int64) : lg_cmp x y = 0 ↔ x = y := by
  unfold lg_cmp
  by_cases h : x > y
  · rw [if_pos h]
    refine ⟨fun e => absurd e (by decide), fun e => ?_⟩
    rw [e] at h
    exact absurd h Int64.lt_irrefl
  · rw [if_neg h]
    by_cases h2 : x = y
    · rw [if_pos h2]; exact ⟨fun _ => h2, fun _ => rfl⟩
    · rw [if_neg h2]; exact ⟨fun e => absurd e (by decide), fun e => absurd e h2⟩
/-- the store's part of the record in the class -/
def xSt (r : zR) (σ : zS) : Prop := σ.1 0 = rK r ∧ σ.1 1 = nI (rC r) ∧ ∀ c, c < rN r → σ.2.1 5 c = rW r c ∧ σ.2.1 6 c = rP r c ∧ (rP r c ≠ 0 → σ.2.1 7 c = nI (rV r c))
theorem s_length {w : List Nat} {post : Int32 → Prop} (h : eOk w) (hp : post (nI w.length)) : j_X2_length (eX w) post := by
  unfold j_X2_length
  rw [eX_len h]
  exact hp
theorem s_valueAt {w : List Nat} {i : Nat} {post : Int32 → Prop} (h : eOk w) (hi : i < w.length) (hp : post (nI (w.getD i 0))) : j_X2_valueAt (eX w) (nI i) post := by
  unfold j_X2_valueAt
  rw [eX_at h hi]
  exact hp
theorem s_withBack {w : List Nat} {v : Nat} {post : Int64 → Prop} (h : eOk w) (hl : w.length < 8) (hv : v < 16) (hp : post (eX (w ++ [v]))) : j_X2_withBack (eX w) (nI v) post := by
  unfold j_X2_withBack
  refine s_length h ?_
  rw [eX_back h hl hv]
  exact hp
theorem s_withoutBack {w : List Nat} {post : Int64 → Prop} (h : eOk w) (hne : w ≠ []) (hp : post (eX w.dropLast)) : j_X2_withoutBack (eX w) post := by
  unfold j_X2_withoutBack
  refine s_length h (znm_i ?_)
  rw [eX_dropB h hne]
  exact hp
theorem s_withoutFront {w : List Nat} {post : Int64 → Prop} (h : eOk w) (hne : w ≠ []) (hp : post (eX w.tail)) : j_X2_withoutFront (eX w) post := by
  unfold j_X2_withoutFront
  refine znm_i (s_length h ?_)
  rw [eX_dropF h hne]
  exact hp
theorem s_hasRoom {r : zR} {σ : zS} {w : List Nat} {post : Int32 → zS → Prop} (hs : xSt r σ) (hc : rC r ≤ 8) (h : eOk w) (h1 : w.length < rC r → post 1 σ) (h0 : ¬ w.length < rC r → post 0 σ) : j_X4_hasRoom (eX w) σ post := by
  unfold j_X4_hasRoom
  refine s_length h ?_
  have h8 := h.1
  rw [hs.2.1, nI_leI (by omega) (by omega)]
  exact ⟨fun g => h0 (by omega), fun g => h1 (by omega)⟩
theorem s_takesBack {r : zR} {σ : zS} {c : Nat} {post : Int32 → zS → Prop} (hs : xSt r σ) (h1 : (rK r = 1 ∨ (rK r = 2 ∧ rW r c = 0)) → post 1 σ) (h0 : ¬ (rK r = 1 ∨ (rK r = 2 ∧ rW r c = 0)) → post 0 σ) : j_X4_takesBack (rW r c) σ post := by
  unfold j_X4_takesBack
  rw [hs.1]
  refine ⟨fun g => h1 (Or.inl g), fun g => ⟨fun g2 => ⟨fun g3 => h1 (Or.inr ⟨g2, g3⟩), fun g3 => h0 (fun h => h.elim g (fun h => g3 h.2))⟩, fun g2 => h0 (fun h => h.elim g (fun h => g2 h.1))⟩⟩
theorem s_replyTo {r : zR} {σ : zS} {c : Nat} {w : List Nat} {post : Int32 → zS → Prop} (hs : xSt r σ) (hr : rC r ≤ 8) (hc : c < rN r) (h : eOk w) (hp : post (rStep r c w).1 σ) : j_X4_replyTo c (eX w) σ post := by
  obtain ⟨e1, e2, e3⟩ := hs.2.2 c hc
  unfold j_X4_replyTo
  unfold rStep at hp
  rw [e2, e1]
  refine ⟨fun g => ?_, fun g => ?_⟩
  · rw [if_pos g] at hp
    rw [lgc0, eX_zero h]
    refine ⟨fun g2 => ?_, fun g2 => ?_⟩
    · rw [if_pos g2] at hp
      exact hp
    · rw [if_neg g2] at hp
      have hl : 0 < w.length := List.length_pos_iff.mpr g2
      refine s_takesBack hs (fun g3 => ?_) (fun g3 => ?_)
      · rw [if_pos g3] at hp
        refine ⟨fun g4 => absurd g4 (by decide), fun _ => s_length h ?_⟩
        have e : nI w.length - (1 : Int32) = nI (w.length - 1) := by
          have : w.length = (w.length - 1) + 1 := by omega
          rw [this]
          exact nI_pred _
        rw [e]
        exact s_valueAt h (by omega) hp
      · rw [if_neg g3] at hp
        exact ⟨fun _ => s_valueAt (i := 0) h hl hp, fun g4 => absurd rfl g4⟩
  · rw [if_neg g] at hp
    refine s_hasRoom hs hr h (fun g2 => ?_) (fun g2 => ?_)
    · rw [if_pos g2] at hp
      exact ⟨fun g4 => absurd g4 (by decide), fun _ => hp⟩
    · rw [if_neg g2] at hp
      exact ⟨fun _ => hp, fun g4 => absurd rfl g4⟩
theorem s_rowAfter {r : zR} {σ : zS} {c : Nat} {w : List Nat} {post : Int64 → zS → Prop} (hs : xSt r σ) (hr : rC r ≤ 8) (hc : c < rN r) (hv : rP r c ≠ 0 → rV r c < 16) (h : eOk w) (hp : post (eX (rStep r c w).2) σ) : j_X4_rowAfter c (eX w) σ post := by
  obtain ⟨e1, e2, e3⟩ := hs.2.2 c hc
  unfold j_X4_rowAfter
  unfold rStep at hp
  rw [e2, e1]
  refine ⟨fun g => ?_, fun g => ?_⟩
  · rw [if_pos g] at hp
    rw [lgc0, eX_zero h]
    refine ⟨fun g2 => ?_, fun g2 => ?_⟩
    · rw [if_pos g2] at hp
      rw [g2]
      exact hp
    · rw [if_neg g2] at hp
      refine s_takesBack hs (fun g3 => ?_) (fun g3 => ?_)
      · rw [if_pos g3] at hp
        exact ⟨fun g4 => absurd g4 (by decide), fun _ => s_withoutBack h g2 hp⟩
      · rw [if_neg g3] at hp
        exact ⟨fun _ => s_withoutFront h g2 hp, fun g4 => absurd rfl g4⟩
  · rw [if_neg g] at hp
    refine s_hasRoom hs hr h (fun g2 => ?_) (fun g2 => ?_)
    · rw [if_pos g2] at hp
      refine ⟨fun g4 => absurd g4 (by decide), fun _ => ?_⟩
      rw [e3 g]
      exact s_withBack h (by omega) (hv g) hp
    · rw [if_neg g2] at hp
      exact ⟨fun _ => hp, fun g4 => absurd rfl g4⟩
theorem rStep_ok {r : zR} {c : Nat} {w : List Nat} (hr : rC r ≤ 8) (hv : rP r c ≠ 0 → rV r c < 16) (h : eOk w) : eOk (rStep r c w).2 := by
  unfold rStep
  by_cases g : rP r c = 0
  · rw [if_pos g]
    by_cases g2 : w = []
    · rw [if_pos g2]; exact ⟨by simp, fun x hx => absurd hx (List.not_mem_nil)⟩
    · rw [if_neg g2]
      by_cases g3 : rK r = 1 ∨ (rK r = 2 ∧ rW r c = 0)
      · rw [if_pos g3]
        exact ⟨by have := h.1; simp; omega, fun x hx => h.2 x ((List.dropLast_sublist w).subset hx)⟩
      · rw [if_neg g3]
        exact ⟨by have := h.1; simp; omega, fun x hx => h.2 x (List.mem_of_mem_tail hx)⟩
  · rw [if_neg g]
    by_cases g2 : w.length < rC r
    · rw [if_pos g2]
      refine ⟨by simp; omega, fun x hx => ?_⟩
      rcases List.mem_append.mp hx with hx | hx
      · exact h.2 x hx
      · rw [List.mem_singleton.mp hx]; exact hv g
    · rw [if_neg g2]; exact h
theorem rRun_ok {r : zR} (hwf : rWF r) : ∀ (L : List Nat), (∀ c, c ∈ L → c < rN r) → eOk (rRun r L).1 := by
  have key : ∀ (L : List Nat) (s : List Nat × (Nat → Int32)), eOk s.1 → (∀ c, c ∈ L → c < rN r) → eOk (L.foldl (rAdd r) s).1 := by
    intro L
    induction L with
    | nil => intro s h _; exact h
    | cons c t ih =>
      intro s h hc
      rw [List.foldl_cons]
      exact ih _ (rStep_ok hwf.2.1.2 (hwf.2.2.1 c (hc c (List.mem_cons_self ..))).2.2.2 h) (fun d hd => hc d (List.mem_cons_of_mem _ hd))
  intro L hc
  exact key L ([], fun _ => 0) ⟨by simp, fun x hx => absurd hx (List.not_mem_nil)⟩ hc
end
section
/-! The class's set of rows: the different rows in the order in which they came, found by slots -/
def hS (x : Int64) : Nat := ((((x * (-7046029254386353131 : Int64)).toUInt64 >>> ((54 : Int32).toInt64.toUInt64 &&& Int64.toUInt64 63)).toInt64).toInt32).toNatClampNeg
theorem hS_ok (x : Int64) : (((x * (-7046029254386353131 : Int64)).toUInt64 >>> ((54 : Int32).toInt64.toUInt64 &&& Int64.toUInt64 63)).toInt64).toInt32 = nI (hS x) ∧ hS x < 1024 := by
  unfold hS
  obtain ⟨n, hn, hx⟩ := wb_of (x * (-7046029254386353131 : Int64))
  rw [hx, g_ushr (k := 54) (p := 18014398509481984) (by decide) (by omega) (by decide) hn, lN_i]
  have : n / 18014398509481984 < 1024 := by omega
  rw [nI_clamp (by omega)]
  exact ⟨rfl, this⟩
def dd (rs : List (List Nat)) (w : List Nat) : List (List Nat) := if w ∈ rs then rs else rs ++ [w]
def xSl (rs : List (List Nat)) (σ : zS) (sl : Nat → Nat) : Prop :=
  (∀ p, p < 1024 → σ.2.1 4 p = nI (sl p) ∧ sl p ≤ rs.length) ∧ (∀ p q, p < 1024 → q < 1024 → sl p ≠ 0 → sl p = sl q → p = q)
  ∧ ∀ i v, rs[i]? = some v → ∃ t, t < 1024 ∧ sl ((hS (eX v) + t) % 1024) = i + 1 ∧ ∀ t', t' < t → sl ((hS (eX v) + t') % 1024) ≠ 0
def xSet (rs : List (List Nat)) (σ : zS) : Prop :=
  rs.Nodup ∧ (∀ w, w ∈ rs → eOk w) ∧ rs.length ≤ 680 ∧ σ.1 8 = nI rs.length ∧ (∀ i v, rs[i]? = some v → σ.2.2 0 i = eX v) ∧ ∃ sl, xSl rs σ sl
def xFr (σ σ' : zS) : Prop := (∀ k, k ≠ 8 → σ'.1 k = σ.1 k) ∧ ∀ k, k ≠ 4 → σ'.2.1 k = σ.2.1 k
theorem slot_inj {h a b : Nat} (ha : a < 1024) (hb : b < 1024) (e : (h + a) % 1024 = (h + b) % 1024) : a = b := by omega
theorem slots_full {rs : List (List Nat)} {σ : zS} {sl : Nat → Nat} {h : Nat} (hs : xSl rs σ sl) (hl : rs.length ≤ 680) (hf : ∀ t, t < 1024 → sl ((h + t) % 1024) ≠ 0) : False := by
  have hn : ((List.range 1024).map (fun t => sl ((h + t) % 1024))).Nodup := by
    show List.Pairwise (· ≠ ·) _
    rw [List.pairwise_map]
    refine List.Pairwise.imp_of_mem ?_ (List.nodup_range (n := 1024))
    intro a b ha hb hab e
    have ha := List.mem_range.mp ha
    have hb := List.mem_range.mp hb
    exact hab (slot_inj ha hb (hs.2.1 _ _ (Nat.mod_lt _ (by omega)) (Nat.mod_lt _ (by omega)) (hf a ha) e))
  have hsub := List.Nodup.length_le_of_subset (l₂ := List.range 681) hn (by
    intro x hx
    obtain ⟨t, ht, rfl⟩ := List.mem_map.mp hx
    have := (hs.1 ((h + t) % 1024) (Nat.mod_lt _ (by omega))).2
    exact List.mem_range.mpr (by omega))
  simp at hsub
theorem xSet_new {rs : List (List Nat)} {σ σ' : zS} {sl : Nat → Nat} {w : List Nat} {t : Nat} (hS0 : xSet rs σ) (hs : xSl rs σ sl) (hw : eOk w) (hin : w ∉ rs) (hl : rs.length < 680) (ht : t < 1024) (h0 : sl ((hS (eX w) + t) % 1024) = 0) (hocc : ∀ t', t' < t → sl ((hS (eX w) + t') % 1024) ≠ 0)
    (e1 : σ'.1 8 = nI (rs.length + 1)) (e2 : ∀ i, σ'.2.2 0 i = vp_updL (σ.2.2 0) rs.length (eX w) i) (e3 : ∀ p, σ'.2.1 4 p = upd (σ.2.1 4) ((hS (eX w) + t) % 1024) (nI (rs.length + 1)) p) : xSet (rs ++ [w]) σ' := by
  obtain ⟨a1, a2, a3, a4, a5, -⟩ := hS0
  obtain ⟨b1, b2, b3⟩ := hs
  refine ⟨List.nodup_append.mpr ⟨a1, by simp, fun x hx y hy e => hin (by rw [← List.mem_singleton.mp hy, ← e]; exact hx)⟩, ?_, by simp; omega, by rw [e1]; simp, ?_, fun p => if p = (hS (eX w) + t) % 1024 then rs.length + 1 else sl p, ?_, ?_, ?_⟩
  · intro x hx
    rcases List.mem_append.mp hx with hx | hx
    · exact a2 x hx
    · rw [List.mem_singleton.mp hx]; exact hw
  · intro i v hv
    rw [e2]
    by_cases hi : i < rs.length
    · rw [List.getElem?_append_left hi] at hv
      rw [pk_uLn (by omega)]
      exact a5 i v hv
    · have hi2 : i = rs.length := by
        have := (List.getElem?_eq_some_iff.mp hv).1
        simp at this
        omega
      subst hi2
      rw [pk_uLs]
      simp at hv
      rw [hv]
  · intro p hp
    dsimp only
    rw [e3]
    by_cases hpp : p = (hS (eX w) + t) % 1024
    · rw [if_pos hpp, hpp, pk_us]
      exact ⟨rfl, by simp⟩
    · rw [if_neg hpp, pk_un hpp]
      have := b1 p hp
      exact ⟨this.1, by simp; omega⟩
  · intro p q hp hq
    dsimp only
    have bp := (b1 p hp).2
    have bq := (b1 q hq).2
    by_cases hpp : p = (hS (eX w) + t) % 1024
    · rw [if_pos hpp]
      by_cases hqq : q = (hS (eX w) + t) % 1024
      · intro _ _; rw [hpp, hqq]
      · rw [if_neg hqq]; intro _ e; omega
    · rw [if_neg hpp]
      by_cases hqq : q = (hS (eX w) + t) % 1024
      · rw [if_pos hqq]; intro _ e; omega
      · rw [if_neg hqq]; exact b2 p q hp hq
  · intro i v hv
    dsimp only
    by_cases hi : i < rs.length
    · rw [List.getElem?_append_left hi] at hv
      obtain ⟨t1, ht1, g1, g2⟩ := b3 i v hv
      refine ⟨t1, ht1, ?_, fun t' ht' => ?_⟩
      · rw [if_neg (fun e => by rw [e, h0] at g1; omega)]
        exact g1
      · by_cases e : (hS (eX v) + t') % 1024 = (hS (eX w) + t) % 1024
        · rw [if_pos e]; omega
        · rw [if_neg e]; exact g2 t' ht'
    · have hi2 : i = rs.length := by
        have := (List.getElem?_eq_some_iff.mp hv).1
        simp at this
        omega
      subst hi2
      have hv : w = v := by simpa using hv
      subst hv
      refine ⟨t, ht, by rw [if_pos rfl], fun t' ht' => ?_⟩
      by_cases e : (hS (eX w) + t') % 1024 = (hS (eX w) + t) % 1024
      · rw [if_pos e]; omega
      · rw [if_neg e]; exact hocc t' ht'
theorem s_add {rs : List (List Nat)} {w : List Nat} {σ : zS} {post : zS → Prop} (hS0 : xSet rs σ) (hw : eOk w) (hroom : w ∈ rs ∨ rs.length < 680) (hp : ∀ σ', xSet (dd rs w) σ' → xFr σ σ' → post σ') : j_X3_add (eX w) σ post := by
  obtain ⟨a1, a2, a3, a4, a5, sl, hsl⟩ := id hS0
  obtain ⟨b1, b2, b3⟩ := id hsl
  obtain ⟨hh, hlt⟩ := hS_ok (eX w)
  unfold j_X3_add
  refine znm_i ?_
  rw [hh]
  refine zLP_rule (fun q => ∃ t, t ≤ 1024 ∧ q = (nI ((hS (eX w) + t) % 1024), nI t, σ) ∧ ∀ t', t' < t → sl ((hS (eX w) + t') % 1024) ≠ 0 ∧ ∀ v, rs[sl ((hS (eX w) + t') % 1024) - 1]? = some v → v ≠ w) (fun q => 1024 - q.2.1.toNatClampNeg) ?_ _ ⟨0, by omega, by rw [Nat.add_zero, Nat.mod_eq_of_lt hlt]; rfl, fun t' h => absurd h (by omega)⟩
  rintro q ⟨t, ht, rfl, hocc⟩ R hR
  have hnext : ¬ t = 1024 → sl ((hS (eX w) + t) % 1024) ≠ 0 → (∀ v, rs[sl ((hS (eX w) + t) % 1024) - 1]? = some v → v ≠ w) → R ((nI ((hS (eX w) + t) % 1024) + (1 : Int32)) - (nI ((hS (eX w) + t) % 1024) + (1 : Int32)) / (1024 : Int32) * (1024 : Int32), nI t + 1, σ) := by
    intro hne g1 g2
    have em : (hS (eX w) + t) % 1024 < 1024 := Nat.mod_lt _ (by omega)
    have e1 : (nI ((hS (eX w) + t) % 1024) + (1 : Int32)) - (nI ((hS (eX w) + t) % 1024) + (1 : Int32)) / (1024 : Int32) * (1024 : Int32) = nI ((hS (eX w) + (t + 1)) % 1024) := by
      rw [nI_1]
      have := pk_rem (a := (hS (eX w) + t) % 1024 + 1) (d := 1024) (by omega) (by omega) (by omega)
      refine Eq.trans this ?_
      congr 1
      omega
    rw [e1, nI_1]
    refine hR _ ⟨t + 1, by omega, rfl, fun t' h => ?_⟩ ?_
    · by_cases e : t' = t
      · subst e; exact ⟨g1, g2⟩
      · exact hocc t' (by omega)
    · dsimp only
      rw [nI_clamp (by omega), nI_clamp (by omega)]
      omega
  dsimp only [b_X3_add_13]
  have hle : (1024 : Int32) ≤ nI t ↔ 1024 ≤ t := nI_leI (a := 1024) (by omega) (by omega)
  rw [hle]
  refine ⟨fun g => ?_, fun g => ?_⟩
  · exfalso
    have : t = 1024 := by omega
    subst this
    exact slots_full hsl a3 (fun t' h => (hocc t' h).1)
  · have hp0 : (hS (eX w) + t) % 1024 < 1024 := Nat.mod_lt _ (by omega)
    have hin := vp_in_nI hp0 (by omega)
    refine ⟨hin, znm_i ?_⟩
    rw [nI_clamp (by omega)]
    obtain ⟨c1, c2⟩ := b1 _ hp0
    rw [c1]
    have hz : nI (sl ((hS (eX w) + t) % 1024)) = 0 ↔ sl ((hS (eX w) + t) % 1024) = 0 := nI_eq (b := 0) (by omega) (by omega)
    rw [hz]
    refine ⟨fun g0 => ⟨fun _ => ?_, fun g1 => absurd g0 g1⟩, fun g0 => ?_⟩
    · have hnin : w ∉ rs := by
        intro hm
        obtain ⟨i, hi⟩ := List.getElem?_of_mem hm
        obtain ⟨t1, ht1, f1, f2⟩ := b3 i w hi
        rcases Nat.lt_trichotomy t1 t with h | h | h
        · refine (hocc t1 h).2 w ?_ rfl
          rw [f1]
          exact hi
        · rw [h, g0] at f1
          omega
        · exact f2 t h g0
      have hl : rs.length < 680 := hroom.elim (fun h => absurd h hnin) id
      have h6 : (680 : Int32) ≤ σ.1 8 ↔ 680 ≤ rs.length := by rw [a4]; exact nI_leI (a := 680) (by omega) (by omega)
      rw [h6]
      refine ⟨fun g1 => absurd g1 (by omega), fun _ => ?_⟩
      rw [a4]
      refine ⟨vp_in_nI hl (by omega), znm_i (znm_i ⟨hin, znm_i (hp _ ?_ ?_)⟩)⟩
      · unfold dd
        rw [if_neg hnin]
        refine xSet_new hS0 hsl hw hnin hl (by omega) g0 (fun t' h => (hocc t' h).1) ?_ ?_ ?_
        · simp [zA, zF, zI, zL, zG, va_up, a4, nI_1]
        · intro i
          simp [zA, zF, zI, zL, zG, va_up, nI_clamp (show rs.length < 2 ^ 31 by omega)]
        · intro p
          simp [zA, zF, zI, zL, zG, va_up, a4, nI_1, nI_clamp (show (hS (eX w) + t) % 1024 < 2 ^ 31 by omega)]
      · refine ⟨fun k hk => ?_, fun k hk => ?_⟩
        · simp [zA, zF, zI, zL, zG, va_up, hk]
        · simp [zA, zF, zI, zL, zG, va_up, hk]
    · have hpred : nI (sl ((hS (eX w) + t) % 1024)) - (1 : Int32) = nI (sl ((hS (eX w) + t) % 1024) - 1) := by
        have : sl ((hS (eX w) + t) % 1024) = (sl ((hS (eX w) + t) % 1024) - 1) + 1 := by omega
        rw [this]
        exact nI_pred _
      rw [hpred]
      refine ⟨vp_in_nI (by omega) (by omega), ?_⟩
      rw [nI_clamp (by omega)]
      obtain ⟨v, hv⟩ : ∃ v, rs[sl ((hS (eX w) + t) % 1024) - 1]? = some v := ⟨_, List.getElem?_eq_getElem (by omega)⟩
      rw [a5 _ v hv, lgc0]
      have hvok := a2 v (List.mem_of_getElem? hv)
      refine ⟨fun g1 => ?_, fun g1 => ⟨fun g2 => absurd g2 g0, fun _ => znm_i (hnext (by omega) g0 (fun v2 hv2 => ?_))⟩⟩
      · have hm : w ∈ rs := by
          rw [← eX_inj hvok hw g1]
          exact List.mem_of_getElem? hv
        refine hp σ ?_ ⟨fun _ _ => rfl, fun _ _ => rfl⟩
        unfold dd
        rw [if_pos hm]
        exact hS0
      · rw [hv] at hv2
        rw [← Option.some.inj hv2]
        intro e
        exact g1 (by rw [e])
end
section
/-! What the class finds: totals, rows, replies; the search -/
def rOp (r : zR) (u : Int32) : Nat → Int32
  | 0 => -1
  | k + 1 => if rW r k = u ∧ rS r k = 0 then nI k else rOp r u k
def rO (r : zR) (u : Nat) : Int32 := rOp r (nI u) (rN r)
theorem rOp_spec (r : zR) (u : Int32) : ∀ k, (rOp r u k = -1 ∧ ∀ c, c < k → ¬ (rW r c = u ∧ rS r c = 0)) ∨ ∃ c, c < k ∧ rOp r u k = nI c ∧ rW r c = u ∧ rS r c = 0 := by
  intro k
  induction k with
  | zero => exact Or.inl ⟨rfl, fun c h => absurd h (by omega)⟩
  | succ k ih =>
    by_cases h : rW r k = u ∧ rS r k = 0
    · exact Or.inr ⟨k, by omega, if_pos h, h.1, h.2⟩
    · have e : rOp r u (k + 1) = rOp r u k := if_neg h
      rcases ih with ⟨h1, h2⟩ | ⟨c, h1, h2, h3⟩
      · refine Or.inl ⟨by rw [e, h1], fun c hc => ?_⟩
        by_cases hck : c = k
        · rw [hck]; exact h
        · exact h2 c (by omega)
      · exact Or.inr ⟨c, by omega, by rw [e, h2], h3⟩
theorem nI_m1 {c : Nat} (h : c < 2 ^ 31) : ¬ nI c = (-1 : Int32) := by
  intro e
  have := nI_pos h
  rw [e] at this
  exact this (by decide)
def rLst (r : zR) (u : Nat) (L : List Nat) : Prop := ∃ c, c < rN r ∧ rO r u = nI c ∧ c ∈ L
def rRp (r : zR) (u : Nat) (L : List Nat) : Int32 := (rRun r L).2 (rO r u).toNatClampNeg
noncomputable def rCnt (r : zR) (u : Nat) (E : List (List Nat)) : Nat := E.foldl (fun n L => rif (rLst r u L) (n + 1) n) 0
noncomputable def rBit (r : zR) (u : Nat) (E : List (List Nat)) : Int32 := E.foldl (fun b L => rif (rLst r u L) (b ||| ((1 : Int32) <<< ((rRp r u L + 1) &&& 31))) b) 0
def rRows (r : zR) (E : List (List Nat)) : List (List Nat) := E.foldl (fun rs L => dd rs (rRun r L).1) []
theorem rCnt_snoc (r : zR) (u : Nat) (E : List (List Nat)) (L : List Nat) : rCnt r u (E ++ [L]) = rif (rLst r u L) (rCnt r u E + 1) (rCnt r u E) := by
  simp [rCnt, List.foldl_append]
theorem rBit_snoc (r : zR) (u : Nat) (E : List (List Nat)) (L : List Nat) : rBit r u (E ++ [L]) = rif (rLst r u L) (rBit r u E ||| ((1 : Int32) <<< ((rRp r u L + 1) &&& 31))) (rBit r u E) := by
  simp [rBit, List.foldl_append]
theorem rRows_snoc (r : zR) (E : List (List Nat)) (L : List Nat) : rRows r (E ++ [L]) = dd (rRows r E) (rRun r L).1 := by
  simp [rRows, List.foldl_append]
theorem dd_len (rs : List (List Nat)) (w : List Nat) : (dd rs w).length ≤ rs.length + 1 := by
  unfold dd
  split
  · omega
  · simp
theorem rRows_len (r : zR) (E : List (List Nat)) : (rRows r E).length ≤ E.length := by
  have key : ∀ (E : List (List Nat)) (rs : List (List Nat)), (E.foldl (fun rs L => dd rs (rRun r L).1) rs).length ≤ rs.length + E.length := by
    intro E
    induction E with
    | nil => intro rs; simp
    | cons L t ih =>
      intro rs
      rw [List.foldl_cons, List.length_cons]
      have := ih (dd rs (rRun r L).1)
      have := dd_len rs (rRun r L).1
      omega
  have := key E []
  simpa [rRows] using this
/-- the record in the class -/
def xRec (r : zR) (σ : zS) : Prop := xSt r σ ∧ σ.1 2 = nI (rN r) ∧ (∀ d, d < 32 → (bt (σ.1 3) d = true ↔ d < rN r ∧ rS r d = 1)) ∧ (∀ d, d < 32 → (bt (σ.1 4) d = true ↔ d < rN r ∧ rS r d = 2))
  ∧ (∀ c, c < rN r → (∀ d, d < 32 → (bt (σ.2.1 8 c) d = true ↔ d < rN r ∧ rS r d = 1 ∧ rU r d < rF r c)) ∧ (rS r c = 1 → σ.2.1 9 c = rA r c)) ∧ ∀ u, u < 3 → σ.2.1 0 u = rO r u
def xFnd (r : zR) (E : List (List Nat)) (σ : zS) : Prop := σ.1 7 = nI E.length ∧ xSet (rRows r E) σ ∧ ∀ u, u < 3 → σ.2.1 2 u = nI (rCnt r u E) ∧ σ.2.1 3 u = rBit r u E
/-- what the search leaves as it was -/
def xKp (σ σ' : zS) : Prop := (∀ k, k ≠ 7 → k ≠ 8 → σ'.1 k = σ.1 k) ∧ ∀ k, k = 0 ∨ 5 ≤ k → σ'.2.1 k = σ.2.1 k
theorem xKp.rf (σ : zS) : xKp σ σ := ⟨fun _ _ _ => rfl, fun _ _ => rfl⟩
theorem xKp.tr {σ1 σ2 σ3 : zS} (h : xKp σ1 σ2) (g : xKp σ2 σ3) : xKp σ1 σ3 := ⟨fun k h7 h8 => (g.1 k h7 h8).trans (h.1 k h7 h8), fun k hk => (g.2 k hk).trans (h.2 k hk)⟩
theorem xSt.kp {r : zR} {σ σ' : zS} (h : xSt r σ) (g : xKp σ σ') : xSt r σ' := by
  obtain ⟨h1, h2, h3⟩ := h
  refine ⟨by rw [g.1 0 (by omega) (by omega)]; exact h1, by rw [g.1 1 (by omega) (by omega)]; exact h2, fun c hc => ?_⟩
  rw [g.2 5 (by omega), g.2 6 (by omega), g.2 7 (by omega)]
  exact h3 c hc
theorem xRec.kp {r : zR} {σ σ' : zS} (h : xRec r σ) (g : xKp σ σ') : xRec r σ' := by
  obtain ⟨h1, h2, h3, h4, h5, h6⟩ := h
  refine ⟨h1.kp g, by rw [g.1 2 (by omega) (by omega)]; exact h2, by rw [g.1 3 (by omega) (by omega)]; exact h3, by rw [g.1 4 (by omega) (by omega)]; exact h4, fun c hc => ?_, fun u hu => ?_⟩
  · rw [g.2 8 (by omega), g.2 9 (by omega)]; exact h5 c hc
  · rw [g.2 0 (by omega)]; exact h6 u hu
theorem xSet.eq {rs : List (List Nat)} {σ σ' : zS} (h : xSet rs σ) (e1 : σ'.1 8 = σ.1 8) (e2 : σ'.2.2 0 = σ.2.2 0) (e3 : σ'.2.1 4 = σ.2.1 4) : xSet rs σ' := by
  obtain ⟨a1, a2, a3, a4, a5, sl, b1, b2, b3⟩ := h
  exact ⟨a1, a2, a3, by rw [e1]; exact a4, by rw [e2]; exact a5, sl, by rw [e3]; exact b1, b2, b3⟩
theorem s_isIn {x : Int32} {i : Nat} {post : Int32 → Prop} (hi : i < 32) (h1 : bt x i = true → post 1) (h0 : bt x i = false → post 0) : j_X5_isIn x (nI i) post := by
  unfold j_X5_isIn
  rw [mB_in x hi]
  exact ⟨h0, fun h => h1 (by simpa using h)⟩
theorem i_sub (x : Int32) : x - (-1 : Int32) = x + 1 := by
  rw [Int32.sub_eq_add_neg]
  rfl
theorem s_note {r : zR} {E : List (List Nat)} {L : List Nat} {m : Int32} {σ : zS} {post : zS → Prop} (hwf : rWF r) (hr : xRec r σ) (hf : xFnd r E σ) (hm : ∀ d, d < 32 → (bt m d = true ↔ d ∈ L)) (hL : ∀ c, c ∈ L → c < rN r) (hrp : ∀ c, c ∈ L → σ.2.1 1 c = (rRun r L).2 c) (hroom : E.length < 680)
    (hp : ∀ σ', xKp σ σ' → σ'.2.1 1 = σ.2.1 1 → xFnd r (E ++ [L]) σ' → post σ') : j_X5_noteExplanation m (eX (rRun r L).1) σ post := by
  obtain ⟨f1, f2, f3⟩ := hf
  have hok := rRun_ok hwf L hL
  have hN := hwf.1
  unfold j_X5_noteExplanation j_X1_addExplanation
  refine znm_i ?_
  refine s_add (rs := rRows r E) (f2.eq rfl rfl rfl) hok (Or.inr (Nat.lt_of_le_of_lt (rRows_len r E) hroom)) (fun σ2 hs2 hfr => ?_)
  have ea : ∀ k, k ≠ 4 → σ2.2.1 k = σ.2.1 k := fun k hk => hfr.2 k hk
  have es : ∀ k, k ≠ 7 → k ≠ 8 → σ2.1 k = σ.1 k := fun k h7 h8 => by rw [hfr.1 k h8]; simp [zI, va_up, h7]
  have e7 : σ2.1 7 = nI (E.length + 1) := by rw [hfr.1 7 (by omega)]; simp [zI, va_up, f1, nI_1]
  refine zLP_rule (fun q => ∃ u, u ≤ 3 ∧ q.1 = nI u ∧ xSet (rRows r (E ++ [L])) q.2 ∧ q.2.1 = σ2.1 ∧ (∀ k, k ≠ 2 → k ≠ 3 → q.2.2.1 k = σ2.2.1 k) ∧ (∀ v, v < u → q.2.2.1 2 v = nI (rCnt r v (E ++ [L])) ∧ q.2.2.1 3 v = rBit r v (E ++ [L])) ∧ (∀ v, u ≤ v → v < 3 → q.2.2.1 2 v = nI (rCnt r v E) ∧ q.2.2.1 3 v = rBit r v E)) (fun q => 3 - q.1.toNatClampNeg) ?_ _ ⟨0, by omega, rfl, by rw [rRows_snoc]; exact hs2, rfl, fun _ _ _ => rfl, fun v h => absurd h (by omega), fun v _ hv => by rw [ea 2 (by omega), ea 3 (by omega)]; exact f3 v hv⟩
  rintro ⟨y, τ⟩ ⟨u, hu, hy, hset, hs1, ha1, hlo, hhi⟩ R hR
  dsimp only at hy hset hs1 ha1 hlo hhi
  subst hy
  dsimp only [b_X5_noteExplanation_11]
  have hle : (3 : Int32) ≤ nI u ↔ 3 ≤ u := nI_leI (a := 3) (by omega) (by omega)
  rw [hle]
  refine ⟨fun g => ?_, fun g => ?_⟩
  · have hu3 : u = 3 := by omega
    subst hu3
    refine hp τ ⟨fun k h7 h8 => by rw [hs1, es k h7 h8], fun k hk => by rw [ha1 k (by omega) (by omega), ea k (by omega)]⟩ (by rw [ha1 1 (by omega) (by omega), ea 1 (by omega)]) ⟨by rw [hs1, e7]; simp, hset, fun v hv => hlo v hv⟩
  · have hu3 : u < 3 := by omega
    have hopen : τ.2.1 0 u = rO r u := by rw [ha1 0 (by omega) (by omega), ea 0 (by omega)]; exact hr.2.2.2.2.2 u hu3
    refine ⟨vp_in_nI hu3 (by omega), znm_i ?_⟩
    rw [nI_clamp (by omega), hopen]
    have skip : ¬ rLst r u L → R (nI u + 1, τ) := by
      intro hn
      rw [nI_1]
      refine hR _ ⟨u + 1, by omega, rfl, hset, hs1, ha1, fun v hv => ?_, fun v hv hv3 => hhi v (by omega) hv3⟩ (by dsimp only; rw [nI_clamp (by omega), nI_clamp (by omega)]; omega)
      by_cases e : v = u
      · subst e
        rw [rCnt_snoc, rBit_snoc, rif_f hn, rif_f hn]
        exact hhi v (by omega) hu3
      · exact hlo v (by omega)
    rcases rOp_spec r (nI u) (rN r) with ⟨o1, o2⟩ | ⟨c, o1, o2, o3⟩
    · have o1 : rO r u = -1 := o1
      refine ⟨fun _ => skip ?_, fun g2 => absurd o1 g2⟩
      rintro ⟨c, hc, e, -⟩
      rw [o1] at e
      exact nI_m1 (by omega) e.symm
    · have o2 : rO r u = nI c := o2
      rw [o2]
      refine ⟨fun g2 => absurd g2 (nI_m1 (by omega)), fun _ => ?_⟩
      refine s_isIn (by omega) (fun b1 => ?_) (fun b0 => ?_)
      · have hc := (hm c (by omega)).mp b1
        refine ⟨fun g2 => absurd g2 (by decide), fun _ => ⟨vp_in_nI (show c < 8 by omega) (by omega), ?_⟩⟩
        unfold j_X1_addReply
        have hin := vp_in_nI hu3 (show 3 < 2 ^ 31 by omega)
        refine ⟨hin, hin, znm_i ⟨hin, hin, znm_i ?_⟩⟩
        rw [nI_clamp (by omega), nI_clamp (by omega), nI_1]
        have hrep : τ.2.1 1 c = rRp r u L := by
          rw [ha1 1 (by omega) (by omega), ea 1 (by omega), hrp c hc]
          unfold rRp
          rw [o2, nI_clamp (by omega)]
        have hl : rLst r u L := ⟨c, o1, o2, hc⟩
        obtain ⟨k1, k2⟩ := hhi u (by omega) hu3
        refine hR _ ⟨u + 1, by omega, rfl, hset.eq ?_ ?_ ?_, ?_, fun k h2 h3 => ?_, fun v hv => ?_, fun v hv hv3 => ?_⟩ (by dsimp only; rw [nI_clamp (by omega), nI_clamp (by omega)]; omega)
        · simp [zA, zF]
        · simp [zA, zF]
        · simp [zA, zF, va_up]
        · simp only [zA, zF]; exact hs1
        · have := ha1 k h2 h3
          simp [zA, zF, va_up, h2, h3, this]
        · by_cases e : v = u
          · subst e
            rw [rCnt_snoc, rBit_snoc, rif_t hl, rif_t hl]
            simp [zA, zF, va_up, upd, k1, k2, hrep, i_sub, nI_1]
          · have := hlo v (by omega)
            simp [zA, zF, va_up, upd, e, this.1, this.2]
        · have hvu : ¬ v = u := by omega
          have := hhi v (by omega) hv3
          simp [zA, zF, va_up, upd, hvu, this.1, this.2]
      · refine ⟨fun _ => skip ?_, fun g2 => absurd rfl g2⟩
        rintro ⟨d, hd, e, hdL⟩
        rw [o2, nI_eq (by omega) (by omega)] at e
        subst e
        have := (hm c (by omega)).mpr hdL
        rw [b0] at this
        exact absurd this (by decide)
theorem s_mayStandNext {r : zR} {L : List Nat} {m : Int32} {c : Nat} {σ : zS} {post : Int32 → zS → Prop} (hwf : rWF r) (hr : xRec r σ) (hm : ∀ d, d < 32 → (bt m d = true ↔ d ∈ L)) (hc : c < rN r) (h1 : rCX r L c → post 1 σ) (h0 : ¬ rCX r L c → post 0 σ) : j_X5_mayStandNext (nI c) m σ post := by
  have hN := hwf.1
  obtain ⟨-, -, -, q4, q5, -⟩ := hr
  unfold j_X5_mayStandNext
  refine s_isIn (by omega) (fun b1 => ?_) (fun b0 => ?_)
  · refine ⟨fun g => absurd g (by decide), fun _ => h0 (fun h => ?_)⟩
    rw [b_or, Bool.or_eq_true, hm c (by omega), q4 c (by omega)] at b1
    exact b1.elim h.1.1 (fun b => h.1.2 b.2)
  · refine ⟨fun _ => ⟨vp_in_nI (show c < 8 by omega) (by omega), ?_⟩, fun g => absurd rfl g⟩
    rw [← Bool.not_eq_true, b_or, Bool.or_eq_true, hm c (by omega), q4 c (by omega)] at b0
    have hfree : c ∉ L ∧ rS r c ≠ 2 := ⟨fun h => b0 (Or.inl h), fun h => b0 (Or.inr ⟨hc, h⟩)⟩
    rw [nI_clamp (by omega), mB_sub]
    refine ⟨fun g => h1 ⟨hfree, fun d hd hs hu => (hm d (by omega)).mp (g d (by omega) (((q5 c hc).1 d (by omega)).mpr ⟨hd, hs, hu⟩))⟩, fun g => h0 (fun h => g (fun i hi hb => ?_))⟩
    obtain ⟨g1, g2, g3⟩ := ((q5 c hc).1 i hi).mp hb
    exact (hm i hi).mpr (h.2 i g1 g2 g3)
theorem fm_len {f : Nat → List (List Nat)} {c : Nat} : ∀ n, c ≤ n → ((List.range c).flatMap f).length ≤ ((List.range n).flatMap f).length := by
  intro n
  induction n with
  | zero => intro h; have : c = 0 := by omega
            subst this; exact Nat.le_refl _
  | succ n ih =>
    intro h
    by_cases e : c = n + 1
    · rw [e]; exact Nat.le_refl _
    · have := ih (by omega)
      rw [List.range_succ, List.flatMap_append, List.length_append]
      omega
theorem fm_succ {f : Nat → List (List Nat)} (c : Nat) : (List.range (c + 1)).flatMap f = (List.range c).flatMap f ++ f c := by
  rw [List.range_succ, List.flatMap_append]
  simp
set_option maxHeartbeats 1000000 in
theorem s_LL {r : zR} (hwf : rWF r) : ∀ (k : Nat) (L : List Nat) (E : List (List Nat)) (m : Int32) (σ : zS) (post : zS → Prop), L.length + k = 8 → (∀ c, c ∈ L → c < rN r) → (∀ d, d < 32 → (bt m d = true ↔ d ∈ L)) → xRec r σ → xFnd r E σ → (∀ c, c ∈ L → σ.2.1 1 c = (rRun r L).2 c) → E.length + (rVX r k L).length ≤ 680 →
    (∀ σ', xKp σ σ' → (∀ c, c ∈ L → σ'.2.1 1 c = σ.2.1 1 c) → xFnd r (E ++ rVX r k L) σ' → post σ') → jLL (k + 1) m (eX (rRun r L).1) (nI L.length) σ post := by
  have hN := hwf.1
  intro k
  induction k with
  | zero =>
    intro L E m σ post hk hL hm hr hf hrp hb hp
    show jF_X5_lengthenList (jF_X5_carryOut (jLL 0)) m _ _ σ post
    unfold jF_X5_lengthenList
    have h8 : nI L.length < (8 : Int32) ↔ L.length < 8 := nI_ltI (b := 8) (by omega) (by omega)
    rw [mB_sub, h8]
    have hall : (∀ i, i < 32 → bt (σ.1 3) i = true → bt m i = true) ↔ rAll r L := by
      refine ⟨fun g d hd hs => (hm d (by omega)).mp (g d (by omega) ((hr.2.2.1 d (by omega)).mpr ⟨hd, hs⟩)), fun g i hi hbi => ?_⟩
      obtain ⟨g1, g2⟩ := (hr.2.2.1 i hi).mp hbi
      exact (hm i hi).mpr (g i g1 g2)
    rw [hall]
    have hv : rVX r 0 L = rNote r L := rfl
    rw [hv] at hb hp
    refine ⟨fun g => ?_, fun g => ⟨fun g2 => absurd g2 (by omega), fun _ => ?_⟩⟩
    · have hn : rNote r L = [L] := rif_t g
      rw [hn] at hb hp
      exact s_note hwf hr hf hm hL hrp (by simp at hb; omega) (fun σ' h1 h2 h3 => ⟨fun g2 => absurd g2 (by omega), fun _ => hp σ' h1 (fun c _ => by rw [h2]) h3⟩)
    · have hn : rNote r L = [] := rif_f g
      rw [hn] at hp
      exact hp σ (xKp.rf σ) (fun _ _ => rfl) (by rw [List.append_nil]; exact hf)
  | succ k ih =>
    intro L E m σ post hk hL hm hr hf hrp hb hp
    show jF_X5_lengthenList (jF_X5_carryOut (jLL (k + 1))) m _ _ σ post
    unfold jF_X5_lengthenList
    have h8 : nI L.length < (8 : Int32) ↔ L.length < 8 := nI_ltI (b := 8) (by omega) (by omega)
    rw [mB_sub, h8]
    have hall : (∀ i, i < 32 → bt (σ.1 3) i = true → bt m i = true) ↔ rAll r L := by
      refine ⟨fun g d hd hs => (hm d (by omega)).mp (g d (by omega) ((hr.2.2.1 d (by omega)).mpr ⟨hd, hs⟩)), fun g i hi hbi => ?_⟩
      obtain ⟨g1, g2⟩ := (hr.2.2.1 i hi).mp hbi
      exact (hm i hi).mpr (g i g1 g2)
    rw [hall]
    obtain ⟨f, hfd⟩ : ∃ f, f = fun c => rif (rCX r L c ∧ rRe r L c) (rVX r k (L ++ [c])) [] := ⟨_, rfl⟩
    have hv : rVX r (k + 1) L = rNote r L ++ (List.range (rN r)).flatMap f := by rw [hfd]; rfl
    rw [hv] at hb hp
    rw [List.length_append] at hb
    have tail : ∀ σ0, xKp σ σ0 → σ0.2.1 1 = σ.2.1 1 → xFnd r (E ++ rNote r L) σ0 → zLP (b_X5_lengthenList_28 (jF_X5_carryOut (jLL (k + 1))) m (eX (rRun r L).1) (nI L.length) post (fun _ σ8 => post σ8)) ((0 : Int32), σ0) := by
      intro σ0 hk0 h10 hf0
      refine zLP_rule (fun q => ∃ c, c ≤ rN r ∧ q.1 = nI c ∧ xKp σ q.2 ∧ (∀ x, x ∈ L → q.2.2.1 1 x = σ.2.1 1 x) ∧ xFnd r (E ++ rNote r L ++ (List.range c).flatMap f) q.2) (fun q => rN r - q.1.toNatClampNeg) ?_ _ ⟨0, by omega, rfl, hk0, fun x _ => by rw [h10], by simpa using hf0⟩
      rintro ⟨y, τ⟩ ⟨c, hc, hy, hkp, hpath, hfn⟩ R hR
      dsimp only at hy hkp hpath hfn
      subst hy
      dsimp only [b_X5_lengthenList_28]
      have hrτ := hr.kp hkp
      have hle : τ.1 2 ≤ nI c ↔ rN r ≤ c := by rw [hrτ.2.1]; exact nI_leI (by omega) (by omega)
      rw [hle]
      refine ⟨fun g => ?_, fun g => ?_⟩
      · have e : c = rN r := by omega
        subst e
        exact hp τ hkp hpath (by rw [← List.append_assoc]; exact hfn)
      · have hcn : c < rN r := by omega
        have next : ∀ τ', xKp σ τ' → (∀ x, x ∈ L → τ'.2.1 1 x = σ.2.1 1 x) → xFnd r (E ++ rNote r L ++ (List.range c).flatMap f ++ f c) τ' → R (nI c + 1, τ') := by
          intro τ' g1 g2 g3
          rw [nI_1]
          refine hR _ ⟨c + 1, by omega, rfl, g1, g2, ?_⟩ (by dsimp only; rw [nI_clamp (by omega), nI_clamp (by omega)]; omega)
          dsimp only
          rw [fm_succ, ← List.append_assoc]
          exact g3
        have none : ¬ (rCX r L c ∧ rRe r L c) → R (nI c + 1, τ) := by
          intro hno
          refine next τ hkp hpath ?_
          have : f c = [] := by rw [hfd]; exact rif_f hno
          rw [this, List.append_nil]
          exact hfn
        refine s_mayStandNext hwf hrτ hm hcn (fun hX => ?_) (fun hX => ⟨fun _ => none (fun h => hX h.1), fun g2 => absurd rfl g2⟩)
        refine ⟨fun g2 => absurd g2 (by decide), fun _ => ?_⟩
        unfold jF_X5_carryOut
        have hin := vp_in_nI (show c < 8 by omega) (show 8 < 2 ^ 31 by omega)
        have hok := rRun_ok hwf L hL
        have hval := (hwf.2.2.1 c hcn).2.2.2
        refine ⟨hin, ?_⟩
        rw [nI_clamp (show c < 2 ^ 31 by omega)]
        refine s_replyTo hrτ.1 hwf.2.1.2 hcn hok ?_
        have go : rRe r L c → (vp_in (nI c) 8 ∧ znm (zA τ 1 c (rStep r c (rRun r L).1).1) fun σ6 => (vp_in (nI c) 8 ∧ j_X4_rowAfter c (eX (rRun r L).1) σ6 (fun r9 σ8 => jLL (k + 1) (m ||| ((1 : Int32) <<< (nI c &&& 31))) r9 (nI L.length + (1 : Int32)) σ8 (fun σ10 => R (nI c + 1, σ10))))) := by
          intro hre
          refine ⟨hin, znm_i ⟨hin, ?_⟩⟩
          have hkp6 : xKp τ (zA τ 1 c (rStep r c (rRun r L).1).1) := ⟨fun _ _ _ => rfl, fun k hk => by have : k ≠ 1 := by omega
                                                                                                       simp [zA, zF, va_up, this]⟩
          refine s_rowAfter (hrτ.1.kp hkp6) hwf.2.1.2 hcn hval hok ?_
          have e1 : eX (rStep r c (rRun r L).1).2 = eX (rRun r (L ++ [c])).1 := by rw [rRun_snoc]; rfl
          have e2 : nI L.length + (1 : Int32) = nI (L ++ [c]).length := by rw [nI_1]; simp
          have hfc : f c = rVX r k (L ++ [c]) := by rw [hfd]; exact rif_t ⟨hX, hre⟩
          rw [e1, e2]
          refine ih (L ++ [c]) (E ++ rNote r L ++ (List.range c).flatMap f) _ _ _ (by simp; omega) (fun x hx => ?_) (fun d hd => ?_) (hrτ.kp hkp6) ?_ (fun x hx => ?_) ?_ (fun σ' g1 g2 g3 => ?_)
          · rcases List.mem_append.mp hx with hx | hx
            · exact hL x hx
            · rw [List.mem_singleton.mp hx]; exact hcn
          · rw [mB_set m (by omega) hd, Bool.or_eq_true, hm d hd, List.mem_append, List.mem_singleton, decide_eq_true_iff]
          · obtain ⟨k1, k2, k3⟩ := hfn
            refine ⟨k1, k2.eq rfl rfl ?_, fun u hu => ?_⟩
            · simp [zA, zF, va_up]
            · have := k3 u hu
              simp [zA, zF, va_up, this.1, this.2]
          · rw [rRun_snoc]
            by_cases e : x = c
            · subst e
              simp [zA, zF, va_up, upd, rAdd]
            · have hxL : x ∈ L := (List.mem_append.mp hx).elim id (fun h => absurd (List.mem_singleton.mp h) e)
              have := hpath x hxL
              have h3 := hrp x hxL
              simp [zA, zF, va_up, upd, rAdd, e, this, h3]
          · have h1 := fm_len (f := f) (c := c + 1) (rN r) (by omega)
            rw [fm_succ, List.length_append, hfc] at h1
            simp only [List.length_append]
            omega
          · refine next σ' (hkp.tr (hkp6.tr g1)) (fun x hx => ?_) (by rw [hfc]; exact g3)
            rw [g2 x (List.mem_append_left _ hx)]
            have hne : ¬ x = c := fun e => hX.1.1 (e ▸ hx)
            have := hpath x hx
            simp [zA, zF, va_up, upd, hne, this]
        refine s_isIn (by omega) (fun b1 => ?_) (fun b0 => ?_)
        · have hs := ((hrτ.2.2.1 c (by omega)).mp b1).2
          refine ⟨fun g2 => absurd g2 (by decide), fun _ => ⟨hin, ?_⟩⟩
          rw [(hrτ.2.2.2.2.1 c hcn).2 hs]
          exact ⟨fun e => go (fun _ => e), fun e => none (fun h => e (h.2 hs))⟩
        · have hs : rS r c ≠ 1 := by
            intro h
            have := (hrτ.2.2.1 c (by omega)).mpr ⟨hcn, h⟩
            rw [b0] at this
            exact absurd this (by decide)
          exact ⟨fun _ => go (fun h => absurd h hs), fun g2 => absurd rfl g2⟩
    have hl8 : L.length < 8 := by omega
    refine ⟨fun g => ?_, fun g => ⟨fun _ => ?_, fun g2 => absurd hl8 g2⟩⟩
    · have hn : rNote r L = [L] := rif_t g
      rw [hn] at hb tail
      exact s_note hwf hr hf hm hL hrp (by simp at hb; omega) (fun σ' h1 h2 h3 => ⟨fun _ => tail σ' h1 h2 h3, fun g2 => absurd hl8 g2⟩)
    · have hn : rNote r L = [] := rif_f g
      rw [hn] at tail
      exact tail σ (xKp.rf σ) rfl (by rw [List.append_nil]; exact hf)
end
