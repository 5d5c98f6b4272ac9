section
-- ===== PART A: goes FIRST, ahead of the names: the tables' words, and 'selects' of the private methods out of them =====
/-- a private method of a class that the tables say can be made, by its rows of tables_1 -/
def lw_okq (q : MethodName × Nat) : Prop := (q.1.cls ≠ "java/lang/invoke/MethodHandle" ∧ q.1.cls ≠ "java/lang/invoke/VarHandle") ∧ Cond.instantiable q.1.cls q.2 ∈ tables_1 ∧ Cond.privateMethod q.1 ∈ tables_1 ∧ Cond.instanceMethod q.1 ∈ tables_1
theorem lw_p0 : lw_okq (⟨"ModuleLoaders", "ask", "(III)I"⟩, 7) := ⟨⟨by decide +kernel, by decide +kernel⟩, List.mem_of_getElem? (i := 10) (by decide +kernel), List.mem_of_getElem? (i := 224) (by decide +kernel), List.mem_of_getElem? (i := 225) (by decide +kernel)⟩
theorem lw_p1 : lw_okq (⟨"ModuleLoaders", "askLibrary", "(III)I"⟩, 7) := ⟨⟨by decide +kernel, by decide +kernel⟩, List.mem_of_getElem? (i := 10) (by decide +kernel), List.mem_of_getElem? (i := 233) (by decide +kernel), List.mem_of_getElem? (i := 234) (by decide +kernel)⟩
theorem lw_p2 : lw_okq (⟨"ModuleLoaders", "make", "(IIII)I"⟩, 7) := ⟨⟨by decide +kernel, by decide +kernel⟩, List.mem_of_getElem? (i := 10) (by decide +kernel), List.mem_of_getElem? (i := 237) (by decide +kernel), List.mem_of_getElem? (i := 238) (by decide +kernel)⟩
theorem lw_p3 : lw_okq (⟨"ModuleLoaders", "failureAhead", "(III)I"⟩, 7) := ⟨⟨by decide +kernel, by decide +kernel⟩, List.mem_of_getElem? (i := 10) (by decide +kernel), List.mem_of_getElem? (i := 241) (by decide +kernel), List.mem_of_getElem? (i := 242) (by decide +kernel)⟩
theorem lw_p4 : lw_okq (⟨"ModuleLoaders", "stand", "(IIII)I"⟩, 7) := ⟨⟨by decide +kernel, by decide +kernel⟩, List.mem_of_getElem? (i := 10) (by decide +kernel), List.mem_of_getElem? (i := 249) (by decide +kernel), List.mem_of_getElem? (i := 250) (by decide +kernel)⟩
theorem lw_p5 : lw_okq (⟨"ModuleLoaders", "beginFrom", "(I)I"⟩, 7) := ⟨⟨by decide +kernel, by decide +kernel⟩, List.mem_of_getElem? (i := 10) (by decide +kernel), List.mem_of_getElem? (i := 277) (by decide +kernel), List.mem_of_getElem? (i := 278) (by decide +kernel)⟩
theorem lw_p6 : lw_okq (⟨"ModuleLoaders", "comeTo", "(I)I"⟩, 7) := ⟨⟨by decide +kernel, by decide +kernel⟩, List.mem_of_getElem? (i := 10) (by decide +kernel), List.mem_of_getElem? (i := 281) (by decide +kernel), List.mem_of_getElem? (i := 282) (by decide +kernel)⟩
theorem lw_p7 : lw_okq (⟨"ModuleLoaders", "goOn", "(I)I"⟩, 7) := ⟨⟨by decide +kernel, by decide +kernel⟩, List.mem_of_getElem? (i := 10) (by decide +kernel), List.mem_of_getElem? (i := 289) (by decide +kernel), List.mem_of_getElem? (i := 290) (by decide +kernel)⟩
theorem lw_p8 : lw_okq (⟨"ModuleLoaders", "comeToNeed", "(I)I"⟩, 7) := ⟨⟨by decide +kernel, by decide +kernel⟩, List.mem_of_getElem? (i := 10) (by decide +kernel), List.mem_of_getElem? (i := 293) (by decide +kernel), List.mem_of_getElem? (i := 294) (by decide +kernel)⟩
theorem lw_p9 : lw_okq (⟨"ModuleLoaders", "beginItself", "(I)I"⟩, 7) := ⟨⟨by decide +kernel, by decide +kernel⟩, List.mem_of_getElem? (i := 10) (by decide +kernel), List.mem_of_getElem? (i := 297) (by decide +kernel), List.mem_of_getElem? (i := 298) (by decide +kernel)⟩
theorem lw_p10 : lw_okq (⟨"ModuleLoaders", "markHeld", "()V"⟩, 7) := ⟨⟨by decide +kernel, by decide +kernel⟩, List.mem_of_getElem? (i := 10) (by decide +kernel), List.mem_of_getElem? (i := 342) (by decide +kernel), List.mem_of_getElem? (i := 343) (by decide +kernel)⟩
theorem lw_p11 : lw_okq (⟨"ModuleLoaders", "markHeldBy", "(I)V"⟩, 7) := ⟨⟨by decide +kernel, by decide +kernel⟩, List.mem_of_getElem? (i := 10) (by decide +kernel), List.mem_of_getElem? (i := 346) (by decide +kernel), List.mem_of_getElem? (i := 347) (by decide +kernel)⟩
theorem lw_p12 : lw_okq (⟨"ModuleLoadersModel", "isLoader", "(I)Z"⟩, 33) := ⟨⟨by decide +kernel, by decide +kernel⟩, List.mem_of_getElem? (i := 370) (by decide +kernel), List.mem_of_getElem? (i := 490) (by decide +kernel), List.mem_of_getElem? (i := 491) (by decide +kernel)⟩
theorem lw_p13 : lw_okq (⟨"ModuleLoadersModel", "isFile", "(I)Z"⟩, 33) := ⟨⟨by decide +kernel, by decide +kernel⟩, List.mem_of_getElem? (i := 370) (by decide +kernel), List.mem_of_getElem? (i := 498) (by decide +kernel), List.mem_of_getElem? (i := 499) (by decide +kernel)⟩
theorem lw_p14 : lw_okq (⟨"ModuleLoadersModel", "does", "(IIIZ)I"⟩, 33) := ⟨⟨by decide +kernel, by decide +kernel⟩, List.mem_of_getElem? (i := 370) (by decide +kernel), List.mem_of_getElem? (i := 506) (by decide +kernel), List.mem_of_getElem? (i := 507) (by decide +kernel)⟩
theorem lw_p15 : lw_okq (⟨"ModuleLoadersModel", "push", "(IIIZ)V"⟩, 33) := ⟨⟨by decide +kernel, by decide +kernel⟩, List.mem_of_getElem? (i := 370) (by decide +kernel), List.mem_of_getElem? (i := 510) (by decide +kernel), List.mem_of_getElem? (i := 511) (by decide +kernel)⟩
def lw_privs_1 : List (MethodName × Nat) := [(⟨"ModuleLoaders", "ask", "(III)I"⟩, 7), (⟨"ModuleLoaders", "askLibrary", "(III)I"⟩, 7), (⟨"ModuleLoaders", "make", "(IIII)I"⟩, 7), (⟨"ModuleLoaders", "failureAhead", "(III)I"⟩, 7), (⟨"ModuleLoaders", "stand", "(IIII)I"⟩, 7), (⟨"ModuleLoaders", "beginFrom", "(I)I"⟩, 7), (⟨"ModuleLoaders", "comeTo", "(I)I"⟩, 7), (⟨"ModuleLoaders", "goOn", "(I)I"⟩, 7), (⟨"ModuleLoaders", "comeToNeed", "(I)I"⟩, 7), (⟨"ModuleLoaders", "beginItself", "(I)I"⟩, 7), (⟨"ModuleLoaders", "markHeld", "()V"⟩, 7), (⟨"ModuleLoaders", "markHeldBy", "(I)V"⟩, 7), (⟨"ModuleLoadersModel", "isLoader", "(I)Z"⟩, 33), (⟨"ModuleLoadersModel", "isFile", "(I)Z"⟩, 33), (⟨"ModuleLoadersModel", "does", "(IIIZ)I"⟩, 33), (⟨"ModuleLoadersModel", "push", "(IIIZ)V"⟩, 33)]
theorem lw_r1 : ∀ q ∈ lw_privs_1, lw_okq q := List.forall_mem_cons.mpr ⟨lw_p0, List.forall_mem_cons.mpr ⟨lw_p1, List.forall_mem_cons.mpr ⟨lw_p2, List.forall_mem_cons.mpr ⟨lw_p3, List.forall_mem_cons.mpr ⟨lw_p4, List.forall_mem_cons.mpr ⟨lw_p5, List.forall_mem_cons.mpr ⟨lw_p6, List.forall_mem_cons.mpr ⟨lw_p7, List.forall_mem_cons.mpr ⟨lw_p8, List.forall_mem_cons.mpr ⟨lw_p9, List.forall_mem_cons.mpr ⟨lw_p10, List.forall_mem_cons.mpr ⟨lw_p11, List.forall_mem_cons.mpr ⟨lw_p12, List.forall_mem_cons.mpr ⟨lw_p13, List.forall_mem_cons.mpr ⟨lw_p14, List.forall_mem_cons.mpr ⟨lw_p15, fun _ h => absurd h List.not_mem_nil⟩⟩⟩⟩⟩⟩⟩⟩⟩⟩⟩⟩⟩⟩⟩⟩
theorem lw_p16 : lw_okq (⟨"ModuleLoadersModel", "runs", "()I"⟩, 33) := ⟨⟨by decide +kernel, by decide +kernel⟩, List.mem_of_getElem? (i := 370) (by decide +kernel), List.mem_of_getElem? (i := 514) (by decide +kernel), List.mem_of_getElem? (i := 515) (by decide +kernel)⟩
theorem lw_p17 : lw_okq (⟨"ModuleLoadersModel", "asks", "(II)V"⟩, 33) := ⟨⟨by decide +kernel, by decide +kernel⟩, List.mem_of_getElem? (i := 370) (by decide +kernel), List.mem_of_getElem? (i := 518) (by decide +kernel), List.mem_of_getElem? (i := 519) (by decide +kernel)⟩
theorem lw_p18 : lw_okq (⟨"ModuleLoadersModel", "gives", "(I)V"⟩, 33) := ⟨⟨by decide +kernel, by decide +kernel⟩, List.mem_of_getElem? (i := 370) (by decide +kernel), List.mem_of_getElem? (i := 522) (by decide +kernel), List.mem_of_getElem? (i := 523) (by decide +kernel)⟩
theorem lw_p19 : lw_okq (⟨"ModuleLoadersModel", "asksAbove", "(III)V"⟩, 33) := ⟨⟨by decide +kernel, by decide +kernel⟩, List.mem_of_getElem? (i := 370) (by decide +kernel), List.mem_of_getElem? (i := 526) (by decide +kernel), List.mem_of_getElem? (i := 527) (by decide +kernel)⟩
theorem lw_p20 : lw_okq (⟨"ModuleLoadersModel", "keeps", "(I)V"⟩, 33) := ⟨⟨by decide +kernel, by decide +kernel⟩, List.mem_of_getElem? (i := 370) (by decide +kernel), List.mem_of_getElem? (i := 530) (by decide +kernel), List.mem_of_getElem? (i := 531) (by decide +kernel)⟩
theorem lw_p21 : lw_okq (⟨"ModuleLoadersModel", "makes", "(III)V"⟩, 33) := ⟨⟨by decide +kernel, by decide +kernel⟩, List.mem_of_getElem? (i := 370) (by decide +kernel), List.mem_of_getElem? (i := 534) (by decide +kernel), List.mem_of_getElem? (i := 535) (by decide +kernel)⟩
theorem lw_p22 : lw_okq (⟨"ModuleLoadersModel", "against", "(III)I"⟩, 33) := ⟨⟨by decide +kernel, by decide +kernel⟩, List.mem_of_getElem? (i := 370) (by decide +kernel), List.mem_of_getElem? (i := 538) (by decide +kernel), List.mem_of_getElem? (i := 539) (by decide +kernel)⟩
theorem lw_p23 : lw_okq (⟨"ModuleLoadersModel", "stands", "(III)V"⟩, 33) := ⟨⟨by decide +kernel, by decide +kernel⟩, List.mem_of_getElem? (i := 370) (by decide +kernel), List.mem_of_getElem? (i := 542) (by decide +kernel), List.mem_of_getElem? (i := 543) (by decide +kernel)⟩
theorem lw_p24 : lw_okq (⟨"ModuleLoadersModel", "begins", "(II)V"⟩, 33) := ⟨⟨by decide +kernel, by decide +kernel⟩, List.mem_of_getElem? (i := 370) (by decide +kernel), List.mem_of_getElem? (i := 546) (by decide +kernel), List.mem_of_getElem? (i := 547) (by decide +kernel)⟩
theorem lw_p25 : lw_okq (⟨"ModuleLoadersModel", "isModule", "(I)Z"⟩, 33) := ⟨⟨by decide +kernel, by decide +kernel⟩, List.mem_of_getElem? (i := 370) (by decide +kernel), List.mem_of_getElem? (i := 566) (by decide +kernel), List.mem_of_getElem? (i := 567) (by decide +kernel)⟩
theorem lw_p26 : lw_okq (⟨"ModuleLoadersModel", "isThing", "(I)Z"⟩, 33) := ⟨⟨by decide +kernel, by decide +kernel⟩, List.mem_of_getElem? (i := 370) (by decide +kernel), List.mem_of_getElem? (i := 578) (by decide +kernel), List.mem_of_getElem? (i := 579) (by decide +kernel)⟩
theorem lw_p27 : lw_okq (⟨"ModuleLoadersModel", "holds", "()V"⟩, 33) := ⟨⟨by decide +kernel, by decide +kernel⟩, List.mem_of_getElem? (i := 370) (by decide +kernel), List.mem_of_getElem? (i := 594) (by decide +kernel), List.mem_of_getElem? (i := 595) (by decide +kernel)⟩
def lw_privs_2 : List (MethodName × Nat) := [(⟨"ModuleLoadersModel", "runs", "()I"⟩, 33), (⟨"ModuleLoadersModel", "asks", "(II)V"⟩, 33), (⟨"ModuleLoadersModel", "gives", "(I)V"⟩, 33), (⟨"ModuleLoadersModel", "asksAbove", "(III)V"⟩, 33), (⟨"ModuleLoadersModel", "keeps", "(I)V"⟩, 33), (⟨"ModuleLoadersModel", "makes", "(III)V"⟩, 33), (⟨"ModuleLoadersModel", "against", "(III)I"⟩, 33), (⟨"ModuleLoadersModel", "stands", "(III)V"⟩, 33), (⟨"ModuleLoadersModel", "begins", "(II)V"⟩, 33), (⟨"ModuleLoadersModel", "isModule", "(I)Z"⟩, 33), (⟨"ModuleLoadersModel", "isThing", "(I)Z"⟩, 33), (⟨"ModuleLoadersModel", "holds", "()V"⟩, 33)]
theorem lw_r2 : ∀ q ∈ lw_privs_2, lw_okq q := List.forall_mem_cons.mpr ⟨lw_p16, List.forall_mem_cons.mpr ⟨lw_p17, List.forall_mem_cons.mpr ⟨lw_p18, List.forall_mem_cons.mpr ⟨lw_p19, List.forall_mem_cons.mpr ⟨lw_p20, List.forall_mem_cons.mpr ⟨lw_p21, List.forall_mem_cons.mpr ⟨lw_p22, List.forall_mem_cons.mpr ⟨lw_p23, List.forall_mem_cons.mpr ⟨lw_p24, List.forall_mem_cons.mpr ⟨lw_p25, List.forall_mem_cons.mpr ⟨lw_p26, List.forall_mem_cons.mpr ⟨lw_p27, fun _ h => absurd h List.not_mem_nil⟩⟩⟩⟩⟩⟩⟩⟩⟩⟩⟩⟩
def lw_privs : List (MethodName × Nat) := lw_privs_1 ++ (lw_privs_2)
def lw_tbl : List Cond := k2_sels lw_privs ++ tables_1
theorem lw_privs_ok : ∀ q ∈ lw_privs, lw_okq q := by
  show ∀ q ∈ lw_privs_1 ++ (lw_privs_2), lw_okq q
  exact List.forall_mem_append.mpr ⟨lw_r1, lw_r2⟩
/-! ===== BEGIN printed: names, fields, word lists, decode rows ===== -/
def RX0 : String := "ModuleLoaders$Files"
def TX0 : u_T := fun k => match k with
  | 0 => ("ModuleLoaders$Files", "inner", "[I", true)
  | 1 => ("ModuleLoaders$Files", "content", "[I", true)
  | 2 => ("ModuleLoaders$Files", "parent", "[I", true)
  | 3 => ("ModuleLoaders$Files", "need", "[I", true)
  | 4 => ("ModuleLoaders$Files", "flags", "[I", true)
  | _ => ("ModuleLoaders$Files", "size", "I", false)
def tyX0 : Nat → FieldType := fun k => match k with
  | 0 => .array .int
  | 1 => .array .int
  | 2 => .array .int
  | 3 => .array .int
  | 4 => .array .int
  | _ => .int
theorem nmX0 : ∀ a, a < 6 → ∀ b, b < 6 → a ≠ b → (TX0 a).2.1 ≠ (TX0 b).2.1 := by decide +kernel
theorem tyX0_ok : ∀ k, k < 6 → parseFieldDescriptor (TX0 k).2.2.1 = some (tyX0 k) := by decide +kernel
abbrev cX0_init : ByteArray := prog_2_method_1_code
def yX0_init : MethodName := ⟨RX0, "<init>", "()V"⟩
abbrev cX0_has : ByteArray := prog_2_method_2_code
def yX0_has : MethodName := ⟨RX0, "has", "(I)Z"⟩
abbrev cX0_hasFlag : ByteArray := prog_2_method_3_code
def yX0_hasFlag : MethodName := ⟨RX0, "hasFlag", "(II)Z"⟩
abbrev cX0_add : ByteArray := prog_2_method_4_code
def yX0_add : MethodName := ⟨RX0, "add", "(IIIII)I"⟩
def RX1 : String := "ModuleLoaders$Loaders"
def TX1 : u_T := fun k => match k with
  | 0 => ("ModuleLoaders$Loaders", "library", "[I", true)
  | 1 => ("ModuleLoaders$Loaders", "ownFirst", "[Z", true)
  | 2 => ("ModuleLoaders$Loaders", "gone", "[Z", true)
  | 3 => ("ModuleLoaders$Loaders", "shelf", "[I", true)
  | 4 => ("ModuleLoaders$Loaders", "made", "[I", true)
  | 5 => ("ModuleLoaders$Loaders", "given", "[I", true)
  | 6 => ("ModuleLoaders$Loaders", "making", "[Z", true)
  | _ => ("ModuleLoaders$Loaders", "size", "I", false)
def tyX1 : Nat → FieldType := fun k => match k with
  | 0 => .array .int
  | 1 => .array .boolean
  | 2 => .array .boolean
  | 3 => .array .int
  | 4 => .array .int
  | 5 => .array .int
  | 6 => .array .boolean
  | _ => .int
theorem nmX1 : ∀ a, a < 8 → ∀ b, b < 8 → a ≠ b → (TX1 a).2.1 ≠ (TX1 b).2.1 := by decide +kernel
theorem tyX1_ok : ∀ k, k < 8 → parseFieldDescriptor (TX1 k).2.2.1 = some (tyX1 k) := by decide +kernel
abbrev cX1_init : ByteArray := prog_3_method_1_code
def yX1_init : MethodName := ⟨RX1, "<init>", "()V"⟩
abbrev cX1_has : ByteArray := prog_3_method_2_code
def yX1_has : MethodName := ⟨RX1, "has", "(I)Z"⟩
abbrev cX1_isProgram : ByteArray := prog_3_method_3_code
def yX1_isProgram : MethodName := ⟨RX1, "isProgram", "(I)Z"⟩
abbrev cX1_add : ByteArray := prog_3_method_4_code
def yX1_add : MethodName := ⟨RX1, "add", "(IZ)I"⟩
abbrev cX1_madeOrGiven : ByteArray := prog_3_method_5_code
def yX1_madeOrGiven : MethodName := ⟨RX1, "madeOrGiven", "(II)I"⟩
abbrev cX1_hasLiveProgram : ByteArray := prog_3_method_6_code
def yX1_hasLiveProgram : MethodName := ⟨RX1, "hasLiveProgram", "(I)Z"⟩
def RX2 : String := "ModuleLoaders$Modules"
def TX2 : u_T := fun k => match k with
  | 0 => ("ModuleLoaders$Modules", "maker", "[I", true)
  | 1 => ("ModuleLoaders$Modules", "name", "[I", true)
  | 2 => ("ModuleLoaders$Modules", "file", "[I", true)
  | 3 => ("ModuleLoaders$Modules", "parent", "[I", true)
  | 4 => ("ModuleLoaders$Modules", "state", "[I", true)
  | _ => ("ModuleLoaders$Modules", "size", "I", false)
def tyX2 : Nat → FieldType := fun k => match k with
  | 0 => .array .int
  | 1 => .array .int
  | 2 => .array .int
  | 3 => .array .int
  | 4 => .array .int
  | _ => .int
theorem nmX2 : ∀ a, a < 6 → ∀ b, b < 6 → a ≠ b → (TX2 a).2.1 ≠ (TX2 b).2.1 := by decide +kernel
theorem tyX2_ok : ∀ k, k < 6 → parseFieldDescriptor (TX2 k).2.2.1 = some (tyX2 k) := by decide +kernel
abbrev cX2_init : ByteArray := prog_4_method_1_code
def yX2_init : MethodName := ⟨RX2, "<init>", "()V"⟩
abbrev cX2_has : ByteArray := prog_4_method_2_code
def yX2_has : MethodName := ⟨RX2, "has", "(I)Z"⟩
abbrev cX2_add : ByteArray := prog_4_method_3_code
def yX2_add : MethodName := ⟨RX2, "add", "(IIII)I"⟩
abbrev cX2_isOrDescends : ByteArray := prog_4_method_4_code
def yX2_isOrDescends : MethodName := ⟨RX2, "isOrDescends", "(II)Z"⟩
def RX3 : String := "ModuleLoaders$Row"
def TX3 : u_T := fun k => match k with
  | 0 => ("ModuleLoaders$Row", "items", "[I", true)
  | _ => ("ModuleLoaders$Row", "size", "I", false)
def tyX3 : Nat → FieldType := fun k => match k with
  | 0 => .array .int
  | _ => .int
theorem nmX3 : ∀ a, a < 2 → ∀ b, b < 2 → a ≠ b → (TX3 a).2.1 ≠ (TX3 b).2.1 := by decide +kernel
theorem tyX3_ok : ∀ k, k < 2 → parseFieldDescriptor (TX3 k).2.2.1 = some (tyX3 k) := by decide +kernel
abbrev cX3_init : ByteArray := prog_5_method_1_code
def yX3_init : MethodName := ⟨RX3, "<init>", "()V"⟩
abbrev cX3_add : ByteArray := prog_5_method_2_code
def yX3_add : MethodName := ⟨RX3, "add", "(I)V"⟩
def RX4 : String := "ModuleLoaders$Things"
def TX4 : u_T := fun k => match k with
  | 0 => ("ModuleLoaders$Things", "kind", "[I", true)
  | 1 => ("ModuleLoaders$Things", "dropped", "[Z", true)
  | _ => ("ModuleLoaders$Things", "size", "I", false)
def tyX4 : Nat → FieldType := fun k => match k with
  | 0 => .array .int
  | 1 => .array .boolean
  | _ => .int
theorem nmX4 : ∀ a, a < 3 → ∀ b, b < 3 → a ≠ b → (TX4 a).2.1 ≠ (TX4 b).2.1 := by decide +kernel
theorem tyX4_ok : ∀ k, k < 3 → parseFieldDescriptor (TX4 k).2.2.1 = some (tyX4 k) := by decide +kernel
abbrev cX4_init : ByteArray := prog_6_method_1_code
def yX4_init : MethodName := ⟨RX4, "<init>", "()V"⟩
abbrev cX4_has : ByteArray := prog_6_method_2_code
def yX4_has : MethodName := ⟨RX4, "has", "(I)Z"⟩
abbrev cX4_areFull : ByteArray := prog_6_method_3_code
def yX4_areFull : MethodName := ⟨RX4, "areFull", "()Z"⟩
abbrev cX4_add : ByteArray := prog_6_method_4_code
def yX4_add : MethodName := ⟨RX4, "add", "(I)I"⟩
def RX5 : String := "ModuleLoaders"
def TX5 : u_T := fun k => match k with
  | 0 => ("ModuleLoaders", "files", "LModuleLoaders$Files;", true)
  | 1 => ("ModuleLoaders", "loaders", "LModuleLoaders$Loaders;", true)
  | 2 => ("ModuleLoaders", "modules", "LModuleLoaders$Modules;", true)
  | 3 => ("ModuleLoaders", "things", "LModuleLoaders$Things;", true)
  | 4 => ("ModuleLoaders", "theOrder", "LModuleLoaders$Row;", true)
  | 5 => ("ModuleLoaders", "beginning", "LModuleLoaders$Row;", true)
  | _ => ("ModuleLoaders", "heldModules", "[Z", true)
def tyX5 : Nat → FieldType := fun k => match k with
  | 0 => .object "ModuleLoaders$Files"
  | 1 => .object "ModuleLoaders$Loaders"
  | 2 => .object "ModuleLoaders$Modules"
  | 3 => .object "ModuleLoaders$Things"
  | 4 => .object "ModuleLoaders$Row"
  | 5 => .object "ModuleLoaders$Row"
  | _ => .array .boolean
theorem nmX5 : ∀ a, a < 7 → ∀ b, b < 7 → a ≠ b → (TX5 a).2.1 ≠ (TX5 b).2.1 := by decide +kernel
theorem tyX5_ok : ∀ k, k < 7 → parseFieldDescriptor (TX5 k).2.2.1 = some (tyX5 k) := by decide +kernel
abbrev cX5_init : ByteArray := prog_1_method_1_code
def yX5_init : MethodName := ⟨RX5, "<init>", "()V"⟩
abbrev cX5_file : ByteArray := prog_1_method_2_code
def yX5_file : MethodName := ⟨RX5, "file", "(IIIII)I"⟩
abbrev cX5_loader : ByteArray := prog_1_method_3_code
def yX5_loader : MethodName := ⟨RX5, "loader", "(IZ)I"⟩
abbrev cX5_put : ByteArray := prog_1_method_4_code
def yX5_put : MethodName := ⟨RX5, "put", "(III)I"⟩
abbrev cX5_load : ByteArray := prog_1_method_5_code
def yX5_load : MethodName := ⟨RX5, "load", "(II)I"⟩
abbrev cX5_define : ByteArray := prog_1_method_6_code
def yX5_define : MethodName := ⟨RX5, "define", "(III)I"⟩
abbrev cX5_anew : ByteArray := prog_1_method_7_code
def yX5_anew : MethodName := ⟨RX5, "anew", "(III)I"⟩
abbrev cX5_known : ByteArray := prog_1_method_8_code
def yX5_known : MethodName := ⟨RX5, "known", "(II)I"⟩
abbrev cX5_begin : ByteArray := prog_1_method_9_code
def yX5_begin : MethodName := ⟨RX5, "begin", "(I)I"⟩
abbrev cX5_thing : ByteArray := prog_1_method_10_code
def yX5_thing : MethodName := ⟨RX5, "thing", "(I)I"⟩
abbrev cX5_cast : ByteArray := prog_1_method_11_code
def yX5_cast : MethodName := ⟨RX5, "cast", "(II)I"⟩
abbrev cX5_drop : ByteArray := prog_1_method_12_code
def yX5_drop : MethodName := ⟨RX5, "drop", "(I)I"⟩
abbrev cX5_letGo : ByteArray := prog_1_method_13_code
def yX5_letGo : MethodName := ⟨RX5, "letGo", "(I)I"⟩
abbrev cX5_held : ByteArray := prog_1_method_14_code
def yX5_held : MethodName := ⟨RX5, "held", "(I)I"⟩
abbrev cX5_isHeld : ByteArray := prog_1_method_15_code
def yX5_isHeld : MethodName := ⟨RX5, "isHeld", "(I)I"⟩
abbrev cX5_about : ByteArray := prog_1_method_16_code
def yX5_about : MethodName := ⟨RX5, "about", "(II)I"⟩
abbrev cX5_aboutThing : ByteArray := prog_1_method_17_code
def yX5_aboutThing : MethodName := ⟨RX5, "aboutThing", "(II)I"⟩
abbrev cX5_order : ByteArray := prog_1_method_18_code
def yX5_order : MethodName := ⟨RX5, "order", "(I)I"⟩
abbrev cX5_count : ByteArray := prog_1_method_19_code
def yX5_count : MethodName := ⟨RX5, "count", "(I)I"⟩
abbrev cX5_isName : ByteArray := prog_1_method_20_code
def yX5_isName : MethodName := ⟨RX5, "isName", "(I)Z"⟩
abbrev cX5_isNameOrNone : ByteArray := prog_1_method_21_code
def yX5_isNameOrNone : MethodName := ⟨RX5, "isNameOrNone", "(I)Z"⟩
abbrev cX5_slot : ByteArray := prog_1_method_22_code
def yX5_slot : MethodName := ⟨RX5, "slot", "(II)I"⟩
abbrev cX5_ask : ByteArray := prog_1_method_23_code
def yX5_ask : MethodName := ⟨RX5, "ask", "(III)I"⟩
abbrev cX5_askLibrary : ByteArray := prog_1_method_24_code
def yX5_askLibrary : MethodName := ⟨RX5, "askLibrary", "(III)I"⟩
abbrev cX5_make : ByteArray := prog_1_method_25_code
def yX5_make : MethodName := ⟨RX5, "make", "(IIII)I"⟩
abbrev cX5_failureAhead : ByteArray := prog_1_method_26_code
def yX5_failureAhead : MethodName := ⟨RX5, "failureAhead", "(III)I"⟩
abbrev cX5_stand : ByteArray := prog_1_method_27_code
def yX5_stand : MethodName := ⟨RX5, "stand", "(IIII)I"⟩
abbrev cX5_beginFrom : ByteArray := prog_1_method_28_code
def yX5_beginFrom : MethodName := ⟨RX5, "beginFrom", "(I)I"⟩
abbrev cX5_comeTo : ByteArray := prog_1_method_29_code
def yX5_comeTo : MethodName := ⟨RX5, "comeTo", "(I)I"⟩
abbrev cX5_goOn : ByteArray := prog_1_method_30_code
def yX5_goOn : MethodName := ⟨RX5, "goOn", "(I)I"⟩
abbrev cX5_comeToNeed : ByteArray := prog_1_method_31_code
def yX5_comeToNeed : MethodName := ⟨RX5, "comeToNeed", "(I)I"⟩
abbrev cX5_beginItself : ByteArray := prog_1_method_32_code
def yX5_beginItself : MethodName := ⟨RX5, "beginItself", "(I)I"⟩
abbrev cX5_markHeld : ByteArray := prog_1_method_33_code
def yX5_markHeld : MethodName := ⟨RX5, "markHeld", "()V"⟩
abbrev cX5_markHeldBy : ByteArray := prog_1_method_34_code
def yX5_markHeldBy : MethodName := ⟨RX5, "markHeldBy", "(I)V"⟩
def RX6 : String := "ModuleLoadersModel"
def TX6 : u_T := fun k => match k with
  | 0 => ("ModuleLoadersModel", "files", "I", false)
  | 1 => ("ModuleLoadersModel", "inner", "[I", true)
  | 2 => ("ModuleLoadersModel", "content", "[I", true)
  | 3 => ("ModuleLoadersModel", "parentName", "[I", true)
  | 4 => ("ModuleLoadersModel", "needName", "[I", true)
  | 5 => ("ModuleLoadersModel", "flags", "[I", true)
  | 6 => ("ModuleLoadersModel", "loaders", "I", false)
  | 7 => ("ModuleLoadersModel", "above", "[I", true)
  | 8 => ("ModuleLoadersModel", "ownFirst", "[Z", true)
  | 9 => ("ModuleLoadersModel", "isGone", "[Z", true)
  | 10 => ("ModuleLoadersModel", "shelf", "[I", true)
  | 11 => ("ModuleLoadersModel", "made", "[I", true)
  | 12 => ("ModuleLoadersModel", "given", "[I", true)
  | 13 => ("ModuleLoadersModel", "isMaking", "[Z", true)
  | 14 => ("ModuleLoadersModel", "modules", "I", false)
  | 15 => ("ModuleLoadersModel", "loaderOf", "[I", true)
  | 16 => ("ModuleLoadersModel", "nameOf", "[I", true)
  | 17 => ("ModuleLoadersModel", "parentOf", "[I", true)
  | 18 => ("ModuleLoadersModel", "fileOf", "[I", true)
  | 19 => ("ModuleLoadersModel", "state", "[I", true)
  | 20 => ("ModuleLoadersModel", "things", "I", false)
  | 21 => ("ModuleLoadersModel", "thingOf", "[I", true)
  | 22 => ("ModuleLoadersModel", "isDropped", "[Z", true)
  | 23 => ("ModuleLoadersModel", "ordered", "I", false)
  | 24 => ("ModuleLoadersModel", "orders", "[I", true)
  | 25 => ("ModuleLoadersModel", "deep", "I", false)
  | 26 => ("ModuleLoadersModel", "what", "[I", true)
  | 27 => ("ModuleLoadersModel", "stage", "[I", true)
  | 28 => ("ModuleLoadersModel", "place", "[I", true)
  | 29 => ("ModuleLoadersModel", "paper", "[I", true)
  | 30 => ("ModuleLoadersModel", "isAnew", "[Z", true)
  | 31 => ("ModuleLoadersModel", "gave", "I", false)
  | _ => ("ModuleLoadersModel", "isKept", "[Z", true)
def tyX6 : Nat → FieldType := fun k => match k with
  | 0 => .int
  | 1 => .array .int
  | 2 => .array .int
  | 3 => .array .int
  | 4 => .array .int
  | 5 => .array .int
  | 6 => .int
  | 7 => .array .int
  | 8 => .array .boolean
  | 9 => .array .boolean
  | 10 => .array .int
  | 11 => .array .int
  | 12 => .array .int
  | 13 => .array .boolean
  | 14 => .int
  | 15 => .array .int
  | 16 => .array .int
  | 17 => .array .int
  | 18 => .array .int
  | 19 => .array .int
  | 20 => .int
  | 21 => .array .int
  | 22 => .array .boolean
  | 23 => .int
  | 24 => .array .int
  | 25 => .int
  | 26 => .array .int
  | 27 => .array .int
  | 28 => .array .int
  | 29 => .array .int
  | 30 => .array .boolean
  | 31 => .int
  | _ => .array .boolean
theorem nmX6 : ∀ a, a < 33 → ∀ b, b < 33 → a ≠ b → (TX6 a).2.1 ≠ (TX6 b).2.1 := by decide +kernel
theorem tyX6_ok : ∀ k, k < 33 → parseFieldDescriptor (TX6 k).2.2.1 = some (tyX6 k) := by decide +kernel
abbrev cX6_init : ByteArray := prog_8_method_1_code
def yX6_init : MethodName := ⟨RX6, "<init>", "()V"⟩
abbrev cX6_in : ByteArray := prog_8_method_3_code
def yX6_in : MethodName := ⟨RX6, "in", "(III)Z"⟩
abbrev cX6_isName : ByteArray := prog_8_method_4_code
def yX6_isName : MethodName := ⟨RX6, "isName", "(I)Z"⟩
abbrev cX6_isLoader : ByteArray := prog_8_method_5_code
def yX6_isLoader : MethodName := ⟨RX6, "isLoader", "(I)Z"⟩
abbrev cX6_isFile : ByteArray := prog_8_method_6_code
def yX6_isFile : MethodName := ⟨RX6, "isFile", "(I)Z"⟩
abbrev cX6_isModule : ByteArray := prog_8_method_7_code
def yX6_isModule : MethodName := ⟨RX6, "isModule", "(I)Z"⟩
abbrev cX6_isThing : ByteArray := prog_8_method_8_code
def yX6_isThing : MethodName := ⟨RX6, "isThing", "(I)Z"⟩
abbrev cX6_file : ByteArray := prog_8_method_9_code
def yX6_file : MethodName := ⟨RX6, "file", "(IIIII)I"⟩
abbrev cX6_loader : ByteArray := prog_8_method_10_code
def yX6_loader : MethodName := ⟨RX6, "loader", "(IZ)I"⟩
abbrev cX6_put : ByteArray := prog_8_method_11_code
def yX6_put : MethodName := ⟨RX6, "put", "(III)I"⟩
abbrev cX6_push : ByteArray := prog_8_method_12_code
def yX6_push : MethodName := ⟨RX6, "push", "(IIIZ)V"⟩
abbrev cX6_gives : ByteArray := prog_8_method_13_code
def yX6_gives : MethodName := ⟨RX6, "gives", "(I)V"⟩
abbrev cX6_runs : ByteArray := prog_8_method_14_code
def yX6_runs : MethodName := ⟨RX6, "runs", "()I"⟩
abbrev cX6_asksAbove : ByteArray := prog_8_method_15_code
def yX6_asksAbove : MethodName := ⟨RX6, "asksAbove", "(III)V"⟩
abbrev cX6_asks : ByteArray := prog_8_method_16_code
def yX6_asks : MethodName := ⟨RX6, "asks", "(II)V"⟩
abbrev cX6_keeps : ByteArray := prog_8_method_17_code
def yX6_keeps : MethodName := ⟨RX6, "keeps", "(I)V"⟩
abbrev cX6_against : ByteArray := prog_8_method_18_code
def yX6_against : MethodName := ⟨RX6, "against", "(III)I"⟩
abbrev cX6_makes : ByteArray := prog_8_method_19_code
def yX6_makes : MethodName := ⟨RX6, "makes", "(III)V"⟩
abbrev cX6_stands : ByteArray := prog_8_method_20_code
def yX6_stands : MethodName := ⟨RX6, "stands", "(III)V"⟩
abbrev cX6_begins : ByteArray := prog_8_method_21_code
def yX6_begins : MethodName := ⟨RX6, "begins", "(II)V"⟩
abbrev cX6_does : ByteArray := prog_8_method_22_code
def yX6_does : MethodName := ⟨RX6, "does", "(IIIZ)I"⟩
abbrev cX6_load : ByteArray := prog_8_method_23_code
def yX6_load : MethodName := ⟨RX6, "load", "(II)I"⟩
abbrev cX6_define : ByteArray := prog_8_method_24_code
def yX6_define : MethodName := ⟨RX6, "define", "(III)I"⟩
abbrev cX6_anew : ByteArray := prog_8_method_25_code
def yX6_anew : MethodName := ⟨RX6, "anew", "(III)I"⟩
abbrev cX6_known : ByteArray := prog_8_method_26_code
def yX6_known : MethodName := ⟨RX6, "known", "(II)I"⟩
abbrev cX6_begin : ByteArray := prog_8_method_27_code
def yX6_begin : MethodName := ⟨RX6, "begin", "(I)I"⟩
abbrev cX6_thing : ByteArray := prog_8_method_28_code
def yX6_thing : MethodName := ⟨RX6, "thing", "(I)I"⟩
abbrev cX6_cast : ByteArray := prog_8_method_29_code
def yX6_cast : MethodName := ⟨RX6, "cast", "(II)I"⟩
abbrev cX6_drop : ByteArray := prog_8_method_30_code
def yX6_drop : MethodName := ⟨RX6, "drop", "(I)I"⟩
abbrev cX6_letGo : ByteArray := prog_8_method_31_code
def yX6_letGo : MethodName := ⟨RX6, "letGo", "(I)I"⟩
abbrev cX6_holds : ByteArray := prog_8_method_32_code
def yX6_holds : MethodName := ⟨RX6, "holds", "()V"⟩
abbrev cX6_held : ByteArray := prog_8_method_33_code
def yX6_held : MethodName := ⟨RX6, "held", "(I)I"⟩
abbrev cX6_isHeld : ByteArray := prog_8_method_34_code
def yX6_isHeld : MethodName := ⟨RX6, "isHeld", "(I)I"⟩
abbrev cX6_about : ByteArray := prog_8_method_35_code
def yX6_about : MethodName := ⟨RX6, "about", "(II)I"⟩
abbrev cX6_aboutThing : ByteArray := prog_8_method_36_code
def yX6_aboutThing : MethodName := ⟨RX6, "aboutThing", "(II)I"⟩
abbrev cX6_order : ByteArray := prog_8_method_37_code
def yX6_order : MethodName := ⟨RX6, "order", "(I)I"⟩
abbrev cX6_count : ByteArray := prog_8_method_38_code
def yX6_count : MethodName := ⟨RX6, "count", "(I)I"⟩
def RJ7 : String := "java/util/Arrays"
def TJ7 : u_T := fun k => match k with
  | _ => ("", "", "", false)
def tyJ7 : Nat → FieldType := fun k => match k with
  | _ => .int
theorem nmJ7 : ∀ a, a < 0 → ∀ b, b < 0 → a ≠ b → (TJ7 a).2.1 ≠ (TJ7 b).2.1 := by decide +kernel
theorem tyJ7_ok : ∀ k, k < 0 → parseFieldDescriptor (TJ7 k).2.2.1 = some (tyJ7 k) := by decide +kernel
abbrev cJ7_fill_53178 : ByteArray := prog_9_method_103_code
def yJ7_fill_53178 : MethodName := ⟨RJ7, "fill", "([II)V"⟩
def RL : String := "ModuleLoadersLaw"
abbrev cL_law : ByteArray := code
def yL_law : MethodName := ⟨RL, "law", "([I)Z"⟩
abbrev vwCl : List vw_C := [(RX0, TX0, 6), (RX1, TX1, 8), (RX2, TX2, 6), (RX3, TX3, 2), (RX4, TX4, 3), (RX5, TX5, 7), (RX6, TX6, 33)]
end
section
theorem dX0_init_0 : decode cX0_init 0 = .ok (.aload_n 0, 1) := by decide +kernel
theorem dX0_init_1 : decode cX0_init 1 = .ok (.invokespecial 3, 3) := by decide +kernel
theorem dX0_init_4 : decode cX0_init 4 = .ok (.aload_n 0, 1) := by decide +kernel
theorem dX0_init_5 : decode cX0_init 5 = .ok (.bipush 40, 2) := by decide +kernel
theorem dX0_init_7 : decode cX0_init 7 = .ok (.newarray .int, 2) := by decide +kernel
theorem dX0_init_9 : decode cX0_init 9 = .ok (.putfield 9, 3) := by decide +kernel
theorem dX0_init_12 : decode cX0_init 12 = .ok (.aload_n 0, 1) := by decide +kernel
theorem dX0_init_13 : decode cX0_init 13 = .ok (.bipush 40, 2) := by decide +kernel
theorem dX0_init_15 : decode cX0_init 15 = .ok (.newarray .int, 2) := by decide +kernel
theorem dX0_init_17 : decode cX0_init 17 = .ok (.putfield 15, 3) := by decide +kernel
theorem dX0_init_20 : decode cX0_init 20 = .ok (.aload_n 0, 1) := by decide +kernel
theorem dX0_init_21 : decode cX0_init 21 = .ok (.bipush 40, 2) := by decide +kernel
theorem dX0_init_23 : decode cX0_init 23 = .ok (.newarray .int, 2) := by decide +kernel
theorem dX0_init_25 : decode cX0_init 25 = .ok (.putfield 18, 3) := by decide +kernel
theorem dX0_init_28 : decode cX0_init 28 = .ok (.aload_n 0, 1) := by decide +kernel
theorem dX0_init_29 : decode cX0_init 29 = .ok (.bipush 40, 2) := by decide +kernel
theorem dX0_init_31 : decode cX0_init 31 = .ok (.newarray .int, 2) := by decide +kernel
theorem dX0_init_33 : decode cX0_init 33 = .ok (.putfield 21, 3) := by decide +kernel
theorem dX0_init_36 : decode cX0_init 36 = .ok (.aload_n 0, 1) := by decide +kernel
theorem dX0_init_37 : decode cX0_init 37 = .ok (.bipush 40, 2) := by decide +kernel
theorem dX0_init_39 : decode cX0_init 39 = .ok (.newarray .int, 2) := by decide +kernel
theorem dX0_init_41 : decode cX0_init 41 = .ok (.putfield 24, 3) := by decide +kernel
theorem dX0_init_44 : decode cX0_init 44 = .ok (.aload_n 0, 1) := by decide +kernel
theorem dX0_init_45 : decode cX0_init 45 = .ok (.iconst 0, 1) := by decide +kernel
theorem dX0_init_46 : decode cX0_init 46 = .ok (.putfield 27, 3) := by decide +kernel
theorem dX0_init_49 : decode cX0_init 49 = .ok (.return_, 1) := by decide +kernel
theorem dX0_has_0 : decode cX0_has 0 = .ok (.iload_n 1, 1) := by decide +kernel
theorem dX0_has_1 : decode cX0_has 1 = .ok (.ifCond .lt 15, 3) := by decide +kernel
theorem dX0_has_4 : decode cX0_has 4 = .ok (.iload_n 1, 1) := by decide +kernel
theorem dX0_has_5 : decode cX0_has 5 = .ok (.aload_n 0, 1) := by decide +kernel
theorem dX0_has_6 : decode cX0_has 6 = .ok (.getfield 27, 3) := by decide +kernel
theorem dX0_has_9 : decode cX0_has 9 = .ok (.if_icmp .ge 7, 3) := by decide +kernel
theorem dX0_has_12 : decode cX0_has 12 = .ok (.iconst 1, 1) := by decide +kernel
theorem dX0_has_13 : decode cX0_has 13 = .ok (.goto 4, 3) := by decide +kernel
theorem dX0_has_16 : decode cX0_has 16 = .ok (.iconst 0, 1) := by decide +kernel
theorem dX0_has_17 : decode cX0_has 17 = .ok (.ireturn, 1) := by decide +kernel
theorem dX0_hasFlag_0 : decode cX0_hasFlag 0 = .ok (.aload_n 0, 1) := by decide +kernel
theorem dX0_hasFlag_1 : decode cX0_hasFlag 1 = .ok (.getfield 24, 3) := by decide +kernel
theorem dX0_hasFlag_4 : decode cX0_hasFlag 4 = .ok (.iload_n 1, 1) := by decide +kernel
theorem dX0_hasFlag_5 : decode cX0_hasFlag 5 = .ok (.iaload, 1) := by decide +kernel
theorem dX0_hasFlag_6 : decode cX0_hasFlag 6 = .ok (.iload_n 2, 1) := by decide +kernel
theorem dX0_hasFlag_7 : decode cX0_hasFlag 7 = .ok (.iand, 1) := by decide +kernel
theorem dX0_hasFlag_8 : decode cX0_hasFlag 8 = .ok (.ifCond .eq 7, 3) := by decide +kernel
theorem dX0_hasFlag_11 : decode cX0_hasFlag 11 = .ok (.iconst 1, 1) := by decide +kernel
theorem dX0_hasFlag_12 : decode cX0_hasFlag 12 = .ok (.goto 4, 3) := by decide +kernel
theorem dX0_hasFlag_15 : decode cX0_hasFlag 15 = .ok (.iconst 0, 1) := by decide +kernel
theorem dX0_hasFlag_16 : decode cX0_hasFlag 16 = .ok (.ireturn, 1) := by decide +kernel
theorem dX0_add_0 : decode cX0_add 0 = .ok (.aload_n 0, 1) := by decide +kernel
theorem dX0_add_1 : decode cX0_add 1 = .ok (.getfield 27, 3) := by decide +kernel
theorem dX0_add_4 : decode cX0_add 4 = .ok (.bipush 40, 2) := by decide +kernel
theorem dX0_add_6 : decode cX0_add 6 = .ok (.if_icmp .lt 6, 3) := by decide +kernel
theorem dX0_add_9 : decode cX0_add 9 = .ok (.bipush (-4), 2) := by decide +kernel
theorem dX0_add_11 : decode cX0_add 11 = .ok (.ireturn, 1) := by decide +kernel
theorem dX0_add_12 : decode cX0_add 12 = .ok (.aload_n 0, 1) := by decide +kernel
theorem dX0_add_13 : decode cX0_add 13 = .ok (.getfield 9, 3) := by decide +kernel
theorem dX0_add_16 : decode cX0_add 16 = .ok (.aload_n 0, 1) := by decide +kernel
theorem dX0_add_17 : decode cX0_add 17 = .ok (.getfield 27, 3) := by decide +kernel
theorem dX0_add_20 : decode cX0_add 20 = .ok (.iload_n 1, 1) := by decide +kernel
theorem dX0_add_21 : decode cX0_add 21 = .ok (.iastore, 1) := by decide +kernel
theorem dX0_add_22 : decode cX0_add 22 = .ok (.aload_n 0, 1) := by decide +kernel
theorem dX0_add_23 : decode cX0_add 23 = .ok (.getfield 15, 3) := by decide +kernel
theorem dX0_add_26 : decode cX0_add 26 = .ok (.aload_n 0, 1) := by decide +kernel
theorem dX0_add_27 : decode cX0_add 27 = .ok (.getfield 27, 3) := by decide +kernel
theorem dX0_add_30 : decode cX0_add 30 = .ok (.iload_n 2, 1) := by decide +kernel
theorem dX0_add_31 : decode cX0_add 31 = .ok (.iastore, 1) := by decide +kernel
theorem dX0_add_32 : decode cX0_add 32 = .ok (.aload_n 0, 1) := by decide +kernel
theorem dX0_add_33 : decode cX0_add 33 = .ok (.getfield 18, 3) := by decide +kernel
theorem dX0_add_36 : decode cX0_add 36 = .ok (.aload_n 0, 1) := by decide +kernel
theorem dX0_add_37 : decode cX0_add 37 = .ok (.getfield 27, 3) := by decide +kernel
theorem dX0_add_40 : decode cX0_add 40 = .ok (.iload_n 3, 1) := by decide +kernel
theorem dX0_add_41 : decode cX0_add 41 = .ok (.iastore, 1) := by decide +kernel
theorem dX0_add_42 : decode cX0_add 42 = .ok (.aload_n 0, 1) := by decide +kernel
theorem dX0_add_43 : decode cX0_add 43 = .ok (.getfield 21, 3) := by decide +kernel
theorem dX0_add_46 : decode cX0_add 46 = .ok (.aload_n 0, 1) := by decide +kernel
theorem dX0_add_47 : decode cX0_add 47 = .ok (.getfield 27, 3) := by decide +kernel
theorem dX0_add_50 : decode cX0_add 50 = .ok (.iload 4, 2) := by decide +kernel
theorem dX0_add_52 : decode cX0_add 52 = .ok (.iastore, 1) := by decide +kernel
theorem dX0_add_53 : decode cX0_add 53 = .ok (.aload_n 0, 1) := by decide +kernel
theorem dX0_add_54 : decode cX0_add 54 = .ok (.getfield 24, 3) := by decide +kernel
theorem dX0_add_57 : decode cX0_add 57 = .ok (.aload_n 0, 1) := by decide +kernel
theorem dX0_add_58 : decode cX0_add 58 = .ok (.getfield 27, 3) := by decide +kernel
theorem dX0_add_61 : decode cX0_add 61 = .ok (.iload 5, 2) := by decide +kernel
theorem dX0_add_63 : decode cX0_add 63 = .ok (.iastore, 1) := by decide +kernel
theorem dX0_add_64 : decode cX0_add 64 = .ok (.aload_n 0, 1) := by decide +kernel
theorem dX0_add_65 : decode cX0_add 65 = .ok (.dup, 1) := by decide +kernel
theorem dX0_add_66 : decode cX0_add 66 = .ok (.getfield 27, 3) := by decide +kernel
theorem dX0_add_69 : decode cX0_add 69 = .ok (.dup_x1, 1) := by decide +kernel
theorem dX0_add_70 : decode cX0_add 70 = .ok (.iconst 1, 1) := by decide +kernel
theorem dX0_add_71 : decode cX0_add 71 = .ok (.iadd, 1) := by decide +kernel
theorem dX0_add_72 : decode cX0_add 72 = .ok (.putfield 27, 3) := by decide +kernel
theorem dX0_add_75 : decode cX0_add 75 = .ok (.ireturn, 1) := by decide +kernel
theorem dX1_init_0 : decode cX1_init 0 = .ok (.aload_n 0, 1) := by decide +kernel
theorem dX1_init_1 : decode cX1_init 1 = .ok (.invokespecial 3, 3) := by decide +kernel
theorem dX1_init_4 : decode cX1_init 4 = .ok (.aload_n 0, 1) := by decide +kernel
theorem dX1_init_5 : decode cX1_init 5 = .ok (.bipush 10, 2) := by decide +kernel
theorem dX1_init_7 : decode cX1_init 7 = .ok (.newarray .int, 2) := by decide +kernel
theorem dX1_init_9 : decode cX1_init 9 = .ok (.putfield 9, 3) := by decide +kernel
theorem dX1_init_12 : decode cX1_init 12 = .ok (.aload_n 0, 1) := by decide +kernel
theorem dX1_init_13 : decode cX1_init 13 = .ok (.bipush 10, 2) := by decide +kernel
theorem dX1_init_15 : decode cX1_init 15 = .ok (.newarray .boolean, 2) := by decide +kernel
theorem dX1_init_17 : decode cX1_init 17 = .ok (.putfield 15, 3) := by decide +kernel
theorem dX1_init_20 : decode cX1_init 20 = .ok (.aload_n 0, 1) := by decide +kernel
theorem dX1_init_21 : decode cX1_init 21 = .ok (.bipush 10, 2) := by decide +kernel
theorem dX1_init_23 : decode cX1_init 23 = .ok (.newarray .boolean, 2) := by decide +kernel
theorem dX1_init_25 : decode cX1_init 25 = .ok (.putfield 19, 3) := by decide +kernel
theorem dX1_init_28 : decode cX1_init 28 = .ok (.aload_n 0, 1) := by decide +kernel
theorem dX1_init_29 : decode cX1_init 29 = .ok (.sipush 310, 3) := by decide +kernel
theorem dX1_init_32 : decode cX1_init 32 = .ok (.newarray .int, 2) := by decide +kernel
theorem dX1_init_34 : decode cX1_init 34 = .ok (.putfield 22, 3) := by decide +kernel
theorem dX1_init_37 : decode cX1_init 37 = .ok (.aload_n 0, 1) := by decide +kernel
theorem dX1_init_38 : decode cX1_init 38 = .ok (.sipush 310, 3) := by decide +kernel
theorem dX1_init_41 : decode cX1_init 41 = .ok (.newarray .int, 2) := by decide +kernel
theorem dX1_init_43 : decode cX1_init 43 = .ok (.putfield 25, 3) := by decide +kernel
theorem dX1_init_46 : decode cX1_init 46 = .ok (.aload_n 0, 1) := by decide +kernel
theorem dX1_init_47 : decode cX1_init 47 = .ok (.sipush 310, 3) := by decide +kernel
theorem dX1_init_50 : decode cX1_init 50 = .ok (.newarray .int, 2) := by decide +kernel
theorem dX1_init_52 : decode cX1_init 52 = .ok (.putfield 28, 3) := by decide +kernel
theorem dX1_init_55 : decode cX1_init 55 = .ok (.aload_n 0, 1) := by decide +kernel
theorem dX1_init_56 : decode cX1_init 56 = .ok (.sipush 310, 3) := by decide +kernel
theorem dX1_init_59 : decode cX1_init 59 = .ok (.newarray .boolean, 2) := by decide +kernel
theorem dX1_init_61 : decode cX1_init 61 = .ok (.putfield 31, 3) := by decide +kernel
theorem dX1_init_64 : decode cX1_init 64 = .ok (.aload_n 0, 1) := by decide +kernel
theorem dX1_init_65 : decode cX1_init 65 = .ok (.iconst 0, 1) := by decide +kernel
theorem dX1_init_66 : decode cX1_init 66 = .ok (.putfield 34, 3) := by decide +kernel
theorem dX1_init_69 : decode cX1_init 69 = .ok (.aload_n 0, 1) := by decide +kernel
theorem dX1_init_70 : decode cX1_init 70 = .ok (.getfield 22, 3) := by decide +kernel
theorem dX1_init_73 : decode cX1_init 73 = .ok (.iconst (-1), 1) := by decide +kernel
theorem dX1_init_74 : decode cX1_init 74 = .ok (.invokestatic 38, 3) := by decide +kernel
theorem dX1_init_77 : decode cX1_init 77 = .ok (.aload_n 0, 1) := by decide +kernel
theorem dX1_init_78 : decode cX1_init 78 = .ok (.getfield 25, 3) := by decide +kernel
theorem dX1_init_81 : decode cX1_init 81 = .ok (.iconst (-1), 1) := by decide +kernel
theorem dX1_init_82 : decode cX1_init 82 = .ok (.invokestatic 38, 3) := by decide +kernel
theorem dX1_init_85 : decode cX1_init 85 = .ok (.aload_n 0, 1) := by decide +kernel
theorem dX1_init_86 : decode cX1_init 86 = .ok (.getfield 28, 3) := by decide +kernel
theorem dX1_init_89 : decode cX1_init 89 = .ok (.iconst (-1), 1) := by decide +kernel
theorem dX1_init_90 : decode cX1_init 90 = .ok (.invokestatic 38, 3) := by decide +kernel
theorem dX1_init_93 : decode cX1_init 93 = .ok (.return_, 1) := by decide +kernel
theorem dX1_has_0 : decode cX1_has 0 = .ok (.iload_n 1, 1) := by decide +kernel
theorem dX1_has_1 : decode cX1_has 1 = .ok (.ifCond .lt 15, 3) := by decide +kernel
theorem dX1_has_4 : decode cX1_has 4 = .ok (.iload_n 1, 1) := by decide +kernel
theorem dX1_has_5 : decode cX1_has 5 = .ok (.aload_n 0, 1) := by decide +kernel
theorem dX1_has_6 : decode cX1_has 6 = .ok (.getfield 34, 3) := by decide +kernel
theorem dX1_has_9 : decode cX1_has 9 = .ok (.if_icmp .ge 7, 3) := by decide +kernel
theorem dX1_has_12 : decode cX1_has 12 = .ok (.iconst 1, 1) := by decide +kernel
theorem dX1_has_13 : decode cX1_has 13 = .ok (.goto 4, 3) := by decide +kernel
theorem dX1_has_16 : decode cX1_has 16 = .ok (.iconst 0, 1) := by decide +kernel
theorem dX1_has_17 : decode cX1_has 17 = .ok (.ireturn, 1) := by decide +kernel
theorem dX1_isProgram_0 : decode cX1_isProgram 0 = .ok (.aload_n 0, 1) := by decide +kernel
theorem dX1_isProgram_1 : decode cX1_isProgram 1 = .ok (.getfield 9, 3) := by decide +kernel
theorem dX1_isProgram_4 : decode cX1_isProgram 4 = .ok (.iload_n 1, 1) := by decide +kernel
theorem dX1_isProgram_5 : decode cX1_isProgram 5 = .ok (.iaload, 1) := by decide +kernel
theorem dX1_isProgram_6 : decode cX1_isProgram 6 = .ok (.iconst (-1), 1) := by decide +kernel
theorem dX1_isProgram_7 : decode cX1_isProgram 7 = .ok (.if_icmp .eq 7, 3) := by decide +kernel
theorem dX1_isProgram_10 : decode cX1_isProgram 10 = .ok (.iconst 1, 1) := by decide +kernel
theorem dX1_isProgram_11 : decode cX1_isProgram 11 = .ok (.goto 4, 3) := by decide +kernel
theorem dX1_isProgram_14 : decode cX1_isProgram 14 = .ok (.iconst 0, 1) := by decide +kernel
theorem dX1_isProgram_15 : decode cX1_isProgram 15 = .ok (.ireturn, 1) := by decide +kernel
theorem dX1_add_0 : decode cX1_add 0 = .ok (.aload_n 0, 1) := by decide +kernel
theorem dX1_add_1 : decode cX1_add 1 = .ok (.getfield 34, 3) := by decide +kernel
theorem dX1_add_4 : decode cX1_add 4 = .ok (.bipush 10, 2) := by decide +kernel
theorem dX1_add_6 : decode cX1_add 6 = .ok (.if_icmp .lt 6, 3) := by decide +kernel
theorem dX1_add_9 : decode cX1_add 9 = .ok (.bipush (-4), 2) := by decide +kernel
theorem dX1_add_11 : decode cX1_add 11 = .ok (.ireturn, 1) := by decide +kernel
theorem dX1_add_12 : decode cX1_add 12 = .ok (.aload_n 0, 1) := by decide +kernel
theorem dX1_add_13 : decode cX1_add 13 = .ok (.getfield 9, 3) := by decide +kernel
theorem dX1_add_16 : decode cX1_add 16 = .ok (.aload_n 0, 1) := by decide +kernel
theorem dX1_add_17 : decode cX1_add 17 = .ok (.getfield 34, 3) := by decide +kernel
theorem dX1_add_20 : decode cX1_add 20 = .ok (.iload_n 1, 1) := by decide +kernel
theorem dX1_add_21 : decode cX1_add 21 = .ok (.iastore, 1) := by decide +kernel
theorem dX1_add_22 : decode cX1_add 22 = .ok (.aload_n 0, 1) := by decide +kernel
theorem dX1_add_23 : decode cX1_add 23 = .ok (.getfield 15, 3) := by decide +kernel
theorem dX1_add_26 : decode cX1_add 26 = .ok (.aload_n 0, 1) := by decide +kernel
theorem dX1_add_27 : decode cX1_add 27 = .ok (.getfield 34, 3) := by decide +kernel
theorem dX1_add_30 : decode cX1_add 30 = .ok (.iload_n 2, 1) := by decide +kernel
theorem dX1_add_31 : decode cX1_add 31 = .ok (.bastore, 1) := by decide +kernel
theorem dX1_add_32 : decode cX1_add 32 = .ok (.aload_n 0, 1) := by decide +kernel
theorem dX1_add_33 : decode cX1_add 33 = .ok (.dup, 1) := by decide +kernel
theorem dX1_add_34 : decode cX1_add 34 = .ok (.getfield 34, 3) := by decide +kernel
theorem dX1_add_37 : decode cX1_add 37 = .ok (.dup_x1, 1) := by decide +kernel
theorem dX1_add_38 : decode cX1_add 38 = .ok (.iconst 1, 1) := by decide +kernel
theorem dX1_add_39 : decode cX1_add 39 = .ok (.iadd, 1) := by decide +kernel
theorem dX1_add_40 : decode cX1_add 40 = .ok (.putfield 34, 3) := by decide +kernel
theorem dX1_add_43 : decode cX1_add 43 = .ok (.ireturn, 1) := by decide +kernel
theorem dX1_madeOrGiven_0 : decode cX1_madeOrGiven 0 = .ok (.aload_n 0, 1) := by decide +kernel
theorem dX1_madeOrGiven_1 : decode cX1_madeOrGiven 1 = .ok (.getfield 25, 3) := by decide +kernel
theorem dX1_madeOrGiven_4 : decode cX1_madeOrGiven 4 = .ok (.iload_n 1, 1) := by decide +kernel
theorem dX1_madeOrGiven_5 : decode cX1_madeOrGiven 5 = .ok (.iload_n 2, 1) := by decide +kernel
theorem dX1_madeOrGiven_6 : decode cX1_madeOrGiven 6 = .ok (.invokestatic 44, 3) := by decide +kernel
theorem dX1_madeOrGiven_9 : decode cX1_madeOrGiven 9 = .ok (.iaload, 1) := by decide +kernel
theorem dX1_madeOrGiven_10 : decode cX1_madeOrGiven 10 = .ok (.istore_n 3, 1) := by decide +kernel
theorem dX1_madeOrGiven_11 : decode cX1_madeOrGiven 11 = .ok (.iload_n 3, 1) := by decide +kernel
theorem dX1_madeOrGiven_12 : decode cX1_madeOrGiven 12 = .ok (.iconst (-1), 1) := by decide +kernel
theorem dX1_madeOrGiven_13 : decode cX1_madeOrGiven 13 = .ok (.if_icmp .eq 7, 3) := by decide +kernel
theorem dX1_madeOrGiven_16 : decode cX1_madeOrGiven 16 = .ok (.iload_n 3, 1) := by decide +kernel
theorem dX1_madeOrGiven_17 : decode cX1_madeOrGiven 17 = .ok (.goto 13, 3) := by decide +kernel
theorem dX1_madeOrGiven_20 : decode cX1_madeOrGiven 20 = .ok (.aload_n 0, 1) := by decide +kernel
theorem dX1_madeOrGiven_21 : decode cX1_madeOrGiven 21 = .ok (.getfield 28, 3) := by decide +kernel
theorem dX1_madeOrGiven_24 : decode cX1_madeOrGiven 24 = .ok (.iload_n 1, 1) := by decide +kernel
theorem dX1_madeOrGiven_25 : decode cX1_madeOrGiven 25 = .ok (.iload_n 2, 1) := by decide +kernel
theorem dX1_madeOrGiven_26 : decode cX1_madeOrGiven 26 = .ok (.invokestatic 44, 3) := by decide +kernel
theorem dX1_madeOrGiven_29 : decode cX1_madeOrGiven 29 = .ok (.iaload, 1) := by decide +kernel
theorem dX1_madeOrGiven_30 : decode cX1_madeOrGiven 30 = .ok (.ireturn, 1) := by decide +kernel
theorem dX1_hasLiveProgram_0 : decode cX1_hasLiveProgram 0 = .ok (.iconst 0, 1) := by decide +kernel
theorem dX1_hasLiveProgram_1 : decode cX1_hasLiveProgram 1 = .ok (.istore_n 2, 1) := by decide +kernel
theorem dX1_hasLiveProgram_2 : decode cX1_hasLiveProgram 2 = .ok (.iload_n 2, 1) := by decide +kernel
theorem dX1_hasLiveProgram_3 : decode cX1_hasLiveProgram 3 = .ok (.aload_n 0, 1) := by decide +kernel
theorem dX1_hasLiveProgram_4 : decode cX1_hasLiveProgram 4 = .ok (.getfield 34, 3) := by decide +kernel
theorem dX1_hasLiveProgram_7 : decode cX1_hasLiveProgram 7 = .ok (.if_icmp .ge 30, 3) := by decide +kernel
theorem dX1_hasLiveProgram_10 : decode cX1_hasLiveProgram 10 = .ok (.aload_n 0, 1) := by decide +kernel
theorem dX1_hasLiveProgram_11 : decode cX1_hasLiveProgram 11 = .ok (.getfield 9, 3) := by decide +kernel
theorem dX1_hasLiveProgram_14 : decode cX1_hasLiveProgram 14 = .ok (.iload_n 2, 1) := by decide +kernel
theorem dX1_hasLiveProgram_15 : decode cX1_hasLiveProgram 15 = .ok (.iaload, 1) := by decide +kernel
theorem dX1_hasLiveProgram_16 : decode cX1_hasLiveProgram 16 = .ok (.iload_n 1, 1) := by decide +kernel
theorem dX1_hasLiveProgram_17 : decode cX1_hasLiveProgram 17 = .ok (.if_icmp .ne 14, 3) := by decide +kernel
theorem dX1_hasLiveProgram_20 : decode cX1_hasLiveProgram 20 = .ok (.aload_n 0, 1) := by decide +kernel
theorem dX1_hasLiveProgram_21 : decode cX1_hasLiveProgram 21 = .ok (.getfield 19, 3) := by decide +kernel
theorem dX1_hasLiveProgram_24 : decode cX1_hasLiveProgram 24 = .ok (.iload_n 2, 1) := by decide +kernel
theorem dX1_hasLiveProgram_25 : decode cX1_hasLiveProgram 25 = .ok (.baload, 1) := by decide +kernel
theorem dX1_hasLiveProgram_26 : decode cX1_hasLiveProgram 26 = .ok (.ifCond .ne 5, 3) := by decide +kernel
theorem dX1_hasLiveProgram_29 : decode cX1_hasLiveProgram 29 = .ok (.iconst 1, 1) := by decide +kernel
theorem dX1_hasLiveProgram_30 : decode cX1_hasLiveProgram 30 = .ok (.ireturn, 1) := by decide +kernel
theorem dX1_hasLiveProgram_31 : decode cX1_hasLiveProgram 31 = .ok (.iinc 2 1, 3) := by decide +kernel
theorem dX1_hasLiveProgram_34 : decode cX1_hasLiveProgram 34 = .ok (.goto (-32), 3) := by decide +kernel
theorem dX1_hasLiveProgram_37 : decode cX1_hasLiveProgram 37 = .ok (.iconst 0, 1) := by decide +kernel
theorem dX1_hasLiveProgram_38 : decode cX1_hasLiveProgram 38 = .ok (.ireturn, 1) := by decide +kernel
theorem dX2_init_0 : decode cX2_init 0 = .ok (.aload_n 0, 1) := by decide +kernel
theorem dX2_init_1 : decode cX2_init 1 = .ok (.invokespecial 3, 3) := by decide +kernel
theorem dX2_init_4 : decode cX2_init 4 = .ok (.aload_n 0, 1) := by decide +kernel
theorem dX2_init_5 : decode cX2_init 5 = .ok (.sipush 822, 3) := by decide +kernel
theorem dX2_init_8 : decode cX2_init 8 = .ok (.newarray .int, 2) := by decide +kernel
theorem dX2_init_10 : decode cX2_init 10 = .ok (.putfield 9, 3) := by decide +kernel
theorem dX2_init_13 : decode cX2_init 13 = .ok (.aload_n 0, 1) := by decide +kernel
theorem dX2_init_14 : decode cX2_init 14 = .ok (.sipush 822, 3) := by decide +kernel
theorem dX2_init_17 : decode cX2_init 17 = .ok (.newarray .int, 2) := by decide +kernel
theorem dX2_init_19 : decode cX2_init 19 = .ok (.putfield 15, 3) := by decide +kernel
theorem dX2_init_22 : decode cX2_init 22 = .ok (.aload_n 0, 1) := by decide +kernel
theorem dX2_init_23 : decode cX2_init 23 = .ok (.sipush 822, 3) := by decide +kernel
theorem dX2_init_26 : decode cX2_init 26 = .ok (.newarray .int, 2) := by decide +kernel
theorem dX2_init_28 : decode cX2_init 28 = .ok (.putfield 18, 3) := by decide +kernel
theorem dX2_init_31 : decode cX2_init 31 = .ok (.aload_n 0, 1) := by decide +kernel
theorem dX2_init_32 : decode cX2_init 32 = .ok (.sipush 822, 3) := by decide +kernel
theorem dX2_init_35 : decode cX2_init 35 = .ok (.newarray .int, 2) := by decide +kernel
theorem dX2_init_37 : decode cX2_init 37 = .ok (.putfield 21, 3) := by decide +kernel
theorem dX2_init_40 : decode cX2_init 40 = .ok (.aload_n 0, 1) := by decide +kernel
theorem dX2_init_41 : decode cX2_init 41 = .ok (.sipush 822, 3) := by decide +kernel
theorem dX2_init_44 : decode cX2_init 44 = .ok (.newarray .int, 2) := by decide +kernel
theorem dX2_init_46 : decode cX2_init 46 = .ok (.putfield 24, 3) := by decide +kernel
theorem dX2_init_49 : decode cX2_init 49 = .ok (.aload_n 0, 1) := by decide +kernel
theorem dX2_init_50 : decode cX2_init 50 = .ok (.iconst 0, 1) := by decide +kernel
theorem dX2_init_51 : decode cX2_init 51 = .ok (.putfield 27, 3) := by decide +kernel
theorem dX2_init_54 : decode cX2_init 54 = .ok (.return_, 1) := by decide +kernel
theorem dX2_has_0 : decode cX2_has 0 = .ok (.iload_n 1, 1) := by decide +kernel
theorem dX2_has_1 : decode cX2_has 1 = .ok (.ifCond .lt 15, 3) := by decide +kernel
theorem dX2_has_4 : decode cX2_has 4 = .ok (.iload_n 1, 1) := by decide +kernel
theorem dX2_has_5 : decode cX2_has 5 = .ok (.aload_n 0, 1) := by decide +kernel
theorem dX2_has_6 : decode cX2_has 6 = .ok (.getfield 27, 3) := by decide +kernel
theorem dX2_has_9 : decode cX2_has 9 = .ok (.if_icmp .ge 7, 3) := by decide +kernel
theorem dX2_has_12 : decode cX2_has 12 = .ok (.iconst 1, 1) := by decide +kernel
theorem dX2_has_13 : decode cX2_has 13 = .ok (.goto 4, 3) := by decide +kernel
theorem dX2_has_16 : decode cX2_has 16 = .ok (.iconst 0, 1) := by decide +kernel
theorem dX2_has_17 : decode cX2_has 17 = .ok (.ireturn, 1) := by decide +kernel
theorem dX2_add_0 : decode cX2_add 0 = .ok (.aload_n 0, 1) := by decide +kernel
theorem dX2_add_1 : decode cX2_add 1 = .ok (.getfield 27, 3) := by decide +kernel
theorem dX2_add_4 : decode cX2_add 4 = .ok (.sipush 822, 3) := by decide +kernel
theorem dX2_add_7 : decode cX2_add 7 = .ok (.if_icmp .lt 6, 3) := by decide +kernel
theorem dX2_add_10 : decode cX2_add 10 = .ok (.bipush (-4), 2) := by decide +kernel
theorem dX2_add_12 : decode cX2_add 12 = .ok (.ireturn, 1) := by decide +kernel
theorem dX2_add_13 : decode cX2_add 13 = .ok (.aload_n 0, 1) := by decide +kernel
theorem dX2_add_14 : decode cX2_add 14 = .ok (.getfield 9, 3) := by decide +kernel
theorem dX2_add_17 : decode cX2_add 17 = .ok (.aload_n 0, 1) := by decide +kernel
theorem dX2_add_18 : decode cX2_add 18 = .ok (.getfield 27, 3) := by decide +kernel
theorem dX2_add_21 : decode cX2_add 21 = .ok (.iload_n 1, 1) := by decide +kernel
theorem dX2_add_22 : decode cX2_add 22 = .ok (.iastore, 1) := by decide +kernel
theorem dX2_add_23 : decode cX2_add 23 = .ok (.aload_n 0, 1) := by decide +kernel
theorem dX2_add_24 : decode cX2_add 24 = .ok (.getfield 15, 3) := by decide +kernel
theorem dX2_add_27 : decode cX2_add 27 = .ok (.aload_n 0, 1) := by decide +kernel
theorem dX2_add_28 : decode cX2_add 28 = .ok (.getfield 27, 3) := by decide +kernel
theorem dX2_add_31 : decode cX2_add 31 = .ok (.iload_n 2, 1) := by decide +kernel
theorem dX2_add_32 : decode cX2_add 32 = .ok (.iastore, 1) := by decide +kernel
theorem dX2_add_33 : decode cX2_add 33 = .ok (.aload_n 0, 1) := by decide +kernel
theorem dX2_add_34 : decode cX2_add 34 = .ok (.getfield 18, 3) := by decide +kernel
theorem dX2_add_37 : decode cX2_add 37 = .ok (.aload_n 0, 1) := by decide +kernel
theorem dX2_add_38 : decode cX2_add 38 = .ok (.getfield 27, 3) := by decide +kernel
theorem dX2_add_41 : decode cX2_add 41 = .ok (.iload_n 3, 1) := by decide +kernel
theorem dX2_add_42 : decode cX2_add 42 = .ok (.iastore, 1) := by decide +kernel
theorem dX2_add_43 : decode cX2_add 43 = .ok (.aload_n 0, 1) := by decide +kernel
theorem dX2_add_44 : decode cX2_add 44 = .ok (.getfield 21, 3) := by decide +kernel
theorem dX2_add_47 : decode cX2_add 47 = .ok (.aload_n 0, 1) := by decide +kernel
theorem dX2_add_48 : decode cX2_add 48 = .ok (.getfield 27, 3) := by decide +kernel
theorem dX2_add_51 : decode cX2_add 51 = .ok (.iload 4, 2) := by decide +kernel
theorem dX2_add_53 : decode cX2_add 53 = .ok (.iastore, 1) := by decide +kernel
theorem dX2_add_54 : decode cX2_add 54 = .ok (.aload_n 0, 1) := by decide +kernel
theorem dX2_add_55 : decode cX2_add 55 = .ok (.getfield 24, 3) := by decide +kernel
theorem dX2_add_58 : decode cX2_add 58 = .ok (.aload_n 0, 1) := by decide +kernel
theorem dX2_add_59 : decode cX2_add 59 = .ok (.getfield 27, 3) := by decide +kernel
theorem dX2_add_62 : decode cX2_add 62 = .ok (.iconst 0, 1) := by decide +kernel
theorem dX2_add_63 : decode cX2_add 63 = .ok (.iastore, 1) := by decide +kernel
theorem dX2_add_64 : decode cX2_add 64 = .ok (.aload_n 0, 1) := by decide +kernel
theorem dX2_add_65 : decode cX2_add 65 = .ok (.dup, 1) := by decide +kernel
theorem dX2_add_66 : decode cX2_add 66 = .ok (.getfield 27, 3) := by decide +kernel
theorem dX2_add_69 : decode cX2_add 69 = .ok (.dup_x1, 1) := by decide +kernel
theorem dX2_add_70 : decode cX2_add 70 = .ok (.iconst 1, 1) := by decide +kernel
theorem dX2_add_71 : decode cX2_add 71 = .ok (.iadd, 1) := by decide +kernel
theorem dX2_add_72 : decode cX2_add 72 = .ok (.putfield 27, 3) := by decide +kernel
theorem dX2_add_75 : decode cX2_add 75 = .ok (.ireturn, 1) := by decide +kernel
theorem dX2_isOrDescends_0 : decode cX2_isOrDescends 0 = .ok (.iload_n 1, 1) := by decide +kernel
theorem dX2_isOrDescends_1 : decode cX2_isOrDescends 1 = .ok (.istore_n 3, 1) := by decide +kernel
theorem dX2_isOrDescends_2 : decode cX2_isOrDescends 2 = .ok (.iconst 0, 1) := by decide +kernel
theorem dX2_isOrDescends_3 : decode cX2_isOrDescends 3 = .ok (.istore 4, 2) := by decide +kernel
theorem dX2_isOrDescends_5 : decode cX2_isOrDescends 5 = .ok (.iload 4, 2) := by decide +kernel
theorem dX2_isOrDescends_7 : decode cX2_isOrDescends 7 = .ok (.aload_n 0, 1) := by decide +kernel
theorem dX2_isOrDescends_8 : decode cX2_isOrDescends 8 = .ok (.getfield 27, 3) := by decide +kernel
theorem dX2_isOrDescends_11 : decode cX2_isOrDescends 11 = .ok (.if_icmp .ge 28, 3) := by decide +kernel
theorem dX2_isOrDescends_14 : decode cX2_isOrDescends 14 = .ok (.iload_n 3, 1) := by decide +kernel
theorem dX2_isOrDescends_15 : decode cX2_isOrDescends 15 = .ok (.iconst (-1), 1) := by decide +kernel
theorem dX2_isOrDescends_16 : decode cX2_isOrDescends 16 = .ok (.if_icmp .eq 23, 3) := by decide +kernel
theorem dX2_isOrDescends_19 : decode cX2_isOrDescends 19 = .ok (.iload_n 3, 1) := by decide +kernel
theorem dX2_isOrDescends_20 : decode cX2_isOrDescends 20 = .ok (.iload_n 2, 1) := by decide +kernel
theorem dX2_isOrDescends_21 : decode cX2_isOrDescends 21 = .ok (.if_icmp .ne 5, 3) := by decide +kernel
theorem dX2_isOrDescends_24 : decode cX2_isOrDescends 24 = .ok (.iconst 1, 1) := by decide +kernel
theorem dX2_isOrDescends_25 : decode cX2_isOrDescends 25 = .ok (.ireturn, 1) := by decide +kernel
theorem dX2_isOrDescends_26 : decode cX2_isOrDescends 26 = .ok (.aload_n 0, 1) := by decide +kernel
theorem dX2_isOrDescends_27 : decode cX2_isOrDescends 27 = .ok (.getfield 21, 3) := by decide +kernel
theorem dX2_isOrDescends_30 : decode cX2_isOrDescends 30 = .ok (.iload_n 3, 1) := by decide +kernel
theorem dX2_isOrDescends_31 : decode cX2_isOrDescends 31 = .ok (.iaload, 1) := by decide +kernel
theorem dX2_isOrDescends_32 : decode cX2_isOrDescends 32 = .ok (.istore_n 3, 1) := by decide +kernel
theorem dX2_isOrDescends_33 : decode cX2_isOrDescends 33 = .ok (.iinc 4 1, 3) := by decide +kernel
theorem dX2_isOrDescends_36 : decode cX2_isOrDescends 36 = .ok (.goto (-31), 3) := by decide +kernel
theorem dX2_isOrDescends_39 : decode cX2_isOrDescends 39 = .ok (.iconst 0, 1) := by decide +kernel
theorem dX2_isOrDescends_40 : decode cX2_isOrDescends 40 = .ok (.ireturn, 1) := by decide +kernel
theorem dX3_init_0 : decode cX3_init 0 = .ok (.aload_n 0, 1) := by decide +kernel
theorem dX3_init_1 : decode cX3_init 1 = .ok (.invokespecial 3, 3) := by decide +kernel
theorem dX3_init_4 : decode cX3_init 4 = .ok (.aload_n 0, 1) := by decide +kernel
theorem dX3_init_5 : decode cX3_init 5 = .ok (.sipush 822, 3) := by decide +kernel
theorem dX3_init_8 : decode cX3_init 8 = .ok (.newarray .int, 2) := by decide +kernel
theorem dX3_init_10 : decode cX3_init 10 = .ok (.putfield 9, 3) := by decide +kernel
theorem dX3_init_13 : decode cX3_init 13 = .ok (.aload_n 0, 1) := by decide +kernel
theorem dX3_init_14 : decode cX3_init 14 = .ok (.iconst 0, 1) := by decide +kernel
theorem dX3_init_15 : decode cX3_init 15 = .ok (.putfield 15, 3) := by decide +kernel
theorem dX3_init_18 : decode cX3_init 18 = .ok (.return_, 1) := by decide +kernel
theorem dX3_add_0 : decode cX3_add 0 = .ok (.aload_n 0, 1) := by decide +kernel
theorem dX3_add_1 : decode cX3_add 1 = .ok (.getfield 15, 3) := by decide +kernel
theorem dX3_add_4 : decode cX3_add 4 = .ok (.sipush 822, 3) := by decide +kernel
theorem dX3_add_7 : decode cX3_add 7 = .ok (.if_icmp .ge 20, 3) := by decide +kernel
theorem dX3_add_10 : decode cX3_add 10 = .ok (.aload_n 0, 1) := by decide +kernel
theorem dX3_add_11 : decode cX3_add 11 = .ok (.getfield 9, 3) := by decide +kernel
theorem dX3_add_14 : decode cX3_add 14 = .ok (.aload_n 0, 1) := by decide +kernel
theorem dX3_add_15 : decode cX3_add 15 = .ok (.dup, 1) := by decide +kernel
theorem dX3_add_16 : decode cX3_add 16 = .ok (.getfield 15, 3) := by decide +kernel
theorem dX3_add_19 : decode cX3_add 19 = .ok (.dup_x1, 1) := by decide +kernel
theorem dX3_add_20 : decode cX3_add 20 = .ok (.iconst 1, 1) := by decide +kernel
theorem dX3_add_21 : decode cX3_add 21 = .ok (.iadd, 1) := by decide +kernel
theorem dX3_add_22 : decode cX3_add 22 = .ok (.putfield 15, 3) := by decide +kernel
theorem dX3_add_25 : decode cX3_add 25 = .ok (.iload_n 1, 1) := by decide +kernel
theorem dX3_add_26 : decode cX3_add 26 = .ok (.iastore, 1) := by decide +kernel
theorem dX3_add_27 : decode cX3_add 27 = .ok (.return_, 1) := by decide +kernel
theorem dX4_init_0 : decode cX4_init 0 = .ok (.aload_n 0, 1) := by decide +kernel
theorem dX4_init_1 : decode cX4_init 1 = .ok (.invokespecial 3, 3) := by decide +kernel
theorem dX4_init_4 : decode cX4_init 4 = .ok (.aload_n 0, 1) := by decide +kernel
theorem dX4_init_5 : decode cX4_init 5 = .ok (.bipush 60, 2) := by decide +kernel
theorem dX4_init_7 : decode cX4_init 7 = .ok (.newarray .int, 2) := by decide +kernel
theorem dX4_init_9 : decode cX4_init 9 = .ok (.putfield 9, 3) := by decide +kernel
theorem dX4_init_12 : decode cX4_init 12 = .ok (.aload_n 0, 1) := by decide +kernel
theorem dX4_init_13 : decode cX4_init 13 = .ok (.bipush 60, 2) := by decide +kernel
theorem dX4_init_15 : decode cX4_init 15 = .ok (.newarray .boolean, 2) := by decide +kernel
theorem dX4_init_17 : decode cX4_init 17 = .ok (.putfield 15, 3) := by decide +kernel
theorem dX4_init_20 : decode cX4_init 20 = .ok (.aload_n 0, 1) := by decide +kernel
theorem dX4_init_21 : decode cX4_init 21 = .ok (.iconst 0, 1) := by decide +kernel
theorem dX4_init_22 : decode cX4_init 22 = .ok (.putfield 19, 3) := by decide +kernel
theorem dX4_init_25 : decode cX4_init 25 = .ok (.return_, 1) := by decide +kernel
theorem dX4_has_0 : decode cX4_has 0 = .ok (.iload_n 1, 1) := by decide +kernel
theorem dX4_has_1 : decode cX4_has 1 = .ok (.ifCond .lt 15, 3) := by decide +kernel
theorem dX4_has_4 : decode cX4_has 4 = .ok (.iload_n 1, 1) := by decide +kernel
theorem dX4_has_5 : decode cX4_has 5 = .ok (.aload_n 0, 1) := by decide +kernel
theorem dX4_has_6 : decode cX4_has 6 = .ok (.getfield 19, 3) := by decide +kernel
theorem dX4_has_9 : decode cX4_has 9 = .ok (.if_icmp .ge 7, 3) := by decide +kernel
theorem dX4_has_12 : decode cX4_has 12 = .ok (.iconst 1, 1) := by decide +kernel
theorem dX4_has_13 : decode cX4_has 13 = .ok (.goto 4, 3) := by decide +kernel
theorem dX4_has_16 : decode cX4_has 16 = .ok (.iconst 0, 1) := by decide +kernel
theorem dX4_has_17 : decode cX4_has 17 = .ok (.ireturn, 1) := by decide +kernel
theorem dX4_areFull_0 : decode cX4_areFull 0 = .ok (.aload_n 0, 1) := by decide +kernel
theorem dX4_areFull_1 : decode cX4_areFull 1 = .ok (.getfield 19, 3) := by decide +kernel
theorem dX4_areFull_4 : decode cX4_areFull 4 = .ok (.bipush 60, 2) := by decide +kernel
theorem dX4_areFull_6 : decode cX4_areFull 6 = .ok (.if_icmp .lt 7, 3) := by decide +kernel
theorem dX4_areFull_9 : decode cX4_areFull 9 = .ok (.iconst 1, 1) := by decide +kernel
theorem dX4_areFull_10 : decode cX4_areFull 10 = .ok (.goto 4, 3) := by decide +kernel
theorem dX4_areFull_13 : decode cX4_areFull 13 = .ok (.iconst 0, 1) := by decide +kernel
theorem dX4_areFull_14 : decode cX4_areFull 14 = .ok (.ireturn, 1) := by decide +kernel
theorem dX4_add_0 : decode cX4_add 0 = .ok (.aload_n 0, 1) := by decide +kernel
theorem dX4_add_1 : decode cX4_add 1 = .ok (.invokevirtual 23, 3) := by decide +kernel
theorem dX4_add_4 : decode cX4_add 4 = .ok (.ifCond .eq 6, 3) := by decide +kernel
theorem dX4_add_7 : decode cX4_add 7 = .ok (.bipush (-4), 2) := by decide +kernel
theorem dX4_add_9 : decode cX4_add 9 = .ok (.ireturn, 1) := by decide +kernel
theorem dX4_add_10 : decode cX4_add 10 = .ok (.aload_n 0, 1) := by decide +kernel
theorem dX4_add_11 : decode cX4_add 11 = .ok (.getfield 9, 3) := by decide +kernel
theorem dX4_add_14 : decode cX4_add 14 = .ok (.aload_n 0, 1) := by decide +kernel
theorem dX4_add_15 : decode cX4_add 15 = .ok (.getfield 19, 3) := by decide +kernel
theorem dX4_add_18 : decode cX4_add 18 = .ok (.iload_n 1, 1) := by decide +kernel
theorem dX4_add_19 : decode cX4_add 19 = .ok (.iastore, 1) := by decide +kernel
theorem dX4_add_20 : decode cX4_add 20 = .ok (.aload_n 0, 1) := by decide +kernel
theorem dX4_add_21 : decode cX4_add 21 = .ok (.dup, 1) := by decide +kernel
theorem dX4_add_22 : decode cX4_add 22 = .ok (.getfield 19, 3) := by decide +kernel
theorem dX4_add_25 : decode cX4_add 25 = .ok (.dup_x1, 1) := by decide +kernel
theorem dX4_add_26 : decode cX4_add 26 = .ok (.iconst 1, 1) := by decide +kernel
theorem dX4_add_27 : decode cX4_add 27 = .ok (.iadd, 1) := by decide +kernel
theorem dX4_add_28 : decode cX4_add 28 = .ok (.putfield 19, 3) := by decide +kernel
theorem dX4_add_31 : decode cX4_add 31 = .ok (.ireturn, 1) := by decide +kernel
theorem dX5_init_0 : decode cX5_init 0 = .ok (.aload_n 0, 1) := by decide +kernel
theorem dX5_init_1 : decode cX5_init 1 = .ok (.invokespecial 3, 3) := by decide +kernel
theorem dX5_init_4 : decode cX5_init 4 = .ok (.aload_n 0, 1) := by decide +kernel
theorem dX5_init_5 : decode cX5_init 5 = .ok (.new 9, 3) := by decide +kernel
theorem dX5_init_8 : decode cX5_init 8 = .ok (.dup, 1) := by decide +kernel
theorem dX5_init_9 : decode cX5_init 9 = .ok (.invokespecial 11, 3) := by decide +kernel
theorem dX5_init_12 : decode cX5_init 12 = .ok (.putfield 12, 3) := by decide +kernel
theorem dX5_init_15 : decode cX5_init 15 = .ok (.aload_n 0, 1) := by decide +kernel
theorem dX5_init_16 : decode cX5_init 16 = .ok (.new 16, 3) := by decide +kernel
theorem dX5_init_19 : decode cX5_init 19 = .ok (.dup, 1) := by decide +kernel
theorem dX5_init_20 : decode cX5_init 20 = .ok (.invokespecial 18, 3) := by decide +kernel
theorem dX5_init_23 : decode cX5_init 23 = .ok (.putfield 19, 3) := by decide +kernel
theorem dX5_init_26 : decode cX5_init 26 = .ok (.aload_n 0, 1) := by decide +kernel
theorem dX5_init_27 : decode cX5_init 27 = .ok (.new 23, 3) := by decide +kernel
theorem dX5_init_30 : decode cX5_init 30 = .ok (.dup, 1) := by decide +kernel
theorem dX5_init_31 : decode cX5_init 31 = .ok (.invokespecial 25, 3) := by decide +kernel
theorem dX5_init_34 : decode cX5_init 34 = .ok (.putfield 26, 3) := by decide +kernel
theorem dX5_init_37 : decode cX5_init 37 = .ok (.aload_n 0, 1) := by decide +kernel
theorem dX5_init_38 : decode cX5_init 38 = .ok (.new 30, 3) := by decide +kernel
theorem dX5_init_41 : decode cX5_init 41 = .ok (.dup, 1) := by decide +kernel
theorem dX5_init_42 : decode cX5_init 42 = .ok (.invokespecial 32, 3) := by decide +kernel
theorem dX5_init_45 : decode cX5_init 45 = .ok (.putfield 33, 3) := by decide +kernel
theorem dX5_init_48 : decode cX5_init 48 = .ok (.aload_n 0, 1) := by decide +kernel
theorem dX5_init_49 : decode cX5_init 49 = .ok (.new 37, 3) := by decide +kernel
theorem dX5_init_52 : decode cX5_init 52 = .ok (.dup, 1) := by decide +kernel
theorem dX5_init_53 : decode cX5_init 53 = .ok (.invokespecial 39, 3) := by decide +kernel
theorem dX5_init_56 : decode cX5_init 56 = .ok (.putfield 40, 3) := by decide +kernel
theorem dX5_init_59 : decode cX5_init 59 = .ok (.aload_n 0, 1) := by decide +kernel
theorem dX5_init_60 : decode cX5_init 60 = .ok (.new 37, 3) := by decide +kernel
theorem dX5_init_63 : decode cX5_init 63 = .ok (.dup, 1) := by decide +kernel
theorem dX5_init_64 : decode cX5_init 64 = .ok (.invokespecial 39, 3) := by decide +kernel
theorem dX5_init_67 : decode cX5_init 67 = .ok (.putfield 44, 3) := by decide +kernel
theorem dX5_init_70 : decode cX5_init 70 = .ok (.aload_n 0, 1) := by decide +kernel
theorem dX5_init_71 : decode cX5_init 71 = .ok (.sipush 822, 3) := by decide +kernel
theorem dX5_init_74 : decode cX5_init 74 = .ok (.newarray .boolean, 2) := by decide +kernel
theorem dX5_init_76 : decode cX5_init 76 = .ok (.putfield 47, 3) := by decide +kernel
theorem dX5_init_79 : decode cX5_init 79 = .ok (.return_, 1) := by decide +kernel
theorem dX5_file_0 : decode cX5_file 0 = .ok (.iload_n 1, 1) := by decide +kernel
theorem dX5_file_1 : decode cX5_file 1 = .ok (.invokestatic 51, 3) := by decide +kernel
theorem dX5_file_4 : decode cX5_file 4 = .ok (.ifCond .eq 18, 3) := by decide +kernel
theorem dX5_file_7 : decode cX5_file 7 = .ok (.iload_n 3, 1) := by decide +kernel
theorem dX5_file_8 : decode cX5_file 8 = .ok (.invokestatic 55, 3) := by decide +kernel
theorem dX5_file_11 : decode cX5_file 11 = .ok (.ifCond .eq 11, 3) := by decide +kernel
theorem dX5_file_14 : decode cX5_file 14 = .ok (.iload 4, 2) := by decide +kernel
theorem dX5_file_16 : decode cX5_file 16 = .ok (.invokestatic 55, 3) := by decide +kernel
theorem dX5_file_19 : decode cX5_file 19 = .ok (.ifCond .ne 6, 3) := by decide +kernel
theorem dX5_file_22 : decode cX5_file 22 = .ok (.bipush (-2), 2) := by decide +kernel
theorem dX5_file_24 : decode cX5_file 24 = .ok (.ireturn, 1) := by decide +kernel
theorem dX5_file_25 : decode cX5_file 25 = .ok (.iload 5, 2) := by decide +kernel
theorem dX5_file_27 : decode cX5_file 27 = .ok (.ifCond .lt 9, 3) := by decide +kernel
theorem dX5_file_30 : decode cX5_file 30 = .ok (.iload 5, 2) := by decide +kernel
theorem dX5_file_32 : decode cX5_file 32 = .ok (.iconst 3, 1) := by decide +kernel
theorem dX5_file_33 : decode cX5_file 33 = .ok (.if_icmp .le 6, 3) := by decide +kernel
theorem dX5_file_36 : decode cX5_file 36 = .ok (.bipush (-2), 2) := by decide +kernel
theorem dX5_file_38 : decode cX5_file 38 = .ok (.ireturn, 1) := by decide +kernel
theorem dX5_file_39 : decode cX5_file 39 = .ok (.aload_n 0, 1) := by decide +kernel
theorem dX5_file_40 : decode cX5_file 40 = .ok (.getfield 12, 3) := by decide +kernel
theorem dX5_file_43 : decode cX5_file 43 = .ok (.iload_n 1, 1) := by decide +kernel
theorem dX5_file_44 : decode cX5_file 44 = .ok (.iload_n 2, 1) := by decide +kernel
theorem dX5_file_45 : decode cX5_file 45 = .ok (.iload_n 3, 1) := by decide +kernel
theorem dX5_file_46 : decode cX5_file 46 = .ok (.iload 4, 2) := by decide +kernel
theorem dX5_file_48 : decode cX5_file 48 = .ok (.iload 5, 2) := by decide +kernel
theorem dX5_file_50 : decode cX5_file 50 = .ok (.invokevirtual 58, 3) := by decide +kernel
theorem dX5_file_53 : decode cX5_file 53 = .ok (.ireturn, 1) := by decide +kernel
theorem dX5_loader_0 : decode cX5_loader 0 = .ok (.iload_n 1, 1) := by decide +kernel
theorem dX5_loader_1 : decode cX5_loader 1 = .ok (.iconst (-1), 1) := by decide +kernel
theorem dX5_loader_2 : decode cX5_loader 2 = .ok (.if_icmp .eq 43, 3) := by decide +kernel
theorem dX5_loader_5 : decode cX5_loader 5 = .ok (.aload_n 0, 1) := by decide +kernel
theorem dX5_loader_6 : decode cX5_loader 6 = .ok (.getfield 19, 3) := by decide +kernel
theorem dX5_loader_9 : decode cX5_loader 9 = .ok (.iload_n 1, 1) := by decide +kernel
theorem dX5_loader_10 : decode cX5_loader 10 = .ok (.invokevirtual 62, 3) := by decide +kernel
theorem dX5_loader_13 : decode cX5_loader 13 = .ok (.ifCond .eq 14, 3) := by decide +kernel
theorem dX5_loader_16 : decode cX5_loader 16 = .ok (.aload_n 0, 1) := by decide +kernel
theorem dX5_loader_17 : decode cX5_loader 17 = .ok (.getfield 19, 3) := by decide +kernel
theorem dX5_loader_20 : decode cX5_loader 20 = .ok (.iload_n 1, 1) := by decide +kernel
theorem dX5_loader_21 : decode cX5_loader 21 = .ok (.invokevirtual 65, 3) := by decide +kernel
theorem dX5_loader_24 : decode cX5_loader 24 = .ok (.ifCond .eq 6, 3) := by decide +kernel
theorem dX5_loader_27 : decode cX5_loader 27 = .ok (.bipush (-2), 2) := by decide +kernel
theorem dX5_loader_29 : decode cX5_loader 29 = .ok (.ireturn, 1) := by decide +kernel
theorem dX5_loader_30 : decode cX5_loader 30 = .ok (.aload_n 0, 1) := by decide +kernel
theorem dX5_loader_31 : decode cX5_loader 31 = .ok (.getfield 19, 3) := by decide +kernel
theorem dX5_loader_34 : decode cX5_loader 34 = .ok (.getfield 68, 3) := by decide +kernel
theorem dX5_loader_37 : decode cX5_loader 37 = .ok (.iload_n 1, 1) := by decide +kernel
theorem dX5_loader_38 : decode cX5_loader 38 = .ok (.baload, 1) := by decide +kernel
theorem dX5_loader_39 : decode cX5_loader 39 = .ok (.ifCond .eq 6, 3) := by decide +kernel
theorem dX5_loader_42 : decode cX5_loader 42 = .ok (.bipush (-3), 2) := by decide +kernel
theorem dX5_loader_44 : decode cX5_loader 44 = .ok (.ireturn, 1) := by decide +kernel
theorem dX5_loader_45 : decode cX5_loader 45 = .ok (.aload_n 0, 1) := by decide +kernel
theorem dX5_loader_46 : decode cX5_loader 46 = .ok (.getfield 19, 3) := by decide +kernel
theorem dX5_loader_49 : decode cX5_loader 49 = .ok (.iload_n 1, 1) := by decide +kernel
theorem dX5_loader_50 : decode cX5_loader 50 = .ok (.iload_n 2, 1) := by decide +kernel
theorem dX5_loader_51 : decode cX5_loader 51 = .ok (.invokevirtual 71, 3) := by decide +kernel
theorem dX5_loader_54 : decode cX5_loader 54 = .ok (.ireturn, 1) := by decide +kernel
theorem dX5_put_0 : decode cX5_put 0 = .ok (.aload_n 0, 1) := by decide +kernel
theorem dX5_put_1 : decode cX5_put 1 = .ok (.getfield 19, 3) := by decide +kernel
theorem dX5_put_4 : decode cX5_put 4 = .ok (.iload_n 1, 1) := by decide +kernel
theorem dX5_put_5 : decode cX5_put 5 = .ok (.invokevirtual 62, 3) := by decide +kernel
theorem dX5_put_8 : decode cX5_put 8 = .ok (.ifCond .eq 21, 3) := by decide +kernel
theorem dX5_put_11 : decode cX5_put 11 = .ok (.iload_n 2, 1) := by decide +kernel
theorem dX5_put_12 : decode cX5_put 12 = .ok (.invokestatic 51, 3) := by decide +kernel
theorem dX5_put_15 : decode cX5_put 15 = .ok (.ifCond .eq 14, 3) := by decide +kernel
theorem dX5_put_18 : decode cX5_put 18 = .ok (.aload_n 0, 1) := by decide +kernel
theorem dX5_put_19 : decode cX5_put 19 = .ok (.getfield 12, 3) := by decide +kernel
theorem dX5_put_22 : decode cX5_put 22 = .ok (.iload_n 3, 1) := by decide +kernel
theorem dX5_put_23 : decode cX5_put 23 = .ok (.invokevirtual 74, 3) := by decide +kernel
theorem dX5_put_26 : decode cX5_put 26 = .ok (.ifCond .ne 6, 3) := by decide +kernel
theorem dX5_put_29 : decode cX5_put 29 = .ok (.bipush (-2), 2) := by decide +kernel
theorem dX5_put_31 : decode cX5_put 31 = .ok (.ireturn, 1) := by decide +kernel
theorem dX5_put_32 : decode cX5_put 32 = .ok (.aload_n 0, 1) := by decide +kernel
theorem dX5_put_33 : decode cX5_put 33 = .ok (.getfield 19, 3) := by decide +kernel
theorem dX5_put_36 : decode cX5_put 36 = .ok (.getfield 68, 3) := by decide +kernel
theorem dX5_put_39 : decode cX5_put 39 = .ok (.iload_n 1, 1) := by decide +kernel
theorem dX5_put_40 : decode cX5_put 40 = .ok (.baload, 1) := by decide +kernel
theorem dX5_put_41 : decode cX5_put 41 = .ok (.ifCond .eq 6, 3) := by decide +kernel
theorem dX5_put_44 : decode cX5_put 44 = .ok (.bipush (-3), 2) := by decide +kernel
theorem dX5_put_46 : decode cX5_put 46 = .ok (.ireturn, 1) := by decide +kernel
theorem dX5_put_47 : decode cX5_put 47 = .ok (.aload_n 0, 1) := by decide +kernel
theorem dX5_put_48 : decode cX5_put 48 = .ok (.getfield 19, 3) := by decide +kernel
theorem dX5_put_51 : decode cX5_put 51 = .ok (.getfield 75, 3) := by decide +kernel
theorem dX5_put_54 : decode cX5_put 54 = .ok (.iload_n 1, 1) := by decide +kernel
theorem dX5_put_55 : decode cX5_put 55 = .ok (.iload_n 2, 1) := by decide +kernel
theorem dX5_put_56 : decode cX5_put 56 = .ok (.invokestatic 79, 3) := by decide +kernel
theorem dX5_put_59 : decode cX5_put 59 = .ok (.iload_n 3, 1) := by decide +kernel
theorem dX5_put_60 : decode cX5_put 60 = .ok (.iastore, 1) := by decide +kernel
theorem dX5_put_61 : decode cX5_put 61 = .ok (.iconst 1, 1) := by decide +kernel
theorem dX5_put_62 : decode cX5_put 62 = .ok (.ireturn, 1) := by decide +kernel
theorem dX5_load_0 : decode cX5_load 0 = .ok (.aload_n 0, 1) := by decide +kernel
theorem dX5_load_1 : decode cX5_load 1 = .ok (.getfield 19, 3) := by decide +kernel
theorem dX5_load_4 : decode cX5_load 4 = .ok (.iload_n 1, 1) := by decide +kernel
theorem dX5_load_5 : decode cX5_load 5 = .ok (.invokevirtual 62, 3) := by decide +kernel
theorem dX5_load_8 : decode cX5_load 8 = .ok (.ifCond .eq 10, 3) := by decide +kernel
theorem dX5_load_11 : decode cX5_load 11 = .ok (.iload_n 2, 1) := by decide +kernel
theorem dX5_load_12 : decode cX5_load 12 = .ok (.invokestatic 51, 3) := by decide +kernel
theorem dX5_load_15 : decode cX5_load 15 = .ok (.ifCond .ne 6, 3) := by decide +kernel
theorem dX5_load_18 : decode cX5_load 18 = .ok (.bipush (-2), 2) := by decide +kernel
theorem dX5_load_20 : decode cX5_load 20 = .ok (.ireturn, 1) := by decide +kernel
theorem dX5_load_21 : decode cX5_load 21 = .ok (.aload_n 0, 1) := by decide +kernel
theorem dX5_load_22 : decode cX5_load 22 = .ok (.getfield 19, 3) := by decide +kernel
theorem dX5_load_25 : decode cX5_load 25 = .ok (.getfield 68, 3) := by decide +kernel
theorem dX5_load_28 : decode cX5_load 28 = .ok (.iload_n 1, 1) := by decide +kernel
theorem dX5_load_29 : decode cX5_load 29 = .ok (.baload, 1) := by decide +kernel
theorem dX5_load_30 : decode cX5_load 30 = .ok (.ifCond .eq 6, 3) := by decide +kernel
theorem dX5_load_33 : decode cX5_load 33 = .ok (.bipush (-3), 2) := by decide +kernel
theorem dX5_load_35 : decode cX5_load 35 = .ok (.ireturn, 1) := by decide +kernel
theorem dX5_load_36 : decode cX5_load 36 = .ok (.aload_n 0, 1) := by decide +kernel
theorem dX5_load_37 : decode cX5_load 37 = .ok (.iload_n 1, 1) := by decide +kernel
theorem dX5_load_38 : decode cX5_load 38 = .ok (.iload_n 2, 1) := by decide +kernel
theorem dX5_load_39 : decode cX5_load 39 = .ok (.iconst 0, 1) := by decide +kernel
theorem dX5_load_40 : decode cX5_load 40 = .ok (.invokevirtual 83, 3) := by decide +kernel
theorem dX5_load_43 : decode cX5_load 43 = .ok (.ireturn, 1) := by decide +kernel
theorem dX5_define_0 : decode cX5_define 0 = .ok (.aload_n 0, 1) := by decide +kernel
theorem dX5_define_1 : decode cX5_define 1 = .ok (.getfield 19, 3) := by decide +kernel
theorem dX5_define_4 : decode cX5_define 4 = .ok (.iload_n 1, 1) := by decide +kernel
theorem dX5_define_5 : decode cX5_define 5 = .ok (.invokevirtual 62, 3) := by decide +kernel
theorem dX5_define_8 : decode cX5_define 8 = .ok (.ifCond .eq 21, 3) := by decide +kernel
theorem dX5_define_11 : decode cX5_define 11 = .ok (.iload_n 2, 1) := by decide +kernel
theorem dX5_define_12 : decode cX5_define 12 = .ok (.invokestatic 51, 3) := by decide +kernel
theorem dX5_define_15 : decode cX5_define 15 = .ok (.ifCond .eq 14, 3) := by decide +kernel
theorem dX5_define_18 : decode cX5_define 18 = .ok (.aload_n 0, 1) := by decide +kernel
theorem dX5_define_19 : decode cX5_define 19 = .ok (.getfield 12, 3) := by decide +kernel
theorem dX5_define_22 : decode cX5_define 22 = .ok (.iload_n 3, 1) := by decide +kernel
theorem dX5_define_23 : decode cX5_define 23 = .ok (.invokevirtual 74, 3) := by decide +kernel
theorem dX5_define_26 : decode cX5_define 26 = .ok (.ifCond .ne 6, 3) := by decide +kernel
theorem dX5_define_29 : decode cX5_define 29 = .ok (.bipush (-2), 2) := by decide +kernel
theorem dX5_define_31 : decode cX5_define 31 = .ok (.ireturn, 1) := by decide +kernel
theorem dX5_define_32 : decode cX5_define 32 = .ok (.aload_n 0, 1) := by decide +kernel
theorem dX5_define_33 : decode cX5_define 33 = .ok (.getfield 19, 3) := by decide +kernel
theorem dX5_define_36 : decode cX5_define 36 = .ok (.getfield 68, 3) := by decide +kernel
theorem dX5_define_39 : decode cX5_define 39 = .ok (.iload_n 1, 1) := by decide +kernel
theorem dX5_define_40 : decode cX5_define 40 = .ok (.baload, 1) := by decide +kernel
theorem dX5_define_41 : decode cX5_define 41 = .ok (.ifCond .eq 6, 3) := by decide +kernel
theorem dX5_define_44 : decode cX5_define 44 = .ok (.bipush (-3), 2) := by decide +kernel
theorem dX5_define_46 : decode cX5_define 46 = .ok (.ireturn, 1) := by decide +kernel
theorem dX5_define_47 : decode cX5_define 47 = .ok (.aload_n 0, 1) := by decide +kernel
theorem dX5_define_48 : decode cX5_define 48 = .ok (.getfield 19, 3) := by decide +kernel
theorem dX5_define_51 : decode cX5_define 51 = .ok (.getfield 87, 3) := by decide +kernel
theorem dX5_define_54 : decode cX5_define 54 = .ok (.iload_n 1, 1) := by decide +kernel
theorem dX5_define_55 : decode cX5_define 55 = .ok (.iload_n 2, 1) := by decide +kernel
theorem dX5_define_56 : decode cX5_define 56 = .ok (.invokestatic 79, 3) := by decide +kernel
theorem dX5_define_59 : decode cX5_define 59 = .ok (.iaload, 1) := by decide +kernel
theorem dX5_define_60 : decode cX5_define 60 = .ok (.iconst (-1), 1) := by decide +kernel
theorem dX5_define_61 : decode cX5_define 61 = .ok (.if_icmp .eq 6, 3) := by decide +kernel
theorem dX5_define_64 : decode cX5_define 64 = .ok (.bipush (-12), 2) := by decide +kernel
theorem dX5_define_66 : decode cX5_define 66 = .ok (.ireturn, 1) := by decide +kernel
theorem dX5_define_67 : decode cX5_define 67 = .ok (.aload_n 0, 1) := by decide +kernel
theorem dX5_define_68 : decode cX5_define 68 = .ok (.iload_n 1, 1) := by decide +kernel
theorem dX5_define_69 : decode cX5_define 69 = .ok (.iload_n 2, 1) := by decide +kernel
theorem dX5_define_70 : decode cX5_define 70 = .ok (.iload_n 3, 1) := by decide +kernel
theorem dX5_define_71 : decode cX5_define 71 = .ok (.iconst 0, 1) := by decide +kernel
theorem dX5_define_72 : decode cX5_define 72 = .ok (.invokevirtual 90, 3) := by decide +kernel
theorem dX5_define_75 : decode cX5_define 75 = .ok (.ireturn, 1) := by decide +kernel
theorem dX5_anew_0 : decode cX5_anew 0 = .ok (.aload_n 0, 1) := by decide +kernel
theorem dX5_anew_1 : decode cX5_anew 1 = .ok (.getfield 19, 3) := by decide +kernel
theorem dX5_anew_4 : decode cX5_anew 4 = .ok (.iload_n 1, 1) := by decide +kernel
theorem dX5_anew_5 : decode cX5_anew 5 = .ok (.invokevirtual 62, 3) := by decide +kernel
theorem dX5_anew_8 : decode cX5_anew 8 = .ok (.ifCond .eq 21, 3) := by decide +kernel
theorem dX5_anew_11 : decode cX5_anew 11 = .ok (.iload_n 2, 1) := by decide +kernel
theorem dX5_anew_12 : decode cX5_anew 12 = .ok (.invokestatic 51, 3) := by decide +kernel
theorem dX5_anew_15 : decode cX5_anew 15 = .ok (.ifCond .eq 14, 3) := by decide +kernel
theorem dX5_anew_18 : decode cX5_anew 18 = .ok (.aload_n 0, 1) := by decide +kernel
theorem dX5_anew_19 : decode cX5_anew 19 = .ok (.getfield 12, 3) := by decide +kernel
theorem dX5_anew_22 : decode cX5_anew 22 = .ok (.iload_n 3, 1) := by decide +kernel
theorem dX5_anew_23 : decode cX5_anew 23 = .ok (.invokevirtual 74, 3) := by decide +kernel
theorem dX5_anew_26 : decode cX5_anew 26 = .ok (.ifCond .ne 6, 3) := by decide +kernel
theorem dX5_anew_29 : decode cX5_anew 29 = .ok (.bipush (-2), 2) := by decide +kernel
theorem dX5_anew_31 : decode cX5_anew 31 = .ok (.ireturn, 1) := by decide +kernel
theorem dX5_anew_32 : decode cX5_anew 32 = .ok (.aload_n 0, 1) := by decide +kernel
theorem dX5_anew_33 : decode cX5_anew 33 = .ok (.getfield 19, 3) := by decide +kernel
theorem dX5_anew_36 : decode cX5_anew 36 = .ok (.getfield 68, 3) := by decide +kernel
theorem dX5_anew_39 : decode cX5_anew 39 = .ok (.iload_n 1, 1) := by decide +kernel
theorem dX5_anew_40 : decode cX5_anew 40 = .ok (.baload, 1) := by decide +kernel
theorem dX5_anew_41 : decode cX5_anew 41 = .ok (.ifCond .ne 20, 3) := by decide +kernel
theorem dX5_anew_44 : decode cX5_anew 44 = .ok (.aload_n 0, 1) := by decide +kernel
theorem dX5_anew_45 : decode cX5_anew 45 = .ok (.getfield 19, 3) := by decide +kernel
theorem dX5_anew_48 : decode cX5_anew 48 = .ok (.getfield 87, 3) := by decide +kernel
theorem dX5_anew_51 : decode cX5_anew 51 = .ok (.iload_n 1, 1) := by decide +kernel
theorem dX5_anew_52 : decode cX5_anew 52 = .ok (.iload_n 2, 1) := by decide +kernel
theorem dX5_anew_53 : decode cX5_anew 53 = .ok (.invokestatic 79, 3) := by decide +kernel
theorem dX5_anew_56 : decode cX5_anew 56 = .ok (.iaload, 1) := by decide +kernel
theorem dX5_anew_57 : decode cX5_anew 57 = .ok (.iconst (-1), 1) := by decide +kernel
theorem dX5_anew_58 : decode cX5_anew 58 = .ok (.if_icmp .ne 6, 3) := by decide +kernel
theorem dX5_anew_61 : decode cX5_anew 61 = .ok (.bipush (-3), 2) := by decide +kernel
theorem dX5_anew_63 : decode cX5_anew 63 = .ok (.ireturn, 1) := by decide +kernel
theorem dX5_anew_64 : decode cX5_anew 64 = .ok (.aload_n 0, 1) := by decide +kernel
theorem dX5_anew_65 : decode cX5_anew 65 = .ok (.iload_n 1, 1) := by decide +kernel
theorem dX5_anew_66 : decode cX5_anew 66 = .ok (.iload_n 2, 1) := by decide +kernel
theorem dX5_anew_67 : decode cX5_anew 67 = .ok (.iload_n 3, 1) := by decide +kernel
theorem dX5_anew_68 : decode cX5_anew 68 = .ok (.iconst 0, 1) := by decide +kernel
theorem dX5_anew_69 : decode cX5_anew 69 = .ok (.invokevirtual 90, 3) := by decide +kernel
theorem dX5_anew_72 : decode cX5_anew 72 = .ok (.ireturn, 1) := by decide +kernel
theorem dX5_known_0 : decode cX5_known 0 = .ok (.aload_n 0, 1) := by decide +kernel
theorem dX5_known_1 : decode cX5_known 1 = .ok (.getfield 19, 3) := by decide +kernel
theorem dX5_known_4 : decode cX5_known 4 = .ok (.iload_n 1, 1) := by decide +kernel
theorem dX5_known_5 : decode cX5_known 5 = .ok (.invokevirtual 62, 3) := by decide +kernel
theorem dX5_known_8 : decode cX5_known 8 = .ok (.ifCond .eq 10, 3) := by decide +kernel
theorem dX5_known_11 : decode cX5_known 11 = .ok (.iload_n 2, 1) := by decide +kernel
theorem dX5_known_12 : decode cX5_known 12 = .ok (.invokestatic 51, 3) := by decide +kernel
theorem dX5_known_15 : decode cX5_known 15 = .ok (.ifCond .ne 6, 3) := by decide +kernel
theorem dX5_known_18 : decode cX5_known 18 = .ok (.bipush (-2), 2) := by decide +kernel
theorem dX5_known_20 : decode cX5_known 20 = .ok (.ireturn, 1) := by decide +kernel
theorem dX5_known_21 : decode cX5_known 21 = .ok (.aload_n 0, 1) := by decide +kernel
theorem dX5_known_22 : decode cX5_known 22 = .ok (.getfield 19, 3) := by decide +kernel
theorem dX5_known_25 : decode cX5_known 25 = .ok (.iload_n 1, 1) := by decide +kernel
theorem dX5_known_26 : decode cX5_known 26 = .ok (.iload_n 2, 1) := by decide +kernel
theorem dX5_known_27 : decode cX5_known 27 = .ok (.invokevirtual 94, 3) := by decide +kernel
theorem dX5_known_30 : decode cX5_known 30 = .ok (.ireturn, 1) := by decide +kernel
theorem dX5_begin_0 : decode cX5_begin 0 = .ok (.aload_n 0, 1) := by decide +kernel
theorem dX5_begin_1 : decode cX5_begin 1 = .ok (.getfield 26, 3) := by decide +kernel
theorem dX5_begin_4 : decode cX5_begin 4 = .ok (.iload_n 1, 1) := by decide +kernel
theorem dX5_begin_5 : decode cX5_begin 5 = .ok (.invokevirtual 97, 3) := by decide +kernel
theorem dX5_begin_8 : decode cX5_begin 8 = .ok (.ifCond .ne 6, 3) := by decide +kernel
theorem dX5_begin_11 : decode cX5_begin 11 = .ok (.bipush (-2), 2) := by decide +kernel
theorem dX5_begin_13 : decode cX5_begin 13 = .ok (.ireturn, 1) := by decide +kernel
theorem dX5_begin_14 : decode cX5_begin 14 = .ok (.aload_n 0, 1) := by decide +kernel
theorem dX5_begin_15 : decode cX5_begin 15 = .ok (.getfield 19, 3) := by decide +kernel
theorem dX5_begin_18 : decode cX5_begin 18 = .ok (.getfield 68, 3) := by decide +kernel
theorem dX5_begin_21 : decode cX5_begin 21 = .ok (.aload_n 0, 1) := by decide +kernel
theorem dX5_begin_22 : decode cX5_begin 22 = .ok (.getfield 26, 3) := by decide +kernel
theorem dX5_begin_25 : decode cX5_begin 25 = .ok (.getfield 98, 3) := by decide +kernel
theorem dX5_begin_28 : decode cX5_begin 28 = .ok (.iload_n 1, 1) := by decide +kernel
theorem dX5_begin_29 : decode cX5_begin 29 = .ok (.iaload, 1) := by decide +kernel
theorem dX5_begin_30 : decode cX5_begin 30 = .ok (.baload, 1) := by decide +kernel
theorem dX5_begin_31 : decode cX5_begin 31 = .ok (.ifCond .eq 6, 3) := by decide +kernel
theorem dX5_begin_34 : decode cX5_begin 34 = .ok (.bipush (-3), 2) := by decide +kernel
theorem dX5_begin_36 : decode cX5_begin 36 = .ok (.ireturn, 1) := by decide +kernel
theorem dX5_begin_37 : decode cX5_begin 37 = .ok (.aload_n 0, 1) := by decide +kernel
theorem dX5_begin_38 : decode cX5_begin 38 = .ok (.iload_n 1, 1) := by decide +kernel
theorem dX5_begin_39 : decode cX5_begin 39 = .ok (.invokevirtual 101, 3) := by decide +kernel
theorem dX5_begin_42 : decode cX5_begin 42 = .ok (.ireturn, 1) := by decide +kernel
theorem dX5_thing_0 : decode cX5_thing 0 = .ok (.aload_n 0, 1) := by decide +kernel
theorem dX5_thing_1 : decode cX5_thing 1 = .ok (.getfield 26, 3) := by decide +kernel
theorem dX5_thing_4 : decode cX5_thing 4 = .ok (.iload_n 1, 1) := by decide +kernel
theorem dX5_thing_5 : decode cX5_thing 5 = .ok (.invokevirtual 97, 3) := by decide +kernel
theorem dX5_thing_8 : decode cX5_thing 8 = .ok (.ifCond .ne 6, 3) := by decide +kernel
theorem dX5_thing_11 : decode cX5_thing 11 = .ok (.bipush (-2), 2) := by decide +kernel
theorem dX5_thing_13 : decode cX5_thing 13 = .ok (.ireturn, 1) := by decide +kernel
theorem dX5_thing_14 : decode cX5_thing 14 = .ok (.aload_n 0, 1) := by decide +kernel
theorem dX5_thing_15 : decode cX5_thing 15 = .ok (.getfield 19, 3) := by decide +kernel
theorem dX5_thing_18 : decode cX5_thing 18 = .ok (.getfield 68, 3) := by decide +kernel
theorem dX5_thing_21 : decode cX5_thing 21 = .ok (.aload_n 0, 1) := by decide +kernel
theorem dX5_thing_22 : decode cX5_thing 22 = .ok (.getfield 26, 3) := by decide +kernel
theorem dX5_thing_25 : decode cX5_thing 25 = .ok (.getfield 98, 3) := by decide +kernel
theorem dX5_thing_28 : decode cX5_thing 28 = .ok (.iload_n 1, 1) := by decide +kernel
theorem dX5_thing_29 : decode cX5_thing 29 = .ok (.iaload, 1) := by decide +kernel
theorem dX5_thing_30 : decode cX5_thing 30 = .ok (.baload, 1) := by decide +kernel
theorem dX5_thing_31 : decode cX5_thing 31 = .ok (.ifCond .eq 6, 3) := by decide +kernel
theorem dX5_thing_34 : decode cX5_thing 34 = .ok (.bipush (-3), 2) := by decide +kernel
theorem dX5_thing_36 : decode cX5_thing 36 = .ok (.ireturn, 1) := by decide +kernel
theorem dX5_thing_37 : decode cX5_thing 37 = .ok (.aload_n 0, 1) := by decide +kernel
theorem dX5_thing_38 : decode cX5_thing 38 = .ok (.getfield 33, 3) := by decide +kernel
theorem dX5_thing_41 : decode cX5_thing 41 = .ok (.invokevirtual 105, 3) := by decide +kernel
theorem dX5_thing_44 : decode cX5_thing 44 = .ok (.ifCond .eq 6, 3) := by decide +kernel
theorem dX5_thing_47 : decode cX5_thing 47 = .ok (.bipush (-4), 2) := by decide +kernel
theorem dX5_thing_49 : decode cX5_thing 49 = .ok (.ireturn, 1) := by decide +kernel
theorem dX5_thing_50 : decode cX5_thing 50 = .ok (.aload_n 0, 1) := by decide +kernel
theorem dX5_thing_51 : decode cX5_thing 51 = .ok (.iload_n 1, 1) := by decide +kernel
theorem dX5_thing_52 : decode cX5_thing 52 = .ok (.invokevirtual 101, 3) := by decide +kernel
theorem dX5_thing_55 : decode cX5_thing 55 = .ok (.istore_n 2, 1) := by decide +kernel
theorem dX5_thing_56 : decode cX5_thing 56 = .ok (.iload_n 2, 1) := by decide +kernel
theorem dX5_thing_57 : decode cX5_thing 57 = .ok (.iconst 1, 1) := by decide +kernel
theorem dX5_thing_58 : decode cX5_thing 58 = .ok (.if_icmp .ne 14, 3) := by decide +kernel
theorem dX5_thing_61 : decode cX5_thing 61 = .ok (.aload_n 0, 1) := by decide +kernel
theorem dX5_thing_62 : decode cX5_thing 62 = .ok (.getfield 33, 3) := by decide +kernel
theorem dX5_thing_65 : decode cX5_thing 65 = .ok (.iload_n 1, 1) := by decide +kernel
theorem dX5_thing_66 : decode cX5_thing 66 = .ok (.invokevirtual 109, 3) := by decide +kernel
theorem dX5_thing_69 : decode cX5_thing 69 = .ok (.goto 4, 3) := by decide +kernel
theorem dX5_thing_72 : decode cX5_thing 72 = .ok (.iload_n 2, 1) := by decide +kernel
theorem dX5_thing_73 : decode cX5_thing 73 = .ok (.ireturn, 1) := by decide +kernel
theorem dX5_cast_0 : decode cX5_cast 0 = .ok (.aload_n 0, 1) := by decide +kernel
theorem dX5_cast_1 : decode cX5_cast 1 = .ok (.getfield 33, 3) := by decide +kernel
theorem dX5_cast_4 : decode cX5_cast 4 = .ok (.iload_n 1, 1) := by decide +kernel
theorem dX5_cast_5 : decode cX5_cast 5 = .ok (.invokevirtual 111, 3) := by decide +kernel
theorem dX5_cast_8 : decode cX5_cast 8 = .ok (.ifCond .eq 14, 3) := by decide +kernel
theorem dX5_cast_11 : decode cX5_cast 11 = .ok (.aload_n 0, 1) := by decide +kernel
theorem dX5_cast_12 : decode cX5_cast 12 = .ok (.getfield 26, 3) := by decide +kernel
theorem dX5_cast_15 : decode cX5_cast 15 = .ok (.iload_n 2, 1) := by decide +kernel
theorem dX5_cast_16 : decode cX5_cast 16 = .ok (.invokevirtual 97, 3) := by decide +kernel
theorem dX5_cast_19 : decode cX5_cast 19 = .ok (.ifCond .ne 6, 3) := by decide +kernel
theorem dX5_cast_22 : decode cX5_cast 22 = .ok (.bipush (-2), 2) := by decide +kernel
theorem dX5_cast_24 : decode cX5_cast 24 = .ok (.ireturn, 1) := by decide +kernel
theorem dX5_cast_25 : decode cX5_cast 25 = .ok (.aload_n 0, 1) := by decide +kernel
theorem dX5_cast_26 : decode cX5_cast 26 = .ok (.getfield 33, 3) := by decide +kernel
theorem dX5_cast_29 : decode cX5_cast 29 = .ok (.getfield 112, 3) := by decide +kernel
theorem dX5_cast_32 : decode cX5_cast 32 = .ok (.iload_n 1, 1) := by decide +kernel
theorem dX5_cast_33 : decode cX5_cast 33 = .ok (.baload, 1) := by decide +kernel
theorem dX5_cast_34 : decode cX5_cast 34 = .ok (.ifCond .eq 6, 3) := by decide +kernel
theorem dX5_cast_37 : decode cX5_cast 37 = .ok (.bipush (-3), 2) := by decide +kernel
theorem dX5_cast_39 : decode cX5_cast 39 = .ok (.ireturn, 1) := by decide +kernel
theorem dX5_cast_40 : decode cX5_cast 40 = .ok (.aload_n 0, 1) := by decide +kernel
theorem dX5_cast_41 : decode cX5_cast 41 = .ok (.getfield 26, 3) := by decide +kernel
theorem dX5_cast_44 : decode cX5_cast 44 = .ok (.aload_n 0, 1) := by decide +kernel
theorem dX5_cast_45 : decode cX5_cast 45 = .ok (.getfield 33, 3) := by decide +kernel
theorem dX5_cast_48 : decode cX5_cast 48 = .ok (.getfield 115, 3) := by decide +kernel
theorem dX5_cast_51 : decode cX5_cast 51 = .ok (.iload_n 1, 1) := by decide +kernel
theorem dX5_cast_52 : decode cX5_cast 52 = .ok (.iaload, 1) := by decide +kernel
theorem dX5_cast_53 : decode cX5_cast 53 = .ok (.iload_n 2, 1) := by decide +kernel
theorem dX5_cast_54 : decode cX5_cast 54 = .ok (.invokevirtual 118, 3) := by decide +kernel
theorem dX5_cast_57 : decode cX5_cast 57 = .ok (.ifCond .eq 7, 3) := by decide +kernel
theorem dX5_cast_60 : decode cX5_cast 60 = .ok (.iconst 1, 1) := by decide +kernel
theorem dX5_cast_61 : decode cX5_cast 61 = .ok (.goto 5, 3) := by decide +kernel
theorem dX5_cast_64 : decode cX5_cast 64 = .ok (.bipush (-19), 2) := by decide +kernel
theorem dX5_cast_66 : decode cX5_cast 66 = .ok (.ireturn, 1) := by decide +kernel
theorem dX5_drop_0 : decode cX5_drop 0 = .ok (.aload_n 0, 1) := by decide +kernel
theorem dX5_drop_1 : decode cX5_drop 1 = .ok (.getfield 33, 3) := by decide +kernel
theorem dX5_drop_4 : decode cX5_drop 4 = .ok (.iload_n 1, 1) := by decide +kernel
theorem dX5_drop_5 : decode cX5_drop 5 = .ok (.invokevirtual 111, 3) := by decide +kernel
theorem dX5_drop_8 : decode cX5_drop 8 = .ok (.ifCond .ne 6, 3) := by decide +kernel
theorem dX5_drop_11 : decode cX5_drop 11 = .ok (.bipush (-2), 2) := by decide +kernel
theorem dX5_drop_13 : decode cX5_drop 13 = .ok (.ireturn, 1) := by decide +kernel
theorem dX5_drop_14 : decode cX5_drop 14 = .ok (.aload_n 0, 1) := by decide +kernel
theorem dX5_drop_15 : decode cX5_drop 15 = .ok (.getfield 33, 3) := by decide +kernel
theorem dX5_drop_18 : decode cX5_drop 18 = .ok (.getfield 112, 3) := by decide +kernel
theorem dX5_drop_21 : decode cX5_drop 21 = .ok (.iload_n 1, 1) := by decide +kernel
theorem dX5_drop_22 : decode cX5_drop 22 = .ok (.baload, 1) := by decide +kernel
theorem dX5_drop_23 : decode cX5_drop 23 = .ok (.ifCond .eq 6, 3) := by decide +kernel
theorem dX5_drop_26 : decode cX5_drop 26 = .ok (.bipush (-3), 2) := by decide +kernel
theorem dX5_drop_28 : decode cX5_drop 28 = .ok (.ireturn, 1) := by decide +kernel
theorem dX5_drop_29 : decode cX5_drop 29 = .ok (.aload_n 0, 1) := by decide +kernel
theorem dX5_drop_30 : decode cX5_drop 30 = .ok (.getfield 33, 3) := by decide +kernel
theorem dX5_drop_33 : decode cX5_drop 33 = .ok (.getfield 112, 3) := by decide +kernel
theorem dX5_drop_36 : decode cX5_drop 36 = .ok (.iload_n 1, 1) := by decide +kernel
theorem dX5_drop_37 : decode cX5_drop 37 = .ok (.iconst 1, 1) := by decide +kernel
theorem dX5_drop_38 : decode cX5_drop 38 = .ok (.bastore, 1) := by decide +kernel
theorem dX5_drop_39 : decode cX5_drop 39 = .ok (.iconst 1, 1) := by decide +kernel
theorem dX5_drop_40 : decode cX5_drop 40 = .ok (.ireturn, 1) := by decide +kernel
theorem dX5_letGo_0 : decode cX5_letGo 0 = .ok (.aload_n 0, 1) := by decide +kernel
theorem dX5_letGo_1 : decode cX5_letGo 1 = .ok (.getfield 19, 3) := by decide +kernel
theorem dX5_letGo_4 : decode cX5_letGo 4 = .ok (.iload_n 1, 1) := by decide +kernel
theorem dX5_letGo_5 : decode cX5_letGo 5 = .ok (.invokevirtual 62, 3) := by decide +kernel
theorem dX5_letGo_8 : decode cX5_letGo 8 = .ok (.ifCond .ne 6, 3) := by decide +kernel
theorem dX5_letGo_11 : decode cX5_letGo 11 = .ok (.bipush (-2), 2) := by decide +kernel
theorem dX5_letGo_13 : decode cX5_letGo 13 = .ok (.ireturn, 1) := by decide +kernel
theorem dX5_letGo_14 : decode cX5_letGo 14 = .ok (.aload_n 0, 1) := by decide +kernel
theorem dX5_letGo_15 : decode cX5_letGo 15 = .ok (.getfield 19, 3) := by decide +kernel
theorem dX5_letGo_18 : decode cX5_letGo 18 = .ok (.getfield 68, 3) := by decide +kernel
theorem dX5_letGo_21 : decode cX5_letGo 21 = .ok (.iload_n 1, 1) := by decide +kernel
theorem dX5_letGo_22 : decode cX5_letGo 22 = .ok (.baload, 1) := by decide +kernel
theorem dX5_letGo_23 : decode cX5_letGo 23 = .ok (.ifCond .ne 14, 3) := by decide +kernel
theorem dX5_letGo_26 : decode cX5_letGo 26 = .ok (.aload_n 0, 1) := by decide +kernel
theorem dX5_letGo_27 : decode cX5_letGo 27 = .ok (.getfield 19, 3) := by decide +kernel
theorem dX5_letGo_30 : decode cX5_letGo 30 = .ok (.iload_n 1, 1) := by decide +kernel
theorem dX5_letGo_31 : decode cX5_letGo 31 = .ok (.invokevirtual 122, 3) := by decide +kernel
theorem dX5_letGo_34 : decode cX5_letGo 34 = .ok (.ifCond .eq 6, 3) := by decide +kernel
theorem dX5_letGo_37 : decode cX5_letGo 37 = .ok (.bipush (-3), 2) := by decide +kernel
theorem dX5_letGo_39 : decode cX5_letGo 39 = .ok (.ireturn, 1) := by decide +kernel
theorem dX5_letGo_40 : decode cX5_letGo 40 = .ok (.aload_n 0, 1) := by decide +kernel
theorem dX5_letGo_41 : decode cX5_letGo 41 = .ok (.getfield 19, 3) := by decide +kernel
theorem dX5_letGo_44 : decode cX5_letGo 44 = .ok (.getfield 68, 3) := by decide +kernel
theorem dX5_letGo_47 : decode cX5_letGo 47 = .ok (.iload_n 1, 1) := by decide +kernel
theorem dX5_letGo_48 : decode cX5_letGo 48 = .ok (.iconst 1, 1) := by decide +kernel
theorem dX5_letGo_49 : decode cX5_letGo 49 = .ok (.bastore, 1) := by decide +kernel
theorem dX5_letGo_50 : decode cX5_letGo 50 = .ok (.iconst 1, 1) := by decide +kernel
theorem dX5_letGo_51 : decode cX5_letGo 51 = .ok (.ireturn, 1) := by decide +kernel
theorem dX5_held_0 : decode cX5_held 0 = .ok (.aload_n 0, 1) := by decide +kernel
theorem dX5_held_1 : decode cX5_held 1 = .ok (.getfield 19, 3) := by decide +kernel
theorem dX5_held_4 : decode cX5_held 4 = .ok (.iload_n 1, 1) := by decide +kernel
theorem dX5_held_5 : decode cX5_held 5 = .ok (.invokevirtual 62, 3) := by decide +kernel
theorem dX5_held_8 : decode cX5_held 8 = .ok (.ifCond .ne 6, 3) := by decide +kernel
theorem dX5_held_11 : decode cX5_held 11 = .ok (.bipush (-2), 2) := by decide +kernel
theorem dX5_held_13 : decode cX5_held 13 = .ok (.ireturn, 1) := by decide +kernel
theorem dX5_held_14 : decode cX5_held 14 = .ok (.aload_n 0, 1) := by decide +kernel
theorem dX5_held_15 : decode cX5_held 15 = .ok (.invokevirtual 125, 3) := by decide +kernel
theorem dX5_held_18 : decode cX5_held 18 = .ok (.iconst 0, 1) := by decide +kernel
theorem dX5_held_19 : decode cX5_held 19 = .ok (.istore_n 2, 1) := by decide +kernel
theorem dX5_held_20 : decode cX5_held 20 = .ok (.iconst 0, 1) := by decide +kernel
theorem dX5_held_21 : decode cX5_held 21 = .ok (.istore_n 3, 1) := by decide +kernel
theorem dX5_held_22 : decode cX5_held 22 = .ok (.iload_n 3, 1) := by decide +kernel
theorem dX5_held_23 : decode cX5_held 23 = .ok (.aload_n 0, 1) := by decide +kernel
theorem dX5_held_24 : decode cX5_held 24 = .ok (.getfield 26, 3) := by decide +kernel
theorem dX5_held_27 : decode cX5_held 27 = .ok (.getfield 128, 3) := by decide +kernel
theorem dX5_held_30 : decode cX5_held 30 = .ok (.if_icmp .ge 34, 3) := by decide +kernel
theorem dX5_held_33 : decode cX5_held 33 = .ok (.aload_n 0, 1) := by decide +kernel
theorem dX5_held_34 : decode cX5_held 34 = .ok (.getfield 26, 3) := by decide +kernel
theorem dX5_held_37 : decode cX5_held 37 = .ok (.getfield 98, 3) := by decide +kernel
theorem dX5_held_40 : decode cX5_held 40 = .ok (.iload_n 3, 1) := by decide +kernel
theorem dX5_held_41 : decode cX5_held 41 = .ok (.iaload, 1) := by decide +kernel
theorem dX5_held_42 : decode cX5_held 42 = .ok (.iload_n 1, 1) := by decide +kernel
theorem dX5_held_43 : decode cX5_held 43 = .ok (.if_icmp .ne 15, 3) := by decide +kernel
theorem dX5_held_46 : decode cX5_held 46 = .ok (.aload_n 0, 1) := by decide +kernel
theorem dX5_held_47 : decode cX5_held 47 = .ok (.getfield 47, 3) := by decide +kernel
theorem dX5_held_50 : decode cX5_held 50 = .ok (.iload_n 3, 1) := by decide +kernel
theorem dX5_held_51 : decode cX5_held 51 = .ok (.baload, 1) := by decide +kernel
theorem dX5_held_52 : decode cX5_held 52 = .ok (.ifCond .eq 6, 3) := by decide +kernel
theorem dX5_held_55 : decode cX5_held 55 = .ok (.iinc 2 1, 3) := by decide +kernel
theorem dX5_held_58 : decode cX5_held 58 = .ok (.iinc 3 1, 3) := by decide +kernel
theorem dX5_held_61 : decode cX5_held 61 = .ok (.goto (-39), 3) := by decide +kernel
theorem dX5_held_64 : decode cX5_held 64 = .ok (.iload_n 2, 1) := by decide +kernel
theorem dX5_held_65 : decode cX5_held 65 = .ok (.ireturn, 1) := by decide +kernel
theorem dX5_isHeld_0 : decode cX5_isHeld 0 = .ok (.aload_n 0, 1) := by decide +kernel
theorem dX5_isHeld_1 : decode cX5_isHeld 1 = .ok (.getfield 26, 3) := by decide +kernel
theorem dX5_isHeld_4 : decode cX5_isHeld 4 = .ok (.iload_n 1, 1) := by decide +kernel
theorem dX5_isHeld_5 : decode cX5_isHeld 5 = .ok (.invokevirtual 97, 3) := by decide +kernel
theorem dX5_isHeld_8 : decode cX5_isHeld 8 = .ok (.ifCond .ne 6, 3) := by decide +kernel
theorem dX5_isHeld_11 : decode cX5_isHeld 11 = .ok (.bipush (-2), 2) := by decide +kernel
theorem dX5_isHeld_13 : decode cX5_isHeld 13 = .ok (.ireturn, 1) := by decide +kernel
theorem dX5_isHeld_14 : decode cX5_isHeld 14 = .ok (.aload_n 0, 1) := by decide +kernel
theorem dX5_isHeld_15 : decode cX5_isHeld 15 = .ok (.invokevirtual 125, 3) := by decide +kernel
theorem dX5_isHeld_18 : decode cX5_isHeld 18 = .ok (.aload_n 0, 1) := by decide +kernel
theorem dX5_isHeld_19 : decode cX5_isHeld 19 = .ok (.getfield 47, 3) := by decide +kernel
theorem dX5_isHeld_22 : decode cX5_isHeld 22 = .ok (.iload_n 1, 1) := by decide +kernel
theorem dX5_isHeld_23 : decode cX5_isHeld 23 = .ok (.baload, 1) := by decide +kernel
theorem dX5_isHeld_24 : decode cX5_isHeld 24 = .ok (.ifCond .eq 7, 3) := by decide +kernel
theorem dX5_isHeld_27 : decode cX5_isHeld 27 = .ok (.iconst 1, 1) := by decide +kernel
theorem dX5_isHeld_28 : decode cX5_isHeld 28 = .ok (.goto 4, 3) := by decide +kernel
theorem dX5_isHeld_31 : decode cX5_isHeld 31 = .ok (.iconst 0, 1) := by decide +kernel
theorem dX5_isHeld_32 : decode cX5_isHeld 32 = .ok (.ireturn, 1) := by decide +kernel
theorem dX5_about_0 : decode cX5_about 0 = .ok (.aload_n 0, 1) := by decide +kernel
theorem dX5_about_1 : decode cX5_about 1 = .ok (.getfield 26, 3) := by decide +kernel
theorem dX5_about_4 : decode cX5_about 4 = .ok (.iload_n 1, 1) := by decide +kernel
theorem dX5_about_5 : decode cX5_about 5 = .ok (.invokevirtual 97, 3) := by decide +kernel
theorem dX5_about_8 : decode cX5_about 8 = .ok (.ifCond .ne 5, 3) := by decide +kernel
theorem dX5_about_11 : decode cX5_about 11 = .ok (.iconst 0, 1) := by decide +kernel
theorem dX5_about_12 : decode cX5_about 12 = .ok (.ireturn, 1) := by decide +kernel
theorem dX5_about_13 : decode cX5_about 13 = .ok (.iload_n 2, 1) := by decide +kernel
theorem dX5_about_14 : decode cX5_about 14 = .ok (.tableswitch 106 0 5 #[38, 48, 58, 68, 78, 96], 38) := by decide +kernel
theorem dX5_about_52 : decode cX5_about 52 = .ok (.aload_n 0, 1) := by decide +kernel
theorem dX5_about_53 : decode cX5_about 53 = .ok (.getfield 26, 3) := by decide +kernel
theorem dX5_about_56 : decode cX5_about 56 = .ok (.getfield 98, 3) := by decide +kernel
theorem dX5_about_59 : decode cX5_about 59 = .ok (.iload_n 1, 1) := by decide +kernel
theorem dX5_about_60 : decode cX5_about 60 = .ok (.iaload, 1) := by decide +kernel
theorem dX5_about_61 : decode cX5_about 61 = .ok (.ireturn, 1) := by decide +kernel
theorem dX5_about_62 : decode cX5_about 62 = .ok (.aload_n 0, 1) := by decide +kernel
theorem dX5_about_63 : decode cX5_about 63 = .ok (.getfield 26, 3) := by decide +kernel
theorem dX5_about_66 : decode cX5_about 66 = .ok (.getfield 132, 3) := by decide +kernel
theorem dX5_about_69 : decode cX5_about 69 = .ok (.iload_n 1, 1) := by decide +kernel
theorem dX5_about_70 : decode cX5_about 70 = .ok (.iaload, 1) := by decide +kernel
theorem dX5_about_71 : decode cX5_about 71 = .ok (.ireturn, 1) := by decide +kernel
theorem dX5_about_72 : decode cX5_about 72 = .ok (.aload_n 0, 1) := by decide +kernel
theorem dX5_about_73 : decode cX5_about 73 = .ok (.getfield 26, 3) := by decide +kernel
theorem dX5_about_76 : decode cX5_about 76 = .ok (.getfield 135, 3) := by decide +kernel
theorem dX5_about_79 : decode cX5_about 79 = .ok (.iload_n 1, 1) := by decide +kernel
theorem dX5_about_80 : decode cX5_about 80 = .ok (.iaload, 1) := by decide +kernel
theorem dX5_about_81 : decode cX5_about 81 = .ok (.ireturn, 1) := by decide +kernel
theorem dX5_about_82 : decode cX5_about 82 = .ok (.aload_n 0, 1) := by decide +kernel
theorem dX5_about_83 : decode cX5_about 83 = .ok (.getfield 26, 3) := by decide +kernel
theorem dX5_about_86 : decode cX5_about 86 = .ok (.getfield 138, 3) := by decide +kernel
theorem dX5_about_89 : decode cX5_about 89 = .ok (.iload_n 1, 1) := by decide +kernel
theorem dX5_about_90 : decode cX5_about 90 = .ok (.iaload, 1) := by decide +kernel
theorem dX5_about_91 : decode cX5_about 91 = .ok (.ireturn, 1) := by decide +kernel
theorem dX5_about_92 : decode cX5_about 92 = .ok (.aload_n 0, 1) := by decide +kernel
theorem dX5_about_93 : decode cX5_about 93 = .ok (.getfield 12, 3) := by decide +kernel
theorem dX5_about_96 : decode cX5_about 96 = .ok (.getfield 141, 3) := by decide +kernel
theorem dX5_about_99 : decode cX5_about 99 = .ok (.aload_n 0, 1) := by decide +kernel
theorem dX5_about_100 : decode cX5_about 100 = .ok (.getfield 26, 3) := by decide +kernel
theorem dX5_about_103 : decode cX5_about 103 = .ok (.getfield 144, 3) := by decide +kernel
theorem dX5_about_106 : decode cX5_about 106 = .ok (.iload_n 1, 1) := by decide +kernel
theorem dX5_about_107 : decode cX5_about 107 = .ok (.iaload, 1) := by decide +kernel
theorem dX5_about_108 : decode cX5_about 108 = .ok (.iaload, 1) := by decide +kernel
theorem dX5_about_109 : decode cX5_about 109 = .ok (.ireturn, 1) := by decide +kernel
theorem dX5_about_110 : decode cX5_about 110 = .ok (.aload_n 0, 1) := by decide +kernel
theorem dX5_about_111 : decode cX5_about 111 = .ok (.getfield 26, 3) := by decide +kernel
theorem dX5_about_114 : decode cX5_about 114 = .ok (.getfield 144, 3) := by decide +kernel
theorem dX5_about_117 : decode cX5_about 117 = .ok (.iload_n 1, 1) := by decide +kernel
theorem dX5_about_118 : decode cX5_about 118 = .ok (.iaload, 1) := by decide +kernel
theorem dX5_about_119 : decode cX5_about 119 = .ok (.ireturn, 1) := by decide +kernel
theorem dX5_about_120 : decode cX5_about 120 = .ok (.iconst 0, 1) := by decide +kernel
theorem dX5_about_121 : decode cX5_about 121 = .ok (.ireturn, 1) := by decide +kernel
theorem dX5_aboutThing_0 : decode cX5_aboutThing 0 = .ok (.aload_n 0, 1) := by decide +kernel
theorem dX5_aboutThing_1 : decode cX5_aboutThing 1 = .ok (.getfield 33, 3) := by decide +kernel
theorem dX5_aboutThing_4 : decode cX5_aboutThing 4 = .ok (.iload_n 1, 1) := by decide +kernel
theorem dX5_aboutThing_5 : decode cX5_aboutThing 5 = .ok (.invokevirtual 111, 3) := by decide +kernel
theorem dX5_aboutThing_8 : decode cX5_aboutThing 8 = .ok (.ifCond .ne 6, 3) := by decide +kernel
theorem dX5_aboutThing_11 : decode cX5_aboutThing 11 = .ok (.bipush (-2), 2) := by decide +kernel
theorem dX5_aboutThing_13 : decode cX5_aboutThing 13 = .ok (.ireturn, 1) := by decide +kernel
theorem dX5_aboutThing_14 : decode cX5_aboutThing 14 = .ok (.iload_n 2, 1) := by decide +kernel
theorem dX5_aboutThing_15 : decode cX5_aboutThing 15 = .ok (.lookupswitch 53 #[(0, 25), (1, 35)], 25) := by decide +kernel
theorem dX5_aboutThing_40 : decode cX5_aboutThing 40 = .ok (.aload_n 0, 1) := by decide +kernel
theorem dX5_aboutThing_41 : decode cX5_aboutThing 41 = .ok (.getfield 33, 3) := by decide +kernel
theorem dX5_aboutThing_44 : decode cX5_aboutThing 44 = .ok (.getfield 115, 3) := by decide +kernel
theorem dX5_aboutThing_47 : decode cX5_aboutThing 47 = .ok (.iload_n 1, 1) := by decide +kernel
theorem dX5_aboutThing_48 : decode cX5_aboutThing 48 = .ok (.iaload, 1) := by decide +kernel
theorem dX5_aboutThing_49 : decode cX5_aboutThing 49 = .ok (.ireturn, 1) := by decide +kernel
theorem dX5_aboutThing_50 : decode cX5_aboutThing 50 = .ok (.aload_n 0, 1) := by decide +kernel
theorem dX5_aboutThing_51 : decode cX5_aboutThing 51 = .ok (.getfield 33, 3) := by decide +kernel
theorem dX5_aboutThing_54 : decode cX5_aboutThing 54 = .ok (.getfield 112, 3) := by decide +kernel
theorem dX5_aboutThing_57 : decode cX5_aboutThing 57 = .ok (.iload_n 1, 1) := by decide +kernel
theorem dX5_aboutThing_58 : decode cX5_aboutThing 58 = .ok (.baload, 1) := by decide +kernel
theorem dX5_aboutThing_59 : decode cX5_aboutThing 59 = .ok (.ifCond .eq 7, 3) := by decide +kernel
theorem dX5_aboutThing_62 : decode cX5_aboutThing 62 = .ok (.iconst 1, 1) := by decide +kernel
theorem dX5_aboutThing_63 : decode cX5_aboutThing 63 = .ok (.goto 4, 3) := by decide +kernel
theorem dX5_aboutThing_66 : decode cX5_aboutThing 66 = .ok (.iconst 0, 1) := by decide +kernel
theorem dX5_aboutThing_67 : decode cX5_aboutThing 67 = .ok (.ireturn, 1) := by decide +kernel
theorem dX5_aboutThing_68 : decode cX5_aboutThing 68 = .ok (.bipush (-2), 2) := by decide +kernel
theorem dX5_aboutThing_70 : decode cX5_aboutThing 70 = .ok (.ireturn, 1) := by decide +kernel
theorem dX5_order_0 : decode cX5_order 0 = .ok (.iload_n 1, 1) := by decide +kernel
theorem dX5_order_1 : decode cX5_order 1 = .ok (.ifCond .lt 26, 3) := by decide +kernel
theorem dX5_order_4 : decode cX5_order 4 = .ok (.iload_n 1, 1) := by decide +kernel
theorem dX5_order_5 : decode cX5_order 5 = .ok (.aload_n 0, 1) := by decide +kernel
theorem dX5_order_6 : decode cX5_order 6 = .ok (.getfield 40, 3) := by decide +kernel
theorem dX5_order_9 : decode cX5_order 9 = .ok (.getfield 147, 3) := by decide +kernel
theorem dX5_order_12 : decode cX5_order 12 = .ok (.if_icmp .ge 15, 3) := by decide +kernel
theorem dX5_order_15 : decode cX5_order 15 = .ok (.aload_n 0, 1) := by decide +kernel
theorem dX5_order_16 : decode cX5_order 16 = .ok (.getfield 40, 3) := by decide +kernel
theorem dX5_order_19 : decode cX5_order 19 = .ok (.getfield 148, 3) := by decide +kernel
theorem dX5_order_22 : decode cX5_order 22 = .ok (.iload_n 1, 1) := by decide +kernel
theorem dX5_order_23 : decode cX5_order 23 = .ok (.iaload, 1) := by decide +kernel
theorem dX5_order_24 : decode cX5_order 24 = .ok (.goto 4, 3) := by decide +kernel
theorem dX5_order_27 : decode cX5_order 27 = .ok (.iconst 0, 1) := by decide +kernel
theorem dX5_order_28 : decode cX5_order 28 = .ok (.ireturn, 1) := by decide +kernel
theorem dX5_count_0 : decode cX5_count 0 = .ok (.iload_n 1, 1) := by decide +kernel
theorem dX5_count_1 : decode cX5_count 1 = .ok (.tableswitch 75 0 4 #[35, 43, 51, 59, 67], 35) := by decide +kernel
theorem dX5_count_36 : decode cX5_count 36 = .ok (.aload_n 0, 1) := by decide +kernel
theorem dX5_count_37 : decode cX5_count 37 = .ok (.getfield 12, 3) := by decide +kernel
theorem dX5_count_40 : decode cX5_count 40 = .ok (.getfield 151, 3) := by decide +kernel
theorem dX5_count_43 : decode cX5_count 43 = .ok (.ireturn, 1) := by decide +kernel
theorem dX5_count_44 : decode cX5_count 44 = .ok (.aload_n 0, 1) := by decide +kernel
theorem dX5_count_45 : decode cX5_count 45 = .ok (.getfield 19, 3) := by decide +kernel
theorem dX5_count_48 : decode cX5_count 48 = .ok (.getfield 152, 3) := by decide +kernel
theorem dX5_count_51 : decode cX5_count 51 = .ok (.ireturn, 1) := by decide +kernel
theorem dX5_count_52 : decode cX5_count 52 = .ok (.aload_n 0, 1) := by decide +kernel
theorem dX5_count_53 : decode cX5_count 53 = .ok (.getfield 26, 3) := by decide +kernel
theorem dX5_count_56 : decode cX5_count 56 = .ok (.getfield 128, 3) := by decide +kernel
theorem dX5_count_59 : decode cX5_count 59 = .ok (.ireturn, 1) := by decide +kernel
theorem dX5_count_60 : decode cX5_count 60 = .ok (.aload_n 0, 1) := by decide +kernel
theorem dX5_count_61 : decode cX5_count 61 = .ok (.getfield 33, 3) := by decide +kernel
theorem dX5_count_64 : decode cX5_count 64 = .ok (.getfield 153, 3) := by decide +kernel
theorem dX5_count_67 : decode cX5_count 67 = .ok (.ireturn, 1) := by decide +kernel
theorem dX5_count_68 : decode cX5_count 68 = .ok (.aload_n 0, 1) := by decide +kernel
theorem dX5_count_69 : decode cX5_count 69 = .ok (.getfield 40, 3) := by decide +kernel
theorem dX5_count_72 : decode cX5_count 72 = .ok (.getfield 147, 3) := by decide +kernel
theorem dX5_count_75 : decode cX5_count 75 = .ok (.ireturn, 1) := by decide +kernel
theorem dX5_count_76 : decode cX5_count 76 = .ok (.bipush (-2), 2) := by decide +kernel
theorem dX5_count_78 : decode cX5_count 78 = .ok (.ireturn, 1) := by decide +kernel
theorem dX5_isName_0 : decode cX5_isName 0 = .ok (.iload_n 0, 1) := by decide +kernel
theorem dX5_isName_1 : decode cX5_isName 1 = .ok (.ifCond .lt 13, 3) := by decide +kernel
theorem dX5_isName_4 : decode cX5_isName 4 = .ok (.iload_n 0, 1) := by decide +kernel
theorem dX5_isName_5 : decode cX5_isName 5 = .ok (.bipush 31, 2) := by decide +kernel
theorem dX5_isName_7 : decode cX5_isName 7 = .ok (.if_icmp .ge 7, 3) := by decide +kernel
theorem dX5_isName_10 : decode cX5_isName 10 = .ok (.iconst 1, 1) := by decide +kernel
theorem dX5_isName_11 : decode cX5_isName 11 = .ok (.goto 4, 3) := by decide +kernel
theorem dX5_isName_14 : decode cX5_isName 14 = .ok (.iconst 0, 1) := by decide +kernel
theorem dX5_isName_15 : decode cX5_isName 15 = .ok (.ireturn, 1) := by decide +kernel
theorem dX5_isNameOrNone_0 : decode cX5_isNameOrNone 0 = .ok (.iload_n 0, 1) := by decide +kernel
theorem dX5_isNameOrNone_1 : decode cX5_isNameOrNone 1 = .ok (.iconst (-1), 1) := by decide +kernel
theorem dX5_isNameOrNone_2 : decode cX5_isNameOrNone 2 = .ok (.if_icmp .eq 10, 3) := by decide +kernel
theorem dX5_isNameOrNone_5 : decode cX5_isNameOrNone 5 = .ok (.iload_n 0, 1) := by decide +kernel
theorem dX5_isNameOrNone_6 : decode cX5_isNameOrNone 6 = .ok (.invokestatic 51, 3) := by decide +kernel
theorem dX5_isNameOrNone_9 : decode cX5_isNameOrNone 9 = .ok (.ifCond .eq 7, 3) := by decide +kernel
theorem dX5_isNameOrNone_12 : decode cX5_isNameOrNone 12 = .ok (.iconst 1, 1) := by decide +kernel
theorem dX5_isNameOrNone_13 : decode cX5_isNameOrNone 13 = .ok (.goto 4, 3) := by decide +kernel
theorem dX5_isNameOrNone_16 : decode cX5_isNameOrNone 16 = .ok (.iconst 0, 1) := by decide +kernel
theorem dX5_isNameOrNone_17 : decode cX5_isNameOrNone 17 = .ok (.ireturn, 1) := by decide +kernel
theorem dX5_slot_0 : decode cX5_slot 0 = .ok (.iload_n 0, 1) := by decide +kernel
theorem dX5_slot_1 : decode cX5_slot 1 = .ok (.bipush 31, 2) := by decide +kernel
theorem dX5_slot_3 : decode cX5_slot 3 = .ok (.imul, 1) := by decide +kernel
theorem dX5_slot_4 : decode cX5_slot 4 = .ok (.iload_n 1, 1) := by decide +kernel
theorem dX5_slot_5 : decode cX5_slot 5 = .ok (.iadd, 1) := by decide +kernel
theorem dX5_slot_6 : decode cX5_slot 6 = .ok (.ireturn, 1) := by decide +kernel
theorem dX5_ask_0 : decode cX5_ask 0 = .ok (.aload_n 0, 1) := by decide +kernel
theorem dX5_ask_1 : decode cX5_ask 1 = .ok (.getfield 19, 3) := by decide +kernel
theorem dX5_ask_4 : decode cX5_ask 4 = .ok (.iload_n 1, 1) := by decide +kernel
theorem dX5_ask_5 : decode cX5_ask 5 = .ok (.iload_n 2, 1) := by decide +kernel
theorem dX5_ask_6 : decode cX5_ask 6 = .ok (.invokevirtual 94, 3) := by decide +kernel
theorem dX5_ask_9 : decode cX5_ask 9 = .ok (.istore 4, 2) := by decide +kernel
theorem dX5_ask_11 : decode cX5_ask 11 = .ok (.iload 4, 2) := by decide +kernel
theorem dX5_ask_13 : decode cX5_ask 13 = .ok (.iconst (-1), 1) := by decide +kernel
theorem dX5_ask_14 : decode cX5_ask 14 = .ok (.if_icmp .eq 6, 3) := by decide +kernel
theorem dX5_ask_17 : decode cX5_ask 17 = .ok (.iload 4, 2) := by decide +kernel
theorem dX5_ask_19 : decode cX5_ask 19 = .ok (.ireturn, 1) := by decide +kernel
theorem dX5_ask_20 : decode cX5_ask 20 = .ok (.aload_n 0, 1) := by decide +kernel
theorem dX5_ask_21 : decode cX5_ask 21 = .ok (.getfield 19, 3) := by decide +kernel
theorem dX5_ask_24 : decode cX5_ask 24 = .ok (.iload_n 1, 1) := by decide +kernel
theorem dX5_ask_25 : decode cX5_ask 25 = .ok (.invokevirtual 65, 3) := by decide +kernel
theorem dX5_ask_28 : decode cX5_ask 28 = .ok (.istore 5, 2) := by decide +kernel
theorem dX5_ask_30 : decode cX5_ask 30 = .ok (.aload_n 0, 1) := by decide +kernel
theorem dX5_ask_31 : decode cX5_ask 31 = .ok (.getfield 19, 3) := by decide +kernel
theorem dX5_ask_34 : decode cX5_ask 34 = .ok (.getfield 154, 3) := by decide +kernel
theorem dX5_ask_37 : decode cX5_ask 37 = .ok (.iload_n 1, 1) := by decide +kernel
theorem dX5_ask_38 : decode cX5_ask 38 = .ok (.baload, 1) := by decide +kernel
theorem dX5_ask_39 : decode cX5_ask 39 = .ok (.istore 6, 2) := by decide +kernel
theorem dX5_ask_41 : decode cX5_ask 41 = .ok (.iload 5, 2) := by decide +kernel
theorem dX5_ask_43 : decode cX5_ask 43 = .ok (.ifCond .eq 27, 3) := by decide +kernel
theorem dX5_ask_46 : decode cX5_ask 46 = .ok (.iload 6, 2) := by decide +kernel
theorem dX5_ask_48 : decode cX5_ask 48 = .ok (.ifCond .ne 22, 3) := by decide +kernel
theorem dX5_ask_51 : decode cX5_ask 51 = .ok (.aload_n 0, 1) := by decide +kernel
theorem dX5_ask_52 : decode cX5_ask 52 = .ok (.iload_n 1, 1) := by decide +kernel
theorem dX5_ask_53 : decode cX5_ask 53 = .ok (.iload_n 2, 1) := by decide +kernel
theorem dX5_ask_54 : decode cX5_ask 54 = .ok (.iload_n 3, 1) := by decide +kernel
theorem dX5_ask_55 : decode cX5_ask 55 = .ok (.invokevirtual 157, 3) := by decide +kernel
theorem dX5_ask_58 : decode cX5_ask 58 = .ok (.istore 7, 2) := by decide +kernel
theorem dX5_ask_60 : decode cX5_ask 60 = .ok (.iload 7, 2) := by decide +kernel
theorem dX5_ask_62 : decode cX5_ask 62 = .ok (.bipush (-11), 2) := by decide +kernel
theorem dX5_ask_64 : decode cX5_ask 64 = .ok (.if_icmp .eq 6, 3) := by decide +kernel
theorem dX5_ask_67 : decode cX5_ask 67 = .ok (.iload 7, 2) := by decide +kernel
theorem dX5_ask_69 : decode cX5_ask 69 = .ok (.ireturn, 1) := by decide +kernel
theorem dX5_ask_70 : decode cX5_ask 70 = .ok (.aload_n 0, 1) := by decide +kernel
theorem dX5_ask_71 : decode cX5_ask 71 = .ok (.getfield 19, 3) := by decide +kernel
theorem dX5_ask_74 : decode cX5_ask 74 = .ok (.getfield 75, 3) := by decide +kernel
theorem dX5_ask_77 : decode cX5_ask 77 = .ok (.iload_n 1, 1) := by decide +kernel
theorem dX5_ask_78 : decode cX5_ask 78 = .ok (.iload_n 2, 1) := by decide +kernel
theorem dX5_ask_79 : decode cX5_ask 79 = .ok (.invokestatic 79, 3) := by decide +kernel
theorem dX5_ask_82 : decode cX5_ask 82 = .ok (.iaload, 1) := by decide +kernel
theorem dX5_ask_83 : decode cX5_ask 83 = .ok (.istore 7, 2) := by decide +kernel
theorem dX5_ask_85 : decode cX5_ask 85 = .ok (.iload 7, 2) := by decide +kernel
theorem dX5_ask_87 : decode cX5_ask 87 = .ok (.iconst (-1), 1) := by decide +kernel
theorem dX5_ask_88 : decode cX5_ask 88 = .ok (.if_icmp .eq 13, 3) := by decide +kernel
theorem dX5_ask_91 : decode cX5_ask 91 = .ok (.aload_n 0, 1) := by decide +kernel
theorem dX5_ask_92 : decode cX5_ask 92 = .ok (.iload_n 1, 1) := by decide +kernel
theorem dX5_ask_93 : decode cX5_ask 93 = .ok (.iload_n 2, 1) := by decide +kernel
theorem dX5_ask_94 : decode cX5_ask 94 = .ok (.iload 7, 2) := by decide +kernel
theorem dX5_ask_96 : decode cX5_ask 96 = .ok (.iload_n 3, 1) := by decide +kernel
theorem dX5_ask_97 : decode cX5_ask 97 = .ok (.invokevirtual 90, 3) := by decide +kernel
theorem dX5_ask_100 : decode cX5_ask 100 = .ok (.ireturn, 1) := by decide +kernel
theorem dX5_ask_101 : decode cX5_ask 101 = .ok (.iload 5, 2) := by decide +kernel
theorem dX5_ask_103 : decode cX5_ask 103 = .ok (.ifCond .eq 18, 3) := by decide +kernel
theorem dX5_ask_106 : decode cX5_ask 106 = .ok (.iload 6, 2) := by decide +kernel
theorem dX5_ask_108 : decode cX5_ask 108 = .ok (.ifCond .eq 13, 3) := by decide +kernel
theorem dX5_ask_111 : decode cX5_ask 111 = .ok (.aload_n 0, 1) := by decide +kernel
theorem dX5_ask_112 : decode cX5_ask 112 = .ok (.iload_n 1, 1) := by decide +kernel
theorem dX5_ask_113 : decode cX5_ask 113 = .ok (.iload_n 2, 1) := by decide +kernel
theorem dX5_ask_114 : decode cX5_ask 114 = .ok (.iload_n 3, 1) := by decide +kernel
theorem dX5_ask_115 : decode cX5_ask 115 = .ok (.invokevirtual 157, 3) := by decide +kernel
theorem dX5_ask_118 : decode cX5_ask 118 = .ok (.goto 5, 3) := by decide +kernel
theorem dX5_ask_121 : decode cX5_ask 121 = .ok (.bipush (-11), 2) := by decide +kernel
theorem dX5_ask_123 : decode cX5_ask 123 = .ok (.ireturn, 1) := by decide +kernel
theorem dX5_askLibrary_0 : decode cX5_askLibrary 0 = .ok (.aload_n 0, 1) := by decide +kernel
theorem dX5_askLibrary_1 : decode cX5_askLibrary 1 = .ok (.aload_n 0, 1) := by decide +kernel
theorem dX5_askLibrary_2 : decode cX5_askLibrary 2 = .ok (.getfield 19, 3) := by decide +kernel
theorem dX5_askLibrary_5 : decode cX5_askLibrary 5 = .ok (.getfield 160, 3) := by decide +kernel
theorem dX5_askLibrary_8 : decode cX5_askLibrary 8 = .ok (.iload_n 1, 1) := by decide +kernel
theorem dX5_askLibrary_9 : decode cX5_askLibrary 9 = .ok (.iaload, 1) := by decide +kernel
theorem dX5_askLibrary_10 : decode cX5_askLibrary 10 = .ok (.iload_n 2, 1) := by decide +kernel
theorem dX5_askLibrary_11 : decode cX5_askLibrary 11 = .ok (.iload_n 3, 1) := by decide +kernel
theorem dX5_askLibrary_12 : decode cX5_askLibrary 12 = .ok (.invokevirtual 83, 3) := by decide +kernel
theorem dX5_askLibrary_15 : decode cX5_askLibrary 15 = .ok (.istore 4, 2) := by decide +kernel
theorem dX5_askLibrary_17 : decode cX5_askLibrary 17 = .ok (.iload 4, 2) := by decide +kernel
theorem dX5_askLibrary_19 : decode cX5_askLibrary 19 = .ok (.ifCond .lt 18, 3) := by decide +kernel
theorem dX5_askLibrary_22 : decode cX5_askLibrary 22 = .ok (.aload_n 0, 1) := by decide +kernel
theorem dX5_askLibrary_23 : decode cX5_askLibrary 23 = .ok (.getfield 19, 3) := by decide +kernel
theorem dX5_askLibrary_26 : decode cX5_askLibrary 26 = .ok (.getfield 163, 3) := by decide +kernel
theorem dX5_askLibrary_29 : decode cX5_askLibrary 29 = .ok (.iload_n 1, 1) := by decide +kernel
theorem dX5_askLibrary_30 : decode cX5_askLibrary 30 = .ok (.iload_n 2, 1) := by decide +kernel
theorem dX5_askLibrary_31 : decode cX5_askLibrary 31 = .ok (.invokestatic 79, 3) := by decide +kernel
theorem dX5_askLibrary_34 : decode cX5_askLibrary 34 = .ok (.iload 4, 2) := by decide +kernel
theorem dX5_askLibrary_36 : decode cX5_askLibrary 36 = .ok (.iastore, 1) := by decide +kernel
theorem dX5_askLibrary_37 : decode cX5_askLibrary 37 = .ok (.iload 4, 2) := by decide +kernel
theorem dX5_askLibrary_39 : decode cX5_askLibrary 39 = .ok (.ireturn, 1) := by decide +kernel
theorem dX5_make_0 : decode cX5_make 0 = .ok (.aload_n 0, 1) := by decide +kernel
theorem dX5_make_1 : decode cX5_make 1 = .ok (.iload_n 1, 1) := by decide +kernel
theorem dX5_make_2 : decode cX5_make 2 = .ok (.iload_n 2, 1) := by decide +kernel
theorem dX5_make_3 : decode cX5_make 3 = .ok (.iload_n 3, 1) := by decide +kernel
theorem dX5_make_4 : decode cX5_make 4 = .ok (.invokevirtual 166, 3) := by decide +kernel
theorem dX5_make_7 : decode cX5_make 7 = .ok (.istore 5, 2) := by decide +kernel
theorem dX5_make_9 : decode cX5_make 9 = .ok (.iload 5, 2) := by decide +kernel
theorem dX5_make_11 : decode cX5_make 11 = .ok (.iconst 1, 1) := by decide +kernel
theorem dX5_make_12 : decode cX5_make 12 = .ok (.if_icmp .eq 6, 3) := by decide +kernel
theorem dX5_make_15 : decode cX5_make 15 = .ok (.iload 5, 2) := by decide +kernel
theorem dX5_make_17 : decode cX5_make 17 = .ok (.ireturn, 1) := by decide +kernel
theorem dX5_make_18 : decode cX5_make 18 = .ok (.aload_n 0, 1) := by decide +kernel
theorem dX5_make_19 : decode cX5_make 19 = .ok (.getfield 12, 3) := by decide +kernel
theorem dX5_make_22 : decode cX5_make 22 = .ok (.getfield 169, 3) := by decide +kernel
theorem dX5_make_25 : decode cX5_make 25 = .ok (.iload_n 3, 1) := by decide +kernel
theorem dX5_make_26 : decode cX5_make 26 = .ok (.iaload, 1) := by decide +kernel
theorem dX5_make_27 : decode cX5_make 27 = .ok (.istore 6, 2) := by decide +kernel
theorem dX5_make_29 : decode cX5_make 29 = .ok (.iload 6, 2) := by decide +kernel
theorem dX5_make_31 : decode cX5_make 31 = .ok (.iconst (-1), 1) := by decide +kernel
theorem dX5_make_32 : decode cX5_make 32 = .ok (.if_icmp .ne 12, 3) := by decide +kernel
theorem dX5_make_35 : decode cX5_make 35 = .ok (.aload_n 0, 1) := by decide +kernel
theorem dX5_make_36 : decode cX5_make 36 = .ok (.iload_n 1, 1) := by decide +kernel
theorem dX5_make_37 : decode cX5_make 37 = .ok (.iload_n 2, 1) := by decide +kernel
theorem dX5_make_38 : decode cX5_make 38 = .ok (.iload_n 3, 1) := by decide +kernel
theorem dX5_make_39 : decode cX5_make 39 = .ok (.iconst (-1), 1) := by decide +kernel
theorem dX5_make_40 : decode cX5_make 40 = .ok (.invokevirtual 170, 3) := by decide +kernel
theorem dX5_make_43 : decode cX5_make 43 = .ok (.ireturn, 1) := by decide +kernel
theorem dX5_make_44 : decode cX5_make 44 = .ok (.iload_n 1, 1) := by decide +kernel
theorem dX5_make_45 : decode cX5_make 45 = .ok (.iload_n 2, 1) := by decide +kernel
theorem dX5_make_46 : decode cX5_make 46 = .ok (.invokestatic 79, 3) := by decide +kernel
theorem dX5_make_49 : decode cX5_make 49 = .ok (.istore 7, 2) := by decide +kernel
theorem dX5_make_51 : decode cX5_make 51 = .ok (.aload_n 0, 1) := by decide +kernel
theorem dX5_make_52 : decode cX5_make 52 = .ok (.getfield 19, 3) := by decide +kernel
theorem dX5_make_55 : decode cX5_make 55 = .ok (.getfield 173, 3) := by decide +kernel
theorem dX5_make_58 : decode cX5_make 58 = .ok (.iload 7, 2) := by decide +kernel
theorem dX5_make_60 : decode cX5_make 60 = .ok (.iconst 1, 1) := by decide +kernel
theorem dX5_make_61 : decode cX5_make 61 = .ok (.bastore, 1) := by decide +kernel
theorem dX5_make_62 : decode cX5_make 62 = .ok (.aload_n 0, 1) := by decide +kernel
theorem dX5_make_63 : decode cX5_make 63 = .ok (.getfield 19, 3) := by decide +kernel
theorem dX5_make_66 : decode cX5_make 66 = .ok (.getfield 173, 3) := by decide +kernel
theorem dX5_make_69 : decode cX5_make 69 = .ok (.iload_n 1, 1) := by decide +kernel
theorem dX5_make_70 : decode cX5_make 70 = .ok (.iload 6, 2) := by decide +kernel
theorem dX5_make_72 : decode cX5_make 72 = .ok (.invokestatic 79, 3) := by decide +kernel
theorem dX5_make_75 : decode cX5_make 75 = .ok (.baload, 1) := by decide +kernel
theorem dX5_make_76 : decode cX5_make 76 = .ok (.ifCond .ne 10, 3) := by decide +kernel
theorem dX5_make_79 : decode cX5_make 79 = .ok (.iload 4, 2) := by decide +kernel
theorem dX5_make_81 : decode cX5_make 81 = .ok (.bipush 62, 2) := by decide +kernel
theorem dX5_make_83 : decode cX5_make 83 = .ok (.if_icmp .lt 7, 3) := by decide +kernel
theorem dX5_make_86 : decode cX5_make 86 = .ok (.iconst 1, 1) := by decide +kernel
theorem dX5_make_87 : decode cX5_make 87 = .ok (.goto 4, 3) := by decide +kernel
theorem dX5_make_90 : decode cX5_make 90 = .ok (.iconst 0, 1) := by decide +kernel
theorem dX5_make_91 : decode cX5_make 91 = .ok (.istore 8, 2) := by decide +kernel
theorem dX5_make_93 : decode cX5_make 93 = .ok (.iload 8, 2) := by decide +kernel
theorem dX5_make_95 : decode cX5_make 95 = .ok (.ifCond .eq 8, 3) := by decide +kernel
theorem dX5_make_98 : decode cX5_make 98 = .ok (.bipush (-15), 2) := by decide +kernel
theorem dX5_make_100 : decode cX5_make 100 = .ok (.goto 14, 3) := by decide +kernel
theorem dX5_make_103 : decode cX5_make 103 = .ok (.aload_n 0, 1) := by decide +kernel
theorem dX5_make_104 : decode cX5_make 104 = .ok (.iload_n 1, 1) := by decide +kernel
theorem dX5_make_105 : decode cX5_make 105 = .ok (.iload 6, 2) := by decide +kernel
theorem dX5_make_107 : decode cX5_make 107 = .ok (.iload 4, 2) := by decide +kernel
theorem dX5_make_109 : decode cX5_make 109 = .ok (.iconst 1, 1) := by decide +kernel
theorem dX5_make_110 : decode cX5_make 110 = .ok (.iadd, 1) := by decide +kernel
theorem dX5_make_111 : decode cX5_make 111 = .ok (.invokevirtual 83, 3) := by decide +kernel
theorem dX5_make_114 : decode cX5_make 114 = .ok (.istore 9, 2) := by decide +kernel
theorem dX5_make_116 : decode cX5_make 116 = .ok (.aload_n 0, 1) := by decide +kernel
theorem dX5_make_117 : decode cX5_make 117 = .ok (.getfield 19, 3) := by decide +kernel
theorem dX5_make_120 : decode cX5_make 120 = .ok (.getfield 173, 3) := by decide +kernel
theorem dX5_make_123 : decode cX5_make 123 = .ok (.iload 7, 2) := by decide +kernel
theorem dX5_make_125 : decode cX5_make 125 = .ok (.iconst 0, 1) := by decide +kernel
theorem dX5_make_126 : decode cX5_make 126 = .ok (.bastore, 1) := by decide +kernel
theorem dX5_make_127 : decode cX5_make 127 = .ok (.iload 9, 2) := by decide +kernel
theorem dX5_make_129 : decode cX5_make 129 = .ok (.ifCond .lt 15, 3) := by decide +kernel
theorem dX5_make_132 : decode cX5_make 132 = .ok (.aload_n 0, 1) := by decide +kernel
theorem dX5_make_133 : decode cX5_make 133 = .ok (.iload_n 1, 1) := by decide +kernel
theorem dX5_make_134 : decode cX5_make 134 = .ok (.iload_n 2, 1) := by decide +kernel
theorem dX5_make_135 : decode cX5_make 135 = .ok (.iload_n 3, 1) := by decide +kernel
theorem dX5_make_136 : decode cX5_make 136 = .ok (.iload 9, 2) := by decide +kernel
theorem dX5_make_138 : decode cX5_make 138 = .ok (.invokevirtual 170, 3) := by decide +kernel
theorem dX5_make_141 : decode cX5_make 141 = .ok (.goto 5, 3) := by decide +kernel
theorem dX5_make_144 : decode cX5_make 144 = .ok (.iload 9, 2) := by decide +kernel
theorem dX5_make_146 : decode cX5_make 146 = .ok (.ireturn, 1) := by decide +kernel
theorem dX5_failureAhead_0 : decode cX5_failureAhead 0 = .ok (.aload_n 0, 1) := by decide +kernel
theorem dX5_failureAhead_1 : decode cX5_failureAhead 1 = .ok (.getfield 12, 3) := by decide +kernel
theorem dX5_failureAhead_4 : decode cX5_failureAhead 4 = .ok (.getfield 176, 3) := by decide +kernel
theorem dX5_failureAhead_7 : decode cX5_failureAhead 7 = .ok (.iload_n 3, 1) := by decide +kernel
theorem dX5_failureAhead_8 : decode cX5_failureAhead 8 = .ok (.iaload, 1) := by decide +kernel
theorem dX5_failureAhead_9 : decode cX5_failureAhead 9 = .ok (.iload_n 2, 1) := by decide +kernel
theorem dX5_failureAhead_10 : decode cX5_failureAhead 10 = .ok (.if_icmp .eq 6, 3) := by decide +kernel
theorem dX5_failureAhead_13 : decode cX5_failureAhead 13 = .ok (.bipush (-13), 2) := by decide +kernel
theorem dX5_failureAhead_15 : decode cX5_failureAhead 15 = .ok (.ireturn, 1) := by decide +kernel
theorem dX5_failureAhead_16 : decode cX5_failureAhead 16 = .ok (.iload_n 2, 1) := by decide +kernel
theorem dX5_failureAhead_17 : decode cX5_failureAhead 17 = .ok (.iconst 4, 1) := by decide +kernel
theorem dX5_failureAhead_18 : decode cX5_failureAhead 18 = .ok (.if_icmp .ge 17, 3) := by decide +kernel
theorem dX5_failureAhead_21 : decode cX5_failureAhead 21 = .ok (.aload_n 0, 1) := by decide +kernel
theorem dX5_failureAhead_22 : decode cX5_failureAhead 22 = .ok (.getfield 19, 3) := by decide +kernel
theorem dX5_failureAhead_25 : decode cX5_failureAhead 25 = .ok (.iload_n 1, 1) := by decide +kernel
theorem dX5_failureAhead_26 : decode cX5_failureAhead 26 = .ok (.invokevirtual 65, 3) := by decide +kernel
theorem dX5_failureAhead_29 : decode cX5_failureAhead 29 = .ok (.ifCond .eq 6, 3) := by decide +kernel
theorem dX5_failureAhead_32 : decode cX5_failureAhead 32 = .ok (.bipush (-14), 2) := by decide +kernel
theorem dX5_failureAhead_34 : decode cX5_failureAhead 34 = .ok (.ireturn, 1) := by decide +kernel
theorem dX5_failureAhead_35 : decode cX5_failureAhead 35 = .ok (.aload_n 0, 1) := by decide +kernel
theorem dX5_failureAhead_36 : decode cX5_failureAhead 36 = .ok (.getfield 12, 3) := by decide +kernel
theorem dX5_failureAhead_39 : decode cX5_failureAhead 39 = .ok (.iload_n 3, 1) := by decide +kernel
theorem dX5_failureAhead_40 : decode cX5_failureAhead 40 = .ok (.iconst 1, 1) := by decide +kernel
theorem dX5_failureAhead_41 : decode cX5_failureAhead 41 = .ok (.invokevirtual 179, 3) := by decide +kernel
theorem dX5_failureAhead_44 : decode cX5_failureAhead 44 = .ok (.ifCond .eq 8, 3) := by decide +kernel
theorem dX5_failureAhead_47 : decode cX5_failureAhead 47 = .ok (.bipush (-16), 2) := by decide +kernel
theorem dX5_failureAhead_49 : decode cX5_failureAhead 49 = .ok (.goto 4, 3) := by decide +kernel
theorem dX5_failureAhead_52 : decode cX5_failureAhead 52 = .ok (.iconst 1, 1) := by decide +kernel
theorem dX5_failureAhead_53 : decode cX5_failureAhead 53 = .ok (.ireturn, 1) := by decide +kernel
theorem dX5_stand_0 : decode cX5_stand 0 = .ok (.aload_n 0, 1) := by decide +kernel
theorem dX5_stand_1 : decode cX5_stand 1 = .ok (.getfield 26, 3) := by decide +kernel
theorem dX5_stand_4 : decode cX5_stand 4 = .ok (.iload_n 1, 1) := by decide +kernel
theorem dX5_stand_5 : decode cX5_stand 5 = .ok (.iload_n 2, 1) := by decide +kernel
theorem dX5_stand_6 : decode cX5_stand 6 = .ok (.iload_n 3, 1) := by decide +kernel
theorem dX5_stand_7 : decode cX5_stand 7 = .ok (.iload 4, 2) := by decide +kernel
theorem dX5_stand_9 : decode cX5_stand 9 = .ok (.invokevirtual 182, 3) := by decide +kernel
theorem dX5_stand_12 : decode cX5_stand 12 = .ok (.istore 5, 2) := by decide +kernel
theorem dX5_stand_14 : decode cX5_stand 14 = .ok (.iload 5, 2) := by decide +kernel
theorem dX5_stand_16 : decode cX5_stand 16 = .ok (.ifCond .lt 18, 3) := by decide +kernel
theorem dX5_stand_19 : decode cX5_stand 19 = .ok (.aload_n 0, 1) := by decide +kernel
theorem dX5_stand_20 : decode cX5_stand 20 = .ok (.getfield 19, 3) := by decide +kernel
theorem dX5_stand_23 : decode cX5_stand 23 = .ok (.getfield 87, 3) := by decide +kernel
theorem dX5_stand_26 : decode cX5_stand 26 = .ok (.iload_n 1, 1) := by decide +kernel
theorem dX5_stand_27 : decode cX5_stand 27 = .ok (.iload_n 2, 1) := by decide +kernel
theorem dX5_stand_28 : decode cX5_stand 28 = .ok (.invokestatic 79, 3) := by decide +kernel
theorem dX5_stand_31 : decode cX5_stand 31 = .ok (.iload 5, 2) := by decide +kernel
theorem dX5_stand_33 : decode cX5_stand 33 = .ok (.iastore, 1) := by decide +kernel
theorem dX5_stand_34 : decode cX5_stand 34 = .ok (.iload 5, 2) := by decide +kernel
theorem dX5_stand_36 : decode cX5_stand 36 = .ok (.ireturn, 1) := by decide +kernel
theorem dX5_beginFrom_0 : decode cX5_beginFrom 0 = .ok (.aload_n 0, 1) := by decide +kernel
theorem dX5_beginFrom_1 : decode cX5_beginFrom 1 = .ok (.iload_n 1, 1) := by decide +kernel
theorem dX5_beginFrom_2 : decode cX5_beginFrom 2 = .ok (.invokevirtual 184, 3) := by decide +kernel
theorem dX5_beginFrom_5 : decode cX5_beginFrom 5 = .ok (.istore_n 2, 1) := by decide +kernel
theorem dX5_beginFrom_6 : decode cX5_beginFrom 6 = .ok (.iconst 0, 1) := by decide +kernel
theorem dX5_beginFrom_7 : decode cX5_beginFrom 7 = .ok (.istore_n 3, 1) := by decide +kernel
theorem dX5_beginFrom_8 : decode cX5_beginFrom 8 = .ok (.iload_n 3, 1) := by decide +kernel
theorem dX5_beginFrom_9 : decode cX5_beginFrom 9 = .ok (.sipush 2466, 3) := by decide +kernel
theorem dX5_beginFrom_12 : decode cX5_beginFrom 12 = .ok (.if_icmp .ge 46, 3) := by decide +kernel
theorem dX5_beginFrom_15 : decode cX5_beginFrom 15 = .ok (.iload_n 2, 1) := by decide +kernel
theorem dX5_beginFrom_16 : decode cX5_beginFrom 16 = .ok (.iconst 1, 1) := by decide +kernel
theorem dX5_beginFrom_17 : decode cX5_beginFrom 17 = .ok (.if_icmp .ne 41, 3) := by decide +kernel
theorem dX5_beginFrom_20 : decode cX5_beginFrom 20 = .ok (.aload_n 0, 1) := by decide +kernel
theorem dX5_beginFrom_21 : decode cX5_beginFrom 21 = .ok (.getfield 44, 3) := by decide +kernel
theorem dX5_beginFrom_24 : decode cX5_beginFrom 24 = .ok (.getfield 147, 3) := by decide +kernel
theorem dX5_beginFrom_27 : decode cX5_beginFrom 27 = .ok (.ifCond .le 31, 3) := by decide +kernel
theorem dX5_beginFrom_30 : decode cX5_beginFrom 30 = .ok (.aload_n 0, 1) := by decide +kernel
theorem dX5_beginFrom_31 : decode cX5_beginFrom 31 = .ok (.aload_n 0, 1) := by decide +kernel
theorem dX5_beginFrom_32 : decode cX5_beginFrom 32 = .ok (.getfield 44, 3) := by decide +kernel
theorem dX5_beginFrom_35 : decode cX5_beginFrom 35 = .ok (.getfield 148, 3) := by decide +kernel
theorem dX5_beginFrom_38 : decode cX5_beginFrom 38 = .ok (.aload_n 0, 1) := by decide +kernel
theorem dX5_beginFrom_39 : decode cX5_beginFrom 39 = .ok (.getfield 44, 3) := by decide +kernel
theorem dX5_beginFrom_42 : decode cX5_beginFrom 42 = .ok (.getfield 147, 3) := by decide +kernel
theorem dX5_beginFrom_45 : decode cX5_beginFrom 45 = .ok (.iconst 1, 1) := by decide +kernel
theorem dX5_beginFrom_46 : decode cX5_beginFrom 46 = .ok (.isub, 1) := by decide +kernel
theorem dX5_beginFrom_47 : decode cX5_beginFrom 47 = .ok (.iaload, 1) := by decide +kernel
theorem dX5_beginFrom_48 : decode cX5_beginFrom 48 = .ok (.invokevirtual 187, 3) := by decide +kernel
theorem dX5_beginFrom_51 : decode cX5_beginFrom 51 = .ok (.istore_n 2, 1) := by decide +kernel
theorem dX5_beginFrom_52 : decode cX5_beginFrom 52 = .ok (.iinc 3 1, 3) := by decide +kernel
theorem dX5_beginFrom_55 : decode cX5_beginFrom 55 = .ok (.goto (-47), 3) := by decide +kernel
theorem dX5_beginFrom_58 : decode cX5_beginFrom 58 = .ok (.aload_n 0, 1) := by decide +kernel
theorem dX5_beginFrom_59 : decode cX5_beginFrom 59 = .ok (.getfield 44, 3) := by decide +kernel
theorem dX5_beginFrom_62 : decode cX5_beginFrom 62 = .ok (.getfield 147, 3) := by decide +kernel
theorem dX5_beginFrom_65 : decode cX5_beginFrom 65 = .ok (.ifCond .le 45, 3) := by decide +kernel
theorem dX5_beginFrom_68 : decode cX5_beginFrom 68 = .ok (.aload_n 0, 1) := by decide +kernel
theorem dX5_beginFrom_69 : decode cX5_beginFrom 69 = .ok (.getfield 26, 3) := by decide +kernel
theorem dX5_beginFrom_72 : decode cX5_beginFrom 72 = .ok (.getfield 138, 3) := by decide +kernel
theorem dX5_beginFrom_75 : decode cX5_beginFrom 75 = .ok (.aload_n 0, 1) := by decide +kernel
theorem dX5_beginFrom_76 : decode cX5_beginFrom 76 = .ok (.getfield 44, 3) := by decide +kernel
theorem dX5_beginFrom_79 : decode cX5_beginFrom 79 = .ok (.getfield 148, 3) := by decide +kernel
theorem dX5_beginFrom_82 : decode cX5_beginFrom 82 = .ok (.aload_n 0, 1) := by decide +kernel
theorem dX5_beginFrom_83 : decode cX5_beginFrom 83 = .ok (.getfield 44, 3) := by decide +kernel
theorem dX5_beginFrom_86 : decode cX5_beginFrom 86 = .ok (.getfield 147, 3) := by decide +kernel
theorem dX5_beginFrom_89 : decode cX5_beginFrom 89 = .ok (.iconst 1, 1) := by decide +kernel
theorem dX5_beginFrom_90 : decode cX5_beginFrom 90 = .ok (.isub, 1) := by decide +kernel
theorem dX5_beginFrom_91 : decode cX5_beginFrom 91 = .ok (.iaload, 1) := by decide +kernel
theorem dX5_beginFrom_92 : decode cX5_beginFrom 92 = .ok (.iconst 2, 1) := by decide +kernel
theorem dX5_beginFrom_93 : decode cX5_beginFrom 93 = .ok (.iastore, 1) := by decide +kernel
theorem dX5_beginFrom_94 : decode cX5_beginFrom 94 = .ok (.aload_n 0, 1) := by decide +kernel
theorem dX5_beginFrom_95 : decode cX5_beginFrom 95 = .ok (.getfield 44, 3) := by decide +kernel
theorem dX5_beginFrom_98 : decode cX5_beginFrom 98 = .ok (.dup, 1) := by decide +kernel
theorem dX5_beginFrom_99 : decode cX5_beginFrom 99 = .ok (.getfield 147, 3) := by decide +kernel
theorem dX5_beginFrom_102 : decode cX5_beginFrom 102 = .ok (.iconst 1, 1) := by decide +kernel
theorem dX5_beginFrom_103 : decode cX5_beginFrom 103 = .ok (.isub, 1) := by decide +kernel
theorem dX5_beginFrom_104 : decode cX5_beginFrom 104 = .ok (.putfield 147, 3) := by decide +kernel
theorem dX5_beginFrom_107 : decode cX5_beginFrom 107 = .ok (.goto (-49), 3) := by decide +kernel
theorem dX5_beginFrom_110 : decode cX5_beginFrom 110 = .ok (.iload_n 2, 1) := by decide +kernel
theorem dX5_beginFrom_111 : decode cX5_beginFrom 111 = .ok (.ireturn, 1) := by decide +kernel
theorem dX5_comeTo_0 : decode cX5_comeTo 0 = .ok (.aload_n 0, 1) := by decide +kernel
theorem dX5_comeTo_1 : decode cX5_comeTo 1 = .ok (.getfield 26, 3) := by decide +kernel
theorem dX5_comeTo_4 : decode cX5_comeTo 4 = .ok (.getfield 138, 3) := by decide +kernel
theorem dX5_comeTo_7 : decode cX5_comeTo 7 = .ok (.iload_n 1, 1) := by decide +kernel
theorem dX5_comeTo_8 : decode cX5_comeTo 8 = .ok (.iaload, 1) := by decide +kernel
theorem dX5_comeTo_9 : decode cX5_comeTo 9 = .ok (.istore_n 2, 1) := by decide +kernel
theorem dX5_comeTo_10 : decode cX5_comeTo 10 = .ok (.iload_n 2, 1) := by decide +kernel
theorem dX5_comeTo_11 : decode cX5_comeTo 11 = .ok (.iconst 2, 1) := by decide +kernel
theorem dX5_comeTo_12 : decode cX5_comeTo 12 = .ok (.if_icmp .ne 6, 3) := by decide +kernel
theorem dX5_comeTo_15 : decode cX5_comeTo 15 = .ok (.bipush (-18), 2) := by decide +kernel
theorem dX5_comeTo_17 : decode cX5_comeTo 17 = .ok (.ireturn, 1) := by decide +kernel
theorem dX5_comeTo_18 : decode cX5_comeTo 18 = .ok (.iload_n 2, 1) := by decide +kernel
theorem dX5_comeTo_19 : decode cX5_comeTo 19 = .ok (.ifCond .ne 21, 3) := by decide +kernel
theorem dX5_comeTo_22 : decode cX5_comeTo 22 = .ok (.aload_n 0, 1) := by decide +kernel
theorem dX5_comeTo_23 : decode cX5_comeTo 23 = .ok (.getfield 26, 3) := by decide +kernel
theorem dX5_comeTo_26 : decode cX5_comeTo 26 = .ok (.getfield 138, 3) := by decide +kernel
theorem dX5_comeTo_29 : decode cX5_comeTo 29 = .ok (.iload_n 1, 1) := by decide +kernel
theorem dX5_comeTo_30 : decode cX5_comeTo 30 = .ok (.iconst 3, 1) := by decide +kernel
theorem dX5_comeTo_31 : decode cX5_comeTo 31 = .ok (.iastore, 1) := by decide +kernel
theorem dX5_comeTo_32 : decode cX5_comeTo 32 = .ok (.aload_n 0, 1) := by decide +kernel
theorem dX5_comeTo_33 : decode cX5_comeTo 33 = .ok (.getfield 44, 3) := by decide +kernel
theorem dX5_comeTo_36 : decode cX5_comeTo 36 = .ok (.iload_n 1, 1) := by decide +kernel
theorem dX5_comeTo_37 : decode cX5_comeTo 37 = .ok (.invokevirtual 190, 3) := by decide +kernel
theorem dX5_comeTo_40 : decode cX5_comeTo 40 = .ok (.iconst 1, 1) := by decide +kernel
theorem dX5_comeTo_41 : decode cX5_comeTo 41 = .ok (.ireturn, 1) := by decide +kernel
theorem dX5_goOn_0 : decode cX5_goOn 0 = .ok (.aload_n 0, 1) := by decide +kernel
theorem dX5_goOn_1 : decode cX5_goOn 1 = .ok (.getfield 26, 3) := by decide +kernel
theorem dX5_goOn_4 : decode cX5_goOn 4 = .ok (.getfield 138, 3) := by decide +kernel
theorem dX5_goOn_7 : decode cX5_goOn 7 = .ok (.iload_n 1, 1) := by decide +kernel
theorem dX5_goOn_8 : decode cX5_goOn 8 = .ok (.iaload, 1) := by decide +kernel
theorem dX5_goOn_9 : decode cX5_goOn 9 = .ok (.lookupswitch 84 #[(3, 27), (4, 68)], 27) := by decide +kernel
theorem dX5_goOn_36 : decode cX5_goOn 36 = .ok (.aload_n 0, 1) := by decide +kernel
theorem dX5_goOn_37 : decode cX5_goOn 37 = .ok (.getfield 26, 3) := by decide +kernel
theorem dX5_goOn_40 : decode cX5_goOn 40 = .ok (.getfield 138, 3) := by decide +kernel
theorem dX5_goOn_43 : decode cX5_goOn 43 = .ok (.iload_n 1, 1) := by decide +kernel
theorem dX5_goOn_44 : decode cX5_goOn 44 = .ok (.iconst 4, 1) := by decide +kernel
theorem dX5_goOn_45 : decode cX5_goOn 45 = .ok (.iastore, 1) := by decide +kernel
theorem dX5_goOn_46 : decode cX5_goOn 46 = .ok (.aload_n 0, 1) := by decide +kernel
theorem dX5_goOn_47 : decode cX5_goOn 47 = .ok (.getfield 26, 3) := by decide +kernel
theorem dX5_goOn_50 : decode cX5_goOn 50 = .ok (.getfield 135, 3) := by decide +kernel
theorem dX5_goOn_53 : decode cX5_goOn 53 = .ok (.iload_n 1, 1) := by decide +kernel
theorem dX5_goOn_54 : decode cX5_goOn 54 = .ok (.iaload, 1) := by decide +kernel
theorem dX5_goOn_55 : decode cX5_goOn 55 = .ok (.iconst (-1), 1) := by decide +kernel
theorem dX5_goOn_56 : decode cX5_goOn 56 = .ok (.if_icmp .ne 7, 3) := by decide +kernel
theorem dX5_goOn_59 : decode cX5_goOn 59 = .ok (.iconst 1, 1) := by decide +kernel
theorem dX5_goOn_60 : decode cX5_goOn 60 = .ok (.goto 16, 3) := by decide +kernel
theorem dX5_goOn_63 : decode cX5_goOn 63 = .ok (.aload_n 0, 1) := by decide +kernel
theorem dX5_goOn_64 : decode cX5_goOn 64 = .ok (.aload_n 0, 1) := by decide +kernel
theorem dX5_goOn_65 : decode cX5_goOn 65 = .ok (.getfield 26, 3) := by decide +kernel
theorem dX5_goOn_68 : decode cX5_goOn 68 = .ok (.getfield 135, 3) := by decide +kernel
theorem dX5_goOn_71 : decode cX5_goOn 71 = .ok (.iload_n 1, 1) := by decide +kernel
theorem dX5_goOn_72 : decode cX5_goOn 72 = .ok (.iaload, 1) := by decide +kernel
theorem dX5_goOn_73 : decode cX5_goOn 73 = .ok (.invokevirtual 184, 3) := by decide +kernel
theorem dX5_goOn_76 : decode cX5_goOn 76 = .ok (.ireturn, 1) := by decide +kernel
theorem dX5_goOn_77 : decode cX5_goOn 77 = .ok (.aload_n 0, 1) := by decide +kernel
theorem dX5_goOn_78 : decode cX5_goOn 78 = .ok (.getfield 26, 3) := by decide +kernel
theorem dX5_goOn_81 : decode cX5_goOn 81 = .ok (.getfield 138, 3) := by decide +kernel
theorem dX5_goOn_84 : decode cX5_goOn 84 = .ok (.iload_n 1, 1) := by decide +kernel
theorem dX5_goOn_85 : decode cX5_goOn 85 = .ok (.iconst 5, 1) := by decide +kernel
theorem dX5_goOn_86 : decode cX5_goOn 86 = .ok (.iastore, 1) := by decide +kernel
theorem dX5_goOn_87 : decode cX5_goOn 87 = .ok (.aload_n 0, 1) := by decide +kernel
theorem dX5_goOn_88 : decode cX5_goOn 88 = .ok (.iload_n 1, 1) := by decide +kernel
theorem dX5_goOn_89 : decode cX5_goOn 89 = .ok (.invokevirtual 193, 3) := by decide +kernel
theorem dX5_goOn_92 : decode cX5_goOn 92 = .ok (.ireturn, 1) := by decide +kernel
theorem dX5_goOn_93 : decode cX5_goOn 93 = .ok (.aload_n 0, 1) := by decide +kernel
theorem dX5_goOn_94 : decode cX5_goOn 94 = .ok (.iload_n 1, 1) := by decide +kernel
theorem dX5_goOn_95 : decode cX5_goOn 95 = .ok (.invokevirtual 196, 3) := by decide +kernel
theorem dX5_goOn_98 : decode cX5_goOn 98 = .ok (.ireturn, 1) := by decide +kernel
theorem dX5_comeToNeed_0 : decode cX5_comeToNeed 0 = .ok (.aload_n 0, 1) := by decide +kernel
theorem dX5_comeToNeed_1 : decode cX5_comeToNeed 1 = .ok (.getfield 12, 3) := by decide +kernel
theorem dX5_comeToNeed_4 : decode cX5_comeToNeed 4 = .ok (.getfield 199, 3) := by decide +kernel
theorem dX5_comeToNeed_7 : decode cX5_comeToNeed 7 = .ok (.aload_n 0, 1) := by decide +kernel
theorem dX5_comeToNeed_8 : decode cX5_comeToNeed 8 = .ok (.getfield 26, 3) := by decide +kernel
theorem dX5_comeToNeed_11 : decode cX5_comeToNeed 11 = .ok (.getfield 144, 3) := by decide +kernel
theorem dX5_comeToNeed_14 : decode cX5_comeToNeed 14 = .ok (.iload_n 1, 1) := by decide +kernel
theorem dX5_comeToNeed_15 : decode cX5_comeToNeed 15 = .ok (.iaload, 1) := by decide +kernel
theorem dX5_comeToNeed_16 : decode cX5_comeToNeed 16 = .ok (.iaload, 1) := by decide +kernel
theorem dX5_comeToNeed_17 : decode cX5_comeToNeed 17 = .ok (.istore_n 2, 1) := by decide +kernel
theorem dX5_comeToNeed_18 : decode cX5_comeToNeed 18 = .ok (.iload_n 2, 1) := by decide +kernel
theorem dX5_comeToNeed_19 : decode cX5_comeToNeed 19 = .ok (.iconst (-1), 1) := by decide +kernel
theorem dX5_comeToNeed_20 : decode cX5_comeToNeed 20 = .ok (.if_icmp .ne 5, 3) := by decide +kernel
theorem dX5_comeToNeed_23 : decode cX5_comeToNeed 23 = .ok (.iconst 1, 1) := by decide +kernel
theorem dX5_comeToNeed_24 : decode cX5_comeToNeed 24 = .ok (.ireturn, 1) := by decide +kernel
theorem dX5_comeToNeed_25 : decode cX5_comeToNeed 25 = .ok (.aload_n 0, 1) := by decide +kernel
theorem dX5_comeToNeed_26 : decode cX5_comeToNeed 26 = .ok (.aload_n 0, 1) := by decide +kernel
theorem dX5_comeToNeed_27 : decode cX5_comeToNeed 27 = .ok (.getfield 26, 3) := by decide +kernel
theorem dX5_comeToNeed_30 : decode cX5_comeToNeed 30 = .ok (.getfield 98, 3) := by decide +kernel
theorem dX5_comeToNeed_33 : decode cX5_comeToNeed 33 = .ok (.iload_n 1, 1) := by decide +kernel
theorem dX5_comeToNeed_34 : decode cX5_comeToNeed 34 = .ok (.iaload, 1) := by decide +kernel
theorem dX5_comeToNeed_35 : decode cX5_comeToNeed 35 = .ok (.iload_n 2, 1) := by decide +kernel
theorem dX5_comeToNeed_36 : decode cX5_comeToNeed 36 = .ok (.iconst 0, 1) := by decide +kernel
theorem dX5_comeToNeed_37 : decode cX5_comeToNeed 37 = .ok (.invokevirtual 83, 3) := by decide +kernel
theorem dX5_comeToNeed_40 : decode cX5_comeToNeed 40 = .ok (.istore_n 3, 1) := by decide +kernel
theorem dX5_comeToNeed_41 : decode cX5_comeToNeed 41 = .ok (.iload_n 3, 1) := by decide +kernel
theorem dX5_comeToNeed_42 : decode cX5_comeToNeed 42 = .ok (.ifCond .lt 11, 3) := by decide +kernel
theorem dX5_comeToNeed_45 : decode cX5_comeToNeed 45 = .ok (.aload_n 0, 1) := by decide +kernel
theorem dX5_comeToNeed_46 : decode cX5_comeToNeed 46 = .ok (.iload_n 3, 1) := by decide +kernel
theorem dX5_comeToNeed_47 : decode cX5_comeToNeed 47 = .ok (.invokevirtual 184, 3) := by decide +kernel
theorem dX5_comeToNeed_50 : decode cX5_comeToNeed 50 = .ok (.goto 4, 3) := by decide +kernel
theorem dX5_comeToNeed_53 : decode cX5_comeToNeed 53 = .ok (.iload_n 3, 1) := by decide +kernel
theorem dX5_comeToNeed_54 : decode cX5_comeToNeed 54 = .ok (.ireturn, 1) := by decide +kernel
theorem dX5_beginItself_0 : decode cX5_beginItself 0 = .ok (.aload_n 0, 1) := by decide +kernel
theorem dX5_beginItself_1 : decode cX5_beginItself 1 = .ok (.getfield 26, 3) := by decide +kernel
theorem dX5_beginItself_4 : decode cX5_beginItself 4 = .ok (.getfield 144, 3) := by decide +kernel
theorem dX5_beginItself_7 : decode cX5_beginItself 7 = .ok (.iload_n 1, 1) := by decide +kernel
theorem dX5_beginItself_8 : decode cX5_beginItself 8 = .ok (.iaload, 1) := by decide +kernel
theorem dX5_beginItself_9 : decode cX5_beginItself 9 = .ok (.istore_n 2, 1) := by decide +kernel
theorem dX5_beginItself_10 : decode cX5_beginItself 10 = .ok (.aload_n 0, 1) := by decide +kernel
theorem dX5_beginItself_11 : decode cX5_beginItself 11 = .ok (.getfield 12, 3) := by decide +kernel
theorem dX5_beginItself_14 : decode cX5_beginItself 14 = .ok (.iload_n 2, 1) := by decide +kernel
theorem dX5_beginItself_15 : decode cX5_beginItself 15 = .ok (.iconst 2, 1) := by decide +kernel
theorem dX5_beginItself_16 : decode cX5_beginItself 16 = .ok (.invokevirtual 179, 3) := by decide +kernel
theorem dX5_beginItself_19 : decode cX5_beginItself 19 = .ok (.ifCond .eq 6, 3) := by decide +kernel
theorem dX5_beginItself_22 : decode cX5_beginItself 22 = .ok (.bipush (-17), 2) := by decide +kernel
theorem dX5_beginItself_24 : decode cX5_beginItself 24 = .ok (.ireturn, 1) := by decide +kernel
theorem dX5_beginItself_25 : decode cX5_beginItself 25 = .ok (.aload_n 0, 1) := by decide +kernel
theorem dX5_beginItself_26 : decode cX5_beginItself 26 = .ok (.getfield 40, 3) := by decide +kernel
theorem dX5_beginItself_29 : decode cX5_beginItself 29 = .ok (.aload_n 0, 1) := by decide +kernel
theorem dX5_beginItself_30 : decode cX5_beginItself 30 = .ok (.getfield 12, 3) := by decide +kernel
theorem dX5_beginItself_33 : decode cX5_beginItself 33 = .ok (.getfield 141, 3) := by decide +kernel
theorem dX5_beginItself_36 : decode cX5_beginItself 36 = .ok (.iload_n 2, 1) := by decide +kernel
theorem dX5_beginItself_37 : decode cX5_beginItself 37 = .ok (.iaload, 1) := by decide +kernel
theorem dX5_beginItself_38 : decode cX5_beginItself 38 = .ok (.invokevirtual 190, 3) := by decide +kernel
theorem dX5_beginItself_41 : decode cX5_beginItself 41 = .ok (.aload_n 0, 1) := by decide +kernel
theorem dX5_beginItself_42 : decode cX5_beginItself 42 = .ok (.getfield 26, 3) := by decide +kernel
theorem dX5_beginItself_45 : decode cX5_beginItself 45 = .ok (.getfield 138, 3) := by decide +kernel
theorem dX5_beginItself_48 : decode cX5_beginItself 48 = .ok (.iload_n 1, 1) := by decide +kernel
theorem dX5_beginItself_49 : decode cX5_beginItself 49 = .ok (.iconst 1, 1) := by decide +kernel
theorem dX5_beginItself_50 : decode cX5_beginItself 50 = .ok (.iastore, 1) := by decide +kernel
theorem dX5_beginItself_51 : decode cX5_beginItself 51 = .ok (.aload_n 0, 1) := by decide +kernel
theorem dX5_beginItself_52 : decode cX5_beginItself 52 = .ok (.getfield 44, 3) := by decide +kernel
theorem dX5_beginItself_55 : decode cX5_beginItself 55 = .ok (.dup, 1) := by decide +kernel
theorem dX5_beginItself_56 : decode cX5_beginItself 56 = .ok (.getfield 147, 3) := by decide +kernel
theorem dX5_beginItself_59 : decode cX5_beginItself 59 = .ok (.iconst 1, 1) := by decide +kernel
theorem dX5_beginItself_60 : decode cX5_beginItself 60 = .ok (.isub, 1) := by decide +kernel
theorem dX5_beginItself_61 : decode cX5_beginItself 61 = .ok (.putfield 147, 3) := by decide +kernel
theorem dX5_beginItself_64 : decode cX5_beginItself 64 = .ok (.iconst 1, 1) := by decide +kernel
theorem dX5_beginItself_65 : decode cX5_beginItself 65 = .ok (.ireturn, 1) := by decide +kernel
theorem dX5_markHeld_0 : decode cX5_markHeld 0 = .ok (.iconst 0, 1) := by decide +kernel
theorem dX5_markHeld_1 : decode cX5_markHeld 1 = .ok (.istore_n 1, 1) := by decide +kernel
theorem dX5_markHeld_2 : decode cX5_markHeld 2 = .ok (.iload_n 1, 1) := by decide +kernel
theorem dX5_markHeld_3 : decode cX5_markHeld 3 = .ok (.aload_n 0, 1) := by decide +kernel
theorem dX5_markHeld_4 : decode cX5_markHeld 4 = .ok (.getfield 26, 3) := by decide +kernel
theorem dX5_markHeld_7 : decode cX5_markHeld 7 = .ok (.getfield 128, 3) := by decide +kernel
theorem dX5_markHeld_10 : decode cX5_markHeld 10 = .ok (.if_icmp .ge 16, 3) := by decide +kernel
theorem dX5_markHeld_13 : decode cX5_markHeld 13 = .ok (.aload_n 0, 1) := by decide +kernel
theorem dX5_markHeld_14 : decode cX5_markHeld 14 = .ok (.getfield 47, 3) := by decide +kernel
theorem dX5_markHeld_17 : decode cX5_markHeld 17 = .ok (.iload_n 1, 1) := by decide +kernel
theorem dX5_markHeld_18 : decode cX5_markHeld 18 = .ok (.iconst 0, 1) := by decide +kernel
theorem dX5_markHeld_19 : decode cX5_markHeld 19 = .ok (.bastore, 1) := by decide +kernel
theorem dX5_markHeld_20 : decode cX5_markHeld 20 = .ok (.iinc 1 1, 3) := by decide +kernel
theorem dX5_markHeld_23 : decode cX5_markHeld 23 = .ok (.goto (-21), 3) := by decide +kernel
theorem dX5_markHeld_26 : decode cX5_markHeld 26 = .ok (.iconst 0, 1) := by decide +kernel
theorem dX5_markHeld_27 : decode cX5_markHeld 27 = .ok (.istore_n 1, 1) := by decide +kernel
theorem dX5_markHeld_28 : decode cX5_markHeld 28 = .ok (.iload_n 1, 1) := by decide +kernel
theorem dX5_markHeld_29 : decode cX5_markHeld 29 = .ok (.aload_n 0, 1) := by decide +kernel
theorem dX5_markHeld_30 : decode cX5_markHeld 30 = .ok (.getfield 33, 3) := by decide +kernel
theorem dX5_markHeld_33 : decode cX5_markHeld 33 = .ok (.getfield 153, 3) := by decide +kernel
theorem dX5_markHeld_36 : decode cX5_markHeld 36 = .ok (.if_icmp .ge 36, 3) := by decide +kernel
theorem dX5_markHeld_39 : decode cX5_markHeld 39 = .ok (.aload_n 0, 1) := by decide +kernel
theorem dX5_markHeld_40 : decode cX5_markHeld 40 = .ok (.getfield 33, 3) := by decide +kernel
theorem dX5_markHeld_43 : decode cX5_markHeld 43 = .ok (.getfield 112, 3) := by decide +kernel
theorem dX5_markHeld_46 : decode cX5_markHeld 46 = .ok (.iload_n 1, 1) := by decide +kernel
theorem dX5_markHeld_47 : decode cX5_markHeld 47 = .ok (.baload, 1) := by decide +kernel
theorem dX5_markHeld_48 : decode cX5_markHeld 48 = .ok (.ifCond .ne 18, 3) := by decide +kernel
theorem dX5_markHeld_51 : decode cX5_markHeld 51 = .ok (.aload_n 0, 1) := by decide +kernel
theorem dX5_markHeld_52 : decode cX5_markHeld 52 = .ok (.getfield 47, 3) := by decide +kernel
theorem dX5_markHeld_55 : decode cX5_markHeld 55 = .ok (.aload_n 0, 1) := by decide +kernel
theorem dX5_markHeld_56 : decode cX5_markHeld 56 = .ok (.getfield 33, 3) := by decide +kernel
theorem dX5_markHeld_59 : decode cX5_markHeld 59 = .ok (.getfield 115, 3) := by decide +kernel
theorem dX5_markHeld_62 : decode cX5_markHeld 62 = .ok (.iload_n 1, 1) := by decide +kernel
theorem dX5_markHeld_63 : decode cX5_markHeld 63 = .ok (.iaload, 1) := by decide +kernel
theorem dX5_markHeld_64 : decode cX5_markHeld 64 = .ok (.iconst 1, 1) := by decide +kernel
theorem dX5_markHeld_65 : decode cX5_markHeld 65 = .ok (.bastore, 1) := by decide +kernel
theorem dX5_markHeld_66 : decode cX5_markHeld 66 = .ok (.iinc 1 1, 3) := by decide +kernel
theorem dX5_markHeld_69 : decode cX5_markHeld 69 = .ok (.goto (-41), 3) := by decide +kernel
theorem dX5_markHeld_72 : decode cX5_markHeld 72 = .ok (.iconst 0, 1) := by decide +kernel
theorem dX5_markHeld_73 : decode cX5_markHeld 73 = .ok (.istore_n 1, 1) := by decide +kernel
theorem dX5_markHeld_74 : decode cX5_markHeld 74 = .ok (.iload_n 1, 1) := by decide +kernel
theorem dX5_markHeld_75 : decode cX5_markHeld 75 = .ok (.aload_n 0, 1) := by decide +kernel
theorem dX5_markHeld_76 : decode cX5_markHeld 76 = .ok (.getfield 19, 3) := by decide +kernel
theorem dX5_markHeld_79 : decode cX5_markHeld 79 = .ok (.getfield 152, 3) := by decide +kernel
theorem dX5_markHeld_82 : decode cX5_markHeld 82 = .ok (.if_icmp .ge 26, 3) := by decide +kernel
theorem dX5_markHeld_85 : decode cX5_markHeld 85 = .ok (.aload_n 0, 1) := by decide +kernel
theorem dX5_markHeld_86 : decode cX5_markHeld 86 = .ok (.getfield 19, 3) := by decide +kernel
theorem dX5_markHeld_89 : decode cX5_markHeld 89 = .ok (.getfield 68, 3) := by decide +kernel
theorem dX5_markHeld_92 : decode cX5_markHeld 92 = .ok (.iload_n 1, 1) := by decide +kernel
theorem dX5_markHeld_93 : decode cX5_markHeld 93 = .ok (.baload, 1) := by decide +kernel
theorem dX5_markHeld_94 : decode cX5_markHeld 94 = .ok (.ifCond .ne 8, 3) := by decide +kernel
theorem dX5_markHeld_97 : decode cX5_markHeld 97 = .ok (.aload_n 0, 1) := by decide +kernel
theorem dX5_markHeld_98 : decode cX5_markHeld 98 = .ok (.iload_n 1, 1) := by decide +kernel
theorem dX5_markHeld_99 : decode cX5_markHeld 99 = .ok (.invokevirtual 202, 3) := by decide +kernel
theorem dX5_markHeld_102 : decode cX5_markHeld 102 = .ok (.iinc 1 1, 3) := by decide +kernel
theorem dX5_markHeld_105 : decode cX5_markHeld 105 = .ok (.goto (-31), 3) := by decide +kernel
theorem dX5_markHeld_108 : decode cX5_markHeld 108 = .ok (.aload_n 0, 1) := by decide +kernel
theorem dX5_markHeld_109 : decode cX5_markHeld 109 = .ok (.getfield 26, 3) := by decide +kernel
theorem dX5_markHeld_112 : decode cX5_markHeld 112 = .ok (.getfield 128, 3) := by decide +kernel
theorem dX5_markHeld_115 : decode cX5_markHeld 115 = .ok (.iconst 1, 1) := by decide +kernel
theorem dX5_markHeld_116 : decode cX5_markHeld 116 = .ok (.isub, 1) := by decide +kernel
theorem dX5_markHeld_117 : decode cX5_markHeld 117 = .ok (.istore_n 1, 1) := by decide +kernel
theorem dX5_markHeld_118 : decode cX5_markHeld 118 = .ok (.iload_n 1, 1) := by decide +kernel
theorem dX5_markHeld_119 : decode cX5_markHeld 119 = .ok (.ifCond .lt 46, 3) := by decide +kernel
theorem dX5_markHeld_122 : decode cX5_markHeld 122 = .ok (.aload_n 0, 1) := by decide +kernel
theorem dX5_markHeld_123 : decode cX5_markHeld 123 = .ok (.getfield 47, 3) := by decide +kernel
theorem dX5_markHeld_126 : decode cX5_markHeld 126 = .ok (.iload_n 1, 1) := by decide +kernel
theorem dX5_markHeld_127 : decode cX5_markHeld 127 = .ok (.baload, 1) := by decide +kernel
theorem dX5_markHeld_128 : decode cX5_markHeld 128 = .ok (.ifCond .eq 31, 3) := by decide +kernel
theorem dX5_markHeld_131 : decode cX5_markHeld 131 = .ok (.aload_n 0, 1) := by decide +kernel
theorem dX5_markHeld_132 : decode cX5_markHeld 132 = .ok (.getfield 26, 3) := by decide +kernel
theorem dX5_markHeld_135 : decode cX5_markHeld 135 = .ok (.getfield 135, 3) := by decide +kernel
theorem dX5_markHeld_138 : decode cX5_markHeld 138 = .ok (.iload_n 1, 1) := by decide +kernel
theorem dX5_markHeld_139 : decode cX5_markHeld 139 = .ok (.iaload, 1) := by decide +kernel
theorem dX5_markHeld_140 : decode cX5_markHeld 140 = .ok (.iconst (-1), 1) := by decide +kernel
theorem dX5_markHeld_141 : decode cX5_markHeld 141 = .ok (.if_icmp .eq 18, 3) := by decide +kernel
theorem dX5_markHeld_144 : decode cX5_markHeld 144 = .ok (.aload_n 0, 1) := by decide +kernel
theorem dX5_markHeld_145 : decode cX5_markHeld 145 = .ok (.getfield 47, 3) := by decide +kernel
theorem dX5_markHeld_148 : decode cX5_markHeld 148 = .ok (.aload_n 0, 1) := by decide +kernel
theorem dX5_markHeld_149 : decode cX5_markHeld 149 = .ok (.getfield 26, 3) := by decide +kernel
theorem dX5_markHeld_152 : decode cX5_markHeld 152 = .ok (.getfield 135, 3) := by decide +kernel
theorem dX5_markHeld_155 : decode cX5_markHeld 155 = .ok (.iload_n 1, 1) := by decide +kernel
theorem dX5_markHeld_156 : decode cX5_markHeld 156 = .ok (.iaload, 1) := by decide +kernel
theorem dX5_markHeld_157 : decode cX5_markHeld 157 = .ok (.iconst 1, 1) := by decide +kernel
theorem dX5_markHeld_158 : decode cX5_markHeld 158 = .ok (.bastore, 1) := by decide +kernel
theorem dX5_markHeld_159 : decode cX5_markHeld 159 = .ok (.iinc 1 (-1), 3) := by decide +kernel
theorem dX5_markHeld_162 : decode cX5_markHeld 162 = .ok (.goto (-44), 3) := by decide +kernel
theorem dX5_markHeld_165 : decode cX5_markHeld 165 = .ok (.return_, 1) := by decide +kernel
theorem dX5_markHeldBy_0 : decode cX5_markHeldBy 0 = .ok (.iconst 0, 1) := by decide +kernel
theorem dX5_markHeldBy_1 : decode cX5_markHeldBy 1 = .ok (.istore_n 2, 1) := by decide +kernel
theorem dX5_markHeldBy_2 : decode cX5_markHeldBy 2 = .ok (.iload_n 2, 1) := by decide +kernel
theorem dX5_markHeldBy_3 : decode cX5_markHeldBy 3 = .ok (.bipush 31, 2) := by decide +kernel
theorem dX5_markHeldBy_5 : decode cX5_markHeldBy 5 = .ok (.if_icmp .ge 64, 3) := by decide +kernel
theorem dX5_markHeldBy_8 : decode cX5_markHeldBy 8 = .ok (.aload_n 0, 1) := by decide +kernel
theorem dX5_markHeldBy_9 : decode cX5_markHeldBy 9 = .ok (.getfield 19, 3) := by decide +kernel
theorem dX5_markHeldBy_12 : decode cX5_markHeldBy 12 = .ok (.getfield 87, 3) := by decide +kernel
theorem dX5_markHeldBy_15 : decode cX5_markHeldBy 15 = .ok (.iload_n 1, 1) := by decide +kernel
theorem dX5_markHeldBy_16 : decode cX5_markHeldBy 16 = .ok (.iload_n 2, 1) := by decide +kernel
theorem dX5_markHeldBy_17 : decode cX5_markHeldBy 17 = .ok (.invokestatic 79, 3) := by decide +kernel
theorem dX5_markHeldBy_20 : decode cX5_markHeldBy 20 = .ok (.iaload, 1) := by decide +kernel
theorem dX5_markHeldBy_21 : decode cX5_markHeldBy 21 = .ok (.istore_n 3, 1) := by decide +kernel
theorem dX5_markHeldBy_22 : decode cX5_markHeldBy 22 = .ok (.iload_n 3, 1) := by decide +kernel
theorem dX5_markHeldBy_23 : decode cX5_markHeldBy 23 = .ok (.iconst (-1), 1) := by decide +kernel
theorem dX5_markHeldBy_24 : decode cX5_markHeldBy 24 = .ok (.if_icmp .eq 10, 3) := by decide +kernel
theorem dX5_markHeldBy_27 : decode cX5_markHeldBy 27 = .ok (.aload_n 0, 1) := by decide +kernel
theorem dX5_markHeldBy_28 : decode cX5_markHeldBy 28 = .ok (.getfield 47, 3) := by decide +kernel
theorem dX5_markHeldBy_31 : decode cX5_markHeldBy 31 = .ok (.iload_n 3, 1) := by decide +kernel
theorem dX5_markHeldBy_32 : decode cX5_markHeldBy 32 = .ok (.iconst 1, 1) := by decide +kernel
theorem dX5_markHeldBy_33 : decode cX5_markHeldBy 33 = .ok (.bastore, 1) := by decide +kernel
theorem dX5_markHeldBy_34 : decode cX5_markHeldBy 34 = .ok (.aload_n 0, 1) := by decide +kernel
theorem dX5_markHeldBy_35 : decode cX5_markHeldBy 35 = .ok (.getfield 19, 3) := by decide +kernel
theorem dX5_markHeldBy_38 : decode cX5_markHeldBy 38 = .ok (.getfield 163, 3) := by decide +kernel
theorem dX5_markHeldBy_41 : decode cX5_markHeldBy 41 = .ok (.iload_n 1, 1) := by decide +kernel
theorem dX5_markHeldBy_42 : decode cX5_markHeldBy 42 = .ok (.iload_n 2, 1) := by decide +kernel
theorem dX5_markHeldBy_43 : decode cX5_markHeldBy 43 = .ok (.invokestatic 79, 3) := by decide +kernel
theorem dX5_markHeldBy_46 : decode cX5_markHeldBy 46 = .ok (.iaload, 1) := by decide +kernel
theorem dX5_markHeldBy_47 : decode cX5_markHeldBy 47 = .ok (.istore 4, 2) := by decide +kernel
theorem dX5_markHeldBy_49 : decode cX5_markHeldBy 49 = .ok (.iload 4, 2) := by decide +kernel
theorem dX5_markHeldBy_51 : decode cX5_markHeldBy 51 = .ok (.iconst (-1), 1) := by decide +kernel
theorem dX5_markHeldBy_52 : decode cX5_markHeldBy 52 = .ok (.if_icmp .eq 11, 3) := by decide +kernel
theorem dX5_markHeldBy_55 : decode cX5_markHeldBy 55 = .ok (.aload_n 0, 1) := by decide +kernel
theorem dX5_markHeldBy_56 : decode cX5_markHeldBy 56 = .ok (.getfield 47, 3) := by decide +kernel
theorem dX5_markHeldBy_59 : decode cX5_markHeldBy 59 = .ok (.iload 4, 2) := by decide +kernel
theorem dX5_markHeldBy_61 : decode cX5_markHeldBy 61 = .ok (.iconst 1, 1) := by decide +kernel
theorem dX5_markHeldBy_62 : decode cX5_markHeldBy 62 = .ok (.bastore, 1) := by decide +kernel
theorem dX5_markHeldBy_63 : decode cX5_markHeldBy 63 = .ok (.iinc 2 1, 3) := by decide +kernel
theorem dX5_markHeldBy_66 : decode cX5_markHeldBy 66 = .ok (.goto (-64), 3) := by decide +kernel
theorem dX5_markHeldBy_69 : decode cX5_markHeldBy 69 = .ok (.return_, 1) := by decide +kernel
theorem dJ7_fill_53178_0 : decode cJ7_fill_53178 0 = .ok (.iconst 0, 1) := by decide +kernel
theorem dJ7_fill_53178_1 : decode cJ7_fill_53178 1 = .ok (.istore_n 2, 1) := by decide +kernel
theorem dJ7_fill_53178_2 : decode cJ7_fill_53178 2 = .ok (.aload_n 0, 1) := by decide +kernel
theorem dJ7_fill_53178_3 : decode cJ7_fill_53178 3 = .ok (.arraylength, 1) := by decide +kernel
theorem dJ7_fill_53178_4 : decode cJ7_fill_53178 4 = .ok (.istore_n 3, 1) := by decide +kernel
theorem dJ7_fill_53178_5 : decode cJ7_fill_53178 5 = .ok (.iload_n 2, 1) := by decide +kernel
theorem dJ7_fill_53178_6 : decode cJ7_fill_53178 6 = .ok (.iload_n 3, 1) := by decide +kernel
theorem dJ7_fill_53178_7 : decode cJ7_fill_53178 7 = .ok (.if_icmp .ge 13, 3) := by decide +kernel
theorem dJ7_fill_53178_10 : decode cJ7_fill_53178 10 = .ok (.aload_n 0, 1) := by decide +kernel
theorem dJ7_fill_53178_11 : decode cJ7_fill_53178 11 = .ok (.iload_n 2, 1) := by decide +kernel
theorem dJ7_fill_53178_12 : decode cJ7_fill_53178 12 = .ok (.iload_n 1, 1) := by decide +kernel
theorem dJ7_fill_53178_13 : decode cJ7_fill_53178 13 = .ok (.iastore, 1) := by decide +kernel
theorem dJ7_fill_53178_14 : decode cJ7_fill_53178 14 = .ok (.iinc 2 1, 3) := by decide +kernel
theorem dJ7_fill_53178_17 : decode cJ7_fill_53178 17 = .ok (.goto (-12), 3) := by decide +kernel
theorem dJ7_fill_53178_20 : decode cJ7_fill_53178 20 = .ok (.return_, 1) := by decide +kernel
end
section
theorem dX6_init_0 : decode cX6_init 0 = .ok (.aload_n 0, 1) := by decide +kernel
theorem dX6_init_1 : decode cX6_init 1 = .ok (.invokespecial 1, 3) := by decide +kernel
theorem dX6_init_4 : decode cX6_init 4 = .ok (.aload_n 0, 1) := by decide +kernel
theorem dX6_init_5 : decode cX6_init 5 = .ok (.bipush 40, 2) := by decide +kernel
theorem dX6_init_7 : decode cX6_init 7 = .ok (.newarray .int, 2) := by decide +kernel
theorem dX6_init_9 : decode cX6_init 9 = .ok (.putfield 7, 3) := by decide +kernel
theorem dX6_init_12 : decode cX6_init 12 = .ok (.aload_n 0, 1) := by decide +kernel
theorem dX6_init_13 : decode cX6_init 13 = .ok (.bipush 40, 2) := by decide +kernel
theorem dX6_init_15 : decode cX6_init 15 = .ok (.newarray .int, 2) := by decide +kernel
theorem dX6_init_17 : decode cX6_init 17 = .ok (.putfield 13, 3) := by decide +kernel
theorem dX6_init_20 : decode cX6_init 20 = .ok (.aload_n 0, 1) := by decide +kernel
theorem dX6_init_21 : decode cX6_init 21 = .ok (.bipush 40, 2) := by decide +kernel
theorem dX6_init_23 : decode cX6_init 23 = .ok (.newarray .int, 2) := by decide +kernel
theorem dX6_init_25 : decode cX6_init 25 = .ok (.putfield 16, 3) := by decide +kernel
theorem dX6_init_28 : decode cX6_init 28 = .ok (.aload_n 0, 1) := by decide +kernel
theorem dX6_init_29 : decode cX6_init 29 = .ok (.bipush 40, 2) := by decide +kernel
theorem dX6_init_31 : decode cX6_init 31 = .ok (.newarray .int, 2) := by decide +kernel
theorem dX6_init_33 : decode cX6_init 33 = .ok (.putfield 19, 3) := by decide +kernel
theorem dX6_init_36 : decode cX6_init 36 = .ok (.aload_n 0, 1) := by decide +kernel
theorem dX6_init_37 : decode cX6_init 37 = .ok (.bipush 40, 2) := by decide +kernel
theorem dX6_init_39 : decode cX6_init 39 = .ok (.newarray .int, 2) := by decide +kernel
theorem dX6_init_41 : decode cX6_init 41 = .ok (.putfield 22, 3) := by decide +kernel
theorem dX6_init_44 : decode cX6_init 44 = .ok (.aload_n 0, 1) := by decide +kernel
theorem dX6_init_45 : decode cX6_init 45 = .ok (.bipush 10, 2) := by decide +kernel
theorem dX6_init_47 : decode cX6_init 47 = .ok (.newarray .int, 2) := by decide +kernel
theorem dX6_init_49 : decode cX6_init 49 = .ok (.putfield 25, 3) := by decide +kernel
theorem dX6_init_52 : decode cX6_init 52 = .ok (.aload_n 0, 1) := by decide +kernel
theorem dX6_init_53 : decode cX6_init 53 = .ok (.bipush 10, 2) := by decide +kernel
theorem dX6_init_55 : decode cX6_init 55 = .ok (.newarray .boolean, 2) := by decide +kernel
theorem dX6_init_57 : decode cX6_init 57 = .ok (.putfield 28, 3) := by decide +kernel
theorem dX6_init_60 : decode cX6_init 60 = .ok (.aload_n 0, 1) := by decide +kernel
theorem dX6_init_61 : decode cX6_init 61 = .ok (.bipush 10, 2) := by decide +kernel
theorem dX6_init_63 : decode cX6_init 63 = .ok (.newarray .boolean, 2) := by decide +kernel
theorem dX6_init_65 : decode cX6_init 65 = .ok (.putfield 32, 3) := by decide +kernel
theorem dX6_init_68 : decode cX6_init 68 = .ok (.aload_n 0, 1) := by decide +kernel
theorem dX6_init_69 : decode cX6_init 69 = .ok (.sipush 310, 3) := by decide +kernel
theorem dX6_init_72 : decode cX6_init 72 = .ok (.newarray .int, 2) := by decide +kernel
theorem dX6_init_74 : decode cX6_init 74 = .ok (.putfield 35, 3) := by decide +kernel
theorem dX6_init_77 : decode cX6_init 77 = .ok (.aload_n 0, 1) := by decide +kernel
theorem dX6_init_78 : decode cX6_init 78 = .ok (.sipush 310, 3) := by decide +kernel
theorem dX6_init_81 : decode cX6_init 81 = .ok (.newarray .int, 2) := by decide +kernel
theorem dX6_init_83 : decode cX6_init 83 = .ok (.putfield 38, 3) := by decide +kernel
theorem dX6_init_86 : decode cX6_init 86 = .ok (.aload_n 0, 1) := by decide +kernel
theorem dX6_init_87 : decode cX6_init 87 = .ok (.sipush 310, 3) := by decide +kernel
theorem dX6_init_90 : decode cX6_init 90 = .ok (.newarray .int, 2) := by decide +kernel
theorem dX6_init_92 : decode cX6_init 92 = .ok (.putfield 41, 3) := by decide +kernel
theorem dX6_init_95 : decode cX6_init 95 = .ok (.aload_n 0, 1) := by decide +kernel
theorem dX6_init_96 : decode cX6_init 96 = .ok (.sipush 310, 3) := by decide +kernel
theorem dX6_init_99 : decode cX6_init 99 = .ok (.newarray .boolean, 2) := by decide +kernel
theorem dX6_init_101 : decode cX6_init 101 = .ok (.putfield 44, 3) := by decide +kernel
theorem dX6_init_104 : decode cX6_init 104 = .ok (.aload_n 0, 1) := by decide +kernel
theorem dX6_init_105 : decode cX6_init 105 = .ok (.sipush 1000, 3) := by decide +kernel
theorem dX6_init_108 : decode cX6_init 108 = .ok (.newarray .int, 2) := by decide +kernel
theorem dX6_init_110 : decode cX6_init 110 = .ok (.putfield 47, 3) := by decide +kernel
theorem dX6_init_113 : decode cX6_init 113 = .ok (.aload_n 0, 1) := by decide +kernel
theorem dX6_init_114 : decode cX6_init 114 = .ok (.sipush 1000, 3) := by decide +kernel
theorem dX6_init_117 : decode cX6_init 117 = .ok (.newarray .int, 2) := by decide +kernel
theorem dX6_init_119 : decode cX6_init 119 = .ok (.putfield 50, 3) := by decide +kernel
theorem dX6_init_122 : decode cX6_init 122 = .ok (.aload_n 0, 1) := by decide +kernel
theorem dX6_init_123 : decode cX6_init 123 = .ok (.sipush 1000, 3) := by decide +kernel
theorem dX6_init_126 : decode cX6_init 126 = .ok (.newarray .int, 2) := by decide +kernel
theorem dX6_init_128 : decode cX6_init 128 = .ok (.putfield 53, 3) := by decide +kernel
theorem dX6_init_131 : decode cX6_init 131 = .ok (.aload_n 0, 1) := by decide +kernel
theorem dX6_init_132 : decode cX6_init 132 = .ok (.sipush 1000, 3) := by decide +kernel
theorem dX6_init_135 : decode cX6_init 135 = .ok (.newarray .int, 2) := by decide +kernel
theorem dX6_init_137 : decode cX6_init 137 = .ok (.putfield 56, 3) := by decide +kernel
theorem dX6_init_140 : decode cX6_init 140 = .ok (.aload_n 0, 1) := by decide +kernel
theorem dX6_init_141 : decode cX6_init 141 = .ok (.sipush 1000, 3) := by decide +kernel
theorem dX6_init_144 : decode cX6_init 144 = .ok (.newarray .int, 2) := by decide +kernel
theorem dX6_init_146 : decode cX6_init 146 = .ok (.putfield 59, 3) := by decide +kernel
theorem dX6_init_149 : decode cX6_init 149 = .ok (.aload_n 0, 1) := by decide +kernel
theorem dX6_init_150 : decode cX6_init 150 = .ok (.bipush 60, 2) := by decide +kernel
theorem dX6_init_152 : decode cX6_init 152 = .ok (.newarray .int, 2) := by decide +kernel
theorem dX6_init_154 : decode cX6_init 154 = .ok (.putfield 62, 3) := by decide +kernel
theorem dX6_init_157 : decode cX6_init 157 = .ok (.aload_n 0, 1) := by decide +kernel
theorem dX6_init_158 : decode cX6_init 158 = .ok (.bipush 60, 2) := by decide +kernel
theorem dX6_init_160 : decode cX6_init 160 = .ok (.newarray .boolean, 2) := by decide +kernel
theorem dX6_init_162 : decode cX6_init 162 = .ok (.putfield 65, 3) := by decide +kernel
theorem dX6_init_165 : decode cX6_init 165 = .ok (.aload_n 0, 1) := by decide +kernel
theorem dX6_init_166 : decode cX6_init 166 = .ok (.sipush 1000, 3) := by decide +kernel
theorem dX6_init_169 : decode cX6_init 169 = .ok (.newarray .int, 2) := by decide +kernel
theorem dX6_init_171 : decode cX6_init 171 = .ok (.putfield 68, 3) := by decide +kernel
theorem dX6_init_174 : decode cX6_init 174 = .ok (.aload_n 0, 1) := by decide +kernel
theorem dX6_init_175 : decode cX6_init 175 = .ok (.sipush 1300, 3) := by decide +kernel
theorem dX6_init_178 : decode cX6_init 178 = .ok (.newarray .int, 2) := by decide +kernel
theorem dX6_init_180 : decode cX6_init 180 = .ok (.putfield 71, 3) := by decide +kernel
theorem dX6_init_183 : decode cX6_init 183 = .ok (.aload_n 0, 1) := by decide +kernel
theorem dX6_init_184 : decode cX6_init 184 = .ok (.sipush 1300, 3) := by decide +kernel
theorem dX6_init_187 : decode cX6_init 187 = .ok (.newarray .int, 2) := by decide +kernel
theorem dX6_init_189 : decode cX6_init 189 = .ok (.putfield 74, 3) := by decide +kernel
theorem dX6_init_192 : decode cX6_init 192 = .ok (.aload_n 0, 1) := by decide +kernel
theorem dX6_init_193 : decode cX6_init 193 = .ok (.sipush 1300, 3) := by decide +kernel
theorem dX6_init_196 : decode cX6_init 196 = .ok (.newarray .int, 2) := by decide +kernel
theorem dX6_init_198 : decode cX6_init 198 = .ok (.putfield 77, 3) := by decide +kernel
theorem dX6_init_201 : decode cX6_init 201 = .ok (.aload_n 0, 1) := by decide +kernel
theorem dX6_init_202 : decode cX6_init 202 = .ok (.sipush 1300, 3) := by decide +kernel
theorem dX6_init_205 : decode cX6_init 205 = .ok (.newarray .int, 2) := by decide +kernel
theorem dX6_init_207 : decode cX6_init 207 = .ok (.putfield 80, 3) := by decide +kernel
theorem dX6_init_210 : decode cX6_init 210 = .ok (.aload_n 0, 1) := by decide +kernel
theorem dX6_init_211 : decode cX6_init 211 = .ok (.sipush 1300, 3) := by decide +kernel
theorem dX6_init_214 : decode cX6_init 214 = .ok (.newarray .boolean, 2) := by decide +kernel
theorem dX6_init_216 : decode cX6_init 216 = .ok (.putfield 83, 3) := by decide +kernel
theorem dX6_init_219 : decode cX6_init 219 = .ok (.aload_n 0, 1) := by decide +kernel
theorem dX6_init_220 : decode cX6_init 220 = .ok (.sipush 1000, 3) := by decide +kernel
theorem dX6_init_223 : decode cX6_init 223 = .ok (.newarray .boolean, 2) := by decide +kernel
theorem dX6_init_225 : decode cX6_init 225 = .ok (.putfield 86, 3) := by decide +kernel
theorem dX6_init_228 : decode cX6_init 228 = .ok (.return_, 1) := by decide +kernel
theorem dX6_in_0 : decode cX6_in 0 = .ok (.iload_n 0, 1) := by decide +kernel
theorem dX6_in_1 : decode cX6_in 1 = .ok (.iload_n 1, 1) := by decide +kernel
theorem dX6_in_2 : decode cX6_in 2 = .ok (.if_icmp .lt 12, 3) := by decide +kernel
theorem dX6_in_5 : decode cX6_in 5 = .ok (.iload_n 0, 1) := by decide +kernel
theorem dX6_in_6 : decode cX6_in 6 = .ok (.iload_n 2, 1) := by decide +kernel
theorem dX6_in_7 : decode cX6_in 7 = .ok (.if_icmp .gt 7, 3) := by decide +kernel
theorem dX6_in_10 : decode cX6_in 10 = .ok (.iconst 1, 1) := by decide +kernel
theorem dX6_in_11 : decode cX6_in 11 = .ok (.goto 4, 3) := by decide +kernel
theorem dX6_in_14 : decode cX6_in 14 = .ok (.iconst 0, 1) := by decide +kernel
theorem dX6_in_15 : decode cX6_in 15 = .ok (.ireturn, 1) := by decide +kernel
theorem dX6_isName_0 : decode cX6_isName 0 = .ok (.iload_n 0, 1) := by decide +kernel
theorem dX6_isName_1 : decode cX6_isName 1 = .ok (.iconst 0, 1) := by decide +kernel
theorem dX6_isName_2 : decode cX6_isName 2 = .ok (.bipush 30, 2) := by decide +kernel
theorem dX6_isName_4 : decode cX6_isName 4 = .ok (.invokestatic 89, 3) := by decide +kernel
theorem dX6_isName_7 : decode cX6_isName 7 = .ok (.ireturn, 1) := by decide +kernel
theorem dX6_isLoader_0 : decode cX6_isLoader 0 = .ok (.iload_n 1, 1) := by decide +kernel
theorem dX6_isLoader_1 : decode cX6_isLoader 1 = .ok (.iconst 0, 1) := by decide +kernel
theorem dX6_isLoader_2 : decode cX6_isLoader 2 = .ok (.aload_n 0, 1) := by decide +kernel
theorem dX6_isLoader_3 : decode cX6_isLoader 3 = .ok (.getfield 93, 3) := by decide +kernel
theorem dX6_isLoader_6 : decode cX6_isLoader 6 = .ok (.iconst 1, 1) := by decide +kernel
theorem dX6_isLoader_7 : decode cX6_isLoader 7 = .ok (.isub, 1) := by decide +kernel
theorem dX6_isLoader_8 : decode cX6_isLoader 8 = .ok (.invokestatic 89, 3) := by decide +kernel
theorem dX6_isLoader_11 : decode cX6_isLoader 11 = .ok (.ireturn, 1) := by decide +kernel
theorem dX6_isFile_0 : decode cX6_isFile 0 = .ok (.iload_n 1, 1) := by decide +kernel
theorem dX6_isFile_1 : decode cX6_isFile 1 = .ok (.iconst 0, 1) := by decide +kernel
theorem dX6_isFile_2 : decode cX6_isFile 2 = .ok (.aload_n 0, 1) := by decide +kernel
theorem dX6_isFile_3 : decode cX6_isFile 3 = .ok (.getfield 97, 3) := by decide +kernel
theorem dX6_isFile_6 : decode cX6_isFile 6 = .ok (.iconst 1, 1) := by decide +kernel
theorem dX6_isFile_7 : decode cX6_isFile 7 = .ok (.isub, 1) := by decide +kernel
theorem dX6_isFile_8 : decode cX6_isFile 8 = .ok (.invokestatic 89, 3) := by decide +kernel
theorem dX6_isFile_11 : decode cX6_isFile 11 = .ok (.ireturn, 1) := by decide +kernel
theorem dX6_isModule_0 : decode cX6_isModule 0 = .ok (.iload_n 1, 1) := by decide +kernel
theorem dX6_isModule_1 : decode cX6_isModule 1 = .ok (.iconst 0, 1) := by decide +kernel
theorem dX6_isModule_2 : decode cX6_isModule 2 = .ok (.aload_n 0, 1) := by decide +kernel
theorem dX6_isModule_3 : decode cX6_isModule 3 = .ok (.getfield 100, 3) := by decide +kernel
theorem dX6_isModule_6 : decode cX6_isModule 6 = .ok (.iconst 1, 1) := by decide +kernel
theorem dX6_isModule_7 : decode cX6_isModule 7 = .ok (.isub, 1) := by decide +kernel
theorem dX6_isModule_8 : decode cX6_isModule 8 = .ok (.invokestatic 89, 3) := by decide +kernel
theorem dX6_isModule_11 : decode cX6_isModule 11 = .ok (.ireturn, 1) := by decide +kernel
theorem dX6_isThing_0 : decode cX6_isThing 0 = .ok (.iload_n 1, 1) := by decide +kernel
theorem dX6_isThing_1 : decode cX6_isThing 1 = .ok (.iconst 0, 1) := by decide +kernel
theorem dX6_isThing_2 : decode cX6_isThing 2 = .ok (.aload_n 0, 1) := by decide +kernel
theorem dX6_isThing_3 : decode cX6_isThing 3 = .ok (.getfield 103, 3) := by decide +kernel
theorem dX6_isThing_6 : decode cX6_isThing 6 = .ok (.iconst 1, 1) := by decide +kernel
theorem dX6_isThing_7 : decode cX6_isThing 7 = .ok (.isub, 1) := by decide +kernel
theorem dX6_isThing_8 : decode cX6_isThing 8 = .ok (.invokestatic 89, 3) := by decide +kernel
theorem dX6_isThing_11 : decode cX6_isThing 11 = .ok (.ireturn, 1) := by decide +kernel
theorem dX6_file_0 : decode cX6_file 0 = .ok (.iload_n 1, 1) := by decide +kernel
theorem dX6_file_1 : decode cX6_file 1 = .ok (.invokestatic 106, 3) := by decide +kernel
theorem dX6_file_4 : decode cX6_file 4 = .ok (.ifCond .eq 39, 3) := by decide +kernel
theorem dX6_file_7 : decode cX6_file 7 = .ok (.iload_n 3, 1) := by decide +kernel
theorem dX6_file_8 : decode cX6_file 8 = .ok (.iconst (-1), 1) := by decide +kernel
theorem dX6_file_9 : decode cX6_file 9 = .ok (.if_icmp .eq 10, 3) := by decide +kernel
theorem dX6_file_12 : decode cX6_file 12 = .ok (.iload_n 3, 1) := by decide +kernel
theorem dX6_file_13 : decode cX6_file 13 = .ok (.invokestatic 106, 3) := by decide +kernel
theorem dX6_file_16 : decode cX6_file 16 = .ok (.ifCond .eq 27, 3) := by decide +kernel
theorem dX6_file_19 : decode cX6_file 19 = .ok (.iload 4, 2) := by decide +kernel
theorem dX6_file_21 : decode cX6_file 21 = .ok (.iconst (-1), 1) := by decide +kernel
theorem dX6_file_22 : decode cX6_file 22 = .ok (.if_icmp .eq 11, 3) := by decide +kernel
theorem dX6_file_25 : decode cX6_file 25 = .ok (.iload 4, 2) := by decide +kernel
theorem dX6_file_27 : decode cX6_file 27 = .ok (.invokestatic 106, 3) := by decide +kernel
theorem dX6_file_30 : decode cX6_file 30 = .ok (.ifCond .eq 13, 3) := by decide +kernel
theorem dX6_file_33 : decode cX6_file 33 = .ok (.iload 5, 2) := by decide +kernel
theorem dX6_file_35 : decode cX6_file 35 = .ok (.iconst 0, 1) := by decide +kernel
theorem dX6_file_36 : decode cX6_file 36 = .ok (.iconst 3, 1) := by decide +kernel
theorem dX6_file_37 : decode cX6_file 37 = .ok (.invokestatic 89, 3) := by decide +kernel
theorem dX6_file_40 : decode cX6_file 40 = .ok (.ifCond .ne 6, 3) := by decide +kernel
theorem dX6_file_43 : decode cX6_file 43 = .ok (.bipush (-2), 2) := by decide +kernel
theorem dX6_file_45 : decode cX6_file 45 = .ok (.ireturn, 1) := by decide +kernel
theorem dX6_file_46 : decode cX6_file 46 = .ok (.aload_n 0, 1) := by decide +kernel
theorem dX6_file_47 : decode cX6_file 47 = .ok (.getfield 97, 3) := by decide +kernel
theorem dX6_file_50 : decode cX6_file 50 = .ok (.bipush 40, 2) := by decide +kernel
theorem dX6_file_52 : decode cX6_file 52 = .ok (.if_icmp .ne 6, 3) := by decide +kernel
theorem dX6_file_55 : decode cX6_file 55 = .ok (.bipush (-4), 2) := by decide +kernel
theorem dX6_file_57 : decode cX6_file 57 = .ok (.ireturn, 1) := by decide +kernel
theorem dX6_file_58 : decode cX6_file 58 = .ok (.aload_n 0, 1) := by decide +kernel
theorem dX6_file_59 : decode cX6_file 59 = .ok (.getfield 7, 3) := by decide +kernel
theorem dX6_file_62 : decode cX6_file 62 = .ok (.aload_n 0, 1) := by decide +kernel
theorem dX6_file_63 : decode cX6_file 63 = .ok (.getfield 97, 3) := by decide +kernel
theorem dX6_file_66 : decode cX6_file 66 = .ok (.iload_n 1, 1) := by decide +kernel
theorem dX6_file_67 : decode cX6_file 67 = .ok (.iastore, 1) := by decide +kernel
theorem dX6_file_68 : decode cX6_file 68 = .ok (.aload_n 0, 1) := by decide +kernel
theorem dX6_file_69 : decode cX6_file 69 = .ok (.getfield 13, 3) := by decide +kernel
theorem dX6_file_72 : decode cX6_file 72 = .ok (.aload_n 0, 1) := by decide +kernel
theorem dX6_file_73 : decode cX6_file 73 = .ok (.getfield 97, 3) := by decide +kernel
theorem dX6_file_76 : decode cX6_file 76 = .ok (.iload_n 2, 1) := by decide +kernel
theorem dX6_file_77 : decode cX6_file 77 = .ok (.iastore, 1) := by decide +kernel
theorem dX6_file_78 : decode cX6_file 78 = .ok (.aload_n 0, 1) := by decide +kernel
theorem dX6_file_79 : decode cX6_file 79 = .ok (.getfield 16, 3) := by decide +kernel
theorem dX6_file_82 : decode cX6_file 82 = .ok (.aload_n 0, 1) := by decide +kernel
theorem dX6_file_83 : decode cX6_file 83 = .ok (.getfield 97, 3) := by decide +kernel
theorem dX6_file_86 : decode cX6_file 86 = .ok (.iload_n 3, 1) := by decide +kernel
theorem dX6_file_87 : decode cX6_file 87 = .ok (.iastore, 1) := by decide +kernel
theorem dX6_file_88 : decode cX6_file 88 = .ok (.aload_n 0, 1) := by decide +kernel
theorem dX6_file_89 : decode cX6_file 89 = .ok (.getfield 19, 3) := by decide +kernel
theorem dX6_file_92 : decode cX6_file 92 = .ok (.aload_n 0, 1) := by decide +kernel
theorem dX6_file_93 : decode cX6_file 93 = .ok (.getfield 97, 3) := by decide +kernel
theorem dX6_file_96 : decode cX6_file 96 = .ok (.iload 4, 2) := by decide +kernel
theorem dX6_file_98 : decode cX6_file 98 = .ok (.iastore, 1) := by decide +kernel
theorem dX6_file_99 : decode cX6_file 99 = .ok (.aload_n 0, 1) := by decide +kernel
theorem dX6_file_100 : decode cX6_file 100 = .ok (.getfield 22, 3) := by decide +kernel
theorem dX6_file_103 : decode cX6_file 103 = .ok (.aload_n 0, 1) := by decide +kernel
theorem dX6_file_104 : decode cX6_file 104 = .ok (.getfield 97, 3) := by decide +kernel
theorem dX6_file_107 : decode cX6_file 107 = .ok (.iload 5, 2) := by decide +kernel
theorem dX6_file_109 : decode cX6_file 109 = .ok (.iastore, 1) := by decide +kernel
theorem dX6_file_110 : decode cX6_file 110 = .ok (.aload_n 0, 1) := by decide +kernel
theorem dX6_file_111 : decode cX6_file 111 = .ok (.dup, 1) := by decide +kernel
theorem dX6_file_112 : decode cX6_file 112 = .ok (.getfield 97, 3) := by decide +kernel
theorem dX6_file_115 : decode cX6_file 115 = .ok (.iconst 1, 1) := by decide +kernel
theorem dX6_file_116 : decode cX6_file 116 = .ok (.iadd, 1) := by decide +kernel
theorem dX6_file_117 : decode cX6_file 117 = .ok (.putfield 97, 3) := by decide +kernel
theorem dX6_file_120 : decode cX6_file 120 = .ok (.aload_n 0, 1) := by decide +kernel
theorem dX6_file_121 : decode cX6_file 121 = .ok (.getfield 97, 3) := by decide +kernel
theorem dX6_file_124 : decode cX6_file 124 = .ok (.iconst 1, 1) := by decide +kernel
theorem dX6_file_125 : decode cX6_file 125 = .ok (.isub, 1) := by decide +kernel
theorem dX6_file_126 : decode cX6_file 126 = .ok (.ireturn, 1) := by decide +kernel
theorem dX6_loader_0 : decode cX6_loader 0 = .ok (.iload_n 1, 1) := by decide +kernel
theorem dX6_loader_1 : decode cX6_loader 1 = .ok (.iconst (-1), 1) := by decide +kernel
theorem dX6_loader_2 : decode cX6_loader 2 = .ok (.if_icmp .eq 24, 3) := by decide +kernel
theorem dX6_loader_5 : decode cX6_loader 5 = .ok (.aload_n 0, 1) := by decide +kernel
theorem dX6_loader_6 : decode cX6_loader 6 = .ok (.iload_n 1, 1) := by decide +kernel
theorem dX6_loader_7 : decode cX6_loader 7 = .ok (.invokevirtual 110, 3) := by decide +kernel
theorem dX6_loader_10 : decode cX6_loader 10 = .ok (.ifCond .eq 13, 3) := by decide +kernel
theorem dX6_loader_13 : decode cX6_loader 13 = .ok (.aload_n 0, 1) := by decide +kernel
theorem dX6_loader_14 : decode cX6_loader 14 = .ok (.getfield 25, 3) := by decide +kernel
theorem dX6_loader_17 : decode cX6_loader 17 = .ok (.iload_n 1, 1) := by decide +kernel
theorem dX6_loader_18 : decode cX6_loader 18 = .ok (.iaload, 1) := by decide +kernel
theorem dX6_loader_19 : decode cX6_loader 19 = .ok (.iconst (-1), 1) := by decide +kernel
theorem dX6_loader_20 : decode cX6_loader 20 = .ok (.if_icmp .eq 6, 3) := by decide +kernel
theorem dX6_loader_23 : decode cX6_loader 23 = .ok (.bipush (-2), 2) := by decide +kernel
theorem dX6_loader_25 : decode cX6_loader 25 = .ok (.ireturn, 1) := by decide +kernel
theorem dX6_loader_26 : decode cX6_loader 26 = .ok (.iload_n 1, 1) := by decide +kernel
theorem dX6_loader_27 : decode cX6_loader 27 = .ok (.iconst (-1), 1) := by decide +kernel
theorem dX6_loader_28 : decode cX6_loader 28 = .ok (.if_icmp .eq 15, 3) := by decide +kernel
theorem dX6_loader_31 : decode cX6_loader 31 = .ok (.aload_n 0, 1) := by decide +kernel
theorem dX6_loader_32 : decode cX6_loader 32 = .ok (.getfield 32, 3) := by decide +kernel
theorem dX6_loader_35 : decode cX6_loader 35 = .ok (.iload_n 1, 1) := by decide +kernel
theorem dX6_loader_36 : decode cX6_loader 36 = .ok (.baload, 1) := by decide +kernel
theorem dX6_loader_37 : decode cX6_loader 37 = .ok (.ifCond .eq 6, 3) := by decide +kernel
theorem dX6_loader_40 : decode cX6_loader 40 = .ok (.bipush (-3), 2) := by decide +kernel
theorem dX6_loader_42 : decode cX6_loader 42 = .ok (.ireturn, 1) := by decide +kernel
theorem dX6_loader_43 : decode cX6_loader 43 = .ok (.aload_n 0, 1) := by decide +kernel
theorem dX6_loader_44 : decode cX6_loader 44 = .ok (.getfield 93, 3) := by decide +kernel
theorem dX6_loader_47 : decode cX6_loader 47 = .ok (.bipush 10, 2) := by decide +kernel
theorem dX6_loader_49 : decode cX6_loader 49 = .ok (.if_icmp .ne 6, 3) := by decide +kernel
theorem dX6_loader_52 : decode cX6_loader 52 = .ok (.bipush (-4), 2) := by decide +kernel
theorem dX6_loader_54 : decode cX6_loader 54 = .ok (.ireturn, 1) := by decide +kernel
theorem dX6_loader_55 : decode cX6_loader 55 = .ok (.aload_n 0, 1) := by decide +kernel
theorem dX6_loader_56 : decode cX6_loader 56 = .ok (.getfield 25, 3) := by decide +kernel
theorem dX6_loader_59 : decode cX6_loader 59 = .ok (.aload_n 0, 1) := by decide +kernel
theorem dX6_loader_60 : decode cX6_loader 60 = .ok (.getfield 93, 3) := by decide +kernel
theorem dX6_loader_63 : decode cX6_loader 63 = .ok (.iload_n 1, 1) := by decide +kernel
theorem dX6_loader_64 : decode cX6_loader 64 = .ok (.iastore, 1) := by decide +kernel
theorem dX6_loader_65 : decode cX6_loader 65 = .ok (.aload_n 0, 1) := by decide +kernel
theorem dX6_loader_66 : decode cX6_loader 66 = .ok (.getfield 28, 3) := by decide +kernel
theorem dX6_loader_69 : decode cX6_loader 69 = .ok (.aload_n 0, 1) := by decide +kernel
theorem dX6_loader_70 : decode cX6_loader 70 = .ok (.getfield 93, 3) := by decide +kernel
theorem dX6_loader_73 : decode cX6_loader 73 = .ok (.iload_n 2, 1) := by decide +kernel
theorem dX6_loader_74 : decode cX6_loader 74 = .ok (.bastore, 1) := by decide +kernel
theorem dX6_loader_75 : decode cX6_loader 75 = .ok (.iconst 0, 1) := by decide +kernel
theorem dX6_loader_76 : decode cX6_loader 76 = .ok (.istore_n 3, 1) := by decide +kernel
theorem dX6_loader_77 : decode cX6_loader 77 = .ok (.iload_n 3, 1) := by decide +kernel
theorem dX6_loader_78 : decode cX6_loader 78 = .ok (.bipush 31, 2) := by decide +kernel
theorem dX6_loader_80 : decode cX6_loader 80 = .ok (.if_icmp .ge 54, 3) := by decide +kernel
theorem dX6_loader_83 : decode cX6_loader 83 = .ok (.aload_n 0, 1) := by decide +kernel
theorem dX6_loader_84 : decode cX6_loader 84 = .ok (.getfield 35, 3) := by decide +kernel
theorem dX6_loader_87 : decode cX6_loader 87 = .ok (.bipush 31, 2) := by decide +kernel
theorem dX6_loader_89 : decode cX6_loader 89 = .ok (.aload_n 0, 1) := by decide +kernel
theorem dX6_loader_90 : decode cX6_loader 90 = .ok (.getfield 93, 3) := by decide +kernel
theorem dX6_loader_93 : decode cX6_loader 93 = .ok (.imul, 1) := by decide +kernel
theorem dX6_loader_94 : decode cX6_loader 94 = .ok (.iload_n 3, 1) := by decide +kernel
theorem dX6_loader_95 : decode cX6_loader 95 = .ok (.iadd, 1) := by decide +kernel
theorem dX6_loader_96 : decode cX6_loader 96 = .ok (.iconst (-1), 1) := by decide +kernel
theorem dX6_loader_97 : decode cX6_loader 97 = .ok (.iastore, 1) := by decide +kernel
theorem dX6_loader_98 : decode cX6_loader 98 = .ok (.aload_n 0, 1) := by decide +kernel
theorem dX6_loader_99 : decode cX6_loader 99 = .ok (.getfield 38, 3) := by decide +kernel
theorem dX6_loader_102 : decode cX6_loader 102 = .ok (.bipush 31, 2) := by decide +kernel
theorem dX6_loader_104 : decode cX6_loader 104 = .ok (.aload_n 0, 1) := by decide +kernel
theorem dX6_loader_105 : decode cX6_loader 105 = .ok (.getfield 93, 3) := by decide +kernel
theorem dX6_loader_108 : decode cX6_loader 108 = .ok (.imul, 1) := by decide +kernel
theorem dX6_loader_109 : decode cX6_loader 109 = .ok (.iload_n 3, 1) := by decide +kernel
theorem dX6_loader_110 : decode cX6_loader 110 = .ok (.iadd, 1) := by decide +kernel
theorem dX6_loader_111 : decode cX6_loader 111 = .ok (.iconst (-1), 1) := by decide +kernel
theorem dX6_loader_112 : decode cX6_loader 112 = .ok (.iastore, 1) := by decide +kernel
theorem dX6_loader_113 : decode cX6_loader 113 = .ok (.aload_n 0, 1) := by decide +kernel
theorem dX6_loader_114 : decode cX6_loader 114 = .ok (.getfield 41, 3) := by decide +kernel
theorem dX6_loader_117 : decode cX6_loader 117 = .ok (.bipush 31, 2) := by decide +kernel
theorem dX6_loader_119 : decode cX6_loader 119 = .ok (.aload_n 0, 1) := by decide +kernel
theorem dX6_loader_120 : decode cX6_loader 120 = .ok (.getfield 93, 3) := by decide +kernel
theorem dX6_loader_123 : decode cX6_loader 123 = .ok (.imul, 1) := by decide +kernel
theorem dX6_loader_124 : decode cX6_loader 124 = .ok (.iload_n 3, 1) := by decide +kernel
theorem dX6_loader_125 : decode cX6_loader 125 = .ok (.iadd, 1) := by decide +kernel
theorem dX6_loader_126 : decode cX6_loader 126 = .ok (.iconst (-1), 1) := by decide +kernel
theorem dX6_loader_127 : decode cX6_loader 127 = .ok (.iastore, 1) := by decide +kernel
theorem dX6_loader_128 : decode cX6_loader 128 = .ok (.iinc 3 1, 3) := by decide +kernel
theorem dX6_loader_131 : decode cX6_loader 131 = .ok (.goto (-54), 3) := by decide +kernel
theorem dX6_loader_134 : decode cX6_loader 134 = .ok (.aload_n 0, 1) := by decide +kernel
theorem dX6_loader_135 : decode cX6_loader 135 = .ok (.dup, 1) := by decide +kernel
theorem dX6_loader_136 : decode cX6_loader 136 = .ok (.getfield 93, 3) := by decide +kernel
theorem dX6_loader_139 : decode cX6_loader 139 = .ok (.iconst 1, 1) := by decide +kernel
theorem dX6_loader_140 : decode cX6_loader 140 = .ok (.iadd, 1) := by decide +kernel
theorem dX6_loader_141 : decode cX6_loader 141 = .ok (.putfield 93, 3) := by decide +kernel
theorem dX6_loader_144 : decode cX6_loader 144 = .ok (.aload_n 0, 1) := by decide +kernel
theorem dX6_loader_145 : decode cX6_loader 145 = .ok (.getfield 93, 3) := by decide +kernel
theorem dX6_loader_148 : decode cX6_loader 148 = .ok (.iconst 1, 1) := by decide +kernel
theorem dX6_loader_149 : decode cX6_loader 149 = .ok (.isub, 1) := by decide +kernel
theorem dX6_loader_150 : decode cX6_loader 150 = .ok (.ireturn, 1) := by decide +kernel
theorem dX6_put_0 : decode cX6_put 0 = .ok (.aload_n 0, 1) := by decide +kernel
theorem dX6_put_1 : decode cX6_put 1 = .ok (.iload_n 1, 1) := by decide +kernel
theorem dX6_put_2 : decode cX6_put 2 = .ok (.invokevirtual 110, 3) := by decide +kernel
theorem dX6_put_5 : decode cX6_put 5 = .ok (.ifCond .eq 18, 3) := by decide +kernel
theorem dX6_put_8 : decode cX6_put 8 = .ok (.iload_n 2, 1) := by decide +kernel
theorem dX6_put_9 : decode cX6_put 9 = .ok (.invokestatic 106, 3) := by decide +kernel
theorem dX6_put_12 : decode cX6_put 12 = .ok (.ifCond .eq 11, 3) := by decide +kernel
theorem dX6_put_15 : decode cX6_put 15 = .ok (.aload_n 0, 1) := by decide +kernel
theorem dX6_put_16 : decode cX6_put 16 = .ok (.iload_n 3, 1) := by decide +kernel
theorem dX6_put_17 : decode cX6_put 17 = .ok (.invokevirtual 113, 3) := by decide +kernel
theorem dX6_put_20 : decode cX6_put 20 = .ok (.ifCond .ne 6, 3) := by decide +kernel
theorem dX6_put_23 : decode cX6_put 23 = .ok (.bipush (-2), 2) := by decide +kernel
theorem dX6_put_25 : decode cX6_put 25 = .ok (.ireturn, 1) := by decide +kernel
theorem dX6_put_26 : decode cX6_put 26 = .ok (.aload_n 0, 1) := by decide +kernel
theorem dX6_put_27 : decode cX6_put 27 = .ok (.getfield 32, 3) := by decide +kernel
theorem dX6_put_30 : decode cX6_put 30 = .ok (.iload_n 1, 1) := by decide +kernel
theorem dX6_put_31 : decode cX6_put 31 = .ok (.baload, 1) := by decide +kernel
theorem dX6_put_32 : decode cX6_put 32 = .ok (.ifCond .eq 6, 3) := by decide +kernel
theorem dX6_put_35 : decode cX6_put 35 = .ok (.bipush (-3), 2) := by decide +kernel
theorem dX6_put_37 : decode cX6_put 37 = .ok (.ireturn, 1) := by decide +kernel
theorem dX6_put_38 : decode cX6_put 38 = .ok (.aload_n 0, 1) := by decide +kernel
theorem dX6_put_39 : decode cX6_put 39 = .ok (.getfield 35, 3) := by decide +kernel
theorem dX6_put_42 : decode cX6_put 42 = .ok (.bipush 31, 2) := by decide +kernel
theorem dX6_put_44 : decode cX6_put 44 = .ok (.iload_n 1, 1) := by decide +kernel
theorem dX6_put_45 : decode cX6_put 45 = .ok (.imul, 1) := by decide +kernel
theorem dX6_put_46 : decode cX6_put 46 = .ok (.iload_n 2, 1) := by decide +kernel
theorem dX6_put_47 : decode cX6_put 47 = .ok (.iadd, 1) := by decide +kernel
theorem dX6_put_48 : decode cX6_put 48 = .ok (.iload_n 3, 1) := by decide +kernel
theorem dX6_put_49 : decode cX6_put 49 = .ok (.iastore, 1) := by decide +kernel
theorem dX6_put_50 : decode cX6_put 50 = .ok (.iconst 1, 1) := by decide +kernel
theorem dX6_put_51 : decode cX6_put 51 = .ok (.ireturn, 1) := by decide +kernel
theorem dX6_push_0 : decode cX6_push 0 = .ok (.aload_n 0, 1) := by decide +kernel
theorem dX6_push_1 : decode cX6_push 1 = .ok (.getfield 71, 3) := by decide +kernel
theorem dX6_push_4 : decode cX6_push 4 = .ok (.aload_n 0, 1) := by decide +kernel
theorem dX6_push_5 : decode cX6_push 5 = .ok (.getfield 116, 3) := by decide +kernel
theorem dX6_push_8 : decode cX6_push 8 = .ok (.iload_n 1, 1) := by decide +kernel
theorem dX6_push_9 : decode cX6_push 9 = .ok (.iastore, 1) := by decide +kernel
theorem dX6_push_10 : decode cX6_push 10 = .ok (.aload_n 0, 1) := by decide +kernel
theorem dX6_push_11 : decode cX6_push 11 = .ok (.getfield 74, 3) := by decide +kernel
theorem dX6_push_14 : decode cX6_push 14 = .ok (.aload_n 0, 1) := by decide +kernel
theorem dX6_push_15 : decode cX6_push 15 = .ok (.getfield 116, 3) := by decide +kernel
theorem dX6_push_18 : decode cX6_push 18 = .ok (.iconst 0, 1) := by decide +kernel
theorem dX6_push_19 : decode cX6_push 19 = .ok (.iastore, 1) := by decide +kernel
theorem dX6_push_20 : decode cX6_push 20 = .ok (.aload_n 0, 1) := by decide +kernel
theorem dX6_push_21 : decode cX6_push 21 = .ok (.getfield 77, 3) := by decide +kernel
theorem dX6_push_24 : decode cX6_push 24 = .ok (.aload_n 0, 1) := by decide +kernel
theorem dX6_push_25 : decode cX6_push 25 = .ok (.getfield 116, 3) := by decide +kernel
theorem dX6_push_28 : decode cX6_push 28 = .ok (.iload_n 2, 1) := by decide +kernel
theorem dX6_push_29 : decode cX6_push 29 = .ok (.iastore, 1) := by decide +kernel
theorem dX6_push_30 : decode cX6_push 30 = .ok (.aload_n 0, 1) := by decide +kernel
theorem dX6_push_31 : decode cX6_push 31 = .ok (.getfield 80, 3) := by decide +kernel
theorem dX6_push_34 : decode cX6_push 34 = .ok (.aload_n 0, 1) := by decide +kernel
theorem dX6_push_35 : decode cX6_push 35 = .ok (.getfield 116, 3) := by decide +kernel
theorem dX6_push_38 : decode cX6_push 38 = .ok (.iload_n 3, 1) := by decide +kernel
theorem dX6_push_39 : decode cX6_push 39 = .ok (.iastore, 1) := by decide +kernel
theorem dX6_push_40 : decode cX6_push 40 = .ok (.aload_n 0, 1) := by decide +kernel
theorem dX6_push_41 : decode cX6_push 41 = .ok (.getfield 83, 3) := by decide +kernel
theorem dX6_push_44 : decode cX6_push 44 = .ok (.aload_n 0, 1) := by decide +kernel
theorem dX6_push_45 : decode cX6_push 45 = .ok (.getfield 116, 3) := by decide +kernel
theorem dX6_push_48 : decode cX6_push 48 = .ok (.iload 4, 2) := by decide +kernel
theorem dX6_push_50 : decode cX6_push 50 = .ok (.bastore, 1) := by decide +kernel
theorem dX6_push_51 : decode cX6_push 51 = .ok (.aload_n 0, 1) := by decide +kernel
theorem dX6_push_52 : decode cX6_push 52 = .ok (.dup, 1) := by decide +kernel
theorem dX6_push_53 : decode cX6_push 53 = .ok (.getfield 116, 3) := by decide +kernel
theorem dX6_push_56 : decode cX6_push 56 = .ok (.iconst 1, 1) := by decide +kernel
theorem dX6_push_57 : decode cX6_push 57 = .ok (.iadd, 1) := by decide +kernel
theorem dX6_push_58 : decode cX6_push 58 = .ok (.putfield 116, 3) := by decide +kernel
theorem dX6_push_61 : decode cX6_push 61 = .ok (.return_, 1) := by decide +kernel
theorem dX6_gives_0 : decode cX6_gives 0 = .ok (.aload_n 0, 1) := by decide +kernel
theorem dX6_gives_1 : decode cX6_gives 1 = .ok (.iload_n 1, 1) := by decide +kernel
theorem dX6_gives_2 : decode cX6_gives 2 = .ok (.putfield 119, 3) := by decide +kernel
theorem dX6_gives_5 : decode cX6_gives 5 = .ok (.aload_n 0, 1) := by decide +kernel
theorem dX6_gives_6 : decode cX6_gives 6 = .ok (.dup, 1) := by decide +kernel
theorem dX6_gives_7 : decode cX6_gives 7 = .ok (.getfield 116, 3) := by decide +kernel
theorem dX6_gives_10 : decode cX6_gives 10 = .ok (.iconst 1, 1) := by decide +kernel
theorem dX6_gives_11 : decode cX6_gives 11 = .ok (.isub, 1) := by decide +kernel
theorem dX6_gives_12 : decode cX6_gives 12 = .ok (.putfield 116, 3) := by decide +kernel
theorem dX6_gives_15 : decode cX6_gives 15 = .ok (.return_, 1) := by decide +kernel
theorem dX6_runs_0 : decode cX6_runs 0 = .ok (.aload_n 0, 1) := by decide +kernel
theorem dX6_runs_1 : decode cX6_runs 1 = .ok (.getfield 116, 3) := by decide +kernel
theorem dX6_runs_4 : decode cX6_runs 4 = .ok (.ifCond .le 92, 3) := by decide +kernel
theorem dX6_runs_7 : decode cX6_runs 7 = .ok (.aload_n 0, 1) := by decide +kernel
theorem dX6_runs_8 : decode cX6_runs 8 = .ok (.getfield 116, 3) := by decide +kernel
theorem dX6_runs_11 : decode cX6_runs 11 = .ok (.iconst 1, 1) := by decide +kernel
theorem dX6_runs_12 : decode cX6_runs 12 = .ok (.isub, 1) := by decide +kernel
theorem dX6_runs_13 : decode cX6_runs 13 = .ok (.istore_n 1, 1) := by decide +kernel
theorem dX6_runs_14 : decode cX6_runs 14 = .ok (.aload_n 0, 1) := by decide +kernel
theorem dX6_runs_15 : decode cX6_runs 15 = .ok (.getfield 71, 3) := by decide +kernel
theorem dX6_runs_18 : decode cX6_runs 18 = .ok (.iload_n 1, 1) := by decide +kernel
theorem dX6_runs_19 : decode cX6_runs 19 = .ok (.iaload, 1) := by decide +kernel
theorem dX6_runs_20 : decode cX6_runs 20 = .ok (.lookupswitch 62 #[(0, 28), (1, 42)], 28) := by decide +kernel
theorem dX6_runs_48 : decode cX6_runs 48 = .ok (.aload_n 0, 1) := by decide +kernel
theorem dX6_runs_49 : decode cX6_runs 49 = .ok (.iload_n 1, 1) := by decide +kernel
theorem dX6_runs_50 : decode cX6_runs 50 = .ok (.aload_n 0, 1) := by decide +kernel
theorem dX6_runs_51 : decode cX6_runs 51 = .ok (.getfield 77, 3) := by decide +kernel
theorem dX6_runs_54 : decode cX6_runs 54 = .ok (.iload_n 1, 1) := by decide +kernel
theorem dX6_runs_55 : decode cX6_runs 55 = .ok (.iaload, 1) := by decide +kernel
theorem dX6_runs_56 : decode cX6_runs 56 = .ok (.invokevirtual 122, 3) := by decide +kernel
theorem dX6_runs_59 : decode cX6_runs 59 = .ok (.goto 34, 3) := by decide +kernel
theorem dX6_runs_62 : decode cX6_runs 62 = .ok (.aload_n 0, 1) := by decide +kernel
theorem dX6_runs_63 : decode cX6_runs 63 = .ok (.iload_n 1, 1) := by decide +kernel
theorem dX6_runs_64 : decode cX6_runs 64 = .ok (.aload_n 0, 1) := by decide +kernel
theorem dX6_runs_65 : decode cX6_runs 65 = .ok (.getfield 77, 3) := by decide +kernel
theorem dX6_runs_68 : decode cX6_runs 68 = .ok (.iload_n 1, 1) := by decide +kernel
theorem dX6_runs_69 : decode cX6_runs 69 = .ok (.iaload, 1) := by decide +kernel
theorem dX6_runs_70 : decode cX6_runs 70 = .ok (.aload_n 0, 1) := by decide +kernel
theorem dX6_runs_71 : decode cX6_runs 71 = .ok (.getfield 80, 3) := by decide +kernel
theorem dX6_runs_74 : decode cX6_runs 74 = .ok (.iload_n 1, 1) := by decide +kernel
theorem dX6_runs_75 : decode cX6_runs 75 = .ok (.iaload, 1) := by decide +kernel
theorem dX6_runs_76 : decode cX6_runs 76 = .ok (.invokevirtual 126, 3) := by decide +kernel
theorem dX6_runs_79 : decode cX6_runs 79 = .ok (.goto 14, 3) := by decide +kernel
theorem dX6_runs_82 : decode cX6_runs 82 = .ok (.aload_n 0, 1) := by decide +kernel
theorem dX6_runs_83 : decode cX6_runs 83 = .ok (.iload_n 1, 1) := by decide +kernel
theorem dX6_runs_84 : decode cX6_runs 84 = .ok (.aload_n 0, 1) := by decide +kernel
theorem dX6_runs_85 : decode cX6_runs 85 = .ok (.getfield 77, 3) := by decide +kernel
theorem dX6_runs_88 : decode cX6_runs 88 = .ok (.iload_n 1, 1) := by decide +kernel
theorem dX6_runs_89 : decode cX6_runs 89 = .ok (.iaload, 1) := by decide +kernel
theorem dX6_runs_90 : decode cX6_runs 90 = .ok (.invokevirtual 130, 3) := by decide +kernel
theorem dX6_runs_93 : decode cX6_runs 93 = .ok (.goto (-93), 3) := by decide +kernel
theorem dX6_runs_96 : decode cX6_runs 96 = .ok (.aload_n 0, 1) := by decide +kernel
theorem dX6_runs_97 : decode cX6_runs 97 = .ok (.getfield 119, 3) := by decide +kernel
theorem dX6_runs_100 : decode cX6_runs 100 = .ok (.ireturn, 1) := by decide +kernel
theorem dX6_asksAbove_0 : decode cX6_asksAbove 0 = .ok (.aload_n 0, 1) := by decide +kernel
theorem dX6_asksAbove_1 : decode cX6_asksAbove 1 = .ok (.getfield 74, 3) := by decide +kernel
theorem dX6_asksAbove_4 : decode cX6_asksAbove 4 = .ok (.iload_n 1, 1) := by decide +kernel
theorem dX6_asksAbove_5 : decode cX6_asksAbove 5 = .ok (.iload_n 3, 1) := by decide +kernel
theorem dX6_asksAbove_6 : decode cX6_asksAbove 6 = .ok (.iastore, 1) := by decide +kernel
theorem dX6_asksAbove_7 : decode cX6_asksAbove 7 = .ok (.aload_n 0, 1) := by decide +kernel
theorem dX6_asksAbove_8 : decode cX6_asksAbove 8 = .ok (.iconst 0, 1) := by decide +kernel
theorem dX6_asksAbove_9 : decode cX6_asksAbove 9 = .ok (.bipush 31, 2) := by decide +kernel
theorem dX6_asksAbove_11 : decode cX6_asksAbove 11 = .ok (.aload_n 0, 1) := by decide +kernel
theorem dX6_asksAbove_12 : decode cX6_asksAbove 12 = .ok (.getfield 25, 3) := by decide +kernel
theorem dX6_asksAbove_15 : decode cX6_asksAbove 15 = .ok (.iload_n 2, 1) := by decide +kernel
theorem dX6_asksAbove_16 : decode cX6_asksAbove 16 = .ok (.bipush 31, 2) := by decide +kernel
theorem dX6_asksAbove_18 : decode cX6_asksAbove 18 = .ok (.idiv, 1) := by decide +kernel
theorem dX6_asksAbove_19 : decode cX6_asksAbove 19 = .ok (.iaload, 1) := by decide +kernel
theorem dX6_asksAbove_20 : decode cX6_asksAbove 20 = .ok (.imul, 1) := by decide +kernel
theorem dX6_asksAbove_21 : decode cX6_asksAbove 21 = .ok (.iload_n 2, 1) := by decide +kernel
theorem dX6_asksAbove_22 : decode cX6_asksAbove 22 = .ok (.bipush 31, 2) := by decide +kernel
theorem dX6_asksAbove_24 : decode cX6_asksAbove 24 = .ok (.irem, 1) := by decide +kernel
theorem dX6_asksAbove_25 : decode cX6_asksAbove 25 = .ok (.iadd, 1) := by decide +kernel
theorem dX6_asksAbove_26 : decode cX6_asksAbove 26 = .ok (.iconst (-1), 1) := by decide +kernel
theorem dX6_asksAbove_27 : decode cX6_asksAbove 27 = .ok (.iconst 0, 1) := by decide +kernel
theorem dX6_asksAbove_28 : decode cX6_asksAbove 28 = .ok (.invokevirtual 133, 3) := by decide +kernel
theorem dX6_asksAbove_31 : decode cX6_asksAbove 31 = .ok (.return_, 1) := by decide +kernel
theorem dX6_asks_0 : decode cX6_asks 0 = .ok (.iload_n 2, 1) := by decide +kernel
theorem dX6_asks_1 : decode cX6_asks 1 = .ok (.bipush 31, 2) := by decide +kernel
theorem dX6_asks_3 : decode cX6_asks 3 = .ok (.idiv, 1) := by decide +kernel
theorem dX6_asks_4 : decode cX6_asks 4 = .ok (.istore_n 3, 1) := by decide +kernel
theorem dX6_asks_5 : decode cX6_asks 5 = .ok (.aload_n 0, 1) := by decide +kernel
theorem dX6_asks_6 : decode cX6_asks 6 = .ok (.getfield 25, 3) := by decide +kernel
theorem dX6_asks_9 : decode cX6_asks 9 = .ok (.iload_n 3, 1) := by decide +kernel
theorem dX6_asks_10 : decode cX6_asks 10 = .ok (.iaload, 1) := by decide +kernel
theorem dX6_asks_11 : decode cX6_asks 11 = .ok (.iconst (-1), 1) := by decide +kernel
theorem dX6_asks_12 : decode cX6_asks 12 = .ok (.if_icmp .eq 7, 3) := by decide +kernel
theorem dX6_asks_15 : decode cX6_asks 15 = .ok (.iconst 1, 1) := by decide +kernel
theorem dX6_asks_16 : decode cX6_asks 16 = .ok (.goto 4, 3) := by decide +kernel
theorem dX6_asks_19 : decode cX6_asks 19 = .ok (.iconst 0, 1) := by decide +kernel
theorem dX6_asks_20 : decode cX6_asks 20 = .ok (.istore 4, 2) := by decide +kernel
theorem dX6_asks_22 : decode cX6_asks 22 = .ok (.aload_n 0, 1) := by decide +kernel
theorem dX6_asks_23 : decode cX6_asks 23 = .ok (.getfield 74, 3) := by decide +kernel
theorem dX6_asks_26 : decode cX6_asks 26 = .ok (.iload_n 1, 1) := by decide +kernel
theorem dX6_asks_27 : decode cX6_asks 27 = .ok (.iaload, 1) := by decide +kernel
theorem dX6_asks_28 : decode cX6_asks 28 = .ok (.tableswitch 214 0 3 #[32, 112, 138, 203], 32) := by decide +kernel
theorem dX6_asks_60 : decode cX6_asks 60 = .ok (.aload_n 0, 1) := by decide +kernel
theorem dX6_asks_61 : decode cX6_asks 61 = .ok (.getfield 38, 3) := by decide +kernel
theorem dX6_asks_64 : decode cX6_asks 64 = .ok (.iload_n 2, 1) := by decide +kernel
theorem dX6_asks_65 : decode cX6_asks 65 = .ok (.iaload, 1) := by decide +kernel
theorem dX6_asks_66 : decode cX6_asks 66 = .ok (.iconst (-1), 1) := by decide +kernel
theorem dX6_asks_67 : decode cX6_asks 67 = .ok (.if_icmp .eq 16, 3) := by decide +kernel
theorem dX6_asks_70 : decode cX6_asks 70 = .ok (.aload_n 0, 1) := by decide +kernel
theorem dX6_asks_71 : decode cX6_asks 71 = .ok (.aload_n 0, 1) := by decide +kernel
theorem dX6_asks_72 : decode cX6_asks 72 = .ok (.getfield 38, 3) := by decide +kernel
theorem dX6_asks_75 : decode cX6_asks 75 = .ok (.iload_n 2, 1) := by decide +kernel
theorem dX6_asks_76 : decode cX6_asks 76 = .ok (.iaload, 1) := by decide +kernel
theorem dX6_asks_77 : decode cX6_asks 77 = .ok (.invokevirtual 137, 3) := by decide +kernel
theorem dX6_asks_80 : decode cX6_asks 80 = .ok (.goto 167, 3) := by decide +kernel
theorem dX6_asks_83 : decode cX6_asks 83 = .ok (.aload_n 0, 1) := by decide +kernel
theorem dX6_asks_84 : decode cX6_asks 84 = .ok (.getfield 41, 3) := by decide +kernel
theorem dX6_asks_87 : decode cX6_asks 87 = .ok (.iload_n 2, 1) := by decide +kernel
theorem dX6_asks_88 : decode cX6_asks 88 = .ok (.iaload, 1) := by decide +kernel
theorem dX6_asks_89 : decode cX6_asks 89 = .ok (.iconst (-1), 1) := by decide +kernel
theorem dX6_asks_90 : decode cX6_asks 90 = .ok (.if_icmp .eq 16, 3) := by decide +kernel
theorem dX6_asks_93 : decode cX6_asks 93 = .ok (.aload_n 0, 1) := by decide +kernel
theorem dX6_asks_94 : decode cX6_asks 94 = .ok (.aload_n 0, 1) := by decide +kernel
theorem dX6_asks_95 : decode cX6_asks 95 = .ok (.getfield 41, 3) := by decide +kernel
theorem dX6_asks_98 : decode cX6_asks 98 = .ok (.iload_n 2, 1) := by decide +kernel
theorem dX6_asks_99 : decode cX6_asks 99 = .ok (.iaload, 1) := by decide +kernel
theorem dX6_asks_100 : decode cX6_asks 100 = .ok (.invokevirtual 137, 3) := by decide +kernel
theorem dX6_asks_103 : decode cX6_asks 103 = .ok (.goto 144, 3) := by decide +kernel
theorem dX6_asks_106 : decode cX6_asks 106 = .ok (.iload 4, 2) := by decide +kernel
theorem dX6_asks_108 : decode cX6_asks 108 = .ok (.ifCond .eq 22, 3) := by decide +kernel
theorem dX6_asks_111 : decode cX6_asks 111 = .ok (.aload_n 0, 1) := by decide +kernel
theorem dX6_asks_112 : decode cX6_asks 112 = .ok (.getfield 28, 3) := by decide +kernel
theorem dX6_asks_115 : decode cX6_asks 115 = .ok (.iload_n 3, 1) := by decide +kernel
theorem dX6_asks_116 : decode cX6_asks 116 = .ok (.baload, 1) := by decide +kernel
theorem dX6_asks_117 : decode cX6_asks 117 = .ok (.ifCond .ne 13, 3) := by decide +kernel
theorem dX6_asks_120 : decode cX6_asks 120 = .ok (.aload_n 0, 1) := by decide +kernel
theorem dX6_asks_121 : decode cX6_asks 121 = .ok (.iload_n 1, 1) := by decide +kernel
theorem dX6_asks_122 : decode cX6_asks 122 = .ok (.iload_n 2, 1) := by decide +kernel
theorem dX6_asks_123 : decode cX6_asks 123 = .ok (.iconst 1, 1) := by decide +kernel
theorem dX6_asks_124 : decode cX6_asks 124 = .ok (.invokevirtual 141, 3) := by decide +kernel
theorem dX6_asks_127 : decode cX6_asks 127 = .ok (.goto 120, 3) := by decide +kernel
theorem dX6_asks_130 : decode cX6_asks 130 = .ok (.aload_n 0, 1) := by decide +kernel
theorem dX6_asks_131 : decode cX6_asks 131 = .ok (.getfield 74, 3) := by decide +kernel
theorem dX6_asks_134 : decode cX6_asks 134 = .ok (.iload_n 1, 1) := by decide +kernel
theorem dX6_asks_135 : decode cX6_asks 135 = .ok (.iconst 2, 1) := by decide +kernel
theorem dX6_asks_136 : decode cX6_asks 136 = .ok (.iastore, 1) := by decide +kernel
theorem dX6_asks_137 : decode cX6_asks 137 = .ok (.goto 110, 3) := by decide +kernel
theorem dX6_asks_140 : decode cX6_asks 140 = .ok (.aload_n 0, 1) := by decide +kernel
theorem dX6_asks_141 : decode cX6_asks 141 = .ok (.getfield 119, 3) := by decide +kernel
theorem dX6_asks_144 : decode cX6_asks 144 = .ok (.iconst (-1), 1) := by decide +kernel
theorem dX6_asks_145 : decode cX6_asks 145 = .ok (.if_icmp .ne 13, 3) := by decide +kernel
theorem dX6_asks_148 : decode cX6_asks 148 = .ok (.aload_n 0, 1) := by decide +kernel
theorem dX6_asks_149 : decode cX6_asks 149 = .ok (.getfield 74, 3) := by decide +kernel
theorem dX6_asks_152 : decode cX6_asks 152 = .ok (.iload_n 1, 1) := by decide +kernel
theorem dX6_asks_153 : decode cX6_asks 153 = .ok (.iconst 2, 1) := by decide +kernel
theorem dX6_asks_154 : decode cX6_asks 154 = .ok (.iastore, 1) := by decide +kernel
theorem dX6_asks_155 : decode cX6_asks 155 = .ok (.goto 92, 3) := by decide +kernel
theorem dX6_asks_158 : decode cX6_asks 158 = .ok (.aload_n 0, 1) := by decide +kernel
theorem dX6_asks_159 : decode cX6_asks 159 = .ok (.iload_n 2, 1) := by decide +kernel
theorem dX6_asks_160 : decode cX6_asks 160 = .ok (.invokevirtual 144, 3) := by decide +kernel
theorem dX6_asks_163 : decode cX6_asks 163 = .ok (.goto 84, 3) := by decide +kernel
theorem dX6_asks_166 : decode cX6_asks 166 = .ok (.aload_n 0, 1) := by decide +kernel
theorem dX6_asks_167 : decode cX6_asks 167 = .ok (.getfield 35, 3) := by decide +kernel
theorem dX6_asks_170 : decode cX6_asks 170 = .ok (.iload_n 2, 1) := by decide +kernel
theorem dX6_asks_171 : decode cX6_asks 171 = .ok (.iaload, 1) := by decide +kernel
theorem dX6_asks_172 : decode cX6_asks 172 = .ok (.iconst (-1), 1) := by decide +kernel
theorem dX6_asks_173 : decode cX6_asks 173 = .ok (.if_icmp .eq 26, 3) := by decide +kernel
theorem dX6_asks_176 : decode cX6_asks 176 = .ok (.aload_n 0, 1) := by decide +kernel
theorem dX6_asks_177 : decode cX6_asks 177 = .ok (.getfield 74, 3) := by decide +kernel
theorem dX6_asks_180 : decode cX6_asks 180 = .ok (.iload_n 1, 1) := by decide +kernel
theorem dX6_asks_181 : decode cX6_asks 181 = .ok (.iconst 3, 1) := by decide +kernel
theorem dX6_asks_182 : decode cX6_asks 182 = .ok (.iastore, 1) := by decide +kernel
theorem dX6_asks_183 : decode cX6_asks 183 = .ok (.aload_n 0, 1) := by decide +kernel
theorem dX6_asks_184 : decode cX6_asks 184 = .ok (.iconst 1, 1) := by decide +kernel
theorem dX6_asks_185 : decode cX6_asks 185 = .ok (.iload_n 2, 1) := by decide +kernel
theorem dX6_asks_186 : decode cX6_asks 186 = .ok (.aload_n 0, 1) := by decide +kernel
theorem dX6_asks_187 : decode cX6_asks 187 = .ok (.getfield 35, 3) := by decide +kernel
theorem dX6_asks_190 : decode cX6_asks 190 = .ok (.iload_n 2, 1) := by decide +kernel
theorem dX6_asks_191 : decode cX6_asks 191 = .ok (.iaload, 1) := by decide +kernel
theorem dX6_asks_192 : decode cX6_asks 192 = .ok (.iconst 0, 1) := by decide +kernel
theorem dX6_asks_193 : decode cX6_asks 193 = .ok (.invokevirtual 133, 3) := by decide +kernel
theorem dX6_asks_196 : decode cX6_asks 196 = .ok (.goto 51, 3) := by decide +kernel
theorem dX6_asks_199 : decode cX6_asks 199 = .ok (.iload 4, 2) := by decide +kernel
theorem dX6_asks_201 : decode cX6_asks 201 = .ok (.ifCond .eq 22, 3) := by decide +kernel
theorem dX6_asks_204 : decode cX6_asks 204 = .ok (.aload_n 0, 1) := by decide +kernel
theorem dX6_asks_205 : decode cX6_asks 205 = .ok (.getfield 28, 3) := by decide +kernel
theorem dX6_asks_208 : decode cX6_asks 208 = .ok (.iload_n 3, 1) := by decide +kernel
theorem dX6_asks_209 : decode cX6_asks 209 = .ok (.baload, 1) := by decide +kernel
theorem dX6_asks_210 : decode cX6_asks 210 = .ok (.ifCond .eq 13, 3) := by decide +kernel
theorem dX6_asks_213 : decode cX6_asks 213 = .ok (.aload_n 0, 1) := by decide +kernel
theorem dX6_asks_214 : decode cX6_asks 214 = .ok (.iload_n 1, 1) := by decide +kernel
theorem dX6_asks_215 : decode cX6_asks 215 = .ok (.iload_n 2, 1) := by decide +kernel
theorem dX6_asks_216 : decode cX6_asks 216 = .ok (.iconst 4, 1) := by decide +kernel
theorem dX6_asks_217 : decode cX6_asks 217 = .ok (.invokevirtual 141, 3) := by decide +kernel
theorem dX6_asks_220 : decode cX6_asks 220 = .ok (.goto 27, 3) := by decide +kernel
theorem dX6_asks_223 : decode cX6_asks 223 = .ok (.aload_n 0, 1) := by decide +kernel
theorem dX6_asks_224 : decode cX6_asks 224 = .ok (.iconst (-1), 1) := by decide +kernel
theorem dX6_asks_225 : decode cX6_asks 225 = .ok (.invokevirtual 137, 3) := by decide +kernel
theorem dX6_asks_228 : decode cX6_asks 228 = .ok (.goto 19, 3) := by decide +kernel
theorem dX6_asks_231 : decode cX6_asks 231 = .ok (.aload_n 0, 1) := by decide +kernel
theorem dX6_asks_232 : decode cX6_asks 232 = .ok (.aload_n 0, 1) := by decide +kernel
theorem dX6_asks_233 : decode cX6_asks 233 = .ok (.getfield 119, 3) := by decide +kernel
theorem dX6_asks_236 : decode cX6_asks 236 = .ok (.invokevirtual 137, 3) := by decide +kernel
theorem dX6_asks_239 : decode cX6_asks 239 = .ok (.goto 8, 3) := by decide +kernel
theorem dX6_asks_242 : decode cX6_asks 242 = .ok (.aload_n 0, 1) := by decide +kernel
theorem dX6_asks_243 : decode cX6_asks 243 = .ok (.iload_n 2, 1) := by decide +kernel
theorem dX6_asks_244 : decode cX6_asks 244 = .ok (.invokevirtual 144, 3) := by decide +kernel
theorem dX6_asks_247 : decode cX6_asks 247 = .ok (.return_, 1) := by decide +kernel
theorem dX6_keeps_0 : decode cX6_keeps 0 = .ok (.aload_n 0, 1) := by decide +kernel
theorem dX6_keeps_1 : decode cX6_keeps 1 = .ok (.getfield 41, 3) := by decide +kernel
theorem dX6_keeps_4 : decode cX6_keeps 4 = .ok (.iload_n 1, 1) := by decide +kernel
theorem dX6_keeps_5 : decode cX6_keeps 5 = .ok (.aload_n 0, 1) := by decide +kernel
theorem dX6_keeps_6 : decode cX6_keeps 6 = .ok (.getfield 119, 3) := by decide +kernel
theorem dX6_keeps_9 : decode cX6_keeps 9 = .ok (.ifCond .lt 10, 3) := by decide +kernel
theorem dX6_keeps_12 : decode cX6_keeps 12 = .ok (.aload_n 0, 1) := by decide +kernel
theorem dX6_keeps_13 : decode cX6_keeps 13 = .ok (.getfield 119, 3) := by decide +kernel
theorem dX6_keeps_16 : decode cX6_keeps 16 = .ok (.goto 9, 3) := by decide +kernel
theorem dX6_keeps_19 : decode cX6_keeps 19 = .ok (.aload_n 0, 1) := by decide +kernel
theorem dX6_keeps_20 : decode cX6_keeps 20 = .ok (.getfield 41, 3) := by decide +kernel
theorem dX6_keeps_23 : decode cX6_keeps 23 = .ok (.iload_n 1, 1) := by decide +kernel
theorem dX6_keeps_24 : decode cX6_keeps 24 = .ok (.iaload, 1) := by decide +kernel
theorem dX6_keeps_25 : decode cX6_keeps 25 = .ok (.iastore, 1) := by decide +kernel
theorem dX6_keeps_26 : decode cX6_keeps 26 = .ok (.aload_n 0, 1) := by decide +kernel
theorem dX6_keeps_27 : decode cX6_keeps 27 = .ok (.aload_n 0, 1) := by decide +kernel
theorem dX6_keeps_28 : decode cX6_keeps 28 = .ok (.getfield 119, 3) := by decide +kernel
theorem dX6_keeps_31 : decode cX6_keeps 31 = .ok (.invokevirtual 137, 3) := by decide +kernel
theorem dX6_keeps_34 : decode cX6_keeps 34 = .ok (.return_, 1) := by decide +kernel
theorem dX6_against_0 : decode cX6_against 0 = .ok (.iload_n 2, 1) := by decide +kernel
theorem dX6_against_1 : decode cX6_against 1 = .ok (.bipush 31, 2) := by decide +kernel
theorem dX6_against_3 : decode cX6_against 3 = .ok (.irem, 1) := by decide +kernel
theorem dX6_against_4 : decode cX6_against 4 = .ok (.istore 4, 2) := by decide +kernel
theorem dX6_against_6 : decode cX6_against 6 = .ok (.aload_n 0, 1) := by decide +kernel
theorem dX6_against_7 : decode cX6_against 7 = .ok (.getfield 83, 3) := by decide +kernel
theorem dX6_against_10 : decode cX6_against 10 = .ok (.iload_n 1, 1) := by decide +kernel
theorem dX6_against_11 : decode cX6_against 11 = .ok (.baload, 1) := by decide +kernel
theorem dX6_against_12 : decode cX6_against 12 = .ok (.ifCond .ne 15, 3) := by decide +kernel
theorem dX6_against_15 : decode cX6_against 15 = .ok (.aload_n 0, 1) := by decide +kernel
theorem dX6_against_16 : decode cX6_against 16 = .ok (.getfield 38, 3) := by decide +kernel
theorem dX6_against_19 : decode cX6_against 19 = .ok (.iload_n 2, 1) := by decide +kernel
theorem dX6_against_20 : decode cX6_against 20 = .ok (.iaload, 1) := by decide +kernel
theorem dX6_against_21 : decode cX6_against 21 = .ok (.iconst (-1), 1) := by decide +kernel
theorem dX6_against_22 : decode cX6_against 22 = .ok (.if_icmp .eq 5, 3) := by decide +kernel
theorem dX6_against_25 : decode cX6_against 25 = .ok (.iconst 2, 1) := by decide +kernel
theorem dX6_against_26 : decode cX6_against 26 = .ok (.ireturn, 1) := by decide +kernel
theorem dX6_against_27 : decode cX6_against 27 = .ok (.aload_n 0, 1) := by decide +kernel
theorem dX6_against_28 : decode cX6_against 28 = .ok (.getfield 7, 3) := by decide +kernel
theorem dX6_against_31 : decode cX6_against 31 = .ok (.iload_n 3, 1) := by decide +kernel
theorem dX6_against_32 : decode cX6_against 32 = .ok (.iaload, 1) := by decide +kernel
theorem dX6_against_33 : decode cX6_against 33 = .ok (.iload 4, 2) := by decide +kernel
theorem dX6_against_35 : decode cX6_against 35 = .ok (.if_icmp .eq 5, 3) := by decide +kernel
theorem dX6_against_38 : decode cX6_against 38 = .ok (.iconst 3, 1) := by decide +kernel
theorem dX6_against_39 : decode cX6_against 39 = .ok (.ireturn, 1) := by decide +kernel
theorem dX6_against_40 : decode cX6_against 40 = .ok (.iload 4, 2) := by decide +kernel
theorem dX6_against_42 : decode cX6_against 42 = .ok (.iconst 4, 1) := by decide +kernel
theorem dX6_against_43 : decode cX6_against 43 = .ok (.if_icmp .ge 18, 3) := by decide +kernel
theorem dX6_against_46 : decode cX6_against 46 = .ok (.aload_n 0, 1) := by decide +kernel
theorem dX6_against_47 : decode cX6_against 47 = .ok (.getfield 25, 3) := by decide +kernel
theorem dX6_against_50 : decode cX6_against 50 = .ok (.iload_n 2, 1) := by decide +kernel
theorem dX6_against_51 : decode cX6_against 51 = .ok (.bipush 31, 2) := by decide +kernel
theorem dX6_against_53 : decode cX6_against 53 = .ok (.idiv, 1) := by decide +kernel
theorem dX6_against_54 : decode cX6_against 54 = .ok (.iaload, 1) := by decide +kernel
theorem dX6_against_55 : decode cX6_against 55 = .ok (.iconst (-1), 1) := by decide +kernel
theorem dX6_against_56 : decode cX6_against 56 = .ok (.if_icmp .eq 5, 3) := by decide +kernel
theorem dX6_against_59 : decode cX6_against 59 = .ok (.iconst 4, 1) := by decide +kernel
theorem dX6_against_60 : decode cX6_against 60 = .ok (.ireturn, 1) := by decide +kernel
theorem dX6_against_61 : decode cX6_against 61 = .ok (.aload_n 0, 1) := by decide +kernel
theorem dX6_against_62 : decode cX6_against 62 = .ok (.getfield 22, 3) := by decide +kernel
theorem dX6_against_65 : decode cX6_against 65 = .ok (.iload_n 3, 1) := by decide +kernel
theorem dX6_against_66 : decode cX6_against 66 = .ok (.iaload, 1) := by decide +kernel
theorem dX6_against_67 : decode cX6_against 67 = .ok (.iconst 1, 1) := by decide +kernel
theorem dX6_against_68 : decode cX6_against 68 = .ok (.iand, 1) := by decide +kernel
theorem dX6_against_69 : decode cX6_against 69 = .ok (.iconst 1, 1) := by decide +kernel
theorem dX6_against_70 : decode cX6_against 70 = .ok (.if_icmp .ne 6, 3) := by decide +kernel
theorem dX6_against_73 : decode cX6_against 73 = .ok (.bipush 6, 2) := by decide +kernel
theorem dX6_against_75 : decode cX6_against 75 = .ok (.ireturn, 1) := by decide +kernel
theorem dX6_against_76 : decode cX6_against 76 = .ok (.aload_n 0, 1) := by decide +kernel
theorem dX6_against_77 : decode cX6_against 77 = .ok (.getfield 16, 3) := by decide +kernel
theorem dX6_against_80 : decode cX6_against 80 = .ok (.iload_n 3, 1) := by decide +kernel
theorem dX6_against_81 : decode cX6_against 81 = .ok (.iaload, 1) := by decide +kernel
theorem dX6_against_82 : decode cX6_against 82 = .ok (.istore 5, 2) := by decide +kernel
theorem dX6_against_84 : decode cX6_against 84 = .ok (.iload 5, 2) := by decide +kernel
theorem dX6_against_86 : decode cX6_against 86 = .ok (.iconst (-1), 1) := by decide +kernel
theorem dX6_against_87 : decode cX6_against 87 = .ok (.if_icmp .eq 29, 3) := by decide +kernel
theorem dX6_against_90 : decode cX6_against 90 = .ok (.iload 5, 2) := by decide +kernel
theorem dX6_against_92 : decode cX6_against 92 = .ok (.iload 4, 2) := by decide +kernel
theorem dX6_against_94 : decode cX6_against 94 = .ok (.if_icmp .eq 18, 3) := by decide +kernel
theorem dX6_against_97 : decode cX6_against 97 = .ok (.aload_n 0, 1) := by decide +kernel
theorem dX6_against_98 : decode cX6_against 98 = .ok (.getfield 44, 3) := by decide +kernel
theorem dX6_against_101 : decode cX6_against 101 = .ok (.iload_n 2, 1) := by decide +kernel
theorem dX6_against_102 : decode cX6_against 102 = .ok (.iload 4, 2) := by decide +kernel
theorem dX6_against_104 : decode cX6_against 104 = .ok (.isub, 1) := by decide +kernel
theorem dX6_against_105 : decode cX6_against 105 = .ok (.iload 5, 2) := by decide +kernel
theorem dX6_against_107 : decode cX6_against 107 = .ok (.iadd, 1) := by decide +kernel
theorem dX6_against_108 : decode cX6_against 108 = .ok (.baload, 1) := by decide +kernel
theorem dX6_against_109 : decode cX6_against 109 = .ok (.ifCond .eq 7, 3) := by decide +kernel
theorem dX6_against_112 : decode cX6_against 112 = .ok (.iconst 5, 1) := by decide +kernel
theorem dX6_against_113 : decode cX6_against 113 = .ok (.goto 4, 3) := by decide +kernel
theorem dX6_against_116 : decode cX6_against 116 = .ok (.iconst 0, 1) := by decide +kernel
theorem dX6_against_117 : decode cX6_against 117 = .ok (.ireturn, 1) := by decide +kernel
theorem dX6_makes_0 : decode cX6_makes 0 = .ok (.aload_n 0, 1) := by decide +kernel
theorem dX6_makes_1 : decode cX6_makes 1 = .ok (.getfield 74, 3) := by decide +kernel
theorem dX6_makes_4 : decode cX6_makes 4 = .ok (.iload_n 1, 1) := by decide +kernel
theorem dX6_makes_5 : decode cX6_makes 5 = .ok (.iaload, 1) := by decide +kernel
theorem dX6_makes_6 : decode cX6_makes 6 = .ok (.ifCond .ne 82, 3) := by decide +kernel
theorem dX6_makes_9 : decode cX6_makes 9 = .ok (.aload_n 0, 1) := by decide +kernel
theorem dX6_makes_10 : decode cX6_makes 10 = .ok (.iload_n 1, 1) := by decide +kernel
theorem dX6_makes_11 : decode cX6_makes 11 = .ok (.iload_n 2, 1) := by decide +kernel
theorem dX6_makes_12 : decode cX6_makes 12 = .ok (.iload_n 3, 1) := by decide +kernel
theorem dX6_makes_13 : decode cX6_makes 13 = .ok (.invokevirtual 147, 3) := by decide +kernel
theorem dX6_makes_16 : decode cX6_makes 16 = .ok (.istore 4, 2) := by decide +kernel
theorem dX6_makes_18 : decode cX6_makes 18 = .ok (.iload 4, 2) := by decide +kernel
theorem dX6_makes_20 : decode cX6_makes 20 = .ok (.ifCond .le 13, 3) := by decide +kernel
theorem dX6_makes_23 : decode cX6_makes 23 = .ok (.aload_n 0, 1) := by decide +kernel
theorem dX6_makes_24 : decode cX6_makes 24 = .ok (.iload 4, 2) := by decide +kernel
theorem dX6_makes_26 : decode cX6_makes 26 = .ok (.ineg, 1) := by decide +kernel
theorem dX6_makes_27 : decode cX6_makes 27 = .ok (.invokevirtual 137, 3) := by decide +kernel
theorem dX6_makes_30 : decode cX6_makes 30 = .ok (.goto 57, 3) := by decide +kernel
theorem dX6_makes_33 : decode cX6_makes 33 = .ok (.aload_n 0, 1) := by decide +kernel
theorem dX6_makes_34 : decode cX6_makes 34 = .ok (.getfield 16, 3) := by decide +kernel
theorem dX6_makes_37 : decode cX6_makes 37 = .ok (.iload_n 3, 1) := by decide +kernel
theorem dX6_makes_38 : decode cX6_makes 38 = .ok (.iaload, 1) := by decide +kernel
theorem dX6_makes_39 : decode cX6_makes 39 = .ok (.iconst (-1), 1) := by decide +kernel
theorem dX6_makes_40 : decode cX6_makes 40 = .ok (.if_icmp .ne 13, 3) := by decide +kernel
theorem dX6_makes_43 : decode cX6_makes 43 = .ok (.aload_n 0, 1) := by decide +kernel
theorem dX6_makes_44 : decode cX6_makes 44 = .ok (.iload_n 2, 1) := by decide +kernel
theorem dX6_makes_45 : decode cX6_makes 45 = .ok (.iload_n 3, 1) := by decide +kernel
theorem dX6_makes_46 : decode cX6_makes 46 = .ok (.iconst (-1), 1) := by decide +kernel
theorem dX6_makes_47 : decode cX6_makes 47 = .ok (.invokevirtual 151, 3) := by decide +kernel
theorem dX6_makes_50 : decode cX6_makes 50 = .ok (.goto 37, 3) := by decide +kernel
theorem dX6_makes_53 : decode cX6_makes 53 = .ok (.aload_n 0, 1) := by decide +kernel
theorem dX6_makes_54 : decode cX6_makes 54 = .ok (.getfield 44, 3) := by decide +kernel
theorem dX6_makes_57 : decode cX6_makes 57 = .ok (.iload_n 2, 1) := by decide +kernel
theorem dX6_makes_58 : decode cX6_makes 58 = .ok (.iconst 1, 1) := by decide +kernel
theorem dX6_makes_59 : decode cX6_makes 59 = .ok (.bastore, 1) := by decide +kernel
theorem dX6_makes_60 : decode cX6_makes 60 = .ok (.aload_n 0, 1) := by decide +kernel
theorem dX6_makes_61 : decode cX6_makes 61 = .ok (.getfield 74, 3) := by decide +kernel
theorem dX6_makes_64 : decode cX6_makes 64 = .ok (.iload_n 1, 1) := by decide +kernel
theorem dX6_makes_65 : decode cX6_makes 65 = .ok (.iconst 1, 1) := by decide +kernel
theorem dX6_makes_66 : decode cX6_makes 66 = .ok (.iastore, 1) := by decide +kernel
theorem dX6_makes_67 : decode cX6_makes 67 = .ok (.aload_n 0, 1) := by decide +kernel
theorem dX6_makes_68 : decode cX6_makes 68 = .ok (.iconst 0, 1) := by decide +kernel
theorem dX6_makes_69 : decode cX6_makes 69 = .ok (.iload_n 2, 1) := by decide +kernel
theorem dX6_makes_70 : decode cX6_makes 70 = .ok (.iload_n 2, 1) := by decide +kernel
theorem dX6_makes_71 : decode cX6_makes 71 = .ok (.bipush 31, 2) := by decide +kernel
theorem dX6_makes_73 : decode cX6_makes 73 = .ok (.irem, 1) := by decide +kernel
theorem dX6_makes_74 : decode cX6_makes 74 = .ok (.isub, 1) := by decide +kernel
theorem dX6_makes_75 : decode cX6_makes 75 = .ok (.aload_n 0, 1) := by decide +kernel
theorem dX6_makes_76 : decode cX6_makes 76 = .ok (.getfield 16, 3) := by decide +kernel
theorem dX6_makes_79 : decode cX6_makes 79 = .ok (.iload_n 3, 1) := by decide +kernel
theorem dX6_makes_80 : decode cX6_makes 80 = .ok (.iaload, 1) := by decide +kernel
theorem dX6_makes_81 : decode cX6_makes 81 = .ok (.iadd, 1) := by decide +kernel
theorem dX6_makes_82 : decode cX6_makes 82 = .ok (.iconst (-1), 1) := by decide +kernel
theorem dX6_makes_83 : decode cX6_makes 83 = .ok (.iconst 0, 1) := by decide +kernel
theorem dX6_makes_84 : decode cX6_makes 84 = .ok (.invokevirtual 133, 3) := by decide +kernel
theorem dX6_makes_87 : decode cX6_makes 87 = .ok (.return_, 1) := by decide +kernel
theorem dX6_makes_88 : decode cX6_makes 88 = .ok (.aload_n 0, 1) := by decide +kernel
theorem dX6_makes_89 : decode cX6_makes 89 = .ok (.getfield 44, 3) := by decide +kernel
theorem dX6_makes_92 : decode cX6_makes 92 = .ok (.iload_n 2, 1) := by decide +kernel
theorem dX6_makes_93 : decode cX6_makes 93 = .ok (.iconst 0, 1) := by decide +kernel
theorem dX6_makes_94 : decode cX6_makes 94 = .ok (.bastore, 1) := by decide +kernel
theorem dX6_makes_95 : decode cX6_makes 95 = .ok (.aload_n 0, 1) := by decide +kernel
theorem dX6_makes_96 : decode cX6_makes 96 = .ok (.getfield 119, 3) := by decide +kernel
theorem dX6_makes_99 : decode cX6_makes 99 = .ok (.ifCond .ge 14, 3) := by decide +kernel
theorem dX6_makes_102 : decode cX6_makes 102 = .ok (.aload_n 0, 1) := by decide +kernel
theorem dX6_makes_103 : decode cX6_makes 103 = .ok (.aload_n 0, 1) := by decide +kernel
theorem dX6_makes_104 : decode cX6_makes 104 = .ok (.getfield 119, 3) := by decide +kernel
theorem dX6_makes_107 : decode cX6_makes 107 = .ok (.invokevirtual 137, 3) := by decide +kernel
theorem dX6_makes_110 : decode cX6_makes 110 = .ok (.goto 13, 3) := by decide +kernel
theorem dX6_makes_113 : decode cX6_makes 113 = .ok (.aload_n 0, 1) := by decide +kernel
theorem dX6_makes_114 : decode cX6_makes 114 = .ok (.iload_n 2, 1) := by decide +kernel
theorem dX6_makes_115 : decode cX6_makes 115 = .ok (.iload_n 3, 1) := by decide +kernel
theorem dX6_makes_116 : decode cX6_makes 116 = .ok (.aload_n 0, 1) := by decide +kernel
theorem dX6_makes_117 : decode cX6_makes 117 = .ok (.getfield 119, 3) := by decide +kernel
theorem dX6_makes_120 : decode cX6_makes 120 = .ok (.invokevirtual 151, 3) := by decide +kernel
theorem dX6_makes_123 : decode cX6_makes 123 = .ok (.return_, 1) := by decide +kernel
theorem dX6_stands_0 : decode cX6_stands 0 = .ok (.aload_n 0, 1) := by decide +kernel
theorem dX6_stands_1 : decode cX6_stands 1 = .ok (.getfield 47, 3) := by decide +kernel
theorem dX6_stands_4 : decode cX6_stands 4 = .ok (.aload_n 0, 1) := by decide +kernel
theorem dX6_stands_5 : decode cX6_stands 5 = .ok (.getfield 100, 3) := by decide +kernel
theorem dX6_stands_8 : decode cX6_stands 8 = .ok (.iload_n 1, 1) := by decide +kernel
theorem dX6_stands_9 : decode cX6_stands 9 = .ok (.bipush 31, 2) := by decide +kernel
theorem dX6_stands_11 : decode cX6_stands 11 = .ok (.idiv, 1) := by decide +kernel
theorem dX6_stands_12 : decode cX6_stands 12 = .ok (.iastore, 1) := by decide +kernel
theorem dX6_stands_13 : decode cX6_stands 13 = .ok (.aload_n 0, 1) := by decide +kernel
theorem dX6_stands_14 : decode cX6_stands 14 = .ok (.getfield 50, 3) := by decide +kernel
theorem dX6_stands_17 : decode cX6_stands 17 = .ok (.aload_n 0, 1) := by decide +kernel
theorem dX6_stands_18 : decode cX6_stands 18 = .ok (.getfield 100, 3) := by decide +kernel
theorem dX6_stands_21 : decode cX6_stands 21 = .ok (.iload_n 1, 1) := by decide +kernel
theorem dX6_stands_22 : decode cX6_stands 22 = .ok (.bipush 31, 2) := by decide +kernel
theorem dX6_stands_24 : decode cX6_stands 24 = .ok (.irem, 1) := by decide +kernel
theorem dX6_stands_25 : decode cX6_stands 25 = .ok (.iastore, 1) := by decide +kernel
theorem dX6_stands_26 : decode cX6_stands 26 = .ok (.aload_n 0, 1) := by decide +kernel
theorem dX6_stands_27 : decode cX6_stands 27 = .ok (.getfield 53, 3) := by decide +kernel
theorem dX6_stands_30 : decode cX6_stands 30 = .ok (.aload_n 0, 1) := by decide +kernel
theorem dX6_stands_31 : decode cX6_stands 31 = .ok (.getfield 100, 3) := by decide +kernel
theorem dX6_stands_34 : decode cX6_stands 34 = .ok (.iload_n 3, 1) := by decide +kernel
theorem dX6_stands_35 : decode cX6_stands 35 = .ok (.iastore, 1) := by decide +kernel
theorem dX6_stands_36 : decode cX6_stands 36 = .ok (.aload_n 0, 1) := by decide +kernel
theorem dX6_stands_37 : decode cX6_stands 37 = .ok (.getfield 56, 3) := by decide +kernel
theorem dX6_stands_40 : decode cX6_stands 40 = .ok (.aload_n 0, 1) := by decide +kernel
theorem dX6_stands_41 : decode cX6_stands 41 = .ok (.getfield 100, 3) := by decide +kernel
theorem dX6_stands_44 : decode cX6_stands 44 = .ok (.iload_n 2, 1) := by decide +kernel
theorem dX6_stands_45 : decode cX6_stands 45 = .ok (.iastore, 1) := by decide +kernel
theorem dX6_stands_46 : decode cX6_stands 46 = .ok (.aload_n 0, 1) := by decide +kernel
theorem dX6_stands_47 : decode cX6_stands 47 = .ok (.getfield 59, 3) := by decide +kernel
theorem dX6_stands_50 : decode cX6_stands 50 = .ok (.aload_n 0, 1) := by decide +kernel
theorem dX6_stands_51 : decode cX6_stands 51 = .ok (.getfield 100, 3) := by decide +kernel
theorem dX6_stands_54 : decode cX6_stands 54 = .ok (.iconst 0, 1) := by decide +kernel
theorem dX6_stands_55 : decode cX6_stands 55 = .ok (.iastore, 1) := by decide +kernel
theorem dX6_stands_56 : decode cX6_stands 56 = .ok (.aload_n 0, 1) := by decide +kernel
theorem dX6_stands_57 : decode cX6_stands 57 = .ok (.getfield 38, 3) := by decide +kernel
theorem dX6_stands_60 : decode cX6_stands 60 = .ok (.iload_n 1, 1) := by decide +kernel
theorem dX6_stands_61 : decode cX6_stands 61 = .ok (.aload_n 0, 1) := by decide +kernel
theorem dX6_stands_62 : decode cX6_stands 62 = .ok (.getfield 100, 3) := by decide +kernel
theorem dX6_stands_65 : decode cX6_stands 65 = .ok (.iastore, 1) := by decide +kernel
theorem dX6_stands_66 : decode cX6_stands 66 = .ok (.aload_n 0, 1) := by decide +kernel
theorem dX6_stands_67 : decode cX6_stands 67 = .ok (.dup, 1) := by decide +kernel
theorem dX6_stands_68 : decode cX6_stands 68 = .ok (.getfield 100, 3) := by decide +kernel
theorem dX6_stands_71 : decode cX6_stands 71 = .ok (.iconst 1, 1) := by decide +kernel
theorem dX6_stands_72 : decode cX6_stands 72 = .ok (.iadd, 1) := by decide +kernel
theorem dX6_stands_73 : decode cX6_stands 73 = .ok (.putfield 100, 3) := by decide +kernel
theorem dX6_stands_76 : decode cX6_stands 76 = .ok (.aload_n 0, 1) := by decide +kernel
theorem dX6_stands_77 : decode cX6_stands 77 = .ok (.aload_n 0, 1) := by decide +kernel
theorem dX6_stands_78 : decode cX6_stands 78 = .ok (.getfield 100, 3) := by decide +kernel
theorem dX6_stands_81 : decode cX6_stands 81 = .ok (.iconst 1, 1) := by decide +kernel
theorem dX6_stands_82 : decode cX6_stands 82 = .ok (.isub, 1) := by decide +kernel
theorem dX6_stands_83 : decode cX6_stands 83 = .ok (.invokevirtual 137, 3) := by decide +kernel
theorem dX6_stands_86 : decode cX6_stands 86 = .ok (.return_, 1) := by decide +kernel
theorem dX6_begins_0 : decode cX6_begins 0 = .ok (.aload_n 0, 1) := by decide +kernel
theorem dX6_begins_1 : decode cX6_begins 1 = .ok (.getfield 74, 3) := by decide +kernel
theorem dX6_begins_4 : decode cX6_begins 4 = .ok (.iload_n 1, 1) := by decide +kernel
theorem dX6_begins_5 : decode cX6_begins 5 = .ok (.iaload, 1) := by decide +kernel
theorem dX6_begins_6 : decode cX6_begins 6 = .ok (.ifCond .ne 76, 3) := by decide +kernel
theorem dX6_begins_9 : decode cX6_begins 9 = .ok (.aload_n 0, 1) := by decide +kernel
theorem dX6_begins_10 : decode cX6_begins 10 = .ok (.getfield 59, 3) := by decide +kernel
theorem dX6_begins_13 : decode cX6_begins 13 = .ok (.iload_n 2, 1) := by decide +kernel
theorem dX6_begins_14 : decode cX6_begins 14 = .ok (.iaload, 1) := by decide +kernel
theorem dX6_begins_15 : decode cX6_begins 15 = .ok (.ifCond .le 24, 3) := by decide +kernel
theorem dX6_begins_18 : decode cX6_begins 18 = .ok (.aload_n 0, 1) := by decide +kernel
theorem dX6_begins_19 : decode cX6_begins 19 = .ok (.aload_n 0, 1) := by decide +kernel
theorem dX6_begins_20 : decode cX6_begins 20 = .ok (.getfield 59, 3) := by decide +kernel
theorem dX6_begins_23 : decode cX6_begins 23 = .ok (.iload_n 2, 1) := by decide +kernel
theorem dX6_begins_24 : decode cX6_begins 24 = .ok (.iaload, 1) := by decide +kernel
theorem dX6_begins_25 : decode cX6_begins 25 = .ok (.iconst 2, 1) := by decide +kernel
theorem dX6_begins_26 : decode cX6_begins 26 = .ok (.if_icmp .ne 8, 3) := by decide +kernel
theorem dX6_begins_29 : decode cX6_begins 29 = .ok (.bipush (-8), 2) := by decide +kernel
theorem dX6_begins_31 : decode cX6_begins 31 = .ok (.goto 4, 3) := by decide +kernel
theorem dX6_begins_34 : decode cX6_begins 34 = .ok (.iconst 0, 1) := by decide +kernel
theorem dX6_begins_35 : decode cX6_begins 35 = .ok (.invokevirtual 137, 3) := by decide +kernel
theorem dX6_begins_38 : decode cX6_begins 38 = .ok (.return_, 1) := by decide +kernel
theorem dX6_begins_39 : decode cX6_begins 39 = .ok (.aload_n 0, 1) := by decide +kernel
theorem dX6_begins_40 : decode cX6_begins 40 = .ok (.getfield 59, 3) := by decide +kernel
theorem dX6_begins_43 : decode cX6_begins 43 = .ok (.iload_n 2, 1) := by decide +kernel
theorem dX6_begins_44 : decode cX6_begins 44 = .ok (.iconst 3, 1) := by decide +kernel
theorem dX6_begins_45 : decode cX6_begins 45 = .ok (.iastore, 1) := by decide +kernel
theorem dX6_begins_46 : decode cX6_begins 46 = .ok (.aload_n 0, 1) := by decide +kernel
theorem dX6_begins_47 : decode cX6_begins 47 = .ok (.getfield 74, 3) := by decide +kernel
theorem dX6_begins_50 : decode cX6_begins 50 = .ok (.iload_n 1, 1) := by decide +kernel
theorem dX6_begins_51 : decode cX6_begins 51 = .ok (.iconst 1, 1) := by decide +kernel
theorem dX6_begins_52 : decode cX6_begins 52 = .ok (.iastore, 1) := by decide +kernel
theorem dX6_begins_53 : decode cX6_begins 53 = .ok (.aload_n 0, 1) := by decide +kernel
theorem dX6_begins_54 : decode cX6_begins 54 = .ok (.iconst 0, 1) := by decide +kernel
theorem dX6_begins_55 : decode cX6_begins 55 = .ok (.putfield 119, 3) := by decide +kernel
theorem dX6_begins_58 : decode cX6_begins 58 = .ok (.aload_n 0, 1) := by decide +kernel
theorem dX6_begins_59 : decode cX6_begins 59 = .ok (.getfield 53, 3) := by decide +kernel
theorem dX6_begins_62 : decode cX6_begins 62 = .ok (.iload_n 2, 1) := by decide +kernel
theorem dX6_begins_63 : decode cX6_begins 63 = .ok (.iaload, 1) := by decide +kernel
theorem dX6_begins_64 : decode cX6_begins 64 = .ok (.iconst (-1), 1) := by decide +kernel
theorem dX6_begins_65 : decode cX6_begins 65 = .ok (.if_icmp .eq 16, 3) := by decide +kernel
theorem dX6_begins_68 : decode cX6_begins 68 = .ok (.aload_n 0, 1) := by decide +kernel
theorem dX6_begins_69 : decode cX6_begins 69 = .ok (.iconst 2, 1) := by decide +kernel
theorem dX6_begins_70 : decode cX6_begins 70 = .ok (.aload_n 0, 1) := by decide +kernel
theorem dX6_begins_71 : decode cX6_begins 71 = .ok (.getfield 53, 3) := by decide +kernel
theorem dX6_begins_74 : decode cX6_begins 74 = .ok (.iload_n 2, 1) := by decide +kernel
theorem dX6_begins_75 : decode cX6_begins 75 = .ok (.iaload, 1) := by decide +kernel
theorem dX6_begins_76 : decode cX6_begins 76 = .ok (.iconst (-1), 1) := by decide +kernel
theorem dX6_begins_77 : decode cX6_begins 77 = .ok (.iconst 0, 1) := by decide +kernel
theorem dX6_begins_78 : decode cX6_begins 78 = .ok (.invokevirtual 133, 3) := by decide +kernel
theorem dX6_begins_81 : decode cX6_begins 81 = .ok (.return_, 1) := by decide +kernel
theorem dX6_begins_82 : decode cX6_begins 82 = .ok (.aload_n 0, 1) := by decide +kernel
theorem dX6_begins_83 : decode cX6_begins 83 = .ok (.getfield 119, 3) := by decide +kernel
theorem dX6_begins_86 : decode cX6_begins 86 = .ok (.ifCond .ge 19, 3) := by decide +kernel
theorem dX6_begins_89 : decode cX6_begins 89 = .ok (.aload_n 0, 1) := by decide +kernel
theorem dX6_begins_90 : decode cX6_begins 90 = .ok (.getfield 59, 3) := by decide +kernel
theorem dX6_begins_93 : decode cX6_begins 93 = .ok (.iload_n 2, 1) := by decide +kernel
theorem dX6_begins_94 : decode cX6_begins 94 = .ok (.iconst 2, 1) := by decide +kernel
theorem dX6_begins_95 : decode cX6_begins 95 = .ok (.iastore, 1) := by decide +kernel
theorem dX6_begins_96 : decode cX6_begins 96 = .ok (.aload_n 0, 1) := by decide +kernel
theorem dX6_begins_97 : decode cX6_begins 97 = .ok (.aload_n 0, 1) := by decide +kernel
theorem dX6_begins_98 : decode cX6_begins 98 = .ok (.getfield 119, 3) := by decide +kernel
theorem dX6_begins_101 : decode cX6_begins 101 = .ok (.invokevirtual 137, 3) := by decide +kernel
theorem dX6_begins_104 : decode cX6_begins 104 = .ok (.return_, 1) := by decide +kernel
theorem dX6_begins_105 : decode cX6_begins 105 = .ok (.aload_n 0, 1) := by decide +kernel
theorem dX6_begins_106 : decode cX6_begins 106 = .ok (.getfield 19, 3) := by decide +kernel
theorem dX6_begins_109 : decode cX6_begins 109 = .ok (.aload_n 0, 1) := by decide +kernel
theorem dX6_begins_110 : decode cX6_begins 110 = .ok (.getfield 56, 3) := by decide +kernel
theorem dX6_begins_113 : decode cX6_begins 113 = .ok (.iload_n 2, 1) := by decide +kernel
theorem dX6_begins_114 : decode cX6_begins 114 = .ok (.iaload, 1) := by decide +kernel
theorem dX6_begins_115 : decode cX6_begins 115 = .ok (.iaload, 1) := by decide +kernel
theorem dX6_begins_116 : decode cX6_begins 116 = .ok (.istore_n 3, 1) := by decide +kernel
theorem dX6_begins_117 : decode cX6_begins 117 = .ok (.aload_n 0, 1) := by decide +kernel
theorem dX6_begins_118 : decode cX6_begins 118 = .ok (.getfield 74, 3) := by decide +kernel
theorem dX6_begins_121 : decode cX6_begins 121 = .ok (.iload_n 1, 1) := by decide +kernel
theorem dX6_begins_122 : decode cX6_begins 122 = .ok (.iaload, 1) := by decide +kernel
theorem dX6_begins_123 : decode cX6_begins 123 = .ok (.iconst 1, 1) := by decide +kernel
theorem dX6_begins_124 : decode cX6_begins 124 = .ok (.if_icmp .ne 36, 3) := by decide +kernel
theorem dX6_begins_127 : decode cX6_begins 127 = .ok (.iload_n 3, 1) := by decide +kernel
theorem dX6_begins_128 : decode cX6_begins 128 = .ok (.iconst (-1), 1) := by decide +kernel
theorem dX6_begins_129 : decode cX6_begins 129 = .ok (.if_icmp .eq 31, 3) := by decide +kernel
theorem dX6_begins_132 : decode cX6_begins 132 = .ok (.aload_n 0, 1) := by decide +kernel
theorem dX6_begins_133 : decode cX6_begins 133 = .ok (.getfield 74, 3) := by decide +kernel
theorem dX6_begins_136 : decode cX6_begins 136 = .ok (.iload_n 1, 1) := by decide +kernel
theorem dX6_begins_137 : decode cX6_begins 137 = .ok (.iconst 2, 1) := by decide +kernel
theorem dX6_begins_138 : decode cX6_begins 138 = .ok (.iastore, 1) := by decide +kernel
theorem dX6_begins_139 : decode cX6_begins 139 = .ok (.aload_n 0, 1) := by decide +kernel
theorem dX6_begins_140 : decode cX6_begins 140 = .ok (.iconst 0, 1) := by decide +kernel
theorem dX6_begins_141 : decode cX6_begins 141 = .ok (.bipush 31, 2) := by decide +kernel
theorem dX6_begins_143 : decode cX6_begins 143 = .ok (.aload_n 0, 1) := by decide +kernel
theorem dX6_begins_144 : decode cX6_begins 144 = .ok (.getfield 47, 3) := by decide +kernel
theorem dX6_begins_147 : decode cX6_begins 147 = .ok (.iload_n 2, 1) := by decide +kernel
theorem dX6_begins_148 : decode cX6_begins 148 = .ok (.iaload, 1) := by decide +kernel
theorem dX6_begins_149 : decode cX6_begins 149 = .ok (.imul, 1) := by decide +kernel
theorem dX6_begins_150 : decode cX6_begins 150 = .ok (.iload_n 3, 1) := by decide +kernel
theorem dX6_begins_151 : decode cX6_begins 151 = .ok (.iadd, 1) := by decide +kernel
theorem dX6_begins_152 : decode cX6_begins 152 = .ok (.iconst (-1), 1) := by decide +kernel
theorem dX6_begins_153 : decode cX6_begins 153 = .ok (.iconst 0, 1) := by decide +kernel
theorem dX6_begins_154 : decode cX6_begins 154 = .ok (.invokevirtual 133, 3) := by decide +kernel
theorem dX6_begins_157 : decode cX6_begins 157 = .ok (.goto 109, 3) := by decide +kernel
theorem dX6_begins_160 : decode cX6_begins 160 = .ok (.aload_n 0, 1) := by decide +kernel
theorem dX6_begins_161 : decode cX6_begins 161 = .ok (.getfield 74, 3) := by decide +kernel
theorem dX6_begins_164 : decode cX6_begins 164 = .ok (.iload_n 1, 1) := by decide +kernel
theorem dX6_begins_165 : decode cX6_begins 165 = .ok (.iaload, 1) := by decide +kernel
theorem dX6_begins_166 : decode cX6_begins 166 = .ok (.iconst 2, 1) := by decide +kernel
theorem dX6_begins_167 : decode cX6_begins 167 = .ok (.if_icmp .ne 24, 3) := by decide +kernel
theorem dX6_begins_170 : decode cX6_begins 170 = .ok (.aload_n 0, 1) := by decide +kernel
theorem dX6_begins_171 : decode cX6_begins 171 = .ok (.getfield 74, 3) := by decide +kernel
theorem dX6_begins_174 : decode cX6_begins 174 = .ok (.iload_n 1, 1) := by decide +kernel
theorem dX6_begins_175 : decode cX6_begins 175 = .ok (.iconst 3, 1) := by decide +kernel
theorem dX6_begins_176 : decode cX6_begins 176 = .ok (.iastore, 1) := by decide +kernel
theorem dX6_begins_177 : decode cX6_begins 177 = .ok (.aload_n 0, 1) := by decide +kernel
theorem dX6_begins_178 : decode cX6_begins 178 = .ok (.iconst 2, 1) := by decide +kernel
theorem dX6_begins_179 : decode cX6_begins 179 = .ok (.aload_n 0, 1) := by decide +kernel
theorem dX6_begins_180 : decode cX6_begins 180 = .ok (.getfield 119, 3) := by decide +kernel
theorem dX6_begins_183 : decode cX6_begins 183 = .ok (.iconst (-1), 1) := by decide +kernel
theorem dX6_begins_184 : decode cX6_begins 184 = .ok (.iconst 0, 1) := by decide +kernel
theorem dX6_begins_185 : decode cX6_begins 185 = .ok (.invokevirtual 133, 3) := by decide +kernel
theorem dX6_begins_188 : decode cX6_begins 188 = .ok (.goto 78, 3) := by decide +kernel
theorem dX6_begins_191 : decode cX6_begins 191 = .ok (.aload_n 0, 1) := by decide +kernel
theorem dX6_begins_192 : decode cX6_begins 192 = .ok (.getfield 22, 3) := by decide +kernel
theorem dX6_begins_195 : decode cX6_begins 195 = .ok (.aload_n 0, 1) := by decide +kernel
theorem dX6_begins_196 : decode cX6_begins 196 = .ok (.getfield 56, 3) := by decide +kernel
theorem dX6_begins_199 : decode cX6_begins 199 = .ok (.iload_n 2, 1) := by decide +kernel
theorem dX6_begins_200 : decode cX6_begins 200 = .ok (.iaload, 1) := by decide +kernel
theorem dX6_begins_201 : decode cX6_begins 201 = .ok (.iaload, 1) := by decide +kernel
theorem dX6_begins_202 : decode cX6_begins 202 = .ok (.iconst 2, 1) := by decide +kernel
theorem dX6_begins_203 : decode cX6_begins 203 = .ok (.iand, 1) := by decide +kernel
theorem dX6_begins_204 : decode cX6_begins 204 = .ok (.iconst 2, 1) := by decide +kernel
theorem dX6_begins_205 : decode cX6_begins 205 = .ok (.if_icmp .ne 19, 3) := by decide +kernel
theorem dX6_begins_208 : decode cX6_begins 208 = .ok (.aload_n 0, 1) := by decide +kernel
theorem dX6_begins_209 : decode cX6_begins 209 = .ok (.getfield 59, 3) := by decide +kernel
theorem dX6_begins_212 : decode cX6_begins 212 = .ok (.iload_n 2, 1) := by decide +kernel
theorem dX6_begins_213 : decode cX6_begins 213 = .ok (.iconst 2, 1) := by decide +kernel
theorem dX6_begins_214 : decode cX6_begins 214 = .ok (.iastore, 1) := by decide +kernel
theorem dX6_begins_215 : decode cX6_begins 215 = .ok (.aload_n 0, 1) := by decide +kernel
theorem dX6_begins_216 : decode cX6_begins 216 = .ok (.bipush (-7), 2) := by decide +kernel
theorem dX6_begins_218 : decode cX6_begins 218 = .ok (.invokevirtual 137, 3) := by decide +kernel
theorem dX6_begins_221 : decode cX6_begins 221 = .ok (.goto 45, 3) := by decide +kernel
theorem dX6_begins_224 : decode cX6_begins 224 = .ok (.aload_n 0, 1) := by decide +kernel
theorem dX6_begins_225 : decode cX6_begins 225 = .ok (.getfield 59, 3) := by decide +kernel
theorem dX6_begins_228 : decode cX6_begins 228 = .ok (.iload_n 2, 1) := by decide +kernel
theorem dX6_begins_229 : decode cX6_begins 229 = .ok (.iconst 1, 1) := by decide +kernel
theorem dX6_begins_230 : decode cX6_begins 230 = .ok (.iastore, 1) := by decide +kernel
theorem dX6_begins_231 : decode cX6_begins 231 = .ok (.aload_n 0, 1) := by decide +kernel
theorem dX6_begins_232 : decode cX6_begins 232 = .ok (.getfield 68, 3) := by decide +kernel
theorem dX6_begins_235 : decode cX6_begins 235 = .ok (.aload_n 0, 1) := by decide +kernel
theorem dX6_begins_236 : decode cX6_begins 236 = .ok (.getfield 154, 3) := by decide +kernel
theorem dX6_begins_239 : decode cX6_begins 239 = .ok (.aload_n 0, 1) := by decide +kernel
theorem dX6_begins_240 : decode cX6_begins 240 = .ok (.getfield 13, 3) := by decide +kernel
theorem dX6_begins_243 : decode cX6_begins 243 = .ok (.aload_n 0, 1) := by decide +kernel
theorem dX6_begins_244 : decode cX6_begins 244 = .ok (.getfield 56, 3) := by decide +kernel
theorem dX6_begins_247 : decode cX6_begins 247 = .ok (.iload_n 2, 1) := by decide +kernel
theorem dX6_begins_248 : decode cX6_begins 248 = .ok (.iaload, 1) := by decide +kernel
theorem dX6_begins_249 : decode cX6_begins 249 = .ok (.iaload, 1) := by decide +kernel
theorem dX6_begins_250 : decode cX6_begins 250 = .ok (.iastore, 1) := by decide +kernel
theorem dX6_begins_251 : decode cX6_begins 251 = .ok (.aload_n 0, 1) := by decide +kernel
theorem dX6_begins_252 : decode cX6_begins 252 = .ok (.dup, 1) := by decide +kernel
theorem dX6_begins_253 : decode cX6_begins 253 = .ok (.getfield 154, 3) := by decide +kernel
theorem dX6_begins_256 : decode cX6_begins 256 = .ok (.iconst 1, 1) := by decide +kernel
theorem dX6_begins_257 : decode cX6_begins 257 = .ok (.iadd, 1) := by decide +kernel
theorem dX6_begins_258 : decode cX6_begins 258 = .ok (.putfield 154, 3) := by decide +kernel
theorem dX6_begins_261 : decode cX6_begins 261 = .ok (.aload_n 0, 1) := by decide +kernel
theorem dX6_begins_262 : decode cX6_begins 262 = .ok (.iconst 0, 1) := by decide +kernel
theorem dX6_begins_263 : decode cX6_begins 263 = .ok (.invokevirtual 137, 3) := by decide +kernel
theorem dX6_begins_266 : decode cX6_begins 266 = .ok (.return_, 1) := by decide +kernel
theorem dX6_does_0 : decode cX6_does 0 = .ok (.aload_n 0, 1) := by decide +kernel
theorem dX6_does_1 : decode cX6_does 1 = .ok (.iconst 0, 1) := by decide +kernel
theorem dX6_does_2 : decode cX6_does 2 = .ok (.putfield 116, 3) := by decide +kernel
theorem dX6_does_5 : decode cX6_does 5 = .ok (.aload_n 0, 1) := by decide +kernel
theorem dX6_does_6 : decode cX6_does 6 = .ok (.iload_n 1, 1) := by decide +kernel
theorem dX6_does_7 : decode cX6_does 7 = .ok (.iload_n 2, 1) := by decide +kernel
theorem dX6_does_8 : decode cX6_does 8 = .ok (.iload_n 3, 1) := by decide +kernel
theorem dX6_does_9 : decode cX6_does 9 = .ok (.iload 4, 2) := by decide +kernel
theorem dX6_does_11 : decode cX6_does 11 = .ok (.invokevirtual 133, 3) := by decide +kernel
theorem dX6_does_14 : decode cX6_does 14 = .ok (.aload_n 0, 1) := by decide +kernel
theorem dX6_does_15 : decode cX6_does 15 = .ok (.invokevirtual 157, 3) := by decide +kernel
theorem dX6_does_18 : decode cX6_does 18 = .ok (.istore 5, 2) := by decide +kernel
theorem dX6_does_20 : decode cX6_does 20 = .ok (.iload 5, 2) := by decide +kernel
theorem dX6_does_22 : decode cX6_does 22 = .ok (.ifCond .ge 11, 3) := by decide +kernel
theorem dX6_does_25 : decode cX6_does 25 = .ok (.bipush (-10), 2) := by decide +kernel
theorem dX6_does_27 : decode cX6_does 27 = .ok (.iload 5, 2) := by decide +kernel
theorem dX6_does_29 : decode cX6_does 29 = .ok (.iadd, 1) := by decide +kernel
theorem dX6_does_30 : decode cX6_does 30 = .ok (.goto 5, 3) := by decide +kernel
theorem dX6_does_33 : decode cX6_does 33 = .ok (.iload 5, 2) := by decide +kernel
theorem dX6_does_35 : decode cX6_does 35 = .ok (.ireturn, 1) := by decide +kernel
theorem dX6_load_0 : decode cX6_load 0 = .ok (.aload_n 0, 1) := by decide +kernel
theorem dX6_load_1 : decode cX6_load 1 = .ok (.iload_n 1, 1) := by decide +kernel
theorem dX6_load_2 : decode cX6_load 2 = .ok (.invokevirtual 110, 3) := by decide +kernel
theorem dX6_load_5 : decode cX6_load 5 = .ok (.ifCond .eq 10, 3) := by decide +kernel
theorem dX6_load_8 : decode cX6_load 8 = .ok (.iload_n 2, 1) := by decide +kernel
theorem dX6_load_9 : decode cX6_load 9 = .ok (.invokestatic 106, 3) := by decide +kernel
theorem dX6_load_12 : decode cX6_load 12 = .ok (.ifCond .ne 6, 3) := by decide +kernel
theorem dX6_load_15 : decode cX6_load 15 = .ok (.bipush (-2), 2) := by decide +kernel
theorem dX6_load_17 : decode cX6_load 17 = .ok (.ireturn, 1) := by decide +kernel
theorem dX6_load_18 : decode cX6_load 18 = .ok (.aload_n 0, 1) := by decide +kernel
theorem dX6_load_19 : decode cX6_load 19 = .ok (.getfield 32, 3) := by decide +kernel
theorem dX6_load_22 : decode cX6_load 22 = .ok (.iload_n 1, 1) := by decide +kernel
theorem dX6_load_23 : decode cX6_load 23 = .ok (.baload, 1) := by decide +kernel
theorem dX6_load_24 : decode cX6_load 24 = .ok (.ifCond .eq 8, 3) := by decide +kernel
theorem dX6_load_27 : decode cX6_load 27 = .ok (.bipush (-3), 2) := by decide +kernel
theorem dX6_load_29 : decode cX6_load 29 = .ok (.goto 16, 3) := by decide +kernel
theorem dX6_load_32 : decode cX6_load 32 = .ok (.aload_n 0, 1) := by decide +kernel
theorem dX6_load_33 : decode cX6_load 33 = .ok (.iconst 0, 1) := by decide +kernel
theorem dX6_load_34 : decode cX6_load 34 = .ok (.bipush 31, 2) := by decide +kernel
theorem dX6_load_36 : decode cX6_load 36 = .ok (.iload_n 1, 1) := by decide +kernel
theorem dX6_load_37 : decode cX6_load 37 = .ok (.imul, 1) := by decide +kernel
theorem dX6_load_38 : decode cX6_load 38 = .ok (.iload_n 2, 1) := by decide +kernel
theorem dX6_load_39 : decode cX6_load 39 = .ok (.iadd, 1) := by decide +kernel
theorem dX6_load_40 : decode cX6_load 40 = .ok (.iconst (-1), 1) := by decide +kernel
theorem dX6_load_41 : decode cX6_load 41 = .ok (.iconst 0, 1) := by decide +kernel
theorem dX6_load_42 : decode cX6_load 42 = .ok (.invokevirtual 161, 3) := by decide +kernel
theorem dX6_load_45 : decode cX6_load 45 = .ok (.ireturn, 1) := by decide +kernel
theorem dX6_define_0 : decode cX6_define 0 = .ok (.aload_n 0, 1) := by decide +kernel
theorem dX6_define_1 : decode cX6_define 1 = .ok (.iload_n 1, 1) := by decide +kernel
theorem dX6_define_2 : decode cX6_define 2 = .ok (.invokevirtual 110, 3) := by decide +kernel
theorem dX6_define_5 : decode cX6_define 5 = .ok (.ifCond .eq 18, 3) := by decide +kernel
theorem dX6_define_8 : decode cX6_define 8 = .ok (.iload_n 2, 1) := by decide +kernel
theorem dX6_define_9 : decode cX6_define 9 = .ok (.invokestatic 106, 3) := by decide +kernel
theorem dX6_define_12 : decode cX6_define 12 = .ok (.ifCond .eq 11, 3) := by decide +kernel
theorem dX6_define_15 : decode cX6_define 15 = .ok (.aload_n 0, 1) := by decide +kernel
theorem dX6_define_16 : decode cX6_define 16 = .ok (.iload_n 3, 1) := by decide +kernel
theorem dX6_define_17 : decode cX6_define 17 = .ok (.invokevirtual 113, 3) := by decide +kernel
theorem dX6_define_20 : decode cX6_define 20 = .ok (.ifCond .ne 6, 3) := by decide +kernel
theorem dX6_define_23 : decode cX6_define 23 = .ok (.bipush (-2), 2) := by decide +kernel
theorem dX6_define_25 : decode cX6_define 25 = .ok (.ireturn, 1) := by decide +kernel
theorem dX6_define_26 : decode cX6_define 26 = .ok (.aload_n 0, 1) := by decide +kernel
theorem dX6_define_27 : decode cX6_define 27 = .ok (.getfield 32, 3) := by decide +kernel
theorem dX6_define_30 : decode cX6_define 30 = .ok (.iload_n 1, 1) := by decide +kernel
theorem dX6_define_31 : decode cX6_define 31 = .ok (.baload, 1) := by decide +kernel
theorem dX6_define_32 : decode cX6_define 32 = .ok (.ifCond .eq 8, 3) := by decide +kernel
theorem dX6_define_35 : decode cX6_define 35 = .ok (.bipush (-3), 2) := by decide +kernel
theorem dX6_define_37 : decode cX6_define 37 = .ok (.goto 16, 3) := by decide +kernel
theorem dX6_define_40 : decode cX6_define 40 = .ok (.aload_n 0, 1) := by decide +kernel
theorem dX6_define_41 : decode cX6_define 41 = .ok (.iconst 1, 1) := by decide +kernel
theorem dX6_define_42 : decode cX6_define 42 = .ok (.bipush 31, 2) := by decide +kernel
theorem dX6_define_44 : decode cX6_define 44 = .ok (.iload_n 1, 1) := by decide +kernel
theorem dX6_define_45 : decode cX6_define 45 = .ok (.imul, 1) := by decide +kernel
theorem dX6_define_46 : decode cX6_define 46 = .ok (.iload_n 2, 1) := by decide +kernel
theorem dX6_define_47 : decode cX6_define 47 = .ok (.iadd, 1) := by decide +kernel
theorem dX6_define_48 : decode cX6_define 48 = .ok (.iload_n 3, 1) := by decide +kernel
theorem dX6_define_49 : decode cX6_define 49 = .ok (.iconst 0, 1) := by decide +kernel
theorem dX6_define_50 : decode cX6_define 50 = .ok (.invokevirtual 161, 3) := by decide +kernel
theorem dX6_define_53 : decode cX6_define 53 = .ok (.ireturn, 1) := by decide +kernel
theorem dX6_anew_0 : decode cX6_anew 0 = .ok (.aload_n 0, 1) := by decide +kernel
theorem dX6_anew_1 : decode cX6_anew 1 = .ok (.iload_n 1, 1) := by decide +kernel
theorem dX6_anew_2 : decode cX6_anew 2 = .ok (.invokevirtual 110, 3) := by decide +kernel
theorem dX6_anew_5 : decode cX6_anew 5 = .ok (.ifCond .eq 18, 3) := by decide +kernel
theorem dX6_anew_8 : decode cX6_anew 8 = .ok (.iload_n 2, 1) := by decide +kernel
theorem dX6_anew_9 : decode cX6_anew 9 = .ok (.invokestatic 106, 3) := by decide +kernel
theorem dX6_anew_12 : decode cX6_anew 12 = .ok (.ifCond .eq 11, 3) := by decide +kernel
theorem dX6_anew_15 : decode cX6_anew 15 = .ok (.aload_n 0, 1) := by decide +kernel
theorem dX6_anew_16 : decode cX6_anew 16 = .ok (.iload_n 3, 1) := by decide +kernel
theorem dX6_anew_17 : decode cX6_anew 17 = .ok (.invokevirtual 113, 3) := by decide +kernel
theorem dX6_anew_20 : decode cX6_anew 20 = .ok (.ifCond .ne 6, 3) := by decide +kernel
theorem dX6_anew_23 : decode cX6_anew 23 = .ok (.bipush (-2), 2) := by decide +kernel
theorem dX6_anew_25 : decode cX6_anew 25 = .ok (.ireturn, 1) := by decide +kernel
theorem dX6_anew_26 : decode cX6_anew 26 = .ok (.bipush 31, 2) := by decide +kernel
theorem dX6_anew_28 : decode cX6_anew 28 = .ok (.iload_n 1, 1) := by decide +kernel
theorem dX6_anew_29 : decode cX6_anew 29 = .ok (.imul, 1) := by decide +kernel
theorem dX6_anew_30 : decode cX6_anew 30 = .ok (.iload_n 2, 1) := by decide +kernel
theorem dX6_anew_31 : decode cX6_anew 31 = .ok (.iadd, 1) := by decide +kernel
theorem dX6_anew_32 : decode cX6_anew 32 = .ok (.istore 4, 2) := by decide +kernel
theorem dX6_anew_34 : decode cX6_anew 34 = .ok (.aload_n 0, 1) := by decide +kernel
theorem dX6_anew_35 : decode cX6_anew 35 = .ok (.getfield 32, 3) := by decide +kernel
theorem dX6_anew_38 : decode cX6_anew 38 = .ok (.iload_n 1, 1) := by decide +kernel
theorem dX6_anew_39 : decode cX6_anew 39 = .ok (.baload, 1) := by decide +kernel
theorem dX6_anew_40 : decode cX6_anew 40 = .ok (.ifCond .ne 14, 3) := by decide +kernel
theorem dX6_anew_43 : decode cX6_anew 43 = .ok (.aload_n 0, 1) := by decide +kernel
theorem dX6_anew_44 : decode cX6_anew 44 = .ok (.getfield 38, 3) := by decide +kernel
theorem dX6_anew_47 : decode cX6_anew 47 = .ok (.iload 4, 2) := by decide +kernel
theorem dX6_anew_49 : decode cX6_anew 49 = .ok (.iaload, 1) := by decide +kernel
theorem dX6_anew_50 : decode cX6_anew 50 = .ok (.iconst (-1), 1) := by decide +kernel
theorem dX6_anew_51 : decode cX6_anew 51 = .ok (.if_icmp .ne 8, 3) := by decide +kernel
theorem dX6_anew_54 : decode cX6_anew 54 = .ok (.bipush (-3), 2) := by decide +kernel
theorem dX6_anew_56 : decode cX6_anew 56 = .ok (.goto 12, 3) := by decide +kernel
theorem dX6_anew_59 : decode cX6_anew 59 = .ok (.aload_n 0, 1) := by decide +kernel
theorem dX6_anew_60 : decode cX6_anew 60 = .ok (.iconst 1, 1) := by decide +kernel
theorem dX6_anew_61 : decode cX6_anew 61 = .ok (.iload 4, 2) := by decide +kernel
theorem dX6_anew_63 : decode cX6_anew 63 = .ok (.iload_n 3, 1) := by decide +kernel
theorem dX6_anew_64 : decode cX6_anew 64 = .ok (.iconst 1, 1) := by decide +kernel
theorem dX6_anew_65 : decode cX6_anew 65 = .ok (.invokevirtual 161, 3) := by decide +kernel
theorem dX6_anew_68 : decode cX6_anew 68 = .ok (.ireturn, 1) := by decide +kernel
theorem dX6_known_0 : decode cX6_known 0 = .ok (.aload_n 0, 1) := by decide +kernel
theorem dX6_known_1 : decode cX6_known 1 = .ok (.iload_n 1, 1) := by decide +kernel
theorem dX6_known_2 : decode cX6_known 2 = .ok (.invokevirtual 110, 3) := by decide +kernel
theorem dX6_known_5 : decode cX6_known 5 = .ok (.ifCond .eq 10, 3) := by decide +kernel
theorem dX6_known_8 : decode cX6_known 8 = .ok (.iload_n 2, 1) := by decide +kernel
theorem dX6_known_9 : decode cX6_known 9 = .ok (.invokestatic 106, 3) := by decide +kernel
theorem dX6_known_12 : decode cX6_known 12 = .ok (.ifCond .ne 6, 3) := by decide +kernel
theorem dX6_known_15 : decode cX6_known 15 = .ok (.bipush (-2), 2) := by decide +kernel
theorem dX6_known_17 : decode cX6_known 17 = .ok (.ireturn, 1) := by decide +kernel
theorem dX6_known_18 : decode cX6_known 18 = .ok (.bipush 31, 2) := by decide +kernel
theorem dX6_known_20 : decode cX6_known 20 = .ok (.iload_n 1, 1) := by decide +kernel
theorem dX6_known_21 : decode cX6_known 21 = .ok (.imul, 1) := by decide +kernel
theorem dX6_known_22 : decode cX6_known 22 = .ok (.iload_n 2, 1) := by decide +kernel
theorem dX6_known_23 : decode cX6_known 23 = .ok (.iadd, 1) := by decide +kernel
theorem dX6_known_24 : decode cX6_known 24 = .ok (.istore_n 3, 1) := by decide +kernel
theorem dX6_known_25 : decode cX6_known 25 = .ok (.aload_n 0, 1) := by decide +kernel
theorem dX6_known_26 : decode cX6_known 26 = .ok (.getfield 38, 3) := by decide +kernel
theorem dX6_known_29 : decode cX6_known 29 = .ok (.iload_n 3, 1) := by decide +kernel
theorem dX6_known_30 : decode cX6_known 30 = .ok (.iaload, 1) := by decide +kernel
theorem dX6_known_31 : decode cX6_known 31 = .ok (.iconst (-1), 1) := by decide +kernel
theorem dX6_known_32 : decode cX6_known 32 = .ok (.if_icmp .eq 12, 3) := by decide +kernel
theorem dX6_known_35 : decode cX6_known 35 = .ok (.aload_n 0, 1) := by decide +kernel
theorem dX6_known_36 : decode cX6_known 36 = .ok (.getfield 38, 3) := by decide +kernel
theorem dX6_known_39 : decode cX6_known 39 = .ok (.iload_n 3, 1) := by decide +kernel
theorem dX6_known_40 : decode cX6_known 40 = .ok (.iaload, 1) := by decide +kernel
theorem dX6_known_41 : decode cX6_known 41 = .ok (.goto 9, 3) := by decide +kernel
theorem dX6_known_44 : decode cX6_known 44 = .ok (.aload_n 0, 1) := by decide +kernel
theorem dX6_known_45 : decode cX6_known 45 = .ok (.getfield 41, 3) := by decide +kernel
theorem dX6_known_48 : decode cX6_known 48 = .ok (.iload_n 3, 1) := by decide +kernel
theorem dX6_known_49 : decode cX6_known 49 = .ok (.iaload, 1) := by decide +kernel
theorem dX6_known_50 : decode cX6_known 50 = .ok (.ireturn, 1) := by decide +kernel
theorem dX6_begin_0 : decode cX6_begin 0 = .ok (.aload_n 0, 1) := by decide +kernel
theorem dX6_begin_1 : decode cX6_begin 1 = .ok (.iload_n 1, 1) := by decide +kernel
theorem dX6_begin_2 : decode cX6_begin 2 = .ok (.invokevirtual 165, 3) := by decide +kernel
theorem dX6_begin_5 : decode cX6_begin 5 = .ok (.ifCond .ne 6, 3) := by decide +kernel
theorem dX6_begin_8 : decode cX6_begin 8 = .ok (.bipush (-2), 2) := by decide +kernel
theorem dX6_begin_10 : decode cX6_begin 10 = .ok (.ireturn, 1) := by decide +kernel
theorem dX6_begin_11 : decode cX6_begin 11 = .ok (.aload_n 0, 1) := by decide +kernel
theorem dX6_begin_12 : decode cX6_begin 12 = .ok (.getfield 32, 3) := by decide +kernel
theorem dX6_begin_15 : decode cX6_begin 15 = .ok (.aload_n 0, 1) := by decide +kernel
theorem dX6_begin_16 : decode cX6_begin 16 = .ok (.getfield 47, 3) := by decide +kernel
theorem dX6_begin_19 : decode cX6_begin 19 = .ok (.iload_n 1, 1) := by decide +kernel
theorem dX6_begin_20 : decode cX6_begin 20 = .ok (.iaload, 1) := by decide +kernel
theorem dX6_begin_21 : decode cX6_begin 21 = .ok (.baload, 1) := by decide +kernel
theorem dX6_begin_22 : decode cX6_begin 22 = .ok (.ifCond .eq 6, 3) := by decide +kernel
theorem dX6_begin_25 : decode cX6_begin 25 = .ok (.bipush (-3), 2) := by decide +kernel
theorem dX6_begin_27 : decode cX6_begin 27 = .ok (.ireturn, 1) := by decide +kernel
theorem dX6_begin_28 : decode cX6_begin 28 = .ok (.aload_n 0, 1) := by decide +kernel
theorem dX6_begin_29 : decode cX6_begin 29 = .ok (.iconst 2, 1) := by decide +kernel
theorem dX6_begin_30 : decode cX6_begin 30 = .ok (.iload_n 1, 1) := by decide +kernel
theorem dX6_begin_31 : decode cX6_begin 31 = .ok (.iconst (-1), 1) := by decide +kernel
theorem dX6_begin_32 : decode cX6_begin 32 = .ok (.iconst 0, 1) := by decide +kernel
theorem dX6_begin_33 : decode cX6_begin 33 = .ok (.invokevirtual 161, 3) := by decide +kernel
theorem dX6_begin_36 : decode cX6_begin 36 = .ok (.istore_n 2, 1) := by decide +kernel
theorem dX6_begin_37 : decode cX6_begin 37 = .ok (.iload_n 2, 1) := by decide +kernel
theorem dX6_begin_38 : decode cX6_begin 38 = .ok (.ifCond .ge 7, 3) := by decide +kernel
theorem dX6_begin_41 : decode cX6_begin 41 = .ok (.iload_n 2, 1) := by decide +kernel
theorem dX6_begin_42 : decode cX6_begin 42 = .ok (.goto 4, 3) := by decide +kernel
theorem dX6_begin_45 : decode cX6_begin 45 = .ok (.iconst 1, 1) := by decide +kernel
theorem dX6_begin_46 : decode cX6_begin 46 = .ok (.ireturn, 1) := by decide +kernel
theorem dX6_thing_0 : decode cX6_thing 0 = .ok (.aload_n 0, 1) := by decide +kernel
theorem dX6_thing_1 : decode cX6_thing 1 = .ok (.iload_n 1, 1) := by decide +kernel
theorem dX6_thing_2 : decode cX6_thing 2 = .ok (.invokevirtual 165, 3) := by decide +kernel
theorem dX6_thing_5 : decode cX6_thing 5 = .ok (.ifCond .ne 6, 3) := by decide +kernel
theorem dX6_thing_8 : decode cX6_thing 8 = .ok (.bipush (-2), 2) := by decide +kernel
theorem dX6_thing_10 : decode cX6_thing 10 = .ok (.ireturn, 1) := by decide +kernel
theorem dX6_thing_11 : decode cX6_thing 11 = .ok (.aload_n 0, 1) := by decide +kernel
theorem dX6_thing_12 : decode cX6_thing 12 = .ok (.getfield 32, 3) := by decide +kernel
theorem dX6_thing_15 : decode cX6_thing 15 = .ok (.aload_n 0, 1) := by decide +kernel
theorem dX6_thing_16 : decode cX6_thing 16 = .ok (.getfield 47, 3) := by decide +kernel
theorem dX6_thing_19 : decode cX6_thing 19 = .ok (.iload_n 1, 1) := by decide +kernel
theorem dX6_thing_20 : decode cX6_thing 20 = .ok (.iaload, 1) := by decide +kernel
theorem dX6_thing_21 : decode cX6_thing 21 = .ok (.baload, 1) := by decide +kernel
theorem dX6_thing_22 : decode cX6_thing 22 = .ok (.ifCond .eq 6, 3) := by decide +kernel
theorem dX6_thing_25 : decode cX6_thing 25 = .ok (.bipush (-3), 2) := by decide +kernel
theorem dX6_thing_27 : decode cX6_thing 27 = .ok (.ireturn, 1) := by decide +kernel
theorem dX6_thing_28 : decode cX6_thing 28 = .ok (.aload_n 0, 1) := by decide +kernel
theorem dX6_thing_29 : decode cX6_thing 29 = .ok (.getfield 103, 3) := by decide +kernel
theorem dX6_thing_32 : decode cX6_thing 32 = .ok (.bipush 60, 2) := by decide +kernel
theorem dX6_thing_34 : decode cX6_thing 34 = .ok (.if_icmp .ne 6, 3) := by decide +kernel
theorem dX6_thing_37 : decode cX6_thing 37 = .ok (.bipush (-4), 2) := by decide +kernel
theorem dX6_thing_39 : decode cX6_thing 39 = .ok (.ireturn, 1) := by decide +kernel
theorem dX6_thing_40 : decode cX6_thing 40 = .ok (.aload_n 0, 1) := by decide +kernel
theorem dX6_thing_41 : decode cX6_thing 41 = .ok (.iconst 2, 1) := by decide +kernel
theorem dX6_thing_42 : decode cX6_thing 42 = .ok (.iload_n 1, 1) := by decide +kernel
theorem dX6_thing_43 : decode cX6_thing 43 = .ok (.iconst (-1), 1) := by decide +kernel
theorem dX6_thing_44 : decode cX6_thing 44 = .ok (.iconst 0, 1) := by decide +kernel
theorem dX6_thing_45 : decode cX6_thing 45 = .ok (.invokevirtual 161, 3) := by decide +kernel
theorem dX6_thing_48 : decode cX6_thing 48 = .ok (.istore_n 2, 1) := by decide +kernel
theorem dX6_thing_49 : decode cX6_thing 49 = .ok (.iload_n 2, 1) := by decide +kernel
theorem dX6_thing_50 : decode cX6_thing 50 = .ok (.ifCond .ge 5, 3) := by decide +kernel
theorem dX6_thing_53 : decode cX6_thing 53 = .ok (.iload_n 2, 1) := by decide +kernel
theorem dX6_thing_54 : decode cX6_thing 54 = .ok (.ireturn, 1) := by decide +kernel
theorem dX6_thing_55 : decode cX6_thing 55 = .ok (.aload_n 0, 1) := by decide +kernel
theorem dX6_thing_56 : decode cX6_thing 56 = .ok (.getfield 62, 3) := by decide +kernel
theorem dX6_thing_59 : decode cX6_thing 59 = .ok (.aload_n 0, 1) := by decide +kernel
theorem dX6_thing_60 : decode cX6_thing 60 = .ok (.getfield 103, 3) := by decide +kernel
theorem dX6_thing_63 : decode cX6_thing 63 = .ok (.iload_n 1, 1) := by decide +kernel
theorem dX6_thing_64 : decode cX6_thing 64 = .ok (.iastore, 1) := by decide +kernel
theorem dX6_thing_65 : decode cX6_thing 65 = .ok (.aload_n 0, 1) := by decide +kernel
theorem dX6_thing_66 : decode cX6_thing 66 = .ok (.getfield 65, 3) := by decide +kernel
theorem dX6_thing_69 : decode cX6_thing 69 = .ok (.aload_n 0, 1) := by decide +kernel
theorem dX6_thing_70 : decode cX6_thing 70 = .ok (.getfield 103, 3) := by decide +kernel
theorem dX6_thing_73 : decode cX6_thing 73 = .ok (.iconst 0, 1) := by decide +kernel
theorem dX6_thing_74 : decode cX6_thing 74 = .ok (.bastore, 1) := by decide +kernel
theorem dX6_thing_75 : decode cX6_thing 75 = .ok (.aload_n 0, 1) := by decide +kernel
theorem dX6_thing_76 : decode cX6_thing 76 = .ok (.dup, 1) := by decide +kernel
theorem dX6_thing_77 : decode cX6_thing 77 = .ok (.getfield 103, 3) := by decide +kernel
theorem dX6_thing_80 : decode cX6_thing 80 = .ok (.iconst 1, 1) := by decide +kernel
theorem dX6_thing_81 : decode cX6_thing 81 = .ok (.iadd, 1) := by decide +kernel
theorem dX6_thing_82 : decode cX6_thing 82 = .ok (.putfield 103, 3) := by decide +kernel
theorem dX6_thing_85 : decode cX6_thing 85 = .ok (.aload_n 0, 1) := by decide +kernel
theorem dX6_thing_86 : decode cX6_thing 86 = .ok (.getfield 103, 3) := by decide +kernel
theorem dX6_thing_89 : decode cX6_thing 89 = .ok (.iconst 1, 1) := by decide +kernel
theorem dX6_thing_90 : decode cX6_thing 90 = .ok (.isub, 1) := by decide +kernel
theorem dX6_thing_91 : decode cX6_thing 91 = .ok (.ireturn, 1) := by decide +kernel
theorem dX6_cast_0 : decode cX6_cast 0 = .ok (.aload_n 0, 1) := by decide +kernel
theorem dX6_cast_1 : decode cX6_cast 1 = .ok (.iload_n 1, 1) := by decide +kernel
theorem dX6_cast_2 : decode cX6_cast 2 = .ok (.invokevirtual 168, 3) := by decide +kernel
theorem dX6_cast_5 : decode cX6_cast 5 = .ok (.ifCond .eq 11, 3) := by decide +kernel
theorem dX6_cast_8 : decode cX6_cast 8 = .ok (.aload_n 0, 1) := by decide +kernel
theorem dX6_cast_9 : decode cX6_cast 9 = .ok (.iload_n 2, 1) := by decide +kernel
theorem dX6_cast_10 : decode cX6_cast 10 = .ok (.invokevirtual 165, 3) := by decide +kernel
theorem dX6_cast_13 : decode cX6_cast 13 = .ok (.ifCond .ne 6, 3) := by decide +kernel
theorem dX6_cast_16 : decode cX6_cast 16 = .ok (.bipush (-2), 2) := by decide +kernel
theorem dX6_cast_18 : decode cX6_cast 18 = .ok (.ireturn, 1) := by decide +kernel
theorem dX6_cast_19 : decode cX6_cast 19 = .ok (.aload_n 0, 1) := by decide +kernel
theorem dX6_cast_20 : decode cX6_cast 20 = .ok (.getfield 65, 3) := by decide +kernel
theorem dX6_cast_23 : decode cX6_cast 23 = .ok (.iload_n 1, 1) := by decide +kernel
theorem dX6_cast_24 : decode cX6_cast 24 = .ok (.baload, 1) := by decide +kernel
theorem dX6_cast_25 : decode cX6_cast 25 = .ok (.ifCond .eq 6, 3) := by decide +kernel
theorem dX6_cast_28 : decode cX6_cast 28 = .ok (.bipush (-3), 2) := by decide +kernel
theorem dX6_cast_30 : decode cX6_cast 30 = .ok (.ireturn, 1) := by decide +kernel
theorem dX6_cast_31 : decode cX6_cast 31 = .ok (.aload_n 0, 1) := by decide +kernel
theorem dX6_cast_32 : decode cX6_cast 32 = .ok (.getfield 62, 3) := by decide +kernel
theorem dX6_cast_35 : decode cX6_cast 35 = .ok (.iload_n 1, 1) := by decide +kernel
theorem dX6_cast_36 : decode cX6_cast 36 = .ok (.iaload, 1) := by decide +kernel
theorem dX6_cast_37 : decode cX6_cast 37 = .ok (.istore_n 3, 1) := by decide +kernel
theorem dX6_cast_38 : decode cX6_cast 38 = .ok (.iload_n 3, 1) := by decide +kernel
theorem dX6_cast_39 : decode cX6_cast 39 = .ok (.iconst (-1), 1) := by decide +kernel
theorem dX6_cast_40 : decode cX6_cast 40 = .ok (.if_icmp .eq 18, 3) := by decide +kernel
theorem dX6_cast_43 : decode cX6_cast 43 = .ok (.iload_n 3, 1) := by decide +kernel
theorem dX6_cast_44 : decode cX6_cast 44 = .ok (.iload_n 2, 1) := by decide +kernel
theorem dX6_cast_45 : decode cX6_cast 45 = .ok (.if_icmp .eq 13, 3) := by decide +kernel
theorem dX6_cast_48 : decode cX6_cast 48 = .ok (.aload_n 0, 1) := by decide +kernel
theorem dX6_cast_49 : decode cX6_cast 49 = .ok (.getfield 53, 3) := by decide +kernel
theorem dX6_cast_52 : decode cX6_cast 52 = .ok (.iload_n 3, 1) := by decide +kernel
theorem dX6_cast_53 : decode cX6_cast 53 = .ok (.iaload, 1) := by decide +kernel
theorem dX6_cast_54 : decode cX6_cast 54 = .ok (.istore_n 3, 1) := by decide +kernel
theorem dX6_cast_55 : decode cX6_cast 55 = .ok (.goto (-17), 3) := by decide +kernel
theorem dX6_cast_58 : decode cX6_cast 58 = .ok (.iload_n 3, 1) := by decide +kernel
theorem dX6_cast_59 : decode cX6_cast 59 = .ok (.iload_n 2, 1) := by decide +kernel
theorem dX6_cast_60 : decode cX6_cast 60 = .ok (.if_icmp .ne 7, 3) := by decide +kernel
theorem dX6_cast_63 : decode cX6_cast 63 = .ok (.iconst 1, 1) := by decide +kernel
theorem dX6_cast_64 : decode cX6_cast 64 = .ok (.goto 5, 3) := by decide +kernel
theorem dX6_cast_67 : decode cX6_cast 67 = .ok (.bipush (-19), 2) := by decide +kernel
theorem dX6_cast_69 : decode cX6_cast 69 = .ok (.ireturn, 1) := by decide +kernel
theorem dX6_drop_0 : decode cX6_drop 0 = .ok (.aload_n 0, 1) := by decide +kernel
theorem dX6_drop_1 : decode cX6_drop 1 = .ok (.iload_n 1, 1) := by decide +kernel
theorem dX6_drop_2 : decode cX6_drop 2 = .ok (.invokevirtual 168, 3) := by decide +kernel
theorem dX6_drop_5 : decode cX6_drop 5 = .ok (.ifCond .ne 6, 3) := by decide +kernel
theorem dX6_drop_8 : decode cX6_drop 8 = .ok (.bipush (-2), 2) := by decide +kernel
theorem dX6_drop_10 : decode cX6_drop 10 = .ok (.ireturn, 1) := by decide +kernel
theorem dX6_drop_11 : decode cX6_drop 11 = .ok (.aload_n 0, 1) := by decide +kernel
theorem dX6_drop_12 : decode cX6_drop 12 = .ok (.getfield 65, 3) := by decide +kernel
theorem dX6_drop_15 : decode cX6_drop 15 = .ok (.iload_n 1, 1) := by decide +kernel
theorem dX6_drop_16 : decode cX6_drop 16 = .ok (.baload, 1) := by decide +kernel
theorem dX6_drop_17 : decode cX6_drop 17 = .ok (.ifCond .eq 6, 3) := by decide +kernel
theorem dX6_drop_20 : decode cX6_drop 20 = .ok (.bipush (-3), 2) := by decide +kernel
theorem dX6_drop_22 : decode cX6_drop 22 = .ok (.ireturn, 1) := by decide +kernel
theorem dX6_drop_23 : decode cX6_drop 23 = .ok (.aload_n 0, 1) := by decide +kernel
theorem dX6_drop_24 : decode cX6_drop 24 = .ok (.getfield 65, 3) := by decide +kernel
theorem dX6_drop_27 : decode cX6_drop 27 = .ok (.iload_n 1, 1) := by decide +kernel
theorem dX6_drop_28 : decode cX6_drop 28 = .ok (.iconst 1, 1) := by decide +kernel
theorem dX6_drop_29 : decode cX6_drop 29 = .ok (.bastore, 1) := by decide +kernel
theorem dX6_drop_30 : decode cX6_drop 30 = .ok (.iconst 1, 1) := by decide +kernel
theorem dX6_drop_31 : decode cX6_drop 31 = .ok (.ireturn, 1) := by decide +kernel
theorem dX6_letGo_0 : decode cX6_letGo 0 = .ok (.aload_n 0, 1) := by decide +kernel
theorem dX6_letGo_1 : decode cX6_letGo 1 = .ok (.iload_n 1, 1) := by decide +kernel
theorem dX6_letGo_2 : decode cX6_letGo 2 = .ok (.invokevirtual 110, 3) := by decide +kernel
theorem dX6_letGo_5 : decode cX6_letGo 5 = .ok (.ifCond .ne 6, 3) := by decide +kernel
theorem dX6_letGo_8 : decode cX6_letGo 8 = .ok (.bipush (-2), 2) := by decide +kernel
theorem dX6_letGo_10 : decode cX6_letGo 10 = .ok (.ireturn, 1) := by decide +kernel
theorem dX6_letGo_11 : decode cX6_letGo 11 = .ok (.aload_n 0, 1) := by decide +kernel
theorem dX6_letGo_12 : decode cX6_letGo 12 = .ok (.getfield 32, 3) := by decide +kernel
theorem dX6_letGo_15 : decode cX6_letGo 15 = .ok (.iload_n 1, 1) := by decide +kernel
theorem dX6_letGo_16 : decode cX6_letGo 16 = .ok (.baload, 1) := by decide +kernel
theorem dX6_letGo_17 : decode cX6_letGo 17 = .ok (.ifCond .ne 7, 3) := by decide +kernel
theorem dX6_letGo_20 : decode cX6_letGo 20 = .ok (.iconst 1, 1) := by decide +kernel
theorem dX6_letGo_21 : decode cX6_letGo 21 = .ok (.goto 4, 3) := by decide +kernel
theorem dX6_letGo_24 : decode cX6_letGo 24 = .ok (.iconst 0, 1) := by decide +kernel
theorem dX6_letGo_25 : decode cX6_letGo 25 = .ok (.istore_n 2, 1) := by decide +kernel
theorem dX6_letGo_26 : decode cX6_letGo 26 = .ok (.iconst 0, 1) := by decide +kernel
theorem dX6_letGo_27 : decode cX6_letGo 27 = .ok (.istore_n 3, 1) := by decide +kernel
theorem dX6_letGo_28 : decode cX6_letGo 28 = .ok (.iload_n 3, 1) := by decide +kernel
theorem dX6_letGo_29 : decode cX6_letGo 29 = .ok (.aload_n 0, 1) := by decide +kernel
theorem dX6_letGo_30 : decode cX6_letGo 30 = .ok (.getfield 93, 3) := by decide +kernel
theorem dX6_letGo_33 : decode cX6_letGo 33 = .ok (.if_icmp .ge 38, 3) := by decide +kernel
theorem dX6_letGo_36 : decode cX6_letGo 36 = .ok (.iload_n 2, 1) := by decide +kernel
theorem dX6_letGo_37 : decode cX6_letGo 37 = .ok (.ifCond .eq 26, 3) := by decide +kernel
theorem dX6_letGo_40 : decode cX6_letGo 40 = .ok (.aload_n 0, 1) := by decide +kernel
theorem dX6_letGo_41 : decode cX6_letGo 41 = .ok (.getfield 25, 3) := by decide +kernel
theorem dX6_letGo_44 : decode cX6_letGo 44 = .ok (.iload_n 3, 1) := by decide +kernel
theorem dX6_letGo_45 : decode cX6_letGo 45 = .ok (.iaload, 1) := by decide +kernel
theorem dX6_letGo_46 : decode cX6_letGo 46 = .ok (.iload_n 1, 1) := by decide +kernel
theorem dX6_letGo_47 : decode cX6_letGo 47 = .ok (.if_icmp .ne 12, 3) := by decide +kernel
theorem dX6_letGo_50 : decode cX6_letGo 50 = .ok (.aload_n 0, 1) := by decide +kernel
theorem dX6_letGo_51 : decode cX6_letGo 51 = .ok (.getfield 32, 3) := by decide +kernel
theorem dX6_letGo_54 : decode cX6_letGo 54 = .ok (.iload_n 3, 1) := by decide +kernel
theorem dX6_letGo_55 : decode cX6_letGo 55 = .ok (.baload, 1) := by decide +kernel
theorem dX6_letGo_56 : decode cX6_letGo 56 = .ok (.ifCond .eq 7, 3) := by decide +kernel
theorem dX6_letGo_59 : decode cX6_letGo 59 = .ok (.iconst 1, 1) := by decide +kernel
theorem dX6_letGo_60 : decode cX6_letGo 60 = .ok (.goto 4, 3) := by decide +kernel
theorem dX6_letGo_63 : decode cX6_letGo 63 = .ok (.iconst 0, 1) := by decide +kernel
theorem dX6_letGo_64 : decode cX6_letGo 64 = .ok (.istore_n 2, 1) := by decide +kernel
theorem dX6_letGo_65 : decode cX6_letGo 65 = .ok (.iinc 3 1, 3) := by decide +kernel
theorem dX6_letGo_68 : decode cX6_letGo 68 = .ok (.goto (-40), 3) := by decide +kernel
theorem dX6_letGo_71 : decode cX6_letGo 71 = .ok (.iload_n 2, 1) := by decide +kernel
theorem dX6_letGo_72 : decode cX6_letGo 72 = .ok (.ifCond .ne 6, 3) := by decide +kernel
theorem dX6_letGo_75 : decode cX6_letGo 75 = .ok (.bipush (-3), 2) := by decide +kernel
theorem dX6_letGo_77 : decode cX6_letGo 77 = .ok (.ireturn, 1) := by decide +kernel
theorem dX6_letGo_78 : decode cX6_letGo 78 = .ok (.aload_n 0, 1) := by decide +kernel
theorem dX6_letGo_79 : decode cX6_letGo 79 = .ok (.getfield 32, 3) := by decide +kernel
theorem dX6_letGo_82 : decode cX6_letGo 82 = .ok (.iload_n 1, 1) := by decide +kernel
theorem dX6_letGo_83 : decode cX6_letGo 83 = .ok (.iconst 1, 1) := by decide +kernel
theorem dX6_letGo_84 : decode cX6_letGo 84 = .ok (.bastore, 1) := by decide +kernel
theorem dX6_letGo_85 : decode cX6_letGo 85 = .ok (.iconst 1, 1) := by decide +kernel
theorem dX6_letGo_86 : decode cX6_letGo 86 = .ok (.ireturn, 1) := by decide +kernel
theorem dX6_holds_0 : decode cX6_holds 0 = .ok (.iconst 0, 1) := by decide +kernel
theorem dX6_holds_1 : decode cX6_holds 1 = .ok (.istore_n 1, 1) := by decide +kernel
theorem dX6_holds_2 : decode cX6_holds 2 = .ok (.iload_n 1, 1) := by decide +kernel
theorem dX6_holds_3 : decode cX6_holds 3 = .ok (.aload_n 0, 1) := by decide +kernel
theorem dX6_holds_4 : decode cX6_holds 4 = .ok (.getfield 100, 3) := by decide +kernel
theorem dX6_holds_7 : decode cX6_holds 7 = .ok (.if_icmp .ge 16, 3) := by decide +kernel
theorem dX6_holds_10 : decode cX6_holds 10 = .ok (.aload_n 0, 1) := by decide +kernel
theorem dX6_holds_11 : decode cX6_holds 11 = .ok (.getfield 86, 3) := by decide +kernel
theorem dX6_holds_14 : decode cX6_holds 14 = .ok (.iload_n 1, 1) := by decide +kernel
theorem dX6_holds_15 : decode cX6_holds 15 = .ok (.iconst 0, 1) := by decide +kernel
theorem dX6_holds_16 : decode cX6_holds 16 = .ok (.bastore, 1) := by decide +kernel
theorem dX6_holds_17 : decode cX6_holds 17 = .ok (.iinc 1 1, 3) := by decide +kernel
theorem dX6_holds_20 : decode cX6_holds 20 = .ok (.goto (-18), 3) := by decide +kernel
theorem dX6_holds_23 : decode cX6_holds 23 = .ok (.iconst 0, 1) := by decide +kernel
theorem dX6_holds_24 : decode cX6_holds 24 = .ok (.istore_n 1, 1) := by decide +kernel
theorem dX6_holds_25 : decode cX6_holds 25 = .ok (.iload_n 1, 1) := by decide +kernel
theorem dX6_holds_26 : decode cX6_holds 26 = .ok (.aload_n 0, 1) := by decide +kernel
theorem dX6_holds_27 : decode cX6_holds 27 = .ok (.getfield 103, 3) := by decide +kernel
theorem dX6_holds_30 : decode cX6_holds 30 = .ok (.if_icmp .ge 48, 3) := by decide +kernel
theorem dX6_holds_33 : decode cX6_holds 33 = .ok (.aload_n 0, 1) := by decide +kernel
theorem dX6_holds_34 : decode cX6_holds 34 = .ok (.getfield 86, 3) := by decide +kernel
theorem dX6_holds_37 : decode cX6_holds 37 = .ok (.aload_n 0, 1) := by decide +kernel
theorem dX6_holds_38 : decode cX6_holds 38 = .ok (.getfield 62, 3) := by decide +kernel
theorem dX6_holds_41 : decode cX6_holds 41 = .ok (.iload_n 1, 1) := by decide +kernel
theorem dX6_holds_42 : decode cX6_holds 42 = .ok (.iaload, 1) := by decide +kernel
theorem dX6_holds_43 : decode cX6_holds 43 = .ok (.aload_n 0, 1) := by decide +kernel
theorem dX6_holds_44 : decode cX6_holds 44 = .ok (.getfield 86, 3) := by decide +kernel
theorem dX6_holds_47 : decode cX6_holds 47 = .ok (.aload_n 0, 1) := by decide +kernel
theorem dX6_holds_48 : decode cX6_holds 48 = .ok (.getfield 62, 3) := by decide +kernel
theorem dX6_holds_51 : decode cX6_holds 51 = .ok (.iload_n 1, 1) := by decide +kernel
theorem dX6_holds_52 : decode cX6_holds 52 = .ok (.iaload, 1) := by decide +kernel
theorem dX6_holds_53 : decode cX6_holds 53 = .ok (.baload, 1) := by decide +kernel
theorem dX6_holds_54 : decode cX6_holds 54 = .ok (.ifCond .ne 12, 3) := by decide +kernel
theorem dX6_holds_57 : decode cX6_holds 57 = .ok (.aload_n 0, 1) := by decide +kernel
theorem dX6_holds_58 : decode cX6_holds 58 = .ok (.getfield 65, 3) := by decide +kernel
theorem dX6_holds_61 : decode cX6_holds 61 = .ok (.iload_n 1, 1) := by decide +kernel
theorem dX6_holds_62 : decode cX6_holds 62 = .ok (.baload, 1) := by decide +kernel
theorem dX6_holds_63 : decode cX6_holds 63 = .ok (.ifCond .ne 7, 3) := by decide +kernel
theorem dX6_holds_66 : decode cX6_holds 66 = .ok (.iconst 1, 1) := by decide +kernel
theorem dX6_holds_67 : decode cX6_holds 67 = .ok (.goto 4, 3) := by decide +kernel
theorem dX6_holds_70 : decode cX6_holds 70 = .ok (.iconst 0, 1) := by decide +kernel
theorem dX6_holds_71 : decode cX6_holds 71 = .ok (.bastore, 1) := by decide +kernel
theorem dX6_holds_72 : decode cX6_holds 72 = .ok (.iinc 1 1, 3) := by decide +kernel
theorem dX6_holds_75 : decode cX6_holds 75 = .ok (.goto (-50), 3) := by decide +kernel
theorem dX6_holds_78 : decode cX6_holds 78 = .ok (.iconst 0, 1) := by decide +kernel
theorem dX6_holds_79 : decode cX6_holds 79 = .ok (.istore_n 1, 1) := by decide +kernel
theorem dX6_holds_80 : decode cX6_holds 80 = .ok (.iload_n 1, 1) := by decide +kernel
theorem dX6_holds_81 : decode cX6_holds 81 = .ok (.bipush 31, 2) := by decide +kernel
theorem dX6_holds_83 : decode cX6_holds 83 = .ok (.aload_n 0, 1) := by decide +kernel
theorem dX6_holds_84 : decode cX6_holds 84 = .ok (.getfield 93, 3) := by decide +kernel
theorem dX6_holds_87 : decode cX6_holds 87 = .ok (.imul, 1) := by decide +kernel
theorem dX6_holds_88 : decode cX6_holds 88 = .ok (.if_icmp .ge 65, 3) := by decide +kernel
theorem dX6_holds_91 : decode cX6_holds 91 = .ok (.aload_n 0, 1) := by decide +kernel
theorem dX6_holds_92 : decode cX6_holds 92 = .ok (.getfield 32, 3) := by decide +kernel
theorem dX6_holds_95 : decode cX6_holds 95 = .ok (.iload_n 1, 1) := by decide +kernel
theorem dX6_holds_96 : decode cX6_holds 96 = .ok (.bipush 31, 2) := by decide +kernel
theorem dX6_holds_98 : decode cX6_holds 98 = .ok (.idiv, 1) := by decide +kernel
theorem dX6_holds_99 : decode cX6_holds 99 = .ok (.baload, 1) := by decide +kernel
theorem dX6_holds_100 : decode cX6_holds 100 = .ok (.ifCond .ne 47, 3) := by decide +kernel
theorem dX6_holds_103 : decode cX6_holds 103 = .ok (.aload_n 0, 1) := by decide +kernel
theorem dX6_holds_104 : decode cX6_holds 104 = .ok (.getfield 38, 3) := by decide +kernel
theorem dX6_holds_107 : decode cX6_holds 107 = .ok (.iload_n 1, 1) := by decide +kernel
theorem dX6_holds_108 : decode cX6_holds 108 = .ok (.iaload, 1) := by decide +kernel
theorem dX6_holds_109 : decode cX6_holds 109 = .ok (.iconst (-1), 1) := by decide +kernel
theorem dX6_holds_110 : decode cX6_holds 110 = .ok (.if_icmp .eq 15, 3) := by decide +kernel
theorem dX6_holds_113 : decode cX6_holds 113 = .ok (.aload_n 0, 1) := by decide +kernel
theorem dX6_holds_114 : decode cX6_holds 114 = .ok (.getfield 86, 3) := by decide +kernel
theorem dX6_holds_117 : decode cX6_holds 117 = .ok (.aload_n 0, 1) := by decide +kernel
theorem dX6_holds_118 : decode cX6_holds 118 = .ok (.getfield 38, 3) := by decide +kernel
theorem dX6_holds_121 : decode cX6_holds 121 = .ok (.iload_n 1, 1) := by decide +kernel
theorem dX6_holds_122 : decode cX6_holds 122 = .ok (.iaload, 1) := by decide +kernel
theorem dX6_holds_123 : decode cX6_holds 123 = .ok (.iconst 1, 1) := by decide +kernel
theorem dX6_holds_124 : decode cX6_holds 124 = .ok (.bastore, 1) := by decide +kernel
theorem dX6_holds_125 : decode cX6_holds 125 = .ok (.aload_n 0, 1) := by decide +kernel
theorem dX6_holds_126 : decode cX6_holds 126 = .ok (.getfield 41, 3) := by decide +kernel
theorem dX6_holds_129 : decode cX6_holds 129 = .ok (.iload_n 1, 1) := by decide +kernel
theorem dX6_holds_130 : decode cX6_holds 130 = .ok (.iaload, 1) := by decide +kernel
theorem dX6_holds_131 : decode cX6_holds 131 = .ok (.iconst (-1), 1) := by decide +kernel
theorem dX6_holds_132 : decode cX6_holds 132 = .ok (.if_icmp .eq 15, 3) := by decide +kernel
theorem dX6_holds_135 : decode cX6_holds 135 = .ok (.aload_n 0, 1) := by decide +kernel
theorem dX6_holds_136 : decode cX6_holds 136 = .ok (.getfield 86, 3) := by decide +kernel
theorem dX6_holds_139 : decode cX6_holds 139 = .ok (.aload_n 0, 1) := by decide +kernel
theorem dX6_holds_140 : decode cX6_holds 140 = .ok (.getfield 41, 3) := by decide +kernel
theorem dX6_holds_143 : decode cX6_holds 143 = .ok (.iload_n 1, 1) := by decide +kernel
theorem dX6_holds_144 : decode cX6_holds 144 = .ok (.iaload, 1) := by decide +kernel
theorem dX6_holds_145 : decode cX6_holds 145 = .ok (.iconst 1, 1) := by decide +kernel
theorem dX6_holds_146 : decode cX6_holds 146 = .ok (.bastore, 1) := by decide +kernel
theorem dX6_holds_147 : decode cX6_holds 147 = .ok (.iinc 1 1, 3) := by decide +kernel
theorem dX6_holds_150 : decode cX6_holds 150 = .ok (.goto (-70), 3) := by decide +kernel
theorem dX6_holds_153 : decode cX6_holds 153 = .ok (.aload_n 0, 1) := by decide +kernel
theorem dX6_holds_154 : decode cX6_holds 154 = .ok (.getfield 100, 3) := by decide +kernel
theorem dX6_holds_157 : decode cX6_holds 157 = .ok (.iconst 1, 1) := by decide +kernel
theorem dX6_holds_158 : decode cX6_holds 158 = .ok (.isub, 1) := by decide +kernel
theorem dX6_holds_159 : decode cX6_holds 159 = .ok (.istore_n 1, 1) := by decide +kernel
theorem dX6_holds_160 : decode cX6_holds 160 = .ok (.iload_n 1, 1) := by decide +kernel
theorem dX6_holds_161 : decode cX6_holds 161 = .ok (.ifCond .lt 40, 3) := by decide +kernel
theorem dX6_holds_164 : decode cX6_holds 164 = .ok (.aload_n 0, 1) := by decide +kernel
theorem dX6_holds_165 : decode cX6_holds 165 = .ok (.getfield 86, 3) := by decide +kernel
theorem dX6_holds_168 : decode cX6_holds 168 = .ok (.iload_n 1, 1) := by decide +kernel
theorem dX6_holds_169 : decode cX6_holds 169 = .ok (.baload, 1) := by decide +kernel
theorem dX6_holds_170 : decode cX6_holds 170 = .ok (.ifCond .eq 25, 3) := by decide +kernel
theorem dX6_holds_173 : decode cX6_holds 173 = .ok (.aload_n 0, 1) := by decide +kernel
theorem dX6_holds_174 : decode cX6_holds 174 = .ok (.getfield 53, 3) := by decide +kernel
theorem dX6_holds_177 : decode cX6_holds 177 = .ok (.iload_n 1, 1) := by decide +kernel
theorem dX6_holds_178 : decode cX6_holds 178 = .ok (.iaload, 1) := by decide +kernel
theorem dX6_holds_179 : decode cX6_holds 179 = .ok (.iconst (-1), 1) := by decide +kernel
theorem dX6_holds_180 : decode cX6_holds 180 = .ok (.if_icmp .eq 15, 3) := by decide +kernel
theorem dX6_holds_183 : decode cX6_holds 183 = .ok (.aload_n 0, 1) := by decide +kernel
theorem dX6_holds_184 : decode cX6_holds 184 = .ok (.getfield 86, 3) := by decide +kernel
theorem dX6_holds_187 : decode cX6_holds 187 = .ok (.aload_n 0, 1) := by decide +kernel
theorem dX6_holds_188 : decode cX6_holds 188 = .ok (.getfield 53, 3) := by decide +kernel
theorem dX6_holds_191 : decode cX6_holds 191 = .ok (.iload_n 1, 1) := by decide +kernel
theorem dX6_holds_192 : decode cX6_holds 192 = .ok (.iaload, 1) := by decide +kernel
theorem dX6_holds_193 : decode cX6_holds 193 = .ok (.iconst 1, 1) := by decide +kernel
theorem dX6_holds_194 : decode cX6_holds 194 = .ok (.bastore, 1) := by decide +kernel
theorem dX6_holds_195 : decode cX6_holds 195 = .ok (.iinc 1 (-1), 3) := by decide +kernel
theorem dX6_holds_198 : decode cX6_holds 198 = .ok (.goto (-38), 3) := by decide +kernel
theorem dX6_holds_201 : decode cX6_holds 201 = .ok (.return_, 1) := by decide +kernel
theorem dX6_held_0 : decode cX6_held 0 = .ok (.aload_n 0, 1) := by decide +kernel
theorem dX6_held_1 : decode cX6_held 1 = .ok (.iload_n 1, 1) := by decide +kernel
theorem dX6_held_2 : decode cX6_held 2 = .ok (.invokevirtual 110, 3) := by decide +kernel
theorem dX6_held_5 : decode cX6_held 5 = .ok (.ifCond .ne 6, 3) := by decide +kernel
theorem dX6_held_8 : decode cX6_held 8 = .ok (.bipush (-2), 2) := by decide +kernel
theorem dX6_held_10 : decode cX6_held 10 = .ok (.ireturn, 1) := by decide +kernel
theorem dX6_held_11 : decode cX6_held 11 = .ok (.aload_n 0, 1) := by decide +kernel
theorem dX6_held_12 : decode cX6_held 12 = .ok (.invokevirtual 171, 3) := by decide +kernel
theorem dX6_held_15 : decode cX6_held 15 = .ok (.iconst 0, 1) := by decide +kernel
theorem dX6_held_16 : decode cX6_held 16 = .ok (.istore_n 2, 1) := by decide +kernel
theorem dX6_held_17 : decode cX6_held 17 = .ok (.iconst 0, 1) := by decide +kernel
theorem dX6_held_18 : decode cX6_held 18 = .ok (.istore_n 3, 1) := by decide +kernel
theorem dX6_held_19 : decode cX6_held 19 = .ok (.iload_n 3, 1) := by decide +kernel
theorem dX6_held_20 : decode cX6_held 20 = .ok (.aload_n 0, 1) := by decide +kernel
theorem dX6_held_21 : decode cX6_held 21 = .ok (.getfield 100, 3) := by decide +kernel
theorem dX6_held_24 : decode cX6_held 24 = .ok (.if_icmp .ge 36, 3) := by decide +kernel
theorem dX6_held_27 : decode cX6_held 27 = .ok (.aload_n 0, 1) := by decide +kernel
theorem dX6_held_28 : decode cX6_held 28 = .ok (.getfield 47, 3) := by decide +kernel
theorem dX6_held_31 : decode cX6_held 31 = .ok (.iload_n 3, 1) := by decide +kernel
theorem dX6_held_32 : decode cX6_held 32 = .ok (.iaload, 1) := by decide +kernel
theorem dX6_held_33 : decode cX6_held 33 = .ok (.iload_n 1, 1) := by decide +kernel
theorem dX6_held_34 : decode cX6_held 34 = .ok (.if_icmp .ne 18, 3) := by decide +kernel
theorem dX6_held_37 : decode cX6_held 37 = .ok (.aload_n 0, 1) := by decide +kernel
theorem dX6_held_38 : decode cX6_held 38 = .ok (.getfield 86, 3) := by decide +kernel
theorem dX6_held_41 : decode cX6_held 41 = .ok (.iload_n 3, 1) := by decide +kernel
theorem dX6_held_42 : decode cX6_held 42 = .ok (.baload, 1) := by decide +kernel
theorem dX6_held_43 : decode cX6_held 43 = .ok (.ifCond .eq 9, 3) := by decide +kernel
theorem dX6_held_46 : decode cX6_held 46 = .ok (.iload_n 2, 1) := by decide +kernel
theorem dX6_held_47 : decode cX6_held 47 = .ok (.iconst 1, 1) := by decide +kernel
theorem dX6_held_48 : decode cX6_held 48 = .ok (.iadd, 1) := by decide +kernel
theorem dX6_held_49 : decode cX6_held 49 = .ok (.goto 4, 3) := by decide +kernel
theorem dX6_held_52 : decode cX6_held 52 = .ok (.iload_n 2, 1) := by decide +kernel
theorem dX6_held_53 : decode cX6_held 53 = .ok (.istore_n 2, 1) := by decide +kernel
theorem dX6_held_54 : decode cX6_held 54 = .ok (.iinc 3 1, 3) := by decide +kernel
theorem dX6_held_57 : decode cX6_held 57 = .ok (.goto (-38), 3) := by decide +kernel
theorem dX6_held_60 : decode cX6_held 60 = .ok (.iload_n 2, 1) := by decide +kernel
theorem dX6_held_61 : decode cX6_held 61 = .ok (.ireturn, 1) := by decide +kernel
theorem dX6_isHeld_0 : decode cX6_isHeld 0 = .ok (.aload_n 0, 1) := by decide +kernel
theorem dX6_isHeld_1 : decode cX6_isHeld 1 = .ok (.iload_n 1, 1) := by decide +kernel
theorem dX6_isHeld_2 : decode cX6_isHeld 2 = .ok (.invokevirtual 165, 3) := by decide +kernel
theorem dX6_isHeld_5 : decode cX6_isHeld 5 = .ok (.ifCond .ne 6, 3) := by decide +kernel
theorem dX6_isHeld_8 : decode cX6_isHeld 8 = .ok (.bipush (-2), 2) := by decide +kernel
theorem dX6_isHeld_10 : decode cX6_isHeld 10 = .ok (.ireturn, 1) := by decide +kernel
theorem dX6_isHeld_11 : decode cX6_isHeld 11 = .ok (.aload_n 0, 1) := by decide +kernel
theorem dX6_isHeld_12 : decode cX6_isHeld 12 = .ok (.invokevirtual 171, 3) := by decide +kernel
theorem dX6_isHeld_15 : decode cX6_isHeld 15 = .ok (.aload_n 0, 1) := by decide +kernel
theorem dX6_isHeld_16 : decode cX6_isHeld 16 = .ok (.getfield 86, 3) := by decide +kernel
theorem dX6_isHeld_19 : decode cX6_isHeld 19 = .ok (.iload_n 1, 1) := by decide +kernel
theorem dX6_isHeld_20 : decode cX6_isHeld 20 = .ok (.baload, 1) := by decide +kernel
theorem dX6_isHeld_21 : decode cX6_isHeld 21 = .ok (.ifCond .eq 7, 3) := by decide +kernel
theorem dX6_isHeld_24 : decode cX6_isHeld 24 = .ok (.iconst 1, 1) := by decide +kernel
theorem dX6_isHeld_25 : decode cX6_isHeld 25 = .ok (.goto 4, 3) := by decide +kernel
theorem dX6_isHeld_28 : decode cX6_isHeld 28 = .ok (.iconst 0, 1) := by decide +kernel
theorem dX6_isHeld_29 : decode cX6_isHeld 29 = .ok (.ireturn, 1) := by decide +kernel
theorem dX6_about_0 : decode cX6_about 0 = .ok (.aload_n 0, 1) := by decide +kernel
theorem dX6_about_1 : decode cX6_about 1 = .ok (.iload_n 1, 1) := by decide +kernel
theorem dX6_about_2 : decode cX6_about 2 = .ok (.invokevirtual 165, 3) := by decide +kernel
theorem dX6_about_5 : decode cX6_about 5 = .ok (.ifCond .ne 5, 3) := by decide +kernel
theorem dX6_about_8 : decode cX6_about 8 = .ok (.iconst 0, 1) := by decide +kernel
theorem dX6_about_9 : decode cX6_about 9 = .ok (.ireturn, 1) := by decide +kernel
theorem dX6_about_10 : decode cX6_about 10 = .ok (.iload_n 2, 1) := by decide +kernel
theorem dX6_about_11 : decode cX6_about 11 = .ok (.tableswitch 84 0 5 #[37, 44, 51, 58, 65, 77], 37) := by decide +kernel
theorem dX6_about_48 : decode cX6_about 48 = .ok (.aload_n 0, 1) := by decide +kernel
theorem dX6_about_49 : decode cX6_about 49 = .ok (.getfield 47, 3) := by decide +kernel
theorem dX6_about_52 : decode cX6_about 52 = .ok (.iload_n 1, 1) := by decide +kernel
theorem dX6_about_53 : decode cX6_about 53 = .ok (.iaload, 1) := by decide +kernel
theorem dX6_about_54 : decode cX6_about 54 = .ok (.ireturn, 1) := by decide +kernel
theorem dX6_about_55 : decode cX6_about 55 = .ok (.aload_n 0, 1) := by decide +kernel
theorem dX6_about_56 : decode cX6_about 56 = .ok (.getfield 50, 3) := by decide +kernel
theorem dX6_about_59 : decode cX6_about 59 = .ok (.iload_n 1, 1) := by decide +kernel
theorem dX6_about_60 : decode cX6_about 60 = .ok (.iaload, 1) := by decide +kernel
theorem dX6_about_61 : decode cX6_about 61 = .ok (.ireturn, 1) := by decide +kernel
theorem dX6_about_62 : decode cX6_about 62 = .ok (.aload_n 0, 1) := by decide +kernel
theorem dX6_about_63 : decode cX6_about 63 = .ok (.getfield 53, 3) := by decide +kernel
theorem dX6_about_66 : decode cX6_about 66 = .ok (.iload_n 1, 1) := by decide +kernel
theorem dX6_about_67 : decode cX6_about 67 = .ok (.iaload, 1) := by decide +kernel
theorem dX6_about_68 : decode cX6_about 68 = .ok (.ireturn, 1) := by decide +kernel
theorem dX6_about_69 : decode cX6_about 69 = .ok (.aload_n 0, 1) := by decide +kernel
theorem dX6_about_70 : decode cX6_about 70 = .ok (.getfield 59, 3) := by decide +kernel
theorem dX6_about_73 : decode cX6_about 73 = .ok (.iload_n 1, 1) := by decide +kernel
theorem dX6_about_74 : decode cX6_about 74 = .ok (.iaload, 1) := by decide +kernel
theorem dX6_about_75 : decode cX6_about 75 = .ok (.ireturn, 1) := by decide +kernel
theorem dX6_about_76 : decode cX6_about 76 = .ok (.aload_n 0, 1) := by decide +kernel
theorem dX6_about_77 : decode cX6_about 77 = .ok (.getfield 13, 3) := by decide +kernel
theorem dX6_about_80 : decode cX6_about 80 = .ok (.aload_n 0, 1) := by decide +kernel
theorem dX6_about_81 : decode cX6_about 81 = .ok (.getfield 56, 3) := by decide +kernel
theorem dX6_about_84 : decode cX6_about 84 = .ok (.iload_n 1, 1) := by decide +kernel
theorem dX6_about_85 : decode cX6_about 85 = .ok (.iaload, 1) := by decide +kernel
theorem dX6_about_86 : decode cX6_about 86 = .ok (.iaload, 1) := by decide +kernel
theorem dX6_about_87 : decode cX6_about 87 = .ok (.ireturn, 1) := by decide +kernel
theorem dX6_about_88 : decode cX6_about 88 = .ok (.aload_n 0, 1) := by decide +kernel
theorem dX6_about_89 : decode cX6_about 89 = .ok (.getfield 56, 3) := by decide +kernel
theorem dX6_about_92 : decode cX6_about 92 = .ok (.iload_n 1, 1) := by decide +kernel
theorem dX6_about_93 : decode cX6_about 93 = .ok (.iaload, 1) := by decide +kernel
theorem dX6_about_94 : decode cX6_about 94 = .ok (.ireturn, 1) := by decide +kernel
theorem dX6_about_95 : decode cX6_about 95 = .ok (.iconst 0, 1) := by decide +kernel
theorem dX6_about_96 : decode cX6_about 96 = .ok (.ireturn, 1) := by decide +kernel
theorem dX6_aboutThing_0 : decode cX6_aboutThing 0 = .ok (.aload_n 0, 1) := by decide +kernel
theorem dX6_aboutThing_1 : decode cX6_aboutThing 1 = .ok (.iload_n 1, 1) := by decide +kernel
theorem dX6_aboutThing_2 : decode cX6_aboutThing 2 = .ok (.invokevirtual 168, 3) := by decide +kernel
theorem dX6_aboutThing_5 : decode cX6_aboutThing 5 = .ok (.ifCond .eq 12, 3) := by decide +kernel
theorem dX6_aboutThing_8 : decode cX6_aboutThing 8 = .ok (.iload_n 2, 1) := by decide +kernel
theorem dX6_aboutThing_9 : decode cX6_aboutThing 9 = .ok (.iconst 0, 1) := by decide +kernel
theorem dX6_aboutThing_10 : decode cX6_aboutThing 10 = .ok (.iconst 1, 1) := by decide +kernel
theorem dX6_aboutThing_11 : decode cX6_aboutThing 11 = .ok (.invokestatic 89, 3) := by decide +kernel
theorem dX6_aboutThing_14 : decode cX6_aboutThing 14 = .ok (.ifCond .ne 6, 3) := by decide +kernel
theorem dX6_aboutThing_17 : decode cX6_aboutThing 17 = .ok (.bipush (-2), 2) := by decide +kernel
theorem dX6_aboutThing_19 : decode cX6_aboutThing 19 = .ok (.ireturn, 1) := by decide +kernel
theorem dX6_aboutThing_20 : decode cX6_aboutThing 20 = .ok (.iload_n 2, 1) := by decide +kernel
theorem dX6_aboutThing_21 : decode cX6_aboutThing 21 = .ok (.ifCond .ne 12, 3) := by decide +kernel
theorem dX6_aboutThing_24 : decode cX6_aboutThing 24 = .ok (.aload_n 0, 1) := by decide +kernel
theorem dX6_aboutThing_25 : decode cX6_aboutThing 25 = .ok (.getfield 62, 3) := by decide +kernel
theorem dX6_aboutThing_28 : decode cX6_aboutThing 28 = .ok (.iload_n 1, 1) := by decide +kernel
theorem dX6_aboutThing_29 : decode cX6_aboutThing 29 = .ok (.iaload, 1) := by decide +kernel
theorem dX6_aboutThing_30 : decode cX6_aboutThing 30 = .ok (.goto 17, 3) := by decide +kernel
theorem dX6_aboutThing_33 : decode cX6_aboutThing 33 = .ok (.aload_n 0, 1) := by decide +kernel
theorem dX6_aboutThing_34 : decode cX6_aboutThing 34 = .ok (.getfield 65, 3) := by decide +kernel
theorem dX6_aboutThing_37 : decode cX6_aboutThing 37 = .ok (.iload_n 1, 1) := by decide +kernel
theorem dX6_aboutThing_38 : decode cX6_aboutThing 38 = .ok (.baload, 1) := by decide +kernel
theorem dX6_aboutThing_39 : decode cX6_aboutThing 39 = .ok (.ifCond .eq 7, 3) := by decide +kernel
theorem dX6_aboutThing_42 : decode cX6_aboutThing 42 = .ok (.iconst 1, 1) := by decide +kernel
theorem dX6_aboutThing_43 : decode cX6_aboutThing 43 = .ok (.goto 4, 3) := by decide +kernel
theorem dX6_aboutThing_46 : decode cX6_aboutThing 46 = .ok (.iconst 0, 1) := by decide +kernel
theorem dX6_aboutThing_47 : decode cX6_aboutThing 47 = .ok (.ireturn, 1) := by decide +kernel
theorem dX6_order_0 : decode cX6_order 0 = .ok (.iload_n 1, 1) := by decide +kernel
theorem dX6_order_1 : decode cX6_order 1 = .ok (.iconst 0, 1) := by decide +kernel
theorem dX6_order_2 : decode cX6_order 2 = .ok (.aload_n 0, 1) := by decide +kernel
theorem dX6_order_3 : decode cX6_order 3 = .ok (.getfield 154, 3) := by decide +kernel
theorem dX6_order_6 : decode cX6_order 6 = .ok (.iconst 1, 1) := by decide +kernel
theorem dX6_order_7 : decode cX6_order 7 = .ok (.isub, 1) := by decide +kernel
theorem dX6_order_8 : decode cX6_order 8 = .ok (.invokestatic 89, 3) := by decide +kernel
theorem dX6_order_11 : decode cX6_order 11 = .ok (.ifCond .eq 12, 3) := by decide +kernel
theorem dX6_order_14 : decode cX6_order 14 = .ok (.aload_n 0, 1) := by decide +kernel
theorem dX6_order_15 : decode cX6_order 15 = .ok (.getfield 68, 3) := by decide +kernel
theorem dX6_order_18 : decode cX6_order 18 = .ok (.iload_n 1, 1) := by decide +kernel
theorem dX6_order_19 : decode cX6_order 19 = .ok (.iaload, 1) := by decide +kernel
theorem dX6_order_20 : decode cX6_order 20 = .ok (.goto 4, 3) := by decide +kernel
theorem dX6_order_23 : decode cX6_order 23 = .ok (.iconst 0, 1) := by decide +kernel
theorem dX6_order_24 : decode cX6_order 24 = .ok (.ireturn, 1) := by decide +kernel
theorem dX6_count_0 : decode cX6_count 0 = .ok (.iload_n 1, 1) := by decide +kernel
theorem dX6_count_1 : decode cX6_count 1 = .ok (.tableswitch 60 0 4 #[35, 40, 45, 50, 55], 35) := by decide +kernel
theorem dX6_count_36 : decode cX6_count 36 = .ok (.aload_n 0, 1) := by decide +kernel
theorem dX6_count_37 : decode cX6_count 37 = .ok (.getfield 97, 3) := by decide +kernel
theorem dX6_count_40 : decode cX6_count 40 = .ok (.ireturn, 1) := by decide +kernel
theorem dX6_count_41 : decode cX6_count 41 = .ok (.aload_n 0, 1) := by decide +kernel
theorem dX6_count_42 : decode cX6_count 42 = .ok (.getfield 93, 3) := by decide +kernel
theorem dX6_count_45 : decode cX6_count 45 = .ok (.ireturn, 1) := by decide +kernel
theorem dX6_count_46 : decode cX6_count 46 = .ok (.aload_n 0, 1) := by decide +kernel
theorem dX6_count_47 : decode cX6_count 47 = .ok (.getfield 100, 3) := by decide +kernel
theorem dX6_count_50 : decode cX6_count 50 = .ok (.ireturn, 1) := by decide +kernel
theorem dX6_count_51 : decode cX6_count 51 = .ok (.aload_n 0, 1) := by decide +kernel
theorem dX6_count_52 : decode cX6_count 52 = .ok (.getfield 103, 3) := by decide +kernel
theorem dX6_count_55 : decode cX6_count 55 = .ok (.ireturn, 1) := by decide +kernel
theorem dX6_count_56 : decode cX6_count 56 = .ok (.aload_n 0, 1) := by decide +kernel
theorem dX6_count_57 : decode cX6_count 57 = .ok (.getfield 154, 3) := by decide +kernel
theorem dX6_count_60 : decode cX6_count 60 = .ok (.ireturn, 1) := by decide +kernel
theorem dX6_count_61 : decode cX6_count 61 = .ok (.bipush (-2), 2) := by decide +kernel
theorem dX6_count_63 : decode cX6_count 63 = .ok (.ireturn, 1) := by decide +kernel
end
section
/-! the words of the tables that stay, as ONE list for every method -/
def lw_good : List Cond := lw_tbl.filter goodWord
theorem in_good {w : Cond} (h : w ∈ lw_tbl) (hg : goodWord w = true) : w ∈ lw_good := List.mem_filter.mpr ⟨h, hg⟩
theorem good_in {w : Cond} (h : w ∈ lw_good) : w ∈ lw_tbl := (List.mem_filter.mp h).1
theorem good_ok {w : Cond} (h : w ∈ lw_good) : (w.onTables && w.keeps) = true ∨ ∃ ty, w = .arrayClass ty := good_of_word (List.mem_filter.mp h).2
def nl_slot : Cond := .methodLinkNest RX1 44 yX5_slot RX5
/-- the pure state: the arrays by cell and place, the int fields by number -/
abbrev MS : Type := (Nat → Nat → Int32) × (Nat → Int32)
def sA (σ : MS) (k i : Nat) (x : Int32) : MS := (va_up σ.1 k (upd (σ.1 k) i x), σ.2)
def sZ (σ : MS) (k : Nat) (x : Int32) : MS := (σ.1, va_up σ.2 k x)
abbrev gi (i : Int32) (n : Nat) : Prop := ¬ (i < 0 ∨ n ≤ i.toNatClampNeg)
theorem gpos {α : Type} {c : Prop} [Decidable c] {a b : Option α} {r : α} (hc : c) (h : (if c then a else b) = some r) : a = some r := by rwa [if_pos hc] at h
theorem gneg {α : Type} {c : Prop} [Decidable c] {a b : Option α} {r : α} (hc : ¬ c) (h : (if c then a else b) = some r) : b = some r := by rwa [if_neg hc] at h
theorem gsplit {α : Type} {c : Prop} [Decidable c] {a : Option α} {r : α} (h : (if c then a else none) = some r) : c ∧ a = some r := by
  by_cases hc : c
  · exact ⟨hc, gpos hc h⟩
  · rw [if_neg hc] at h; cases h
theorem gbind {α β : Type} {o : Option α} {f : α → Option β} {r : β} (h : o.bind f = some r) : ∃ q, o = some q ∧ f q = some r := by
  cases o with
  | none => cases h
  | some q => exact ⟨q, rfl, h⟩
/-- what stays the same all through a method -/
def Cx (own : String) (cc : ByteArray) (D : va_G) (cI cZ : ClassId) (p : Program) (s : State) (m : MethodId) (args : Array Value) (c : Code) : Prop :=
  p.tables.exec = Jvm.exec ∧ c.code = cc ∧ s.vm.findClass own = some m.cls ∧ (∀ w ∈ lw_good, w.before args s = true) ∧ va_K D vwCl [(cI, .int), (cZ, .boolean)] s ∧ va_Nw nl_slot s
section CX
variable {own : String} {cc : ByteArray} {D : va_G} {cI cZ : ClassId} {p : Program} {s : State} {m : MethodId} {args : Array Value} {c : Code}
theorem Cx.hx (C : Cx own cc D cI cZ p s m args c) : p.tables.exec = Jvm.exec := C.1
theorem Cx.hb (C : Cx own cc D cI cZ p s m args c) : c.code = cc := C.2.1
theorem Cx.hown (C : Cx own cc D cI cZ p s m args c) : s.vm.findClass own = some m.cls := C.2.2.1
theorem Cx.hts (C : Cx own cc D cI cZ p s m args c) : ∀ w ∈ lw_good, w.before args s = true := C.2.2.2.1
theorem Cx.hK (C : Cx own cc D cI cZ p s m args c) : va_K D vwCl [(cI, .int), (cZ, .boolean)] s := C.2.2.2.2.1
theorem Cx.hN (C : Cx own cc D cI cZ p s m args c) : va_Nw nl_slot s := C.2.2.2.2.2
end CX
/-- a contract: on the world of σ with these arguments the method answers r, and the world is that of σ' -/
def gPre (wd : MS → va_W) (D : va_G) (cI cZ : ClassId) (av : List Value) (σ : MS) : Array Value → State → Prop := va_Pc av (fun U => va_P D vwCl (wd σ) U.heap ∧ va_K D vwCl [(cI, .int), (cZ, .boolean)] U ∧ va_Nw nl_slot U)
def gQi (wd : MS → va_W) (Ad : Nat → Prop) (D : va_G) (r : Int32) (σ' : MS) : Array Value → State → Outcome → State → Prop := va_Qi (fun (x : Int32) (_ : Unit) => x = r) (fun _ t => va_P D vwCl (wd σ') t.heap) Ad
def gQv (wd : MS → va_W) (Ad : Nat → Prop) (D : va_G) (σ' : MS) : Array Value → State → Outcome → State → Prop := va_Qv (fun (_ : Unit) => True) (fun _ t => va_P D vwCl (wd σ') t.heap) Ad
def gRm (f n : Nat) : Room := { frames := f, cells := 0, slots := 0, locals := n }
def gMet (wd : MS → va_W) (Ad : Nat → Prop) (l : Launch) (D : va_G) (cI cZ : ClassId) (y : MethodName) (cc : ByteArray) (n : Nat) (ret : Option FieldType) (f k : Nat) (av : List Value) (σ : MS) (r : Int32) (σ' : MS) : Prop :=
  Met l y (.code y cc n ret :: lw_good) (gRm f k) (gPre wd D cI cZ av σ) (gQi wd Ad D r σ') 0 0 Ad
def gMetV (wd : MS → va_W) (Ad : Nat → Prop) (l : Launch) (D : va_G) (cI cZ : ClassId) (y : MethodName) (cc : ByteArray) (n : Nat) (f k : Nat) (av : List Value) (σ : MS) (σ' : MS) : Prop :=
  Met l y (.code y cc n none :: lw_good) (gRm f k) (gPre wd D cI cZ av σ) (gQv wd Ad D σ') 0 0 Ad
theorem gPre_blind {wd : MS → va_W} {D : va_G} {cI cZ : ClassId} {av : List Value} {σ : MS} : FrameBlind (gPre wd D cI cZ av σ) := by
  intro a U g mk q
  obtain ⟨q0, q1, q2, q3⟩ := q
  exact ⟨q0, q1, va_K.moved (u := U) (U := U.calling g mk a) (Vm.Alike.refl U.vm) q2, va_Nw.same rfl (u := U) rfl q3⟩
theorem gGood {y : MethodName} {cc : ByteArray} {n : Nat} {ret : Option FieldType} {big : List Cond} (hbig : ∀ w ∈ lw_good, w ∈ big) (hy : Cond.code y cc n ret ∈ lw_good) : GoodIn big (Cond.code y cc n ret :: lw_good) := by
  intro w hw
  rcases List.mem_cons.mp hw with h | h
  · subst h
    exact ⟨hbig _ hy, good_ok hy⟩
  · exact ⟨hbig _ h, good_ok h⟩
theorem gEnt {wd : MS → va_W} {Ad : Nat → Prop} {l : Launch} {D : va_G} {cI cZ : ClassId} {y : MethodName} {cc : ByteArray} {n : Nat} {ret : Option FieldType} {f k : Nat} {av : List Value} {σ : MS} {Qc : Array Value → State → Outcome → State → Prop} (hy : plainName y.cls = true) (hn : (lg_sl av).length ≤ n)
    (body : ∀ (p : Program) (e : Env) (s : State) (m : MethodId) (below : List Frame) (meth : Method) (c : Code) (ls : Array Slot), Cx y.cls cc D cI cZ p s m av.toArray c → c.maxLocals = n → meth.sig.returnType = ret → meth.locks = false → va_P D vwCl (wd σ) s.heap → lv_has ls n (lv_args 0 av) →
      W p l e (gRm f k) s m av.toArray below meth c s.heap [] 0 0 (MQ below Qc av.toArray s 0 0 Ad) (F0 m 0 ls [])) : Met l y (.code y cc n ret :: lw_good) (gRm f k) (gPre wd D cI cZ av σ) Qc 0 0 Ad := by
  refine Met.ofW (cc := cc) (maxL := n) (ret := ret) hy rfl ?_
  intro p e s m args below meth c s₁ B hml hv
  obtain ⟨rfl, hP, hK, hN⟩ := hv
  have hts := atoms_spec (ws := .code y cc n ret :: lw_good) B.pre
  have hl := lv_entry av (n := n) hn
  rw [lg_entry_eq]
  exact body p e s m below meth c _ ⟨B.exec, B.bytes, findClass_of_methodNamed B.named, fun w h => hts w (List.mem_cons_of_mem _ h), hK, hN⟩ hml B.returns B.notSynchronized hP hl
section GW
variable {own : String} {cc : ByteArray} {D : va_G} {cI cZ : ClassId} {p : Program} {l : Launch} {e : Env} {R : Room} {s : State} {m : MethodId} {args : Array Value} {below : List Frame} {meth : Method} {c : Code} {H : Heap} {locs : List Loc} {cells slots : Nat} {Q : State → Prop} {pc : Nat} {ls : Array Slot} {rest : List Value} {H0 : Heap} {Ad : Nat → Prop} {ws : va_W} {a : Nat}
theorem gx_get (C : Cx own cc D cI cZ p s m args c) (hP : va_P D vwCl ws H) {X : String} {T : u_T} {N ci index : Nat} {fs : List Value} (q0 : Nat) (he : ws[q0]? = some (a, .inr (ci, fs))) (hc : vwCl[ci]? = some (X, T, N)) (hin : ∀ w ∈ u_ws X T N, w ∈ lw_good) (k : Nat) (hk : k < N) (hlink : Cond.fieldLink own index (T k).1 (T k).2.1 (T k).2.2.1 ∈ lw_good) {v : Value} (hv : fs[k]? = some v) (hdg : decode cc pc = .ok (.getfield index, 3))
    (kk : W p l e R s m args below meth c H locs cells slots Q (F0 m (pc + 3) ls (v :: rest))) : W p l e R s m args below meth c H locs cells slots Q (F0 m pc ls (.ref a :: rest)) :=
  va_get C.hx C.hb C.hts hin C.hown C.hK hP q0 he hc k hk (C.hts _ hlink) (fun _ h => h) hv hdg kk
theorem gx_put (C : Cx own cc D cI cZ p s m args c) (hP : va_P D vwCl ws H) (hD : va_D Ad ws) (hS : va_S Ad H0 H locs) {X : String} {T : u_T} {N ci index : Nat} {fs : List Value} (q0 : Nat) (he : ws[q0]? = some (a, .inr (ci, fs))) (hc : vwCl[ci]? = some (X, T, N)) (hin : ∀ w ∈ u_ws X T N, w ∈ lw_good) (ty0 : Nat → FieldType) (hty : ∀ k, k < N → parseFieldDescriptor (T k).2.2.1 = some (ty0 k)) (hnm : ∀ a, a < N → ∀ b, b < N → a ≠ b → (T a).2.1 ≠ (T b).2.1) (k : Nat) (hk : k < N) (hlink : Cond.fieldLink own index (T k).1 (T k).2.1 (T k).2.2.1 ∈ lw_good) (hfin : (T k).2.2.2 = false) (hd : parseFieldDescriptor (T k).2.2.1 = some .int) {x : Int32} (hl : k < fs.length) (hdg : decode cc pc = .ok (.putfield index, 3))
    (kk : ∀ (H1 : Heap) (locs1 : List Loc), va_P D vwCl (ws.set q0 (a, .inr (ci, fs.set k (.int x)))) H1 → va_S Ad H0 H1 locs1 → W p l e R s m args below meth c H1 locs1 cells slots Q (F0 m (pc + 3) ls rest)) : W p l e R s m args below meth c H locs cells slots Q (F0 m pc ls (.int x :: .ref a :: rest)) :=
  va_put (ty := .int) C.hx C.hb C.hts hin ty0 hty hnm C.hown C.hK hP hD hS q0 he hc k hk (C.hts _ hlink) (fun _ h => h) hfin hd rfl rfl hl hdg (fun H1 locs1 h1 _ h3 => kk H1 locs1 h1 h3)
variable {wd : MS → va_W} {σ' : MS}
theorem gRetI {r : Int32} (C : Cx own cc D cI cZ p s m args c) (hr : meth.sig.returnType = some .int) (hlocks : meth.locks = false) (hP : va_P D vwCl (wd σ') H) (hS : va_S Ad s.heap H locs) (hdg : decode cc pc = .ok (.ireturn, 1)) : W p l e R s m args below meth c H locs 0 0 (MQ below (gQi wd Ad D r σ') args s 0 0 Ad) (F0 m pc ls [.int r]) :=
  W.iret C.hx C.hb hr (fun t ht _ => ⟨⟨r, (), rfl, rfl, (ht.symm ▸ hP : va_P D vwCl (wd σ') t.heap)⟩, hS.F ht⟩) hS.2.2 hdg hlocks
theorem gRetZ {r : Int32} (C : Cx own cc D cI cZ p s m args c) (hr : meth.sig.returnType = some .boolean) (hlocks : meth.locks = false) (hn : vp_nar .boolean r = r) (hP : va_P D vwCl (wd σ') H) (hS : va_S Ad s.heap H locs) (hdg : decode cc pc = .ok (.ireturn, 1)) : W p l e R s m args below meth c H locs 0 0 (MQ below (gQi wd Ad D r σ') args s 0 0 Ad) (F0 m pc ls [.int r]) :=
  W.zret C.hx C.hb hr (by have h : narrow .boolean (.int r) = .int (vp_nar .boolean r) := rfl
                          rw [h, hn]) (fun t ht _ => ⟨⟨r, (), rfl, rfl, (ht.symm ▸ hP : va_P D vwCl (wd σ') t.heap)⟩, hS.F ht⟩) hS.2.2 hdg hlocks
theorem gRetV (C : Cx own cc D cI cZ p s m args c) (hr : meth.sig.returnType = none) (hlocks : meth.locks = false) (hP : va_P D vwCl (wd σ') H) (hS : va_S Ad s.heap H locs) (hdg : decode cc pc = .ok (.return_, 1)) : W p l e R s m args below meth c H locs 0 0 (MQ below (gQv wd Ad D σ') args s 0 0 Ad) (F0 m pc ls []) :=
  W.vret C.hx C.hb hr (fun t ht _ => ⟨⟨(), rfl, trivial, (ht.symm ▸ hP : va_P D vwCl (wd σ') t.heap)⟩, hS.F ht⟩) hS.2.2 hdg hlocks
variable {σ : MS} {y : MethodName} {bytes : ByteArray} {maxL nL n index f k : Nat} {ret : Option FieldType} {X : String} {b : Addr} {As : List Value} {r : Int32} {Qw : Array Value → State → Outcome → State → Prop}
/-- a virtual call within one world -/
theorem gRunV (C : Cx own cc D cI cZ p s m args c) (hml : c.maxLocals = nL) (hsz : ls.size = nL) (hM : Met l y (.code y bytes maxL ret :: lw_good) (gRm f k) (gPre wd D cI cZ (.ref b :: As) σ) Qw 0 0 Ad)
    (h1 : Cond.methodLink own index y ∈ lw_good) (h2 : Cond.instanceMethod y ∈ lw_good) (h3 : Cond.selects X y y ∈ lw_good) (h4 : Cond.initialized X ∈ lw_good) (h5 : Cond.code y bytes maxL ret ∈ lw_good)
    (hd : y.cls = X ∧ y.cls ≠ "java/lang/invoke/MethodHandle" ∧ y.cls ≠ "java/lang/invoke/VarHandle" ∧ (parseMethodDescriptor y.desc).map (fun d => d.parameters.length) = some n) (hR : f + 1 ≤ R.frames ∧ 8 + (maxL + 11) + k ≤ R.locals)
    (hP : va_P D vwCl (wd σ) H) {q0 ci : Nat} {q : vw_C} {fs : List Value} (hc : vwCl[ci]? = some q) (hq : q.1 = X) (he : (wd σ)[q0]? = some (b, .inr (ci, fs))) (hn : As.length = n) (hW : ((rest.map fun v => v.category).sum ≤ 8)) (hdg : decode cc pc = .ok (.invokevirtual index, 3)) (hf : cells ≤ R.cells ∧ slots ≤ R.slots) :
    va_Run p l e R s m args below meth c H locs cells slots 0 0 (F0 m pc ls (As.reverse ++ .ref b :: rest)) rest (Qw (Value.ref b :: As).toArray) Ad := by
  refine va_runV (C := X) (As := As) (rest := rest) (nL := nL) ⟨C.hx, C.hb, hml, C.hown, C.hts⟩ hM (cwV n C.hts ?_ rfl rfl rfl hd hR) ⟨gPre_blind, ?_, ?_⟩ rfl hn hsz rfl (lv_room hW) hdg hf
  · intro w hw
    rcases List.mem_append.mp hw with h | h
    · simp only [List.mem_cons, List.not_mem_nil, or_false] at h
      rcases h with h | h | h | h <;> subst h
      · exact ⟨h1, good_ok h1⟩
      · exact ⟨h2, good_ok h2⟩
      · exact ⟨h3, good_ok h3⟩
      · exact ⟨h4, good_ok h4⟩
    · exact gGood (fun _ h => h) h5 w h
  · have := va_recv C.hK hP hc he
    rwa [hq] at this
  · intro U hU hW
    exact ⟨rfl, by rw [hU]; exact hP, va_K.moved hW.alike C.hK, va_Nw.warmM hW C.hN⟩
theorem gCallV (C : Cx own cc D cI cZ p s m args c) (hml : c.maxLocals = nL) (hsz : ls.size = nL) (hS : va_S Ad H0 H locs) (hM : gMet wd Ad l D cI cZ y bytes maxL ret f k (.ref b :: As) σ r σ')
    (h1 : Cond.methodLink own index y ∈ lw_good) (h2 : Cond.instanceMethod y ∈ lw_good) (h3 : Cond.selects X y y ∈ lw_good) (h4 : Cond.initialized X ∈ lw_good) (h5 : Cond.code y bytes maxL ret ∈ lw_good)
    (hd : y.cls = X ∧ y.cls ≠ "java/lang/invoke/MethodHandle" ∧ y.cls ≠ "java/lang/invoke/VarHandle" ∧ (parseMethodDescriptor y.desc).map (fun d => d.parameters.length) = some n) (hR : f + 1 ≤ R.frames ∧ 8 + (maxL + 11) + k ≤ R.locals)
    (hP : va_P D vwCl (wd σ) H) (q0 ci : Nat) {q : vw_C} {fs : List Value} (hc : vwCl[ci]? = some q) (hq : q.1 = X) (he : (wd σ)[q0]? = some (b, .inr (ci, fs))) {st : List Value} (hst : st = As.reverse ++ .ref b :: rest) (hn : As.length = n) (hW : ((rest.map fun v => v.category).sum ≤ 8)) (hdg : decode cc pc = .ok (.invokevirtual index, 3)) (hf : cells ≤ R.cells ∧ slots ≤ R.slots)
    (kk : ∀ (H1 : Heap) (locs1 : List Loc), va_P D vwCl (wd σ') H1 → va_S Ad H0 H1 locs1 → W p l e R s m args below meth c H1 locs1 cells slots Q (F0 m (pc + 3) ls (.int r :: rest))) : W p l e R s m args below meth c H locs cells slots Q (F0 m pc ls st) := by
  subst hst
  refine va_calli (A1 := Ad) (gRunV C hml hsz hM h1 h2 h3 h4 h5 hd hR hP hc hq he hn hW hdg hf) hS (fun q _ h => h) (fun q h => h) (fun r1 u t H1 locs1 ht hvm hw hB hz1 hk1 hS1 => ?_)
  subst hw
  exact kk H1 locs1 (ht ▸ (hB : va_P D vwCl (wd σ') t.heap)) hS1
theorem gCallVv (C : Cx own cc D cI cZ p s m args c) (hml : c.maxLocals = nL) (hsz : ls.size = nL) (hS : va_S Ad H0 H locs) (hM : gMetV wd Ad l D cI cZ y bytes maxL f k (.ref b :: As) σ σ')
    (h1 : Cond.methodLink own index y ∈ lw_good) (h2 : Cond.instanceMethod y ∈ lw_good) (h3 : Cond.selects X y y ∈ lw_good) (h4 : Cond.initialized X ∈ lw_good) (h5 : Cond.code y bytes maxL none ∈ lw_good)
    (hd : y.cls = X ∧ y.cls ≠ "java/lang/invoke/MethodHandle" ∧ y.cls ≠ "java/lang/invoke/VarHandle" ∧ (parseMethodDescriptor y.desc).map (fun d => d.parameters.length) = some n) (hR : f + 1 ≤ R.frames ∧ 8 + (maxL + 11) + k ≤ R.locals)
    (hP : va_P D vwCl (wd σ) H) (q0 ci : Nat) {q : vw_C} {fs : List Value} (hc : vwCl[ci]? = some q) (hq : q.1 = X) (he : (wd σ)[q0]? = some (b, .inr (ci, fs))) {st : List Value} (hst : st = As.reverse ++ .ref b :: rest) (hn : As.length = n) (hW : ((rest.map fun v => v.category).sum ≤ 8)) (hdg : decode cc pc = .ok (.invokevirtual index, 3)) (hf : cells ≤ R.cells ∧ slots ≤ R.slots)
    (kk : ∀ (H1 : Heap) (locs1 : List Loc), va_P D vwCl (wd σ') H1 → va_S Ad H0 H1 locs1 → W p l e R s m args below meth c H1 locs1 cells slots Q (F0 m (pc + 3) ls rest)) : W p l e R s m args below meth c H locs cells slots Q (F0 m pc ls st) := by
  subst hst
  refine va_callv (A1 := Ad) (gRunV C hml hsz hM h1 h2 h3 h4 h5 hd hR hP hc hq he hn hW hdg hf) hS (fun q _ h => h) (fun q h => h) (fun u t H1 locs1 ht hvm hw hB hz1 hk1 hS1 => ?_)
  exact kk H1 locs1 (ht ▸ (hB : va_P D vwCl (wd σ') t.heap)) hS1
/-- a static call of one's own class -/
theorem gCallS (C : Cx own cc D cI cZ p s m args c) (hml : c.maxLocals = nL) (hsz : ls.size = nL) (hS : va_S Ad H0 H locs) (hM : gMet wd Ad l D cI cZ y bytes maxL ret f k As σ r σ')
    (h1 : Cond.methodLink own index y ∈ lw_good) (h2 : Cond.static y ∈ lw_good) (h4 : Cond.initialized own ∈ lw_good) (h5 : Cond.code y bytes maxL ret ∈ lw_good)
    (hd : y.cls = own ∧ y.cls ≠ "java/lang/invoke/MethodHandle" ∧ y.cls ≠ "java/lang/invoke/VarHandle" ∧ (parseMethodDescriptor y.desc).map (fun d => d.parameters.length) = some n) (hR : f + 1 ≤ R.frames ∧ 8 + (maxL + 11) + k ≤ R.locals)
    (hP : va_P D vwCl (wd σ) H) {st : List Value} (hst : st = As.reverse ++ rest) (hn : As.length = n) (hW : ((rest.map fun v => v.category).sum ≤ 8)) (hdg : decode cc pc = .ok (.invokestatic index, 3)) (hf : cells ≤ R.cells ∧ slots ≤ R.slots)
    (kk : ∀ (H1 : Heap) (locs1 : List Loc), va_P D vwCl (wd σ') H1 → va_S Ad H0 H1 locs1 → W p l e R s m args below meth c H1 locs1 cells slots Q (F0 m (pc + 3) ls (.int r :: rest))) : W p l e R s m args below meth c H locs cells slots Q (F0 m pc ls st) := by
  subst hst
  refine va_calli (A1 := Ad) (va_runS (As := As) (rest := rest) (nL := nL) ⟨C.hx, C.hb, hml, C.hown, C.hts⟩ hM (cwS n C.hts ?_ rfl rfl rfl hd hR) ⟨gPre_blind, ?_⟩ rfl hn hsz rfl (lv_room hW) hdg hf) hS (fun q _ h => h) (fun q h => h) (fun r1 u t H1 locs1 ht hvm hw hB hz1 hk1 hS1 => ?_)
  · intro w hw
    rcases List.mem_append.mp hw with h | h
    · simp only [List.mem_cons, List.not_mem_nil, or_false] at h
      rcases h with h | h | h <;> subst h
      · exact ⟨h1, good_ok h1⟩
      · exact ⟨h2, good_ok h2⟩
      · exact ⟨h4, good_ok h4⟩
    · exact gGood (fun _ h => h) h5 w h
  · intro U hU hW
    exact ⟨rfl, by rw [hU]; exact hP, va_K.moved hW.alike C.hK, va_Nw.warmM hW C.hN⟩
  · subst hw
    exact kk H1 locs1 (ht ▸ (hB : va_P D vwCl (wd σ') t.heap)) hS1
/-- the one static call of a nest mate -/
theorem gCallN (C : Cx RX1 cc D cI cZ p s m args c) (hml : c.maxLocals = nL) (hsz : ls.size = nL) (hS : va_S Ad H0 H locs) (hM : gMet wd Ad l D cI cZ yX5_slot bytes maxL ret f k As σ r σ')
    (h2 : Cond.static yX5_slot ∈ lw_good) (h4 : Cond.initialized RX5 ∈ lw_good) (h5 : Cond.code yX5_slot bytes maxL ret ∈ lw_good) (hn : As.length = 2) (hR : f + 1 ≤ R.frames ∧ 8 + (maxL + 11) + k ≤ R.locals)
    (hP : va_P D vwCl (wd σ) H) {st : List Value} (hst : st = As.reverse ++ rest) (hW : ((rest.map fun v => v.category).sum ≤ 8)) (hdg : decode cc pc = .ok (.invokestatic 44, 3)) (hf : cells ≤ R.cells ∧ slots ≤ R.slots)
    (kk : ∀ (H1 : Heap) (locs1 : List Loc), va_P D vwCl (wd σ') H1 → va_S Ad H0 H1 locs1 → W p l e R s m args below meth c H1 locs1 cells slots Q (F0 m (pc + 3) ls (.int r :: rest))) : W p l e R s m args below meth c H locs cells slots Q (F0 m pc ls st) := by
  subst hst
  refine va_calli (A1 := Ad) (va_runSN (As := As) (rest := rest) (nL := nL) (host := RX5) ⟨C.hx, C.hb, hml, C.hown, C.hts⟩ hM ⟨va_cnB 2 C.hts (gGood (fun _ h => h) h5) rfl rfl rfl C.hN (C.hts _ h4) (by decide +kernel) hR, C.hts _ h2, trivial⟩ ⟨gPre_blind, ?_⟩ rfl hn hsz rfl (lv_room hW) hdg hf) hS (fun q _ h => h) (fun q h => h) (fun r1 u t H1 locs1 ht hvm hw hB hz1 hk1 hS1 => ?_)
  · intro U hU hW
    exact ⟨rfl, by rw [hU]; exact hP, va_K.moved hW.alike C.hK, va_Nw.warmM hW C.hN⟩
  · subst hw
    exact kk H1 locs1 (ht ▸ (hB : va_P D vwCl (wd σ') t.heap)) hS1
end GW
/-- switches -/
theorem sw_ne {x v : Int32} {k : Int} (hk : v.toInt = k) (h : ¬ x = v) : x.toInt ≠ k := fun e => h (Int32.toInt_inj.mp (e.trans hk.symm))
theorem sw_lk2 {v0 v1 o0 o1 d x : Int} (h0 : x ≠ v0) (h1 : x ≠ v1) : Op.lookupswitch.offset [(v0, o0), (v1, o1)] d x = d := by
  simp [Op.lookupswitch.offset, Ne.symm h0, Ne.symm h1, h0, h1]
theorem iX0 : ∀ w ∈ u_ws RX0 TX0 6, w ∈ lw_good := by decide +kernel
theorem iX1 : ∀ w ∈ u_ws RX1 TX1 8, w ∈ lw_good := by decide +kernel
theorem iX2 : ∀ w ∈ u_ws RX2 TX2 6, w ∈ lw_good := by decide +kernel
theorem iX3 : ∀ w ∈ u_ws RX3 TX3 2, w ∈ lw_good := by decide +kernel
theorem iX4 : ∀ w ∈ u_ws RX4 TX4 3, w ∈ lw_good := by decide +kernel
theorem iX5 : ∀ w ∈ u_ws RX5 TX5 7, w ∈ lw_good := by decide +kernel
theorem iX6 : ∀ w ∈ u_ws RX6 TX6 33, w ∈ lw_good := by decide +kernel
theorem k_0 : Cond.selects "ModuleLoaders" ⟨"ModuleLoaders", "ask", "(III)I"⟩ ⟨"ModuleLoaders", "ask", "(III)I"⟩ ∈ lw_good := in_good (List.mem_of_getElem? (i := 0) rfl) rfl
theorem k_1 : Cond.selects "ModuleLoaders" ⟨"ModuleLoaders", "askLibrary", "(III)I"⟩ ⟨"ModuleLoaders", "askLibrary", "(III)I"⟩ ∈ lw_good := in_good (List.mem_of_getElem? (i := 1) rfl) rfl
theorem k_2 : Cond.selects "ModuleLoaders" ⟨"ModuleLoaders", "make", "(IIII)I"⟩ ⟨"ModuleLoaders", "make", "(IIII)I"⟩ ∈ lw_good := in_good (List.mem_of_getElem? (i := 2) rfl) rfl
theorem k_3 : Cond.selects "ModuleLoaders" ⟨"ModuleLoaders", "failureAhead", "(III)I"⟩ ⟨"ModuleLoaders", "failureAhead", "(III)I"⟩ ∈ lw_good := in_good (List.mem_of_getElem? (i := 3) rfl) rfl
theorem k_4 : Cond.selects "ModuleLoaders" ⟨"ModuleLoaders", "stand", "(IIII)I"⟩ ⟨"ModuleLoaders", "stand", "(IIII)I"⟩ ∈ lw_good := in_good (List.mem_of_getElem? (i := 4) rfl) rfl
theorem k_5 : Cond.selects "ModuleLoaders" ⟨"ModuleLoaders", "beginFrom", "(I)I"⟩ ⟨"ModuleLoaders", "beginFrom", "(I)I"⟩ ∈ lw_good := in_good (List.mem_of_getElem? (i := 5) rfl) rfl
theorem k_6 : Cond.selects "ModuleLoaders" ⟨"ModuleLoaders", "comeTo", "(I)I"⟩ ⟨"ModuleLoaders", "comeTo", "(I)I"⟩ ∈ lw_good := in_good (List.mem_of_getElem? (i := 6) rfl) rfl
theorem k_7 : Cond.selects "ModuleLoaders" ⟨"ModuleLoaders", "goOn", "(I)I"⟩ ⟨"ModuleLoaders", "goOn", "(I)I"⟩ ∈ lw_good := in_good (List.mem_of_getElem? (i := 7) rfl) rfl
theorem k_8 : Cond.selects "ModuleLoaders" ⟨"ModuleLoaders", "comeToNeed", "(I)I"⟩ ⟨"ModuleLoaders", "comeToNeed", "(I)I"⟩ ∈ lw_good := in_good (List.mem_of_getElem? (i := 8) rfl) rfl
theorem k_9 : Cond.selects "ModuleLoaders" ⟨"ModuleLoaders", "beginItself", "(I)I"⟩ ⟨"ModuleLoaders", "beginItself", "(I)I"⟩ ∈ lw_good := in_good (List.mem_of_getElem? (i := 9) rfl) rfl
theorem k_10 : Cond.selects "ModuleLoaders" ⟨"ModuleLoaders", "markHeld", "()V"⟩ ⟨"ModuleLoaders", "markHeld", "()V"⟩ ∈ lw_good := in_good (List.mem_of_getElem? (i := 10) rfl) rfl
theorem k_11 : Cond.selects "ModuleLoaders" ⟨"ModuleLoaders", "markHeldBy", "(I)V"⟩ ⟨"ModuleLoaders", "markHeldBy", "(I)V"⟩ ∈ lw_good := in_good (List.mem_of_getElem? (i := 11) rfl) rfl
theorem k_12 : Cond.selects "ModuleLoadersModel" ⟨"ModuleLoadersModel", "isLoader", "(I)Z"⟩ ⟨"ModuleLoadersModel", "isLoader", "(I)Z"⟩ ∈ lw_good := in_good (List.mem_of_getElem? (i := 12) rfl) rfl
theorem k_13 : Cond.selects "ModuleLoadersModel" ⟨"ModuleLoadersModel", "isFile", "(I)Z"⟩ ⟨"ModuleLoadersModel", "isFile", "(I)Z"⟩ ∈ lw_good := in_good (List.mem_of_getElem? (i := 13) rfl) rfl
theorem k_14 : Cond.selects "ModuleLoadersModel" ⟨"ModuleLoadersModel", "does", "(IIIZ)I"⟩ ⟨"ModuleLoadersModel", "does", "(IIIZ)I"⟩ ∈ lw_good := in_good (List.mem_of_getElem? (i := 14) rfl) rfl
theorem k_15 : Cond.selects "ModuleLoadersModel" ⟨"ModuleLoadersModel", "push", "(IIIZ)V"⟩ ⟨"ModuleLoadersModel", "push", "(IIIZ)V"⟩ ∈ lw_good := in_good (List.mem_of_getElem? (i := 15) rfl) rfl
theorem k_16 : Cond.selects "ModuleLoadersModel" ⟨"ModuleLoadersModel", "runs", "()I"⟩ ⟨"ModuleLoadersModel", "runs", "()I"⟩ ∈ lw_good := in_good (List.mem_of_getElem? (i := 16) rfl) rfl
theorem k_17 : Cond.selects "ModuleLoadersModel" ⟨"ModuleLoadersModel", "asks", "(II)V"⟩ ⟨"ModuleLoadersModel", "asks", "(II)V"⟩ ∈ lw_good := in_good (List.mem_of_getElem? (i := 17) rfl) rfl
theorem k_18 : Cond.selects "ModuleLoadersModel" ⟨"ModuleLoadersModel", "gives", "(I)V"⟩ ⟨"ModuleLoadersModel", "gives", "(I)V"⟩ ∈ lw_good := in_good (List.mem_of_getElem? (i := 18) rfl) rfl
theorem k_19 : Cond.selects "ModuleLoadersModel" ⟨"ModuleLoadersModel", "asksAbove", "(III)V"⟩ ⟨"ModuleLoadersModel", "asksAbove", "(III)V"⟩ ∈ lw_good := in_good (List.mem_of_getElem? (i := 19) rfl) rfl
theorem k_20 : Cond.selects "ModuleLoadersModel" ⟨"ModuleLoadersModel", "keeps", "(I)V"⟩ ⟨"ModuleLoadersModel", "keeps", "(I)V"⟩ ∈ lw_good := in_good (List.mem_of_getElem? (i := 20) rfl) rfl
theorem k_21 : Cond.selects "ModuleLoadersModel" ⟨"ModuleLoadersModel", "makes", "(III)V"⟩ ⟨"ModuleLoadersModel", "makes", "(III)V"⟩ ∈ lw_good := in_good (List.mem_of_getElem? (i := 21) rfl) rfl
theorem k_22 : Cond.selects "ModuleLoadersModel" ⟨"ModuleLoadersModel", "against", "(III)I"⟩ ⟨"ModuleLoadersModel", "against", "(III)I"⟩ ∈ lw_good := in_good (List.mem_of_getElem? (i := 22) rfl) rfl
theorem k_23 : Cond.selects "ModuleLoadersModel" ⟨"ModuleLoadersModel", "stands", "(III)V"⟩ ⟨"ModuleLoadersModel", "stands", "(III)V"⟩ ∈ lw_good := in_good (List.mem_of_getElem? (i := 23) rfl) rfl
theorem k_24 : Cond.selects "ModuleLoadersModel" ⟨"ModuleLoadersModel", "begins", "(II)V"⟩ ⟨"ModuleLoadersModel", "begins", "(II)V"⟩ ∈ lw_good := in_good (List.mem_of_getElem? (i := 24) rfl) rfl
theorem k_25 : Cond.selects "ModuleLoadersModel" ⟨"ModuleLoadersModel", "isModule", "(I)Z"⟩ ⟨"ModuleLoadersModel", "isModule", "(I)Z"⟩ ∈ lw_good := in_good (List.mem_of_getElem? (i := 25) rfl) rfl
theorem k_26 : Cond.selects "ModuleLoadersModel" ⟨"ModuleLoadersModel", "isThing", "(I)Z"⟩ ⟨"ModuleLoadersModel", "isThing", "(I)Z"⟩ ∈ lw_good := in_good (List.mem_of_getElem? (i := 26) rfl) rfl
theorem k_27 : Cond.selects "ModuleLoadersModel" ⟨"ModuleLoadersModel", "holds", "()V"⟩ ⟨"ModuleLoadersModel", "holds", "()V"⟩ ∈ lw_good := in_good (List.mem_of_getElem? (i := 27) rfl) rfl
theorem k_29 : Cond.initialized "ModuleLoaders" ∈ lw_good := in_good (List.mem_of_getElem? (i := 29) rfl) rfl
theorem k_30 : Cond.initialized "ModuleLoaders$Files" ∈ lw_good := in_good (List.mem_of_getElem? (i := 30) rfl) rfl
theorem k_31 : Cond.initialized "ModuleLoaders$Loaders" ∈ lw_good := in_good (List.mem_of_getElem? (i := 31) rfl) rfl
theorem k_33 : Cond.initialized "ModuleLoaders$Modules" ∈ lw_good := in_good (List.mem_of_getElem? (i := 33) rfl) rfl
theorem k_34 : Cond.initialized "ModuleLoaders$Things" ∈ lw_good := in_good (List.mem_of_getElem? (i := 34) rfl) rfl
theorem k_35 : Cond.initialized "ModuleLoaders$Row" ∈ lw_good := in_good (List.mem_of_getElem? (i := 35) rfl) rfl
theorem k_36 : Cond.initialized "ModuleLoadersModel" ∈ lw_good := in_good (List.mem_of_getElem? (i := 36) rfl) rfl
theorem k_51 : Cond.fieldLink "ModuleLoaders$Files" 9 "ModuleLoaders$Files" "inner" "[I" ∈ lw_good := in_good (List.mem_of_getElem? (i := 51) rfl) rfl
theorem k_52 : Cond.fieldLink "ModuleLoaders" 176 "ModuleLoaders$Files" "inner" "[I" ∈ lw_good := in_good (List.mem_of_getElem? (i := 52) rfl) rfl
theorem k_53 : Cond.fieldLink "ModuleLoaders$Files" 15 "ModuleLoaders$Files" "content" "[I" ∈ lw_good := in_good (List.mem_of_getElem? (i := 53) rfl) rfl
theorem k_54 : Cond.fieldLink "ModuleLoaders" 141 "ModuleLoaders$Files" "content" "[I" ∈ lw_good := in_good (List.mem_of_getElem? (i := 54) rfl) rfl
theorem k_55 : Cond.fieldLink "ModuleLoaders$Files" 18 "ModuleLoaders$Files" "parent" "[I" ∈ lw_good := in_good (List.mem_of_getElem? (i := 55) rfl) rfl
theorem k_56 : Cond.fieldLink "ModuleLoaders" 169 "ModuleLoaders$Files" "parent" "[I" ∈ lw_good := in_good (List.mem_of_getElem? (i := 56) rfl) rfl
theorem k_57 : Cond.fieldLink "ModuleLoaders$Files" 21 "ModuleLoaders$Files" "need" "[I" ∈ lw_good := in_good (List.mem_of_getElem? (i := 57) rfl) rfl
theorem k_58 : Cond.fieldLink "ModuleLoaders" 199 "ModuleLoaders$Files" "need" "[I" ∈ lw_good := in_good (List.mem_of_getElem? (i := 58) rfl) rfl
theorem k_59 : Cond.fieldLink "ModuleLoaders$Files" 24 "ModuleLoaders$Files" "flags" "[I" ∈ lw_good := in_good (List.mem_of_getElem? (i := 59) rfl) rfl
theorem k_60 : Cond.fieldLink "ModuleLoaders$Files" 27 "ModuleLoaders$Files" "size" "I" ∈ lw_good := in_good (List.mem_of_getElem? (i := 60) rfl) rfl
theorem k_61 : Cond.fieldLink "ModuleLoaders" 151 "ModuleLoaders$Files" "size" "I" ∈ lw_good := in_good (List.mem_of_getElem? (i := 61) rfl) rfl
theorem k_85 : Cond.fieldLink "ModuleLoaders$Loaders" 9 "ModuleLoaders$Loaders" "library" "[I" ∈ lw_good := in_good (List.mem_of_getElem? (i := 85) rfl) rfl
theorem k_86 : Cond.fieldLink "ModuleLoaders" 160 "ModuleLoaders$Loaders" "library" "[I" ∈ lw_good := in_good (List.mem_of_getElem? (i := 86) rfl) rfl
theorem k_87 : Cond.fieldLink "ModuleLoaders$Loaders" 15 "ModuleLoaders$Loaders" "ownFirst" "[Z" ∈ lw_good := in_good (List.mem_of_getElem? (i := 87) rfl) rfl
theorem k_88 : Cond.fieldLink "ModuleLoaders" 154 "ModuleLoaders$Loaders" "ownFirst" "[Z" ∈ lw_good := in_good (List.mem_of_getElem? (i := 88) rfl) rfl
theorem k_89 : Cond.fieldLink "ModuleLoaders$Loaders" 19 "ModuleLoaders$Loaders" "gone" "[Z" ∈ lw_good := in_good (List.mem_of_getElem? (i := 89) rfl) rfl
theorem k_90 : Cond.fieldLink "ModuleLoaders" 68 "ModuleLoaders$Loaders" "gone" "[Z" ∈ lw_good := in_good (List.mem_of_getElem? (i := 90) rfl) rfl
theorem k_92 : Cond.fieldLink "ModuleLoaders" 75 "ModuleLoaders$Loaders" "shelf" "[I" ∈ lw_good := in_good (List.mem_of_getElem? (i := 92) rfl) rfl
theorem k_93 : Cond.fieldLink "ModuleLoaders$Loaders" 25 "ModuleLoaders$Loaders" "made" "[I" ∈ lw_good := in_good (List.mem_of_getElem? (i := 93) rfl) rfl
theorem k_94 : Cond.fieldLink "ModuleLoaders" 87 "ModuleLoaders$Loaders" "made" "[I" ∈ lw_good := in_good (List.mem_of_getElem? (i := 94) rfl) rfl
theorem k_95 : Cond.fieldLink "ModuleLoaders$Loaders" 28 "ModuleLoaders$Loaders" "given" "[I" ∈ lw_good := in_good (List.mem_of_getElem? (i := 95) rfl) rfl
theorem k_96 : Cond.fieldLink "ModuleLoaders" 163 "ModuleLoaders$Loaders" "given" "[I" ∈ lw_good := in_good (List.mem_of_getElem? (i := 96) rfl) rfl
theorem k_98 : Cond.fieldLink "ModuleLoaders" 173 "ModuleLoaders$Loaders" "making" "[Z" ∈ lw_good := in_good (List.mem_of_getElem? (i := 98) rfl) rfl
theorem k_99 : Cond.fieldLink "ModuleLoaders$Loaders" 34 "ModuleLoaders$Loaders" "size" "I" ∈ lw_good := in_good (List.mem_of_getElem? (i := 99) rfl) rfl
theorem k_100 : Cond.fieldLink "ModuleLoaders" 152 "ModuleLoaders$Loaders" "size" "I" ∈ lw_good := in_good (List.mem_of_getElem? (i := 100) rfl) rfl
theorem k_125 : Cond.fieldLink "ModuleLoaders$Modules" 9 "ModuleLoaders$Modules" "maker" "[I" ∈ lw_good := in_good (List.mem_of_getElem? (i := 125) rfl) rfl
theorem k_126 : Cond.fieldLink "ModuleLoaders" 98 "ModuleLoaders$Modules" "maker" "[I" ∈ lw_good := in_good (List.mem_of_getElem? (i := 126) rfl) rfl
theorem k_127 : Cond.fieldLink "ModuleLoaders$Modules" 15 "ModuleLoaders$Modules" "name" "[I" ∈ lw_good := in_good (List.mem_of_getElem? (i := 127) rfl) rfl
theorem k_128 : Cond.fieldLink "ModuleLoaders" 132 "ModuleLoaders$Modules" "name" "[I" ∈ lw_good := in_good (List.mem_of_getElem? (i := 128) rfl) rfl
theorem k_129 : Cond.fieldLink "ModuleLoaders$Modules" 18 "ModuleLoaders$Modules" "file" "[I" ∈ lw_good := in_good (List.mem_of_getElem? (i := 129) rfl) rfl
theorem k_130 : Cond.fieldLink "ModuleLoaders" 144 "ModuleLoaders$Modules" "file" "[I" ∈ lw_good := in_good (List.mem_of_getElem? (i := 130) rfl) rfl
theorem k_131 : Cond.fieldLink "ModuleLoaders$Modules" 21 "ModuleLoaders$Modules" "parent" "[I" ∈ lw_good := in_good (List.mem_of_getElem? (i := 131) rfl) rfl
theorem k_132 : Cond.fieldLink "ModuleLoaders" 135 "ModuleLoaders$Modules" "parent" "[I" ∈ lw_good := in_good (List.mem_of_getElem? (i := 132) rfl) rfl
theorem k_133 : Cond.fieldLink "ModuleLoaders$Modules" 24 "ModuleLoaders$Modules" "state" "[I" ∈ lw_good := in_good (List.mem_of_getElem? (i := 133) rfl) rfl
theorem k_134 : Cond.fieldLink "ModuleLoaders" 138 "ModuleLoaders$Modules" "state" "[I" ∈ lw_good := in_good (List.mem_of_getElem? (i := 134) rfl) rfl
theorem k_135 : Cond.fieldLink "ModuleLoaders$Modules" 27 "ModuleLoaders$Modules" "size" "I" ∈ lw_good := in_good (List.mem_of_getElem? (i := 135) rfl) rfl
theorem k_136 : Cond.fieldLink "ModuleLoaders" 128 "ModuleLoaders$Modules" "size" "I" ∈ lw_good := in_good (List.mem_of_getElem? (i := 136) rfl) rfl
theorem k_156 : Cond.fieldLink "ModuleLoaders$Things" 9 "ModuleLoaders$Things" "kind" "[I" ∈ lw_good := in_good (List.mem_of_getElem? (i := 156) rfl) rfl
theorem k_157 : Cond.fieldLink "ModuleLoaders" 115 "ModuleLoaders$Things" "kind" "[I" ∈ lw_good := in_good (List.mem_of_getElem? (i := 157) rfl) rfl
theorem k_159 : Cond.fieldLink "ModuleLoaders" 112 "ModuleLoaders$Things" "dropped" "[Z" ∈ lw_good := in_good (List.mem_of_getElem? (i := 159) rfl) rfl
theorem k_160 : Cond.fieldLink "ModuleLoaders$Things" 19 "ModuleLoaders$Things" "size" "I" ∈ lw_good := in_good (List.mem_of_getElem? (i := 160) rfl) rfl
theorem k_161 : Cond.fieldLink "ModuleLoaders" 153 "ModuleLoaders$Things" "size" "I" ∈ lw_good := in_good (List.mem_of_getElem? (i := 161) rfl) rfl
theorem k_175 : Cond.fieldLink "ModuleLoaders$Row" 9 "ModuleLoaders$Row" "items" "[I" ∈ lw_good := in_good (List.mem_of_getElem? (i := 175) rfl) rfl
theorem k_176 : Cond.fieldLink "ModuleLoaders" 148 "ModuleLoaders$Row" "items" "[I" ∈ lw_good := in_good (List.mem_of_getElem? (i := 176) rfl) rfl
theorem k_177 : Cond.fieldLink "ModuleLoaders$Row" 15 "ModuleLoaders$Row" "size" "I" ∈ lw_good := in_good (List.mem_of_getElem? (i := 177) rfl) rfl
theorem k_178 : Cond.fieldLink "ModuleLoaders" 147 "ModuleLoaders$Row" "size" "I" ∈ lw_good := in_good (List.mem_of_getElem? (i := 178) rfl) rfl
theorem k_184 : Cond.fieldLink "ModuleLoaders" 12 "ModuleLoaders" "files" "LModuleLoaders$Files;" ∈ lw_good := in_good (List.mem_of_getElem? (i := 184) rfl) rfl
theorem k_185 : Cond.fieldLink "ModuleLoaders" 19 "ModuleLoaders" "loaders" "LModuleLoaders$Loaders;" ∈ lw_good := in_good (List.mem_of_getElem? (i := 185) rfl) rfl
theorem k_186 : Cond.fieldLink "ModuleLoaders" 26 "ModuleLoaders" "modules" "LModuleLoaders$Modules;" ∈ lw_good := in_good (List.mem_of_getElem? (i := 186) rfl) rfl
theorem k_187 : Cond.fieldLink "ModuleLoaders" 33 "ModuleLoaders" "things" "LModuleLoaders$Things;" ∈ lw_good := in_good (List.mem_of_getElem? (i := 187) rfl) rfl
theorem k_188 : Cond.fieldLink "ModuleLoaders" 40 "ModuleLoaders" "theOrder" "LModuleLoaders$Row;" ∈ lw_good := in_good (List.mem_of_getElem? (i := 188) rfl) rfl
theorem k_189 : Cond.fieldLink "ModuleLoaders" 44 "ModuleLoaders" "beginning" "LModuleLoaders$Row;" ∈ lw_good := in_good (List.mem_of_getElem? (i := 189) rfl) rfl
theorem k_190 : Cond.fieldLink "ModuleLoaders" 47 "ModuleLoaders" "heldModules" "[Z" ∈ lw_good := in_good (List.mem_of_getElem? (i := 190) rfl) rfl
theorem k_210 : Cond.methodLink "ModuleLoaders" 51 ⟨"ModuleLoaders", "isName", "(I)Z"⟩ ∈ lw_good := in_good (List.mem_of_getElem? (i := 210) rfl) rfl
theorem k_211 : Cond.static ⟨"ModuleLoaders", "isName", "(I)Z"⟩ ∈ lw_good := in_good (List.mem_of_getElem? (i := 211) rfl) rfl
theorem k_212 : Cond.code ⟨"ModuleLoaders", "isName", "(I)Z"⟩ prog_1_method_20_code 1 (some .boolean) ∈ lw_good := in_good (List.mem_of_getElem? (i := 212) rfl) rfl
theorem k_213 : Cond.methodLink "ModuleLoaders" 55 ⟨"ModuleLoaders", "isNameOrNone", "(I)Z"⟩ ∈ lw_good := in_good (List.mem_of_getElem? (i := 213) rfl) rfl
theorem k_214 : Cond.static ⟨"ModuleLoaders", "isNameOrNone", "(I)Z"⟩ ∈ lw_good := in_good (List.mem_of_getElem? (i := 214) rfl) rfl
theorem k_215 : Cond.code ⟨"ModuleLoaders", "isNameOrNone", "(I)Z"⟩ prog_1_method_21_code 1 (some .boolean) ∈ lw_good := in_good (List.mem_of_getElem? (i := 215) rfl) rfl
theorem k_216 : Cond.methodLink "ModuleLoaders" 58 ⟨"ModuleLoaders$Files", "add", "(IIIII)I"⟩ ∈ lw_good := in_good (List.mem_of_getElem? (i := 216) rfl) rfl
theorem k_217 : Cond.instanceMethod ⟨"ModuleLoaders$Files", "add", "(IIIII)I"⟩ ∈ lw_good := in_good (List.mem_of_getElem? (i := 217) rfl) rfl
theorem k_218 : Cond.selects "ModuleLoaders$Files" ⟨"ModuleLoaders$Files", "add", "(IIIII)I"⟩ ⟨"ModuleLoaders$Files", "add", "(IIIII)I"⟩ ∈ lw_good := in_good (List.mem_of_getElem? (i := 218) rfl) rfl
theorem k_219 : Cond.code ⟨"ModuleLoaders$Files", "add", "(IIIII)I"⟩ prog_2_method_4_code 6 (some .int) ∈ lw_good := in_good (List.mem_of_getElem? (i := 219) rfl) rfl
theorem k_224 : Cond.methodLink "ModuleLoaders" 62 ⟨"ModuleLoaders$Loaders", "has", "(I)Z"⟩ ∈ lw_good := in_good (List.mem_of_getElem? (i := 224) rfl) rfl
theorem k_225 : Cond.instanceMethod ⟨"ModuleLoaders$Loaders", "has", "(I)Z"⟩ ∈ lw_good := in_good (List.mem_of_getElem? (i := 225) rfl) rfl
theorem k_226 : Cond.selects "ModuleLoaders$Loaders" ⟨"ModuleLoaders$Loaders", "has", "(I)Z"⟩ ⟨"ModuleLoaders$Loaders", "has", "(I)Z"⟩ ∈ lw_good := in_good (List.mem_of_getElem? (i := 226) rfl) rfl
theorem k_227 : Cond.code ⟨"ModuleLoaders$Loaders", "has", "(I)Z"⟩ prog_3_method_2_code 2 (some .boolean) ∈ lw_good := in_good (List.mem_of_getElem? (i := 227) rfl) rfl
theorem k_228 : Cond.methodLink "ModuleLoaders" 65 ⟨"ModuleLoaders$Loaders", "isProgram", "(I)Z"⟩ ∈ lw_good := in_good (List.mem_of_getElem? (i := 228) rfl) rfl
theorem k_229 : Cond.instanceMethod ⟨"ModuleLoaders$Loaders", "isProgram", "(I)Z"⟩ ∈ lw_good := in_good (List.mem_of_getElem? (i := 229) rfl) rfl
theorem k_230 : Cond.selects "ModuleLoaders$Loaders" ⟨"ModuleLoaders$Loaders", "isProgram", "(I)Z"⟩ ⟨"ModuleLoaders$Loaders", "isProgram", "(I)Z"⟩ ∈ lw_good := in_good (List.mem_of_getElem? (i := 230) rfl) rfl
theorem k_231 : Cond.code ⟨"ModuleLoaders$Loaders", "isProgram", "(I)Z"⟩ prog_3_method_3_code 2 (some .boolean) ∈ lw_good := in_good (List.mem_of_getElem? (i := 231) rfl) rfl
theorem k_232 : Cond.methodLink "ModuleLoaders" 71 ⟨"ModuleLoaders$Loaders", "add", "(IZ)I"⟩ ∈ lw_good := in_good (List.mem_of_getElem? (i := 232) rfl) rfl
theorem k_233 : Cond.instanceMethod ⟨"ModuleLoaders$Loaders", "add", "(IZ)I"⟩ ∈ lw_good := in_good (List.mem_of_getElem? (i := 233) rfl) rfl
theorem k_234 : Cond.selects "ModuleLoaders$Loaders" ⟨"ModuleLoaders$Loaders", "add", "(IZ)I"⟩ ⟨"ModuleLoaders$Loaders", "add", "(IZ)I"⟩ ∈ lw_good := in_good (List.mem_of_getElem? (i := 234) rfl) rfl
theorem k_235 : Cond.code ⟨"ModuleLoaders$Loaders", "add", "(IZ)I"⟩ prog_3_method_4_code 3 (some .int) ∈ lw_good := in_good (List.mem_of_getElem? (i := 235) rfl) rfl
theorem k_240 : Cond.methodLink "ModuleLoaders" 74 ⟨"ModuleLoaders$Files", "has", "(I)Z"⟩ ∈ lw_good := in_good (List.mem_of_getElem? (i := 240) rfl) rfl
theorem k_241 : Cond.instanceMethod ⟨"ModuleLoaders$Files", "has", "(I)Z"⟩ ∈ lw_good := in_good (List.mem_of_getElem? (i := 241) rfl) rfl
theorem k_242 : Cond.selects "ModuleLoaders$Files" ⟨"ModuleLoaders$Files", "has", "(I)Z"⟩ ⟨"ModuleLoaders$Files", "has", "(I)Z"⟩ ∈ lw_good := in_good (List.mem_of_getElem? (i := 242) rfl) rfl
theorem k_243 : Cond.code ⟨"ModuleLoaders$Files", "has", "(I)Z"⟩ prog_2_method_2_code 2 (some .boolean) ∈ lw_good := in_good (List.mem_of_getElem? (i := 243) rfl) rfl
theorem k_244 : Cond.methodLink "ModuleLoaders" 79 ⟨"ModuleLoaders", "slot", "(II)I"⟩ ∈ lw_good := in_good (List.mem_of_getElem? (i := 244) rfl) rfl
theorem k_245 : Cond.static ⟨"ModuleLoaders", "slot", "(II)I"⟩ ∈ lw_good := in_good (List.mem_of_getElem? (i := 245) rfl) rfl
theorem k_246 : Cond.code ⟨"ModuleLoaders", "slot", "(II)I"⟩ prog_1_method_22_code 2 (some .int) ∈ lw_good := in_good (List.mem_of_getElem? (i := 246) rfl) rfl
theorem k_251 : Cond.methodLink "ModuleLoaders" 83 ⟨"ModuleLoaders", "ask", "(III)I"⟩ ∈ lw_good := in_good (List.mem_of_getElem? (i := 251) rfl) rfl
theorem k_253 : Cond.instanceMethod ⟨"ModuleLoaders", "ask", "(III)I"⟩ ∈ lw_good := in_good (List.mem_of_getElem? (i := 253) rfl) rfl
theorem k_254 : Cond.code ⟨"ModuleLoaders", "ask", "(III)I"⟩ prog_1_method_23_code 8 (some .int) ∈ lw_good := in_good (List.mem_of_getElem? (i := 254) rfl) rfl
theorem k_255 : Cond.methodLink "ModuleLoaders" 94 ⟨"ModuleLoaders$Loaders", "madeOrGiven", "(II)I"⟩ ∈ lw_good := in_good (List.mem_of_getElem? (i := 255) rfl) rfl
theorem k_256 : Cond.instanceMethod ⟨"ModuleLoaders$Loaders", "madeOrGiven", "(II)I"⟩ ∈ lw_good := in_good (List.mem_of_getElem? (i := 256) rfl) rfl
theorem k_257 : Cond.selects "ModuleLoaders$Loaders" ⟨"ModuleLoaders$Loaders", "madeOrGiven", "(II)I"⟩ ⟨"ModuleLoaders$Loaders", "madeOrGiven", "(II)I"⟩ ∈ lw_good := in_good (List.mem_of_getElem? (i := 257) rfl) rfl
theorem k_258 : Cond.code ⟨"ModuleLoaders$Loaders", "madeOrGiven", "(II)I"⟩ prog_3_method_5_code 4 (some .int) ∈ lw_good := in_good (List.mem_of_getElem? (i := 258) rfl) rfl
theorem k_260 : Cond.methodLink "ModuleLoaders" 157 ⟨"ModuleLoaders", "askLibrary", "(III)I"⟩ ∈ lw_good := in_good (List.mem_of_getElem? (i := 260) rfl) rfl
theorem k_262 : Cond.instanceMethod ⟨"ModuleLoaders", "askLibrary", "(III)I"⟩ ∈ lw_good := in_good (List.mem_of_getElem? (i := 262) rfl) rfl
theorem k_263 : Cond.code ⟨"ModuleLoaders", "askLibrary", "(III)I"⟩ prog_1_method_24_code 5 (some .int) ∈ lw_good := in_good (List.mem_of_getElem? (i := 263) rfl) rfl
theorem k_264 : Cond.methodLink "ModuleLoaders" 90 ⟨"ModuleLoaders", "make", "(IIII)I"⟩ ∈ lw_good := in_good (List.mem_of_getElem? (i := 264) rfl) rfl
theorem k_266 : Cond.instanceMethod ⟨"ModuleLoaders", "make", "(IIII)I"⟩ ∈ lw_good := in_good (List.mem_of_getElem? (i := 266) rfl) rfl
theorem k_267 : Cond.code ⟨"ModuleLoaders", "make", "(IIII)I"⟩ prog_1_method_25_code 10 (some .int) ∈ lw_good := in_good (List.mem_of_getElem? (i := 267) rfl) rfl
theorem k_268 : Cond.methodLink "ModuleLoaders" 166 ⟨"ModuleLoaders", "failureAhead", "(III)I"⟩ ∈ lw_good := in_good (List.mem_of_getElem? (i := 268) rfl) rfl
theorem k_270 : Cond.instanceMethod ⟨"ModuleLoaders", "failureAhead", "(III)I"⟩ ∈ lw_good := in_good (List.mem_of_getElem? (i := 270) rfl) rfl
theorem k_271 : Cond.code ⟨"ModuleLoaders", "failureAhead", "(III)I"⟩ prog_1_method_26_code 4 (some .int) ∈ lw_good := in_good (List.mem_of_getElem? (i := 271) rfl) rfl
theorem k_272 : Cond.methodLink "ModuleLoaders" 179 ⟨"ModuleLoaders$Files", "hasFlag", "(II)Z"⟩ ∈ lw_good := in_good (List.mem_of_getElem? (i := 272) rfl) rfl
theorem k_273 : Cond.instanceMethod ⟨"ModuleLoaders$Files", "hasFlag", "(II)Z"⟩ ∈ lw_good := in_good (List.mem_of_getElem? (i := 273) rfl) rfl
theorem k_274 : Cond.selects "ModuleLoaders$Files" ⟨"ModuleLoaders$Files", "hasFlag", "(II)Z"⟩ ⟨"ModuleLoaders$Files", "hasFlag", "(II)Z"⟩ ∈ lw_good := in_good (List.mem_of_getElem? (i := 274) rfl) rfl
theorem k_275 : Cond.code ⟨"ModuleLoaders$Files", "hasFlag", "(II)Z"⟩ prog_2_method_3_code 3 (some .boolean) ∈ lw_good := in_good (List.mem_of_getElem? (i := 275) rfl) rfl
theorem k_276 : Cond.methodLink "ModuleLoaders" 170 ⟨"ModuleLoaders", "stand", "(IIII)I"⟩ ∈ lw_good := in_good (List.mem_of_getElem? (i := 276) rfl) rfl
theorem k_278 : Cond.instanceMethod ⟨"ModuleLoaders", "stand", "(IIII)I"⟩ ∈ lw_good := in_good (List.mem_of_getElem? (i := 278) rfl) rfl
theorem k_279 : Cond.code ⟨"ModuleLoaders", "stand", "(IIII)I"⟩ prog_1_method_27_code 6 (some .int) ∈ lw_good := in_good (List.mem_of_getElem? (i := 279) rfl) rfl
theorem k_280 : Cond.methodLink "ModuleLoaders" 182 ⟨"ModuleLoaders$Modules", "add", "(IIII)I"⟩ ∈ lw_good := in_good (List.mem_of_getElem? (i := 280) rfl) rfl
theorem k_281 : Cond.instanceMethod ⟨"ModuleLoaders$Modules", "add", "(IIII)I"⟩ ∈ lw_good := in_good (List.mem_of_getElem? (i := 281) rfl) rfl
theorem k_282 : Cond.selects "ModuleLoaders$Modules" ⟨"ModuleLoaders$Modules", "add", "(IIII)I"⟩ ⟨"ModuleLoaders$Modules", "add", "(IIII)I"⟩ ∈ lw_good := in_good (List.mem_of_getElem? (i := 282) rfl) rfl
theorem k_283 : Cond.code ⟨"ModuleLoaders$Modules", "add", "(IIII)I"⟩ prog_4_method_3_code 5 (some .int) ∈ lw_good := in_good (List.mem_of_getElem? (i := 283) rfl) rfl
theorem k_300 : Cond.methodLink "ModuleLoaders" 97 ⟨"ModuleLoaders$Modules", "has", "(I)Z"⟩ ∈ lw_good := in_good (List.mem_of_getElem? (i := 300) rfl) rfl
theorem k_301 : Cond.instanceMethod ⟨"ModuleLoaders$Modules", "has", "(I)Z"⟩ ∈ lw_good := in_good (List.mem_of_getElem? (i := 301) rfl) rfl
theorem k_302 : Cond.selects "ModuleLoaders$Modules" ⟨"ModuleLoaders$Modules", "has", "(I)Z"⟩ ⟨"ModuleLoaders$Modules", "has", "(I)Z"⟩ ∈ lw_good := in_good (List.mem_of_getElem? (i := 302) rfl) rfl
theorem k_303 : Cond.code ⟨"ModuleLoaders$Modules", "has", "(I)Z"⟩ prog_4_method_2_code 2 (some .boolean) ∈ lw_good := in_good (List.mem_of_getElem? (i := 303) rfl) rfl
theorem k_304 : Cond.methodLink "ModuleLoaders" 101 ⟨"ModuleLoaders", "beginFrom", "(I)I"⟩ ∈ lw_good := in_good (List.mem_of_getElem? (i := 304) rfl) rfl
theorem k_306 : Cond.instanceMethod ⟨"ModuleLoaders", "beginFrom", "(I)I"⟩ ∈ lw_good := in_good (List.mem_of_getElem? (i := 306) rfl) rfl
theorem k_307 : Cond.code ⟨"ModuleLoaders", "beginFrom", "(I)I"⟩ prog_1_method_28_code 4 (some .int) ∈ lw_good := in_good (List.mem_of_getElem? (i := 307) rfl) rfl
theorem k_308 : Cond.methodLink "ModuleLoaders" 184 ⟨"ModuleLoaders", "comeTo", "(I)I"⟩ ∈ lw_good := in_good (List.mem_of_getElem? (i := 308) rfl) rfl
theorem k_310 : Cond.instanceMethod ⟨"ModuleLoaders", "comeTo", "(I)I"⟩ ∈ lw_good := in_good (List.mem_of_getElem? (i := 310) rfl) rfl
theorem k_311 : Cond.code ⟨"ModuleLoaders", "comeTo", "(I)I"⟩ prog_1_method_29_code 3 (some .int) ∈ lw_good := in_good (List.mem_of_getElem? (i := 311) rfl) rfl
theorem k_312 : Cond.methodLink "ModuleLoaders" 190 ⟨"ModuleLoaders$Row", "add", "(I)V"⟩ ∈ lw_good := in_good (List.mem_of_getElem? (i := 312) rfl) rfl
theorem k_313 : Cond.instanceMethod ⟨"ModuleLoaders$Row", "add", "(I)V"⟩ ∈ lw_good := in_good (List.mem_of_getElem? (i := 313) rfl) rfl
theorem k_314 : Cond.selects "ModuleLoaders$Row" ⟨"ModuleLoaders$Row", "add", "(I)V"⟩ ⟨"ModuleLoaders$Row", "add", "(I)V"⟩ ∈ lw_good := in_good (List.mem_of_getElem? (i := 314) rfl) rfl
theorem k_315 : Cond.code ⟨"ModuleLoaders$Row", "add", "(I)V"⟩ prog_5_method_2_code 2 none ∈ lw_good := in_good (List.mem_of_getElem? (i := 315) rfl) rfl
theorem k_316 : Cond.methodLink "ModuleLoaders" 187 ⟨"ModuleLoaders", "goOn", "(I)I"⟩ ∈ lw_good := in_good (List.mem_of_getElem? (i := 316) rfl) rfl
theorem k_318 : Cond.instanceMethod ⟨"ModuleLoaders", "goOn", "(I)I"⟩ ∈ lw_good := in_good (List.mem_of_getElem? (i := 318) rfl) rfl
theorem k_319 : Cond.code ⟨"ModuleLoaders", "goOn", "(I)I"⟩ prog_1_method_30_code 2 (some .int) ∈ lw_good := in_good (List.mem_of_getElem? (i := 319) rfl) rfl
theorem k_320 : Cond.methodLink "ModuleLoaders" 193 ⟨"ModuleLoaders", "comeToNeed", "(I)I"⟩ ∈ lw_good := in_good (List.mem_of_getElem? (i := 320) rfl) rfl
theorem k_322 : Cond.instanceMethod ⟨"ModuleLoaders", "comeToNeed", "(I)I"⟩ ∈ lw_good := in_good (List.mem_of_getElem? (i := 322) rfl) rfl
theorem k_323 : Cond.code ⟨"ModuleLoaders", "comeToNeed", "(I)I"⟩ prog_1_method_31_code 4 (some .int) ∈ lw_good := in_good (List.mem_of_getElem? (i := 323) rfl) rfl
theorem k_324 : Cond.methodLink "ModuleLoaders" 196 ⟨"ModuleLoaders", "beginItself", "(I)I"⟩ ∈ lw_good := in_good (List.mem_of_getElem? (i := 324) rfl) rfl
theorem k_326 : Cond.instanceMethod ⟨"ModuleLoaders", "beginItself", "(I)I"⟩ ∈ lw_good := in_good (List.mem_of_getElem? (i := 326) rfl) rfl
theorem k_327 : Cond.code ⟨"ModuleLoaders", "beginItself", "(I)I"⟩ prog_1_method_32_code 3 (some .int) ∈ lw_good := in_good (List.mem_of_getElem? (i := 327) rfl) rfl
theorem k_332 : Cond.methodLink "ModuleLoaders" 105 ⟨"ModuleLoaders$Things", "areFull", "()Z"⟩ ∈ lw_good := in_good (List.mem_of_getElem? (i := 332) rfl) rfl
theorem k_333 : Cond.instanceMethod ⟨"ModuleLoaders$Things", "areFull", "()Z"⟩ ∈ lw_good := in_good (List.mem_of_getElem? (i := 333) rfl) rfl
theorem k_334 : Cond.selects "ModuleLoaders$Things" ⟨"ModuleLoaders$Things", "areFull", "()Z"⟩ ⟨"ModuleLoaders$Things", "areFull", "()Z"⟩ ∈ lw_good := in_good (List.mem_of_getElem? (i := 334) rfl) rfl
theorem k_335 : Cond.code ⟨"ModuleLoaders$Things", "areFull", "()Z"⟩ prog_6_method_3_code 1 (some .boolean) ∈ lw_good := in_good (List.mem_of_getElem? (i := 335) rfl) rfl
theorem k_336 : Cond.methodLink "ModuleLoaders" 109 ⟨"ModuleLoaders$Things", "add", "(I)I"⟩ ∈ lw_good := in_good (List.mem_of_getElem? (i := 336) rfl) rfl
theorem k_337 : Cond.instanceMethod ⟨"ModuleLoaders$Things", "add", "(I)I"⟩ ∈ lw_good := in_good (List.mem_of_getElem? (i := 337) rfl) rfl
theorem k_338 : Cond.selects "ModuleLoaders$Things" ⟨"ModuleLoaders$Things", "add", "(I)I"⟩ ⟨"ModuleLoaders$Things", "add", "(I)I"⟩ ∈ lw_good := in_good (List.mem_of_getElem? (i := 338) rfl) rfl
theorem k_339 : Cond.code ⟨"ModuleLoaders$Things", "add", "(I)I"⟩ prog_6_method_4_code 2 (some .int) ∈ lw_good := in_good (List.mem_of_getElem? (i := 339) rfl) rfl
theorem k_340 : Cond.methodLink "ModuleLoaders$Things" 23 ⟨"ModuleLoaders$Things", "areFull", "()Z"⟩ ∈ lw_good := in_good (List.mem_of_getElem? (i := 340) rfl) rfl
theorem k_345 : Cond.methodLink "ModuleLoaders" 111 ⟨"ModuleLoaders$Things", "has", "(I)Z"⟩ ∈ lw_good := in_good (List.mem_of_getElem? (i := 345) rfl) rfl
theorem k_346 : Cond.instanceMethod ⟨"ModuleLoaders$Things", "has", "(I)Z"⟩ ∈ lw_good := in_good (List.mem_of_getElem? (i := 346) rfl) rfl
theorem k_347 : Cond.selects "ModuleLoaders$Things" ⟨"ModuleLoaders$Things", "has", "(I)Z"⟩ ⟨"ModuleLoaders$Things", "has", "(I)Z"⟩ ∈ lw_good := in_good (List.mem_of_getElem? (i := 347) rfl) rfl
theorem k_348 : Cond.code ⟨"ModuleLoaders$Things", "has", "(I)Z"⟩ prog_6_method_2_code 2 (some .boolean) ∈ lw_good := in_good (List.mem_of_getElem? (i := 348) rfl) rfl
theorem k_349 : Cond.methodLink "ModuleLoaders" 118 ⟨"ModuleLoaders$Modules", "isOrDescends", "(II)Z"⟩ ∈ lw_good := in_good (List.mem_of_getElem? (i := 349) rfl) rfl
theorem k_350 : Cond.instanceMethod ⟨"ModuleLoaders$Modules", "isOrDescends", "(II)Z"⟩ ∈ lw_good := in_good (List.mem_of_getElem? (i := 350) rfl) rfl
theorem k_351 : Cond.selects "ModuleLoaders$Modules" ⟨"ModuleLoaders$Modules", "isOrDescends", "(II)Z"⟩ ⟨"ModuleLoaders$Modules", "isOrDescends", "(II)Z"⟩ ∈ lw_good := in_good (List.mem_of_getElem? (i := 351) rfl) rfl
theorem k_352 : Cond.code ⟨"ModuleLoaders$Modules", "isOrDescends", "(II)Z"⟩ prog_4_method_4_code 5 (some .boolean) ∈ lw_good := in_good (List.mem_of_getElem? (i := 352) rfl) rfl
theorem k_361 : Cond.methodLink "ModuleLoaders" 122 ⟨"ModuleLoaders$Loaders", "hasLiveProgram", "(I)Z"⟩ ∈ lw_good := in_good (List.mem_of_getElem? (i := 361) rfl) rfl
theorem k_362 : Cond.instanceMethod ⟨"ModuleLoaders$Loaders", "hasLiveProgram", "(I)Z"⟩ ∈ lw_good := in_good (List.mem_of_getElem? (i := 362) rfl) rfl
theorem k_363 : Cond.selects "ModuleLoaders$Loaders" ⟨"ModuleLoaders$Loaders", "hasLiveProgram", "(I)Z"⟩ ⟨"ModuleLoaders$Loaders", "hasLiveProgram", "(I)Z"⟩ ∈ lw_good := in_good (List.mem_of_getElem? (i := 363) rfl) rfl
theorem k_364 : Cond.code ⟨"ModuleLoaders$Loaders", "hasLiveProgram", "(I)Z"⟩ prog_3_method_6_code 3 (some .boolean) ∈ lw_good := in_good (List.mem_of_getElem? (i := 364) rfl) rfl
theorem k_369 : Cond.methodLink "ModuleLoaders" 125 ⟨"ModuleLoaders", "markHeld", "()V"⟩ ∈ lw_good := in_good (List.mem_of_getElem? (i := 369) rfl) rfl
theorem k_371 : Cond.instanceMethod ⟨"ModuleLoaders", "markHeld", "()V"⟩ ∈ lw_good := in_good (List.mem_of_getElem? (i := 371) rfl) rfl
theorem k_372 : Cond.code ⟨"ModuleLoaders", "markHeld", "()V"⟩ prog_1_method_33_code 2 none ∈ lw_good := in_good (List.mem_of_getElem? (i := 372) rfl) rfl
theorem k_373 : Cond.methodLink "ModuleLoaders" 202 ⟨"ModuleLoaders", "markHeldBy", "(I)V"⟩ ∈ lw_good := in_good (List.mem_of_getElem? (i := 373) rfl) rfl
theorem k_375 : Cond.instanceMethod ⟨"ModuleLoaders", "markHeldBy", "(I)V"⟩ ∈ lw_good := in_good (List.mem_of_getElem? (i := 375) rfl) rfl
theorem k_376 : Cond.code ⟨"ModuleLoaders", "markHeldBy", "(I)V"⟩ prog_1_method_34_code 5 none ∈ lw_good := in_good (List.mem_of_getElem? (i := 376) rfl) rfl
set_option maxRecDepth 20000 in
theorem k_403 : Cond.fieldLink "ModuleLoadersModel" 97 "ModuleLoadersModel" "files" "I" ∈ lw_good := in_good (List.mem_of_getElem? (i := 403) rfl) rfl
set_option maxRecDepth 20000 in
theorem k_404 : Cond.fieldLink "ModuleLoadersModel" 7 "ModuleLoadersModel" "inner" "[I" ∈ lw_good := in_good (List.mem_of_getElem? (i := 404) rfl) rfl
set_option maxRecDepth 20000 in
theorem k_405 : Cond.fieldLink "ModuleLoadersModel" 13 "ModuleLoadersModel" "content" "[I" ∈ lw_good := in_good (List.mem_of_getElem? (i := 405) rfl) rfl
set_option maxRecDepth 20000 in
theorem k_406 : Cond.fieldLink "ModuleLoadersModel" 16 "ModuleLoadersModel" "parentName" "[I" ∈ lw_good := in_good (List.mem_of_getElem? (i := 406) rfl) rfl
set_option maxRecDepth 20000 in
theorem k_407 : Cond.fieldLink "ModuleLoadersModel" 19 "ModuleLoadersModel" "needName" "[I" ∈ lw_good := in_good (List.mem_of_getElem? (i := 407) rfl) rfl
set_option maxRecDepth 20000 in
theorem k_408 : Cond.fieldLink "ModuleLoadersModel" 22 "ModuleLoadersModel" "flags" "[I" ∈ lw_good := in_good (List.mem_of_getElem? (i := 408) rfl) rfl
set_option maxRecDepth 20000 in
theorem k_409 : Cond.fieldLink "ModuleLoadersModel" 93 "ModuleLoadersModel" "loaders" "I" ∈ lw_good := in_good (List.mem_of_getElem? (i := 409) rfl) rfl
set_option maxRecDepth 20000 in
theorem k_410 : Cond.fieldLink "ModuleLoadersModel" 25 "ModuleLoadersModel" "above" "[I" ∈ lw_good := in_good (List.mem_of_getElem? (i := 410) rfl) rfl
set_option maxRecDepth 20000 in
theorem k_411 : Cond.fieldLink "ModuleLoadersModel" 28 "ModuleLoadersModel" "ownFirst" "[Z" ∈ lw_good := in_good (List.mem_of_getElem? (i := 411) rfl) rfl
set_option maxRecDepth 20000 in
theorem k_412 : Cond.fieldLink "ModuleLoadersModel" 32 "ModuleLoadersModel" "isGone" "[Z" ∈ lw_good := in_good (List.mem_of_getElem? (i := 412) rfl) rfl
set_option maxRecDepth 20000 in
theorem k_413 : Cond.fieldLink "ModuleLoadersModel" 35 "ModuleLoadersModel" "shelf" "[I" ∈ lw_good := in_good (List.mem_of_getElem? (i := 413) rfl) rfl
set_option maxRecDepth 20000 in
theorem k_414 : Cond.fieldLink "ModuleLoadersModel" 38 "ModuleLoadersModel" "made" "[I" ∈ lw_good := in_good (List.mem_of_getElem? (i := 414) rfl) rfl
set_option maxRecDepth 20000 in
theorem k_415 : Cond.fieldLink "ModuleLoadersModel" 41 "ModuleLoadersModel" "given" "[I" ∈ lw_good := in_good (List.mem_of_getElem? (i := 415) rfl) rfl
set_option maxRecDepth 20000 in
theorem k_416 : Cond.fieldLink "ModuleLoadersModel" 44 "ModuleLoadersModel" "isMaking" "[Z" ∈ lw_good := in_good (List.mem_of_getElem? (i := 416) rfl) rfl
set_option maxRecDepth 20000 in
theorem k_417 : Cond.fieldLink "ModuleLoadersModel" 100 "ModuleLoadersModel" "modules" "I" ∈ lw_good := in_good (List.mem_of_getElem? (i := 417) rfl) rfl
set_option maxRecDepth 20000 in
theorem k_418 : Cond.fieldLink "ModuleLoadersModel" 47 "ModuleLoadersModel" "loaderOf" "[I" ∈ lw_good := in_good (List.mem_of_getElem? (i := 418) rfl) rfl
set_option maxRecDepth 20000 in
theorem k_419 : Cond.fieldLink "ModuleLoadersModel" 50 "ModuleLoadersModel" "nameOf" "[I" ∈ lw_good := in_good (List.mem_of_getElem? (i := 419) rfl) rfl
set_option maxRecDepth 20000 in
theorem k_420 : Cond.fieldLink "ModuleLoadersModel" 53 "ModuleLoadersModel" "parentOf" "[I" ∈ lw_good := in_good (List.mem_of_getElem? (i := 420) rfl) rfl
set_option maxRecDepth 20000 in
theorem k_421 : Cond.fieldLink "ModuleLoadersModel" 56 "ModuleLoadersModel" "fileOf" "[I" ∈ lw_good := in_good (List.mem_of_getElem? (i := 421) rfl) rfl
set_option maxRecDepth 20000 in
theorem k_422 : Cond.fieldLink "ModuleLoadersModel" 59 "ModuleLoadersModel" "state" "[I" ∈ lw_good := in_good (List.mem_of_getElem? (i := 422) rfl) rfl
set_option maxRecDepth 20000 in
theorem k_423 : Cond.fieldLink "ModuleLoadersModel" 103 "ModuleLoadersModel" "things" "I" ∈ lw_good := in_good (List.mem_of_getElem? (i := 423) rfl) rfl
set_option maxRecDepth 20000 in
theorem k_424 : Cond.fieldLink "ModuleLoadersModel" 62 "ModuleLoadersModel" "thingOf" "[I" ∈ lw_good := in_good (List.mem_of_getElem? (i := 424) rfl) rfl
set_option maxRecDepth 20000 in
theorem k_425 : Cond.fieldLink "ModuleLoadersModel" 65 "ModuleLoadersModel" "isDropped" "[Z" ∈ lw_good := in_good (List.mem_of_getElem? (i := 425) rfl) rfl
set_option maxRecDepth 20000 in
theorem k_426 : Cond.fieldLink "ModuleLoadersModel" 154 "ModuleLoadersModel" "ordered" "I" ∈ lw_good := in_good (List.mem_of_getElem? (i := 426) rfl) rfl
set_option maxRecDepth 20000 in
theorem k_427 : Cond.fieldLink "ModuleLoadersModel" 68 "ModuleLoadersModel" "orders" "[I" ∈ lw_good := in_good (List.mem_of_getElem? (i := 427) rfl) rfl
set_option maxRecDepth 20000 in
theorem k_428 : Cond.fieldLink "ModuleLoadersModel" 116 "ModuleLoadersModel" "deep" "I" ∈ lw_good := in_good (List.mem_of_getElem? (i := 428) rfl) rfl
set_option maxRecDepth 20000 in
theorem k_429 : Cond.fieldLink "ModuleLoadersModel" 71 "ModuleLoadersModel" "what" "[I" ∈ lw_good := in_good (List.mem_of_getElem? (i := 429) rfl) rfl
set_option maxRecDepth 20000 in
theorem k_430 : Cond.fieldLink "ModuleLoadersModel" 74 "ModuleLoadersModel" "stage" "[I" ∈ lw_good := in_good (List.mem_of_getElem? (i := 430) rfl) rfl
set_option maxRecDepth 20000 in
theorem k_431 : Cond.fieldLink "ModuleLoadersModel" 77 "ModuleLoadersModel" "place" "[I" ∈ lw_good := in_good (List.mem_of_getElem? (i := 431) rfl) rfl
set_option maxRecDepth 20000 in
theorem k_432 : Cond.fieldLink "ModuleLoadersModel" 80 "ModuleLoadersModel" "paper" "[I" ∈ lw_good := in_good (List.mem_of_getElem? (i := 432) rfl) rfl
set_option maxRecDepth 20000 in
theorem k_433 : Cond.fieldLink "ModuleLoadersModel" 83 "ModuleLoadersModel" "isAnew" "[Z" ∈ lw_good := in_good (List.mem_of_getElem? (i := 433) rfl) rfl
set_option maxRecDepth 20000 in
theorem k_434 : Cond.fieldLink "ModuleLoadersModel" 119 "ModuleLoadersModel" "gave" "I" ∈ lw_good := in_good (List.mem_of_getElem? (i := 434) rfl) rfl
set_option maxRecDepth 20000 in
theorem k_435 : Cond.fieldLink "ModuleLoadersModel" 86 "ModuleLoadersModel" "isKept" "[Z" ∈ lw_good := in_good (List.mem_of_getElem? (i := 435) rfl) rfl
set_option maxRecDepth 20000 in
theorem k_507 : Cond.methodLink "ModuleLoadersModel" 106 ⟨"ModuleLoadersModel", "isName", "(I)Z"⟩ ∈ lw_good := in_good (List.mem_of_getElem? (i := 507) rfl) rfl
set_option maxRecDepth 20000 in
theorem k_508 : Cond.static ⟨"ModuleLoadersModel", "isName", "(I)Z"⟩ ∈ lw_good := in_good (List.mem_of_getElem? (i := 508) rfl) rfl
set_option maxRecDepth 20000 in
theorem k_509 : Cond.code ⟨"ModuleLoadersModel", "isName", "(I)Z"⟩ prog_8_method_4_code 1 (some .boolean) ∈ lw_good := in_good (List.mem_of_getElem? (i := 509) rfl) rfl
set_option maxRecDepth 20000 in
theorem k_510 : Cond.methodLink "ModuleLoadersModel" 89 ⟨"ModuleLoadersModel", "in", "(III)Z"⟩ ∈ lw_good := in_good (List.mem_of_getElem? (i := 510) rfl) rfl
set_option maxRecDepth 20000 in
theorem k_511 : Cond.static ⟨"ModuleLoadersModel", "in", "(III)Z"⟩ ∈ lw_good := in_good (List.mem_of_getElem? (i := 511) rfl) rfl
set_option maxRecDepth 20000 in
theorem k_512 : Cond.code ⟨"ModuleLoadersModel", "in", "(III)Z"⟩ prog_8_method_3_code 3 (some .boolean) ∈ lw_good := in_good (List.mem_of_getElem? (i := 512) rfl) rfl
set_option maxRecDepth 20000 in
theorem k_517 : Cond.methodLink "ModuleLoadersModel" 110 ⟨"ModuleLoadersModel", "isLoader", "(I)Z"⟩ ∈ lw_good := in_good (List.mem_of_getElem? (i := 517) rfl) rfl
set_option maxRecDepth 20000 in
theorem k_519 : Cond.instanceMethod ⟨"ModuleLoadersModel", "isLoader", "(I)Z"⟩ ∈ lw_good := in_good (List.mem_of_getElem? (i := 519) rfl) rfl
set_option maxRecDepth 20000 in
theorem k_520 : Cond.code ⟨"ModuleLoadersModel", "isLoader", "(I)Z"⟩ prog_8_method_5_code 2 (some .boolean) ∈ lw_good := in_good (List.mem_of_getElem? (i := 520) rfl) rfl
set_option maxRecDepth 20000 in
theorem k_525 : Cond.methodLink "ModuleLoadersModel" 113 ⟨"ModuleLoadersModel", "isFile", "(I)Z"⟩ ∈ lw_good := in_good (List.mem_of_getElem? (i := 525) rfl) rfl
set_option maxRecDepth 20000 in
theorem k_527 : Cond.instanceMethod ⟨"ModuleLoadersModel", "isFile", "(I)Z"⟩ ∈ lw_good := in_good (List.mem_of_getElem? (i := 527) rfl) rfl
set_option maxRecDepth 20000 in
theorem k_528 : Cond.code ⟨"ModuleLoadersModel", "isFile", "(I)Z"⟩ prog_8_method_6_code 2 (some .boolean) ∈ lw_good := in_good (List.mem_of_getElem? (i := 528) rfl) rfl
set_option maxRecDepth 20000 in
theorem k_533 : Cond.methodLink "ModuleLoadersModel" 161 ⟨"ModuleLoadersModel", "does", "(IIIZ)I"⟩ ∈ lw_good := in_good (List.mem_of_getElem? (i := 533) rfl) rfl
set_option maxRecDepth 20000 in
theorem k_535 : Cond.instanceMethod ⟨"ModuleLoadersModel", "does", "(IIIZ)I"⟩ ∈ lw_good := in_good (List.mem_of_getElem? (i := 535) rfl) rfl
set_option maxRecDepth 20000 in
theorem k_536 : Cond.code ⟨"ModuleLoadersModel", "does", "(IIIZ)I"⟩ prog_8_method_22_code 6 (some .int) ∈ lw_good := in_good (List.mem_of_getElem? (i := 536) rfl) rfl
set_option maxRecDepth 20000 in
theorem k_537 : Cond.methodLink "ModuleLoadersModel" 133 ⟨"ModuleLoadersModel", "push", "(IIIZ)V"⟩ ∈ lw_good := in_good (List.mem_of_getElem? (i := 537) rfl) rfl
set_option maxRecDepth 20000 in
theorem k_539 : Cond.instanceMethod ⟨"ModuleLoadersModel", "push", "(IIIZ)V"⟩ ∈ lw_good := in_good (List.mem_of_getElem? (i := 539) rfl) rfl
set_option maxRecDepth 20000 in
theorem k_540 : Cond.code ⟨"ModuleLoadersModel", "push", "(IIIZ)V"⟩ prog_8_method_12_code 5 none ∈ lw_good := in_good (List.mem_of_getElem? (i := 540) rfl) rfl
set_option maxRecDepth 20000 in
theorem k_541 : Cond.methodLink "ModuleLoadersModel" 157 ⟨"ModuleLoadersModel", "runs", "()I"⟩ ∈ lw_good := in_good (List.mem_of_getElem? (i := 541) rfl) rfl
set_option maxRecDepth 20000 in
theorem k_543 : Cond.instanceMethod ⟨"ModuleLoadersModel", "runs", "()I"⟩ ∈ lw_good := in_good (List.mem_of_getElem? (i := 543) rfl) rfl
set_option maxRecDepth 20000 in
theorem k_544 : Cond.code ⟨"ModuleLoadersModel", "runs", "()I"⟩ prog_8_method_14_code 2 (some .int) ∈ lw_good := in_good (List.mem_of_getElem? (i := 544) rfl) rfl
set_option maxRecDepth 20000 in
theorem k_545 : Cond.methodLink "ModuleLoadersModel" 122 ⟨"ModuleLoadersModel", "asks", "(II)V"⟩ ∈ lw_good := in_good (List.mem_of_getElem? (i := 545) rfl) rfl
set_option maxRecDepth 20000 in
theorem k_547 : Cond.instanceMethod ⟨"ModuleLoadersModel", "asks", "(II)V"⟩ ∈ lw_good := in_good (List.mem_of_getElem? (i := 547) rfl) rfl
set_option maxRecDepth 20000 in
theorem k_548 : Cond.code ⟨"ModuleLoadersModel", "asks", "(II)V"⟩ prog_8_method_16_code 5 none ∈ lw_good := in_good (List.mem_of_getElem? (i := 548) rfl) rfl
set_option maxRecDepth 20000 in
theorem k_549 : Cond.methodLink "ModuleLoadersModel" 137 ⟨"ModuleLoadersModel", "gives", "(I)V"⟩ ∈ lw_good := in_good (List.mem_of_getElem? (i := 549) rfl) rfl
set_option maxRecDepth 20000 in
theorem k_551 : Cond.instanceMethod ⟨"ModuleLoadersModel", "gives", "(I)V"⟩ ∈ lw_good := in_good (List.mem_of_getElem? (i := 551) rfl) rfl
set_option maxRecDepth 20000 in
theorem k_552 : Cond.code ⟨"ModuleLoadersModel", "gives", "(I)V"⟩ prog_8_method_13_code 2 none ∈ lw_good := in_good (List.mem_of_getElem? (i := 552) rfl) rfl
set_option maxRecDepth 20000 in
theorem k_553 : Cond.methodLink "ModuleLoadersModel" 141 ⟨"ModuleLoadersModel", "asksAbove", "(III)V"⟩ ∈ lw_good := in_good (List.mem_of_getElem? (i := 553) rfl) rfl
set_option maxRecDepth 20000 in
theorem k_555 : Cond.instanceMethod ⟨"ModuleLoadersModel", "asksAbove", "(III)V"⟩ ∈ lw_good := in_good (List.mem_of_getElem? (i := 555) rfl) rfl
set_option maxRecDepth 20000 in
theorem k_556 : Cond.code ⟨"ModuleLoadersModel", "asksAbove", "(III)V"⟩ prog_8_method_15_code 4 none ∈ lw_good := in_good (List.mem_of_getElem? (i := 556) rfl) rfl
set_option maxRecDepth 20000 in
theorem k_557 : Cond.methodLink "ModuleLoadersModel" 144 ⟨"ModuleLoadersModel", "keeps", "(I)V"⟩ ∈ lw_good := in_good (List.mem_of_getElem? (i := 557) rfl) rfl
set_option maxRecDepth 20000 in
theorem k_559 : Cond.instanceMethod ⟨"ModuleLoadersModel", "keeps", "(I)V"⟩ ∈ lw_good := in_good (List.mem_of_getElem? (i := 559) rfl) rfl
set_option maxRecDepth 20000 in
theorem k_560 : Cond.code ⟨"ModuleLoadersModel", "keeps", "(I)V"⟩ prog_8_method_17_code 2 none ∈ lw_good := in_good (List.mem_of_getElem? (i := 560) rfl) rfl
set_option maxRecDepth 20000 in
theorem k_561 : Cond.methodLink "ModuleLoadersModel" 126 ⟨"ModuleLoadersModel", "makes", "(III)V"⟩ ∈ lw_good := in_good (List.mem_of_getElem? (i := 561) rfl) rfl
set_option maxRecDepth 20000 in
theorem k_563 : Cond.instanceMethod ⟨"ModuleLoadersModel", "makes", "(III)V"⟩ ∈ lw_good := in_good (List.mem_of_getElem? (i := 563) rfl) rfl
set_option maxRecDepth 20000 in
theorem k_564 : Cond.code ⟨"ModuleLoadersModel", "makes", "(III)V"⟩ prog_8_method_19_code 5 none ∈ lw_good := in_good (List.mem_of_getElem? (i := 564) rfl) rfl
set_option maxRecDepth 20000 in
theorem k_565 : Cond.methodLink "ModuleLoadersModel" 147 ⟨"ModuleLoadersModel", "against", "(III)I"⟩ ∈ lw_good := in_good (List.mem_of_getElem? (i := 565) rfl) rfl
set_option maxRecDepth 20000 in
theorem k_567 : Cond.instanceMethod ⟨"ModuleLoadersModel", "against", "(III)I"⟩ ∈ lw_good := in_good (List.mem_of_getElem? (i := 567) rfl) rfl
set_option maxRecDepth 20000 in
theorem k_568 : Cond.code ⟨"ModuleLoadersModel", "against", "(III)I"⟩ prog_8_method_18_code 6 (some .int) ∈ lw_good := in_good (List.mem_of_getElem? (i := 568) rfl) rfl
set_option maxRecDepth 20000 in
theorem k_569 : Cond.methodLink "ModuleLoadersModel" 151 ⟨"ModuleLoadersModel", "stands", "(III)V"⟩ ∈ lw_good := in_good (List.mem_of_getElem? (i := 569) rfl) rfl
set_option maxRecDepth 20000 in
theorem k_571 : Cond.instanceMethod ⟨"ModuleLoadersModel", "stands", "(III)V"⟩ ∈ lw_good := in_good (List.mem_of_getElem? (i := 571) rfl) rfl
set_option maxRecDepth 20000 in
theorem k_572 : Cond.code ⟨"ModuleLoadersModel", "stands", "(III)V"⟩ prog_8_method_20_code 4 none ∈ lw_good := in_good (List.mem_of_getElem? (i := 572) rfl) rfl
set_option maxRecDepth 20000 in
theorem k_573 : Cond.methodLink "ModuleLoadersModel" 130 ⟨"ModuleLoadersModel", "begins", "(II)V"⟩ ∈ lw_good := in_good (List.mem_of_getElem? (i := 573) rfl) rfl
set_option maxRecDepth 20000 in
theorem k_575 : Cond.instanceMethod ⟨"ModuleLoadersModel", "begins", "(II)V"⟩ ∈ lw_good := in_good (List.mem_of_getElem? (i := 575) rfl) rfl
set_option maxRecDepth 20000 in
theorem k_576 : Cond.code ⟨"ModuleLoadersModel", "begins", "(II)V"⟩ prog_8_method_21_code 4 none ∈ lw_good := in_good (List.mem_of_getElem? (i := 576) rfl) rfl
set_option maxRecDepth 20000 in
theorem k_593 : Cond.methodLink "ModuleLoadersModel" 165 ⟨"ModuleLoadersModel", "isModule", "(I)Z"⟩ ∈ lw_good := in_good (List.mem_of_getElem? (i := 593) rfl) rfl
set_option maxRecDepth 20000 in
theorem k_595 : Cond.instanceMethod ⟨"ModuleLoadersModel", "isModule", "(I)Z"⟩ ∈ lw_good := in_good (List.mem_of_getElem? (i := 595) rfl) rfl
set_option maxRecDepth 20000 in
theorem k_596 : Cond.code ⟨"ModuleLoadersModel", "isModule", "(I)Z"⟩ prog_8_method_7_code 2 (some .boolean) ∈ lw_good := in_good (List.mem_of_getElem? (i := 596) rfl) rfl
set_option maxRecDepth 20000 in
theorem k_605 : Cond.methodLink "ModuleLoadersModel" 168 ⟨"ModuleLoadersModel", "isThing", "(I)Z"⟩ ∈ lw_good := in_good (List.mem_of_getElem? (i := 605) rfl) rfl
set_option maxRecDepth 20000 in
theorem k_607 : Cond.instanceMethod ⟨"ModuleLoadersModel", "isThing", "(I)Z"⟩ ∈ lw_good := in_good (List.mem_of_getElem? (i := 607) rfl) rfl
set_option maxRecDepth 20000 in
theorem k_608 : Cond.code ⟨"ModuleLoadersModel", "isThing", "(I)Z"⟩ prog_8_method_8_code 2 (some .boolean) ∈ lw_good := in_good (List.mem_of_getElem? (i := 608) rfl) rfl
set_option maxRecDepth 20000 in
theorem k_621 : Cond.methodLink "ModuleLoadersModel" 171 ⟨"ModuleLoadersModel", "holds", "()V"⟩ ∈ lw_good := in_good (List.mem_of_getElem? (i := 621) rfl) rfl
set_option maxRecDepth 20000 in
theorem k_623 : Cond.instanceMethod ⟨"ModuleLoadersModel", "holds", "()V"⟩ ∈ lw_good := in_good (List.mem_of_getElem? (i := 623) rfl) rfl
set_option maxRecDepth 20000 in
theorem k_624 : Cond.code ⟨"ModuleLoadersModel", "holds", "()V"⟩ prog_8_method_32_code 2 none ∈ lw_good := in_good (List.mem_of_getElem? (i := 624) rfl) rfl
theorem hdX1_madeOrGiven : yX1_madeOrGiven.cls = RX1 ∧ yX1_madeOrGiven.cls ≠ "java/lang/invoke/MethodHandle" ∧ yX1_madeOrGiven.cls ≠ "java/lang/invoke/VarHandle" ∧ (parseMethodDescriptor yX1_madeOrGiven.desc).map (fun d => d.parameters.length) = some 2 := by decide +kernel
theorem hdX1_isProgram : yX1_isProgram.cls = RX1 ∧ yX1_isProgram.cls ≠ "java/lang/invoke/MethodHandle" ∧ yX1_isProgram.cls ≠ "java/lang/invoke/VarHandle" ∧ (parseMethodDescriptor yX1_isProgram.desc).map (fun d => d.parameters.length) = some 1 := by decide +kernel
theorem hdX5_slot : yX5_slot.cls = RX5 ∧ yX5_slot.cls ≠ "java/lang/invoke/MethodHandle" ∧ yX5_slot.cls ≠ "java/lang/invoke/VarHandle" ∧ (parseMethodDescriptor yX5_slot.desc).map (fun d => d.parameters.length) = some 2 := by decide +kernel
theorem hdX5_make : yX5_make.cls = RX5 ∧ yX5_make.cls ≠ "java/lang/invoke/MethodHandle" ∧ yX5_make.cls ≠ "java/lang/invoke/VarHandle" ∧ (parseMethodDescriptor yX5_make.desc).map (fun d => d.parameters.length) = some 4 := by decide +kernel
theorem hdX5_askLibrary : yX5_askLibrary.cls = RX5 ∧ yX5_askLibrary.cls ≠ "java/lang/invoke/MethodHandle" ∧ yX5_askLibrary.cls ≠ "java/lang/invoke/VarHandle" ∧ (parseMethodDescriptor yX5_askLibrary.desc).map (fun d => d.parameters.length) = some 3 := by decide +kernel
theorem hdX5_ask : yX5_ask.cls = RX5 ∧ yX5_ask.cls ≠ "java/lang/invoke/MethodHandle" ∧ yX5_ask.cls ≠ "java/lang/invoke/VarHandle" ∧ (parseMethodDescriptor yX5_ask.desc).map (fun d => d.parameters.length) = some 3 := by decide +kernel
theorem hdX0_hasFlag : yX0_hasFlag.cls = RX0 ∧ yX0_hasFlag.cls ≠ "java/lang/invoke/MethodHandle" ∧ yX0_hasFlag.cls ≠ "java/lang/invoke/VarHandle" ∧ (parseMethodDescriptor yX0_hasFlag.desc).map (fun d => d.parameters.length) = some 2 := by decide +kernel
theorem hdX5_failureAhead : yX5_failureAhead.cls = RX5 ∧ yX5_failureAhead.cls ≠ "java/lang/invoke/MethodHandle" ∧ yX5_failureAhead.cls ≠ "java/lang/invoke/VarHandle" ∧ (parseMethodDescriptor yX5_failureAhead.desc).map (fun d => d.parameters.length) = some 3 := by decide +kernel
theorem hdX2_add : yX2_add.cls = RX2 ∧ yX2_add.cls ≠ "java/lang/invoke/MethodHandle" ∧ yX2_add.cls ≠ "java/lang/invoke/VarHandle" ∧ (parseMethodDescriptor yX2_add.desc).map (fun d => d.parameters.length) = some 4 := by decide +kernel
theorem hdX5_stand : yX5_stand.cls = RX5 ∧ yX5_stand.cls ≠ "java/lang/invoke/MethodHandle" ∧ yX5_stand.cls ≠ "java/lang/invoke/VarHandle" ∧ (parseMethodDescriptor yX5_stand.desc).map (fun d => d.parameters.length) = some 4 := by decide +kernel
theorem hdX5_isName : yX5_isName.cls = RX5 ∧ yX5_isName.cls ≠ "java/lang/invoke/MethodHandle" ∧ yX5_isName.cls ≠ "java/lang/invoke/VarHandle" ∧ (parseMethodDescriptor yX5_isName.desc).map (fun d => d.parameters.length) = some 1 := by decide +kernel
theorem hdX5_isNameOrNone : yX5_isNameOrNone.cls = RX5 ∧ yX5_isNameOrNone.cls ≠ "java/lang/invoke/MethodHandle" ∧ yX5_isNameOrNone.cls ≠ "java/lang/invoke/VarHandle" ∧ (parseMethodDescriptor yX5_isNameOrNone.desc).map (fun d => d.parameters.length) = some 1 := by decide +kernel
theorem hdX0_add : yX0_add.cls = RX0 ∧ yX0_add.cls ≠ "java/lang/invoke/MethodHandle" ∧ yX0_add.cls ≠ "java/lang/invoke/VarHandle" ∧ (parseMethodDescriptor yX0_add.desc).map (fun d => d.parameters.length) = some 5 := by decide +kernel
theorem hdX1_add : yX1_add.cls = RX1 ∧ yX1_add.cls ≠ "java/lang/invoke/MethodHandle" ∧ yX1_add.cls ≠ "java/lang/invoke/VarHandle" ∧ (parseMethodDescriptor yX1_add.desc).map (fun d => d.parameters.length) = some 2 := by decide +kernel
theorem hdX1_has : yX1_has.cls = RX1 ∧ yX1_has.cls ≠ "java/lang/invoke/MethodHandle" ∧ yX1_has.cls ≠ "java/lang/invoke/VarHandle" ∧ (parseMethodDescriptor yX1_has.desc).map (fun d => d.parameters.length) = some 1 := by decide +kernel
theorem hdX0_has : yX0_has.cls = RX0 ∧ yX0_has.cls ≠ "java/lang/invoke/MethodHandle" ∧ yX0_has.cls ≠ "java/lang/invoke/VarHandle" ∧ (parseMethodDescriptor yX0_has.desc).map (fun d => d.parameters.length) = some 1 := by decide +kernel
theorem hdX2_has : yX2_has.cls = RX2 ∧ yX2_has.cls ≠ "java/lang/invoke/MethodHandle" ∧ yX2_has.cls ≠ "java/lang/invoke/VarHandle" ∧ (parseMethodDescriptor yX2_has.desc).map (fun d => d.parameters.length) = some 1 := by decide +kernel
theorem hdX3_add : yX3_add.cls = RX3 ∧ yX3_add.cls ≠ "java/lang/invoke/MethodHandle" ∧ yX3_add.cls ≠ "java/lang/invoke/VarHandle" ∧ (parseMethodDescriptor yX3_add.desc).map (fun d => d.parameters.length) = some 1 := by decide +kernel
theorem hdX5_comeTo : yX5_comeTo.cls = RX5 ∧ yX5_comeTo.cls ≠ "java/lang/invoke/MethodHandle" ∧ yX5_comeTo.cls ≠ "java/lang/invoke/VarHandle" ∧ (parseMethodDescriptor yX5_comeTo.desc).map (fun d => d.parameters.length) = some 1 := by decide +kernel
theorem hdX5_comeToNeed : yX5_comeToNeed.cls = RX5 ∧ yX5_comeToNeed.cls ≠ "java/lang/invoke/MethodHandle" ∧ yX5_comeToNeed.cls ≠ "java/lang/invoke/VarHandle" ∧ (parseMethodDescriptor yX5_comeToNeed.desc).map (fun d => d.parameters.length) = some 1 := by decide +kernel
theorem hdX5_beginItself : yX5_beginItself.cls = RX5 ∧ yX5_beginItself.cls ≠ "java/lang/invoke/MethodHandle" ∧ yX5_beginItself.cls ≠ "java/lang/invoke/VarHandle" ∧ (parseMethodDescriptor yX5_beginItself.desc).map (fun d => d.parameters.length) = some 1 := by decide +kernel
theorem hdX5_goOn : yX5_goOn.cls = RX5 ∧ yX5_goOn.cls ≠ "java/lang/invoke/MethodHandle" ∧ yX5_goOn.cls ≠ "java/lang/invoke/VarHandle" ∧ (parseMethodDescriptor yX5_goOn.desc).map (fun d => d.parameters.length) = some 1 := by decide +kernel
theorem hdX5_beginFrom : yX5_beginFrom.cls = RX5 ∧ yX5_beginFrom.cls ≠ "java/lang/invoke/MethodHandle" ∧ yX5_beginFrom.cls ≠ "java/lang/invoke/VarHandle" ∧ (parseMethodDescriptor yX5_beginFrom.desc).map (fun d => d.parameters.length) = some 1 := by decide +kernel
theorem hdX4_areFull : yX4_areFull.cls = RX4 ∧ yX4_areFull.cls ≠ "java/lang/invoke/MethodHandle" ∧ yX4_areFull.cls ≠ "java/lang/invoke/VarHandle" ∧ (parseMethodDescriptor yX4_areFull.desc).map (fun d => d.parameters.length) = some 0 := by decide +kernel
theorem hdX4_add : yX4_add.cls = RX4 ∧ yX4_add.cls ≠ "java/lang/invoke/MethodHandle" ∧ yX4_add.cls ≠ "java/lang/invoke/VarHandle" ∧ (parseMethodDescriptor yX4_add.desc).map (fun d => d.parameters.length) = some 1 := by decide +kernel
theorem hdX4_has : yX4_has.cls = RX4 ∧ yX4_has.cls ≠ "java/lang/invoke/MethodHandle" ∧ yX4_has.cls ≠ "java/lang/invoke/VarHandle" ∧ (parseMethodDescriptor yX4_has.desc).map (fun d => d.parameters.length) = some 1 := by decide +kernel
theorem hdX2_isOrDescends : yX2_isOrDescends.cls = RX2 ∧ yX2_isOrDescends.cls ≠ "java/lang/invoke/MethodHandle" ∧ yX2_isOrDescends.cls ≠ "java/lang/invoke/VarHandle" ∧ (parseMethodDescriptor yX2_isOrDescends.desc).map (fun d => d.parameters.length) = some 2 := by decide +kernel
theorem hdX1_hasLiveProgram : yX1_hasLiveProgram.cls = RX1 ∧ yX1_hasLiveProgram.cls ≠ "java/lang/invoke/MethodHandle" ∧ yX1_hasLiveProgram.cls ≠ "java/lang/invoke/VarHandle" ∧ (parseMethodDescriptor yX1_hasLiveProgram.desc).map (fun d => d.parameters.length) = some 1 := by decide +kernel
theorem hdX5_markHeldBy : yX5_markHeldBy.cls = RX5 ∧ yX5_markHeldBy.cls ≠ "java/lang/invoke/MethodHandle" ∧ yX5_markHeldBy.cls ≠ "java/lang/invoke/VarHandle" ∧ (parseMethodDescriptor yX5_markHeldBy.desc).map (fun d => d.parameters.length) = some 1 := by decide +kernel
theorem hdX5_markHeld : yX5_markHeld.cls = RX5 ∧ yX5_markHeld.cls ≠ "java/lang/invoke/MethodHandle" ∧ yX5_markHeld.cls ≠ "java/lang/invoke/VarHandle" ∧ (parseMethodDescriptor yX5_markHeld.desc).map (fun d => d.parameters.length) = some 0 := by decide +kernel
theorem hdX6_in : yX6_in.cls = RX6 ∧ yX6_in.cls ≠ "java/lang/invoke/MethodHandle" ∧ yX6_in.cls ≠ "java/lang/invoke/VarHandle" ∧ (parseMethodDescriptor yX6_in.desc).map (fun d => d.parameters.length) = some 3 := by decide +kernel
theorem hdX6_isName : yX6_isName.cls = RX6 ∧ yX6_isName.cls ≠ "java/lang/invoke/MethodHandle" ∧ yX6_isName.cls ≠ "java/lang/invoke/VarHandle" ∧ (parseMethodDescriptor yX6_isName.desc).map (fun d => d.parameters.length) = some 1 := by decide +kernel
theorem hdX6_isLoader : yX6_isLoader.cls = RX6 ∧ yX6_isLoader.cls ≠ "java/lang/invoke/MethodHandle" ∧ yX6_isLoader.cls ≠ "java/lang/invoke/VarHandle" ∧ (parseMethodDescriptor yX6_isLoader.desc).map (fun d => d.parameters.length) = some 1 := by decide +kernel
theorem hdX6_isFile : yX6_isFile.cls = RX6 ∧ yX6_isFile.cls ≠ "java/lang/invoke/MethodHandle" ∧ yX6_isFile.cls ≠ "java/lang/invoke/VarHandle" ∧ (parseMethodDescriptor yX6_isFile.desc).map (fun d => d.parameters.length) = some 1 := by decide +kernel
theorem hdX6_push : yX6_push.cls = RX6 ∧ yX6_push.cls ≠ "java/lang/invoke/MethodHandle" ∧ yX6_push.cls ≠ "java/lang/invoke/VarHandle" ∧ (parseMethodDescriptor yX6_push.desc).map (fun d => d.parameters.length) = some 4 := by decide +kernel
theorem hdX6_gives : yX6_gives.cls = RX6 ∧ yX6_gives.cls ≠ "java/lang/invoke/MethodHandle" ∧ yX6_gives.cls ≠ "java/lang/invoke/VarHandle" ∧ (parseMethodDescriptor yX6_gives.desc).map (fun d => d.parameters.length) = some 1 := by decide +kernel
theorem hdX6_keeps : yX6_keeps.cls = RX6 ∧ yX6_keeps.cls ≠ "java/lang/invoke/MethodHandle" ∧ yX6_keeps.cls ≠ "java/lang/invoke/VarHandle" ∧ (parseMethodDescriptor yX6_keeps.desc).map (fun d => d.parameters.length) = some 1 := by decide +kernel
theorem hdX6_asksAbove : yX6_asksAbove.cls = RX6 ∧ yX6_asksAbove.cls ≠ "java/lang/invoke/MethodHandle" ∧ yX6_asksAbove.cls ≠ "java/lang/invoke/VarHandle" ∧ (parseMethodDescriptor yX6_asksAbove.desc).map (fun d => d.parameters.length) = some 3 := by decide +kernel
theorem hdX6_asks : yX6_asks.cls = RX6 ∧ yX6_asks.cls ≠ "java/lang/invoke/MethodHandle" ∧ yX6_asks.cls ≠ "java/lang/invoke/VarHandle" ∧ (parseMethodDescriptor yX6_asks.desc).map (fun d => d.parameters.length) = some 2 := by decide +kernel
theorem hdX6_stands : yX6_stands.cls = RX6 ∧ yX6_stands.cls ≠ "java/lang/invoke/MethodHandle" ∧ yX6_stands.cls ≠ "java/lang/invoke/VarHandle" ∧ (parseMethodDescriptor yX6_stands.desc).map (fun d => d.parameters.length) = some 3 := by decide +kernel
theorem hdX6_against : yX6_against.cls = RX6 ∧ yX6_against.cls ≠ "java/lang/invoke/MethodHandle" ∧ yX6_against.cls ≠ "java/lang/invoke/VarHandle" ∧ (parseMethodDescriptor yX6_against.desc).map (fun d => d.parameters.length) = some 3 := by decide +kernel
theorem hdX6_makes : yX6_makes.cls = RX6 ∧ yX6_makes.cls ≠ "java/lang/invoke/MethodHandle" ∧ yX6_makes.cls ≠ "java/lang/invoke/VarHandle" ∧ (parseMethodDescriptor yX6_makes.desc).map (fun d => d.parameters.length) = some 3 := by decide +kernel
theorem hdX6_begins : yX6_begins.cls = RX6 ∧ yX6_begins.cls ≠ "java/lang/invoke/MethodHandle" ∧ yX6_begins.cls ≠ "java/lang/invoke/VarHandle" ∧ (parseMethodDescriptor yX6_begins.desc).map (fun d => d.parameters.length) = some 2 := by decide +kernel
theorem hdX6_runs : yX6_runs.cls = RX6 ∧ yX6_runs.cls ≠ "java/lang/invoke/MethodHandle" ∧ yX6_runs.cls ≠ "java/lang/invoke/VarHandle" ∧ (parseMethodDescriptor yX6_runs.desc).map (fun d => d.parameters.length) = some 0 := by decide +kernel
theorem hdX6_does : yX6_does.cls = RX6 ∧ yX6_does.cls ≠ "java/lang/invoke/MethodHandle" ∧ yX6_does.cls ≠ "java/lang/invoke/VarHandle" ∧ (parseMethodDescriptor yX6_does.desc).map (fun d => d.parameters.length) = some 4 := by decide +kernel
theorem hdX6_isModule : yX6_isModule.cls = RX6 ∧ yX6_isModule.cls ≠ "java/lang/invoke/MethodHandle" ∧ yX6_isModule.cls ≠ "java/lang/invoke/VarHandle" ∧ (parseMethodDescriptor yX6_isModule.desc).map (fun d => d.parameters.length) = some 1 := by decide +kernel
theorem hdX6_isThing : yX6_isThing.cls = RX6 ∧ yX6_isThing.cls ≠ "java/lang/invoke/MethodHandle" ∧ yX6_isThing.cls ≠ "java/lang/invoke/VarHandle" ∧ (parseMethodDescriptor yX6_isThing.desc).map (fun d => d.parameters.length) = some 1 := by decide +kernel
theorem hdX6_holds : yX6_holds.cls = RX6 ∧ yX6_holds.cls ≠ "java/lang/invoke/MethodHandle" ∧ yX6_holds.cls ≠ "java/lang/invoke/VarHandle" ∧ (parseMethodDescriptor yX6_holds.desc).map (fun d => d.parameters.length) = some 0 := by decide +kernel
end
section
def dW (cI cZ : ClassId) (a : Nat → Nat) (σ : MS) : va_W := [(a 0, .inr (5, [.ref (a 1), .ref (a 2), .ref (a 3), .ref (a 4), .ref (a 5), .ref (a 6), .ref (a 7)])), (a 1, .inr (0, [.ref (a 8), .ref (a 9), .ref (a 10), .ref (a 11), .ref (a 12), .int (σ.2 0)])), (a 2, .inr (1, [.ref (a 13), .ref (a 14), .ref (a 15), .ref (a 16), .ref (a 17), .ref (a 18), .ref (a 19), .int (σ.2 1)])), (a 3, .inr (2, [.ref (a 20), .ref (a 21), .ref (a 22), .ref (a 23), .ref (a 24), .int (σ.2 2)])), (a 4, .inr (4, [.ref (a 25), .ref (a 26), .int (σ.2 3)])), (a 5, .inr (3, [.ref (a 27), .int (σ.2 4)])), (a 6, .inr (3, [.ref (a 28), .int (σ.2 5)])), (a 7, .inl (cZ, 822, .inl (σ.1 7))), (a 8, .inl (cI, 40, .inl (σ.1 8))), (a 9, .inl (cI, 40, .inl (σ.1 9))), (a 10, .inl (cI, 40, .inl (σ.1 10))), (a 11, .inl (cI, 40, .inl (σ.1 11))), (a 12, .inl (cI, 40, .inl (σ.1 12))), (a 13, .inl (cI, 10, .inl (σ.1 13))), (a 14, .inl (cZ, 10, .inl (σ.1 14))), (a 15, .inl (cZ, 10, .inl (σ.1 15))), (a 16, .inl (cI, 310, .inl (σ.1 16))), (a 17, .inl (cI, 310, .inl (σ.1 17))), (a 18, .inl (cI, 310, .inl (σ.1 18))), (a 19, .inl (cZ, 310, .inl (σ.1 19))), (a 20, .inl (cI, 822, .inl (σ.1 20))), (a 21, .inl (cI, 822, .inl (σ.1 21))), (a 22, .inl (cI, 822, .inl (σ.1 22))), (a 23, .inl (cI, 822, .inl (σ.1 23))), (a 24, .inl (cI, 822, .inl (σ.1 24))), (a 25, .inl (cI, 60, .inl (σ.1 25))), (a 26, .inl (cZ, 60, .inl (σ.1 26))), (a 27, .inl (cI, 822, .inl (σ.1 27))), (a 28, .inl (cI, 822, .inl (σ.1 28)))]
def dAd (a : Nat → Nat) : Nat → Prop := fun q => q = a 0 ∨ q = a 1 ∨ q = a 2 ∨ q = a 3 ∨ q = a 4 ∨ q = a 5 ∨ q = a 6 ∨ q = a 7 ∨ q = a 8 ∨ q = a 9 ∨ q = a 10 ∨ q = a 11 ∨ q = a 12 ∨ q = a 13 ∨ q = a 14 ∨ q = a 15 ∨ q = a 16 ∨ q = a 17 ∨ q = a 18 ∨ q = a 19 ∨ q = a 20 ∨ q = a 21 ∨ q = a 22 ∨ q = a 23 ∨ q = a 24 ∨ q = a 25 ∨ q = a 26 ∨ q = a 27 ∨ q = a 28

def rW (cI cZ : ClassId) (a : Nat → Nat) (σ : MS) : va_W := [(a 0, .inr (6, [.int (σ.2 0), .ref (a 1), .ref (a 2), .ref (a 3), .ref (a 4), .ref (a 5), .int (σ.2 6), .ref (a 7), .ref (a 8), .ref (a 9), .ref (a 10), .ref (a 11), .ref (a 12), .ref (a 13), .int (σ.2 14), .ref (a 15), .ref (a 16), .ref (a 17), .ref (a 18), .ref (a 19), .int (σ.2 20), .ref (a 21), .ref (a 22), .int (σ.2 23), .ref (a 24), .int (σ.2 25), .ref (a 26), .ref (a 27), .ref (a 28), .ref (a 29), .ref (a 30), .int (σ.2 31), .ref (a 32)])), (a 1, .inl (cI, 40, .inl (σ.1 1))), (a 2, .inl (cI, 40, .inl (σ.1 2))), (a 3, .inl (cI, 40, .inl (σ.1 3))), (a 4, .inl (cI, 40, .inl (σ.1 4))), (a 5, .inl (cI, 40, .inl (σ.1 5))), (a 7, .inl (cI, 10, .inl (σ.1 7))), (a 8, .inl (cZ, 10, .inl (σ.1 8))), (a 9, .inl (cZ, 10, .inl (σ.1 9))), (a 10, .inl (cI, 310, .inl (σ.1 10))), (a 11, .inl (cI, 310, .inl (σ.1 11))), (a 12, .inl (cI, 310, .inl (σ.1 12))), (a 13, .inl (cZ, 310, .inl (σ.1 13))), (a 15, .inl (cI, 1000, .inl (σ.1 15))), (a 16, .inl (cI, 1000, .inl (σ.1 16))), (a 17, .inl (cI, 1000, .inl (σ.1 17))), (a 18, .inl (cI, 1000, .inl (σ.1 18))), (a 19, .inl (cI, 1000, .inl (σ.1 19))), (a 21, .inl (cI, 60, .inl (σ.1 21))), (a 22, .inl (cZ, 60, .inl (σ.1 22))), (a 24, .inl (cI, 1000, .inl (σ.1 24))), (a 26, .inl (cI, 1300, .inl (σ.1 26))), (a 27, .inl (cI, 1300, .inl (σ.1 27))), (a 28, .inl (cI, 1300, .inl (σ.1 28))), (a 29, .inl (cI, 1300, .inl (σ.1 29))), (a 30, .inl (cZ, 1300, .inl (σ.1 30))), (a 32, .inl (cZ, 1000, .inl (σ.1 32)))]
def rAd (a : Nat → Nat) : Nat → Prop := fun q => q = a 0 ∨ q = a 1 ∨ q = a 2 ∨ q = a 3 ∨ q = a 4 ∨ q = a 5 ∨ q = a 7 ∨ q = a 8 ∨ q = a 9 ∨ q = a 10 ∨ q = a 11 ∨ q = a 12 ∨ q = a 13 ∨ q = a 15 ∨ q = a 16 ∨ q = a 17 ∨ q = a 18 ∨ q = a 19 ∨ q = a 21 ∨ q = a 22 ∨ q = a 24 ∨ q = a 26 ∨ q = a 27 ∨ q = a 28 ∨ q = a 29 ∨ q = a 30 ∨ q = a 32

def sX5_slot (σ : MS) (p0 : Int32) (p1 : Int32) : Option Int32 :=
  some ((p0 * (31 : Int32)) + p1)
def sX1_madeOrGiven (σ : MS) (p1 : Int32) (p2 : Int32) : Option Int32 :=
  (sX5_slot σ p1 p2).bind fun r_1 =>
  if gi r_1 310 then
  if (σ.1 17 (r_1.toNatClampNeg)) = (-1 : Int32) then
    (sX5_slot σ p1 p2).bind fun r_4 =>
    if gi r_4 310 then
    some (σ.1 18 (r_4.toNatClampNeg))
    else none
  else
    some (σ.1 17 (r_1.toNatClampNeg))
  else none
def sX1_isProgram (σ : MS) (p1 : Int32) : Option Int32 :=
  if gi p1 10 then
  if (σ.1 13 (p1.toNatClampNeg)) = (-1 : Int32) then
    some (0 : Int32)
  else
    some (1 : Int32)
  else none
def sX0_hasFlag (σ : MS) (p1 : Int32) (p2 : Int32) : Option Int32 :=
  if gi p1 40 then
  if ((σ.1 12 (p1.toNatClampNeg)) &&& p2) = (0 : Int32) then
    some (0 : Int32)
  else
    some (1 : Int32)
  else none
def sX5_failureAhead (σ : MS) (p1 : Int32) (p2 : Int32) (p3 : Int32) : Option Int32 :=
  if gi p3 40 then
  if (σ.1 8 (p3.toNatClampNeg)) = p2 then
    if (4 : Int32) ≤ p2 then
      (sX0_hasFlag σ p3 (1 : Int32)).bind fun r_4 =>
      if r_4 = (0 : Int32) then
        some (1 : Int32)
      else
        some (-16 : Int32)
    else
      (sX1_isProgram σ p1).bind fun r_6 =>
      if r_6 = (0 : Int32) then
        (sX0_hasFlag σ p3 (1 : Int32)).bind fun r_8 =>
        if r_8 = (0 : Int32) then
          some (1 : Int32)
        else
          some (-16 : Int32)
      else
        some (-14 : Int32)
  else
    some (-13 : Int32)
  else none
def sX2_add (σ : MS) (p1 : Int32) (p2 : Int32) (p3 : Int32) (p4 : Int32) : Option (Int32 × MS) :=
  if (σ.2 2) < (822 : Int32) then
    if gi (σ.2 2) 822 then
    some ((σ.2 2), (sZ (sA (sA (sA (sA (sA σ 20 ((σ.2 2).toNatClampNeg) p1) 21 ((σ.2 2).toNatClampNeg) p2) 22 ((σ.2 2).toNatClampNeg) p3) 23 ((σ.2 2).toNatClampNeg) p4) 24 ((σ.2 2).toNatClampNeg) (0 : Int32)) 2 ((σ.2 2) + (1 : Int32))))
    else none
  else
    some ((-4 : Int32), σ)
def sX5_stand (σ : MS) (p1 : Int32) (p2 : Int32) (p3 : Int32) (p4 : Int32) : Option (Int32 × MS) :=
  (sX2_add σ p1 p2 p3 p4).bind fun q_1 =>
  if q_1.1 < (0 : Int32) then
    some (q_1.1, q_1.2)
  else
    (sX5_slot q_1.2 p1 p2).bind fun r_3 =>
    if gi r_3 310 then
    some (q_1.1, (sA q_1.2 17 (r_3.toNatClampNeg) q_1.1))
    else none
def bX5_ask (fr : Nat → MS → Int32 → Int32 → Int32 → Int32 → Option (Int32 × MS)) (σ : MS) (p1 : Int32) (p2 : Int32) (p3 : Int32) : Option (Int32 × MS) :=
  (sX1_madeOrGiven σ p1 p2).bind fun r_1 =>
  if r_1 = (-1 : Int32) then
    (sX1_isProgram σ p1).bind fun r_3 =>
    if gi p1 10 then
    if r_3 = (0 : Int32) then
      (sX5_slot σ p1 p2).bind fun r_6 =>
      if gi r_6 310 then
      if (σ.1 16 (r_6.toNatClampNeg)) = (-1 : Int32) then
        some ((-11 : Int32), σ)
      else
        (fr 2 σ p1 p2 (σ.1 16 (r_6.toNatClampNeg)) p3).bind fun q_9 =>
        some (q_9.1, q_9.2)
      else none
    else
      if (σ.1 14 (p1.toNatClampNeg)) = (0 : Int32) then
        (fr 1 σ p1 p2 p3 (0 : Int32)).bind fun q_16 =>
        if q_16.1 = (-11 : Int32) then
          (sX5_slot q_16.2 p1 p2).bind fun r_18 =>
          if gi r_18 310 then
          if (q_16.2.1 16 (r_18.toNatClampNeg)) = (-1 : Int32) then
            some ((-11 : Int32), q_16.2)
          else
            (fr 2 q_16.2 p1 p2 (q_16.2.1 16 (r_18.toNatClampNeg)) p3).bind fun q_21 =>
            some (q_21.1, q_21.2)
          else none
        else
          some (q_16.1, q_16.2)
      else
        (sX5_slot σ p1 p2).bind fun r_11 =>
        if gi r_11 310 then
        if (σ.1 16 (r_11.toNatClampNeg)) = (-1 : Int32) then
          (fr 1 σ p1 p2 p3 (0 : Int32)).bind fun q_14 =>
          some (q_14.1, q_14.2)
        else
          (fr 2 σ p1 p2 (σ.1 16 (r_11.toNatClampNeg)) p3).bind fun q_15 =>
          some (q_15.1, q_15.2)
        else none
    else none
  else
    some (r_1, σ)
def bX5_askLibrary (fr : Nat → MS → Int32 → Int32 → Int32 → Int32 → Option (Int32 × MS)) (σ : MS) (p1 : Int32) (p2 : Int32) (p3 : Int32) : Option (Int32 × MS) :=
  if gi p1 10 then
  (fr 0 σ (σ.1 13 (p1.toNatClampNeg)) p2 p3 (0 : Int32)).bind fun q_2 =>
  if q_2.1 < (0 : Int32) then
    some (q_2.1, q_2.2)
  else
    (sX5_slot q_2.2 p1 p2).bind fun r_4 =>
    if gi r_4 310 then
    some (q_2.1, (sA q_2.2 18 (r_4.toNatClampNeg) q_2.1))
    else none
  else none
def bX5_make (fr : Nat → MS → Int32 → Int32 → Int32 → Int32 → Option (Int32 × MS)) (σ : MS) (p1 : Int32) (p2 : Int32) (p3 : Int32) (p4 : Int32) : Option (Int32 × MS) :=
  (sX5_failureAhead σ p1 p2 p3).bind fun r_1 =>
  if r_1 = (1 : Int32) then
    if gi p3 40 then
    if (σ.1 10 (p3.toNatClampNeg)) = (-1 : Int32) then
      (sX5_stand σ p1 p2 p3 (-1 : Int32)).bind fun q_14 =>
      some (q_14.1, q_14.2)
    else
      (sX5_slot σ p1 p2).bind fun r_5 =>
      if gi r_5 310 then
      (sX5_slot (sA σ 19 (r_5.toNatClampNeg) (1 : Int32)) p1 (σ.1 10 (p3.toNatClampNeg))).bind fun r_7 =>
      if gi r_7 310 then
      if ((sA σ 19 (r_5.toNatClampNeg) (1 : Int32)).1 19 (r_7.toNatClampNeg)) = (0 : Int32) then
        if p4 < (62 : Int32) then
          (fr 0 (sA σ 19 (r_5.toNatClampNeg) (1 : Int32)) p1 (σ.1 10 (p3.toNatClampNeg)) (p4 + (1 : Int32)) (0 : Int32)).bind fun q_11 =>
          if q_11.1 < (0 : Int32) then
            some (q_11.1, (sA q_11.2 19 (r_5.toNatClampNeg) (0 : Int32)))
          else
            (sX5_stand (sA q_11.2 19 (r_5.toNatClampNeg) (0 : Int32)) p1 p2 p3 q_11.1).bind fun q_13 =>
            some (q_13.1, q_13.2)
        else
          some ((-15 : Int32), (sA (sA σ 19 (r_5.toNatClampNeg) (1 : Int32)) 19 (r_5.toNatClampNeg) (0 : Int32)))
      else
        some ((-15 : Int32), (sA (sA σ 19 (r_5.toNatClampNeg) (1 : Int32)) 19 (r_5.toNatClampNeg) (0 : Int32)))
      else none
      else none
    else none
  else
    some (r_1, σ)
def sRec : Nat → Nat → MS → Int32 → Int32 → Int32 → Int32 → Option (Int32 × MS)
  | 0, _, _, _, _, _, _ => none
  | n + 1, 0, σ, v0, v1, v2, _ => bX5_ask (sRec n) σ v0 v1 v2
  | n + 1, 1, σ, v0, v1, v2, _ => bX5_askLibrary (sRec n) σ v0 v1 v2
  | n + 1, _, σ, v0, v1, v2, v3 => bX5_make (sRec n) σ v0 v1 v2 v3
def sX5_isName (σ : MS) (p0 : Int32) : Option Int32 :=
  if p0 < (0 : Int32) then
    some (0 : Int32)
  else
    if (31 : Int32) ≤ p0 then
      some (0 : Int32)
    else
      some (1 : Int32)
def sX5_isNameOrNone (σ : MS) (p0 : Int32) : Option Int32 :=
  if p0 = (-1 : Int32) then
    some (1 : Int32)
  else
    (sX5_isName σ p0).bind fun r_2 =>
    if r_2 = (0 : Int32) then
      some (0 : Int32)
    else
      some (1 : Int32)
def sX0_add (σ : MS) (p1 : Int32) (p2 : Int32) (p3 : Int32) (p4 : Int32) (p5 : Int32) : Option (Int32 × MS) :=
  if (σ.2 0) < (40 : Int32) then
    if gi (σ.2 0) 40 then
    some ((σ.2 0), (sZ (sA (sA (sA (sA (sA σ 8 ((σ.2 0).toNatClampNeg) p1) 9 ((σ.2 0).toNatClampNeg) p2) 10 ((σ.2 0).toNatClampNeg) p3) 11 ((σ.2 0).toNatClampNeg) p4) 12 ((σ.2 0).toNatClampNeg) p5) 0 ((σ.2 0) + (1 : Int32))))
    else none
  else
    some ((-4 : Int32), σ)
def sX5_file (σ : MS) (p1 : Int32) (p2 : Int32) (p3 : Int32) (p4 : Int32) (p5 : Int32) : Option (Int32 × MS) :=
  (sX5_isName σ p1).bind fun r_1 =>
  if r_1 = (0 : Int32) then
    some ((-2 : Int32), σ)
  else
    (sX5_isNameOrNone σ p3).bind fun r_3 =>
    if r_3 = (0 : Int32) then
      some ((-2 : Int32), σ)
    else
      (sX5_isNameOrNone σ p4).bind fun r_5 =>
      if r_5 = (0 : Int32) then
        some ((-2 : Int32), σ)
      else
        if p5 < (0 : Int32) then
          some ((-2 : Int32), σ)
        else
          if p5 ≤ (3 : Int32) then
            (sX0_add σ p1 p2 p3 p4 p5).bind fun q_9 =>
            some (q_9.1, q_9.2)
          else
            some ((-2 : Int32), σ)
def sX1_add (σ : MS) (p1 : Int32) (p2 : Int32) : Option (Int32 × MS) :=
  if (σ.2 1) < (10 : Int32) then
    if gi (σ.2 1) 10 then
    some ((σ.2 1), (sZ (sA (sA σ 13 ((σ.2 1).toNatClampNeg) p1) 14 ((σ.2 1).toNatClampNeg) (vp_nar .boolean p2)) 1 ((σ.2 1) + (1 : Int32))))
    else none
  else
    some ((-4 : Int32), σ)
def sX1_has (σ : MS) (p1 : Int32) : Option Int32 :=
  if p1 < (0 : Int32) then
    some (0 : Int32)
  else
    if (σ.2 1) ≤ p1 then
      some (0 : Int32)
    else
      some (1 : Int32)
def sX5_loader (σ : MS) (p1 : Int32) (p2 : Int32) : Option (Int32 × MS) :=
  if p1 = (-1 : Int32) then
    (sX1_add σ p1 p2).bind fun q_2 =>
    some (q_2.1, q_2.2)
  else
    (sX1_has σ p1).bind fun r_3 =>
    if r_3 = (0 : Int32) then
      some ((-2 : Int32), σ)
    else
      (sX1_isProgram σ p1).bind fun r_5 =>
      if r_5 = (0 : Int32) then
        if gi p1 10 then
        if (σ.1 15 (p1.toNatClampNeg)) = (0 : Int32) then
          (sX1_add σ p1 p2).bind fun q_9 =>
          some (q_9.1, q_9.2)
        else
          some ((-3 : Int32), σ)
        else none
      else
        some ((-2 : Int32), σ)
def sX0_has (σ : MS) (p1 : Int32) : Option Int32 :=
  if p1 < (0 : Int32) then
    some (0 : Int32)
  else
    if (σ.2 0) ≤ p1 then
      some (0 : Int32)
    else
      some (1 : Int32)
def sX5_put (σ : MS) (p1 : Int32) (p2 : Int32) (p3 : Int32) : Option (Int32 × MS) :=
  (sX1_has σ p1).bind fun r_1 =>
  if r_1 = (0 : Int32) then
    some ((-2 : Int32), σ)
  else
    (sX5_isName σ p2).bind fun r_3 =>
    if r_3 = (0 : Int32) then
      some ((-2 : Int32), σ)
    else
      (sX0_has σ p3).bind fun r_5 =>
      if r_5 = (0 : Int32) then
        some ((-2 : Int32), σ)
      else
        if gi p1 10 then
        if (σ.1 15 (p1.toNatClampNeg)) = (0 : Int32) then
          (sX5_slot σ p1 p2).bind fun r_9 =>
          if gi r_9 310 then
          some ((1 : Int32), (sA σ 16 (r_9.toNatClampNeg) p3))
          else none
        else
          some ((-3 : Int32), σ)
        else none
def sX5_load (fu : Nat) (σ : MS) (p1 : Int32) (p2 : Int32) : Option (Int32 × MS) :=
  (sX1_has σ p1).bind fun r_1 =>
  if r_1 = (0 : Int32) then
    some ((-2 : Int32), σ)
  else
    (sX5_isName σ p2).bind fun r_3 =>
    if r_3 = (0 : Int32) then
      some ((-2 : Int32), σ)
    else
      if gi p1 10 then
      if (σ.1 15 (p1.toNatClampNeg)) = (0 : Int32) then
        (sRec fu 0 σ p1 p2 (0 : Int32) (0 : Int32)).bind fun q_7 =>
        some (q_7.1, q_7.2)
      else
        some ((-3 : Int32), σ)
      else none
def sX5_define (fu : Nat) (σ : MS) (p1 : Int32) (p2 : Int32) (p3 : Int32) : Option (Int32 × MS) :=
  (sX1_has σ p1).bind fun r_1 =>
  if r_1 = (0 : Int32) then
    some ((-2 : Int32), σ)
  else
    (sX5_isName σ p2).bind fun r_3 =>
    if r_3 = (0 : Int32) then
      some ((-2 : Int32), σ)
    else
      (sX0_has σ p3).bind fun r_5 =>
      if r_5 = (0 : Int32) then
        some ((-2 : Int32), σ)
      else
        if gi p1 10 then
        if (σ.1 15 (p1.toNatClampNeg)) = (0 : Int32) then
          (sX5_slot σ p1 p2).bind fun r_9 =>
          if gi r_9 310 then
          if (σ.1 17 (r_9.toNatClampNeg)) = (-1 : Int32) then
            (sRec fu 2 σ p1 p2 p3 (0 : Int32)).bind fun q_12 =>
            some (q_12.1, q_12.2)
          else
            some ((-12 : Int32), σ)
          else none
        else
          some ((-3 : Int32), σ)
        else none
def sX5_anew (fu : Nat) (σ : MS) (p1 : Int32) (p2 : Int32) (p3 : Int32) : Option (Int32 × MS) :=
  (sX1_has σ p1).bind fun r_1 =>
  if r_1 = (0 : Int32) then
    some ((-2 : Int32), σ)
  else
    (sX5_isName σ p2).bind fun r_3 =>
    if r_3 = (0 : Int32) then
      some ((-2 : Int32), σ)
    else
      (sX0_has σ p3).bind fun r_5 =>
      if r_5 = (0 : Int32) then
        some ((-2 : Int32), σ)
      else
        if gi p1 10 then
        if (σ.1 15 (p1.toNatClampNeg)) = (0 : Int32) then
          (sX5_slot σ p1 p2).bind fun r_9 =>
          if gi r_9 310 then
          if (σ.1 17 (r_9.toNatClampNeg)) = (-1 : Int32) then
            some ((-3 : Int32), σ)
          else
            (sRec fu 2 σ p1 p2 p3 (0 : Int32)).bind fun q_12 =>
            some (q_12.1, q_12.2)
          else none
        else
          some ((-3 : Int32), σ)
        else none
def sX5_known (σ : MS) (p1 : Int32) (p2 : Int32) : Option Int32 :=
  (sX1_has σ p1).bind fun r_1 =>
  if r_1 = (0 : Int32) then
    some (-2 : Int32)
  else
    (sX5_isName σ p2).bind fun r_3 =>
    if r_3 = (0 : Int32) then
      some (-2 : Int32)
    else
      (sX1_madeOrGiven σ p1 p2).bind fun r_5 =>
      some r_5
def sX2_has (σ : MS) (p1 : Int32) : Option Int32 :=
  if p1 < (0 : Int32) then
    some (0 : Int32)
  else
    if (σ.2 2) ≤ p1 then
      some (0 : Int32)
    else
      some (1 : Int32)
def sX3_add_6 (σ : MS) (p1 : Int32) : Option MS :=
  if (822 : Int32) ≤ (σ.2 5) then
    some σ
  else
    if gi (σ.2 5) 822 then
    some (sA (sZ σ 5 ((σ.2 5) + (1 : Int32))) 28 ((σ.2 5).toNatClampNeg) p1)
    else none
def sX5_comeTo (σ : MS) (p1 : Int32) : Option (Int32 × MS) :=
  if gi p1 822 then
  if (σ.1 24 (p1.toNatClampNeg)) = (2 : Int32) then
    some ((-18 : Int32), σ)
  else
    if (σ.1 24 (p1.toNatClampNeg)) = (0 : Int32) then
      (sX3_add_6 (sA σ 24 (p1.toNatClampNeg) (3 : Int32)) p1).bind fun u_4 =>
      some ((1 : Int32), u_4)
    else
      some ((1 : Int32), σ)
  else none
def sX5_comeToNeed (fu : Nat) (σ : MS) (p1 : Int32) : Option (Int32 × MS) :=
  if gi p1 822 then
  if gi (σ.1 22 (p1.toNatClampNeg)) 40 then
  if (σ.1 11 ((σ.1 22 (p1.toNatClampNeg)).toNatClampNeg)) = (-1 : Int32) then
    some ((1 : Int32), σ)
  else
    (sRec fu 0 σ (σ.1 20 (p1.toNatClampNeg)) (σ.1 11 ((σ.1 22 (p1.toNatClampNeg)).toNatClampNeg)) (0 : Int32) (0 : Int32)).bind fun q_4 =>
    if q_4.1 < (0 : Int32) then
      some (q_4.1, q_4.2)
    else
      (sX5_comeTo q_4.2 q_4.1).bind fun q_6 =>
      some (q_6.1, q_6.2)
  else none
  else none
def sX3_add_5 (σ : MS) (p1 : Int32) : Option MS :=
  if (822 : Int32) ≤ (σ.2 4) then
    some σ
  else
    if gi (σ.2 4) 822 then
    some (sA (sZ σ 4 ((σ.2 4) + (1 : Int32))) 27 ((σ.2 4).toNatClampNeg) p1)
    else none
def sX5_beginItself (σ : MS) (p1 : Int32) : Option (Int32 × MS) :=
  if gi p1 822 then
  (sX0_hasFlag σ (σ.1 22 (p1.toNatClampNeg)) (2 : Int32)).bind fun r_2 =>
  if r_2 = (0 : Int32) then
    if gi (σ.1 22 (p1.toNatClampNeg)) 40 then
    (sX3_add_5 σ (σ.1 9 ((σ.1 22 (p1.toNatClampNeg)).toNatClampNeg))).bind fun u_5 =>
    some ((1 : Int32), (sZ (sA u_5 24 (p1.toNatClampNeg) (1 : Int32)) 5 ((u_5.2 5) - (1 : Int32))))
    else none
  else
    some ((-17 : Int32), σ)
  else none
def sX5_goOn (fu : Nat) (σ : MS) (p1 : Int32) : Option (Int32 × MS) :=
  if gi p1 822 then
  if (σ.1 24 (p1.toNatClampNeg)) = (3 : Int32) then
    if (σ.1 23 (p1.toNatClampNeg)) = (-1 : Int32) then
      some ((1 : Int32), (sA σ 24 (p1.toNatClampNeg) (4 : Int32)))
    else
      (sX5_comeTo (sA σ 24 (p1.toNatClampNeg) (4 : Int32)) (σ.1 23 (p1.toNatClampNeg))).bind fun q_3 =>
      some (q_3.1, q_3.2)
  else
    if (σ.1 24 (p1.toNatClampNeg)) = (4 : Int32) then
      (sX5_comeToNeed fu (sA σ 24 (p1.toNatClampNeg) (5 : Int32)) p1).bind fun q_4 =>
      some (q_4.1, q_4.2)
    else
      (sX5_beginItself σ p1).bind fun q_5 =>
      some (q_5.1, q_5.2)
  else none
def sX5_beginFrom_L58 (fu : Nat) : Nat → MS → Int32 → Int32 → Int32 → Option (Int32 × MS)
  | 0, _, _, _, _ => none
  | n + 1, σ, x1, x2, x3 =>
    if (σ.2 5) ≤ (0 : Int32) then
      some (x2, σ)
    else
      if gi ((σ.2 5) - (1 : Int32)) 822 then
      if gi (σ.1 28 (((σ.2 5) - (1 : Int32)).toNatClampNeg)) 822 then
      sX5_beginFrom_L58 fu n (sZ (sA σ 24 ((σ.1 28 (((σ.2 5) - (1 : Int32)).toNatClampNeg)).toNatClampNeg) (2 : Int32)) 5 ((σ.2 5) - (1 : Int32))) x1 x2 x3
      else none
      else none
def sX5_beginFrom_L8 (fu : Nat) : Nat → MS → Int32 → Int32 → Int32 → Option (Int32 × MS)
  | 0, _, _, _, _ => none
  | n + 1, σ, x1, x2, x3 =>
    if (2466 : Int32) ≤ x3 then
      sX5_beginFrom_L58 fu fu σ x1 x2 x3
    else
      if x2 = (1 : Int32) then
        if (σ.2 5) ≤ (0 : Int32) then
          sX5_beginFrom_L58 fu fu σ x1 x2 x3
        else
          if gi ((σ.2 5) - (1 : Int32)) 822 then
          (sX5_goOn fu σ (σ.1 28 (((σ.2 5) - (1 : Int32)).toNatClampNeg))).bind fun q_5 =>
          sX5_beginFrom_L8 fu n q_5.2 x1 q_5.1 (x3 + (1 : Int32))
          else none
      else
        sX5_beginFrom_L58 fu fu σ x1 x2 x3
def sX5_beginFrom (fu : Nat) (σ : MS) (p1 : Int32) : Option (Int32 × MS) :=
  (sX5_comeTo σ p1).bind fun q_1 =>
  sX5_beginFrom_L8 fu fu q_1.2 p1 q_1.1 (0 : Int32)
def sX5_begin (fu : Nat) (σ : MS) (p1 : Int32) : Option (Int32 × MS) :=
  (sX2_has σ p1).bind fun r_1 =>
  if r_1 = (0 : Int32) then
    some ((-2 : Int32), σ)
  else
    if gi p1 822 then
    if gi (σ.1 20 (p1.toNatClampNeg)) 10 then
    if (σ.1 15 ((σ.1 20 (p1.toNatClampNeg)).toNatClampNeg)) = (0 : Int32) then
      (sX5_beginFrom fu σ p1).bind fun q_6 =>
      some (q_6.1, q_6.2)
    else
      some ((-3 : Int32), σ)
    else none
    else none
def sX4_areFull (σ : MS) : Option Int32 :=
  if (σ.2 3) < (60 : Int32) then
    some (0 : Int32)
  else
    some (1 : Int32)
def sX4_add (σ : MS) (p1 : Int32) : Option (Int32 × MS) :=
  (sX4_areFull σ).bind fun r_1 =>
  if r_1 = (0 : Int32) then
    if gi (σ.2 3) 60 then
    some ((σ.2 3), (sZ (sA σ 25 ((σ.2 3).toNatClampNeg) p1) 3 ((σ.2 3) + (1 : Int32))))
    else none
  else
    some ((-4 : Int32), σ)
def sX5_thing (fu : Nat) (σ : MS) (p1 : Int32) : Option (Int32 × MS) :=
  (sX2_has σ p1).bind fun r_1 =>
  if r_1 = (0 : Int32) then
    some ((-2 : Int32), σ)
  else
    if gi p1 822 then
    if gi (σ.1 20 (p1.toNatClampNeg)) 10 then
    if (σ.1 15 ((σ.1 20 (p1.toNatClampNeg)).toNatClampNeg)) = (0 : Int32) then
      (sX4_areFull σ).bind fun r_6 =>
      if r_6 = (0 : Int32) then
        (sX5_beginFrom fu σ p1).bind fun q_8 =>
        if q_8.1 = (1 : Int32) then
          (sX4_add q_8.2 p1).bind fun q_10 =>
          some (q_10.1, q_10.2)
        else
          some (q_8.1, q_8.2)
      else
        some ((-4 : Int32), σ)
    else
      some ((-3 : Int32), σ)
    else none
    else none
def sX4_has (σ : MS) (p1 : Int32) : Option Int32 :=
  if p1 < (0 : Int32) then
    some (0 : Int32)
  else
    if (σ.2 3) ≤ p1 then
      some (0 : Int32)
    else
      some (1 : Int32)
def sX2_isOrDescends_L5 (fu : Nat) : Nat → MS → Int32 → Int32 → Int32 → Int32 → Option Int32
  | 0, _, _, _, _, _ => none
  | n + 1, σ, x1, x2, x3, x4 =>
    if (σ.2 2) ≤ x4 then
      some (0 : Int32)
    else
      if x3 = (-1 : Int32) then
        some (0 : Int32)
      else
        if x3 = x2 then
          some (1 : Int32)
        else
          if gi x3 822 then
          sX2_isOrDescends_L5 fu n σ x1 x2 (σ.1 23 (x3.toNatClampNeg)) (x4 + (1 : Int32))
          else none
def sX2_isOrDescends (fu : Nat) (σ : MS) (p1 : Int32) (p2 : Int32) : Option Int32 :=
  sX2_isOrDescends_L5 fu fu σ p1 p2 p1 (0 : Int32)
def sX5_cast (fu : Nat) (σ : MS) (p1 : Int32) (p2 : Int32) : Option Int32 :=
  (sX4_has σ p1).bind fun r_1 =>
  if r_1 = (0 : Int32) then
    some (-2 : Int32)
  else
    (sX2_has σ p2).bind fun r_3 =>
    if r_3 = (0 : Int32) then
      some (-2 : Int32)
    else
      if gi p1 60 then
      if (σ.1 26 (p1.toNatClampNeg)) = (0 : Int32) then
        (sX2_isOrDescends fu σ (σ.1 25 (p1.toNatClampNeg)) p2).bind fun r_7 =>
        if r_7 = (0 : Int32) then
          some (-19 : Int32)
        else
          some (1 : Int32)
      else
        some (-3 : Int32)
      else none
def sX5_drop (σ : MS) (p1 : Int32) : Option (Int32 × MS) :=
  (sX4_has σ p1).bind fun r_1 =>
  if r_1 = (0 : Int32) then
    some ((-2 : Int32), σ)
  else
    if gi p1 60 then
    if (σ.1 26 (p1.toNatClampNeg)) = (0 : Int32) then
      some ((1 : Int32), (sA σ 26 (p1.toNatClampNeg) (1 : Int32)))
    else
      some ((-3 : Int32), σ)
    else none
def sX1_hasLiveProgram_L2 (fu : Nat) : Nat → MS → Int32 → Int32 → Option Int32
  | 0, _, _, _ => none
  | n + 1, σ, x1, x2 =>
    if (σ.2 1) ≤ x2 then
      some (0 : Int32)
    else
      if gi x2 10 then
      if (σ.1 13 (x2.toNatClampNeg)) = x1 then
        if (σ.1 15 (x2.toNatClampNeg)) = (0 : Int32) then
          some (1 : Int32)
        else
          sX1_hasLiveProgram_L2 fu n σ x1 (x2 + (1 : Int32))
      else
        sX1_hasLiveProgram_L2 fu n σ x1 (x2 + (1 : Int32))
      else none
def sX1_hasLiveProgram (fu : Nat) (σ : MS) (p1 : Int32) : Option Int32 :=
  sX1_hasLiveProgram_L2 fu fu σ p1 (0 : Int32)
def sX5_letGo (fu : Nat) (σ : MS) (p1 : Int32) : Option (Int32 × MS) :=
  (sX1_has σ p1).bind fun r_1 =>
  if r_1 = (0 : Int32) then
    some ((-2 : Int32), σ)
  else
    if gi p1 10 then
    if (σ.1 15 (p1.toNatClampNeg)) = (0 : Int32) then
      (sX1_hasLiveProgram fu σ p1).bind fun r_5 =>
      if r_5 = (0 : Int32) then
        some ((1 : Int32), (sA σ 15 (p1.toNatClampNeg) (1 : Int32)))
      else
        some ((-3 : Int32), σ)
    else
      some ((-3 : Int32), σ)
    else none
def sX5_markHeldBy_L2 (fu : Nat) : Nat → MS → Int32 → Int32 → Option MS
  | 0, _, _, _ => none
  | n + 1, σ, x1, x2 =>
    if (31 : Int32) ≤ x2 then
      some σ
    else
      (sX5_slot σ x1 x2).bind fun r_2 =>
      if gi r_2 310 then
      if (σ.1 17 (r_2.toNatClampNeg)) = (-1 : Int32) then
        (sX5_slot σ x1 x2).bind fun r_5 =>
        if gi r_5 310 then
        if (σ.1 18 (r_5.toNatClampNeg)) = (-1 : Int32) then
          sX5_markHeldBy_L2 fu n σ x1 (x2 + (1 : Int32))
        else
          if gi (σ.1 18 (r_5.toNatClampNeg)) 822 then
          sX5_markHeldBy_L2 fu n (sA σ 7 ((σ.1 18 (r_5.toNatClampNeg)).toNatClampNeg) (1 : Int32)) x1 (x2 + (1 : Int32))
          else none
        else none
      else
        if gi (σ.1 17 (r_2.toNatClampNeg)) 822 then
        (sX5_slot (sA σ 7 ((σ.1 17 (r_2.toNatClampNeg)).toNatClampNeg) (1 : Int32)) x1 x2).bind fun r_10 =>
        if gi r_10 310 then
        if (σ.1 18 (r_10.toNatClampNeg)) = (-1 : Int32) then
          sX5_markHeldBy_L2 fu n (sA σ 7 ((σ.1 17 (r_2.toNatClampNeg)).toNatClampNeg) (1 : Int32)) x1 (x2 + (1 : Int32))
        else
          if gi (σ.1 18 (r_10.toNatClampNeg)) 822 then
          sX5_markHeldBy_L2 fu n (sA (sA σ 7 ((σ.1 17 (r_2.toNatClampNeg)).toNatClampNeg) (1 : Int32)) 7 ((σ.1 18 (r_10.toNatClampNeg)).toNatClampNeg) (1 : Int32)) x1 (x2 + (1 : Int32))
          else none
        else none
        else none
      else none
def sX5_markHeldBy (fu : Nat) (σ : MS) (p1 : Int32) : Option MS :=
  sX5_markHeldBy_L2 fu fu σ p1 (0 : Int32)
def sX5_markHeld_L118 (fu : Nat) : Nat → MS → Int32 → Option MS
  | 0, _, _ => none
  | n + 1, σ, x1 =>
    if x1 < (0 : Int32) then
      some σ
    else
      if gi x1 822 then
      if (σ.1 7 (x1.toNatClampNeg)) = (0 : Int32) then
        sX5_markHeld_L118 fu n σ (x1 + (-1 : Int32))
      else
        if (σ.1 23 (x1.toNatClampNeg)) = (-1 : Int32) then
          sX5_markHeld_L118 fu n σ (x1 + (-1 : Int32))
        else
          if gi (σ.1 23 (x1.toNatClampNeg)) 822 then
          sX5_markHeld_L118 fu n (sA σ 7 ((σ.1 23 (x1.toNatClampNeg)).toNatClampNeg) (1 : Int32)) (x1 + (-1 : Int32))
          else none
      else none
def sX5_markHeld_L74 (fu : Nat) : Nat → MS → Int32 → Option MS
  | 0, _, _ => none
  | n + 1, σ, x1 =>
    if (σ.2 1) ≤ x1 then
      sX5_markHeld_L118 fu fu σ ((σ.2 2) - (1 : Int32))
    else
      if gi x1 10 then
      if (σ.1 15 (x1.toNatClampNeg)) = (0 : Int32) then
        (sX5_markHeldBy fu σ x1).bind fun u_4 =>
        sX5_markHeld_L74 fu n u_4 (x1 + (1 : Int32))
      else
        sX5_markHeld_L74 fu n σ (x1 + (1 : Int32))
      else none
def sX5_markHeld_L28 (fu : Nat) : Nat → MS → Int32 → Option MS
  | 0, _, _ => none
  | n + 1, σ, x1 =>
    if (σ.2 3) ≤ x1 then
      sX5_markHeld_L74 fu fu σ (0 : Int32)
    else
      if gi x1 60 then
      if (σ.1 26 (x1.toNatClampNeg)) = (0 : Int32) then
        if gi (σ.1 25 (x1.toNatClampNeg)) 822 then
        sX5_markHeld_L28 fu n (sA σ 7 ((σ.1 25 (x1.toNatClampNeg)).toNatClampNeg) (1 : Int32)) (x1 + (1 : Int32))
        else none
      else
        sX5_markHeld_L28 fu n σ (x1 + (1 : Int32))
      else none
def sX5_markHeld_L2 (fu : Nat) : Nat → MS → Int32 → Option MS
  | 0, _, _ => none
  | n + 1, σ, x1 =>
    if (σ.2 2) ≤ x1 then
      sX5_markHeld_L28 fu fu σ (0 : Int32)
    else
      if gi x1 822 then
      sX5_markHeld_L2 fu n (sA σ 7 (x1.toNatClampNeg) (0 : Int32)) (x1 + (1 : Int32))
      else none
def sX5_markHeld (fu : Nat) (σ : MS) : Option MS :=
  sX5_markHeld_L2 fu fu σ (0 : Int32)
def sX5_held_L22 (fu : Nat) : Nat → MS → Int32 → Int32 → Int32 → Option (Int32 × MS)
  | 0, _, _, _, _ => none
  | n + 1, σ, x1, x2, x3 =>
    if (σ.2 2) ≤ x3 then
      some (x2, σ)
    else
      if gi x3 822 then
      if (σ.1 20 (x3.toNatClampNeg)) = x1 then
        if (σ.1 7 (x3.toNatClampNeg)) = (0 : Int32) then
          sX5_held_L22 fu n σ x1 x2 (x3 + (1 : Int32))
        else
          sX5_held_L22 fu n σ x1 (x2 + (1 : Int32)) (x3 + (1 : Int32))
      else
        sX5_held_L22 fu n σ x1 x2 (x3 + (1 : Int32))
      else none
def sX5_held (fu : Nat) (σ : MS) (p1 : Int32) : Option (Int32 × MS) :=
  (sX1_has σ p1).bind fun r_1 =>
  if r_1 = (0 : Int32) then
    some ((-2 : Int32), σ)
  else
    (sX5_markHeld fu σ).bind fun u_3 =>
    sX5_held_L22 fu fu u_3 p1 (0 : Int32) (0 : Int32)
def sX5_isHeld (fu : Nat) (σ : MS) (p1 : Int32) : Option (Int32 × MS) :=
  (sX2_has σ p1).bind fun r_1 =>
  if r_1 = (0 : Int32) then
    some ((-2 : Int32), σ)
  else
    (sX5_markHeld fu σ).bind fun u_3 =>
    if gi p1 822 then
    if (u_3.1 7 (p1.toNatClampNeg)) = (0 : Int32) then
      some ((0 : Int32), u_3)
    else
      some ((1 : Int32), u_3)
    else none
def sX5_about (σ : MS) (p1 : Int32) (p2 : Int32) : Option Int32 :=
  (sX2_has σ p1).bind fun r_1 =>
  if r_1 = (0 : Int32) then
    some (0 : Int32)
  else
    if p2 = (0 : Int32) then
      if gi p1 822 then
      some (σ.1 20 (p1.toNatClampNeg))
      else none
    else
      if p2 = (1 : Int32) then
        if gi p1 822 then
        some (σ.1 21 (p1.toNatClampNeg))
        else none
      else
        if p2 = (2 : Int32) then
          if gi p1 822 then
          some (σ.1 23 (p1.toNatClampNeg))
          else none
        else
          if p2 = (3 : Int32) then
            if gi p1 822 then
            some (σ.1 24 (p1.toNatClampNeg))
            else none
          else
            if p2 = (4 : Int32) then
              if gi p1 822 then
              if gi (σ.1 22 (p1.toNatClampNeg)) 40 then
              some (σ.1 9 ((σ.1 22 (p1.toNatClampNeg)).toNatClampNeg))
              else none
              else none
            else
              if p2 = (5 : Int32) then
                if gi p1 822 then
                some (σ.1 22 (p1.toNatClampNeg))
                else none
              else
                some (0 : Int32)
def sX5_aboutThing (σ : MS) (p1 : Int32) (p2 : Int32) : Option Int32 :=
  (sX4_has σ p1).bind fun r_1 =>
  if r_1 = (0 : Int32) then
    some (-2 : Int32)
  else
    if p2 = (0 : Int32) then
      if gi p1 60 then
      some (σ.1 25 (p1.toNatClampNeg))
      else none
    else
      if p2 = (1 : Int32) then
        if gi p1 60 then
        if (σ.1 26 (p1.toNatClampNeg)) = (0 : Int32) then
          some (0 : Int32)
        else
          some (1 : Int32)
        else none
      else
        some (-2 : Int32)
def sX5_order (σ : MS) (p1 : Int32) : Option Int32 :=
  if p1 < (0 : Int32) then
    some (0 : Int32)
  else
    if (σ.2 4) ≤ p1 then
      some (0 : Int32)
    else
      if gi p1 822 then
      some (σ.1 27 (p1.toNatClampNeg))
      else none
def sX5_count (σ : MS) (p1 : Int32) : Option Int32 :=
  if p1 = (0 : Int32) then
    some (σ.2 0)
  else
    if p1 = (1 : Int32) then
      some (σ.2 1)
    else
      if p1 = (2 : Int32) then
        some (σ.2 2)
      else
        if p1 = (3 : Int32) then
          some (σ.2 3)
        else
          if p1 = (4 : Int32) then
            some (σ.2 4)
          else
            some (-2 : Int32)
def sX6_in (σ : MS) (p0 : Int32) (p1 : Int32) (p2 : Int32) : Option Int32 :=
  if p0 < p1 then
    some (0 : Int32)
  else
    if p2 < p0 then
      some (0 : Int32)
    else
      some (1 : Int32)
def sX6_isName (σ : MS) (p0 : Int32) : Option Int32 :=
  (sX6_in σ p0 (0 : Int32) (30 : Int32)).bind fun r_1 =>
  if vp_nar .boolean r_1 = r_1 then some r_1 else none
def sX6_file (σ : MS) (p1 : Int32) (p2 : Int32) (p3 : Int32) (p4 : Int32) (p5 : Int32) : Option (Int32 × MS) :=
  (sX6_isName σ p1).bind fun r_1 =>
  if r_1 = (0 : Int32) then
    some ((-2 : Int32), σ)
  else
    if p3 = (-1 : Int32) then
      if p4 = (-1 : Int32) then
        (sX6_in σ p5 (0 : Int32) (3 : Int32)).bind fun r_5 =>
        if r_5 = (0 : Int32) then
          some ((-2 : Int32), σ)
        else
          if (σ.2 0) = (40 : Int32) then
            some ((-4 : Int32), σ)
          else
            if gi (σ.2 0) 40 then
            some ((((σ.2 0) + (1 : Int32)) - (1 : Int32)), (sZ (sA (sA (sA (sA (sA σ 1 ((σ.2 0).toNatClampNeg) p1) 2 ((σ.2 0).toNatClampNeg) p2) 3 ((σ.2 0).toNatClampNeg) p3) 4 ((σ.2 0).toNatClampNeg) p4) 5 ((σ.2 0).toNatClampNeg) p5) 0 ((σ.2 0) + (1 : Int32))))
            else none
      else
        (sX6_isName σ p4).bind fun r_9 =>
        if r_9 = (0 : Int32) then
          some ((-2 : Int32), σ)
        else
          (sX6_in σ p5 (0 : Int32) (3 : Int32)).bind fun r_11 =>
          if r_11 = (0 : Int32) then
            some ((-2 : Int32), σ)
          else
            if (σ.2 0) = (40 : Int32) then
              some ((-4 : Int32), σ)
            else
              if gi (σ.2 0) 40 then
              some ((((σ.2 0) + (1 : Int32)) - (1 : Int32)), (sZ (sA (sA (sA (sA (sA σ 1 ((σ.2 0).toNatClampNeg) p1) 2 ((σ.2 0).toNatClampNeg) p2) 3 ((σ.2 0).toNatClampNeg) p3) 4 ((σ.2 0).toNatClampNeg) p4) 5 ((σ.2 0).toNatClampNeg) p5) 0 ((σ.2 0) + (1 : Int32))))
              else none
    else
      (sX6_isName σ p3).bind fun r_15 =>
      if r_15 = (0 : Int32) then
        some ((-2 : Int32), σ)
      else
        if p4 = (-1 : Int32) then
          (sX6_in σ p5 (0 : Int32) (3 : Int32)).bind fun r_18 =>
          if r_18 = (0 : Int32) then
            some ((-2 : Int32), σ)
          else
            if (σ.2 0) = (40 : Int32) then
              some ((-4 : Int32), σ)
            else
              if gi (σ.2 0) 40 then
              some ((((σ.2 0) + (1 : Int32)) - (1 : Int32)), (sZ (sA (sA (sA (sA (sA σ 1 ((σ.2 0).toNatClampNeg) p1) 2 ((σ.2 0).toNatClampNeg) p2) 3 ((σ.2 0).toNatClampNeg) p3) 4 ((σ.2 0).toNatClampNeg) p4) 5 ((σ.2 0).toNatClampNeg) p5) 0 ((σ.2 0) + (1 : Int32))))
              else none
        else
          (sX6_isName σ p4).bind fun r_22 =>
          if r_22 = (0 : Int32) then
            some ((-2 : Int32), σ)
          else
            (sX6_in σ p5 (0 : Int32) (3 : Int32)).bind fun r_24 =>
            if r_24 = (0 : Int32) then
              some ((-2 : Int32), σ)
            else
              if (σ.2 0) = (40 : Int32) then
                some ((-4 : Int32), σ)
              else
                if gi (σ.2 0) 40 then
                some ((((σ.2 0) + (1 : Int32)) - (1 : Int32)), (sZ (sA (sA (sA (sA (sA σ 1 ((σ.2 0).toNatClampNeg) p1) 2 ((σ.2 0).toNatClampNeg) p2) 3 ((σ.2 0).toNatClampNeg) p3) 4 ((σ.2 0).toNatClampNeg) p4) 5 ((σ.2 0).toNatClampNeg) p5) 0 ((σ.2 0) + (1 : Int32))))
                else none
def sX6_isLoader (σ : MS) (p1 : Int32) : Option Int32 :=
  (sX6_in σ p1 (0 : Int32) ((σ.2 6) - (1 : Int32))).bind fun r_1 =>
  if vp_nar .boolean r_1 = r_1 then some r_1 else none
def sX6_loader_L77 (fu : Nat) : Nat → MS → Int32 → Int32 → Int32 → Option (Int32 × MS)
  | 0, _, _, _, _ => none
  | n + 1, σ, x1, x2, x3 =>
    if (31 : Int32) ≤ x3 then
      some ((((σ.2 6) + (1 : Int32)) - (1 : Int32)), (sZ σ 6 ((σ.2 6) + (1 : Int32))))
    else
      if gi (((31 : Int32) * (σ.2 6)) + x3) 310 then
      sX6_loader_L77 fu n (sA (sA (sA σ 10 ((((31 : Int32) * (σ.2 6)) + x3).toNatClampNeg) (-1 : Int32)) 11 ((((31 : Int32) * (σ.2 6)) + x3).toNatClampNeg) (-1 : Int32)) 12 ((((31 : Int32) * (σ.2 6)) + x3).toNatClampNeg) (-1 : Int32)) x1 x2 (x3 + (1 : Int32))
      else none
def sX6_loader (fu : Nat) (σ : MS) (p1 : Int32) (p2 : Int32) : Option (Int32 × MS) :=
  if p1 = (-1 : Int32) then
    if (σ.2 6) = (10 : Int32) then
      some ((-4 : Int32), σ)
    else
      if gi (σ.2 6) 10 then
      sX6_loader_L77 fu fu (sA (sA σ 7 ((σ.2 6).toNatClampNeg) p1) 8 ((σ.2 6).toNatClampNeg) (vp_nar .boolean p2)) p1 p2 (0 : Int32)
      else none
  else
    (sX6_isLoader σ p1).bind fun r_4 =>
    if r_4 = (0 : Int32) then
      some ((-2 : Int32), σ)
    else
      if gi p1 10 then
      if (σ.1 7 (p1.toNatClampNeg)) = (-1 : Int32) then
        if (σ.1 9 (p1.toNatClampNeg)) = (0 : Int32) then
          if (σ.2 6) = (10 : Int32) then
            some ((-4 : Int32), σ)
          else
            if gi (σ.2 6) 10 then
            sX6_loader_L77 fu fu (sA (sA σ 7 ((σ.2 6).toNatClampNeg) p1) 8 ((σ.2 6).toNatClampNeg) (vp_nar .boolean p2)) p1 p2 (0 : Int32)
            else none
        else
          some ((-3 : Int32), σ)
      else
        some ((-2 : Int32), σ)
      else none
def sX6_isFile (σ : MS) (p1 : Int32) : Option Int32 :=
  (sX6_in σ p1 (0 : Int32) ((σ.2 0) - (1 : Int32))).bind fun r_1 =>
  if vp_nar .boolean r_1 = r_1 then some r_1 else none
def sX6_put (σ : MS) (p1 : Int32) (p2 : Int32) (p3 : Int32) : Option (Int32 × MS) :=
  (sX6_isLoader σ p1).bind fun r_1 =>
  if r_1 = (0 : Int32) then
    some ((-2 : Int32), σ)
  else
    (sX6_isName σ p2).bind fun r_3 =>
    if r_3 = (0 : Int32) then
      some ((-2 : Int32), σ)
    else
      (sX6_isFile σ p3).bind fun r_5 =>
      if r_5 = (0 : Int32) then
        some ((-2 : Int32), σ)
      else
        if gi p1 10 then
        if (σ.1 9 (p1.toNatClampNeg)) = (0 : Int32) then
          if gi (((31 : Int32) * p1) + p2) 310 then
          some ((1 : Int32), (sA σ 10 ((((31 : Int32) * p1) + p2).toNatClampNeg) p3))
          else none
        else
          some ((-3 : Int32), σ)
        else none
def sX6_push (σ : MS) (p1 : Int32) (p2 : Int32) (p3 : Int32) (p4 : Int32) : Option MS :=
  if gi (σ.2 25) 1300 then
  some (sZ (sA (sA (sA (sA (sA σ 26 ((σ.2 25).toNatClampNeg) p1) 27 ((σ.2 25).toNatClampNeg) (0 : Int32)) 28 ((σ.2 25).toNatClampNeg) p2) 29 ((σ.2 25).toNatClampNeg) p3) 30 ((σ.2 25).toNatClampNeg) (vp_nar .boolean p4)) 25 ((σ.2 25) + (1 : Int32)))
  else none
def sX6_gives (σ : MS) (p1 : Int32) : Option MS :=
  some (sZ (sZ σ 31 p1) 25 ((σ.2 25) - (1 : Int32)))
def sX6_keeps (σ : MS) (p1 : Int32) : Option MS :=
  if (σ.2 31) < (0 : Int32) then
    if gi p1 310 then
    (sX6_gives (sA σ 12 (p1.toNatClampNeg) (σ.1 12 (p1.toNatClampNeg))) (σ.2 31)).bind fun u_3 =>
    some u_3
    else none
  else
    if gi p1 310 then
    (sX6_gives (sA σ 12 (p1.toNatClampNeg) (σ.2 31)) (σ.2 31)).bind fun u_5 =>
    some u_5
    else none
def sX6_asksAbove (σ : MS) (p1 : Int32) (p2 : Int32) (p3 : Int32) : Option MS :=
  if gi p1 1300 then
  if gi (p2 / (31 : Int32)) 10 then
  (sX6_push (sA σ 27 (p1.toNatClampNeg) p3) (0 : Int32) (((31 : Int32) * (σ.1 7 ((p2 / (31 : Int32)).toNatClampNeg))) + (p2 - p2 / (31 : Int32) * (31 : Int32))) (-1 : Int32) (0 : Int32)).bind fun u_3 =>
  some u_3
  else none
  else none
def sX6_asks (σ : MS) (p1 : Int32) (p2 : Int32) : Option MS :=
  if gi (p2 / (31 : Int32)) 10 then
  if (σ.1 7 ((p2 / (31 : Int32)).toNatClampNeg)) = (-1 : Int32) then
    if gi p1 1300 then
    if (σ.1 27 (p1.toNatClampNeg)) = (0 : Int32) then
      if gi p2 310 then
      if (σ.1 11 (p2.toNatClampNeg)) = (-1 : Int32) then
        if (σ.1 12 (p2.toNatClampNeg)) = (-1 : Int32) then
          some (sA σ 27 (p1.toNatClampNeg) (2 : Int32))
        else
          (sX6_gives σ (σ.1 12 (p2.toNatClampNeg))).bind fun u_7 =>
          some u_7
      else
        (sX6_gives σ (σ.1 11 (p2.toNatClampNeg))).bind fun u_8 =>
        some u_8
      else none
    else
      if (σ.1 27 (p1.toNatClampNeg)) = (1 : Int32) then
        if (σ.2 31) = (-1 : Int32) then
          some (sA σ 27 (p1.toNatClampNeg) (2 : Int32))
        else
          (sX6_keeps σ p2).bind fun u_10 =>
          some u_10
      else
        if (σ.1 27 (p1.toNatClampNeg)) = (2 : Int32) then
          if gi p2 310 then
          if (σ.1 10 (p2.toNatClampNeg)) = (-1 : Int32) then
            (sX6_gives σ (-1 : Int32)).bind fun u_13 =>
            some u_13
          else
            (sX6_push (sA σ 27 (p1.toNatClampNeg) (3 : Int32)) (1 : Int32) p2 (σ.1 10 (p2.toNatClampNeg)) (0 : Int32)).bind fun u_14 =>
            some u_14
          else none
        else
          if (σ.1 27 (p1.toNatClampNeg)) = (3 : Int32) then
            (sX6_gives σ (σ.2 31)).bind fun u_15 =>
            some u_15
          else
            (sX6_keeps σ p2).bind fun u_16 =>
            some u_16
    else none
  else
    if gi p1 1300 then
    if (σ.1 27 (p1.toNatClampNeg)) = (0 : Int32) then
      if gi p2 310 then
      if (σ.1 11 (p2.toNatClampNeg)) = (-1 : Int32) then
        if (σ.1 12 (p2.toNatClampNeg)) = (-1 : Int32) then
          if (σ.1 8 ((p2 / (31 : Int32)).toNatClampNeg)) = (0 : Int32) then
            (sX6_asksAbove σ p1 p2 (1 : Int32)).bind fun u_22 =>
            some u_22
          else
            some (sA σ 27 (p1.toNatClampNeg) (2 : Int32))
        else
          (sX6_gives σ (σ.1 12 (p2.toNatClampNeg))).bind fun u_23 =>
          some u_23
      else
        (sX6_gives σ (σ.1 11 (p2.toNatClampNeg))).bind fun u_24 =>
        some u_24
      else none
    else
      if (σ.1 27 (p1.toNatClampNeg)) = (1 : Int32) then
        if (σ.2 31) = (-1 : Int32) then
          some (sA σ 27 (p1.toNatClampNeg) (2 : Int32))
        else
          (sX6_keeps σ p2).bind fun u_26 =>
          some u_26
      else
        if (σ.1 27 (p1.toNatClampNeg)) = (2 : Int32) then
          if gi p2 310 then
          if (σ.1 10 (p2.toNatClampNeg)) = (-1 : Int32) then
            if (σ.1 8 ((p2 / (31 : Int32)).toNatClampNeg)) = (0 : Int32) then
              (sX6_gives σ (-1 : Int32)).bind fun u_30 =>
              some u_30
            else
              (sX6_asksAbove σ p1 p2 (4 : Int32)).bind fun u_31 =>
              some u_31
          else
            (sX6_push (sA σ 27 (p1.toNatClampNeg) (3 : Int32)) (1 : Int32) p2 (σ.1 10 (p2.toNatClampNeg)) (0 : Int32)).bind fun u_32 =>
            some u_32
          else none
        else
          if (σ.1 27 (p1.toNatClampNeg)) = (3 : Int32) then
            (sX6_gives σ (σ.2 31)).bind fun u_33 =>
            some u_33
          else
            (sX6_keeps σ p2).bind fun u_34 =>
            some u_34
    else none
  else none
def sX6_stands (σ : MS) (p1 : Int32) (p2 : Int32) (p3 : Int32) : Option MS :=
  if gi (σ.2 14) 1000 then
  if gi p1 310 then
  (sX6_gives (sZ (sA (sA (sA (sA (sA (sA σ 15 ((σ.2 14).toNatClampNeg) (p1 / (31 : Int32))) 16 ((σ.2 14).toNatClampNeg) (p1 - p1 / (31 : Int32) * (31 : Int32))) 17 ((σ.2 14).toNatClampNeg) p3) 18 ((σ.2 14).toNatClampNeg) p2) 19 ((σ.2 14).toNatClampNeg) (0 : Int32)) 11 (p1.toNatClampNeg) (σ.2 14)) 14 ((σ.2 14) + (1 : Int32))) (((σ.2 14) + (1 : Int32)) - (1 : Int32))).bind fun u_3 =>
  some u_3
  else none
  else none
def sX6_against (σ : MS) (p1 : Int32) (p2 : Int32) (p3 : Int32) : Option Int32 :=
  if gi p1 1300 then
  if (σ.1 30 (p1.toNatClampNeg)) = (0 : Int32) then
    if gi p2 310 then
    if (σ.1 11 (p2.toNatClampNeg)) = (-1 : Int32) then
      if gi p3 40 then
      if (σ.1 1 (p3.toNatClampNeg)) = (p2 - p2 / (31 : Int32) * (31 : Int32)) then
        if (4 : Int32) ≤ (p2 - p2 / (31 : Int32) * (31 : Int32)) then
          if ((σ.1 5 (p3.toNatClampNeg)) &&& (1 : Int32)) = (1 : Int32) then
            some (6 : Int32)
          else
            if (σ.1 3 (p3.toNatClampNeg)) = (-1 : Int32) then
              some (0 : Int32)
            else
              if (σ.1 3 (p3.toNatClampNeg)) = (p2 - p2 / (31 : Int32) * (31 : Int32)) then
                some (5 : Int32)
              else
                if gi ((p2 - (p2 - p2 / (31 : Int32) * (31 : Int32))) + (σ.1 3 (p3.toNatClampNeg))) 310 then
                if (σ.1 13 (((p2 - (p2 - p2 / (31 : Int32) * (31 : Int32))) + (σ.1 3 (p3.toNatClampNeg))).toNatClampNeg)) = (0 : Int32) then
                  some (0 : Int32)
                else
                  some (5 : Int32)
                else none
        else
          if gi (p2 / (31 : Int32)) 10 then
          if (σ.1 7 ((p2 / (31 : Int32)).toNatClampNeg)) = (-1 : Int32) then
            if ((σ.1 5 (p3.toNatClampNeg)) &&& (1 : Int32)) = (1 : Int32) then
              some (6 : Int32)
            else
              if (σ.1 3 (p3.toNatClampNeg)) = (-1 : Int32) then
                some (0 : Int32)
              else
                if (σ.1 3 (p3.toNatClampNeg)) = (p2 - p2 / (31 : Int32) * (31 : Int32)) then
                  some (5 : Int32)
                else
                  if gi ((p2 - (p2 - p2 / (31 : Int32) * (31 : Int32))) + (σ.1 3 (p3.toNatClampNeg))) 310 then
                  if (σ.1 13 (((p2 - (p2 - p2 / (31 : Int32) * (31 : Int32))) + (σ.1 3 (p3.toNatClampNeg))).toNatClampNeg)) = (0 : Int32) then
                    some (0 : Int32)
                  else
                    some (5 : Int32)
                  else none
          else
            some (4 : Int32)
          else none
      else
        some (3 : Int32)
      else none
    else
      some (2 : Int32)
    else none
  else
    if gi p3 40 then
    if (σ.1 1 (p3.toNatClampNeg)) = (p2 - p2 / (31 : Int32) * (31 : Int32)) then
      if (4 : Int32) ≤ (p2 - p2 / (31 : Int32) * (31 : Int32)) then
        if ((σ.1 5 (p3.toNatClampNeg)) &&& (1 : Int32)) = (1 : Int32) then
          some (6 : Int32)
        else
          if (σ.1 3 (p3.toNatClampNeg)) = (-1 : Int32) then
            some (0 : Int32)
          else
            if (σ.1 3 (p3.toNatClampNeg)) = (p2 - p2 / (31 : Int32) * (31 : Int32)) then
              some (5 : Int32)
            else
              if gi ((p2 - (p2 - p2 / (31 : Int32) * (31 : Int32))) + (σ.1 3 (p3.toNatClampNeg))) 310 then
              if (σ.1 13 (((p2 - (p2 - p2 / (31 : Int32) * (31 : Int32))) + (σ.1 3 (p3.toNatClampNeg))).toNatClampNeg)) = (0 : Int32) then
                some (0 : Int32)
              else
                some (5 : Int32)
              else none
      else
        if gi (p2 / (31 : Int32)) 10 then
        if (σ.1 7 ((p2 / (31 : Int32)).toNatClampNeg)) = (-1 : Int32) then
          if ((σ.1 5 (p3.toNatClampNeg)) &&& (1 : Int32)) = (1 : Int32) then
            some (6 : Int32)
          else
            if (σ.1 3 (p3.toNatClampNeg)) = (-1 : Int32) then
              some (0 : Int32)
            else
              if (σ.1 3 (p3.toNatClampNeg)) = (p2 - p2 / (31 : Int32) * (31 : Int32)) then
                some (5 : Int32)
              else
                if gi ((p2 - (p2 - p2 / (31 : Int32) * (31 : Int32))) + (σ.1 3 (p3.toNatClampNeg))) 310 then
                if (σ.1 13 (((p2 - (p2 - p2 / (31 : Int32) * (31 : Int32))) + (σ.1 3 (p3.toNatClampNeg))).toNatClampNeg)) = (0 : Int32) then
                  some (0 : Int32)
                else
                  some (5 : Int32)
                else none
        else
          some (4 : Int32)
        else none
    else
      some (3 : Int32)
    else none
  else none
def sX6_makes (σ : MS) (p1 : Int32) (p2 : Int32) (p3 : Int32) : Option MS :=
  if gi p1 1300 then
  if (σ.1 27 (p1.toNatClampNeg)) = (0 : Int32) then
    (sX6_against σ p1 p2 p3).bind fun r_7 =>
    if r_7 ≤ (0 : Int32) then
      if gi p3 40 then
      if (σ.1 3 (p3.toNatClampNeg)) = (-1 : Int32) then
        (sX6_stands σ p2 p3 (-1 : Int32)).bind fun u_13 =>
        some u_13
      else
        if gi p2 310 then
        (sX6_push (sA (sA σ 13 (p2.toNatClampNeg) (1 : Int32)) 27 (p1.toNatClampNeg) (1 : Int32)) (0 : Int32) ((p2 - (p2 - p2 / (31 : Int32) * (31 : Int32))) + (σ.1 3 (p3.toNatClampNeg))) (-1 : Int32) (0 : Int32)).bind fun u_12 =>
        some u_12
        else none
      else none
    else
      (sX6_gives σ (-r_7)).bind fun u_14 =>
      some u_14
  else
    if gi p2 310 then
    if (0 : Int32) ≤ (σ.2 31) then
      (sX6_stands (sA σ 13 (p2.toNatClampNeg) (0 : Int32)) p2 p3 (σ.2 31)).bind fun u_5 =>
      some u_5
    else
      (sX6_gives (sA σ 13 (p2.toNatClampNeg) (0 : Int32)) (σ.2 31)).bind fun u_6 =>
      some u_6
    else none
  else none
def sX6_begins (σ : MS) (p1 : Int32) (p2 : Int32) : Option MS :=
  if gi p1 1300 then
  if (σ.1 27 (p1.toNatClampNeg)) = (0 : Int32) then
    if gi p2 1000 then
    if (σ.1 19 (p2.toNatClampNeg)) ≤ (0 : Int32) then
      if (σ.1 17 (p2.toNatClampNeg)) = (-1 : Int32) then
        some (sZ (sA (sA σ 19 (p2.toNatClampNeg) (3 : Int32)) 27 (p1.toNatClampNeg) (1 : Int32)) 31 (0 : Int32))
      else
        (sX6_push (sZ (sA (sA σ 19 (p2.toNatClampNeg) (3 : Int32)) 27 (p1.toNatClampNeg) (1 : Int32)) 31 (0 : Int32)) (2 : Int32) (σ.1 17 (p2.toNatClampNeg)) (-1 : Int32) (0 : Int32)).bind fun u_26 =>
        some u_26
    else
      if (σ.1 19 (p2.toNatClampNeg)) = (2 : Int32) then
        (sX6_gives σ (-8 : Int32)).bind fun u_29 =>
        some u_29
      else
        (sX6_gives σ (0 : Int32)).bind fun u_28 =>
        some u_28
    else none
  else
    if (0 : Int32) ≤ (σ.2 31) then
      if gi p2 1000 then
      if gi (σ.1 18 (p2.toNatClampNeg)) 40 then
      if (σ.1 27 (p1.toNatClampNeg)) = (1 : Int32) then
        if (σ.1 4 ((σ.1 18 (p2.toNatClampNeg)).toNatClampNeg)) = (-1 : Int32) then
          if (σ.1 27 (p1.toNatClampNeg)) = (2 : Int32) then
            (sX6_push (sA σ 27 (p1.toNatClampNeg) (3 : Int32)) (2 : Int32) (σ.2 31) (-1 : Int32) (0 : Int32)).bind fun u_19 =>
            some u_19
          else
            if ((σ.1 5 ((σ.1 18 (p2.toNatClampNeg)).toNatClampNeg)) &&& (2 : Int32)) = (2 : Int32) then
              (sX6_gives (sA σ 19 (p2.toNatClampNeg) (2 : Int32)) (-7 : Int32)).bind fun u_18 =>
              some u_18
            else
              if gi (σ.2 23) 1000 then
              (sX6_gives (sZ (sA (sA σ 19 (p2.toNatClampNeg) (1 : Int32)) 24 ((σ.2 23).toNatClampNeg) (σ.1 2 ((σ.1 18 (p2.toNatClampNeg)).toNatClampNeg))) 23 ((σ.2 23) + (1 : Int32))) (0 : Int32)).bind fun u_17 =>
              some u_17
              else none
        else
          (sX6_push (sA σ 27 (p1.toNatClampNeg) (2 : Int32)) (0 : Int32) (((31 : Int32) * (σ.1 15 (p2.toNatClampNeg))) + (σ.1 4 ((σ.1 18 (p2.toNatClampNeg)).toNatClampNeg))) (-1 : Int32) (0 : Int32)).bind fun u_20 =>
          some u_20
      else
        if (σ.1 27 (p1.toNatClampNeg)) = (2 : Int32) then
          (sX6_push (sA σ 27 (p1.toNatClampNeg) (3 : Int32)) (2 : Int32) (σ.2 31) (-1 : Int32) (0 : Int32)).bind fun u_12 =>
          some u_12
        else
          if ((σ.1 5 ((σ.1 18 (p2.toNatClampNeg)).toNatClampNeg)) &&& (2 : Int32)) = (2 : Int32) then
            (sX6_gives (sA σ 19 (p2.toNatClampNeg) (2 : Int32)) (-7 : Int32)).bind fun u_11 =>
            some u_11
          else
            if gi (σ.2 23) 1000 then
            (sX6_gives (sZ (sA (sA σ 19 (p2.toNatClampNeg) (1 : Int32)) 24 ((σ.2 23).toNatClampNeg) (σ.1 2 ((σ.1 18 (p2.toNatClampNeg)).toNatClampNeg))) 23 ((σ.2 23) + (1 : Int32))) (0 : Int32)).bind fun u_10 =>
            some u_10
            else none
      else none
      else none
    else
      if gi p2 1000 then
      (sX6_gives (sA σ 19 (p2.toNatClampNeg) (2 : Int32)) (σ.2 31)).bind fun u_22 =>
      some u_22
      else none
  else none
def sX6_runs_L0 (fu : Nat) : Nat → MS → Option (Int32 × MS)
  | 0, _ => none
  | n + 1, σ =>
    if (σ.2 25) ≤ (0 : Int32) then
      some ((σ.2 31), σ)
    else
      if gi ((σ.2 25) - (1 : Int32)) 1300 then
      if (σ.1 26 (((σ.2 25) - (1 : Int32)).toNatClampNeg)) = (0 : Int32) then
        (sX6_asks σ ((σ.2 25) - (1 : Int32)) (σ.1 28 (((σ.2 25) - (1 : Int32)).toNatClampNeg))).bind fun u_3 =>
        sX6_runs_L0 fu n u_3
      else
        if (σ.1 26 (((σ.2 25) - (1 : Int32)).toNatClampNeg)) = (1 : Int32) then
          (sX6_makes σ ((σ.2 25) - (1 : Int32)) (σ.1 28 (((σ.2 25) - (1 : Int32)).toNatClampNeg)) (σ.1 29 (((σ.2 25) - (1 : Int32)).toNatClampNeg))).bind fun u_4 =>
          sX6_runs_L0 fu n u_4
        else
          (sX6_begins σ ((σ.2 25) - (1 : Int32)) (σ.1 28 (((σ.2 25) - (1 : Int32)).toNatClampNeg))).bind fun u_5 =>
          sX6_runs_L0 fu n u_5
      else none
def sX6_runs (fu : Nat) (σ : MS) : Option (Int32 × MS) :=
  sX6_runs_L0 fu fu σ
def sX6_does (fu : Nat) (σ : MS) (p1 : Int32) (p2 : Int32) (p3 : Int32) (p4 : Int32) : Option (Int32 × MS) :=
  (sX6_push (sZ σ 25 (0 : Int32)) p1 p2 p3 p4).bind fun u_1 =>
  (sX6_runs fu u_1).bind fun q_2 =>
  if (0 : Int32) ≤ q_2.1 then
    some (q_2.1, q_2.2)
  else
    some (((-10 : Int32) + q_2.1), q_2.2)
def sX6_load (fu : Nat) (σ : MS) (p1 : Int32) (p2 : Int32) : Option (Int32 × MS) :=
  (sX6_isLoader σ p1).bind fun r_1 =>
  if r_1 = (0 : Int32) then
    some ((-2 : Int32), σ)
  else
    (sX6_isName σ p2).bind fun r_3 =>
    if r_3 = (0 : Int32) then
      some ((-2 : Int32), σ)
    else
      if gi p1 10 then
      if (σ.1 9 (p1.toNatClampNeg)) = (0 : Int32) then
        (sX6_does fu σ (0 : Int32) (((31 : Int32) * p1) + p2) (-1 : Int32) (0 : Int32)).bind fun q_7 =>
        some (q_7.1, q_7.2)
      else
        some ((-3 : Int32), σ)
      else none
def sX6_define (fu : Nat) (σ : MS) (p1 : Int32) (p2 : Int32) (p3 : Int32) : Option (Int32 × MS) :=
  (sX6_isLoader σ p1).bind fun r_1 =>
  if r_1 = (0 : Int32) then
    some ((-2 : Int32), σ)
  else
    (sX6_isName σ p2).bind fun r_3 =>
    if r_3 = (0 : Int32) then
      some ((-2 : Int32), σ)
    else
      (sX6_isFile σ p3).bind fun r_5 =>
      if r_5 = (0 : Int32) then
        some ((-2 : Int32), σ)
      else
        if gi p1 10 then
        if (σ.1 9 (p1.toNatClampNeg)) = (0 : Int32) then
          (sX6_does fu σ (1 : Int32) (((31 : Int32) * p1) + p2) p3 (0 : Int32)).bind fun q_9 =>
          some (q_9.1, q_9.2)
        else
          some ((-3 : Int32), σ)
        else none
def sX6_anew (fu : Nat) (σ : MS) (p1 : Int32) (p2 : Int32) (p3 : Int32) : Option (Int32 × MS) :=
  (sX6_isLoader σ p1).bind fun r_1 =>
  if r_1 = (0 : Int32) then
    some ((-2 : Int32), σ)
  else
    (sX6_isName σ p2).bind fun r_3 =>
    if r_3 = (0 : Int32) then
      some ((-2 : Int32), σ)
    else
      (sX6_isFile σ p3).bind fun r_5 =>
      if r_5 = (0 : Int32) then
        some ((-2 : Int32), σ)
      else
        if gi p1 10 then
        if (σ.1 9 (p1.toNatClampNeg)) = (0 : Int32) then
          if gi (((31 : Int32) * p1) + p2) 310 then
          if (σ.1 11 ((((31 : Int32) * p1) + p2).toNatClampNeg)) = (-1 : Int32) then
            some ((-3 : Int32), σ)
          else
            (sX6_does fu σ (1 : Int32) (((31 : Int32) * p1) + p2) p3 (1 : Int32)).bind fun q_11 =>
            some (q_11.1, q_11.2)
          else none
        else
          some ((-3 : Int32), σ)
        else none
def sX6_known (σ : MS) (p1 : Int32) (p2 : Int32) : Option Int32 :=
  (sX6_isLoader σ p1).bind fun r_1 =>
  if r_1 = (0 : Int32) then
    some (-2 : Int32)
  else
    (sX6_isName σ p2).bind fun r_3 =>
    if r_3 = (0 : Int32) then
      some (-2 : Int32)
    else
      if gi (((31 : Int32) * p1) + p2) 310 then
      if (σ.1 11 ((((31 : Int32) * p1) + p2).toNatClampNeg)) = (-1 : Int32) then
        some (σ.1 12 ((((31 : Int32) * p1) + p2).toNatClampNeg))
      else
        some (σ.1 11 ((((31 : Int32) * p1) + p2).toNatClampNeg))
      else none
def sX6_isModule (σ : MS) (p1 : Int32) : Option Int32 :=
  (sX6_in σ p1 (0 : Int32) ((σ.2 14) - (1 : Int32))).bind fun r_1 =>
  if vp_nar .boolean r_1 = r_1 then some r_1 else none
def sX6_begin (fu : Nat) (σ : MS) (p1 : Int32) : Option (Int32 × MS) :=
  (sX6_isModule σ p1).bind fun r_1 =>
  if r_1 = (0 : Int32) then
    some ((-2 : Int32), σ)
  else
    if gi p1 1000 then
    if gi (σ.1 15 (p1.toNatClampNeg)) 10 then
    if (σ.1 9 ((σ.1 15 (p1.toNatClampNeg)).toNatClampNeg)) = (0 : Int32) then
      (sX6_does fu σ (2 : Int32) p1 (-1 : Int32) (0 : Int32)).bind fun q_6 =>
      if (0 : Int32) ≤ q_6.1 then
        some ((1 : Int32), q_6.2)
      else
        some (q_6.1, q_6.2)
    else
      some ((-3 : Int32), σ)
    else none
    else none
def sX6_thing (fu : Nat) (σ : MS) (p1 : Int32) : Option (Int32 × MS) :=
  (sX6_isModule σ p1).bind fun r_1 =>
  if r_1 = (0 : Int32) then
    some ((-2 : Int32), σ)
  else
    if gi p1 1000 then
    if gi (σ.1 15 (p1.toNatClampNeg)) 10 then
    if (σ.1 9 ((σ.1 15 (p1.toNatClampNeg)).toNatClampNeg)) = (0 : Int32) then
      if (σ.2 20) = (60 : Int32) then
        some ((-4 : Int32), σ)
      else
        (sX6_does fu σ (2 : Int32) p1 (-1 : Int32) (0 : Int32)).bind fun q_7 =>
        if (0 : Int32) ≤ q_7.1 then
          if gi (q_7.2.2 20) 60 then
          some ((((q_7.2.2 20) + (1 : Int32)) - (1 : Int32)), (sZ (sA (sA q_7.2 21 ((q_7.2.2 20).toNatClampNeg) p1) 22 ((q_7.2.2 20).toNatClampNeg) (0 : Int32)) 20 ((q_7.2.2 20) + (1 : Int32))))
          else none
        else
          some (q_7.1, q_7.2)
    else
      some ((-3 : Int32), σ)
    else none
    else none
def sX6_isThing (σ : MS) (p1 : Int32) : Option Int32 :=
  (sX6_in σ p1 (0 : Int32) ((σ.2 20) - (1 : Int32))).bind fun r_1 =>
  if vp_nar .boolean r_1 = r_1 then some r_1 else none
def sX6_cast_L38 (fu : Nat) : Nat → MS → Int32 → Int32 → Int32 → Option Int32
  | 0, _, _, _, _ => none
  | n + 1, σ, x1, x2, x3 =>
    if x3 = (-1 : Int32) then
      if x3 = x2 then
        some (1 : Int32)
      else
        some (-19 : Int32)
    else
      if x3 = x2 then
        some (1 : Int32)
      else
        if gi x3 1000 then
        sX6_cast_L38 fu n σ x1 x2 (σ.1 17 (x3.toNatClampNeg))
        else none
def sX6_cast (fu : Nat) (σ : MS) (p1 : Int32) (p2 : Int32) : Option Int32 :=
  (sX6_isThing σ p1).bind fun r_1 =>
  if r_1 = (0 : Int32) then
    some (-2 : Int32)
  else
    (sX6_isModule σ p2).bind fun r_3 =>
    if r_3 = (0 : Int32) then
      some (-2 : Int32)
    else
      if gi p1 60 then
      if (σ.1 22 (p1.toNatClampNeg)) = (0 : Int32) then
        sX6_cast_L38 fu fu σ p1 p2 (σ.1 21 (p1.toNatClampNeg))
      else
        some (-3 : Int32)
      else none
def sX6_drop (σ : MS) (p1 : Int32) : Option (Int32 × MS) :=
  (sX6_isThing σ p1).bind fun r_1 =>
  if r_1 = (0 : Int32) then
    some ((-2 : Int32), σ)
  else
    if gi p1 60 then
    if (σ.1 22 (p1.toNatClampNeg)) = (0 : Int32) then
      some ((1 : Int32), (sA σ 22 (p1.toNatClampNeg) (1 : Int32)))
    else
      some ((-3 : Int32), σ)
    else none
def sX6_letGo_L28 (fu : Nat) : Nat → MS → Int32 → Int32 → Int32 → Option (Int32 × MS)
  | 0, _, _, _, _ => none
  | n + 1, σ, x1, x2, x3 =>
    if (σ.2 6) ≤ x3 then
      if x2 = (0 : Int32) then
        some ((-3 : Int32), σ)
      else
        if gi x1 10 then
        some ((1 : Int32), (sA σ 9 (x1.toNatClampNeg) (1 : Int32)))
        else none
    else
      if x2 = (0 : Int32) then
        sX6_letGo_L28 fu n σ x1 (0 : Int32) (x3 + (1 : Int32))
      else
        if gi x3 10 then
        if (σ.1 7 (x3.toNatClampNeg)) = x1 then
          if (σ.1 9 (x3.toNatClampNeg)) = (0 : Int32) then
            sX6_letGo_L28 fu n σ x1 (0 : Int32) (x3 + (1 : Int32))
          else
            sX6_letGo_L28 fu n σ x1 (1 : Int32) (x3 + (1 : Int32))
        else
          sX6_letGo_L28 fu n σ x1 (1 : Int32) (x3 + (1 : Int32))
        else none
def sX6_letGo (fu : Nat) (σ : MS) (p1 : Int32) : Option (Int32 × MS) :=
  (sX6_isLoader σ p1).bind fun r_1 =>
  if r_1 = (0 : Int32) then
    some ((-2 : Int32), σ)
  else
    if gi p1 10 then
    if (σ.1 9 (p1.toNatClampNeg)) = (0 : Int32) then
      sX6_letGo_L28 fu fu σ p1 (1 : Int32) (0 : Int32)
    else
      sX6_letGo_L28 fu fu σ p1 (0 : Int32) (0 : Int32)
    else none
def sX6_holds_L160 (fu : Nat) : Nat → MS → Int32 → Option MS
  | 0, _, _ => none
  | n + 1, σ, x1 =>
    if x1 < (0 : Int32) then
      some σ
    else
      if gi x1 1000 then
      if (σ.1 32 (x1.toNatClampNeg)) = (0 : Int32) then
        sX6_holds_L160 fu n σ (x1 + (-1 : Int32))
      else
        if (σ.1 17 (x1.toNatClampNeg)) = (-1 : Int32) then
          sX6_holds_L160 fu n σ (x1 + (-1 : Int32))
        else
          if gi (σ.1 17 (x1.toNatClampNeg)) 1000 then
          sX6_holds_L160 fu n (sA σ 32 ((σ.1 17 (x1.toNatClampNeg)).toNatClampNeg) (1 : Int32)) (x1 + (-1 : Int32))
          else none
      else none
def sX6_holds_L80 (fu : Nat) : Nat → MS → Int32 → Option MS
  | 0, _, _ => none
  | n + 1, σ, x1 =>
    if ((31 : Int32) * (σ.2 6)) ≤ x1 then
      sX6_holds_L160 fu fu σ ((σ.2 14) - (1 : Int32))
    else
      if gi (x1 / (31 : Int32)) 10 then
      if (σ.1 9 ((x1 / (31 : Int32)).toNatClampNeg)) = (0 : Int32) then
        if gi x1 310 then
        if (σ.1 11 (x1.toNatClampNeg)) = (-1 : Int32) then
          if (σ.1 12 (x1.toNatClampNeg)) = (-1 : Int32) then
            sX6_holds_L80 fu n σ (x1 + (1 : Int32))
          else
            if gi (σ.1 12 (x1.toNatClampNeg)) 1000 then
            sX6_holds_L80 fu n (sA σ 32 ((σ.1 12 (x1.toNatClampNeg)).toNatClampNeg) (1 : Int32)) (x1 + (1 : Int32))
            else none
        else
          if gi (σ.1 11 (x1.toNatClampNeg)) 1000 then
          if (σ.1 12 (x1.toNatClampNeg)) = (-1 : Int32) then
            sX6_holds_L80 fu n (sA σ 32 ((σ.1 11 (x1.toNatClampNeg)).toNatClampNeg) (1 : Int32)) (x1 + (1 : Int32))
          else
            if gi (σ.1 12 (x1.toNatClampNeg)) 1000 then
            sX6_holds_L80 fu n (sA (sA σ 32 ((σ.1 11 (x1.toNatClampNeg)).toNatClampNeg) (1 : Int32)) 32 ((σ.1 12 (x1.toNatClampNeg)).toNatClampNeg) (1 : Int32)) (x1 + (1 : Int32))
            else none
          else none
        else none
      else
        sX6_holds_L80 fu n σ (x1 + (1 : Int32))
      else none
def sX6_holds_L25 (fu : Nat) : Nat → MS → Int32 → Option MS
  | 0, _, _ => none
  | n + 1, σ, x1 =>
    if (σ.2 20) ≤ x1 then
      sX6_holds_L80 fu fu σ (0 : Int32)
    else
      if gi x1 60 then
      if gi (σ.1 21 (x1.toNatClampNeg)) 1000 then
      if (σ.1 32 ((σ.1 21 (x1.toNatClampNeg)).toNatClampNeg)) = (0 : Int32) then
        if (σ.1 22 (x1.toNatClampNeg)) = (0 : Int32) then
          sX6_holds_L25 fu n (sA σ 32 ((σ.1 21 (x1.toNatClampNeg)).toNatClampNeg) (1 : Int32)) (x1 + (1 : Int32))
        else
          sX6_holds_L25 fu n (sA σ 32 ((σ.1 21 (x1.toNatClampNeg)).toNatClampNeg) (0 : Int32)) (x1 + (1 : Int32))
      else
        sX6_holds_L25 fu n (sA σ 32 ((σ.1 21 (x1.toNatClampNeg)).toNatClampNeg) (1 : Int32)) (x1 + (1 : Int32))
      else none
      else none
def sX6_holds_L2 (fu : Nat) : Nat → MS → Int32 → Option MS
  | 0, _, _ => none
  | n + 1, σ, x1 =>
    if (σ.2 14) ≤ x1 then
      sX6_holds_L25 fu fu σ (0 : Int32)
    else
      if gi x1 1000 then
      sX6_holds_L2 fu n (sA σ 32 (x1.toNatClampNeg) (0 : Int32)) (x1 + (1 : Int32))
      else none
def sX6_holds (fu : Nat) (σ : MS) : Option MS :=
  sX6_holds_L2 fu fu σ (0 : Int32)
def sX6_held_L19 (fu : Nat) : Nat → MS → Int32 → Int32 → Int32 → Option (Int32 × MS)
  | 0, _, _, _, _ => none
  | n + 1, σ, x1, x2, x3 =>
    if (σ.2 14) ≤ x3 then
      some (x2, σ)
    else
      if gi x3 1000 then
      if (σ.1 15 (x3.toNatClampNeg)) = x1 then
        if (σ.1 32 (x3.toNatClampNeg)) = (0 : Int32) then
          sX6_held_L19 fu n σ x1 x2 (x3 + (1 : Int32))
        else
          sX6_held_L19 fu n σ x1 (x2 + (1 : Int32)) (x3 + (1 : Int32))
      else
        sX6_held_L19 fu n σ x1 x2 (x3 + (1 : Int32))
      else none
def sX6_held (fu : Nat) (σ : MS) (p1 : Int32) : Option (Int32 × MS) :=
  (sX6_isLoader σ p1).bind fun r_1 =>
  if r_1 = (0 : Int32) then
    some ((-2 : Int32), σ)
  else
    (sX6_holds fu σ).bind fun u_3 =>
    sX6_held_L19 fu fu u_3 p1 (0 : Int32) (0 : Int32)
def sX6_isHeld (fu : Nat) (σ : MS) (p1 : Int32) : Option (Int32 × MS) :=
  (sX6_isModule σ p1).bind fun r_1 =>
  if r_1 = (0 : Int32) then
    some ((-2 : Int32), σ)
  else
    (sX6_holds fu σ).bind fun u_3 =>
    if gi p1 1000 then
    if (u_3.1 32 (p1.toNatClampNeg)) = (0 : Int32) then
      some ((0 : Int32), u_3)
    else
      some ((1 : Int32), u_3)
    else none
def sX6_about (σ : MS) (p1 : Int32) (p2 : Int32) : Option Int32 :=
  (sX6_isModule σ p1).bind fun r_1 =>
  if r_1 = (0 : Int32) then
    some (0 : Int32)
  else
    if p2 = (0 : Int32) then
      if gi p1 1000 then
      some (σ.1 15 (p1.toNatClampNeg))
      else none
    else
      if p2 = (1 : Int32) then
        if gi p1 1000 then
        some (σ.1 16 (p1.toNatClampNeg))
        else none
      else
        if p2 = (2 : Int32) then
          if gi p1 1000 then
          some (σ.1 17 (p1.toNatClampNeg))
          else none
        else
          if p2 = (3 : Int32) then
            if gi p1 1000 then
            some (σ.1 19 (p1.toNatClampNeg))
            else none
          else
            if p2 = (4 : Int32) then
              if gi p1 1000 then
              if gi (σ.1 18 (p1.toNatClampNeg)) 40 then
              some (σ.1 2 ((σ.1 18 (p1.toNatClampNeg)).toNatClampNeg))
              else none
              else none
            else
              if p2 = (5 : Int32) then
                if gi p1 1000 then
                some (σ.1 18 (p1.toNatClampNeg))
                else none
              else
                some (0 : Int32)
def sX6_aboutThing (σ : MS) (p1 : Int32) (p2 : Int32) : Option Int32 :=
  (sX6_isThing σ p1).bind fun r_1 =>
  if r_1 = (0 : Int32) then
    some (-2 : Int32)
  else
    (sX6_in σ p2 (0 : Int32) (1 : Int32)).bind fun r_3 =>
    if r_3 = (0 : Int32) then
      some (-2 : Int32)
    else
      if p2 = (0 : Int32) then
        if gi p1 60 then
        some (σ.1 21 (p1.toNatClampNeg))
        else none
      else
        if gi p1 60 then
        if (σ.1 22 (p1.toNatClampNeg)) = (0 : Int32) then
          some (0 : Int32)
        else
          some (1 : Int32)
        else none
def sX6_order (σ : MS) (p1 : Int32) : Option Int32 :=
  (sX6_in σ p1 (0 : Int32) ((σ.2 23) - (1 : Int32))).bind fun r_1 =>
  if r_1 = (0 : Int32) then
    some (0 : Int32)
  else
    if gi p1 1000 then
    some (σ.1 24 (p1.toNatClampNeg))
    else none
def sX6_count (σ : MS) (p1 : Int32) : Option Int32 :=
  if p1 = (0 : Int32) then
    some (σ.2 0)
  else
    if p1 = (1 : Int32) then
      some (σ.2 6)
    else
      if p1 = (2 : Int32) then
        some (σ.2 14)
      else
        if p1 = (3 : Int32) then
          some (σ.2 20)
        else
          if p1 = (4 : Int32) then
            some (σ.2 23)
          else
            some (-2 : Int32)
end
section
section ROWS
variable {own : String} {cc : ByteArray} {D : va_G} {cI cZ : ClassId} {p : Program} {l : Launch} {e : Env} {R : Room} {s : State} {m : MethodId} {args : Array Value} {below : List Frame} {meth : Method} {c : Code} {H : Heap} {locs : List Loc} {cells slots : Nat} {Q : State → Prop} {pc : Nat} {ls : Array Slot} {rest : List Value} {H0 : Heap} {a : Nat → Nat} {σ : MS}
theorem fd_X0_15_1 (C : Cx RX0 cc D cI cZ p s m args c) (hP : va_P D vwCl (dW cI cZ a σ) H) (hdg : decode cc pc = .ok (.getfield 15, 3)) (kk : W p l e R s m args below meth c H locs cells slots Q (F0 m (pc + 3) ls (.ref (a 9) :: rest))) : W p l e R s m args below meth c H locs cells slots Q (F0 m pc ls (.ref (a 1) :: rest)) := gx_get C hP (X := RX0) (T := TX0) (N := 6) 1 rfl rfl iX0 1 (by decide) k_53 rfl hdg kk
theorem fd_X0_18_1 (C : Cx RX0 cc D cI cZ p s m args c) (hP : va_P D vwCl (dW cI cZ a σ) H) (hdg : decode cc pc = .ok (.getfield 18, 3)) (kk : W p l e R s m args below meth c H locs cells slots Q (F0 m (pc + 3) ls (.ref (a 10) :: rest))) : W p l e R s m args below meth c H locs cells slots Q (F0 m pc ls (.ref (a 1) :: rest)) := gx_get C hP (X := RX0) (T := TX0) (N := 6) 1 rfl rfl iX0 2 (by decide) k_55 rfl hdg kk
theorem fd_X0_21_1 (C : Cx RX0 cc D cI cZ p s m args c) (hP : va_P D vwCl (dW cI cZ a σ) H) (hdg : decode cc pc = .ok (.getfield 21, 3)) (kk : W p l e R s m args below meth c H locs cells slots Q (F0 m (pc + 3) ls (.ref (a 11) :: rest))) : W p l e R s m args below meth c H locs cells slots Q (F0 m pc ls (.ref (a 1) :: rest)) := gx_get C hP (X := RX0) (T := TX0) (N := 6) 1 rfl rfl iX0 3 (by decide) k_57 rfl hdg kk
theorem fd_X0_24_1 (C : Cx RX0 cc D cI cZ p s m args c) (hP : va_P D vwCl (dW cI cZ a σ) H) (hdg : decode cc pc = .ok (.getfield 24, 3)) (kk : W p l e R s m args below meth c H locs cells slots Q (F0 m (pc + 3) ls (.ref (a 12) :: rest))) : W p l e R s m args below meth c H locs cells slots Q (F0 m pc ls (.ref (a 1) :: rest)) := gx_get C hP (X := RX0) (T := TX0) (N := 6) 1 rfl rfl iX0 4 (by decide) k_59 rfl hdg kk
theorem fd_X0_27_1 (C : Cx RX0 cc D cI cZ p s m args c) (hP : va_P D vwCl (dW cI cZ a σ) H) (hdg : decode cc pc = .ok (.getfield 27, 3)) (kk : W p l e R s m args below meth c H locs cells slots Q (F0 m (pc + 3) ls (.int (σ.2 0) :: rest))) : W p l e R s m args below meth c H locs cells slots Q (F0 m pc ls (.ref (a 1) :: rest)) := gx_get C hP (X := RX0) (T := TX0) (N := 6) 1 rfl rfl iX0 5 (by decide) k_60 rfl hdg kk
theorem fd_X0_9_1 (C : Cx RX0 cc D cI cZ p s m args c) (hP : va_P D vwCl (dW cI cZ a σ) H) (hdg : decode cc pc = .ok (.getfield 9, 3)) (kk : W p l e R s m args below meth c H locs cells slots Q (F0 m (pc + 3) ls (.ref (a 8) :: rest))) : W p l e R s m args below meth c H locs cells slots Q (F0 m pc ls (.ref (a 1) :: rest)) := gx_get C hP (X := RX0) (T := TX0) (N := 6) 1 rfl rfl iX0 0 (by decide) k_51 rfl hdg kk
theorem fd_X1_15_2 (C : Cx RX1 cc D cI cZ p s m args c) (hP : va_P D vwCl (dW cI cZ a σ) H) (hdg : decode cc pc = .ok (.getfield 15, 3)) (kk : W p l e R s m args below meth c H locs cells slots Q (F0 m (pc + 3) ls (.ref (a 14) :: rest))) : W p l e R s m args below meth c H locs cells slots Q (F0 m pc ls (.ref (a 2) :: rest)) := gx_get C hP (X := RX1) (T := TX1) (N := 8) 2 rfl rfl iX1 1 (by decide) k_87 rfl hdg kk
theorem fd_X1_19_2 (C : Cx RX1 cc D cI cZ p s m args c) (hP : va_P D vwCl (dW cI cZ a σ) H) (hdg : decode cc pc = .ok (.getfield 19, 3)) (kk : W p l e R s m args below meth c H locs cells slots Q (F0 m (pc + 3) ls (.ref (a 15) :: rest))) : W p l e R s m args below meth c H locs cells slots Q (F0 m pc ls (.ref (a 2) :: rest)) := gx_get C hP (X := RX1) (T := TX1) (N := 8) 2 rfl rfl iX1 2 (by decide) k_89 rfl hdg kk
theorem fd_X1_25_2 (C : Cx RX1 cc D cI cZ p s m args c) (hP : va_P D vwCl (dW cI cZ a σ) H) (hdg : decode cc pc = .ok (.getfield 25, 3)) (kk : W p l e R s m args below meth c H locs cells slots Q (F0 m (pc + 3) ls (.ref (a 17) :: rest))) : W p l e R s m args below meth c H locs cells slots Q (F0 m pc ls (.ref (a 2) :: rest)) := gx_get C hP (X := RX1) (T := TX1) (N := 8) 2 rfl rfl iX1 4 (by decide) k_93 rfl hdg kk
theorem fd_X1_28_2 (C : Cx RX1 cc D cI cZ p s m args c) (hP : va_P D vwCl (dW cI cZ a σ) H) (hdg : decode cc pc = .ok (.getfield 28, 3)) (kk : W p l e R s m args below meth c H locs cells slots Q (F0 m (pc + 3) ls (.ref (a 18) :: rest))) : W p l e R s m args below meth c H locs cells slots Q (F0 m pc ls (.ref (a 2) :: rest)) := gx_get C hP (X := RX1) (T := TX1) (N := 8) 2 rfl rfl iX1 5 (by decide) k_95 rfl hdg kk
theorem fd_X1_34_2 (C : Cx RX1 cc D cI cZ p s m args c) (hP : va_P D vwCl (dW cI cZ a σ) H) (hdg : decode cc pc = .ok (.getfield 34, 3)) (kk : W p l e R s m args below meth c H locs cells slots Q (F0 m (pc + 3) ls (.int (σ.2 1) :: rest))) : W p l e R s m args below meth c H locs cells slots Q (F0 m pc ls (.ref (a 2) :: rest)) := gx_get C hP (X := RX1) (T := TX1) (N := 8) 2 rfl rfl iX1 7 (by decide) k_99 rfl hdg kk
theorem fd_X1_9_2 (C : Cx RX1 cc D cI cZ p s m args c) (hP : va_P D vwCl (dW cI cZ a σ) H) (hdg : decode cc pc = .ok (.getfield 9, 3)) (kk : W p l e R s m args below meth c H locs cells slots Q (F0 m (pc + 3) ls (.ref (a 13) :: rest))) : W p l e R s m args below meth c H locs cells slots Q (F0 m pc ls (.ref (a 2) :: rest)) := gx_get C hP (X := RX1) (T := TX1) (N := 8) 2 rfl rfl iX1 0 (by decide) k_85 rfl hdg kk
theorem fd_X2_15_3 (C : Cx RX2 cc D cI cZ p s m args c) (hP : va_P D vwCl (dW cI cZ a σ) H) (hdg : decode cc pc = .ok (.getfield 15, 3)) (kk : W p l e R s m args below meth c H locs cells slots Q (F0 m (pc + 3) ls (.ref (a 21) :: rest))) : W p l e R s m args below meth c H locs cells slots Q (F0 m pc ls (.ref (a 3) :: rest)) := gx_get C hP (X := RX2) (T := TX2) (N := 6) 3 rfl rfl iX2 1 (by decide) k_127 rfl hdg kk
theorem fd_X2_18_3 (C : Cx RX2 cc D cI cZ p s m args c) (hP : va_P D vwCl (dW cI cZ a σ) H) (hdg : decode cc pc = .ok (.getfield 18, 3)) (kk : W p l e R s m args below meth c H locs cells slots Q (F0 m (pc + 3) ls (.ref (a 22) :: rest))) : W p l e R s m args below meth c H locs cells slots Q (F0 m pc ls (.ref (a 3) :: rest)) := gx_get C hP (X := RX2) (T := TX2) (N := 6) 3 rfl rfl iX2 2 (by decide) k_129 rfl hdg kk
theorem fd_X2_21_3 (C : Cx RX2 cc D cI cZ p s m args c) (hP : va_P D vwCl (dW cI cZ a σ) H) (hdg : decode cc pc = .ok (.getfield 21, 3)) (kk : W p l e R s m args below meth c H locs cells slots Q (F0 m (pc + 3) ls (.ref (a 23) :: rest))) : W p l e R s m args below meth c H locs cells slots Q (F0 m pc ls (.ref (a 3) :: rest)) := gx_get C hP (X := RX2) (T := TX2) (N := 6) 3 rfl rfl iX2 3 (by decide) k_131 rfl hdg kk
theorem fd_X2_24_3 (C : Cx RX2 cc D cI cZ p s m args c) (hP : va_P D vwCl (dW cI cZ a σ) H) (hdg : decode cc pc = .ok (.getfield 24, 3)) (kk : W p l e R s m args below meth c H locs cells slots Q (F0 m (pc + 3) ls (.ref (a 24) :: rest))) : W p l e R s m args below meth c H locs cells slots Q (F0 m pc ls (.ref (a 3) :: rest)) := gx_get C hP (X := RX2) (T := TX2) (N := 6) 3 rfl rfl iX2 4 (by decide) k_133 rfl hdg kk
theorem fd_X2_27_3 (C : Cx RX2 cc D cI cZ p s m args c) (hP : va_P D vwCl (dW cI cZ a σ) H) (hdg : decode cc pc = .ok (.getfield 27, 3)) (kk : W p l e R s m args below meth c H locs cells slots Q (F0 m (pc + 3) ls (.int (σ.2 2) :: rest))) : W p l e R s m args below meth c H locs cells slots Q (F0 m pc ls (.ref (a 3) :: rest)) := gx_get C hP (X := RX2) (T := TX2) (N := 6) 3 rfl rfl iX2 5 (by decide) k_135 rfl hdg kk
theorem fd_X2_9_3 (C : Cx RX2 cc D cI cZ p s m args c) (hP : va_P D vwCl (dW cI cZ a σ) H) (hdg : decode cc pc = .ok (.getfield 9, 3)) (kk : W p l e R s m args below meth c H locs cells slots Q (F0 m (pc + 3) ls (.ref (a 20) :: rest))) : W p l e R s m args below meth c H locs cells slots Q (F0 m pc ls (.ref (a 3) :: rest)) := gx_get C hP (X := RX2) (T := TX2) (N := 6) 3 rfl rfl iX2 0 (by decide) k_125 rfl hdg kk
theorem fd_X3_15_5 (C : Cx RX3 cc D cI cZ p s m args c) (hP : va_P D vwCl (dW cI cZ a σ) H) (hdg : decode cc pc = .ok (.getfield 15, 3)) (kk : W p l e R s m args below meth c H locs cells slots Q (F0 m (pc + 3) ls (.int (σ.2 4) :: rest))) : W p l e R s m args below meth c H locs cells slots Q (F0 m pc ls (.ref (a 5) :: rest)) := gx_get C hP (X := RX3) (T := TX3) (N := 2) 5 rfl rfl iX3 1 (by decide) k_177 rfl hdg kk
theorem fd_X3_15_6 (C : Cx RX3 cc D cI cZ p s m args c) (hP : va_P D vwCl (dW cI cZ a σ) H) (hdg : decode cc pc = .ok (.getfield 15, 3)) (kk : W p l e R s m args below meth c H locs cells slots Q (F0 m (pc + 3) ls (.int (σ.2 5) :: rest))) : W p l e R s m args below meth c H locs cells slots Q (F0 m pc ls (.ref (a 6) :: rest)) := gx_get C hP (X := RX3) (T := TX3) (N := 2) 6 rfl rfl iX3 1 (by decide) k_177 rfl hdg kk
theorem fd_X3_9_5 (C : Cx RX3 cc D cI cZ p s m args c) (hP : va_P D vwCl (dW cI cZ a σ) H) (hdg : decode cc pc = .ok (.getfield 9, 3)) (kk : W p l e R s m args below meth c H locs cells slots Q (F0 m (pc + 3) ls (.ref (a 27) :: rest))) : W p l e R s m args below meth c H locs cells slots Q (F0 m pc ls (.ref (a 5) :: rest)) := gx_get C hP (X := RX3) (T := TX3) (N := 2) 5 rfl rfl iX3 0 (by decide) k_175 rfl hdg kk
theorem fd_X3_9_6 (C : Cx RX3 cc D cI cZ p s m args c) (hP : va_P D vwCl (dW cI cZ a σ) H) (hdg : decode cc pc = .ok (.getfield 9, 3)) (kk : W p l e R s m args below meth c H locs cells slots Q (F0 m (pc + 3) ls (.ref (a 28) :: rest))) : W p l e R s m args below meth c H locs cells slots Q (F0 m pc ls (.ref (a 6) :: rest)) := gx_get C hP (X := RX3) (T := TX3) (N := 2) 6 rfl rfl iX3 0 (by decide) k_175 rfl hdg kk
theorem fd_X4_19_4 (C : Cx RX4 cc D cI cZ p s m args c) (hP : va_P D vwCl (dW cI cZ a σ) H) (hdg : decode cc pc = .ok (.getfield 19, 3)) (kk : W p l e R s m args below meth c H locs cells slots Q (F0 m (pc + 3) ls (.int (σ.2 3) :: rest))) : W p l e R s m args below meth c H locs cells slots Q (F0 m pc ls (.ref (a 4) :: rest)) := gx_get C hP (X := RX4) (T := TX4) (N := 3) 4 rfl rfl iX4 2 (by decide) k_160 rfl hdg kk
theorem fd_X4_9_4 (C : Cx RX4 cc D cI cZ p s m args c) (hP : va_P D vwCl (dW cI cZ a σ) H) (hdg : decode cc pc = .ok (.getfield 9, 3)) (kk : W p l e R s m args below meth c H locs cells slots Q (F0 m (pc + 3) ls (.ref (a 25) :: rest))) : W p l e R s m args below meth c H locs cells slots Q (F0 m pc ls (.ref (a 4) :: rest)) := gx_get C hP (X := RX4) (T := TX4) (N := 3) 4 rfl rfl iX4 0 (by decide) k_156 rfl hdg kk
theorem fd_X5_112_4 (C : Cx RX5 cc D cI cZ p s m args c) (hP : va_P D vwCl (dW cI cZ a σ) H) (hdg : decode cc pc = .ok (.getfield 112, 3)) (kk : W p l e R s m args below meth c H locs cells slots Q (F0 m (pc + 3) ls (.ref (a 26) :: rest))) : W p l e R s m args below meth c H locs cells slots Q (F0 m pc ls (.ref (a 4) :: rest)) := gx_get C hP (X := RX4) (T := TX4) (N := 3) 4 rfl rfl iX4 1 (by decide) k_159 rfl hdg kk
theorem fd_X5_115_4 (C : Cx RX5 cc D cI cZ p s m args c) (hP : va_P D vwCl (dW cI cZ a σ) H) (hdg : decode cc pc = .ok (.getfield 115, 3)) (kk : W p l e R s m args below meth c H locs cells slots Q (F0 m (pc + 3) ls (.ref (a 25) :: rest))) : W p l e R s m args below meth c H locs cells slots Q (F0 m pc ls (.ref (a 4) :: rest)) := gx_get C hP (X := RX4) (T := TX4) (N := 3) 4 rfl rfl iX4 0 (by decide) k_157 rfl hdg kk
theorem fd_X5_128_3 (C : Cx RX5 cc D cI cZ p s m args c) (hP : va_P D vwCl (dW cI cZ a σ) H) (hdg : decode cc pc = .ok (.getfield 128, 3)) (kk : W p l e R s m args below meth c H locs cells slots Q (F0 m (pc + 3) ls (.int (σ.2 2) :: rest))) : W p l e R s m args below meth c H locs cells slots Q (F0 m pc ls (.ref (a 3) :: rest)) := gx_get C hP (X := RX2) (T := TX2) (N := 6) 3 rfl rfl iX2 5 (by decide) k_136 rfl hdg kk
theorem fd_X5_12_0 (C : Cx RX5 cc D cI cZ p s m args c) (hP : va_P D vwCl (dW cI cZ a σ) H) (hdg : decode cc pc = .ok (.getfield 12, 3)) (kk : W p l e R s m args below meth c H locs cells slots Q (F0 m (pc + 3) ls (.ref (a 1) :: rest))) : W p l e R s m args below meth c H locs cells slots Q (F0 m pc ls (.ref (a 0) :: rest)) := gx_get C hP (X := RX5) (T := TX5) (N := 7) 0 rfl rfl iX5 0 (by decide) k_184 rfl hdg kk
theorem fd_X5_132_3 (C : Cx RX5 cc D cI cZ p s m args c) (hP : va_P D vwCl (dW cI cZ a σ) H) (hdg : decode cc pc = .ok (.getfield 132, 3)) (kk : W p l e R s m args below meth c H locs cells slots Q (F0 m (pc + 3) ls (.ref (a 21) :: rest))) : W p l e R s m args below meth c H locs cells slots Q (F0 m pc ls (.ref (a 3) :: rest)) := gx_get C hP (X := RX2) (T := TX2) (N := 6) 3 rfl rfl iX2 1 (by decide) k_128 rfl hdg kk
theorem fd_X5_135_3 (C : Cx RX5 cc D cI cZ p s m args c) (hP : va_P D vwCl (dW cI cZ a σ) H) (hdg : decode cc pc = .ok (.getfield 135, 3)) (kk : W p l e R s m args below meth c H locs cells slots Q (F0 m (pc + 3) ls (.ref (a 23) :: rest))) : W p l e R s m args below meth c H locs cells slots Q (F0 m pc ls (.ref (a 3) :: rest)) := gx_get C hP (X := RX2) (T := TX2) (N := 6) 3 rfl rfl iX2 3 (by decide) k_132 rfl hdg kk
theorem fd_X5_138_3 (C : Cx RX5 cc D cI cZ p s m args c) (hP : va_P D vwCl (dW cI cZ a σ) H) (hdg : decode cc pc = .ok (.getfield 138, 3)) (kk : W p l e R s m args below meth c H locs cells slots Q (F0 m (pc + 3) ls (.ref (a 24) :: rest))) : W p l e R s m args below meth c H locs cells slots Q (F0 m pc ls (.ref (a 3) :: rest)) := gx_get C hP (X := RX2) (T := TX2) (N := 6) 3 rfl rfl iX2 4 (by decide) k_134 rfl hdg kk
theorem fd_X5_141_1 (C : Cx RX5 cc D cI cZ p s m args c) (hP : va_P D vwCl (dW cI cZ a σ) H) (hdg : decode cc pc = .ok (.getfield 141, 3)) (kk : W p l e R s m args below meth c H locs cells slots Q (F0 m (pc + 3) ls (.ref (a 9) :: rest))) : W p l e R s m args below meth c H locs cells slots Q (F0 m pc ls (.ref (a 1) :: rest)) := gx_get C hP (X := RX0) (T := TX0) (N := 6) 1 rfl rfl iX0 1 (by decide) k_54 rfl hdg kk
theorem fd_X5_144_3 (C : Cx RX5 cc D cI cZ p s m args c) (hP : va_P D vwCl (dW cI cZ a σ) H) (hdg : decode cc pc = .ok (.getfield 144, 3)) (kk : W p l e R s m args below meth c H locs cells slots Q (F0 m (pc + 3) ls (.ref (a 22) :: rest))) : W p l e R s m args below meth c H locs cells slots Q (F0 m pc ls (.ref (a 3) :: rest)) := gx_get C hP (X := RX2) (T := TX2) (N := 6) 3 rfl rfl iX2 2 (by decide) k_130 rfl hdg kk
theorem fd_X5_147_5 (C : Cx RX5 cc D cI cZ p s m args c) (hP : va_P D vwCl (dW cI cZ a σ) H) (hdg : decode cc pc = .ok (.getfield 147, 3)) (kk : W p l e R s m args below meth c H locs cells slots Q (F0 m (pc + 3) ls (.int (σ.2 4) :: rest))) : W p l e R s m args below meth c H locs cells slots Q (F0 m pc ls (.ref (a 5) :: rest)) := gx_get C hP (X := RX3) (T := TX3) (N := 2) 5 rfl rfl iX3 1 (by decide) k_178 rfl hdg kk
theorem fd_X5_147_6 (C : Cx RX5 cc D cI cZ p s m args c) (hP : va_P D vwCl (dW cI cZ a σ) H) (hdg : decode cc pc = .ok (.getfield 147, 3)) (kk : W p l e R s m args below meth c H locs cells slots Q (F0 m (pc + 3) ls (.int (σ.2 5) :: rest))) : W p l e R s m args below meth c H locs cells slots Q (F0 m pc ls (.ref (a 6) :: rest)) := gx_get C hP (X := RX3) (T := TX3) (N := 2) 6 rfl rfl iX3 1 (by decide) k_178 rfl hdg kk
theorem fd_X5_148_5 (C : Cx RX5 cc D cI cZ p s m args c) (hP : va_P D vwCl (dW cI cZ a σ) H) (hdg : decode cc pc = .ok (.getfield 148, 3)) (kk : W p l e R s m args below meth c H locs cells slots Q (F0 m (pc + 3) ls (.ref (a 27) :: rest))) : W p l e R s m args below meth c H locs cells slots Q (F0 m pc ls (.ref (a 5) :: rest)) := gx_get C hP (X := RX3) (T := TX3) (N := 2) 5 rfl rfl iX3 0 (by decide) k_176 rfl hdg kk
theorem fd_X5_148_6 (C : Cx RX5 cc D cI cZ p s m args c) (hP : va_P D vwCl (dW cI cZ a σ) H) (hdg : decode cc pc = .ok (.getfield 148, 3)) (kk : W p l e R s m args below meth c H locs cells slots Q (F0 m (pc + 3) ls (.ref (a 28) :: rest))) : W p l e R s m args below meth c H locs cells slots Q (F0 m pc ls (.ref (a 6) :: rest)) := gx_get C hP (X := RX3) (T := TX3) (N := 2) 6 rfl rfl iX3 0 (by decide) k_176 rfl hdg kk
theorem fd_X5_151_1 (C : Cx RX5 cc D cI cZ p s m args c) (hP : va_P D vwCl (dW cI cZ a σ) H) (hdg : decode cc pc = .ok (.getfield 151, 3)) (kk : W p l e R s m args below meth c H locs cells slots Q (F0 m (pc + 3) ls (.int (σ.2 0) :: rest))) : W p l e R s m args below meth c H locs cells slots Q (F0 m pc ls (.ref (a 1) :: rest)) := gx_get C hP (X := RX0) (T := TX0) (N := 6) 1 rfl rfl iX0 5 (by decide) k_61 rfl hdg kk
theorem fd_X5_152_2 (C : Cx RX5 cc D cI cZ p s m args c) (hP : va_P D vwCl (dW cI cZ a σ) H) (hdg : decode cc pc = .ok (.getfield 152, 3)) (kk : W p l e R s m args below meth c H locs cells slots Q (F0 m (pc + 3) ls (.int (σ.2 1) :: rest))) : W p l e R s m args below meth c H locs cells slots Q (F0 m pc ls (.ref (a 2) :: rest)) := gx_get C hP (X := RX1) (T := TX1) (N := 8) 2 rfl rfl iX1 7 (by decide) k_100 rfl hdg kk
theorem fd_X5_153_4 (C : Cx RX5 cc D cI cZ p s m args c) (hP : va_P D vwCl (dW cI cZ a σ) H) (hdg : decode cc pc = .ok (.getfield 153, 3)) (kk : W p l e R s m args below meth c H locs cells slots Q (F0 m (pc + 3) ls (.int (σ.2 3) :: rest))) : W p l e R s m args below meth c H locs cells slots Q (F0 m pc ls (.ref (a 4) :: rest)) := gx_get C hP (X := RX4) (T := TX4) (N := 3) 4 rfl rfl iX4 2 (by decide) k_161 rfl hdg kk
theorem fd_X5_154_2 (C : Cx RX5 cc D cI cZ p s m args c) (hP : va_P D vwCl (dW cI cZ a σ) H) (hdg : decode cc pc = .ok (.getfield 154, 3)) (kk : W p l e R s m args below meth c H locs cells slots Q (F0 m (pc + 3) ls (.ref (a 14) :: rest))) : W p l e R s m args below meth c H locs cells slots Q (F0 m pc ls (.ref (a 2) :: rest)) := gx_get C hP (X := RX1) (T := TX1) (N := 8) 2 rfl rfl iX1 1 (by decide) k_88 rfl hdg kk
theorem fd_X5_160_2 (C : Cx RX5 cc D cI cZ p s m args c) (hP : va_P D vwCl (dW cI cZ a σ) H) (hdg : decode cc pc = .ok (.getfield 160, 3)) (kk : W p l e R s m args below meth c H locs cells slots Q (F0 m (pc + 3) ls (.ref (a 13) :: rest))) : W p l e R s m args below meth c H locs cells slots Q (F0 m pc ls (.ref (a 2) :: rest)) := gx_get C hP (X := RX1) (T := TX1) (N := 8) 2 rfl rfl iX1 0 (by decide) k_86 rfl hdg kk
theorem fd_X5_163_2 (C : Cx RX5 cc D cI cZ p s m args c) (hP : va_P D vwCl (dW cI cZ a σ) H) (hdg : decode cc pc = .ok (.getfield 163, 3)) (kk : W p l e R s m args below meth c H locs cells slots Q (F0 m (pc + 3) ls (.ref (a 18) :: rest))) : W p l e R s m args below meth c H locs cells slots Q (F0 m pc ls (.ref (a 2) :: rest)) := gx_get C hP (X := RX1) (T := TX1) (N := 8) 2 rfl rfl iX1 5 (by decide) k_96 rfl hdg kk
theorem fd_X5_169_1 (C : Cx RX5 cc D cI cZ p s m args c) (hP : va_P D vwCl (dW cI cZ a σ) H) (hdg : decode cc pc = .ok (.getfield 169, 3)) (kk : W p l e R s m args below meth c H locs cells slots Q (F0 m (pc + 3) ls (.ref (a 10) :: rest))) : W p l e R s m args below meth c H locs cells slots Q (F0 m pc ls (.ref (a 1) :: rest)) := gx_get C hP (X := RX0) (T := TX0) (N := 6) 1 rfl rfl iX0 2 (by decide) k_56 rfl hdg kk
theorem fd_X5_173_2 (C : Cx RX5 cc D cI cZ p s m args c) (hP : va_P D vwCl (dW cI cZ a σ) H) (hdg : decode cc pc = .ok (.getfield 173, 3)) (kk : W p l e R s m args below meth c H locs cells slots Q (F0 m (pc + 3) ls (.ref (a 19) :: rest))) : W p l e R s m args below meth c H locs cells slots Q (F0 m pc ls (.ref (a 2) :: rest)) := gx_get C hP (X := RX1) (T := TX1) (N := 8) 2 rfl rfl iX1 6 (by decide) k_98 rfl hdg kk
theorem fd_X5_176_1 (C : Cx RX5 cc D cI cZ p s m args c) (hP : va_P D vwCl (dW cI cZ a σ) H) (hdg : decode cc pc = .ok (.getfield 176, 3)) (kk : W p l e R s m args below meth c H locs cells slots Q (F0 m (pc + 3) ls (.ref (a 8) :: rest))) : W p l e R s m args below meth c H locs cells slots Q (F0 m pc ls (.ref (a 1) :: rest)) := gx_get C hP (X := RX0) (T := TX0) (N := 6) 1 rfl rfl iX0 0 (by decide) k_52 rfl hdg kk
theorem fd_X5_199_1 (C : Cx RX5 cc D cI cZ p s m args c) (hP : va_P D vwCl (dW cI cZ a σ) H) (hdg : decode cc pc = .ok (.getfield 199, 3)) (kk : W p l e R s m args below meth c H locs cells slots Q (F0 m (pc + 3) ls (.ref (a 11) :: rest))) : W p l e R s m args below meth c H locs cells slots Q (F0 m pc ls (.ref (a 1) :: rest)) := gx_get C hP (X := RX0) (T := TX0) (N := 6) 1 rfl rfl iX0 3 (by decide) k_58 rfl hdg kk
theorem fd_X5_19_0 (C : Cx RX5 cc D cI cZ p s m args c) (hP : va_P D vwCl (dW cI cZ a σ) H) (hdg : decode cc pc = .ok (.getfield 19, 3)) (kk : W p l e R s m args below meth c H locs cells slots Q (F0 m (pc + 3) ls (.ref (a 2) :: rest))) : W p l e R s m args below meth c H locs cells slots Q (F0 m pc ls (.ref (a 0) :: rest)) := gx_get C hP (X := RX5) (T := TX5) (N := 7) 0 rfl rfl iX5 1 (by decide) k_185 rfl hdg kk
theorem fd_X5_26_0 (C : Cx RX5 cc D cI cZ p s m args c) (hP : va_P D vwCl (dW cI cZ a σ) H) (hdg : decode cc pc = .ok (.getfield 26, 3)) (kk : W p l e R s m args below meth c H locs cells slots Q (F0 m (pc + 3) ls (.ref (a 3) :: rest))) : W p l e R s m args below meth c H locs cells slots Q (F0 m pc ls (.ref (a 0) :: rest)) := gx_get C hP (X := RX5) (T := TX5) (N := 7) 0 rfl rfl iX5 2 (by decide) k_186 rfl hdg kk
theorem fd_X5_33_0 (C : Cx RX5 cc D cI cZ p s m args c) (hP : va_P D vwCl (dW cI cZ a σ) H) (hdg : decode cc pc = .ok (.getfield 33, 3)) (kk : W p l e R s m args below meth c H locs cells slots Q (F0 m (pc + 3) ls (.ref (a 4) :: rest))) : W p l e R s m args below meth c H locs cells slots Q (F0 m pc ls (.ref (a 0) :: rest)) := gx_get C hP (X := RX5) (T := TX5) (N := 7) 0 rfl rfl iX5 3 (by decide) k_187 rfl hdg kk
theorem fd_X5_40_0 (C : Cx RX5 cc D cI cZ p s m args c) (hP : va_P D vwCl (dW cI cZ a σ) H) (hdg : decode cc pc = .ok (.getfield 40, 3)) (kk : W p l e R s m args below meth c H locs cells slots Q (F0 m (pc + 3) ls (.ref (a 5) :: rest))) : W p l e R s m args below meth c H locs cells slots Q (F0 m pc ls (.ref (a 0) :: rest)) := gx_get C hP (X := RX5) (T := TX5) (N := 7) 0 rfl rfl iX5 4 (by decide) k_188 rfl hdg kk
theorem fd_X5_44_0 (C : Cx RX5 cc D cI cZ p s m args c) (hP : va_P D vwCl (dW cI cZ a σ) H) (hdg : decode cc pc = .ok (.getfield 44, 3)) (kk : W p l e R s m args below meth c H locs cells slots Q (F0 m (pc + 3) ls (.ref (a 6) :: rest))) : W p l e R s m args below meth c H locs cells slots Q (F0 m pc ls (.ref (a 0) :: rest)) := gx_get C hP (X := RX5) (T := TX5) (N := 7) 0 rfl rfl iX5 5 (by decide) k_189 rfl hdg kk
theorem fd_X5_47_0 (C : Cx RX5 cc D cI cZ p s m args c) (hP : va_P D vwCl (dW cI cZ a σ) H) (hdg : decode cc pc = .ok (.getfield 47, 3)) (kk : W p l e R s m args below meth c H locs cells slots Q (F0 m (pc + 3) ls (.ref (a 7) :: rest))) : W p l e R s m args below meth c H locs cells slots Q (F0 m pc ls (.ref (a 0) :: rest)) := gx_get C hP (X := RX5) (T := TX5) (N := 7) 0 rfl rfl iX5 6 (by decide) k_190 rfl hdg kk
theorem fd_X5_68_2 (C : Cx RX5 cc D cI cZ p s m args c) (hP : va_P D vwCl (dW cI cZ a σ) H) (hdg : decode cc pc = .ok (.getfield 68, 3)) (kk : W p l e R s m args below meth c H locs cells slots Q (F0 m (pc + 3) ls (.ref (a 15) :: rest))) : W p l e R s m args below meth c H locs cells slots Q (F0 m pc ls (.ref (a 2) :: rest)) := gx_get C hP (X := RX1) (T := TX1) (N := 8) 2 rfl rfl iX1 2 (by decide) k_90 rfl hdg kk
theorem fd_X5_75_2 (C : Cx RX5 cc D cI cZ p s m args c) (hP : va_P D vwCl (dW cI cZ a σ) H) (hdg : decode cc pc = .ok (.getfield 75, 3)) (kk : W p l e R s m args below meth c H locs cells slots Q (F0 m (pc + 3) ls (.ref (a 16) :: rest))) : W p l e R s m args below meth c H locs cells slots Q (F0 m pc ls (.ref (a 2) :: rest)) := gx_get C hP (X := RX1) (T := TX1) (N := 8) 2 rfl rfl iX1 3 (by decide) k_92 rfl hdg kk
theorem fd_X5_87_2 (C : Cx RX5 cc D cI cZ p s m args c) (hP : va_P D vwCl (dW cI cZ a σ) H) (hdg : decode cc pc = .ok (.getfield 87, 3)) (kk : W p l e R s m args below meth c H locs cells slots Q (F0 m (pc + 3) ls (.ref (a 17) :: rest))) : W p l e R s m args below meth c H locs cells slots Q (F0 m pc ls (.ref (a 2) :: rest)) := gx_get C hP (X := RX1) (T := TX1) (N := 8) 2 rfl rfl iX1 4 (by decide) k_94 rfl hdg kk
theorem fd_X5_98_3 (C : Cx RX5 cc D cI cZ p s m args c) (hP : va_P D vwCl (dW cI cZ a σ) H) (hdg : decode cc pc = .ok (.getfield 98, 3)) (kk : W p l e R s m args below meth c H locs cells slots Q (F0 m (pc + 3) ls (.ref (a 20) :: rest))) : W p l e R s m args below meth c H locs cells slots Q (F0 m pc ls (.ref (a 3) :: rest)) := gx_get C hP (X := RX2) (T := TX2) (N := 6) 3 rfl rfl iX2 0 (by decide) k_126 rfl hdg kk
theorem fr_X6_100_0 (C : Cx RX6 cc D cI cZ p s m args c) (hP : va_P D vwCl (rW cI cZ a σ) H) (hdg : decode cc pc = .ok (.getfield 100, 3)) (kk : W p l e R s m args below meth c H locs cells slots Q (F0 m (pc + 3) ls (.int (σ.2 14) :: rest))) : W p l e R s m args below meth c H locs cells slots Q (F0 m pc ls (.ref (a 0) :: rest)) := gx_get C hP (X := RX6) (T := TX6) (N := 33) 0 rfl rfl iX6 14 (by decide) k_417 rfl hdg kk
theorem fr_X6_103_0 (C : Cx RX6 cc D cI cZ p s m args c) (hP : va_P D vwCl (rW cI cZ a σ) H) (hdg : decode cc pc = .ok (.getfield 103, 3)) (kk : W p l e R s m args below meth c H locs cells slots Q (F0 m (pc + 3) ls (.int (σ.2 20) :: rest))) : W p l e R s m args below meth c H locs cells slots Q (F0 m pc ls (.ref (a 0) :: rest)) := gx_get C hP (X := RX6) (T := TX6) (N := 33) 0 rfl rfl iX6 20 (by decide) k_423 rfl hdg kk
theorem fr_X6_116_0 (C : Cx RX6 cc D cI cZ p s m args c) (hP : va_P D vwCl (rW cI cZ a σ) H) (hdg : decode cc pc = .ok (.getfield 116, 3)) (kk : W p l e R s m args below meth c H locs cells slots Q (F0 m (pc + 3) ls (.int (σ.2 25) :: rest))) : W p l e R s m args below meth c H locs cells slots Q (F0 m pc ls (.ref (a 0) :: rest)) := gx_get C hP (X := RX6) (T := TX6) (N := 33) 0 rfl rfl iX6 25 (by decide) k_428 rfl hdg kk
theorem fr_X6_119_0 (C : Cx RX6 cc D cI cZ p s m args c) (hP : va_P D vwCl (rW cI cZ a σ) H) (hdg : decode cc pc = .ok (.getfield 119, 3)) (kk : W p l e R s m args below meth c H locs cells slots Q (F0 m (pc + 3) ls (.int (σ.2 31) :: rest))) : W p l e R s m args below meth c H locs cells slots Q (F0 m pc ls (.ref (a 0) :: rest)) := gx_get C hP (X := RX6) (T := TX6) (N := 33) 0 rfl rfl iX6 31 (by decide) k_434 rfl hdg kk
theorem fr_X6_13_0 (C : Cx RX6 cc D cI cZ p s m args c) (hP : va_P D vwCl (rW cI cZ a σ) H) (hdg : decode cc pc = .ok (.getfield 13, 3)) (kk : W p l e R s m args below meth c H locs cells slots Q (F0 m (pc + 3) ls (.ref (a 2) :: rest))) : W p l e R s m args below meth c H locs cells slots Q (F0 m pc ls (.ref (a 0) :: rest)) := gx_get C hP (X := RX6) (T := TX6) (N := 33) 0 rfl rfl iX6 2 (by decide) k_405 rfl hdg kk
theorem fr_X6_154_0 (C : Cx RX6 cc D cI cZ p s m args c) (hP : va_P D vwCl (rW cI cZ a σ) H) (hdg : decode cc pc = .ok (.getfield 154, 3)) (kk : W p l e R s m args below meth c H locs cells slots Q (F0 m (pc + 3) ls (.int (σ.2 23) :: rest))) : W p l e R s m args below meth c H locs cells slots Q (F0 m pc ls (.ref (a 0) :: rest)) := gx_get C hP (X := RX6) (T := TX6) (N := 33) 0 rfl rfl iX6 23 (by decide) k_426 rfl hdg kk
theorem fr_X6_16_0 (C : Cx RX6 cc D cI cZ p s m args c) (hP : va_P D vwCl (rW cI cZ a σ) H) (hdg : decode cc pc = .ok (.getfield 16, 3)) (kk : W p l e R s m args below meth c H locs cells slots Q (F0 m (pc + 3) ls (.ref (a 3) :: rest))) : W p l e R s m args below meth c H locs cells slots Q (F0 m pc ls (.ref (a 0) :: rest)) := gx_get C hP (X := RX6) (T := TX6) (N := 33) 0 rfl rfl iX6 3 (by decide) k_406 rfl hdg kk
theorem fr_X6_19_0 (C : Cx RX6 cc D cI cZ p s m args c) (hP : va_P D vwCl (rW cI cZ a σ) H) (hdg : decode cc pc = .ok (.getfield 19, 3)) (kk : W p l e R s m args below meth c H locs cells slots Q (F0 m (pc + 3) ls (.ref (a 4) :: rest))) : W p l e R s m args below meth c H locs cells slots Q (F0 m pc ls (.ref (a 0) :: rest)) := gx_get C hP (X := RX6) (T := TX6) (N := 33) 0 rfl rfl iX6 4 (by decide) k_407 rfl hdg kk
theorem fr_X6_22_0 (C : Cx RX6 cc D cI cZ p s m args c) (hP : va_P D vwCl (rW cI cZ a σ) H) (hdg : decode cc pc = .ok (.getfield 22, 3)) (kk : W p l e R s m args below meth c H locs cells slots Q (F0 m (pc + 3) ls (.ref (a 5) :: rest))) : W p l e R s m args below meth c H locs cells slots Q (F0 m pc ls (.ref (a 0) :: rest)) := gx_get C hP (X := RX6) (T := TX6) (N := 33) 0 rfl rfl iX6 5 (by decide) k_408 rfl hdg kk
theorem fr_X6_25_0 (C : Cx RX6 cc D cI cZ p s m args c) (hP : va_P D vwCl (rW cI cZ a σ) H) (hdg : decode cc pc = .ok (.getfield 25, 3)) (kk : W p l e R s m args below meth c H locs cells slots Q (F0 m (pc + 3) ls (.ref (a 7) :: rest))) : W p l e R s m args below meth c H locs cells slots Q (F0 m pc ls (.ref (a 0) :: rest)) := gx_get C hP (X := RX6) (T := TX6) (N := 33) 0 rfl rfl iX6 7 (by decide) k_410 rfl hdg kk
theorem fr_X6_28_0 (C : Cx RX6 cc D cI cZ p s m args c) (hP : va_P D vwCl (rW cI cZ a σ) H) (hdg : decode cc pc = .ok (.getfield 28, 3)) (kk : W p l e R s m args below meth c H locs cells slots Q (F0 m (pc + 3) ls (.ref (a 8) :: rest))) : W p l e R s m args below meth c H locs cells slots Q (F0 m pc ls (.ref (a 0) :: rest)) := gx_get C hP (X := RX6) (T := TX6) (N := 33) 0 rfl rfl iX6 8 (by decide) k_411 rfl hdg kk
theorem fr_X6_32_0 (C : Cx RX6 cc D cI cZ p s m args c) (hP : va_P D vwCl (rW cI cZ a σ) H) (hdg : decode cc pc = .ok (.getfield 32, 3)) (kk : W p l e R s m args below meth c H locs cells slots Q (F0 m (pc + 3) ls (.ref (a 9) :: rest))) : W p l e R s m args below meth c H locs cells slots Q (F0 m pc ls (.ref (a 0) :: rest)) := gx_get C hP (X := RX6) (T := TX6) (N := 33) 0 rfl rfl iX6 9 (by decide) k_412 rfl hdg kk
theorem fr_X6_35_0 (C : Cx RX6 cc D cI cZ p s m args c) (hP : va_P D vwCl (rW cI cZ a σ) H) (hdg : decode cc pc = .ok (.getfield 35, 3)) (kk : W p l e R s m args below meth c H locs cells slots Q (F0 m (pc + 3) ls (.ref (a 10) :: rest))) : W p l e R s m args below meth c H locs cells slots Q (F0 m pc ls (.ref (a 0) :: rest)) := gx_get C hP (X := RX6) (T := TX6) (N := 33) 0 rfl rfl iX6 10 (by decide) k_413 rfl hdg kk
theorem fr_X6_38_0 (C : Cx RX6 cc D cI cZ p s m args c) (hP : va_P D vwCl (rW cI cZ a σ) H) (hdg : decode cc pc = .ok (.getfield 38, 3)) (kk : W p l e R s m args below meth c H locs cells slots Q (F0 m (pc + 3) ls (.ref (a 11) :: rest))) : W p l e R s m args below meth c H locs cells slots Q (F0 m pc ls (.ref (a 0) :: rest)) := gx_get C hP (X := RX6) (T := TX6) (N := 33) 0 rfl rfl iX6 11 (by decide) k_414 rfl hdg kk
theorem fr_X6_41_0 (C : Cx RX6 cc D cI cZ p s m args c) (hP : va_P D vwCl (rW cI cZ a σ) H) (hdg : decode cc pc = .ok (.getfield 41, 3)) (kk : W p l e R s m args below meth c H locs cells slots Q (F0 m (pc + 3) ls (.ref (a 12) :: rest))) : W p l e R s m args below meth c H locs cells slots Q (F0 m pc ls (.ref (a 0) :: rest)) := gx_get C hP (X := RX6) (T := TX6) (N := 33) 0 rfl rfl iX6 12 (by decide) k_415 rfl hdg kk
theorem fr_X6_44_0 (C : Cx RX6 cc D cI cZ p s m args c) (hP : va_P D vwCl (rW cI cZ a σ) H) (hdg : decode cc pc = .ok (.getfield 44, 3)) (kk : W p l e R s m args below meth c H locs cells slots Q (F0 m (pc + 3) ls (.ref (a 13) :: rest))) : W p l e R s m args below meth c H locs cells slots Q (F0 m pc ls (.ref (a 0) :: rest)) := gx_get C hP (X := RX6) (T := TX6) (N := 33) 0 rfl rfl iX6 13 (by decide) k_416 rfl hdg kk
theorem fr_X6_47_0 (C : Cx RX6 cc D cI cZ p s m args c) (hP : va_P D vwCl (rW cI cZ a σ) H) (hdg : decode cc pc = .ok (.getfield 47, 3)) (kk : W p l e R s m args below meth c H locs cells slots Q (F0 m (pc + 3) ls (.ref (a 15) :: rest))) : W p l e R s m args below meth c H locs cells slots Q (F0 m pc ls (.ref (a 0) :: rest)) := gx_get C hP (X := RX6) (T := TX6) (N := 33) 0 rfl rfl iX6 15 (by decide) k_418 rfl hdg kk
theorem fr_X6_50_0 (C : Cx RX6 cc D cI cZ p s m args c) (hP : va_P D vwCl (rW cI cZ a σ) H) (hdg : decode cc pc = .ok (.getfield 50, 3)) (kk : W p l e R s m args below meth c H locs cells slots Q (F0 m (pc + 3) ls (.ref (a 16) :: rest))) : W p l e R s m args below meth c H locs cells slots Q (F0 m pc ls (.ref (a 0) :: rest)) := gx_get C hP (X := RX6) (T := TX6) (N := 33) 0 rfl rfl iX6 16 (by decide) k_419 rfl hdg kk
theorem fr_X6_53_0 (C : Cx RX6 cc D cI cZ p s m args c) (hP : va_P D vwCl (rW cI cZ a σ) H) (hdg : decode cc pc = .ok (.getfield 53, 3)) (kk : W p l e R s m args below meth c H locs cells slots Q (F0 m (pc + 3) ls (.ref (a 17) :: rest))) : W p l e R s m args below meth c H locs cells slots Q (F0 m pc ls (.ref (a 0) :: rest)) := gx_get C hP (X := RX6) (T := TX6) (N := 33) 0 rfl rfl iX6 17 (by decide) k_420 rfl hdg kk
theorem fr_X6_56_0 (C : Cx RX6 cc D cI cZ p s m args c) (hP : va_P D vwCl (rW cI cZ a σ) H) (hdg : decode cc pc = .ok (.getfield 56, 3)) (kk : W p l e R s m args below meth c H locs cells slots Q (F0 m (pc + 3) ls (.ref (a 18) :: rest))) : W p l e R s m args below meth c H locs cells slots Q (F0 m pc ls (.ref (a 0) :: rest)) := gx_get C hP (X := RX6) (T := TX6) (N := 33) 0 rfl rfl iX6 18 (by decide) k_421 rfl hdg kk
theorem fr_X6_59_0 (C : Cx RX6 cc D cI cZ p s m args c) (hP : va_P D vwCl (rW cI cZ a σ) H) (hdg : decode cc pc = .ok (.getfield 59, 3)) (kk : W p l e R s m args below meth c H locs cells slots Q (F0 m (pc + 3) ls (.ref (a 19) :: rest))) : W p l e R s m args below meth c H locs cells slots Q (F0 m pc ls (.ref (a 0) :: rest)) := gx_get C hP (X := RX6) (T := TX6) (N := 33) 0 rfl rfl iX6 19 (by decide) k_422 rfl hdg kk
theorem fr_X6_62_0 (C : Cx RX6 cc D cI cZ p s m args c) (hP : va_P D vwCl (rW cI cZ a σ) H) (hdg : decode cc pc = .ok (.getfield 62, 3)) (kk : W p l e R s m args below meth c H locs cells slots Q (F0 m (pc + 3) ls (.ref (a 21) :: rest))) : W p l e R s m args below meth c H locs cells slots Q (F0 m pc ls (.ref (a 0) :: rest)) := gx_get C hP (X := RX6) (T := TX6) (N := 33) 0 rfl rfl iX6 21 (by decide) k_424 rfl hdg kk
theorem fr_X6_65_0 (C : Cx RX6 cc D cI cZ p s m args c) (hP : va_P D vwCl (rW cI cZ a σ) H) (hdg : decode cc pc = .ok (.getfield 65, 3)) (kk : W p l e R s m args below meth c H locs cells slots Q (F0 m (pc + 3) ls (.ref (a 22) :: rest))) : W p l e R s m args below meth c H locs cells slots Q (F0 m pc ls (.ref (a 0) :: rest)) := gx_get C hP (X := RX6) (T := TX6) (N := 33) 0 rfl rfl iX6 22 (by decide) k_425 rfl hdg kk
theorem fr_X6_68_0 (C : Cx RX6 cc D cI cZ p s m args c) (hP : va_P D vwCl (rW cI cZ a σ) H) (hdg : decode cc pc = .ok (.getfield 68, 3)) (kk : W p l e R s m args below meth c H locs cells slots Q (F0 m (pc + 3) ls (.ref (a 24) :: rest))) : W p l e R s m args below meth c H locs cells slots Q (F0 m pc ls (.ref (a 0) :: rest)) := gx_get C hP (X := RX6) (T := TX6) (N := 33) 0 rfl rfl iX6 24 (by decide) k_427 rfl hdg kk
theorem fr_X6_71_0 (C : Cx RX6 cc D cI cZ p s m args c) (hP : va_P D vwCl (rW cI cZ a σ) H) (hdg : decode cc pc = .ok (.getfield 71, 3)) (kk : W p l e R s m args below meth c H locs cells slots Q (F0 m (pc + 3) ls (.ref (a 26) :: rest))) : W p l e R s m args below meth c H locs cells slots Q (F0 m pc ls (.ref (a 0) :: rest)) := gx_get C hP (X := RX6) (T := TX6) (N := 33) 0 rfl rfl iX6 26 (by decide) k_429 rfl hdg kk
theorem fr_X6_74_0 (C : Cx RX6 cc D cI cZ p s m args c) (hP : va_P D vwCl (rW cI cZ a σ) H) (hdg : decode cc pc = .ok (.getfield 74, 3)) (kk : W p l e R s m args below meth c H locs cells slots Q (F0 m (pc + 3) ls (.ref (a 27) :: rest))) : W p l e R s m args below meth c H locs cells slots Q (F0 m pc ls (.ref (a 0) :: rest)) := gx_get C hP (X := RX6) (T := TX6) (N := 33) 0 rfl rfl iX6 27 (by decide) k_430 rfl hdg kk
theorem fr_X6_77_0 (C : Cx RX6 cc D cI cZ p s m args c) (hP : va_P D vwCl (rW cI cZ a σ) H) (hdg : decode cc pc = .ok (.getfield 77, 3)) (kk : W p l e R s m args below meth c H locs cells slots Q (F0 m (pc + 3) ls (.ref (a 28) :: rest))) : W p l e R s m args below meth c H locs cells slots Q (F0 m pc ls (.ref (a 0) :: rest)) := gx_get C hP (X := RX6) (T := TX6) (N := 33) 0 rfl rfl iX6 28 (by decide) k_431 rfl hdg kk
theorem fr_X6_7_0 (C : Cx RX6 cc D cI cZ p s m args c) (hP : va_P D vwCl (rW cI cZ a σ) H) (hdg : decode cc pc = .ok (.getfield 7, 3)) (kk : W p l e R s m args below meth c H locs cells slots Q (F0 m (pc + 3) ls (.ref (a 1) :: rest))) : W p l e R s m args below meth c H locs cells slots Q (F0 m pc ls (.ref (a 0) :: rest)) := gx_get C hP (X := RX6) (T := TX6) (N := 33) 0 rfl rfl iX6 1 (by decide) k_404 rfl hdg kk
theorem fr_X6_80_0 (C : Cx RX6 cc D cI cZ p s m args c) (hP : va_P D vwCl (rW cI cZ a σ) H) (hdg : decode cc pc = .ok (.getfield 80, 3)) (kk : W p l e R s m args below meth c H locs cells slots Q (F0 m (pc + 3) ls (.ref (a 29) :: rest))) : W p l e R s m args below meth c H locs cells slots Q (F0 m pc ls (.ref (a 0) :: rest)) := gx_get C hP (X := RX6) (T := TX6) (N := 33) 0 rfl rfl iX6 29 (by decide) k_432 rfl hdg kk
theorem fr_X6_83_0 (C : Cx RX6 cc D cI cZ p s m args c) (hP : va_P D vwCl (rW cI cZ a σ) H) (hdg : decode cc pc = .ok (.getfield 83, 3)) (kk : W p l e R s m args below meth c H locs cells slots Q (F0 m (pc + 3) ls (.ref (a 30) :: rest))) : W p l e R s m args below meth c H locs cells slots Q (F0 m pc ls (.ref (a 0) :: rest)) := gx_get C hP (X := RX6) (T := TX6) (N := 33) 0 rfl rfl iX6 30 (by decide) k_433 rfl hdg kk
theorem fr_X6_86_0 (C : Cx RX6 cc D cI cZ p s m args c) (hP : va_P D vwCl (rW cI cZ a σ) H) (hdg : decode cc pc = .ok (.getfield 86, 3)) (kk : W p l e R s m args below meth c H locs cells slots Q (F0 m (pc + 3) ls (.ref (a 32) :: rest))) : W p l e R s m args below meth c H locs cells slots Q (F0 m pc ls (.ref (a 0) :: rest)) := gx_get C hP (X := RX6) (T := TX6) (N := 33) 0 rfl rfl iX6 32 (by decide) k_435 rfl hdg kk
theorem fr_X6_93_0 (C : Cx RX6 cc D cI cZ p s m args c) (hP : va_P D vwCl (rW cI cZ a σ) H) (hdg : decode cc pc = .ok (.getfield 93, 3)) (kk : W p l e R s m args below meth c H locs cells slots Q (F0 m (pc + 3) ls (.int (σ.2 6) :: rest))) : W p l e R s m args below meth c H locs cells slots Q (F0 m pc ls (.ref (a 0) :: rest)) := gx_get C hP (X := RX6) (T := TX6) (N := 33) 0 rfl rfl iX6 6 (by decide) k_409 rfl hdg kk
theorem fr_X6_97_0 (C : Cx RX6 cc D cI cZ p s m args c) (hP : va_P D vwCl (rW cI cZ a σ) H) (hdg : decode cc pc = .ok (.getfield 97, 3)) (kk : W p l e R s m args below meth c H locs cells slots Q (F0 m (pc + 3) ls (.int (σ.2 0) :: rest))) : W p l e R s m args below meth c H locs cells slots Q (F0 m pc ls (.ref (a 0) :: rest)) := gx_get C hP (X := RX6) (T := TX6) (N := 33) 0 rfl rfl iX6 0 (by decide) k_403 rfl hdg kk
theorem ldd_10 {i : Int32} (C : Cx own cc D cI cZ p s m args c) (hP : va_P D vwCl (dW cI cZ a σ) H) (hin : gi i 40) (hdg : decode cc pc = .ok (.iaload, 1)) (kk : W p l e R s m args below meth c H locs cells slots Q (F0 m (pc + 1) ls (.int (σ.1 10 i.toNatClampNeg) :: rest))) : W p l e R s m args below meth c H locs cells slots Q (F0 m pc ls (.int i :: .ref (a 10) :: rest)) := va_iald C.hx C.hb C.hK hP 10 0 rfl rfl hin hdg kk
theorem ldd_11 {i : Int32} (C : Cx own cc D cI cZ p s m args c) (hP : va_P D vwCl (dW cI cZ a σ) H) (hin : gi i 40) (hdg : decode cc pc = .ok (.iaload, 1)) (kk : W p l e R s m args below meth c H locs cells slots Q (F0 m (pc + 1) ls (.int (σ.1 11 i.toNatClampNeg) :: rest))) : W p l e R s m args below meth c H locs cells slots Q (F0 m pc ls (.int i :: .ref (a 11) :: rest)) := va_iald C.hx C.hb C.hK hP 11 0 rfl rfl hin hdg kk
theorem ldd_12 {i : Int32} (C : Cx own cc D cI cZ p s m args c) (hP : va_P D vwCl (dW cI cZ a σ) H) (hin : gi i 40) (hdg : decode cc pc = .ok (.iaload, 1)) (kk : W p l e R s m args below meth c H locs cells slots Q (F0 m (pc + 1) ls (.int (σ.1 12 i.toNatClampNeg) :: rest))) : W p l e R s m args below meth c H locs cells slots Q (F0 m pc ls (.int i :: .ref (a 12) :: rest)) := va_iald C.hx C.hb C.hK hP 12 0 rfl rfl hin hdg kk
theorem ldd_13 {i : Int32} (C : Cx own cc D cI cZ p s m args c) (hP : va_P D vwCl (dW cI cZ a σ) H) (hin : gi i 10) (hdg : decode cc pc = .ok (.iaload, 1)) (kk : W p l e R s m args below meth c H locs cells slots Q (F0 m (pc + 1) ls (.int (σ.1 13 i.toNatClampNeg) :: rest))) : W p l e R s m args below meth c H locs cells slots Q (F0 m pc ls (.int i :: .ref (a 13) :: rest)) := va_iald C.hx C.hb C.hK hP 13 0 rfl rfl hin hdg kk
theorem ldd_14 {i : Int32} (C : Cx own cc D cI cZ p s m args c) (hP : va_P D vwCl (dW cI cZ a σ) H) (hin : gi i 10) (hdg : decode cc pc = .ok (.baload, 1)) (kk : W p l e R s m args below meth c H locs cells slots Q (F0 m (pc + 1) ls (.int (σ.1 14 i.toNatClampNeg) :: rest))) : W p l e R s m args below meth c H locs cells slots Q (F0 m pc ls (.int i :: .ref (a 14) :: rest)) := va_zald C.hx C.hb C.hK hP 14 1 rfl rfl hin hdg kk
theorem ldd_15 {i : Int32} (C : Cx own cc D cI cZ p s m args c) (hP : va_P D vwCl (dW cI cZ a σ) H) (hin : gi i 10) (hdg : decode cc pc = .ok (.baload, 1)) (kk : W p l e R s m args below meth c H locs cells slots Q (F0 m (pc + 1) ls (.int (σ.1 15 i.toNatClampNeg) :: rest))) : W p l e R s m args below meth c H locs cells slots Q (F0 m pc ls (.int i :: .ref (a 15) :: rest)) := va_zald C.hx C.hb C.hK hP 15 1 rfl rfl hin hdg kk
theorem ldd_16 {i : Int32} (C : Cx own cc D cI cZ p s m args c) (hP : va_P D vwCl (dW cI cZ a σ) H) (hin : gi i 310) (hdg : decode cc pc = .ok (.iaload, 1)) (kk : W p l e R s m args below meth c H locs cells slots Q (F0 m (pc + 1) ls (.int (σ.1 16 i.toNatClampNeg) :: rest))) : W p l e R s m args below meth c H locs cells slots Q (F0 m pc ls (.int i :: .ref (a 16) :: rest)) := va_iald C.hx C.hb C.hK hP 16 0 rfl rfl hin hdg kk
theorem ldd_17 {i : Int32} (C : Cx own cc D cI cZ p s m args c) (hP : va_P D vwCl (dW cI cZ a σ) H) (hin : gi i 310) (hdg : decode cc pc = .ok (.iaload, 1)) (kk : W p l e R s m args below meth c H locs cells slots Q (F0 m (pc + 1) ls (.int (σ.1 17 i.toNatClampNeg) :: rest))) : W p l e R s m args below meth c H locs cells slots Q (F0 m pc ls (.int i :: .ref (a 17) :: rest)) := va_iald C.hx C.hb C.hK hP 17 0 rfl rfl hin hdg kk
theorem ldd_18 {i : Int32} (C : Cx own cc D cI cZ p s m args c) (hP : va_P D vwCl (dW cI cZ a σ) H) (hin : gi i 310) (hdg : decode cc pc = .ok (.iaload, 1)) (kk : W p l e R s m args below meth c H locs cells slots Q (F0 m (pc + 1) ls (.int (σ.1 18 i.toNatClampNeg) :: rest))) : W p l e R s m args below meth c H locs cells slots Q (F0 m pc ls (.int i :: .ref (a 18) :: rest)) := va_iald C.hx C.hb C.hK hP 18 0 rfl rfl hin hdg kk
theorem ldd_19 {i : Int32} (C : Cx own cc D cI cZ p s m args c) (hP : va_P D vwCl (dW cI cZ a σ) H) (hin : gi i 310) (hdg : decode cc pc = .ok (.baload, 1)) (kk : W p l e R s m args below meth c H locs cells slots Q (F0 m (pc + 1) ls (.int (σ.1 19 i.toNatClampNeg) :: rest))) : W p l e R s m args below meth c H locs cells slots Q (F0 m pc ls (.int i :: .ref (a 19) :: rest)) := va_zald C.hx C.hb C.hK hP 19 1 rfl rfl hin hdg kk
theorem ldd_20 {i : Int32} (C : Cx own cc D cI cZ p s m args c) (hP : va_P D vwCl (dW cI cZ a σ) H) (hin : gi i 822) (hdg : decode cc pc = .ok (.iaload, 1)) (kk : W p l e R s m args below meth c H locs cells slots Q (F0 m (pc + 1) ls (.int (σ.1 20 i.toNatClampNeg) :: rest))) : W p l e R s m args below meth c H locs cells slots Q (F0 m pc ls (.int i :: .ref (a 20) :: rest)) := va_iald C.hx C.hb C.hK hP 20 0 rfl rfl hin hdg kk
theorem ldd_21 {i : Int32} (C : Cx own cc D cI cZ p s m args c) (hP : va_P D vwCl (dW cI cZ a σ) H) (hin : gi i 822) (hdg : decode cc pc = .ok (.iaload, 1)) (kk : W p l e R s m args below meth c H locs cells slots Q (F0 m (pc + 1) ls (.int (σ.1 21 i.toNatClampNeg) :: rest))) : W p l e R s m args below meth c H locs cells slots Q (F0 m pc ls (.int i :: .ref (a 21) :: rest)) := va_iald C.hx C.hb C.hK hP 21 0 rfl rfl hin hdg kk
theorem ldd_22 {i : Int32} (C : Cx own cc D cI cZ p s m args c) (hP : va_P D vwCl (dW cI cZ a σ) H) (hin : gi i 822) (hdg : decode cc pc = .ok (.iaload, 1)) (kk : W p l e R s m args below meth c H locs cells slots Q (F0 m (pc + 1) ls (.int (σ.1 22 i.toNatClampNeg) :: rest))) : W p l e R s m args below meth c H locs cells slots Q (F0 m pc ls (.int i :: .ref (a 22) :: rest)) := va_iald C.hx C.hb C.hK hP 22 0 rfl rfl hin hdg kk
theorem ldd_23 {i : Int32} (C : Cx own cc D cI cZ p s m args c) (hP : va_P D vwCl (dW cI cZ a σ) H) (hin : gi i 822) (hdg : decode cc pc = .ok (.iaload, 1)) (kk : W p l e R s m args below meth c H locs cells slots Q (F0 m (pc + 1) ls (.int (σ.1 23 i.toNatClampNeg) :: rest))) : W p l e R s m args below meth c H locs cells slots Q (F0 m pc ls (.int i :: .ref (a 23) :: rest)) := va_iald C.hx C.hb C.hK hP 23 0 rfl rfl hin hdg kk
theorem ldd_24 {i : Int32} (C : Cx own cc D cI cZ p s m args c) (hP : va_P D vwCl (dW cI cZ a σ) H) (hin : gi i 822) (hdg : decode cc pc = .ok (.iaload, 1)) (kk : W p l e R s m args below meth c H locs cells slots Q (F0 m (pc + 1) ls (.int (σ.1 24 i.toNatClampNeg) :: rest))) : W p l e R s m args below meth c H locs cells slots Q (F0 m pc ls (.int i :: .ref (a 24) :: rest)) := va_iald C.hx C.hb C.hK hP 24 0 rfl rfl hin hdg kk
theorem ldd_25 {i : Int32} (C : Cx own cc D cI cZ p s m args c) (hP : va_P D vwCl (dW cI cZ a σ) H) (hin : gi i 60) (hdg : decode cc pc = .ok (.iaload, 1)) (kk : W p l e R s m args below meth c H locs cells slots Q (F0 m (pc + 1) ls (.int (σ.1 25 i.toNatClampNeg) :: rest))) : W p l e R s m args below meth c H locs cells slots Q (F0 m pc ls (.int i :: .ref (a 25) :: rest)) := va_iald C.hx C.hb C.hK hP 25 0 rfl rfl hin hdg kk
theorem ldd_26 {i : Int32} (C : Cx own cc D cI cZ p s m args c) (hP : va_P D vwCl (dW cI cZ a σ) H) (hin : gi i 60) (hdg : decode cc pc = .ok (.baload, 1)) (kk : W p l e R s m args below meth c H locs cells slots Q (F0 m (pc + 1) ls (.int (σ.1 26 i.toNatClampNeg) :: rest))) : W p l e R s m args below meth c H locs cells slots Q (F0 m pc ls (.int i :: .ref (a 26) :: rest)) := va_zald C.hx C.hb C.hK hP 26 1 rfl rfl hin hdg kk
theorem ldd_27 {i : Int32} (C : Cx own cc D cI cZ p s m args c) (hP : va_P D vwCl (dW cI cZ a σ) H) (hin : gi i 822) (hdg : decode cc pc = .ok (.iaload, 1)) (kk : W p l e R s m args below meth c H locs cells slots Q (F0 m (pc + 1) ls (.int (σ.1 27 i.toNatClampNeg) :: rest))) : W p l e R s m args below meth c H locs cells slots Q (F0 m pc ls (.int i :: .ref (a 27) :: rest)) := va_iald C.hx C.hb C.hK hP 27 0 rfl rfl hin hdg kk
theorem ldd_28 {i : Int32} (C : Cx own cc D cI cZ p s m args c) (hP : va_P D vwCl (dW cI cZ a σ) H) (hin : gi i 822) (hdg : decode cc pc = .ok (.iaload, 1)) (kk : W p l e R s m args below meth c H locs cells slots Q (F0 m (pc + 1) ls (.int (σ.1 28 i.toNatClampNeg) :: rest))) : W p l e R s m args below meth c H locs cells slots Q (F0 m pc ls (.int i :: .ref (a 28) :: rest)) := va_iald C.hx C.hb C.hK hP 28 0 rfl rfl hin hdg kk
theorem ldd_7 {i : Int32} (C : Cx own cc D cI cZ p s m args c) (hP : va_P D vwCl (dW cI cZ a σ) H) (hin : gi i 822) (hdg : decode cc pc = .ok (.baload, 1)) (kk : W p l e R s m args below meth c H locs cells slots Q (F0 m (pc + 1) ls (.int (σ.1 7 i.toNatClampNeg) :: rest))) : W p l e R s m args below meth c H locs cells slots Q (F0 m pc ls (.int i :: .ref (a 7) :: rest)) := va_zald C.hx C.hb C.hK hP 7 1 rfl rfl hin hdg kk
theorem ldd_8 {i : Int32} (C : Cx own cc D cI cZ p s m args c) (hP : va_P D vwCl (dW cI cZ a σ) H) (hin : gi i 40) (hdg : decode cc pc = .ok (.iaload, 1)) (kk : W p l e R s m args below meth c H locs cells slots Q (F0 m (pc + 1) ls (.int (σ.1 8 i.toNatClampNeg) :: rest))) : W p l e R s m args below meth c H locs cells slots Q (F0 m pc ls (.int i :: .ref (a 8) :: rest)) := va_iald C.hx C.hb C.hK hP 8 0 rfl rfl hin hdg kk
theorem ldd_9 {i : Int32} (C : Cx own cc D cI cZ p s m args c) (hP : va_P D vwCl (dW cI cZ a σ) H) (hin : gi i 40) (hdg : decode cc pc = .ok (.iaload, 1)) (kk : W p l e R s m args below meth c H locs cells slots Q (F0 m (pc + 1) ls (.int (σ.1 9 i.toNatClampNeg) :: rest))) : W p l e R s m args below meth c H locs cells slots Q (F0 m pc ls (.int i :: .ref (a 9) :: rest)) := va_iald C.hx C.hb C.hK hP 9 0 rfl rfl hin hdg kk
theorem ldr_1 {i : Int32} (C : Cx own cc D cI cZ p s m args c) (hP : va_P D vwCl (rW cI cZ a σ) H) (hin : gi i 40) (hdg : decode cc pc = .ok (.iaload, 1)) (kk : W p l e R s m args below meth c H locs cells slots Q (F0 m (pc + 1) ls (.int (σ.1 1 i.toNatClampNeg) :: rest))) : W p l e R s m args below meth c H locs cells slots Q (F0 m pc ls (.int i :: .ref (a 1) :: rest)) := va_iald C.hx C.hb C.hK hP 1 0 rfl rfl hin hdg kk
theorem ldr_10 {i : Int32} (C : Cx own cc D cI cZ p s m args c) (hP : va_P D vwCl (rW cI cZ a σ) H) (hin : gi i 310) (hdg : decode cc pc = .ok (.iaload, 1)) (kk : W p l e R s m args below meth c H locs cells slots Q (F0 m (pc + 1) ls (.int (σ.1 10 i.toNatClampNeg) :: rest))) : W p l e R s m args below meth c H locs cells slots Q (F0 m pc ls (.int i :: .ref (a 10) :: rest)) := va_iald C.hx C.hb C.hK hP 9 0 rfl rfl hin hdg kk
theorem ldr_11 {i : Int32} (C : Cx own cc D cI cZ p s m args c) (hP : va_P D vwCl (rW cI cZ a σ) H) (hin : gi i 310) (hdg : decode cc pc = .ok (.iaload, 1)) (kk : W p l e R s m args below meth c H locs cells slots Q (F0 m (pc + 1) ls (.int (σ.1 11 i.toNatClampNeg) :: rest))) : W p l e R s m args below meth c H locs cells slots Q (F0 m pc ls (.int i :: .ref (a 11) :: rest)) := va_iald C.hx C.hb C.hK hP 10 0 rfl rfl hin hdg kk
theorem ldr_12 {i : Int32} (C : Cx own cc D cI cZ p s m args c) (hP : va_P D vwCl (rW cI cZ a σ) H) (hin : gi i 310) (hdg : decode cc pc = .ok (.iaload, 1)) (kk : W p l e R s m args below meth c H locs cells slots Q (F0 m (pc + 1) ls (.int (σ.1 12 i.toNatClampNeg) :: rest))) : W p l e R s m args below meth c H locs cells slots Q (F0 m pc ls (.int i :: .ref (a 12) :: rest)) := va_iald C.hx C.hb C.hK hP 11 0 rfl rfl hin hdg kk
theorem ldr_13 {i : Int32} (C : Cx own cc D cI cZ p s m args c) (hP : va_P D vwCl (rW cI cZ a σ) H) (hin : gi i 310) (hdg : decode cc pc = .ok (.baload, 1)) (kk : W p l e R s m args below meth c H locs cells slots Q (F0 m (pc + 1) ls (.int (σ.1 13 i.toNatClampNeg) :: rest))) : W p l e R s m args below meth c H locs cells slots Q (F0 m pc ls (.int i :: .ref (a 13) :: rest)) := va_zald C.hx C.hb C.hK hP 12 1 rfl rfl hin hdg kk
theorem ldr_15 {i : Int32} (C : Cx own cc D cI cZ p s m args c) (hP : va_P D vwCl (rW cI cZ a σ) H) (hin : gi i 1000) (hdg : decode cc pc = .ok (.iaload, 1)) (kk : W p l e R s m args below meth c H locs cells slots Q (F0 m (pc + 1) ls (.int (σ.1 15 i.toNatClampNeg) :: rest))) : W p l e R s m args below meth c H locs cells slots Q (F0 m pc ls (.int i :: .ref (a 15) :: rest)) := va_iald C.hx C.hb C.hK hP 13 0 rfl rfl hin hdg kk
theorem ldr_16 {i : Int32} (C : Cx own cc D cI cZ p s m args c) (hP : va_P D vwCl (rW cI cZ a σ) H) (hin : gi i 1000) (hdg : decode cc pc = .ok (.iaload, 1)) (kk : W p l e R s m args below meth c H locs cells slots Q (F0 m (pc + 1) ls (.int (σ.1 16 i.toNatClampNeg) :: rest))) : W p l e R s m args below meth c H locs cells slots Q (F0 m pc ls (.int i :: .ref (a 16) :: rest)) := va_iald C.hx C.hb C.hK hP 14 0 rfl rfl hin hdg kk
theorem ldr_17 {i : Int32} (C : Cx own cc D cI cZ p s m args c) (hP : va_P D vwCl (rW cI cZ a σ) H) (hin : gi i 1000) (hdg : decode cc pc = .ok (.iaload, 1)) (kk : W p l e R s m args below meth c H locs cells slots Q (F0 m (pc + 1) ls (.int (σ.1 17 i.toNatClampNeg) :: rest))) : W p l e R s m args below meth c H locs cells slots Q (F0 m pc ls (.int i :: .ref (a 17) :: rest)) := va_iald C.hx C.hb C.hK hP 15 0 rfl rfl hin hdg kk
theorem ldr_18 {i : Int32} (C : Cx own cc D cI cZ p s m args c) (hP : va_P D vwCl (rW cI cZ a σ) H) (hin : gi i 1000) (hdg : decode cc pc = .ok (.iaload, 1)) (kk : W p l e R s m args below meth c H locs cells slots Q (F0 m (pc + 1) ls (.int (σ.1 18 i.toNatClampNeg) :: rest))) : W p l e R s m args below meth c H locs cells slots Q (F0 m pc ls (.int i :: .ref (a 18) :: rest)) := va_iald C.hx C.hb C.hK hP 16 0 rfl rfl hin hdg kk
theorem ldr_19 {i : Int32} (C : Cx own cc D cI cZ p s m args c) (hP : va_P D vwCl (rW cI cZ a σ) H) (hin : gi i 1000) (hdg : decode cc pc = .ok (.iaload, 1)) (kk : W p l e R s m args below meth c H locs cells slots Q (F0 m (pc + 1) ls (.int (σ.1 19 i.toNatClampNeg) :: rest))) : W p l e R s m args below meth c H locs cells slots Q (F0 m pc ls (.int i :: .ref (a 19) :: rest)) := va_iald C.hx C.hb C.hK hP 17 0 rfl rfl hin hdg kk
theorem ldr_2 {i : Int32} (C : Cx own cc D cI cZ p s m args c) (hP : va_P D vwCl (rW cI cZ a σ) H) (hin : gi i 40) (hdg : decode cc pc = .ok (.iaload, 1)) (kk : W p l e R s m args below meth c H locs cells slots Q (F0 m (pc + 1) ls (.int (σ.1 2 i.toNatClampNeg) :: rest))) : W p l e R s m args below meth c H locs cells slots Q (F0 m pc ls (.int i :: .ref (a 2) :: rest)) := va_iald C.hx C.hb C.hK hP 2 0 rfl rfl hin hdg kk
theorem ldr_21 {i : Int32} (C : Cx own cc D cI cZ p s m args c) (hP : va_P D vwCl (rW cI cZ a σ) H) (hin : gi i 60) (hdg : decode cc pc = .ok (.iaload, 1)) (kk : W p l e R s m args below meth c H locs cells slots Q (F0 m (pc + 1) ls (.int (σ.1 21 i.toNatClampNeg) :: rest))) : W p l e R s m args below meth c H locs cells slots Q (F0 m pc ls (.int i :: .ref (a 21) :: rest)) := va_iald C.hx C.hb C.hK hP 18 0 rfl rfl hin hdg kk
theorem ldr_22 {i : Int32} (C : Cx own cc D cI cZ p s m args c) (hP : va_P D vwCl (rW cI cZ a σ) H) (hin : gi i 60) (hdg : decode cc pc = .ok (.baload, 1)) (kk : W p l e R s m args below meth c H locs cells slots Q (F0 m (pc + 1) ls (.int (σ.1 22 i.toNatClampNeg) :: rest))) : W p l e R s m args below meth c H locs cells slots Q (F0 m pc ls (.int i :: .ref (a 22) :: rest)) := va_zald C.hx C.hb C.hK hP 19 1 rfl rfl hin hdg kk
theorem ldr_24 {i : Int32} (C : Cx own cc D cI cZ p s m args c) (hP : va_P D vwCl (rW cI cZ a σ) H) (hin : gi i 1000) (hdg : decode cc pc = .ok (.iaload, 1)) (kk : W p l e R s m args below meth c H locs cells slots Q (F0 m (pc + 1) ls (.int (σ.1 24 i.toNatClampNeg) :: rest))) : W p l e R s m args below meth c H locs cells slots Q (F0 m pc ls (.int i :: .ref (a 24) :: rest)) := va_iald C.hx C.hb C.hK hP 20 0 rfl rfl hin hdg kk
theorem ldr_26 {i : Int32} (C : Cx own cc D cI cZ p s m args c) (hP : va_P D vwCl (rW cI cZ a σ) H) (hin : gi i 1300) (hdg : decode cc pc = .ok (.iaload, 1)) (kk : W p l e R s m args below meth c H locs cells slots Q (F0 m (pc + 1) ls (.int (σ.1 26 i.toNatClampNeg) :: rest))) : W p l e R s m args below meth c H locs cells slots Q (F0 m pc ls (.int i :: .ref (a 26) :: rest)) := va_iald C.hx C.hb C.hK hP 21 0 rfl rfl hin hdg kk
theorem ldr_27 {i : Int32} (C : Cx own cc D cI cZ p s m args c) (hP : va_P D vwCl (rW cI cZ a σ) H) (hin : gi i 1300) (hdg : decode cc pc = .ok (.iaload, 1)) (kk : W p l e R s m args below meth c H locs cells slots Q (F0 m (pc + 1) ls (.int (σ.1 27 i.toNatClampNeg) :: rest))) : W p l e R s m args below meth c H locs cells slots Q (F0 m pc ls (.int i :: .ref (a 27) :: rest)) := va_iald C.hx C.hb C.hK hP 22 0 rfl rfl hin hdg kk
theorem ldr_28 {i : Int32} (C : Cx own cc D cI cZ p s m args c) (hP : va_P D vwCl (rW cI cZ a σ) H) (hin : gi i 1300) (hdg : decode cc pc = .ok (.iaload, 1)) (kk : W p l e R s m args below meth c H locs cells slots Q (F0 m (pc + 1) ls (.int (σ.1 28 i.toNatClampNeg) :: rest))) : W p l e R s m args below meth c H locs cells slots Q (F0 m pc ls (.int i :: .ref (a 28) :: rest)) := va_iald C.hx C.hb C.hK hP 23 0 rfl rfl hin hdg kk
theorem ldr_29 {i : Int32} (C : Cx own cc D cI cZ p s m args c) (hP : va_P D vwCl (rW cI cZ a σ) H) (hin : gi i 1300) (hdg : decode cc pc = .ok (.iaload, 1)) (kk : W p l e R s m args below meth c H locs cells slots Q (F0 m (pc + 1) ls (.int (σ.1 29 i.toNatClampNeg) :: rest))) : W p l e R s m args below meth c H locs cells slots Q (F0 m pc ls (.int i :: .ref (a 29) :: rest)) := va_iald C.hx C.hb C.hK hP 24 0 rfl rfl hin hdg kk
theorem ldr_3 {i : Int32} (C : Cx own cc D cI cZ p s m args c) (hP : va_P D vwCl (rW cI cZ a σ) H) (hin : gi i 40) (hdg : decode cc pc = .ok (.iaload, 1)) (kk : W p l e R s m args below meth c H locs cells slots Q (F0 m (pc + 1) ls (.int (σ.1 3 i.toNatClampNeg) :: rest))) : W p l e R s m args below meth c H locs cells slots Q (F0 m pc ls (.int i :: .ref (a 3) :: rest)) := va_iald C.hx C.hb C.hK hP 3 0 rfl rfl hin hdg kk
theorem ldr_30 {i : Int32} (C : Cx own cc D cI cZ p s m args c) (hP : va_P D vwCl (rW cI cZ a σ) H) (hin : gi i 1300) (hdg : decode cc pc = .ok (.baload, 1)) (kk : W p l e R s m args below meth c H locs cells slots Q (F0 m (pc + 1) ls (.int (σ.1 30 i.toNatClampNeg) :: rest))) : W p l e R s m args below meth c H locs cells slots Q (F0 m pc ls (.int i :: .ref (a 30) :: rest)) := va_zald C.hx C.hb C.hK hP 25 1 rfl rfl hin hdg kk
theorem ldr_32 {i : Int32} (C : Cx own cc D cI cZ p s m args c) (hP : va_P D vwCl (rW cI cZ a σ) H) (hin : gi i 1000) (hdg : decode cc pc = .ok (.baload, 1)) (kk : W p l e R s m args below meth c H locs cells slots Q (F0 m (pc + 1) ls (.int (σ.1 32 i.toNatClampNeg) :: rest))) : W p l e R s m args below meth c H locs cells slots Q (F0 m pc ls (.int i :: .ref (a 32) :: rest)) := va_zald C.hx C.hb C.hK hP 26 1 rfl rfl hin hdg kk
theorem ldr_4 {i : Int32} (C : Cx own cc D cI cZ p s m args c) (hP : va_P D vwCl (rW cI cZ a σ) H) (hin : gi i 40) (hdg : decode cc pc = .ok (.iaload, 1)) (kk : W p l e R s m args below meth c H locs cells slots Q (F0 m (pc + 1) ls (.int (σ.1 4 i.toNatClampNeg) :: rest))) : W p l e R s m args below meth c H locs cells slots Q (F0 m pc ls (.int i :: .ref (a 4) :: rest)) := va_iald C.hx C.hb C.hK hP 4 0 rfl rfl hin hdg kk
theorem ldr_5 {i : Int32} (C : Cx own cc D cI cZ p s m args c) (hP : va_P D vwCl (rW cI cZ a σ) H) (hin : gi i 40) (hdg : decode cc pc = .ok (.iaload, 1)) (kk : W p l e R s m args below meth c H locs cells slots Q (F0 m (pc + 1) ls (.int (σ.1 5 i.toNatClampNeg) :: rest))) : W p l e R s m args below meth c H locs cells slots Q (F0 m pc ls (.int i :: .ref (a 5) :: rest)) := va_iald C.hx C.hb C.hK hP 5 0 rfl rfl hin hdg kk
theorem ldr_7 {i : Int32} (C : Cx own cc D cI cZ p s m args c) (hP : va_P D vwCl (rW cI cZ a σ) H) (hin : gi i 10) (hdg : decode cc pc = .ok (.iaload, 1)) (kk : W p l e R s m args below meth c H locs cells slots Q (F0 m (pc + 1) ls (.int (σ.1 7 i.toNatClampNeg) :: rest))) : W p l e R s m args below meth c H locs cells slots Q (F0 m pc ls (.int i :: .ref (a 7) :: rest)) := va_iald C.hx C.hb C.hK hP 6 0 rfl rfl hin hdg kk
theorem ldr_8 {i : Int32} (C : Cx own cc D cI cZ p s m args c) (hP : va_P D vwCl (rW cI cZ a σ) H) (hin : gi i 10) (hdg : decode cc pc = .ok (.baload, 1)) (kk : W p l e R s m args below meth c H locs cells slots Q (F0 m (pc + 1) ls (.int (σ.1 8 i.toNatClampNeg) :: rest))) : W p l e R s m args below meth c H locs cells slots Q (F0 m pc ls (.int i :: .ref (a 8) :: rest)) := va_zald C.hx C.hb C.hK hP 7 1 rfl rfl hin hdg kk
theorem ldr_9 {i : Int32} (C : Cx own cc D cI cZ p s m args c) (hP : va_P D vwCl (rW cI cZ a σ) H) (hin : gi i 10) (hdg : decode cc pc = .ok (.baload, 1)) (kk : W p l e R s m args below meth c H locs cells slots Q (F0 m (pc + 1) ls (.int (σ.1 9 i.toNatClampNeg) :: rest))) : W p l e R s m args below meth c H locs cells slots Q (F0 m pc ls (.int i :: .ref (a 9) :: rest)) := va_zald C.hx C.hb C.hK hP 8 1 rfl rfl hin hdg kk
theorem pd_X0_27_1 {x : Int32} (C : Cx RX0 cc D cI cZ p s m args c) (hD : ∀ σ, va_D (dAd a) (dW cI cZ a σ)) (hP : va_P D vwCl (dW cI cZ a σ) H) (hS : va_S (dAd a) H0 H locs) (hdg : decode cc pc = .ok (.putfield 27, 3)) (kk : ∀ (H1 : Heap) (locs1 : List Loc), va_P D vwCl (dW cI cZ a (sZ σ 0 x)) H1 → va_S (dAd a) H0 H1 locs1 → W p l e R s m args below meth c H1 locs1 cells slots Q (F0 m (pc + 3) ls rest)) : W p l e R s m args below meth c H locs cells slots Q (F0 m pc ls (.int x :: .ref (a 1) :: rest)) := gx_put C hP (hD σ) hS (X := RX0) (T := TX0) (N := 6) 1 rfl rfl iX0 tyX0 tyX0_ok nmX0 5 (by decide) k_60 rfl (by decide +kernel) (by show 5 < 6; decide) hdg (fun H1 locs1 h1 h3 => kk H1 locs1 h1 h3)
theorem pd_X1_34_2 {x : Int32} (C : Cx RX1 cc D cI cZ p s m args c) (hD : ∀ σ, va_D (dAd a) (dW cI cZ a σ)) (hP : va_P D vwCl (dW cI cZ a σ) H) (hS : va_S (dAd a) H0 H locs) (hdg : decode cc pc = .ok (.putfield 34, 3)) (kk : ∀ (H1 : Heap) (locs1 : List Loc), va_P D vwCl (dW cI cZ a (sZ σ 1 x)) H1 → va_S (dAd a) H0 H1 locs1 → W p l e R s m args below meth c H1 locs1 cells slots Q (F0 m (pc + 3) ls rest)) : W p l e R s m args below meth c H locs cells slots Q (F0 m pc ls (.int x :: .ref (a 2) :: rest)) := gx_put C hP (hD σ) hS (X := RX1) (T := TX1) (N := 8) 2 rfl rfl iX1 tyX1 tyX1_ok nmX1 7 (by decide) k_99 rfl (by decide +kernel) (by show 7 < 8; decide) hdg (fun H1 locs1 h1 h3 => kk H1 locs1 h1 h3)
theorem pd_X2_27_3 {x : Int32} (C : Cx RX2 cc D cI cZ p s m args c) (hD : ∀ σ, va_D (dAd a) (dW cI cZ a σ)) (hP : va_P D vwCl (dW cI cZ a σ) H) (hS : va_S (dAd a) H0 H locs) (hdg : decode cc pc = .ok (.putfield 27, 3)) (kk : ∀ (H1 : Heap) (locs1 : List Loc), va_P D vwCl (dW cI cZ a (sZ σ 2 x)) H1 → va_S (dAd a) H0 H1 locs1 → W p l e R s m args below meth c H1 locs1 cells slots Q (F0 m (pc + 3) ls rest)) : W p l e R s m args below meth c H locs cells slots Q (F0 m pc ls (.int x :: .ref (a 3) :: rest)) := gx_put C hP (hD σ) hS (X := RX2) (T := TX2) (N := 6) 3 rfl rfl iX2 tyX2 tyX2_ok nmX2 5 (by decide) k_135 rfl (by decide +kernel) (by show 5 < 6; decide) hdg (fun H1 locs1 h1 h3 => kk H1 locs1 h1 h3)
theorem pd_X3_15_5 {x : Int32} (C : Cx RX3 cc D cI cZ p s m args c) (hD : ∀ σ, va_D (dAd a) (dW cI cZ a σ)) (hP : va_P D vwCl (dW cI cZ a σ) H) (hS : va_S (dAd a) H0 H locs) (hdg : decode cc pc = .ok (.putfield 15, 3)) (kk : ∀ (H1 : Heap) (locs1 : List Loc), va_P D vwCl (dW cI cZ a (sZ σ 4 x)) H1 → va_S (dAd a) H0 H1 locs1 → W p l e R s m args below meth c H1 locs1 cells slots Q (F0 m (pc + 3) ls rest)) : W p l e R s m args below meth c H locs cells slots Q (F0 m pc ls (.int x :: .ref (a 5) :: rest)) := gx_put C hP (hD σ) hS (X := RX3) (T := TX3) (N := 2) 5 rfl rfl iX3 tyX3 tyX3_ok nmX3 1 (by decide) k_177 rfl (by decide +kernel) (by show 1 < 2; decide) hdg (fun H1 locs1 h1 h3 => kk H1 locs1 h1 h3)
theorem pd_X3_15_6 {x : Int32} (C : Cx RX3 cc D cI cZ p s m args c) (hD : ∀ σ, va_D (dAd a) (dW cI cZ a σ)) (hP : va_P D vwCl (dW cI cZ a σ) H) (hS : va_S (dAd a) H0 H locs) (hdg : decode cc pc = .ok (.putfield 15, 3)) (kk : ∀ (H1 : Heap) (locs1 : List Loc), va_P D vwCl (dW cI cZ a (sZ σ 5 x)) H1 → va_S (dAd a) H0 H1 locs1 → W p l e R s m args below meth c H1 locs1 cells slots Q (F0 m (pc + 3) ls rest)) : W p l e R s m args below meth c H locs cells slots Q (F0 m pc ls (.int x :: .ref (a 6) :: rest)) := gx_put C hP (hD σ) hS (X := RX3) (T := TX3) (N := 2) 6 rfl rfl iX3 tyX3 tyX3_ok nmX3 1 (by decide) k_177 rfl (by decide +kernel) (by show 1 < 2; decide) hdg (fun H1 locs1 h1 h3 => kk H1 locs1 h1 h3)
theorem pd_X4_19_4 {x : Int32} (C : Cx RX4 cc D cI cZ p s m args c) (hD : ∀ σ, va_D (dAd a) (dW cI cZ a σ)) (hP : va_P D vwCl (dW cI cZ a σ) H) (hS : va_S (dAd a) H0 H locs) (hdg : decode cc pc = .ok (.putfield 19, 3)) (kk : ∀ (H1 : Heap) (locs1 : List Loc), va_P D vwCl (dW cI cZ a (sZ σ 3 x)) H1 → va_S (dAd a) H0 H1 locs1 → W p l e R s m args below meth c H1 locs1 cells slots Q (F0 m (pc + 3) ls rest)) : W p l e R s m args below meth c H locs cells slots Q (F0 m pc ls (.int x :: .ref (a 4) :: rest)) := gx_put C hP (hD σ) hS (X := RX4) (T := TX4) (N := 3) 4 rfl rfl iX4 tyX4 tyX4_ok nmX4 2 (by decide) k_160 rfl (by decide +kernel) (by show 2 < 3; decide) hdg (fun H1 locs1 h1 h3 => kk H1 locs1 h1 h3)
theorem pd_X5_147_6 {x : Int32} (C : Cx RX5 cc D cI cZ p s m args c) (hD : ∀ σ, va_D (dAd a) (dW cI cZ a σ)) (hP : va_P D vwCl (dW cI cZ a σ) H) (hS : va_S (dAd a) H0 H locs) (hdg : decode cc pc = .ok (.putfield 147, 3)) (kk : ∀ (H1 : Heap) (locs1 : List Loc), va_P D vwCl (dW cI cZ a (sZ σ 5 x)) H1 → va_S (dAd a) H0 H1 locs1 → W p l e R s m args below meth c H1 locs1 cells slots Q (F0 m (pc + 3) ls rest)) : W p l e R s m args below meth c H locs cells slots Q (F0 m pc ls (.int x :: .ref (a 6) :: rest)) := gx_put C hP (hD σ) hS (X := RX3) (T := TX3) (N := 2) 6 rfl rfl iX3 tyX3 tyX3_ok nmX3 1 (by decide) k_178 rfl (by decide +kernel) (by show 1 < 2; decide) hdg (fun H1 locs1 h1 h3 => kk H1 locs1 h1 h3)
theorem pr_X6_100_0 {x : Int32} (C : Cx RX6 cc D cI cZ p s m args c) (hD : ∀ σ, va_D (rAd a) (rW cI cZ a σ)) (hP : va_P D vwCl (rW cI cZ a σ) H) (hS : va_S (rAd a) H0 H locs) (hdg : decode cc pc = .ok (.putfield 100, 3)) (kk : ∀ (H1 : Heap) (locs1 : List Loc), va_P D vwCl (rW cI cZ a (sZ σ 14 x)) H1 → va_S (rAd a) H0 H1 locs1 → W p l e R s m args below meth c H1 locs1 cells slots Q (F0 m (pc + 3) ls rest)) : W p l e R s m args below meth c H locs cells slots Q (F0 m pc ls (.int x :: .ref (a 0) :: rest)) := gx_put C hP (hD σ) hS (X := RX6) (T := TX6) (N := 33) 0 rfl rfl iX6 tyX6 tyX6_ok nmX6 14 (by decide) k_417 rfl (by decide +kernel) (by show 14 < 33; decide) hdg (fun H1 locs1 h1 h3 => kk H1 locs1 h1 h3)
theorem pr_X6_103_0 {x : Int32} (C : Cx RX6 cc D cI cZ p s m args c) (hD : ∀ σ, va_D (rAd a) (rW cI cZ a σ)) (hP : va_P D vwCl (rW cI cZ a σ) H) (hS : va_S (rAd a) H0 H locs) (hdg : decode cc pc = .ok (.putfield 103, 3)) (kk : ∀ (H1 : Heap) (locs1 : List Loc), va_P D vwCl (rW cI cZ a (sZ σ 20 x)) H1 → va_S (rAd a) H0 H1 locs1 → W p l e R s m args below meth c H1 locs1 cells slots Q (F0 m (pc + 3) ls rest)) : W p l e R s m args below meth c H locs cells slots Q (F0 m pc ls (.int x :: .ref (a 0) :: rest)) := gx_put C hP (hD σ) hS (X := RX6) (T := TX6) (N := 33) 0 rfl rfl iX6 tyX6 tyX6_ok nmX6 20 (by decide) k_423 rfl (by decide +kernel) (by show 20 < 33; decide) hdg (fun H1 locs1 h1 h3 => kk H1 locs1 h1 h3)
theorem pr_X6_116_0 {x : Int32} (C : Cx RX6 cc D cI cZ p s m args c) (hD : ∀ σ, va_D (rAd a) (rW cI cZ a σ)) (hP : va_P D vwCl (rW cI cZ a σ) H) (hS : va_S (rAd a) H0 H locs) (hdg : decode cc pc = .ok (.putfield 116, 3)) (kk : ∀ (H1 : Heap) (locs1 : List Loc), va_P D vwCl (rW cI cZ a (sZ σ 25 x)) H1 → va_S (rAd a) H0 H1 locs1 → W p l e R s m args below meth c H1 locs1 cells slots Q (F0 m (pc + 3) ls rest)) : W p l e R s m args below meth c H locs cells slots Q (F0 m pc ls (.int x :: .ref (a 0) :: rest)) := gx_put C hP (hD σ) hS (X := RX6) (T := TX6) (N := 33) 0 rfl rfl iX6 tyX6 tyX6_ok nmX6 25 (by decide) k_428 rfl (by decide +kernel) (by show 25 < 33; decide) hdg (fun H1 locs1 h1 h3 => kk H1 locs1 h1 h3)
theorem pr_X6_119_0 {x : Int32} (C : Cx RX6 cc D cI cZ p s m args c) (hD : ∀ σ, va_D (rAd a) (rW cI cZ a σ)) (hP : va_P D vwCl (rW cI cZ a σ) H) (hS : va_S (rAd a) H0 H locs) (hdg : decode cc pc = .ok (.putfield 119, 3)) (kk : ∀ (H1 : Heap) (locs1 : List Loc), va_P D vwCl (rW cI cZ a (sZ σ 31 x)) H1 → va_S (rAd a) H0 H1 locs1 → W p l e R s m args below meth c H1 locs1 cells slots Q (F0 m (pc + 3) ls rest)) : W p l e R s m args below meth c H locs cells slots Q (F0 m pc ls (.int x :: .ref (a 0) :: rest)) := gx_put C hP (hD σ) hS (X := RX6) (T := TX6) (N := 33) 0 rfl rfl iX6 tyX6 tyX6_ok nmX6 31 (by decide) k_434 rfl (by decide +kernel) (by show 31 < 33; decide) hdg (fun H1 locs1 h1 h3 => kk H1 locs1 h1 h3)
theorem pr_X6_154_0 {x : Int32} (C : Cx RX6 cc D cI cZ p s m args c) (hD : ∀ σ, va_D (rAd a) (rW cI cZ a σ)) (hP : va_P D vwCl (rW cI cZ a σ) H) (hS : va_S (rAd a) H0 H locs) (hdg : decode cc pc = .ok (.putfield 154, 3)) (kk : ∀ (H1 : Heap) (locs1 : List Loc), va_P D vwCl (rW cI cZ a (sZ σ 23 x)) H1 → va_S (rAd a) H0 H1 locs1 → W p l e R s m args below meth c H1 locs1 cells slots Q (F0 m (pc + 3) ls rest)) : W p l e R s m args below meth c H locs cells slots Q (F0 m pc ls (.int x :: .ref (a 0) :: rest)) := gx_put C hP (hD σ) hS (X := RX6) (T := TX6) (N := 33) 0 rfl rfl iX6 tyX6 tyX6_ok nmX6 23 (by decide) k_426 rfl (by decide +kernel) (by show 23 < 33; decide) hdg (fun H1 locs1 h1 h3 => kk H1 locs1 h1 h3)
theorem pr_X6_93_0 {x : Int32} (C : Cx RX6 cc D cI cZ p s m args c) (hD : ∀ σ, va_D (rAd a) (rW cI cZ a σ)) (hP : va_P D vwCl (rW cI cZ a σ) H) (hS : va_S (rAd a) H0 H locs) (hdg : decode cc pc = .ok (.putfield 93, 3)) (kk : ∀ (H1 : Heap) (locs1 : List Loc), va_P D vwCl (rW cI cZ a (sZ σ 6 x)) H1 → va_S (rAd a) H0 H1 locs1 → W p l e R s m args below meth c H1 locs1 cells slots Q (F0 m (pc + 3) ls rest)) : W p l e R s m args below meth c H locs cells slots Q (F0 m pc ls (.int x :: .ref (a 0) :: rest)) := gx_put C hP (hD σ) hS (X := RX6) (T := TX6) (N := 33) 0 rfl rfl iX6 tyX6 tyX6_ok nmX6 6 (by decide) k_409 rfl (by decide +kernel) (by show 6 < 33; decide) hdg (fun H1 locs1 h1 h3 => kk H1 locs1 h1 h3)
theorem pr_X6_97_0 {x : Int32} (C : Cx RX6 cc D cI cZ p s m args c) (hD : ∀ σ, va_D (rAd a) (rW cI cZ a σ)) (hP : va_P D vwCl (rW cI cZ a σ) H) (hS : va_S (rAd a) H0 H locs) (hdg : decode cc pc = .ok (.putfield 97, 3)) (kk : ∀ (H1 : Heap) (locs1 : List Loc), va_P D vwCl (rW cI cZ a (sZ σ 0 x)) H1 → va_S (rAd a) H0 H1 locs1 → W p l e R s m args below meth c H1 locs1 cells slots Q (F0 m (pc + 3) ls rest)) : W p l e R s m args below meth c H locs cells slots Q (F0 m pc ls (.int x :: .ref (a 0) :: rest)) := gx_put C hP (hD σ) hS (X := RX6) (T := TX6) (N := 33) 0 rfl rfl iX6 tyX6 tyX6_ok nmX6 0 (by decide) k_403 rfl (by decide +kernel) (by show 0 < 33; decide) hdg (fun H1 locs1 h1 h3 => kk H1 locs1 h1 h3)
theorem std_10 {i x : Int32} (C : Cx own cc D cI cZ p s m args c) (hD : ∀ σ, va_D (dAd a) (dW cI cZ a σ)) (hP : va_P D vwCl (dW cI cZ a σ) H) (hS : va_S (dAd a) H0 H locs) (hin : gi i 40) (hdg : decode cc pc = .ok (.iastore, 1)) (kk : ∀ (H1 : Heap) (locs1 : List Loc), va_P D vwCl (dW cI cZ a (sA σ 10 i.toNatClampNeg x)) H1 → va_S (dAd a) H0 H1 locs1 → W p l e R s m args below meth c H1 locs1 cells slots Q (F0 m (pc + 1) ls rest)) : W p l e R s m args below meth c H locs cells slots Q (F0 m pc ls (.int x :: .int i :: .ref (a 10) :: rest)) := va_iast C.hx C.hb C.hK hP (hD σ) hS 10 0 rfl rfl hin hdg (fun H1 locs1 h1 _ h3 => kk H1 locs1 h1 h3)
theorem std_11 {i x : Int32} (C : Cx own cc D cI cZ p s m args c) (hD : ∀ σ, va_D (dAd a) (dW cI cZ a σ)) (hP : va_P D vwCl (dW cI cZ a σ) H) (hS : va_S (dAd a) H0 H locs) (hin : gi i 40) (hdg : decode cc pc = .ok (.iastore, 1)) (kk : ∀ (H1 : Heap) (locs1 : List Loc), va_P D vwCl (dW cI cZ a (sA σ 11 i.toNatClampNeg x)) H1 → va_S (dAd a) H0 H1 locs1 → W p l e R s m args below meth c H1 locs1 cells slots Q (F0 m (pc + 1) ls rest)) : W p l e R s m args below meth c H locs cells slots Q (F0 m pc ls (.int x :: .int i :: .ref (a 11) :: rest)) := va_iast C.hx C.hb C.hK hP (hD σ) hS 11 0 rfl rfl hin hdg (fun H1 locs1 h1 _ h3 => kk H1 locs1 h1 h3)
theorem std_12 {i x : Int32} (C : Cx own cc D cI cZ p s m args c) (hD : ∀ σ, va_D (dAd a) (dW cI cZ a σ)) (hP : va_P D vwCl (dW cI cZ a σ) H) (hS : va_S (dAd a) H0 H locs) (hin : gi i 40) (hdg : decode cc pc = .ok (.iastore, 1)) (kk : ∀ (H1 : Heap) (locs1 : List Loc), va_P D vwCl (dW cI cZ a (sA σ 12 i.toNatClampNeg x)) H1 → va_S (dAd a) H0 H1 locs1 → W p l e R s m args below meth c H1 locs1 cells slots Q (F0 m (pc + 1) ls rest)) : W p l e R s m args below meth c H locs cells slots Q (F0 m pc ls (.int x :: .int i :: .ref (a 12) :: rest)) := va_iast C.hx C.hb C.hK hP (hD σ) hS 12 0 rfl rfl hin hdg (fun H1 locs1 h1 _ h3 => kk H1 locs1 h1 h3)
theorem std_13 {i x : Int32} (C : Cx own cc D cI cZ p s m args c) (hD : ∀ σ, va_D (dAd a) (dW cI cZ a σ)) (hP : va_P D vwCl (dW cI cZ a σ) H) (hS : va_S (dAd a) H0 H locs) (hin : gi i 10) (hdg : decode cc pc = .ok (.iastore, 1)) (kk : ∀ (H1 : Heap) (locs1 : List Loc), va_P D vwCl (dW cI cZ a (sA σ 13 i.toNatClampNeg x)) H1 → va_S (dAd a) H0 H1 locs1 → W p l e R s m args below meth c H1 locs1 cells slots Q (F0 m (pc + 1) ls rest)) : W p l e R s m args below meth c H locs cells slots Q (F0 m pc ls (.int x :: .int i :: .ref (a 13) :: rest)) := va_iast C.hx C.hb C.hK hP (hD σ) hS 13 0 rfl rfl hin hdg (fun H1 locs1 h1 _ h3 => kk H1 locs1 h1 h3)
theorem std_14 {i x : Int32} (C : Cx own cc D cI cZ p s m args c) (hD : ∀ σ, va_D (dAd a) (dW cI cZ a σ)) (hP : va_P D vwCl (dW cI cZ a σ) H) (hS : va_S (dAd a) H0 H locs) (hin : gi i 10) (hdg : decode cc pc = .ok (.bastore, 1)) (kk : ∀ (H1 : Heap) (locs1 : List Loc), va_P D vwCl (dW cI cZ a (sA σ 14 i.toNatClampNeg (vp_nar .boolean x))) H1 → va_S (dAd a) H0 H1 locs1 → W p l e R s m args below meth c H1 locs1 cells slots Q (F0 m (pc + 1) ls rest)) : W p l e R s m args below meth c H locs cells slots Q (F0 m pc ls (.int x :: .int i :: .ref (a 14) :: rest)) := va_zast C.hx C.hb C.hK hP (hD σ) hS 14 1 rfl rfl hin hdg (fun H1 locs1 h1 _ h3 => kk H1 locs1 h1 h3)
theorem std_15 {i x : Int32} (C : Cx own cc D cI cZ p s m args c) (hD : ∀ σ, va_D (dAd a) (dW cI cZ a σ)) (hP : va_P D vwCl (dW cI cZ a σ) H) (hS : va_S (dAd a) H0 H locs) (hin : gi i 10) (hdg : decode cc pc = .ok (.bastore, 1)) (kk : ∀ (H1 : Heap) (locs1 : List Loc), va_P D vwCl (dW cI cZ a (sA σ 15 i.toNatClampNeg (vp_nar .boolean x))) H1 → va_S (dAd a) H0 H1 locs1 → W p l e R s m args below meth c H1 locs1 cells slots Q (F0 m (pc + 1) ls rest)) : W p l e R s m args below meth c H locs cells slots Q (F0 m pc ls (.int x :: .int i :: .ref (a 15) :: rest)) := va_zast C.hx C.hb C.hK hP (hD σ) hS 15 1 rfl rfl hin hdg (fun H1 locs1 h1 _ h3 => kk H1 locs1 h1 h3)
theorem std_16 {i x : Int32} (C : Cx own cc D cI cZ p s m args c) (hD : ∀ σ, va_D (dAd a) (dW cI cZ a σ)) (hP : va_P D vwCl (dW cI cZ a σ) H) (hS : va_S (dAd a) H0 H locs) (hin : gi i 310) (hdg : decode cc pc = .ok (.iastore, 1)) (kk : ∀ (H1 : Heap) (locs1 : List Loc), va_P D vwCl (dW cI cZ a (sA σ 16 i.toNatClampNeg x)) H1 → va_S (dAd a) H0 H1 locs1 → W p l e R s m args below meth c H1 locs1 cells slots Q (F0 m (pc + 1) ls rest)) : W p l e R s m args below meth c H locs cells slots Q (F0 m pc ls (.int x :: .int i :: .ref (a 16) :: rest)) := va_iast C.hx C.hb C.hK hP (hD σ) hS 16 0 rfl rfl hin hdg (fun H1 locs1 h1 _ h3 => kk H1 locs1 h1 h3)
theorem std_17 {i x : Int32} (C : Cx own cc D cI cZ p s m args c) (hD : ∀ σ, va_D (dAd a) (dW cI cZ a σ)) (hP : va_P D vwCl (dW cI cZ a σ) H) (hS : va_S (dAd a) H0 H locs) (hin : gi i 310) (hdg : decode cc pc = .ok (.iastore, 1)) (kk : ∀ (H1 : Heap) (locs1 : List Loc), va_P D vwCl (dW cI cZ a (sA σ 17 i.toNatClampNeg x)) H1 → va_S (dAd a) H0 H1 locs1 → W p l e R s m args below meth c H1 locs1 cells slots Q (F0 m (pc + 1) ls rest)) : W p l e R s m args below meth c H locs cells slots Q (F0 m pc ls (.int x :: .int i :: .ref (a 17) :: rest)) := va_iast C.hx C.hb C.hK hP (hD σ) hS 17 0 rfl rfl hin hdg (fun H1 locs1 h1 _ h3 => kk H1 locs1 h1 h3)
theorem std_18 {i x : Int32} (C : Cx own cc D cI cZ p s m args c) (hD : ∀ σ, va_D (dAd a) (dW cI cZ a σ)) (hP : va_P D vwCl (dW cI cZ a σ) H) (hS : va_S (dAd a) H0 H locs) (hin : gi i 310) (hdg : decode cc pc = .ok (.iastore, 1)) (kk : ∀ (H1 : Heap) (locs1 : List Loc), va_P D vwCl (dW cI cZ a (sA σ 18 i.toNatClampNeg x)) H1 → va_S (dAd a) H0 H1 locs1 → W p l e R s m args below meth c H1 locs1 cells slots Q (F0 m (pc + 1) ls rest)) : W p l e R s m args below meth c H locs cells slots Q (F0 m pc ls (.int x :: .int i :: .ref (a 18) :: rest)) := va_iast C.hx C.hb C.hK hP (hD σ) hS 18 0 rfl rfl hin hdg (fun H1 locs1 h1 _ h3 => kk H1 locs1 h1 h3)
theorem std_19 {i x : Int32} (C : Cx own cc D cI cZ p s m args c) (hD : ∀ σ, va_D (dAd a) (dW cI cZ a σ)) (hP : va_P D vwCl (dW cI cZ a σ) H) (hS : va_S (dAd a) H0 H locs) (hin : gi i 310) (hdg : decode cc pc = .ok (.bastore, 1)) (kk : ∀ (H1 : Heap) (locs1 : List Loc), va_P D vwCl (dW cI cZ a (sA σ 19 i.toNatClampNeg (vp_nar .boolean x))) H1 → va_S (dAd a) H0 H1 locs1 → W p l e R s m args below meth c H1 locs1 cells slots Q (F0 m (pc + 1) ls rest)) : W p l e R s m args below meth c H locs cells slots Q (F0 m pc ls (.int x :: .int i :: .ref (a 19) :: rest)) := va_zast C.hx C.hb C.hK hP (hD σ) hS 19 1 rfl rfl hin hdg (fun H1 locs1 h1 _ h3 => kk H1 locs1 h1 h3)
theorem std_20 {i x : Int32} (C : Cx own cc D cI cZ p s m args c) (hD : ∀ σ, va_D (dAd a) (dW cI cZ a σ)) (hP : va_P D vwCl (dW cI cZ a σ) H) (hS : va_S (dAd a) H0 H locs) (hin : gi i 822) (hdg : decode cc pc = .ok (.iastore, 1)) (kk : ∀ (H1 : Heap) (locs1 : List Loc), va_P D vwCl (dW cI cZ a (sA σ 20 i.toNatClampNeg x)) H1 → va_S (dAd a) H0 H1 locs1 → W p l e R s m args below meth c H1 locs1 cells slots Q (F0 m (pc + 1) ls rest)) : W p l e R s m args below meth c H locs cells slots Q (F0 m pc ls (.int x :: .int i :: .ref (a 20) :: rest)) := va_iast C.hx C.hb C.hK hP (hD σ) hS 20 0 rfl rfl hin hdg (fun H1 locs1 h1 _ h3 => kk H1 locs1 h1 h3)
theorem std_21 {i x : Int32} (C : Cx own cc D cI cZ p s m args c) (hD : ∀ σ, va_D (dAd a) (dW cI cZ a σ)) (hP : va_P D vwCl (dW cI cZ a σ) H) (hS : va_S (dAd a) H0 H locs) (hin : gi i 822) (hdg : decode cc pc = .ok (.iastore, 1)) (kk : ∀ (H1 : Heap) (locs1 : List Loc), va_P D vwCl (dW cI cZ a (sA σ 21 i.toNatClampNeg x)) H1 → va_S (dAd a) H0 H1 locs1 → W p l e R s m args below meth c H1 locs1 cells slots Q (F0 m (pc + 1) ls rest)) : W p l e R s m args below meth c H locs cells slots Q (F0 m pc ls (.int x :: .int i :: .ref (a 21) :: rest)) := va_iast C.hx C.hb C.hK hP (hD σ) hS 21 0 rfl rfl hin hdg (fun H1 locs1 h1 _ h3 => kk H1 locs1 h1 h3)
theorem std_22 {i x : Int32} (C : Cx own cc D cI cZ p s m args c) (hD : ∀ σ, va_D (dAd a) (dW cI cZ a σ)) (hP : va_P D vwCl (dW cI cZ a σ) H) (hS : va_S (dAd a) H0 H locs) (hin : gi i 822) (hdg : decode cc pc = .ok (.iastore, 1)) (kk : ∀ (H1 : Heap) (locs1 : List Loc), va_P D vwCl (dW cI cZ a (sA σ 22 i.toNatClampNeg x)) H1 → va_S (dAd a) H0 H1 locs1 → W p l e R s m args below meth c H1 locs1 cells slots Q (F0 m (pc + 1) ls rest)) : W p l e R s m args below meth c H locs cells slots Q (F0 m pc ls (.int x :: .int i :: .ref (a 22) :: rest)) := va_iast C.hx C.hb C.hK hP (hD σ) hS 22 0 rfl rfl hin hdg (fun H1 locs1 h1 _ h3 => kk H1 locs1 h1 h3)
theorem std_23 {i x : Int32} (C : Cx own cc D cI cZ p s m args c) (hD : ∀ σ, va_D (dAd a) (dW cI cZ a σ)) (hP : va_P D vwCl (dW cI cZ a σ) H) (hS : va_S (dAd a) H0 H locs) (hin : gi i 822) (hdg : decode cc pc = .ok (.iastore, 1)) (kk : ∀ (H1 : Heap) (locs1 : List Loc), va_P D vwCl (dW cI cZ a (sA σ 23 i.toNatClampNeg x)) H1 → va_S (dAd a) H0 H1 locs1 → W p l e R s m args below meth c H1 locs1 cells slots Q (F0 m (pc + 1) ls rest)) : W p l e R s m args below meth c H locs cells slots Q (F0 m pc ls (.int x :: .int i :: .ref (a 23) :: rest)) := va_iast C.hx C.hb C.hK hP (hD σ) hS 23 0 rfl rfl hin hdg (fun H1 locs1 h1 _ h3 => kk H1 locs1 h1 h3)
theorem std_24 {i x : Int32} (C : Cx own cc D cI cZ p s m args c) (hD : ∀ σ, va_D (dAd a) (dW cI cZ a σ)) (hP : va_P D vwCl (dW cI cZ a σ) H) (hS : va_S (dAd a) H0 H locs) (hin : gi i 822) (hdg : decode cc pc = .ok (.iastore, 1)) (kk : ∀ (H1 : Heap) (locs1 : List Loc), va_P D vwCl (dW cI cZ a (sA σ 24 i.toNatClampNeg x)) H1 → va_S (dAd a) H0 H1 locs1 → W p l e R s m args below meth c H1 locs1 cells slots Q (F0 m (pc + 1) ls rest)) : W p l e R s m args below meth c H locs cells slots Q (F0 m pc ls (.int x :: .int i :: .ref (a 24) :: rest)) := va_iast C.hx C.hb C.hK hP (hD σ) hS 24 0 rfl rfl hin hdg (fun H1 locs1 h1 _ h3 => kk H1 locs1 h1 h3)
theorem std_25 {i x : Int32} (C : Cx own cc D cI cZ p s m args c) (hD : ∀ σ, va_D (dAd a) (dW cI cZ a σ)) (hP : va_P D vwCl (dW cI cZ a σ) H) (hS : va_S (dAd a) H0 H locs) (hin : gi i 60) (hdg : decode cc pc = .ok (.iastore, 1)) (kk : ∀ (H1 : Heap) (locs1 : List Loc), va_P D vwCl (dW cI cZ a (sA σ 25 i.toNatClampNeg x)) H1 → va_S (dAd a) H0 H1 locs1 → W p l e R s m args below meth c H1 locs1 cells slots Q (F0 m (pc + 1) ls rest)) : W p l e R s m args below meth c H locs cells slots Q (F0 m pc ls (.int x :: .int i :: .ref (a 25) :: rest)) := va_iast C.hx C.hb C.hK hP (hD σ) hS 25 0 rfl rfl hin hdg (fun H1 locs1 h1 _ h3 => kk H1 locs1 h1 h3)
theorem std_26 {i x : Int32} (C : Cx own cc D cI cZ p s m args c) (hD : ∀ σ, va_D (dAd a) (dW cI cZ a σ)) (hP : va_P D vwCl (dW cI cZ a σ) H) (hS : va_S (dAd a) H0 H locs) (hin : gi i 60) (hdg : decode cc pc = .ok (.bastore, 1)) (kk : ∀ (H1 : Heap) (locs1 : List Loc), va_P D vwCl (dW cI cZ a (sA σ 26 i.toNatClampNeg (vp_nar .boolean x))) H1 → va_S (dAd a) H0 H1 locs1 → W p l e R s m args below meth c H1 locs1 cells slots Q (F0 m (pc + 1) ls rest)) : W p l e R s m args below meth c H locs cells slots Q (F0 m pc ls (.int x :: .int i :: .ref (a 26) :: rest)) := va_zast C.hx C.hb C.hK hP (hD σ) hS 26 1 rfl rfl hin hdg (fun H1 locs1 h1 _ h3 => kk H1 locs1 h1 h3)
theorem std_27 {i x : Int32} (C : Cx own cc D cI cZ p s m args c) (hD : ∀ σ, va_D (dAd a) (dW cI cZ a σ)) (hP : va_P D vwCl (dW cI cZ a σ) H) (hS : va_S (dAd a) H0 H locs) (hin : gi i 822) (hdg : decode cc pc = .ok (.iastore, 1)) (kk : ∀ (H1 : Heap) (locs1 : List Loc), va_P D vwCl (dW cI cZ a (sA σ 27 i.toNatClampNeg x)) H1 → va_S (dAd a) H0 H1 locs1 → W p l e R s m args below meth c H1 locs1 cells slots Q (F0 m (pc + 1) ls rest)) : W p l e R s m args below meth c H locs cells slots Q (F0 m pc ls (.int x :: .int i :: .ref (a 27) :: rest)) := va_iast C.hx C.hb C.hK hP (hD σ) hS 27 0 rfl rfl hin hdg (fun H1 locs1 h1 _ h3 => kk H1 locs1 h1 h3)
theorem std_28 {i x : Int32} (C : Cx own cc D cI cZ p s m args c) (hD : ∀ σ, va_D (dAd a) (dW cI cZ a σ)) (hP : va_P D vwCl (dW cI cZ a σ) H) (hS : va_S (dAd a) H0 H locs) (hin : gi i 822) (hdg : decode cc pc = .ok (.iastore, 1)) (kk : ∀ (H1 : Heap) (locs1 : List Loc), va_P D vwCl (dW cI cZ a (sA σ 28 i.toNatClampNeg x)) H1 → va_S (dAd a) H0 H1 locs1 → W p l e R s m args below meth c H1 locs1 cells slots Q (F0 m (pc + 1) ls rest)) : W p l e R s m args below meth c H locs cells slots Q (F0 m pc ls (.int x :: .int i :: .ref (a 28) :: rest)) := va_iast C.hx C.hb C.hK hP (hD σ) hS 28 0 rfl rfl hin hdg (fun H1 locs1 h1 _ h3 => kk H1 locs1 h1 h3)
theorem std_7 {i x : Int32} (C : Cx own cc D cI cZ p s m args c) (hD : ∀ σ, va_D (dAd a) (dW cI cZ a σ)) (hP : va_P D vwCl (dW cI cZ a σ) H) (hS : va_S (dAd a) H0 H locs) (hin : gi i 822) (hdg : decode cc pc = .ok (.bastore, 1)) (kk : ∀ (H1 : Heap) (locs1 : List Loc), va_P D vwCl (dW cI cZ a (sA σ 7 i.toNatClampNeg (vp_nar .boolean x))) H1 → va_S (dAd a) H0 H1 locs1 → W p l e R s m args below meth c H1 locs1 cells slots Q (F0 m (pc + 1) ls rest)) : W p l e R s m args below meth c H locs cells slots Q (F0 m pc ls (.int x :: .int i :: .ref (a 7) :: rest)) := va_zast C.hx C.hb C.hK hP (hD σ) hS 7 1 rfl rfl hin hdg (fun H1 locs1 h1 _ h3 => kk H1 locs1 h1 h3)
theorem std_8 {i x : Int32} (C : Cx own cc D cI cZ p s m args c) (hD : ∀ σ, va_D (dAd a) (dW cI cZ a σ)) (hP : va_P D vwCl (dW cI cZ a σ) H) (hS : va_S (dAd a) H0 H locs) (hin : gi i 40) (hdg : decode cc pc = .ok (.iastore, 1)) (kk : ∀ (H1 : Heap) (locs1 : List Loc), va_P D vwCl (dW cI cZ a (sA σ 8 i.toNatClampNeg x)) H1 → va_S (dAd a) H0 H1 locs1 → W p l e R s m args below meth c H1 locs1 cells slots Q (F0 m (pc + 1) ls rest)) : W p l e R s m args below meth c H locs cells slots Q (F0 m pc ls (.int x :: .int i :: .ref (a 8) :: rest)) := va_iast C.hx C.hb C.hK hP (hD σ) hS 8 0 rfl rfl hin hdg (fun H1 locs1 h1 _ h3 => kk H1 locs1 h1 h3)
theorem std_9 {i x : Int32} (C : Cx own cc D cI cZ p s m args c) (hD : ∀ σ, va_D (dAd a) (dW cI cZ a σ)) (hP : va_P D vwCl (dW cI cZ a σ) H) (hS : va_S (dAd a) H0 H locs) (hin : gi i 40) (hdg : decode cc pc = .ok (.iastore, 1)) (kk : ∀ (H1 : Heap) (locs1 : List Loc), va_P D vwCl (dW cI cZ a (sA σ 9 i.toNatClampNeg x)) H1 → va_S (dAd a) H0 H1 locs1 → W p l e R s m args below meth c H1 locs1 cells slots Q (F0 m (pc + 1) ls rest)) : W p l e R s m args below meth c H locs cells slots Q (F0 m pc ls (.int x :: .int i :: .ref (a 9) :: rest)) := va_iast C.hx C.hb C.hK hP (hD σ) hS 9 0 rfl rfl hin hdg (fun H1 locs1 h1 _ h3 => kk H1 locs1 h1 h3)
theorem str_1 {i x : Int32} (C : Cx own cc D cI cZ p s m args c) (hD : ∀ σ, va_D (rAd a) (rW cI cZ a σ)) (hP : va_P D vwCl (rW cI cZ a σ) H) (hS : va_S (rAd a) H0 H locs) (hin : gi i 40) (hdg : decode cc pc = .ok (.iastore, 1)) (kk : ∀ (H1 : Heap) (locs1 : List Loc), va_P D vwCl (rW cI cZ a (sA σ 1 i.toNatClampNeg x)) H1 → va_S (rAd a) H0 H1 locs1 → W p l e R s m args below meth c H1 locs1 cells slots Q (F0 m (pc + 1) ls rest)) : W p l e R s m args below meth c H locs cells slots Q (F0 m pc ls (.int x :: .int i :: .ref (a 1) :: rest)) := va_iast C.hx C.hb C.hK hP (hD σ) hS 1 0 rfl rfl hin hdg (fun H1 locs1 h1 _ h3 => kk H1 locs1 h1 h3)
theorem str_10 {i x : Int32} (C : Cx own cc D cI cZ p s m args c) (hD : ∀ σ, va_D (rAd a) (rW cI cZ a σ)) (hP : va_P D vwCl (rW cI cZ a σ) H) (hS : va_S (rAd a) H0 H locs) (hin : gi i 310) (hdg : decode cc pc = .ok (.iastore, 1)) (kk : ∀ (H1 : Heap) (locs1 : List Loc), va_P D vwCl (rW cI cZ a (sA σ 10 i.toNatClampNeg x)) H1 → va_S (rAd a) H0 H1 locs1 → W p l e R s m args below meth c H1 locs1 cells slots Q (F0 m (pc + 1) ls rest)) : W p l e R s m args below meth c H locs cells slots Q (F0 m pc ls (.int x :: .int i :: .ref (a 10) :: rest)) := va_iast C.hx C.hb C.hK hP (hD σ) hS 9 0 rfl rfl hin hdg (fun H1 locs1 h1 _ h3 => kk H1 locs1 h1 h3)
theorem str_11 {i x : Int32} (C : Cx own cc D cI cZ p s m args c) (hD : ∀ σ, va_D (rAd a) (rW cI cZ a σ)) (hP : va_P D vwCl (rW cI cZ a σ) H) (hS : va_S (rAd a) H0 H locs) (hin : gi i 310) (hdg : decode cc pc = .ok (.iastore, 1)) (kk : ∀ (H1 : Heap) (locs1 : List Loc), va_P D vwCl (rW cI cZ a (sA σ 11 i.toNatClampNeg x)) H1 → va_S (rAd a) H0 H1 locs1 → W p l e R s m args below meth c H1 locs1 cells slots Q (F0 m (pc + 1) ls rest)) : W p l e R s m args below meth c H locs cells slots Q (F0 m pc ls (.int x :: .int i :: .ref (a 11) :: rest)) := va_iast C.hx C.hb C.hK hP (hD σ) hS 10 0 rfl rfl hin hdg (fun H1 locs1 h1 _ h3 => kk H1 locs1 h1 h3)
theorem str_12 {i x : Int32} (C : Cx own cc D cI cZ p s m args c) (hD : ∀ σ, va_D (rAd a) (rW cI cZ a σ)) (hP : va_P D vwCl (rW cI cZ a σ) H) (hS : va_S (rAd a) H0 H locs) (hin : gi i 310) (hdg : decode cc pc = .ok (.iastore, 1)) (kk : ∀ (H1 : Heap) (locs1 : List Loc), va_P D vwCl (rW cI cZ a (sA σ 12 i.toNatClampNeg x)) H1 → va_S (rAd a) H0 H1 locs1 → W p l e R s m args below meth c H1 locs1 cells slots Q (F0 m (pc + 1) ls rest)) : W p l e R s m args below meth c H locs cells slots Q (F0 m pc ls (.int x :: .int i :: .ref (a 12) :: rest)) := va_iast C.hx C.hb C.hK hP (hD σ) hS 11 0 rfl rfl hin hdg (fun H1 locs1 h1 _ h3 => kk H1 locs1 h1 h3)
theorem str_13 {i x : Int32} (C : Cx own cc D cI cZ p s m args c) (hD : ∀ σ, va_D (rAd a) (rW cI cZ a σ)) (hP : va_P D vwCl (rW cI cZ a σ) H) (hS : va_S (rAd a) H0 H locs) (hin : gi i 310) (hdg : decode cc pc = .ok (.bastore, 1)) (kk : ∀ (H1 : Heap) (locs1 : List Loc), va_P D vwCl (rW cI cZ a (sA σ 13 i.toNatClampNeg (vp_nar .boolean x))) H1 → va_S (rAd a) H0 H1 locs1 → W p l e R s m args below meth c H1 locs1 cells slots Q (F0 m (pc + 1) ls rest)) : W p l e R s m args below meth c H locs cells slots Q (F0 m pc ls (.int x :: .int i :: .ref (a 13) :: rest)) := va_zast C.hx C.hb C.hK hP (hD σ) hS 12 1 rfl rfl hin hdg (fun H1 locs1 h1 _ h3 => kk H1 locs1 h1 h3)
theorem str_15 {i x : Int32} (C : Cx own cc D cI cZ p s m args c) (hD : ∀ σ, va_D (rAd a) (rW cI cZ a σ)) (hP : va_P D vwCl (rW cI cZ a σ) H) (hS : va_S (rAd a) H0 H locs) (hin : gi i 1000) (hdg : decode cc pc = .ok (.iastore, 1)) (kk : ∀ (H1 : Heap) (locs1 : List Loc), va_P D vwCl (rW cI cZ a (sA σ 15 i.toNatClampNeg x)) H1 → va_S (rAd a) H0 H1 locs1 → W p l e R s m args below meth c H1 locs1 cells slots Q (F0 m (pc + 1) ls rest)) : W p l e R s m args below meth c H locs cells slots Q (F0 m pc ls (.int x :: .int i :: .ref (a 15) :: rest)) := va_iast C.hx C.hb C.hK hP (hD σ) hS 13 0 rfl rfl hin hdg (fun H1 locs1 h1 _ h3 => kk H1 locs1 h1 h3)
theorem str_16 {i x : Int32} (C : Cx own cc D cI cZ p s m args c) (hD : ∀ σ, va_D (rAd a) (rW cI cZ a σ)) (hP : va_P D vwCl (rW cI cZ a σ) H) (hS : va_S (rAd a) H0 H locs) (hin : gi i 1000) (hdg : decode cc pc = .ok (.iastore, 1)) (kk : ∀ (H1 : Heap) (locs1 : List Loc), va_P D vwCl (rW cI cZ a (sA σ 16 i.toNatClampNeg x)) H1 → va_S (rAd a) H0 H1 locs1 → W p l e R s m args below meth c H1 locs1 cells slots Q (F0 m (pc + 1) ls rest)) : W p l e R s m args below meth c H locs cells slots Q (F0 m pc ls (.int x :: .int i :: .ref (a 16) :: rest)) := va_iast C.hx C.hb C.hK hP (hD σ) hS 14 0 rfl rfl hin hdg (fun H1 locs1 h1 _ h3 => kk H1 locs1 h1 h3)
theorem str_17 {i x : Int32} (C : Cx own cc D cI cZ p s m args c) (hD : ∀ σ, va_D (rAd a) (rW cI cZ a σ)) (hP : va_P D vwCl (rW cI cZ a σ) H) (hS : va_S (rAd a) H0 H locs) (hin : gi i 1000) (hdg : decode cc pc = .ok (.iastore, 1)) (kk : ∀ (H1 : Heap) (locs1 : List Loc), va_P D vwCl (rW cI cZ a (sA σ 17 i.toNatClampNeg x)) H1 → va_S (rAd a) H0 H1 locs1 → W p l e R s m args below meth c H1 locs1 cells slots Q (F0 m (pc + 1) ls rest)) : W p l e R s m args below meth c H locs cells slots Q (F0 m pc ls (.int x :: .int i :: .ref (a 17) :: rest)) := va_iast C.hx C.hb C.hK hP (hD σ) hS 15 0 rfl rfl hin hdg (fun H1 locs1 h1 _ h3 => kk H1 locs1 h1 h3)
theorem str_18 {i x : Int32} (C : Cx own cc D cI cZ p s m args c) (hD : ∀ σ, va_D (rAd a) (rW cI cZ a σ)) (hP : va_P D vwCl (rW cI cZ a σ) H) (hS : va_S (rAd a) H0 H locs) (hin : gi i 1000) (hdg : decode cc pc = .ok (.iastore, 1)) (kk : ∀ (H1 : Heap) (locs1 : List Loc), va_P D vwCl (rW cI cZ a (sA σ 18 i.toNatClampNeg x)) H1 → va_S (rAd a) H0 H1 locs1 → W p l e R s m args below meth c H1 locs1 cells slots Q (F0 m (pc + 1) ls rest)) : W p l e R s m args below meth c H locs cells slots Q (F0 m pc ls (.int x :: .int i :: .ref (a 18) :: rest)) := va_iast C.hx C.hb C.hK hP (hD σ) hS 16 0 rfl rfl hin hdg (fun H1 locs1 h1 _ h3 => kk H1 locs1 h1 h3)
theorem str_19 {i x : Int32} (C : Cx own cc D cI cZ p s m args c) (hD : ∀ σ, va_D (rAd a) (rW cI cZ a σ)) (hP : va_P D vwCl (rW cI cZ a σ) H) (hS : va_S (rAd a) H0 H locs) (hin : gi i 1000) (hdg : decode cc pc = .ok (.iastore, 1)) (kk : ∀ (H1 : Heap) (locs1 : List Loc), va_P D vwCl (rW cI cZ a (sA σ 19 i.toNatClampNeg x)) H1 → va_S (rAd a) H0 H1 locs1 → W p l e R s m args below meth c H1 locs1 cells slots Q (F0 m (pc + 1) ls rest)) : W p l e R s m args below meth c H locs cells slots Q (F0 m pc ls (.int x :: .int i :: .ref (a 19) :: rest)) := va_iast C.hx C.hb C.hK hP (hD σ) hS 17 0 rfl rfl hin hdg (fun H1 locs1 h1 _ h3 => kk H1 locs1 h1 h3)
theorem str_2 {i x : Int32} (C : Cx own cc D cI cZ p s m args c) (hD : ∀ σ, va_D (rAd a) (rW cI cZ a σ)) (hP : va_P D vwCl (rW cI cZ a σ) H) (hS : va_S (rAd a) H0 H locs) (hin : gi i 40) (hdg : decode cc pc = .ok (.iastore, 1)) (kk : ∀ (H1 : Heap) (locs1 : List Loc), va_P D vwCl (rW cI cZ a (sA σ 2 i.toNatClampNeg x)) H1 → va_S (rAd a) H0 H1 locs1 → W p l e R s m args below meth c H1 locs1 cells slots Q (F0 m (pc + 1) ls rest)) : W p l e R s m args below meth c H locs cells slots Q (F0 m pc ls (.int x :: .int i :: .ref (a 2) :: rest)) := va_iast C.hx C.hb C.hK hP (hD σ) hS 2 0 rfl rfl hin hdg (fun H1 locs1 h1 _ h3 => kk H1 locs1 h1 h3)
theorem str_21 {i x : Int32} (C : Cx own cc D cI cZ p s m args c) (hD : ∀ σ, va_D (rAd a) (rW cI cZ a σ)) (hP : va_P D vwCl (rW cI cZ a σ) H) (hS : va_S (rAd a) H0 H locs) (hin : gi i 60) (hdg : decode cc pc = .ok (.iastore, 1)) (kk : ∀ (H1 : Heap) (locs1 : List Loc), va_P D vwCl (rW cI cZ a (sA σ 21 i.toNatClampNeg x)) H1 → va_S (rAd a) H0 H1 locs1 → W p l e R s m args below meth c H1 locs1 cells slots Q (F0 m (pc + 1) ls rest)) : W p l e R s m args below meth c H locs cells slots Q (F0 m pc ls (.int x :: .int i :: .ref (a 21) :: rest)) := va_iast C.hx C.hb C.hK hP (hD σ) hS 18 0 rfl rfl hin hdg (fun H1 locs1 h1 _ h3 => kk H1 locs1 h1 h3)
theorem str_22 {i x : Int32} (C : Cx own cc D cI cZ p s m args c) (hD : ∀ σ, va_D (rAd a) (rW cI cZ a σ)) (hP : va_P D vwCl (rW cI cZ a σ) H) (hS : va_S (rAd a) H0 H locs) (hin : gi i 60) (hdg : decode cc pc = .ok (.bastore, 1)) (kk : ∀ (H1 : Heap) (locs1 : List Loc), va_P D vwCl (rW cI cZ a (sA σ 22 i.toNatClampNeg (vp_nar .boolean x))) H1 → va_S (rAd a) H0 H1 locs1 → W p l e R s m args below meth c H1 locs1 cells slots Q (F0 m (pc + 1) ls rest)) : W p l e R s m args below meth c H locs cells slots Q (F0 m pc ls (.int x :: .int i :: .ref (a 22) :: rest)) := va_zast C.hx C.hb C.hK hP (hD σ) hS 19 1 rfl rfl hin hdg (fun H1 locs1 h1 _ h3 => kk H1 locs1 h1 h3)
theorem str_24 {i x : Int32} (C : Cx own cc D cI cZ p s m args c) (hD : ∀ σ, va_D (rAd a) (rW cI cZ a σ)) (hP : va_P D vwCl (rW cI cZ a σ) H) (hS : va_S (rAd a) H0 H locs) (hin : gi i 1000) (hdg : decode cc pc = .ok (.iastore, 1)) (kk : ∀ (H1 : Heap) (locs1 : List Loc), va_P D vwCl (rW cI cZ a (sA σ 24 i.toNatClampNeg x)) H1 → va_S (rAd a) H0 H1 locs1 → W p l e R s m args below meth c H1 locs1 cells slots Q (F0 m (pc + 1) ls rest)) : W p l e R s m args below meth c H locs cells slots Q (F0 m pc ls (.int x :: .int i :: .ref (a 24) :: rest)) := va_iast C.hx C.hb C.hK hP (hD σ) hS 20 0 rfl rfl hin hdg (fun H1 locs1 h1 _ h3 => kk H1 locs1 h1 h3)
theorem str_26 {i x : Int32} (C : Cx own cc D cI cZ p s m args c) (hD : ∀ σ, va_D (rAd a) (rW cI cZ a σ)) (hP : va_P D vwCl (rW cI cZ a σ) H) (hS : va_S (rAd a) H0 H locs) (hin : gi i 1300) (hdg : decode cc pc = .ok (.iastore, 1)) (kk : ∀ (H1 : Heap) (locs1 : List Loc), va_P D vwCl (rW cI cZ a (sA σ 26 i.toNatClampNeg x)) H1 → va_S (rAd a) H0 H1 locs1 → W p l e R s m args below meth c H1 locs1 cells slots Q (F0 m (pc + 1) ls rest)) : W p l e R s m args below meth c H locs cells slots Q (F0 m pc ls (.int x :: .int i :: .ref (a 26) :: rest)) := va_iast C.hx C.hb C.hK hP (hD σ) hS 21 0 rfl rfl hin hdg (fun H1 locs1 h1 _ h3 => kk H1 locs1 h1 h3)
theorem str_27 {i x : Int32} (C : Cx own cc D cI cZ p s m args c) (hD : ∀ σ, va_D (rAd a) (rW cI cZ a σ)) (hP : va_P D vwCl (rW cI cZ a σ) H) (hS : va_S (rAd a) H0 H locs) (hin : gi i 1300) (hdg : decode cc pc = .ok (.iastore, 1)) (kk : ∀ (H1 : Heap) (locs1 : List Loc), va_P D vwCl (rW cI cZ a (sA σ 27 i.toNatClampNeg x)) H1 → va_S (rAd a) H0 H1 locs1 → W p l e R s m args below meth c H1 locs1 cells slots Q (F0 m (pc + 1) ls rest)) : W p l e R s m args below meth c H locs cells slots Q (F0 m pc ls (.int x :: .int i :: .ref (a 27) :: rest)) := va_iast C.hx C.hb C.hK hP (hD σ) hS 22 0 rfl rfl hin hdg (fun H1 locs1 h1 _ h3 => kk H1 locs1 h1 h3)
theorem str_28 {i x : Int32} (C : Cx own cc D cI cZ p s m args c) (hD : ∀ σ, va_D (rAd a) (rW cI cZ a σ)) (hP : va_P D vwCl (rW cI cZ a σ) H) (hS : va_S (rAd a) H0 H locs) (hin : gi i 1300) (hdg : decode cc pc = .ok (.iastore, 1)) (kk : ∀ (H1 : Heap) (locs1 : List Loc), va_P D vwCl (rW cI cZ a (sA σ 28 i.toNatClampNeg x)) H1 → va_S (rAd a) H0 H1 locs1 → W p l e R s m args below meth c H1 locs1 cells slots Q (F0 m (pc + 1) ls rest)) : W p l e R s m args below meth c H locs cells slots Q (F0 m pc ls (.int x :: .int i :: .ref (a 28) :: rest)) := va_iast C.hx C.hb C.hK hP (hD σ) hS 23 0 rfl rfl hin hdg (fun H1 locs1 h1 _ h3 => kk H1 locs1 h1 h3)
theorem str_29 {i x : Int32} (C : Cx own cc D cI cZ p s m args c) (hD : ∀ σ, va_D (rAd a) (rW cI cZ a σ)) (hP : va_P D vwCl (rW cI cZ a σ) H) (hS : va_S (rAd a) H0 H locs) (hin : gi i 1300) (hdg : decode cc pc = .ok (.iastore, 1)) (kk : ∀ (H1 : Heap) (locs1 : List Loc), va_P D vwCl (rW cI cZ a (sA σ 29 i.toNatClampNeg x)) H1 → va_S (rAd a) H0 H1 locs1 → W p l e R s m args below meth c H1 locs1 cells slots Q (F0 m (pc + 1) ls rest)) : W p l e R s m args below meth c H locs cells slots Q (F0 m pc ls (.int x :: .int i :: .ref (a 29) :: rest)) := va_iast C.hx C.hb C.hK hP (hD σ) hS 24 0 rfl rfl hin hdg (fun H1 locs1 h1 _ h3 => kk H1 locs1 h1 h3)
theorem str_3 {i x : Int32} (C : Cx own cc D cI cZ p s m args c) (hD : ∀ σ, va_D (rAd a) (rW cI cZ a σ)) (hP : va_P D vwCl (rW cI cZ a σ) H) (hS : va_S (rAd a) H0 H locs) (hin : gi i 40) (hdg : decode cc pc = .ok (.iastore, 1)) (kk : ∀ (H1 : Heap) (locs1 : List Loc), va_P D vwCl (rW cI cZ a (sA σ 3 i.toNatClampNeg x)) H1 → va_S (rAd a) H0 H1 locs1 → W p l e R s m args below meth c H1 locs1 cells slots Q (F0 m (pc + 1) ls rest)) : W p l e R s m args below meth c H locs cells slots Q (F0 m pc ls (.int x :: .int i :: .ref (a 3) :: rest)) := va_iast C.hx C.hb C.hK hP (hD σ) hS 3 0 rfl rfl hin hdg (fun H1 locs1 h1 _ h3 => kk H1 locs1 h1 h3)
theorem str_30 {i x : Int32} (C : Cx own cc D cI cZ p s m args c) (hD : ∀ σ, va_D (rAd a) (rW cI cZ a σ)) (hP : va_P D vwCl (rW cI cZ a σ) H) (hS : va_S (rAd a) H0 H locs) (hin : gi i 1300) (hdg : decode cc pc = .ok (.bastore, 1)) (kk : ∀ (H1 : Heap) (locs1 : List Loc), va_P D vwCl (rW cI cZ a (sA σ 30 i.toNatClampNeg (vp_nar .boolean x))) H1 → va_S (rAd a) H0 H1 locs1 → W p l e R s m args below meth c H1 locs1 cells slots Q (F0 m (pc + 1) ls rest)) : W p l e R s m args below meth c H locs cells slots Q (F0 m pc ls (.int x :: .int i :: .ref (a 30) :: rest)) := va_zast C.hx C.hb C.hK hP (hD σ) hS 25 1 rfl rfl hin hdg (fun H1 locs1 h1 _ h3 => kk H1 locs1 h1 h3)
theorem str_32 {i x : Int32} (C : Cx own cc D cI cZ p s m args c) (hD : ∀ σ, va_D (rAd a) (rW cI cZ a σ)) (hP : va_P D vwCl (rW cI cZ a σ) H) (hS : va_S (rAd a) H0 H locs) (hin : gi i 1000) (hdg : decode cc pc = .ok (.bastore, 1)) (kk : ∀ (H1 : Heap) (locs1 : List Loc), va_P D vwCl (rW cI cZ a (sA σ 32 i.toNatClampNeg (vp_nar .boolean x))) H1 → va_S (rAd a) H0 H1 locs1 → W p l e R s m args below meth c H1 locs1 cells slots Q (F0 m (pc + 1) ls rest)) : W p l e R s m args below meth c H locs cells slots Q (F0 m pc ls (.int x :: .int i :: .ref (a 32) :: rest)) := va_zast C.hx C.hb C.hK hP (hD σ) hS 26 1 rfl rfl hin hdg (fun H1 locs1 h1 _ h3 => kk H1 locs1 h1 h3)
theorem str_4 {i x : Int32} (C : Cx own cc D cI cZ p s m args c) (hD : ∀ σ, va_D (rAd a) (rW cI cZ a σ)) (hP : va_P D vwCl (rW cI cZ a σ) H) (hS : va_S (rAd a) H0 H locs) (hin : gi i 40) (hdg : decode cc pc = .ok (.iastore, 1)) (kk : ∀ (H1 : Heap) (locs1 : List Loc), va_P D vwCl (rW cI cZ a (sA σ 4 i.toNatClampNeg x)) H1 → va_S (rAd a) H0 H1 locs1 → W p l e R s m args below meth c H1 locs1 cells slots Q (F0 m (pc + 1) ls rest)) : W p l e R s m args below meth c H locs cells slots Q (F0 m pc ls (.int x :: .int i :: .ref (a 4) :: rest)) := va_iast C.hx C.hb C.hK hP (hD σ) hS 4 0 rfl rfl hin hdg (fun H1 locs1 h1 _ h3 => kk H1 locs1 h1 h3)
theorem str_5 {i x : Int32} (C : Cx own cc D cI cZ p s m args c) (hD : ∀ σ, va_D (rAd a) (rW cI cZ a σ)) (hP : va_P D vwCl (rW cI cZ a σ) H) (hS : va_S (rAd a) H0 H locs) (hin : gi i 40) (hdg : decode cc pc = .ok (.iastore, 1)) (kk : ∀ (H1 : Heap) (locs1 : List Loc), va_P D vwCl (rW cI cZ a (sA σ 5 i.toNatClampNeg x)) H1 → va_S (rAd a) H0 H1 locs1 → W p l e R s m args below meth c H1 locs1 cells slots Q (F0 m (pc + 1) ls rest)) : W p l e R s m args below meth c H locs cells slots Q (F0 m pc ls (.int x :: .int i :: .ref (a 5) :: rest)) := va_iast C.hx C.hb C.hK hP (hD σ) hS 5 0 rfl rfl hin hdg (fun H1 locs1 h1 _ h3 => kk H1 locs1 h1 h3)
theorem str_7 {i x : Int32} (C : Cx own cc D cI cZ p s m args c) (hD : ∀ σ, va_D (rAd a) (rW cI cZ a σ)) (hP : va_P D vwCl (rW cI cZ a σ) H) (hS : va_S (rAd a) H0 H locs) (hin : gi i 10) (hdg : decode cc pc = .ok (.iastore, 1)) (kk : ∀ (H1 : Heap) (locs1 : List Loc), va_P D vwCl (rW cI cZ a (sA σ 7 i.toNatClampNeg x)) H1 → va_S (rAd a) H0 H1 locs1 → W p l e R s m args below meth c H1 locs1 cells slots Q (F0 m (pc + 1) ls rest)) : W p l e R s m args below meth c H locs cells slots Q (F0 m pc ls (.int x :: .int i :: .ref (a 7) :: rest)) := va_iast C.hx C.hb C.hK hP (hD σ) hS 6 0 rfl rfl hin hdg (fun H1 locs1 h1 _ h3 => kk H1 locs1 h1 h3)
theorem str_8 {i x : Int32} (C : Cx own cc D cI cZ p s m args c) (hD : ∀ σ, va_D (rAd a) (rW cI cZ a σ)) (hP : va_P D vwCl (rW cI cZ a σ) H) (hS : va_S (rAd a) H0 H locs) (hin : gi i 10) (hdg : decode cc pc = .ok (.bastore, 1)) (kk : ∀ (H1 : Heap) (locs1 : List Loc), va_P D vwCl (rW cI cZ a (sA σ 8 i.toNatClampNeg (vp_nar .boolean x))) H1 → va_S (rAd a) H0 H1 locs1 → W p l e R s m args below meth c H1 locs1 cells slots Q (F0 m (pc + 1) ls rest)) : W p l e R s m args below meth c H locs cells slots Q (F0 m pc ls (.int x :: .int i :: .ref (a 8) :: rest)) := va_zast C.hx C.hb C.hK hP (hD σ) hS 7 1 rfl rfl hin hdg (fun H1 locs1 h1 _ h3 => kk H1 locs1 h1 h3)
theorem str_9 {i x : Int32} (C : Cx own cc D cI cZ p s m args c) (hD : ∀ σ, va_D (rAd a) (rW cI cZ a σ)) (hP : va_P D vwCl (rW cI cZ a σ) H) (hS : va_S (rAd a) H0 H locs) (hin : gi i 10) (hdg : decode cc pc = .ok (.bastore, 1)) (kk : ∀ (H1 : Heap) (locs1 : List Loc), va_P D vwCl (rW cI cZ a (sA σ 9 i.toNatClampNeg (vp_nar .boolean x))) H1 → va_S (rAd a) H0 H1 locs1 → W p l e R s m args below meth c H1 locs1 cells slots Q (F0 m (pc + 1) ls rest)) : W p l e R s m args below meth c H locs cells slots Q (F0 m pc ls (.int x :: .int i :: .ref (a 9) :: rest)) := va_zast C.hx C.hb C.hK hP (hD σ) hS 8 1 rfl rfl hin hdg (fun H1 locs1 h1 _ h3 => kk H1 locs1 h1 h3)
end ROWS
end
