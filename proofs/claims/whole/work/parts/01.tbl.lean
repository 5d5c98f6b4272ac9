-- ===== PART A: goes FIRST, ahead of the names: the tables' words, and 'selects' of the private methods out of them =====
/-- a private method of a class that the tables say can be made, by its rows of tables_1 -/
def lw_okq (q : MethodName × Nat) : Prop := (q.1.cls ≠ "java/lang/invoke/MethodHandle" ∧ q.1.cls ≠ "java/lang/invoke/VarHandle") ∧ Cond.instantiable q.1.cls q.2 ∈ tables_1 ∧ Cond.privateMethod q.1 ∈ tables_1 ∧ Cond.instanceMethod q.1 ∈ tables_1
theorem lw_p0 : lw_okq (⟨"ModuleLoaders", "ask", "(III)I"⟩, 7) := ⟨⟨by decide +kernel, by decide +kernel⟩, List.mem_of_getElem? (i := 10) (by decide +kernel), List.mem_of_getElem? (i := 224) (by decide +kernel), List.mem_of_getElem? (i := 225) (by decide +kernel)⟩
theorem lw_p1 : lw_okq (⟨"ModuleLoaders", "askLibrary", "(III)I"⟩, 7) := ⟨⟨by decide +kernel, by decide +kernel⟩, List.mem_of_getElem? (i := 10) (by decide +kernel), List.mem_of_getElem? (i := 233) (by decide +kernel), List.mem_of_getElem? (i := 234) (by decide +kernel)⟩
theorem lw_p2 : lw_okq (⟨"ModuleLoaders", "make", "(IIII)I"⟩, 7) := ⟨⟨by decide +kernel, by decide +kernel⟩, List.mem_of_getElem? (i := 10) (by decide +kernel), List.mem_of_getElem? (i := 237) (by decide +kernel), List.mem_of_getElem? (i := 238) (by decide +kernel)⟩
theorem lw_p3 : lw_okq (⟨"ModuleLoaders", "failureAhead", "(III)I"⟩, 7) := ⟨⟨by decide +kernel, by decide +kernel⟩, List.mem_of_getElem? (i := 10) (by decide +kernel), List.mem_of_getElem? (i := 241) (by decide +kernel), List.mem_of_getElem? (i := 242) (by decide +kernel)⟩
theorem lw_p4 : lw_okq (⟨"ModuleLoaders", "stand", "(IIII)I"⟩, 7) := ⟨⟨by decide +kernel, by decide +kernel⟩, List.mem_of_getElem? (i := 10) (by decide +kernel), List.mem_of_getElem? (i := 249) (by decide +kernel), List.mem_of_getElem? (i := 250) (by decide +kernel)⟩
theorem lw_p5 : lw_okq (⟨"ModuleLoaders", "beginFrom", "(I)I"⟩, 7) := ⟨⟨by decide +kernel, by decide +kernel⟩, List.mem_of_getElem? (i := 10) (by decide +kernel), List.mem_of_getElem? (i := 277) (by decide +kernel), List.mem_of_getElem? (i := 278) (by decide +kernel)⟩
theorem lw_p6 : lw_okq (⟨"ModuleLoaders", "comeTo", "(I)I"⟩, 7) := ⟨⟨by decide +kernel, by decide +kernel⟩, List.mem_of_getElem? (i := 10) (by decide +kernel), List.mem_of_getElem? (i := 281) (by decide +kernel), List.mem_of_getElem? (i := 282) (by decide +kernel)⟩
theorem lw_p7 : lw_okq (⟨"ModuleLoaders", "goOn", "(I)I"⟩, 7) := ⟨⟨by decide +kernel, by decide +kernel⟩, List.mem_of_getElem? (i := 10) (by decide +kernel), List.mem_of_getElem? (i := 289) (by decide +kernel), List.mem_of_getElem? (i := 290) (by decide +kernel)⟩
theorem lw_p8 : lw_okq (⟨"ModuleLoaders", "comeToNeed", "(I)I"⟩, 7) := ⟨⟨by decide +kernel, by decide +kernel⟩, List.mem_of_getElem? (i := 10) (by decide +kernel), List.mem_of_getElem? (i := 293) (by decide +kernel), List.mem_of_getElem? (i := 294) (by decide +kernel)⟩
theorem lw_p9 : lw_okq (⟨"ModuleLoaders", "beginItself", "(I)I"⟩, 7) := ⟨⟨by decide +kernel, by decide +kernel⟩, List.mem_of_getElem? (i := 10) (by decide +kernel), List.mem_of_getElem? (i := 297) (by decide +kernel), List.mem_of_getElem? (i := 298) (by decide +kernel)⟩
theorem lw_p10 : lw_okq (⟨"ModuleLoaders", "markHeld", "()V"⟩, 7) := ⟨⟨by decide +kernel, by decide +kernel⟩, List.mem_of_getElem? (i := 10) (by decide +kernel), List.mem_of_getElem? (i := 342) (by decide +kernel), List.mem_of_getElem? (i := 343) (by decide +kernel)⟩
theorem lw_p11 : lw_okq (⟨"ModuleLoaders", "markHeldBy", "(I)V"⟩, 7) := ⟨⟨by decide +kernel, by decide +kernel⟩, List.mem_of_getElem? (i := 10) (by decide +kernel), List.mem_of_getElem? (i := 346) (by decide +kernel), List.mem_of_getElem? (i := 347) (by decide +kernel)⟩
theorem lw_p12 : lw_okq (⟨"ModuleLoadersModel", "isLoader", "(I)Z"⟩, 33) := ⟨⟨by decide +kernel, by decide +kernel⟩, List.mem_of_getElem? (i := 370) (by decide +kernel), List.mem_of_getElem? (i := 490) (by decide +kernel), List.mem_of_getElem? (i := 491) (by decide +kernel)⟩
theorem lw_p13 : lw_okq (⟨"ModuleLoadersModel", "isFile", "(I)Z"⟩, 33) := ⟨⟨by decide +kernel, by decide +kernel⟩, List.mem_of_getElem? (i := 370) (by decide +kernel), List.mem_of_getElem? (i := 498) (by decide +kernel), List.mem_of_getElem? (i := 499) (by decide +kernel)⟩
theorem lw_p14 : lw_okq (⟨"ModuleLoadersModel", "does", "(IIIZ)I"⟩, 33) := ⟨⟨by decide +kernel, by decide +kernel⟩, List.mem_of_getElem? (i := 370) (by decide +kernel), List.mem_of_getElem? (i := 506) (by decide +kernel), List.mem_of_getElem? (i := 507) (by decide +kernel)⟩
theorem lw_p15 : lw_okq (⟨"ModuleLoadersModel", "push", "(IIIZ)V"⟩, 33) := ⟨⟨by decide +kernel, by decide +kernel⟩, List.mem_of_getElem? (i := 370) (by decide +kernel), List.mem_of_getElem? (i := 510) (by decide +kernel), List.mem_of_getElem? (i := 511) (by decide +kernel)⟩
def lw_privs_1 : List (MethodName × Nat) := [(⟨"ModuleLoaders", "ask", "(III)I"⟩, 7), (⟨"ModuleLoaders", "askLibrary", "(III)I"⟩, 7), (⟨"ModuleLoaders", "make", "(IIII)I"⟩, 7), (⟨"ModuleLoaders", "failureAhead", "(III)I"⟩, 7), (⟨"ModuleLoaders", "stand", "(IIII)I"⟩, 7), (⟨"ModuleLoaders", "beginFrom", "(I)I"⟩, 7), (⟨"ModuleLoaders", "comeTo", "(I)I"⟩, 7), (⟨"ModuleLoaders", "goOn", "(I)I"⟩, 7), (⟨"ModuleLoaders", "comeToNeed", "(I)I"⟩, 7), (⟨"ModuleLoaders", "beginItself", "(I)I"⟩, 7), (⟨"ModuleLoaders", "markHeld", "()V"⟩, 7), (⟨"ModuleLoaders", "markHeldBy", "(I)V"⟩, 7), (⟨"ModuleLoadersModel", "isLoader", "(I)Z"⟩, 33), (⟨"ModuleLoadersModel", "isFile", "(I)Z"⟩, 33), (⟨"ModuleLoadersModel", "does", "(IIIZ)I"⟩, 33), (⟨"ModuleLoadersModel", "push", "(IIIZ)V"⟩, 33)]
theorem lw_r1 : ∀ q ∈ lw_privs_1, lw_okq q := List.forall_mem_cons.mpr ⟨lw_p0, List.forall_mem_cons.mpr ⟨lw_p1, List.forall_mem_cons.mpr ⟨lw_p2, List.forall_mem_cons.mpr ⟨lw_p3, List.forall_mem_cons.mpr ⟨lw_p4, List.forall_mem_cons.mpr ⟨lw_p5, List.forall_mem_cons.mpr ⟨lw_p6, List.forall_mem_cons.mpr ⟨lw_p7, List.forall_mem_cons.mpr ⟨lw_p8, List.forall_mem_cons.mpr ⟨lw_p9, List.forall_mem_cons.mpr ⟨lw_p10, List.forall_mem_cons.mpr ⟨lw_p11, List.forall_mem_cons.mpr ⟨lw_p12, List.forall_mem_cons.mpr ⟨lw_p13, List.forall_mem_cons.mpr ⟨lw_p14, List.forall_mem_cons.mpr ⟨lw_p15, fun _ h => absurd h List.not_mem_nil⟩⟩⟩⟩⟩⟩⟩⟩⟩⟩⟩⟩⟩⟩⟩⟩
theorem lw_p16 : lw_okq (⟨"ModuleLoadersModel", "runs", "()I"⟩, 33) := ⟨⟨by decide +kernel, by decide +kernel⟩, List.mem_of_getElem? (i := 370) (by decide +kernel), List.mem_of_getElem? (i := 514) (by decide +kernel), List.mem_of_getElem? (i := 515) (by decide +kernel)⟩
theorem lw_p17 : lw_okq (⟨"ModuleLoadersModel", "asks", "(II)V"⟩, 33) := ⟨⟨by decide +kernel, by decide +kernel⟩, List.mem_of_getElem? (i := 370) (by decide +kernel), List.mem_of_getElem? (i := 518) (by decide +kernel), List.mem_of_getElem? (i := 519) (by decide +kernel)⟩
theorem lw_p18 : lw_okq (⟨"ModuleLoadersModel", "gives", "(I)V"⟩, 33) := ⟨⟨by decide +kernel, by decide +kernel⟩, List.mem_of_getElem? (i := 370) (by decide +kernel), List.mem_of_getElem? (i := 522) (by decide +kernel), List.mem_of_getElem? (i := 523) (by decide +kernel)⟩
theorem lw_p19 : lw_okq (⟨"ModuleLoadersModel", "asksAbove", "(III)V"⟩, 33) := ⟨⟨by decide +kernel, by decide +kernel⟩, List.mem_of_getElem? (i := 370) (by decide +kernel), List.mem_of_getElem? (i := 526) (by decide +kernel), List.mem_of_getElem? (i := 527) (by decide +kernel)⟩
theorem lw_p20 : lw_okq (⟨"ModuleLoadersModel", "keeps", "(I)V"⟩, 33) := ⟨⟨by decide +kernel, by decide +kernel⟩, List.mem_of_getElem? (i := 370) (by decide +kernel), List.mem_of_getElem? (i := 530) (by decide +kernel), List.mem_of_getElem? (i := 531) (by decide +kernel)⟩
theorem lw_p21 : lw_okq (⟨"ModuleLoadersModel", "makes", "(III)V"⟩, 33) := ⟨⟨by decide +kernel, by decide +kernel⟩, List.mem_of_getElem? (i := 370) (by decide +kernel), List.mem_of_getElem? (i := 534) (by decide +kernel), List.mem_of_getElem? (i := 535) (by decide +kernel)⟩
theorem lw_p22 : lw_okq (⟨"ModuleLoadersModel", "against", "(III)I"⟩, 33) := ⟨⟨by decide +kernel, by decide +kernel⟩, List.mem_of_getElem? (i := 370) (by decide +kernel), List.mem_of_getElem? (i := 538) (by decide +kernel), List.mem_of_getElem? (i := 539) (by decide +kernel)⟩
theorem lw_p23 : lw_okq (⟨"ModuleLoadersModel", "stands", "(III)V"⟩, 33) := ⟨⟨by decide +kernel, by decide +kernel⟩, List.mem_of_getElem? (i := 370) (by decide +kernel), List.mem_of_getElem? (i := 542) (by decide +kernel), List.mem_of_getElem? (i := 543) (by decide +kernel)⟩
theorem lw_p24 : lw_okq (⟨"ModuleLoadersModel", "begins", "(II)V"⟩, 33) := ⟨⟨by decide +kernel, by decide +kernel⟩, List.mem_of_getElem? (i := 370) (by decide +kernel), List.mem_of_getElem? (i := 546) (by decide +kernel), List.mem_of_getElem? (i := 547) (by decide +kernel)⟩
theorem lw_p25 : lw_okq (⟨"ModuleLoadersModel", "isModule", "(I)Z"⟩, 33) := ⟨⟨by decide +kernel, by decide +kernel⟩, List.mem_of_getElem? (i := 370) (by decide +kernel), List.mem_of_getElem? (i := 566) (by decide +kernel), List.mem_of_getElem? (i := 567) (by decide +kernel)⟩
theorem lw_p26 : lw_okq (⟨"ModuleLoadersModel", "isThing", "(I)Z"⟩, 33) := ⟨⟨by decide +kernel, by decide +kernel⟩, List.mem_of_getElem? (i := 370) (by decide +kernel), List.mem_of_getElem? (i := 578) (by decide +kernel), List.mem_of_getElem? (i := 579) (by decide +kernel)⟩
theorem lw_p27 : lw_okq (⟨"ModuleLoadersModel", "holds", "()V"⟩, 33) := ⟨⟨by decide +kernel, by decide +kernel⟩, List.mem_of_getElem? (i := 370) (by decide +kernel), List.mem_of_getElem? (i := 594) (by decide +kernel), List.mem_of_getElem? (i := 595) (by decide +kernel)⟩
def lw_privs_2 : List (MethodName × Nat) := [(⟨"ModuleLoadersModel", "runs", "()I"⟩, 33), (⟨"ModuleLoadersModel", "asks", "(II)V"⟩, 33), (⟨"ModuleLoadersModel", "gives", "(I)V"⟩, 33), (⟨"ModuleLoadersModel", "asksAbove", "(III)V"⟩, 33), (⟨"ModuleLoadersModel", "keeps", "(I)V"⟩, 33), (⟨"ModuleLoadersModel", "makes", "(III)V"⟩, 33), (⟨"ModuleLoadersModel", "against", "(III)I"⟩, 33), (⟨"ModuleLoadersModel", "stands", "(III)V"⟩, 33), (⟨"ModuleLoadersModel", "begins", "(II)V"⟩, 33), (⟨"ModuleLoadersModel", "isModule", "(I)Z"⟩, 33), (⟨"ModuleLoadersModel", "isThing", "(I)Z"⟩, 33), (⟨"ModuleLoadersModel", "holds", "()V"⟩, 33)]
theorem lw_r2 : ∀ q ∈ lw_privs_2, lw_okq q := List.forall_mem_cons.mpr ⟨lw_p16, List.forall_mem_cons.mpr ⟨lw_p17, List.forall_mem_cons.mpr ⟨lw_p18, List.forall_mem_cons.mpr ⟨lw_p19, List.forall_mem_cons.mpr ⟨lw_p20, List.forall_mem_cons.mpr ⟨lw_p21, List.forall_mem_cons.mpr ⟨lw_p22, List.forall_mem_cons.mpr ⟨lw_p23, List.forall_mem_cons.mpr ⟨lw_p24, List.forall_mem_cons.mpr ⟨lw_p25, List.forall_mem_cons.mpr ⟨lw_p26, List.forall_mem_cons.mpr ⟨lw_p27, fun _ h => absurd h List.not_mem_nil⟩⟩⟩⟩⟩⟩⟩⟩⟩⟩⟩⟩
def lw_privs : List (MethodName × Nat) := lw_privs_1 ++ (lw_privs_2)
def lw_tbl : List Cond := k2_sels lw_privs ++ tables_1
theorem lw_privs_ok : ∀ q ∈ lw_privs, lw_okq q := by
  show ∀ q ∈ lw_privs_1 ++ (lw_privs_2), lw_okq q
  exact List.forall_mem_append.mpr ⟨lw_r1, lw_r2⟩
/-! ===== BEGIN printed: names, fields, word lists, decode rows ===== -/
def RX0 : String := "ModuleLoaders$Files"
def TX0 : u_T := fun k => match k with
  | 0 => ("ModuleLoaders$Files", "inner", "[I", true)
  | 1 => ("ModuleLoaders$Files", "content", "[I", true)
  | 2 => ("ModuleLoaders$Files", "parent", "[I", true)
  | 3 => ("ModuleLoaders$Files", "need", "[I", true)
  | 4 => ("ModuleLoaders$Files", "flags", "[I", true)
  | _ => ("ModuleLoaders$Files", "size", "I", false)
def tyX0 : Nat → FieldType := fun k => match k with
  | 0 => .array .int
  | 1 => .array .int
  | 2 => .array .int
  | 3 => .array .int
  | 4 => .array .int
  | _ => .int
theorem nmX0 : ∀ a, a < 6 → ∀ b, b < 6 → a ≠ b → (TX0 a).2.1 ≠ (TX0 b).2.1 := by decide +kernel
theorem tyX0_ok : ∀ k, k < 6 → parseFieldDescriptor (TX0 k).2.2.1 = some (tyX0 k) := by decide +kernel
abbrev cX0_init : ByteArray := prog_2_method_1_code
def yX0_init : MethodName := ⟨RX0, "<init>", "()V"⟩
abbrev cX0_has : ByteArray := prog_2_method_2_code
def yX0_has : MethodName := ⟨RX0, "has", "(I)Z"⟩
abbrev cX0_hasFlag : ByteArray := prog_2_method_3_code
def yX0_hasFlag : MethodName := ⟨RX0, "hasFlag", "(II)Z"⟩
abbrev cX0_add : ByteArray := prog_2_method_4_code
def yX0_add : MethodName := ⟨RX0, "add", "(IIIII)I"⟩
def RX1 : String := "ModuleLoaders$Loaders"
def TX1 : u_T := fun k => match k with
  | 0 => ("ModuleLoaders$Loaders", "library", "[I", true)
  | 1 => ("ModuleLoaders$Loaders", "ownFirst", "[Z", true)
  | 2 => ("ModuleLoaders$Loaders", "gone", "[Z", true)
  | 3 => ("ModuleLoaders$Loaders", "shelf", "[I", true)
  | 4 => ("ModuleLoaders$Loaders", "made", "[I", true)
  | 5 => ("ModuleLoaders$Loaders", "given", "[I", true)
  | 6 => ("ModuleLoaders$Loaders", "making", "[Z", true)
  | _ => ("ModuleLoaders$Loaders", "size", "I", false)
def tyX1 : Nat → FieldType := fun k => match k with
  | 0 => .array .int
  | 1 => .array .boolean
  | 2 => .array .boolean
  | 3 => .array .int
  | 4 => .array .int
  | 5 => .array .int
  | 6 => .array .boolean
  | _ => .int
theorem nmX1 : ∀ a, a < 8 → ∀ b, b < 8 → a ≠ b → (TX1 a).2.1 ≠ (TX1 b).2.1 := by decide +kernel
theorem tyX1_ok : ∀ k, k < 8 → parseFieldDescriptor (TX1 k).2.2.1 = some (tyX1 k) := by decide +kernel
abbrev cX1_init : ByteArray := prog_3_method_1_code
def yX1_init : MethodName := ⟨RX1, "<init>", "()V"⟩
abbrev cX1_has : ByteArray := prog_3_method_2_code
def yX1_has : MethodName := ⟨RX1, "has", "(I)Z"⟩
abbrev cX1_isProgram : ByteArray := prog_3_method_3_code
def yX1_isProgram : MethodName := ⟨RX1, "isProgram", "(I)Z"⟩
abbrev cX1_add : ByteArray := prog_3_method_4_code
def yX1_add : MethodName := ⟨RX1, "add", "(IZ)I"⟩
abbrev cX1_madeOrGiven : ByteArray := prog_3_method_5_code
def yX1_madeOrGiven : MethodName := ⟨RX1, "madeOrGiven", "(II)I"⟩
abbrev cX1_hasLiveProgram : ByteArray := prog_3_method_6_code
def yX1_hasLiveProgram : MethodName := ⟨RX1, "hasLiveProgram", "(I)Z"⟩
def RX2 : String := "ModuleLoaders$Modules"
def TX2 : u_T := fun k => match k with
  | 0 => ("ModuleLoaders$Modules", "maker", "[I", true)
  | 1 => ("ModuleLoaders$Modules", "name", "[I", true)
  | 2 => ("ModuleLoaders$Modules", "file", "[I", true)
  | 3 => ("ModuleLoaders$Modules", "parent", "[I", true)
  | 4 => ("ModuleLoaders$Modules", "state", "[I", true)
  | _ => ("ModuleLoaders$Modules", "size", "I", false)
def tyX2 : Nat → FieldType := fun k => match k with
  | 0 => .array .int
  | 1 => .array .int
  | 2 => .array .int
  | 3 => .array .int
  | 4 => .array .int
  | _ => .int
theorem nmX2 : ∀ a, a < 6 → ∀ b, b < 6 → a ≠ b → (TX2 a).2.1 ≠ (TX2 b).2.1 := by decide +kernel
theorem tyX2_ok : ∀ k, k < 6 → parseFieldDescriptor (TX2 k).2.2.1 = some (tyX2 k) := by decide +kernel
abbrev cX2_init : ByteArray := prog_4_method_1_code
def yX2_init : MethodName := ⟨RX2, "<init>", "()V"⟩
abbrev cX2_has : ByteArray := prog_4_method_2_code
def yX2_has : MethodName := ⟨RX2, "has", "(I)Z"⟩
abbrev cX2_add : ByteArray := prog_4_method_3_code
def yX2_add : MethodName := ⟨RX2, "add", "(IIII)I"⟩
abbrev cX2_isOrDescends : ByteArray := prog_4_method_4_code
def yX2_isOrDescends : MethodName := ⟨RX2, "isOrDescends", "(II)Z"⟩
def RX3 : String := "ModuleLoaders$Row"
def TX3 : u_T := fun k => match k with
  | 0 => ("ModuleLoaders$Row", "items", "[I", true)
  | _ => ("ModuleLoaders$Row", "size", "I", false)
def tyX3 : Nat → FieldType := fun k => match k with
  | 0 => .array .int
  | _ => .int
theorem nmX3 : ∀ a, a < 2 → ∀ b, b < 2 → a ≠ b → (TX3 a).2.1 ≠ (TX3 b).2.1 := by decide +kernel
theorem tyX3_ok : ∀ k, k < 2 → parseFieldDescriptor (TX3 k).2.2.1 = some (tyX3 k) := by decide +kernel
abbrev cX3_init : ByteArray := prog_5_method_1_code
def yX3_init : MethodName := ⟨RX3, "<init>", "()V"⟩
abbrev cX3_add : ByteArray := prog_5_method_2_code
def yX3_add : MethodName := ⟨RX3, "add", "(I)V"⟩
def RX4 : String := "ModuleLoaders$Things"
def TX4 : u_T := fun k => match k with
  | 0 => ("ModuleLoaders$Things", "kind", "[I", true)
  | 1 => ("ModuleLoaders$Things", "dropped", "[Z", true)
  | _ => ("ModuleLoaders$Things", "size", "I", false)
def tyX4 : Nat → FieldType := fun k => match k with
  | 0 => .array .int
  | 1 => .array .boolean
  | _ => .int
theorem nmX4 : ∀ a, a < 3 → ∀ b, b < 3 → a ≠ b → (TX4 a).2.1 ≠ (TX4 b).2.1 := by decide +kernel
theorem tyX4_ok : ∀ k, k < 3 → parseFieldDescriptor (TX4 k).2.2.1 = some (tyX4 k) := by decide +kernel
abbrev cX4_init : ByteArray := prog_6_method_1_code
def yX4_init : MethodName := ⟨RX4, "<init>", "()V"⟩
abbrev cX4_has : ByteArray := prog_6_method_2_code
def yX4_has : MethodName := ⟨RX4, "has", "(I)Z"⟩
abbrev cX4_areFull : ByteArray := prog_6_method_3_code
def yX4_areFull : MethodName := ⟨RX4, "areFull", "()Z"⟩
abbrev cX4_add : ByteArray := prog_6_method_4_code
def yX4_add : MethodName := ⟨RX4, "add", "(I)I"⟩
def RX5 : String := "ModuleLoaders"
def TX5 : u_T := fun k => match k with
  | 0 => ("ModuleLoaders", "files", "LModuleLoaders$Files;", true)
  | 1 => ("ModuleLoaders", "loaders", "LModuleLoaders$Loaders;", true)
  | 2 => ("ModuleLoaders", "modules", "LModuleLoaders$Modules;", true)
  | 3 => ("ModuleLoaders", "things", "LModuleLoaders$Things;", true)
  | 4 => ("ModuleLoaders", "theOrder", "LModuleLoaders$Row;", true)
  | 5 => ("ModuleLoaders", "beginning", "LModuleLoaders$Row;", true)
  | _ => ("ModuleLoaders", "heldModules", "[Z", true)
def tyX5 : Nat → FieldType := fun k => match k with
  | 0 => .object "ModuleLoaders$Files"
  | 1 => .object "ModuleLoaders$Loaders"
  | 2 => .object "ModuleLoaders$Modules"
  | 3 => .object "ModuleLoaders$Things"
  | 4 => .object "ModuleLoaders$Row"
  | 5 => .object "ModuleLoaders$Row"
  | _ => .array .boolean
theorem nmX5 : ∀ a, a < 7 → ∀ b, b < 7 → a ≠ b → (TX5 a).2.1 ≠ (TX5 b).2.1 := by decide +kernel
theorem tyX5_ok : ∀ k, k < 7 → parseFieldDescriptor (TX5 k).2.2.1 = some (tyX5 k) := by decide +kernel
abbrev cX5_init : ByteArray := prog_1_method_1_code
def yX5_init : MethodName := ⟨RX5, "<init>", "()V"⟩
abbrev cX5_file : ByteArray := prog_1_method_2_code
def yX5_file : MethodName := ⟨RX5, "file", "(IIIII)I"⟩
abbrev cX5_loader : ByteArray := prog_1_method_3_code
def yX5_loader : MethodName := ⟨RX5, "loader", "(IZ)I"⟩
abbrev cX5_put : ByteArray := prog_1_method_4_code
def yX5_put : MethodName := ⟨RX5, "put", "(III)I"⟩
abbrev cX5_load : ByteArray := prog_1_method_5_code
def yX5_load : MethodName := ⟨RX5, "load", "(II)I"⟩
abbrev cX5_define : ByteArray := prog_1_method_6_code
def yX5_define : MethodName := ⟨RX5, "define", "(III)I"⟩
abbrev cX5_anew : ByteArray := prog_1_method_7_code
def yX5_anew : MethodName := ⟨RX5, "anew", "(III)I"⟩
abbrev cX5_known : ByteArray := prog_1_method_8_code
def yX5_known : MethodName := ⟨RX5, "known", "(II)I"⟩
abbrev cX5_begin : ByteArray := prog_1_method_9_code
def yX5_begin : MethodName := ⟨RX5, "begin", "(I)I"⟩
abbrev cX5_thing : ByteArray := prog_1_method_10_code
def yX5_thing : MethodName := ⟨RX5, "thing", "(I)I"⟩
abbrev cX5_cast : ByteArray := prog_1_method_11_code
def yX5_cast : MethodName := ⟨RX5, "cast", "(II)I"⟩
abbrev cX5_drop : ByteArray := prog_1_method_12_code
def yX5_drop : MethodName := ⟨RX5, "drop", "(I)I"⟩
abbrev cX5_letGo : ByteArray := prog_1_method_13_code
def yX5_letGo : MethodName := ⟨RX5, "letGo", "(I)I"⟩
abbrev cX5_held : ByteArray := prog_1_method_14_code
def yX5_held : MethodName := ⟨RX5, "held", "(I)I"⟩
abbrev cX5_isHeld : ByteArray := prog_1_method_15_code
def yX5_isHeld : MethodName := ⟨RX5, "isHeld", "(I)I"⟩
abbrev cX5_about : ByteArray := prog_1_method_16_code
def yX5_about : MethodName := ⟨RX5, "about", "(II)I"⟩
abbrev cX5_aboutThing : ByteArray := prog_1_method_17_code
def yX5_aboutThing : MethodName := ⟨RX5, "aboutThing", "(II)I"⟩
abbrev cX5_order : ByteArray := prog_1_method_18_code
def yX5_order : MethodName := ⟨RX5, "order", "(I)I"⟩
abbrev cX5_count : ByteArray := prog_1_method_19_code
def yX5_count : MethodName := ⟨RX5, "count", "(I)I"⟩
abbrev cX5_isName : ByteArray := prog_1_method_20_code
def yX5_isName : MethodName := ⟨RX5, "isName", "(I)Z"⟩
abbrev cX5_isNameOrNone : ByteArray := prog_1_method_21_code
def yX5_isNameOrNone : MethodName := ⟨RX5, "isNameOrNone", "(I)Z"⟩
abbrev cX5_slot : ByteArray := prog_1_method_22_code
def yX5_slot : MethodName := ⟨RX5, "slot", "(II)I"⟩
abbrev cX5_ask : ByteArray := prog_1_method_23_code
def yX5_ask : MethodName := ⟨RX5, "ask", "(III)I"⟩
abbrev cX5_askLibrary : ByteArray := prog_1_method_24_code
def yX5_askLibrary : MethodName := ⟨RX5, "askLibrary", "(III)I"⟩
abbrev cX5_make : ByteArray := prog_1_method_25_code
def yX5_make : MethodName := ⟨RX5, "make", "(IIII)I"⟩
abbrev cX5_failureAhead : ByteArray := prog_1_method_26_code
def yX5_failureAhead : MethodName := ⟨RX5, "failureAhead", "(III)I"⟩
abbrev cX5_stand : ByteArray := prog_1_method_27_code
def yX5_stand : MethodName := ⟨RX5, "stand", "(IIII)I"⟩
abbrev cX5_beginFrom : ByteArray := prog_1_method_28_code
def yX5_beginFrom : MethodName := ⟨RX5, "beginFrom", "(I)I"⟩
abbrev cX5_comeTo : ByteArray := prog_1_method_29_code
def yX5_comeTo : MethodName := ⟨RX5, "comeTo", "(I)I"⟩
abbrev cX5_goOn : ByteArray := prog_1_method_30_code
def yX5_goOn : MethodName := ⟨RX5, "goOn", "(I)I"⟩
abbrev cX5_comeToNeed : ByteArray := prog_1_method_31_code
def yX5_comeToNeed : MethodName := ⟨RX5, "comeToNeed", "(I)I"⟩
abbrev cX5_beginItself : ByteArray := prog_1_method_32_code
def yX5_beginItself : MethodName := ⟨RX5, "beginItself", "(I)I"⟩
abbrev cX5_markHeld : ByteArray := prog_1_method_33_code
def yX5_markHeld : MethodName := ⟨RX5, "markHeld", "()V"⟩
abbrev cX5_markHeldBy : ByteArray := prog_1_method_34_code
def yX5_markHeldBy : MethodName := ⟨RX5, "markHeldBy", "(I)V"⟩
def RX6 : String := "ModuleLoadersModel"
def TX6 : u_T := fun k => match k with
  | 0 => ("ModuleLoadersModel", "files", "I", false)
  | 1 => ("ModuleLoadersModel", "inner", "[I", true)
  | 2 => ("ModuleLoadersModel", "content", "[I", true)
  | 3 => ("ModuleLoadersModel", "parentName", "[I", true)
  | 4 => ("ModuleLoadersModel", "needName", "[I", true)
  | 5 => ("ModuleLoadersModel", "flags", "[I", true)
  | 6 => ("ModuleLoadersModel", "loaders", "I", false)
  | 7 => ("ModuleLoadersModel", "above", "[I", true)
  | 8 => ("ModuleLoadersModel", "ownFirst", "[Z", true)
  | 9 => ("ModuleLoadersModel", "isGone", "[Z", true)
  | 10 => ("ModuleLoadersModel", "shelf", "[I", true)
  | 11 => ("ModuleLoadersModel", "made", "[I", true)
  | 12 => ("ModuleLoadersModel", "given", "[I", true)
  | 13 => ("ModuleLoadersModel", "isMaking", "[Z", true)
  | 14 => ("ModuleLoadersModel", "modules", "I", false)
  | 15 => ("ModuleLoadersModel", "loaderOf", "[I", true)
  | 16 => ("ModuleLoadersModel", "nameOf", "[I", true)
  | 17 => ("ModuleLoadersModel", "parentOf", "[I", true)
  | 18 => ("ModuleLoadersModel", "fileOf", "[I", true)
  | 19 => ("ModuleLoadersModel", "state", "[I", true)
  | 20 => ("ModuleLoadersModel", "things", "I", false)
  | 21 => ("ModuleLoadersModel", "thingOf", "[I", true)
  | 22 => ("ModuleLoadersModel", "isDropped", "[Z", true)
  | 23 => ("ModuleLoadersModel", "ordered", "I", false)
  | 24 => ("ModuleLoadersModel", "orders", "[I", true)
  | 25 => ("ModuleLoadersModel", "deep", "I", false)
  | 26 => ("ModuleLoadersModel", "what", "[I", true)
  | 27 => ("ModuleLoadersModel", "stage", "[I", true)
  | 28 => ("ModuleLoadersModel", "place", "[I", true)
  | 29 => ("ModuleLoadersModel", "paper", "[I", true)
  | 30 => ("ModuleLoadersModel", "isAnew", "[Z", true)
  | 31 => ("ModuleLoadersModel", "gave", "I", false)
  | _ => ("ModuleLoadersModel", "isKept", "[Z", true)
def tyX6 : Nat → FieldType := fun k => match k with
  | 0 => .int
  | 1 => .array .int
  | 2 => .array .int
  | 3 => .array .int
  | 4 => .array .int
  | 5 => .array .int
  | 6 => .int
  | 7 => .array .int
  | 8 => .array .boolean
  | 9 => .array .boolean
  | 10 => .array .int
  | 11 => .array .int
  | 12 => .array .int
  | 13 => .array .boolean
  | 14 => .int
  | 15 => .array .int
  | 16 => .array .int
  | 17 => .array .int
  | 18 => .array .int
  | 19 => .array .int
  | 20 => .int
  | 21 => .array .int
  | 22 => .array .boolean
  | 23 => .int
  | 24 => .array .int
  | 25 => .int
  | 26 => .array .int
  | 27 => .array .int
  | 28 => .array .int
  | 29 => .array .int
  | 30 => .array .boolean
  | 31 => .int
  | _ => .array .boolean
theorem nmX6 : ∀ a, a < 33 → ∀ b, b < 33 → a ≠ b → (TX6 a).2.1 ≠ (TX6 b).2.1 := by decide +kernel
theorem tyX6_ok : ∀ k, k < 33 → parseFieldDescriptor (TX6 k).2.2.1 = some (tyX6 k) := by decide +kernel
abbrev cX6_init : ByteArray := prog_8_method_1_code
def yX6_init : MethodName := ⟨RX6, "<init>", "()V"⟩
abbrev cX6_in : ByteArray := prog_8_method_3_code
def yX6_in : MethodName := ⟨RX6, "in", "(III)Z"⟩
abbrev cX6_isName : ByteArray := prog_8_method_4_code
def yX6_isName : MethodName := ⟨RX6, "isName", "(I)Z"⟩
abbrev cX6_isLoader : ByteArray := prog_8_method_5_code
def yX6_isLoader : MethodName := ⟨RX6, "isLoader", "(I)Z"⟩
abbrev cX6_isFile : ByteArray := prog_8_method_6_code
def yX6_isFile : MethodName := ⟨RX6, "isFile", "(I)Z"⟩
abbrev cX6_isModule : ByteArray := prog_8_method_7_code
def yX6_isModule : MethodName := ⟨RX6, "isModule", "(I)Z"⟩
abbrev cX6_isThing : ByteArray := prog_8_method_8_code
def yX6_isThing : MethodName := ⟨RX6, "isThing", "(I)Z"⟩
abbrev cX6_file : ByteArray := prog_8_method_9_code
def yX6_file : MethodName := ⟨RX6, "file", "(IIIII)I"⟩
abbrev cX6_loader : ByteArray := prog_8_method_10_code
def yX6_loader : MethodName := ⟨RX6, "loader", "(IZ)I"⟩
abbrev cX6_put : ByteArray := prog_8_method_11_code
def yX6_put : MethodName := ⟨RX6, "put", "(III)I"⟩
abbrev cX6_push : ByteArray := prog_8_method_12_code
def yX6_push : MethodName := ⟨RX6, "push", "(IIIZ)V"⟩
abbrev cX6_gives : ByteArray := prog_8_method_13_code
def yX6_gives : MethodName := ⟨RX6, "gives", "(I)V"⟩
abbrev cX6_runs : ByteArray := prog_8_method_14_code
def yX6_runs : MethodName := ⟨RX6, "runs", "()I"⟩
abbrev cX6_asksAbove : ByteArray := prog_8_method_15_code
def yX6_asksAbove : MethodName := ⟨RX6, "asksAbove", "(III)V"⟩
abbrev cX6_asks : ByteArray := prog_8_method_16_code
def yX6_asks : MethodName := ⟨RX6, "asks", "(II)V"⟩
abbrev cX6_keeps : ByteArray := prog_8_method_17_code
def yX6_keeps : MethodName := ⟨RX6, "keeps", "(I)V"⟩
abbrev cX6_against : ByteArray := prog_8_method_18_code
def yX6_against : MethodName := ⟨RX6, "against", "(III)I"⟩
abbrev cX6_makes : ByteArray := prog_8_method_19_code
def yX6_makes : MethodName := ⟨RX6, "makes", "(III)V"⟩
abbrev cX6_stands : ByteArray := prog_8_method_20_code
def yX6_stands : MethodName := ⟨RX6, "stands", "(III)V"⟩
abbrev cX6_begins : ByteArray := prog_8_method_21_code
def yX6_begins : MethodName := ⟨RX6, "begins", "(II)V"⟩
abbrev cX6_does : ByteArray := prog_8_method_22_code
def yX6_does : MethodName := ⟨RX6, "does", "(IIIZ)I"⟩
abbrev cX6_load : ByteArray := prog_8_method_23_code
def yX6_load : MethodName := ⟨RX6, "load", "(II)I"⟩
abbrev cX6_define : ByteArray := prog_8_method_24_code
def yX6_define : MethodName := ⟨RX6, "define", "(III)I"⟩
abbrev cX6_anew : ByteArray := prog_8_method_25_code
def yX6_anew : MethodName := ⟨RX6, "anew", "(III)I"⟩
abbrev cX6_known : ByteArray := prog_8_method_26_code
def yX6_known : MethodName := ⟨RX6, "known", "(II)I"⟩
abbrev cX6_begin : ByteArray := prog_8_method_27_code
def yX6_begin : MethodName := ⟨RX6, "begin", "(I)I"⟩
abbrev cX6_thing : ByteArray := prog_8_method_28_code
def yX6_thing : MethodName := ⟨RX6, "thing", "(I)I"⟩
abbrev cX6_cast : ByteArray := prog_8_method_29_code
def yX6_cast : MethodName := ⟨RX6, "cast", "(II)I"⟩
abbrev cX6_drop : ByteArray := prog_8_method_30_code
def yX6_drop : MethodName := ⟨RX6, "drop", "(I)I"⟩
abbrev cX6_letGo : ByteArray := prog_8_method_31_code
def yX6_letGo : MethodName := ⟨RX6, "letGo", "(I)I"⟩
abbrev cX6_holds : ByteArray := prog_8_method_32_code
def yX6_holds : MethodName := ⟨RX6, "holds", "()V"⟩
abbrev cX6_held : ByteArray := prog_8_method_33_code
def yX6_held : MethodName := ⟨RX6, "held", "(I)I"⟩
abbrev cX6_isHeld : ByteArray := prog_8_method_34_code
def yX6_isHeld : MethodName := ⟨RX6, "isHeld", "(I)I"⟩
abbrev cX6_about : ByteArray := prog_8_method_35_code
def yX6_about : MethodName := ⟨RX6, "about", "(II)I"⟩
abbrev cX6_aboutThing : ByteArray := prog_8_method_36_code
def yX6_aboutThing : MethodName := ⟨RX6, "aboutThing", "(II)I"⟩
abbrev cX6_order : ByteArray := prog_8_method_37_code
def yX6_order : MethodName := ⟨RX6, "order", "(I)I"⟩
abbrev cX6_count : ByteArray := prog_8_method_38_code
def yX6_count : MethodName := ⟨RX6, "count", "(I)I"⟩
def RJ7 : String := "java/util/Arrays"
def TJ7 : u_T := fun k => match k with
  | _ => ("", "", "", false)
def tyJ7 : Nat → FieldType := fun k => match k with
  | _ => .int
theorem nmJ7 : ∀ a, a < 0 → ∀ b, b < 0 → a ≠ b → (TJ7 a).2.1 ≠ (TJ7 b).2.1 := by decide +kernel
theorem tyJ7_ok : ∀ k, k < 0 → parseFieldDescriptor (TJ7 k).2.2.1 = some (tyJ7 k) := by decide +kernel
abbrev cJ7_fill_53178 : ByteArray := prog_9_method_103_code
def yJ7_fill_53178 : MethodName := ⟨RJ7, "fill", "([II)V"⟩
def RL : String := "ModuleLoadersLaw"
abbrev cL_law : ByteArray := code
def yL_law : MethodName := ⟨RL, "law", "([I)Z"⟩
abbrev vwCl : List vw_C := [(RX0, TX0, 6), (RX1, TX1, 8), (RX2, TX2, 6), (RX3, TX3, 2), (RX4, TX4, 3), (RX5, TX5, 7), (RX6, TX6, 33)]
