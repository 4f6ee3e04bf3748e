section
-- ===== PART A: goes FIRST, ahead of the names: the tables' words, and 'selects' of the private methods out of them =====
/-- a private method of a class that the tables say can be made, by its rows of tables_1 -/
def lw_okq (q : MethodName × Nat) : Prop := (q.1.cls ≠ "java/lang/invoke/MethodHandle" ∧ q.1.cls ≠ "java/lang/invoke/VarHandle") ∧ Cond.instantiable q.1.cls q.2 ∈ tables_1 ∧ Cond.privateMethod q.1 ∈ tables_1 ∧ Cond.instanceMethod q.1 ∈ tables_1
theorem lw_p0 : lw_okq (⟨"VersionGroup", "bring", "(II)V"⟩, 5) := ⟨⟨by decide +kernel, by decide +kernel⟩, List.mem_of_getElem? (i := 20) (by decide +kernel), List.mem_of_getElem? (i := 414) (by decide +kernel), List.mem_of_getElem? (i := 415) (by decide +kernel)⟩
theorem lw_p1 : lw_okq (⟨"VersionGroup", "arrive", "(LVersionGroup$Message;)V"⟩, 5) := ⟨⟨by decide +kernel, by decide +kernel⟩, List.mem_of_getElem? (i := 20) (by decide +kernel), List.mem_of_getElem? (i := 425) (by decide +kernel), List.mem_of_getElem? (i := 426) (by decide +kernel)⟩
theorem lw_p2 : lw_okq (⟨"VersionGroup", "isNode", "(I)Z"⟩, 5) := ⟨⟨by decide +kernel, by decide +kernel⟩, List.mem_of_getElem? (i := 20) (by decide +kernel), List.mem_of_getElem? (i := 442) (by decide +kernel), List.mem_of_getElem? (i := 443) (by decide +kernel)⟩
theorem lw_p3 : lw_okq (⟨"VersionGroup$Node", "hearMap", "(LVersionGroup$Message;)V"⟩, 10) := ⟨⟨by decide +kernel, by decide +kernel⟩, List.mem_of_getElem? (i := 219) (by decide +kernel), List.mem_of_getElem? (i := 452) (by decide +kernel), List.mem_of_getElem? (i := 453) (by decide +kernel)⟩
theorem lw_p4 : lw_okq (⟨"VersionGroup$Node", "hearCommand", "(LVersionGroup$Command;)V"⟩, 10) := ⟨⟨by decide +kernel, by decide +kernel⟩, List.mem_of_getElem? (i := 219) (by decide +kernel), List.mem_of_getElem? (i := 468) (by decide +kernel), List.mem_of_getElem? (i := 469) (by decide +kernel)⟩
theorem lw_p5 : lw_okq (⟨"VersionGroup$Node", "tellAnswer", "(I)V"⟩, 10) := ⟨⟨by decide +kernel, by decide +kernel⟩, List.mem_of_getElem? (i := 219) (by decide +kernel), List.mem_of_getElem? (i := 476) (by decide +kernel), List.mem_of_getElem? (i := 477) (by decide +kernel)⟩
theorem lw_p6 : lw_okq (⟨"VersionGroup$Copy", "perform", "(LVersionGroup$Command;)I"⟩, 6) := ⟨⟨by decide +kernel, by decide +kernel⟩, List.mem_of_getElem? (i := 63) (by decide +kernel), List.mem_of_getElem? (i := 507) (by decide +kernel), List.mem_of_getElem? (i := 508) (by decide +kernel)⟩
theorem lw_p7 : lw_okq (⟨"VersionGroup", "drop", "(I)V"⟩, 5) := ⟨⟨by decide +kernel, by decide +kernel⟩, List.mem_of_getElem? (i := 20) (by decide +kernel), List.mem_of_getElem? (i := 526) (by decide +kernel), List.mem_of_getElem? (i := 527) (by decide +kernel)⟩
theorem lw_p8 : lw_okq (⟨"VersionGroup", "passOneTick", "()V"⟩, 5) := ⟨⟨by decide +kernel, by decide +kernel⟩, List.mem_of_getElem? (i := 20) (by decide +kernel), List.mem_of_getElem? (i := 543) (by decide +kernel), List.mem_of_getElem? (i := 544) (by decide +kernel)⟩
theorem lw_p9 : lw_okq (⟨"VersionGroup$Node", "flush", "()V"⟩, 10) := ⟨⟨by decide +kernel, by decide +kernel⟩, List.mem_of_getElem? (i := 219) (by decide +kernel), List.mem_of_getElem? (i := 562) (by decide +kernel), List.mem_of_getElem? (i := 563) (by decide +kernel)⟩
theorem lw_p10 : lw_okq (⟨"VersionGroup$Node", "lead", "()V"⟩, 10) := ⟨⟨by decide +kernel, by decide +kernel⟩, List.mem_of_getElem? (i := 219) (by decide +kernel), List.mem_of_getElem? (i := 567) (by decide +kernel), List.mem_of_getElem? (i := 568) (by decide +kernel)⟩
theorem lw_p11 : lw_okq (⟨"VersionGroup$Node", "prepare", "()V"⟩, 10) := ⟨⟨by decide +kernel, by decide +kernel⟩, List.mem_of_getElem? (i := 219) (by decide +kernel), List.mem_of_getElem? (i := 571) (by decide +kernel), List.mem_of_getElem? (i := 572) (by decide +kernel)⟩
theorem lw_p12 : lw_okq (⟨"VersionGroup$Node", "doWhatIsAgreed", "()V"⟩, 10) := ⟨⟨by decide +kernel, by decide +kernel⟩, List.mem_of_getElem? (i := 219) (by decide +kernel), List.mem_of_getElem? (i := 589) (by decide +kernel), List.mem_of_getElem? (i := 590) (by decide +kernel)⟩
theorem lw_p13 : lw_okq (⟨"VersionGroup$Node", "guide", "(I)V"⟩, 10) := ⟨⟨by decide +kernel, by decide +kernel⟩, List.mem_of_getElem? (i := 219) (by decide +kernel), List.mem_of_getElem? (i := 599) (by decide +kernel), List.mem_of_getElem? (i := 600) (by decide +kernel)⟩
theorem lw_p14 : lw_okq (⟨"VersionGroup$Node", "sendCopy", "(I)V"⟩, 10) := ⟨⟨by decide +kernel, by decide +kernel⟩, List.mem_of_getElem? (i := 219) (by decide +kernel), List.mem_of_getElem? (i := 609) (by decide +kernel), List.mem_of_getElem? (i := 610) (by decide +kernel)⟩
theorem lw_p15 : lw_okq (⟨"VersionGroup", "bringAll", "()V"⟩, 5) := ⟨⟨by decide +kernel, by decide +kernel⟩, List.mem_of_getElem? (i := 20) (by decide +kernel), List.mem_of_getElem? (i := 646) (by decide +kernel), List.mem_of_getElem? (i := 647) (by decide +kernel)⟩
def lw_privs_1 : List (MethodName × Nat) := [(⟨"VersionGroup", "bring", "(II)V"⟩, 5), (⟨"VersionGroup", "arrive", "(LVersionGroup$Message;)V"⟩, 5), (⟨"VersionGroup", "isNode", "(I)Z"⟩, 5), (⟨"VersionGroup$Node", "hearMap", "(LVersionGroup$Message;)V"⟩, 10), (⟨"VersionGroup$Node", "hearCommand", "(LVersionGroup$Command;)V"⟩, 10), (⟨"VersionGroup$Node", "tellAnswer", "(I)V"⟩, 10), (⟨"VersionGroup$Copy", "perform", "(LVersionGroup$Command;)I"⟩, 6), (⟨"VersionGroup", "drop", "(I)V"⟩, 5), (⟨"VersionGroup", "passOneTick", "()V"⟩, 5), (⟨"VersionGroup$Node", "flush", "()V"⟩, 10), (⟨"VersionGroup$Node", "lead", "()V"⟩, 10), (⟨"VersionGroup$Node", "prepare", "()V"⟩, 10), (⟨"VersionGroup$Node", "doWhatIsAgreed", "()V"⟩, 10), (⟨"VersionGroup$Node", "guide", "(I)V"⟩, 10), (⟨"VersionGroup$Node", "sendCopy", "(I)V"⟩, 10), (⟨"VersionGroup", "bringAll", "()V"⟩, 5)]
theorem lw_r1 : ∀ q ∈ lw_privs_1, lw_okq q := List.forall_mem_cons.mpr ⟨lw_p0, List.forall_mem_cons.mpr ⟨lw_p1, List.forall_mem_cons.mpr ⟨lw_p2, List.forall_mem_cons.mpr ⟨lw_p3, List.forall_mem_cons.mpr ⟨lw_p4, List.forall_mem_cons.mpr ⟨lw_p5, List.forall_mem_cons.mpr ⟨lw_p6, List.forall_mem_cons.mpr ⟨lw_p7, List.forall_mem_cons.mpr ⟨lw_p8, List.forall_mem_cons.mpr ⟨lw_p9, List.forall_mem_cons.mpr ⟨lw_p10, List.forall_mem_cons.mpr ⟨lw_p11, List.forall_mem_cons.mpr ⟨lw_p12, List.forall_mem_cons.mpr ⟨lw_p13, List.forall_mem_cons.mpr ⟨lw_p14, List.forall_mem_cons.mpr ⟨lw_p15, fun _ h => absurd h List.not_mem_nil⟩⟩⟩⟩⟩⟩⟩⟩⟩⟩⟩⟩⟩⟩⟩⟩
theorem lw_p16 : lw_okq (⟨"VersionGroup", "nodesUp", "()I"⟩, 5) := ⟨⟨by decide +kernel, by decide +kernel⟩, List.mem_of_getElem? (i := 20) (by decide +kernel), List.mem_of_getElem? (i := 678) (by decide +kernel), List.mem_of_getElem? (i := 679) (by decide +kernel)⟩
theorem lw_p17 : lw_okq (⟨"VersionGroupModel", "turn", "(IZ)Z"⟩, 14) := ⟨⟨by decide +kernel, by decide +kernel⟩, List.mem_of_getElem? (i := 685) (by decide +kernel), List.mem_of_getElem? (i := 763) (by decide +kernel), List.mem_of_getElem? (i := 764) (by decide +kernel)⟩
theorem lw_p18 : lw_okq (⟨"VersionGroupModel", "act", "(I)J"⟩, 14) := ⟨⟨by decide +kernel, by decide +kernel⟩, List.mem_of_getElem? (i := 685) (by decide +kernel), List.mem_of_getElem? (i := 779) (by decide +kernel), List.mem_of_getElem? (i := 780) (by decide +kernel)⟩
theorem lw_p19 : lw_okq (⟨"VersionGroupModel", "set", "(IZI)V"⟩, 14) := ⟨⟨by decide +kernel, by decide +kernel⟩, List.mem_of_getElem? (i := 685) (by decide +kernel), List.mem_of_getElem? (i := 783) (by decide +kernel), List.mem_of_getElem? (i := 784) (by decide +kernel)⟩
theorem lw_p20 : lw_okq (⟨"VersionGroupModel", "copy", "(I)Z"⟩, 14) := ⟨⟨by decide +kernel, by decide +kernel⟩, List.mem_of_getElem? (i := 685) (by decide +kernel), List.mem_of_getElem? (i := 798) (by decide +kernel), List.mem_of_getElem? (i := 799) (by decide +kernel)⟩
def lw_privs_2 : List (MethodName × Nat) := [(⟨"VersionGroup", "nodesUp", "()I"⟩, 5), (⟨"VersionGroupModel", "turn", "(IZ)Z"⟩, 14), (⟨"VersionGroupModel", "act", "(I)J"⟩, 14), (⟨"VersionGroupModel", "set", "(IZI)V"⟩, 14), (⟨"VersionGroupModel", "copy", "(I)Z"⟩, 14)]
theorem lw_r2 : ∀ q ∈ lw_privs_2, lw_okq q := List.forall_mem_cons.mpr ⟨lw_p16, List.forall_mem_cons.mpr ⟨lw_p17, List.forall_mem_cons.mpr ⟨lw_p18, List.forall_mem_cons.mpr ⟨lw_p19, List.forall_mem_cons.mpr ⟨lw_p20, fun _ h => absurd h List.not_mem_nil⟩⟩⟩⟩⟩
def lw_privs : List (MethodName × Nat) := lw_privs_1 ++ (lw_privs_2)
def lw_tbl : List Cond := k2_sels lw_privs ++ tables_1
theorem lw_privs_ok : ∀ q ∈ lw_privs, lw_okq q := by
  show ∀ q ∈ lw_privs_1 ++ (lw_privs_2), lw_okq q
  exact List.forall_mem_append.mpr ⟨lw_r1, lw_r2⟩
end
section
/-! Names, printed by wip/tools/gen_names.py out of the Statement: classes with their fields, methods, decode rows, links. -/
abbrev n_Command : String := "VersionGroup$Command"
def T_Command : u_T := fun k => match k with
  | 0 => ("VersionGroup$Command", "number", "I", true)
  | 1 => ("VersionGroup$Command", "kind", "I", true)
  | 2 => ("VersionGroup$Command", "k", "I", true)
  | _ => ("VersionGroup$Command", "v", "I", true)
def ty_Command : Nat → FieldType := fun k => match k with
  | 0 => .int
  | 1 => .int
  | 2 => .int
  | _ => .int
theorem nm_Command : ∀ a, a < 4 → ∀ b, b < 4 → a ≠ b → (T_Command a).2.1 ≠ (T_Command b).2.1 := by decide +kernel
theorem tyok_Command : ∀ k, k < 4 → parseFieldDescriptor (T_Command k).2.2.1 = some (ty_Command k) := by decide +kernel
abbrev n_Copy : String := "VersionGroup$Copy"
def T_Copy : u_T := fun k => match k with
  | 0 => ("VersionGroup$Copy", "done", "I", false)
  | 1 => ("VersionGroup$Copy", "end", "I", false)
  | 2 => ("VersionGroup$Copy", "held", "J", false)
  | 3 => ("VersionGroup$Copy", "values", "[I", true)
  | 4 => ("VersionGroup$Copy", "answers", "[I", true)
  | _ => ("VersionGroup$Copy", "log", "[LVersionGroup$Command;", true)
def ty_Copy : Nat → FieldType := fun k => match k with
  | 0 => .int
  | 1 => .int
  | 2 => .long
  | 3 => .array .int
  | 4 => .array .int
  | _ => .array (.object "VersionGroup$Command")
theorem nm_Copy : ∀ a, a < 6 → ∀ b, b < 6 → a ≠ b → (T_Copy a).2.1 ≠ (T_Copy b).2.1 := by decide +kernel
theorem tyok_Copy : ∀ k, k < 6 → parseFieldDescriptor (T_Copy k).2.2.1 = some (ty_Copy k) := by decide +kernel
abbrev n_Plan : String := "VersionGroup$Plan"
def T_Plan : u_T := fun k => match k with
  | 0 => ("VersionGroup$Plan", "nodes", "I", true)
  | _ => ("VersionGroup$Plan", "copies", "I", true)
def ty_Plan : Nat → FieldType := fun k => match k with
  | 0 => .int
  | _ => .int
theorem nm_Plan : ∀ a, a < 2 → ∀ b, b < 2 → a ≠ b → (T_Plan a).2.1 ≠ (T_Plan b).2.1 := by decide +kernel
theorem tyok_Plan : ∀ k, k < 2 → parseFieldDescriptor (T_Plan k).2.2.1 = some (ty_Plan k) := by decide +kernel
abbrev n_Message : String := "VersionGroup$Message"
def T_Message : u_T := fun k => match k with
  | 0 => ("VersionGroup$Message", "kind", "LVersionGroup$Kind;", false)
  | 1 => ("VersionGroup$Message", "from", "I", false)
  | 2 => ("VersionGroup$Message", "to", "I", false)
  | 3 => ("VersionGroup$Message", "epoch", "I", false)
  | 4 => ("VersionGroup$Message", "set", "I", false)
  | 5 => ("VersionGroup$Message", "end", "I", false)
  | 6 => ("VersionGroup$Message", "done", "I", false)
  | 7 => ("VersionGroup$Message", "number", "I", false)
  | 8 => ("VersionGroup$Message", "answer", "I", false)
  | 9 => ("VersionGroup$Message", "command", "LVersionGroup$Command;", false)
  | _ => ("VersionGroup$Message", "copy", "LVersionGroup$Copy;", true)
def ty_Message : Nat → FieldType := fun k => match k with
  | 0 => .object "VersionGroup$Kind"
  | 1 => .int
  | 2 => .int
  | 3 => .int
  | 4 => .int
  | 5 => .int
  | 6 => .int
  | 7 => .int
  | 8 => .int
  | 9 => .object "VersionGroup$Command"
  | _ => .object "VersionGroup$Copy"
theorem nm_Message : ∀ a, a < 11 → ∀ b, b < 11 → a ≠ b → (T_Message a).2.1 ≠ (T_Message b).2.1 := by decide +kernel
theorem tyok_Message : ∀ k, k < 11 → parseFieldDescriptor (T_Message k).2.2.1 = some (ty_Message k) := by decide +kernel
abbrev n_Post : String := "VersionGroup$Post"
def T_Post : u_T := fun k => match k with
  | 0 => ("VersionGroup$Post", "slots", "[LVersionGroup$Message;", true)
  | 1 => ("VersionGroup$Post", "order", "[I", true)
  | _ => ("VersionGroup$Post", "size", "I", false)
def ty_Post : Nat → FieldType := fun k => match k with
  | 0 => .array (.object "VersionGroup$Message")
  | 1 => .array .int
  | _ => .int
theorem nm_Post : ∀ a, a < 3 → ∀ b, b < 3 → a ≠ b → (T_Post a).2.1 ≠ (T_Post b).2.1 := by decide +kernel
theorem tyok_Post : ∀ k, k < 3 → parseFieldDescriptor (T_Post k).2.2.1 = some (ty_Post k) := by decide +kernel
abbrev n_MapKeeper : String := "VersionGroup$MapKeeper"
def T_MapKeeper : u_T := fun k => match k with
  | 0 => ("VersionGroup$MapKeeper", "plan", "LVersionGroup$Plan;", true)
  | 1 => ("VersionGroup$MapKeeper", "post", "LVersionGroup$Post;", true)
  | 2 => ("VersionGroup$MapKeeper", "heard", "[I", true)
  | 3 => ("VersionGroup$MapKeeper", "epoch", "I", false)
  | 4 => ("VersionGroup$MapKeeper", "set", "I", false)
  | _ => ("VersionGroup$MapKeeper", "leader", "I", false)
def ty_MapKeeper : Nat → FieldType := fun k => match k with
  | 0 => .object "VersionGroup$Plan"
  | 1 => .object "VersionGroup$Post"
  | 2 => .array .int
  | 3 => .int
  | 4 => .int
  | _ => .int
theorem nm_MapKeeper : ∀ a, a < 6 → ∀ b, b < 6 → a ≠ b → (T_MapKeeper a).2.1 ≠ (T_MapKeeper b).2.1 := by decide +kernel
theorem tyok_MapKeeper : ∀ k, k < 6 → parseFieldDescriptor (T_MapKeeper k).2.2.1 = some (ty_MapKeeper k) := by decide +kernel
abbrev n_Desk : String := "VersionGroup$Desk"
def T_Desk : u_T := fun k => match k with
  | 0 => ("VersionGroup$Desk", "post", "LVersionGroup$Post;", true)
  | 1 => ("VersionGroup$Desk", "commands", "[LVersionGroup$Command;", true)
  | 2 => ("VersionGroup$Desk", "arrived", "[Z", true)
  | 3 => ("VersionGroup$Desk", "answers", "[I", true)
  | 4 => ("VersionGroup$Desk", "given", "I", false)
  | _ => ("VersionGroup$Desk", "told", "I", false)
def ty_Desk : Nat → FieldType := fun k => match k with
  | 0 => .object "VersionGroup$Post"
  | 1 => .array (.object "VersionGroup$Command")
  | 2 => .array .boolean
  | 3 => .array .int
  | 4 => .int
  | _ => .int
theorem nm_Desk : ∀ a, a < 6 → ∀ b, b < 6 → a ≠ b → (T_Desk a).2.1 ≠ (T_Desk b).2.1 := by decide +kernel
theorem tyok_Desk : ∀ k, k < 6 → parseFieldDescriptor (T_Desk k).2.2.1 = some (ty_Desk k) := by decide +kernel
abbrev n_Memory : String := "VersionGroup$Memory"
def T_Memory : u_T := fun k => match k with
  | 0 => ("VersionGroup$Memory", "epoch", "I", false)
  | 1 => ("VersionGroup$Memory", "keepers", "I", false)
  | 2 => ("VersionGroup$Memory", "leader", "I", false)
  | _ => ("VersionGroup$Memory", "copy", "LVersionGroup$Copy;", true)
def ty_Memory : Nat → FieldType := fun k => match k with
  | 0 => .int
  | 1 => .int
  | 2 => .int
  | _ => .object "VersionGroup$Copy"
theorem nm_Memory : ∀ a, a < 4 → ∀ b, b < 4 → a ≠ b → (T_Memory a).2.1 ≠ (T_Memory b).2.1 := by decide +kernel
theorem tyok_Memory : ∀ k, k < 4 → parseFieldDescriptor (T_Memory k).2.2.1 = some (ty_Memory k) := by decide +kernel
abbrev n_Reports : String := "VersionGroup$Reports"
def T_Reports : u_T := fun k => match k with
  | 0 => ("VersionGroup$Reports", "heard", "[Z", true)
  | 1 => ("VersionGroup$Reports", "ends", "[I", true)
  | 2 => ("VersionGroup$Reports", "dones", "[I", true)
  | 3 => ("VersionGroup$Reports", "ready", "Z", false)
  | _ => ("VersionGroup$Reports", "base", "I", false)
def ty_Reports : Nat → FieldType := fun k => match k with
  | 0 => .array .boolean
  | 1 => .array .int
  | 2 => .array .int
  | 3 => .boolean
  | _ => .int
theorem nm_Reports : ∀ a, a < 5 → ∀ b, b < 5 → a ≠ b → (T_Reports a).2.1 ≠ (T_Reports b).2.1 := by decide +kernel
theorem tyok_Reports : ∀ k, k < 5 → parseFieldDescriptor (T_Reports k).2.2.1 = some (ty_Reports k) := by decide +kernel
abbrev n_Node : String := "VersionGroup$Node"
def T_Node : u_T := fun k => match k with
  | 0 => ("VersionGroup$Node", "self", "I", true)
  | 1 => ("VersionGroup$Node", "plan", "LVersionGroup$Plan;", true)
  | 2 => ("VersionGroup$Node", "post", "LVersionGroup$Post;", true)
  | 3 => ("VersionGroup$Node", "known", "LVersionGroup$Memory;", true)
  | 4 => ("VersionGroup$Node", "flushed", "LVersionGroup$Memory;", true)
  | 5 => ("VersionGroup$Node", "reports", "LVersionGroup$Reports;", true)
  | 6 => ("VersionGroup$Node", "up", "Z", false)
  | 7 => ("VersionGroup$Node", "dirty", "Z", false)
  | 8 => ("VersionGroup$Node", "owesHeard", "Z", false)
  | _ => ("VersionGroup$Node", "owesReport", "Z", false)
def ty_Node : Nat → FieldType := fun k => match k with
  | 0 => .int
  | 1 => .object "VersionGroup$Plan"
  | 2 => .object "VersionGroup$Post"
  | 3 => .object "VersionGroup$Memory"
  | 4 => .object "VersionGroup$Memory"
  | 5 => .object "VersionGroup$Reports"
  | 6 => .boolean
  | 7 => .boolean
  | 8 => .boolean
  | _ => .boolean
theorem nm_Node : ∀ a, a < 10 → ∀ b, b < 10 → a ≠ b → (T_Node a).2.1 ≠ (T_Node b).2.1 := by decide +kernel
theorem tyok_Node : ∀ k, k < 10 → parseFieldDescriptor (T_Node k).2.2.1 = some (ty_Node k) := by decide +kernel
abbrev n_VG : String := "VersionGroup"
def T_VG : u_T := fun k => match k with
  | 0 => ("VersionGroup", "post", "LVersionGroup$Post;", true)
  | 1 => ("VersionGroup", "keeper", "LVersionGroup$MapKeeper;", true)
  | 2 => ("VersionGroup", "desk", "LVersionGroup$Desk;", true)
  | 3 => ("VersionGroup", "nodes", "[LVersionGroup$Node;", true)
  | _ => ("VersionGroup", "calm", "Z", false)
def ty_VG : Nat → FieldType := fun k => match k with
  | 0 => .object "VersionGroup$Post"
  | 1 => .object "VersionGroup$MapKeeper"
  | 2 => .object "VersionGroup$Desk"
  | 3 => .array (.object "VersionGroup$Node")
  | _ => .boolean
theorem nm_VG : ∀ a, a < 5 → ∀ b, b < 5 → a ≠ b → (T_VG a).2.1 ≠ (T_VG b).2.1 := by decide +kernel
theorem tyok_VG : ∀ k, k < 5 → parseFieldDescriptor (T_VG k).2.2.1 = some (ty_VG k) := by decide +kernel
abbrev n_Mod : String := "VersionGroupModel"
def T_Mod : u_T := fun k => match k with
  | 0 => ("VersionGroupModel", "nodes", "I", true)
  | 1 => ("VersionGroupModel", "copies", "I", true)
  | 2 => ("VersionGroupModel", "value", "[I", true)
  | 3 => ("VersionGroupModel", "has", "[Z", true)
  | 4 => ("VersionGroupModel", "kind", "[I", true)
  | 5 => ("VersionGroupModel", "key", "[I", true)
  | 6 => ("VersionGroupModel", "with", "[I", true)
  | 7 => ("VersionGroupModel", "waiting", "I", false)
  | 8 => ("VersionGroupModel", "answers", "[J", false)
  | 9 => ("VersionGroupModel", "given", "I", false)
  | 10 => ("VersionGroupModel", "up", "I", false)
  | 11 => ("VersionGroupModel", "inside", "I", false)
  | 12 => ("VersionGroupModel", "epoch", "I", false)
  | _ => ("VersionGroupModel", "calm", "Z", false)
def ty_Mod : Nat → FieldType := fun k => match k with
  | 0 => .int
  | 1 => .int
  | 2 => .array .int
  | 3 => .array .boolean
  | 4 => .array .int
  | 5 => .array .int
  | 6 => .array .int
  | 7 => .int
  | 8 => .array .long
  | 9 => .int
  | 10 => .int
  | 11 => .int
  | 12 => .int
  | _ => .boolean
theorem nm_Mod : ∀ a, a < 14 → ∀ b, b < 14 → a ≠ b → (T_Mod a).2.1 ≠ (T_Mod b).2.1 := by decide +kernel
theorem tyok_Mod : ∀ k, k < 14 → parseFieldDescriptor (T_Mod k).2.2.1 = some (ty_Mod k) := by decide +kernel
abbrev vwCl : List vw_C := [(n_Command, T_Command, 4), (n_Copy, T_Copy, 6), (n_Plan, T_Plan, 2), (n_Message, T_Message, 11), (n_Post, T_Post, 3), (n_MapKeeper, T_MapKeeper, 6), (n_Desk, T_Desk, 6), (n_Memory, T_Memory, 4), (n_Reports, T_Reports, 5), (n_Node, T_Node, 10), (n_VG, T_VG, 5), (n_Mod, T_Mod, 14)]
abbrev Y_VG_init : String × ByteArray × Nat × Option FieldType × String := ("VersionGroup", prog_1_method_1_code, 5, none, "<init>")
abbrev ds_VG_init : String := "(II)V"
abbrev Y_Object_init : String × ByteArray × Nat × Option FieldType × String := ("java/lang/Object", object_method_1_code, 1, none, "<init>")
abbrev ds_Object_init : String := "()V"
abbrev Y_Math_min : String × ByteArray × Nat × Option FieldType × String := ("java/lang/Math", prog_18_method_69_code, 2, some .int, "min")
abbrev ds_Math_min : String := "(II)I"
abbrev Y_Math_max : String × ByteArray × Nat × Option FieldType × String := ("java/lang/Math", prog_18_method_65_code, 2, some .int, "max")
abbrev ds_Math_max : String := "(II)I"
abbrev Y_Plan_init : String × ByteArray × Nat × Option FieldType × String := ("VersionGroup$Plan", prog_11_method_1_code, 3, none, "<init>")
abbrev ds_Plan_init : String := "(II)V"
abbrev Y_Post_init : String × ByteArray × Nat × Option FieldType × String := ("VersionGroup$Post", prog_12_method_1_code, 2, none, "<init>")
abbrev ds_Post_init : String := "()V"
abbrev Y_Message_init : String × ByteArray × Nat × Option FieldType × String := ("VersionGroup$Message", prog_9_method_1_code, 1, none, "<init>")
abbrev ds_Message_init : String := "()V"
abbrev Y_Copy_init : String × ByteArray × Nat × Option FieldType × String := ("VersionGroup$Copy", prog_4_method_1_code, 1, none, "<init>")
abbrev ds_Copy_init : String := "()V"
abbrev Y_MapKeeper_init : String × ByteArray × Nat × Option FieldType × String := ("VersionGroup$MapKeeper", prog_7_method_1_code, 4, none, "<init>")
abbrev ds_MapKeeper_init : String := "(LVersionGroup$Plan;LVersionGroup$Post;)V"
abbrev Y_Plan_all : String × ByteArray × Nat × Option FieldType × String := ("VersionGroup$Plan", prog_11_method_2_code, 1, some .int, "all")
abbrev ds_Plan_all : String := "()I"
abbrev Y_Plan_greatest : String × ByteArray × Nat × Option FieldType × String := ("VersionGroup$Plan", prog_11_method_5_code, 4, some .int, "greatest")
abbrev ds_Plan_greatest : String := "(I)I"
abbrev Y_Desk_init : String × ByteArray × Nat × Option FieldType × String := ("VersionGroup$Desk", prog_5_method_1_code, 2, none, "<init>")
abbrev ds_Desk_init : String := "(LVersionGroup$Post;)V"
abbrev Y_Node_init : String × ByteArray × Nat × Option FieldType × String := ("VersionGroup$Node", prog_10_method_1_code, 5, none, "<init>")
abbrev ds_Node_init : String := "(ILVersionGroup$Plan;LVersionGroup$Post;)V"
abbrev Y_Memory_init : String × ByteArray × Nat × Option FieldType × String := ("VersionGroup$Memory", prog_8_method_1_code, 1, none, "<init>")
abbrev ds_Memory_init : String := "()V"
abbrev Y_Reports_init : String × ByteArray × Nat × Option FieldType × String := ("VersionGroup$Reports", prog_13_method_1_code, 2, none, "<init>")
abbrev ds_Reports_init : String := "(I)V"
abbrev Y_Plan_keepers : String × ByteArray × Nat × Option FieldType × String := ("VersionGroup$Plan", prog_11_method_4_code, 4, some .int, "keepers")
abbrev ds_Plan_keepers : String := "(I)I"
abbrev Y_Integer_bitCount : String × ByteArray × Nat × Option FieldType × String := ("java/lang/Integer", prog_17_method_49_code, 1, some .int, "bitCount")
abbrev ds_Integer_bitCount : String := "(I)I"
abbrev Y_Memory_enter : String × ByteArray × Nat × Option FieldType × String := ("VersionGroup$Memory", prog_8_method_2_code, 4, none, "enter")
abbrev ds_Memory_enter : String := "(III)V"
abbrev Y_Memory_become : String × ByteArray × Nat × Option FieldType × String := ("VersionGroup$Memory", prog_8_method_4_code, 2, none, "become")
abbrev ds_Memory_become : String := "(LVersionGroup$Memory;)V"
abbrev Y_Copy_copyFrom : String × ByteArray × Nat × Option FieldType × String := ("VersionGroup$Copy", prog_4_method_9_code, 4, none, "copyFrom")
abbrev ds_Copy_copyFrom : String := "(LVersionGroup$Copy;Z)V"
abbrev Y_VG_give : String × ByteArray × Nat × Option FieldType × String := ("VersionGroup", prog_1_method_2_code, 5, some .int, "give")
abbrev ds_VG_give : String := "(III)I"
abbrev Y_VG_isKey : String × ByteArray × Nat × Option FieldType × String := ("VersionGroup", prog_1_method_15_code, 1, some .boolean, "isKey")
abbrev ds_VG_isKey : String := "(I)Z"
abbrev Y_Desk_isFull : String × ByteArray × Nat × Option FieldType × String := ("VersionGroup$Desk", prog_5_method_3_code, 1, some .boolean, "isFull")
abbrev ds_Desk_isFull : String := "()Z"
abbrev Y_Desk_open : String × ByteArray × Nat × Option FieldType × String := ("VersionGroup$Desk", prog_5_method_2_code, 1, some .int, "open")
abbrev ds_Desk_open : String := "()I"
abbrev Y_Desk_accept : String × ByteArray × Nat × Option FieldType × String := ("VersionGroup$Desk", prog_5_method_4_code, 5, some (.object "VersionGroup$Command"), "accept")
abbrev ds_Desk_accept : String := "(III)LVersionGroup$Command;"
abbrev Y_Command_init : String × ByteArray × Nat × Option FieldType × String := ("VersionGroup$Command", prog_3_method_1_code, 5, none, "<init>")
abbrev ds_Command_init : String := "(IIII)V"
abbrev Y_Desk_request : String × ByteArray × Nat × Option FieldType × String := ("VersionGroup$Desk", prog_5_method_5_code, 4, none, "request")
abbrev ds_Desk_request : String := "(LVersionGroup$Command;II)V"
abbrev Y_Post_send : String × ByteArray × Nat × Option FieldType × String := ("VersionGroup$Post", prog_12_method_2_code, 6, some (.object "VersionGroup$Message"), "send")
abbrev ds_Post_send : String := "(LVersionGroup$Kind;III)LVersionGroup$Message;"
abbrev Y_VG_deliver : String × ByteArray × Nat × Option FieldType × String := ("VersionGroup", prog_1_method_3_code, 2, none, "deliver")
abbrev ds_VG_deliver : String := "(I)V"
abbrev Y_VG_bring : String × ByteArray × Nat × Option FieldType × String := ("VersionGroup", prog_1_method_19_code, 5, none, "bring")
abbrev ds_VG_bring : String := "(II)V"
abbrev Y_Math_floorMod : String × ByteArray × Nat × Option FieldType × String := ("java/lang/Math", prog_18_method_50_code, 3, some .int, "floorMod")
abbrev ds_Math_floorMod : String := "(II)I"
abbrev Y_Post_look : String × ByteArray × Nat × Option FieldType × String := ("VersionGroup$Post", prog_12_method_3_code, 2, some (.object "VersionGroup$Message"), "look")
abbrev ds_Post_look : String := "(I)LVersionGroup$Message;"
abbrev Y_VG_arrive : String × ByteArray × Nat × Option FieldType × String := ("VersionGroup", prog_1_method_22_code, 2, none, "arrive")
abbrev ds_VG_arrive : String := "(LVersionGroup$Message;)V"
abbrev Y_MapKeeper_hear : String × ByteArray × Nat × Option FieldType × String := ("VersionGroup$MapKeeper", prog_7_method_4_code, 2, none, "hear")
abbrev ds_MapKeeper_hear : String := "(LVersionGroup$Message;)V"
abbrev Y_Desk_hear : String × ByteArray × Nat × Option FieldType × String := ("VersionGroup$Desk", prog_5_method_7_code, 3, none, "hear")
abbrev ds_Desk_hear : String := "(LVersionGroup$Message;)V"
abbrev Y_VG_isNode : String × ByteArray × Nat × Option FieldType × String := ("VersionGroup", prog_1_method_16_code, 2, some .boolean, "isNode")
abbrev ds_VG_isNode : String := "(I)Z"
abbrev Y_Node_hear : String × ByteArray × Nat × Option FieldType × String := ("VersionGroup$Node", prog_10_method_4_code, 2, none, "hear")
abbrev ds_Node_hear : String := "(LVersionGroup$Message;)V"
abbrev Y_Node_hearMap : String × ByteArray × Nat × Option FieldType × String := ("VersionGroup$Node", prog_10_method_5_code, 3, none, "hearMap")
abbrev ds_Node_hearMap : String := "(LVersionGroup$Message;)V"
abbrev Y_Reports_clear : String × ByteArray × Nat × Option FieldType × String := ("VersionGroup$Reports", prog_13_method_2_code, 2, none, "clear")
abbrev ds_Reports_clear : String := "()V"
abbrev Y_Enum_ordinal : String × ByteArray × Nat × Option FieldType × String := ("java/lang/Enum", prog_16_method_2_code, 1, some .int, "ordinal")
abbrev ds_Enum_ordinal : String := "()I"
abbrev Y_Node_hearCommand : String × ByteArray × Nat × Option FieldType × String := ("VersionGroup$Node", prog_10_method_6_code, 2, none, "hearCommand")
abbrev ds_Node_hearCommand : String := "(LVersionGroup$Command;)V"
abbrev Y_Copy_remembers : String × ByteArray × Nat × Option FieldType × String := ("VersionGroup$Copy", prog_4_method_3_code, 2, some .boolean, "remembers")
abbrev ds_Copy_remembers : String := "(I)Z"
abbrev Y_Node_tellAnswer : String × ByteArray × Nat × Option FieldType × String := ("VersionGroup$Node", prog_10_method_7_code, 3, none, "tellAnswer")
abbrev ds_Node_tellAnswer : String := "(I)V"
abbrev Y_Copy_append : String × ByteArray × Nat × Option FieldType × String := ("VersionGroup$Copy", prog_4_method_4_code, 2, some .boolean, "append")
abbrev ds_Copy_append : String := "(LVersionGroup$Command;)Z"
abbrev Y_Reports_note : String × ByteArray × Nat × Option FieldType × String := ("VersionGroup$Reports", prog_13_method_3_code, 4, none, "note")
abbrev ds_Reports_note : String := "(III)V"
abbrev Y_Copy_follow : String × ByteArray × Nat × Option FieldType × String := ("VersionGroup$Copy", prog_4_method_8_code, 5, some .boolean, "follow")
abbrev ds_Copy_follow : String := "(LVersionGroup$Copy;Z)Z"
abbrev Y_Copy_reachesBackTo : String × ByteArray × Nat × Option FieldType × String := ("VersionGroup$Copy", prog_4_method_7_code, 2, some .boolean, "reachesBackTo")
abbrev ds_Copy_reachesBackTo : String := "(I)Z"
abbrev Y_Copy_doUpTo : String × ByteArray × Nat × Option FieldType × String := ("VersionGroup$Copy", prog_4_method_5_code, 4, some .boolean, "doUpTo")
abbrev ds_Copy_doUpTo : String := "(I)Z"
abbrev Y_Copy_perform : String × ByteArray × Nat × Option FieldType × String := ("VersionGroup$Copy", prog_4_method_6_code, 7, some .int, "perform")
abbrev ds_Copy_perform : String := "(LVersionGroup$Command;)I"
abbrev Y_Copy_empty : String × ByteArray × Nat × Option FieldType × String := ("VersionGroup$Copy", prog_4_method_10_code, 2, none, "empty")
abbrev ds_Copy_empty : String := "()V"
abbrev Y_Post_remove : String × ByteArray × Nat × Option FieldType × String := ("VersionGroup$Post", prog_12_method_4_code, 3, none, "remove")
abbrev ds_Post_remove : String := "(I)V"
abbrev Y_VG_lose : String × ByteArray × Nat × Option FieldType × String := ("VersionGroup", prog_1_method_4_code, 2, none, "lose")
abbrev ds_VG_lose : String := "(I)V"
abbrev Y_VG_drop : String × ByteArray × Nat × Option FieldType × String := ("VersionGroup", prog_1_method_20_code, 2, none, "drop")
abbrev ds_VG_drop : String := "(I)V"
abbrev Y_VG_twice : String × ByteArray × Nat × Option FieldType × String := ("VersionGroup", prog_1_method_5_code, 2, none, "twice")
abbrev ds_VG_twice : String := "(I)V"
abbrev Y_VG_stir : String × ByteArray × Nat × Option FieldType × String := ("VersionGroup", prog_1_method_6_code, 8, some .int, "stir")
abbrev ds_VG_stir : String := "(II)I"
abbrev Y_VG_tick : String × ByteArray × Nat × Option FieldType × String := ("VersionGroup", prog_1_method_7_code, 3, some .int, "tick")
abbrev ds_VG_tick : String := "(I)I"
abbrev Y_VG_passOneTick : String × ByteArray × Nat × Option FieldType × String := ("VersionGroup", prog_1_method_18_code, 2, none, "passOneTick")
abbrev ds_VG_passOneTick : String := "()V"
abbrev Y_MapKeeper_proclaim : String × ByteArray × Nat × Option FieldType × String := ("VersionGroup$MapKeeper", prog_7_method_3_code, 2, none, "proclaim")
abbrev ds_MapKeeper_proclaim : String := "()V"
abbrev Y_Desk_requestAll : String × ByteArray × Nat × Option FieldType × String := ("VersionGroup$Desk", prog_5_method_6_code, 4, none, "requestAll")
abbrev ds_Desk_requestAll : String := "(II)V"
abbrev Y_Node_work : String × ByteArray × Nat × Option FieldType × String := ("VersionGroup$Node", prog_10_method_8_code, 2, none, "work")
abbrev ds_Node_work : String := "()V"
abbrev Y_Node_flush : String × ByteArray × Nat × Option FieldType × String := ("VersionGroup$Node", prog_10_method_3_code, 1, none, "flush")
abbrev ds_Node_flush : String := "()V"
abbrev Y_Node_lead : String × ByteArray × Nat × Option FieldType × String := ("VersionGroup$Node", prog_10_method_9_code, 2, none, "lead")
abbrev ds_Node_lead : String := "()V"
abbrev Y_Node_prepare : String × ByteArray × Nat × Option FieldType × String := ("VersionGroup$Node", prog_10_method_10_code, 2, none, "prepare")
abbrev ds_Node_prepare : String := "()V"
abbrev Y_Reports_size : String × ByteArray × Nat × Option FieldType × String := ("VersionGroup$Reports", prog_13_method_4_code, 3, some .int, "size")
abbrev ds_Reports_size : String := "()I"
abbrev Y_Plan_quorum : String × ByteArray × Nat × Option FieldType × String := ("VersionGroup$Plan", prog_11_method_3_code, 1, some .int, "quorum")
abbrev ds_Plan_quorum : String := "()I"
abbrev Y_Reports_furthest : String × ByteArray × Nat × Option FieldType × String := ("VersionGroup$Reports", prog_13_method_5_code, 4, some .int, "furthest")
abbrev ds_Reports_furthest : String := "(I)I"
abbrev Y_Node_doWhatIsAgreed : String × ByteArray × Nat × Option FieldType × String := ("VersionGroup$Node", prog_10_method_11_code, 3, none, "doWhatIsAgreed")
abbrev ds_Node_doWhatIsAgreed : String := "()V"
abbrev Y_Reports_agreed : String × ByteArray × Nat × Option FieldType × String := ("VersionGroup$Reports", prog_13_method_6_code, 4, some .int, "agreed")
abbrev ds_Reports_agreed : String := "(I)I"
abbrev Y_Node_guide : String × ByteArray × Nat × Option FieldType × String := ("VersionGroup$Node", prog_10_method_12_code, 2, none, "guide")
abbrev ds_Node_guide : String := "(I)V"
abbrev Y_Memory_keeps : String × ByteArray × Nat × Option FieldType × String := ("VersionGroup$Memory", prog_8_method_3_code, 2, some .boolean, "keeps")
abbrev ds_Memory_keeps : String := "(I)Z"
abbrev Y_Node_sendCopy : String × ByteArray × Nat × Option FieldType × String := ("VersionGroup$Node", prog_10_method_13_code, 4, none, "sendCopy")
abbrev ds_Node_sendCopy : String := "(I)V"
abbrev Y_VG_crash : String × ByteArray × Nat × Option FieldType × String := ("VersionGroup", prog_1_method_8_code, 3, some .boolean, "crash")
abbrev ds_VG_crash : String := "(IZ)Z"
abbrev Y_Node_fail : String × ByteArray × Nat × Option FieldType × String := ("VersionGroup$Node", prog_10_method_2_code, 2, none, "fail")
abbrev ds_Node_fail : String := "(Z)V"
abbrev Y_VG_restart : String × ByteArray × Nat × Option FieldType × String := ("VersionGroup", prog_1_method_9_code, 2, some .boolean, "restart")
abbrev ds_VG_restart : String := "(I)Z"
abbrev Y_VG_map : String × ByteArray × Nat × Option FieldType × String := ("VersionGroup", prog_1_method_10_code, 2, some .int, "map")
abbrev ds_VG_map : String := "(I)I"
abbrev Y_MapKeeper_renew : String × ByteArray × Nat × Option FieldType × String := ("VersionGroup$MapKeeper", prog_7_method_2_code, 2, none, "renew")
abbrev ds_MapKeeper_renew : String := "(I)V"
abbrev Y_VG_settle : String × ByteArray × Nat × Option FieldType × String := ("VersionGroup", prog_1_method_11_code, 3, some .int, "settle")
abbrev ds_VG_settle : String := "()I"
abbrev Y_VG_bringAll : String × ByteArray × Nat × Option FieldType × String := ("VersionGroup", prog_1_method_21_code, 2, none, "bringAll")
abbrev ds_VG_bringAll : String := "()V"
abbrev Y_Desk_hasAllAnswers : String × ByteArray × Nat × Option FieldType × String := ("VersionGroup$Desk", prog_5_method_8_code, 2, some .boolean, "hasAllAnswers")
abbrev ds_Desk_hasAllAnswers : String := "()Z"
abbrev Y_Desk_tellAnswers : String × ByteArray × Nat × Option FieldType × String := ("VersionGroup$Desk", prog_5_method_9_code, 1, none, "tellAnswers")
abbrev ds_Desk_tellAnswers : String := "()V"
abbrev Y_VG_answer : String × ByteArray × Nat × Option FieldType × String := ("VersionGroup", prog_1_method_12_code, 2, some .long, "answer")
abbrev ds_VG_answer : String := "(I)J"
abbrev Y_VG_at : String × ByteArray × Nat × Option FieldType × String := ("VersionGroup", prog_1_method_13_code, 5, some .long, "at")
abbrev ds_VG_at : String := "(III)J"
abbrev Y_Copy_has : String × ByteArray × Nat × Option FieldType × String := ("VersionGroup$Copy", prog_4_method_2_code, 2, some .boolean, "has")
abbrev ds_Copy_has : String := "(I)Z"
abbrev Y_VG_count : String × ByteArray × Nat × Option FieldType × String := ("VersionGroup", prog_1_method_14_code, 2, some .int, "count")
abbrev ds_VG_count : String := "(I)I"
abbrev Y_VG_nodesUp : String × ByteArray × Nat × Option FieldType × String := ("VersionGroup", prog_1_method_17_code, 3, some .int, "nodesUp")
abbrev ds_VG_nodesUp : String := "()I"
abbrev Y_Law_cell : String × ByteArray × Nat × Option FieldType × String := ("VersionGroupLaw", method_2_code, 2, some .int, "cell")
abbrev ds_Law_cell : String := "([II)I"
abbrev Y_Mod_init : String × ByteArray × Nat × Option FieldType × String := ("VersionGroupModel", prog_15_method_1_code, 3, none, "<init>")
abbrev ds_Mod_init : String := "(II)V"
abbrev Y_Mod_give : String × ByteArray × Nat × Option FieldType × String := ("VersionGroupModel", prog_15_method_2_code, 4, some .int, "give")
abbrev ds_Mod_give : String := "(III)I"
abbrev Y_Mod_deliver : String × ByteArray × Nat × Option FieldType × String := ("VersionGroupModel", prog_15_method_3_code, 2, none, "deliver")
abbrev ds_Mod_deliver : String := "(I)V"
abbrev Y_Mod_lose : String × ByteArray × Nat × Option FieldType × String := ("VersionGroupModel", prog_15_method_4_code, 2, none, "lose")
abbrev ds_Mod_lose : String := "(I)V"
abbrev Y_Mod_twice : String × ByteArray × Nat × Option FieldType × String := ("VersionGroupModel", prog_15_method_5_code, 2, none, "twice")
abbrev ds_Mod_twice : String := "(I)V"
abbrev Y_Mod_stir : String × ByteArray × Nat × Option FieldType × String := ("VersionGroupModel", prog_15_method_6_code, 3, some .int, "stir")
abbrev ds_Mod_stir : String := "(II)I"
abbrev Y_Mod_tick : String × ByteArray × Nat × Option FieldType × String := ("VersionGroupModel", prog_15_method_7_code, 2, some .int, "tick")
abbrev ds_Mod_tick : String := "(I)I"
abbrev Y_Mod_crash : String × ByteArray × Nat × Option FieldType × String := ("VersionGroupModel", prog_15_method_9_code, 3, some .boolean, "crash")
abbrev ds_Mod_crash : String := "(IZ)Z"
abbrev Y_Mod_turn : String × ByteArray × Nat × Option FieldType × String := ("VersionGroupModel", prog_15_method_8_code, 3, some .boolean, "turn")
abbrev ds_Mod_turn : String := "(IZ)Z"
abbrev Y_Mod_restart : String × ByteArray × Nat × Option FieldType × String := ("VersionGroupModel", prog_15_method_10_code, 2, some .boolean, "restart")
abbrev ds_Mod_restart : String := "(I)Z"
abbrev Y_Mod_map : String × ByteArray × Nat × Option FieldType × String := ("VersionGroupModel", prog_15_method_11_code, 2, some .int, "map")
abbrev ds_Mod_map : String := "(I)I"
abbrev Y_Mod_settle : String × ByteArray × Nat × Option FieldType × String := ("VersionGroupModel", prog_15_method_14_code, 4, some .int, "settle")
abbrev ds_Mod_settle : String := "()I"
abbrev Y_Mod_act : String × ByteArray × Nat × Option FieldType × String := ("VersionGroupModel", prog_15_method_13_code, 6, some .long, "act")
abbrev ds_Mod_act : String := "(I)J"
abbrev Y_Mod_set : String × ByteArray × Nat × Option FieldType × String := ("VersionGroupModel", prog_15_method_12_code, 4, none, "set")
abbrev ds_Mod_set : String := "(IZI)V"
abbrev Y_Mod_answer : String × ByteArray × Nat × Option FieldType × String := ("VersionGroupModel", prog_15_method_15_code, 2, some .long, "answer")
abbrev ds_Mod_answer : String := "(I)J"
abbrev Y_Mod_at : String × ByteArray × Nat × Option FieldType × String := ("VersionGroupModel", prog_15_method_17_code, 4, some .long, "at")
abbrev ds_Mod_at : String := "(III)J"
abbrev Y_Mod_copy : String × ByteArray × Nat × Option FieldType × String := ("VersionGroupModel", prog_15_method_16_code, 4, some .boolean, "copy")
abbrev ds_Mod_copy : String := "(I)Z"
abbrev Y_Mod_count : String × ByteArray × Nat × Option FieldType × String := ("VersionGroupModel", prog_15_method_18_code, 4, some .int, "count")
abbrev ds_Mod_count : String := "(I)I"
end
section
theorem d_VG_init_0 : decode prog_1_method_1_code 0 = .ok (.aload_n 0, 1) := by decide +kernel
theorem d_VG_init_1 : decode prog_1_method_1_code 1 = .ok (.invokespecial 1, 3) := by decide +kernel
theorem d_VG_init_4 : decode prog_1_method_1_code 4 = .ok (.new 7, 3) := by decide +kernel
theorem d_VG_init_7 : decode prog_1_method_1_code 7 = .ok (.dup, 1) := by decide +kernel
theorem d_VG_init_8 : decode prog_1_method_1_code 8 = .ok (.iconst 3, 1) := by decide +kernel
theorem d_VG_init_9 : decode prog_1_method_1_code 9 = .ok (.bipush 6, 2) := by decide +kernel
theorem d_VG_init_11 : decode prog_1_method_1_code 11 = .ok (.iload_n 1, 1) := by decide +kernel
theorem d_VG_init_12 : decode prog_1_method_1_code 12 = .ok (.invokestatic 9, 3) := by decide +kernel
theorem d_VG_init_15 : decode prog_1_method_1_code 15 = .ok (.invokestatic 15, 3) := by decide +kernel
theorem d_VG_init_18 : decode prog_1_method_1_code 18 = .ok (.iconst 2, 1) := by decide +kernel
theorem d_VG_init_19 : decode prog_1_method_1_code 19 = .ok (.iconst 3, 1) := by decide +kernel
theorem d_VG_init_20 : decode prog_1_method_1_code 20 = .ok (.iload_n 2, 1) := by decide +kernel
theorem d_VG_init_21 : decode prog_1_method_1_code 21 = .ok (.invokestatic 9, 3) := by decide +kernel
theorem d_VG_init_24 : decode prog_1_method_1_code 24 = .ok (.invokestatic 15, 3) := by decide +kernel
theorem d_VG_init_27 : decode prog_1_method_1_code 27 = .ok (.invokespecial 18, 3) := by decide +kernel
theorem d_VG_init_30 : decode prog_1_method_1_code 30 = .ok (.astore_n 3, 1) := by decide +kernel
theorem d_VG_init_31 : decode prog_1_method_1_code 31 = .ok (.aload_n 0, 1) := by decide +kernel
theorem d_VG_init_32 : decode prog_1_method_1_code 32 = .ok (.new 21, 3) := by decide +kernel
theorem d_VG_init_35 : decode prog_1_method_1_code 35 = .ok (.dup, 1) := by decide +kernel
theorem d_VG_init_36 : decode prog_1_method_1_code 36 = .ok (.invokespecial 23, 3) := by decide +kernel
theorem d_VG_init_39 : decode prog_1_method_1_code 39 = .ok (.putfield 24, 3) := by decide +kernel
theorem d_VG_init_42 : decode prog_1_method_1_code 42 = .ok (.aload_n 0, 1) := by decide +kernel
theorem d_VG_init_43 : decode prog_1_method_1_code 43 = .ok (.new 30, 3) := by decide +kernel
theorem d_VG_init_46 : decode prog_1_method_1_code 46 = .ok (.dup, 1) := by decide +kernel
theorem d_VG_init_47 : decode prog_1_method_1_code 47 = .ok (.aload_n 3, 1) := by decide +kernel
theorem d_VG_init_48 : decode prog_1_method_1_code 48 = .ok (.aload_n 0, 1) := by decide +kernel
theorem d_VG_init_49 : decode prog_1_method_1_code 49 = .ok (.getfield 24, 3) := by decide +kernel
theorem d_VG_init_52 : decode prog_1_method_1_code 52 = .ok (.invokespecial 32, 3) := by decide +kernel
theorem d_VG_init_55 : decode prog_1_method_1_code 55 = .ok (.putfield 35, 3) := by decide +kernel
theorem d_VG_init_58 : decode prog_1_method_1_code 58 = .ok (.aload_n 0, 1) := by decide +kernel
theorem d_VG_init_59 : decode prog_1_method_1_code 59 = .ok (.new 39, 3) := by decide +kernel
theorem d_VG_init_62 : decode prog_1_method_1_code 62 = .ok (.dup, 1) := by decide +kernel
theorem d_VG_init_63 : decode prog_1_method_1_code 63 = .ok (.aload_n 0, 1) := by decide +kernel
theorem d_VG_init_64 : decode prog_1_method_1_code 64 = .ok (.getfield 24, 3) := by decide +kernel
theorem d_VG_init_67 : decode prog_1_method_1_code 67 = .ok (.invokespecial 41, 3) := by decide +kernel
theorem d_VG_init_70 : decode prog_1_method_1_code 70 = .ok (.putfield 44, 3) := by decide +kernel
theorem d_VG_init_73 : decode prog_1_method_1_code 73 = .ok (.aload_n 0, 1) := by decide +kernel
theorem d_VG_init_74 : decode prog_1_method_1_code 74 = .ok (.aload_n 3, 1) := by decide +kernel
theorem d_VG_init_75 : decode prog_1_method_1_code 75 = .ok (.getfield 48, 3) := by decide +kernel
theorem d_VG_init_78 : decode prog_1_method_1_code 78 = .ok (.anewarray 52, 3) := by decide +kernel
theorem d_VG_init_81 : decode prog_1_method_1_code 81 = .ok (.putfield 54, 3) := by decide +kernel
theorem d_VG_init_84 : decode prog_1_method_1_code 84 = .ok (.iconst 0, 1) := by decide +kernel
theorem d_VG_init_85 : decode prog_1_method_1_code 85 = .ok (.istore 4, 2) := by decide +kernel
theorem d_VG_init_87 : decode prog_1_method_1_code 87 = .ok (.iload 4, 2) := by decide +kernel
theorem d_VG_init_89 : decode prog_1_method_1_code 89 = .ok (.aload_n 3, 1) := by decide +kernel
theorem d_VG_init_90 : decode prog_1_method_1_code 90 = .ok (.getfield 48, 3) := by decide +kernel
theorem d_VG_init_93 : decode prog_1_method_1_code 93 = .ok (.if_icmp .ge 30, 3) := by decide +kernel
theorem d_VG_init_96 : decode prog_1_method_1_code 96 = .ok (.aload_n 0, 1) := by decide +kernel
theorem d_VG_init_97 : decode prog_1_method_1_code 97 = .ok (.getfield 54, 3) := by decide +kernel
theorem d_VG_init_100 : decode prog_1_method_1_code 100 = .ok (.iload 4, 2) := by decide +kernel
theorem d_VG_init_102 : decode prog_1_method_1_code 102 = .ok (.new 52, 3) := by decide +kernel
theorem d_VG_init_105 : decode prog_1_method_1_code 105 = .ok (.dup, 1) := by decide +kernel
theorem d_VG_init_106 : decode prog_1_method_1_code 106 = .ok (.iload 4, 2) := by decide +kernel
theorem d_VG_init_108 : decode prog_1_method_1_code 108 = .ok (.aload_n 3, 1) := by decide +kernel
theorem d_VG_init_109 : decode prog_1_method_1_code 109 = .ok (.aload_n 0, 1) := by decide +kernel
theorem d_VG_init_110 : decode prog_1_method_1_code 110 = .ok (.getfield 24, 3) := by decide +kernel
theorem d_VG_init_113 : decode prog_1_method_1_code 113 = .ok (.invokespecial 57, 3) := by decide +kernel
theorem d_VG_init_116 : decode prog_1_method_1_code 116 = .ok (.aastore, 1) := by decide +kernel
theorem d_VG_init_117 : decode prog_1_method_1_code 117 = .ok (.iinc 4 1, 3) := by decide +kernel
theorem d_VG_init_120 : decode prog_1_method_1_code 120 = .ok (.goto (-33), 3) := by decide +kernel
theorem d_VG_init_123 : decode prog_1_method_1_code 123 = .ok (.return_, 1) := by decide +kernel
theorem d_Object_init_0 : decode object_method_1_code 0 = .ok (.return_, 1) := by decide +kernel
theorem d_Math_min_0 : decode prog_18_method_69_code 0 = .ok (.iload_n 0, 1) := by decide +kernel
theorem d_Math_min_1 : decode prog_18_method_69_code 1 = .ok (.iload_n 1, 1) := by decide +kernel
theorem d_Math_min_2 : decode prog_18_method_69_code 2 = .ok (.if_icmp .gt 7, 3) := by decide +kernel
theorem d_Math_min_5 : decode prog_18_method_69_code 5 = .ok (.iload_n 0, 1) := by decide +kernel
theorem d_Math_min_6 : decode prog_18_method_69_code 6 = .ok (.goto 4, 3) := by decide +kernel
theorem d_Math_min_9 : decode prog_18_method_69_code 9 = .ok (.iload_n 1, 1) := by decide +kernel
theorem d_Math_min_10 : decode prog_18_method_69_code 10 = .ok (.ireturn, 1) := by decide +kernel
theorem d_Math_max_0 : decode prog_18_method_65_code 0 = .ok (.iload_n 0, 1) := by decide +kernel
theorem d_Math_max_1 : decode prog_18_method_65_code 1 = .ok (.iload_n 1, 1) := by decide +kernel
theorem d_Math_max_2 : decode prog_18_method_65_code 2 = .ok (.if_icmp .lt 7, 3) := by decide +kernel
theorem d_Math_max_5 : decode prog_18_method_65_code 5 = .ok (.iload_n 0, 1) := by decide +kernel
theorem d_Math_max_6 : decode prog_18_method_65_code 6 = .ok (.goto 4, 3) := by decide +kernel
theorem d_Math_max_9 : decode prog_18_method_65_code 9 = .ok (.iload_n 1, 1) := by decide +kernel
theorem d_Math_max_10 : decode prog_18_method_65_code 10 = .ok (.ireturn, 1) := by decide +kernel
theorem d_Plan_init_0 : decode prog_11_method_1_code 0 = .ok (.aload_n 0, 1) := by decide +kernel
theorem d_Plan_init_1 : decode prog_11_method_1_code 1 = .ok (.invokespecial 3, 3) := by decide +kernel
theorem d_Plan_init_4 : decode prog_11_method_1_code 4 = .ok (.aload_n 0, 1) := by decide +kernel
theorem d_Plan_init_5 : decode prog_11_method_1_code 5 = .ok (.iload_n 1, 1) := by decide +kernel
theorem d_Plan_init_6 : decode prog_11_method_1_code 6 = .ok (.putfield 9, 3) := by decide +kernel
theorem d_Plan_init_9 : decode prog_11_method_1_code 9 = .ok (.aload_n 0, 1) := by decide +kernel
theorem d_Plan_init_10 : decode prog_11_method_1_code 10 = .ok (.iload_n 2, 1) := by decide +kernel
theorem d_Plan_init_11 : decode prog_11_method_1_code 11 = .ok (.putfield 15, 3) := by decide +kernel
theorem d_Plan_init_14 : decode prog_11_method_1_code 14 = .ok (.return_, 1) := by decide +kernel
theorem d_Post_init_0 : decode prog_12_method_1_code 0 = .ok (.aload_n 0, 1) := by decide +kernel
theorem d_Post_init_1 : decode prog_12_method_1_code 1 = .ok (.invokespecial 3, 3) := by decide +kernel
theorem d_Post_init_4 : decode prog_12_method_1_code 4 = .ok (.aload_n 0, 1) := by decide +kernel
theorem d_Post_init_5 : decode prog_12_method_1_code 5 = .ok (.bipush 65, 2) := by decide +kernel
theorem d_Post_init_7 : decode prog_12_method_1_code 7 = .ok (.anewarray 9, 3) := by decide +kernel
theorem d_Post_init_10 : decode prog_12_method_1_code 10 = .ok (.putfield 11, 3) := by decide +kernel
theorem d_Post_init_13 : decode prog_12_method_1_code 13 = .ok (.aload_n 0, 1) := by decide +kernel
theorem d_Post_init_14 : decode prog_12_method_1_code 14 = .ok (.bipush 64, 2) := by decide +kernel
theorem d_Post_init_16 : decode prog_12_method_1_code 16 = .ok (.newarray .int, 2) := by decide +kernel
theorem d_Post_init_18 : decode prog_12_method_1_code 18 = .ok (.putfield 17, 3) := by decide +kernel
theorem d_Post_init_21 : decode prog_12_method_1_code 21 = .ok (.iconst 0, 1) := by decide +kernel
theorem d_Post_init_22 : decode prog_12_method_1_code 22 = .ok (.istore_n 1, 1) := by decide +kernel
theorem d_Post_init_23 : decode prog_12_method_1_code 23 = .ok (.iload_n 1, 1) := by decide +kernel
theorem d_Post_init_24 : decode prog_12_method_1_code 24 = .ok (.bipush 64, 2) := by decide +kernel
theorem d_Post_init_26 : decode prog_12_method_1_code 26 = .ok (.if_icmp .gt 22, 3) := by decide +kernel
theorem d_Post_init_29 : decode prog_12_method_1_code 29 = .ok (.aload_n 0, 1) := by decide +kernel
theorem d_Post_init_30 : decode prog_12_method_1_code 30 = .ok (.getfield 11, 3) := by decide +kernel
theorem d_Post_init_33 : decode prog_12_method_1_code 33 = .ok (.iload_n 1, 1) := by decide +kernel
theorem d_Post_init_34 : decode prog_12_method_1_code 34 = .ok (.new 9, 3) := by decide +kernel
theorem d_Post_init_37 : decode prog_12_method_1_code 37 = .ok (.dup, 1) := by decide +kernel
theorem d_Post_init_38 : decode prog_12_method_1_code 38 = .ok (.invokespecial 21, 3) := by decide +kernel
theorem d_Post_init_41 : decode prog_12_method_1_code 41 = .ok (.aastore, 1) := by decide +kernel
theorem d_Post_init_42 : decode prog_12_method_1_code 42 = .ok (.iinc 1 1, 3) := by decide +kernel
theorem d_Post_init_45 : decode prog_12_method_1_code 45 = .ok (.goto (-22), 3) := by decide +kernel
theorem d_Post_init_48 : decode prog_12_method_1_code 48 = .ok (.iconst 0, 1) := by decide +kernel
theorem d_Post_init_49 : decode prog_12_method_1_code 49 = .ok (.istore_n 1, 1) := by decide +kernel
theorem d_Post_init_50 : decode prog_12_method_1_code 50 = .ok (.iload_n 1, 1) := by decide +kernel
theorem d_Post_init_51 : decode prog_12_method_1_code 51 = .ok (.bipush 64, 2) := by decide +kernel
theorem d_Post_init_53 : decode prog_12_method_1_code 53 = .ok (.if_icmp .ge 16, 3) := by decide +kernel
theorem d_Post_init_56 : decode prog_12_method_1_code 56 = .ok (.aload_n 0, 1) := by decide +kernel
theorem d_Post_init_57 : decode prog_12_method_1_code 57 = .ok (.getfield 17, 3) := by decide +kernel
theorem d_Post_init_60 : decode prog_12_method_1_code 60 = .ok (.iload_n 1, 1) := by decide +kernel
theorem d_Post_init_61 : decode prog_12_method_1_code 61 = .ok (.iload_n 1, 1) := by decide +kernel
theorem d_Post_init_62 : decode prog_12_method_1_code 62 = .ok (.iastore, 1) := by decide +kernel
theorem d_Post_init_63 : decode prog_12_method_1_code 63 = .ok (.iinc 1 1, 3) := by decide +kernel
theorem d_Post_init_66 : decode prog_12_method_1_code 66 = .ok (.goto (-16), 3) := by decide +kernel
theorem d_Post_init_69 : decode prog_12_method_1_code 69 = .ok (.return_, 1) := by decide +kernel
theorem d_Message_init_0 : decode prog_9_method_1_code 0 = .ok (.aload_n 0, 1) := by decide +kernel
theorem d_Message_init_1 : decode prog_9_method_1_code 1 = .ok (.invokespecial 1, 3) := by decide +kernel
theorem d_Message_init_4 : decode prog_9_method_1_code 4 = .ok (.aload_n 0, 1) := by decide +kernel
theorem d_Message_init_5 : decode prog_9_method_1_code 5 = .ok (.new 7, 3) := by decide +kernel
theorem d_Message_init_8 : decode prog_9_method_1_code 8 = .ok (.dup, 1) := by decide +kernel
theorem d_Message_init_9 : decode prog_9_method_1_code 9 = .ok (.invokespecial 9, 3) := by decide +kernel
theorem d_Message_init_12 : decode prog_9_method_1_code 12 = .ok (.putfield 10, 3) := by decide +kernel
theorem d_Message_init_15 : decode prog_9_method_1_code 15 = .ok (.return_, 1) := by decide +kernel
theorem d_Copy_init_0 : decode prog_4_method_1_code 0 = .ok (.aload_n 0, 1) := by decide +kernel
theorem d_Copy_init_1 : decode prog_4_method_1_code 1 = .ok (.invokespecial 3, 3) := by decide +kernel
theorem d_Copy_init_4 : decode prog_4_method_1_code 4 = .ok (.aload_n 0, 1) := by decide +kernel
theorem d_Copy_init_5 : decode prog_4_method_1_code 5 = .ok (.bipush 40, 2) := by decide +kernel
theorem d_Copy_init_7 : decode prog_4_method_1_code 7 = .ok (.newarray .int, 2) := by decide +kernel
theorem d_Copy_init_9 : decode prog_4_method_1_code 9 = .ok (.putfield 9, 3) := by decide +kernel
theorem d_Copy_init_12 : decode prog_4_method_1_code 12 = .ok (.aload_n 0, 1) := by decide +kernel
theorem d_Copy_init_13 : decode prog_4_method_1_code 13 = .ok (.bipush 8, 2) := by decide +kernel
theorem d_Copy_init_15 : decode prog_4_method_1_code 15 = .ok (.newarray .int, 2) := by decide +kernel
theorem d_Copy_init_17 : decode prog_4_method_1_code 17 = .ok (.putfield 15, 3) := by decide +kernel
theorem d_Copy_init_20 : decode prog_4_method_1_code 20 = .ok (.aload_n 0, 1) := by decide +kernel
theorem d_Copy_init_21 : decode prog_4_method_1_code 21 = .ok (.bipush 8, 2) := by decide +kernel
theorem d_Copy_init_23 : decode prog_4_method_1_code 23 = .ok (.anewarray 18, 3) := by decide +kernel
theorem d_Copy_init_26 : decode prog_4_method_1_code 26 = .ok (.putfield 20, 3) := by decide +kernel
theorem d_Copy_init_29 : decode prog_4_method_1_code 29 = .ok (.return_, 1) := by decide +kernel
theorem d_MapKeeper_init_0 : decode prog_7_method_1_code 0 = .ok (.aload_n 0, 1) := by decide +kernel
theorem d_MapKeeper_init_1 : decode prog_7_method_1_code 1 = .ok (.invokespecial 3, 3) := by decide +kernel
theorem d_MapKeeper_init_4 : decode prog_7_method_1_code 4 = .ok (.aload_n 0, 1) := by decide +kernel
theorem d_MapKeeper_init_5 : decode prog_7_method_1_code 5 = .ok (.iconst 1, 1) := by decide +kernel
theorem d_MapKeeper_init_6 : decode prog_7_method_1_code 6 = .ok (.putfield 9, 3) := by decide +kernel
theorem d_MapKeeper_init_9 : decode prog_7_method_1_code 9 = .ok (.aload_n 0, 1) := by decide +kernel
theorem d_MapKeeper_init_10 : decode prog_7_method_1_code 10 = .ok (.aload_n 1, 1) := by decide +kernel
theorem d_MapKeeper_init_11 : decode prog_7_method_1_code 11 = .ok (.putfield 15, 3) := by decide +kernel
theorem d_MapKeeper_init_14 : decode prog_7_method_1_code 14 = .ok (.aload_n 0, 1) := by decide +kernel
theorem d_MapKeeper_init_15 : decode prog_7_method_1_code 15 = .ok (.aload_n 2, 1) := by decide +kernel
theorem d_MapKeeper_init_16 : decode prog_7_method_1_code 16 = .ok (.putfield 19, 3) := by decide +kernel
theorem d_MapKeeper_init_19 : decode prog_7_method_1_code 19 = .ok (.aload_n 0, 1) := by decide +kernel
theorem d_MapKeeper_init_20 : decode prog_7_method_1_code 20 = .ok (.aload_n 1, 1) := by decide +kernel
theorem d_MapKeeper_init_21 : decode prog_7_method_1_code 21 = .ok (.invokevirtual 23, 3) := by decide +kernel
theorem d_MapKeeper_init_24 : decode prog_7_method_1_code 24 = .ok (.putfield 29, 3) := by decide +kernel
theorem d_MapKeeper_init_27 : decode prog_7_method_1_code 27 = .ok (.aload_n 0, 1) := by decide +kernel
theorem d_MapKeeper_init_28 : decode prog_7_method_1_code 28 = .ok (.aload_n 1, 1) := by decide +kernel
theorem d_MapKeeper_init_29 : decode prog_7_method_1_code 29 = .ok (.aload_n 0, 1) := by decide +kernel
theorem d_MapKeeper_init_30 : decode prog_7_method_1_code 30 = .ok (.getfield 29, 3) := by decide +kernel
theorem d_MapKeeper_init_33 : decode prog_7_method_1_code 33 = .ok (.invokevirtual 32, 3) := by decide +kernel
theorem d_MapKeeper_init_36 : decode prog_7_method_1_code 36 = .ok (.putfield 36, 3) := by decide +kernel
theorem d_MapKeeper_init_39 : decode prog_7_method_1_code 39 = .ok (.aload_n 0, 1) := by decide +kernel
theorem d_MapKeeper_init_40 : decode prog_7_method_1_code 40 = .ok (.aload_n 1, 1) := by decide +kernel
theorem d_MapKeeper_init_41 : decode prog_7_method_1_code 41 = .ok (.getfield 39, 3) := by decide +kernel
theorem d_MapKeeper_init_44 : decode prog_7_method_1_code 44 = .ok (.newarray .int, 2) := by decide +kernel
theorem d_MapKeeper_init_46 : decode prog_7_method_1_code 46 = .ok (.putfield 42, 3) := by decide +kernel
theorem d_MapKeeper_init_49 : decode prog_7_method_1_code 49 = .ok (.iconst 0, 1) := by decide +kernel
theorem d_MapKeeper_init_50 : decode prog_7_method_1_code 50 = .ok (.istore_n 3, 1) := by decide +kernel
theorem d_MapKeeper_init_51 : decode prog_7_method_1_code 51 = .ok (.iload_n 3, 1) := by decide +kernel
theorem d_MapKeeper_init_52 : decode prog_7_method_1_code 52 = .ok (.aload_n 1, 1) := by decide +kernel
theorem d_MapKeeper_init_53 : decode prog_7_method_1_code 53 = .ok (.getfield 39, 3) := by decide +kernel
theorem d_MapKeeper_init_56 : decode prog_7_method_1_code 56 = .ok (.if_icmp .ge 19, 3) := by decide +kernel
theorem d_MapKeeper_init_59 : decode prog_7_method_1_code 59 = .ok (.aload_n 0, 1) := by decide +kernel
theorem d_MapKeeper_init_60 : decode prog_7_method_1_code 60 = .ok (.getfield 42, 3) := by decide +kernel
theorem d_MapKeeper_init_63 : decode prog_7_method_1_code 63 = .ok (.iload_n 3, 1) := by decide +kernel
theorem d_MapKeeper_init_64 : decode prog_7_method_1_code 64 = .ok (.aload_n 0, 1) := by decide +kernel
theorem d_MapKeeper_init_65 : decode prog_7_method_1_code 65 = .ok (.getfield 9, 3) := by decide +kernel
theorem d_MapKeeper_init_68 : decode prog_7_method_1_code 68 = .ok (.iastore, 1) := by decide +kernel
theorem d_MapKeeper_init_69 : decode prog_7_method_1_code 69 = .ok (.iinc 3 1, 3) := by decide +kernel
theorem d_MapKeeper_init_72 : decode prog_7_method_1_code 72 = .ok (.goto (-21), 3) := by decide +kernel
theorem d_MapKeeper_init_75 : decode prog_7_method_1_code 75 = .ok (.return_, 1) := by decide +kernel
theorem d_Plan_all_0 : decode prog_11_method_2_code 0 = .ok (.iconst 1, 1) := by decide +kernel
theorem d_Plan_all_1 : decode prog_11_method_2_code 1 = .ok (.aload_n 0, 1) := by decide +kernel
theorem d_Plan_all_2 : decode prog_11_method_2_code 2 = .ok (.getfield 9, 3) := by decide +kernel
theorem d_Plan_all_5 : decode prog_11_method_2_code 5 = .ok (.ishl, 1) := by decide +kernel
theorem d_Plan_all_6 : decode prog_11_method_2_code 6 = .ok (.iconst 1, 1) := by decide +kernel
theorem d_Plan_all_7 : decode prog_11_method_2_code 7 = .ok (.isub, 1) := by decide +kernel
theorem d_Plan_all_8 : decode prog_11_method_2_code 8 = .ok (.ireturn, 1) := by decide +kernel
theorem d_Plan_greatest_0 : decode prog_11_method_5_code 0 = .ok (.iconst (-1), 1) := by decide +kernel
theorem d_Plan_greatest_1 : decode prog_11_method_5_code 1 = .ok (.istore_n 2, 1) := by decide +kernel
theorem d_Plan_greatest_2 : decode prog_11_method_5_code 2 = .ok (.iconst 0, 1) := by decide +kernel
theorem d_Plan_greatest_3 : decode prog_11_method_5_code 3 = .ok (.istore_n 3, 1) := by decide +kernel
theorem d_Plan_greatest_4 : decode prog_11_method_5_code 4 = .ok (.iload_n 3, 1) := by decide +kernel
theorem d_Plan_greatest_5 : decode prog_11_method_5_code 5 = .ok (.aload_n 0, 1) := by decide +kernel
theorem d_Plan_greatest_6 : decode prog_11_method_5_code 6 = .ok (.getfield 9, 3) := by decide +kernel
theorem d_Plan_greatest_9 : decode prog_11_method_5_code 9 = .ok (.if_icmp .ge 41, 3) := by decide +kernel
theorem d_Plan_greatest_12 : decode prog_11_method_5_code 12 = .ok (.iload_n 1, 1) := by decide +kernel
theorem d_Plan_greatest_13 : decode prog_11_method_5_code 13 = .ok (.iload_n 3, 1) := by decide +kernel
theorem d_Plan_greatest_14 : decode prog_11_method_5_code 14 = .ok (.iushr, 1) := by decide +kernel
theorem d_Plan_greatest_15 : decode prog_11_method_5_code 15 = .ok (.iconst 1, 1) := by decide +kernel
theorem d_Plan_greatest_16 : decode prog_11_method_5_code 16 = .ok (.iand, 1) := by decide +kernel
theorem d_Plan_greatest_17 : decode prog_11_method_5_code 17 = .ok (.ifCond .eq 27, 3) := by decide +kernel
theorem d_Plan_greatest_20 : decode prog_11_method_5_code 20 = .ok (.iload_n 2, 1) := by decide +kernel
theorem d_Plan_greatest_21 : decode prog_11_method_5_code 21 = .ok (.iconst (-1), 1) := by decide +kernel
theorem d_Plan_greatest_22 : decode prog_11_method_5_code 22 = .ok (.if_icmp .eq 20, 3) := by decide +kernel
theorem d_Plan_greatest_25 : decode prog_11_method_5_code 25 = .ok (.iload_n 3, 1) := by decide +kernel
theorem d_Plan_greatest_26 : decode prog_11_method_5_code 26 = .ok (.bipush 37, 2) := by decide +kernel
theorem d_Plan_greatest_28 : decode prog_11_method_5_code 28 = .ok (.imul, 1) := by decide +kernel
theorem d_Plan_greatest_29 : decode prog_11_method_5_code 29 = .ok (.bipush 11, 2) := by decide +kernel
theorem d_Plan_greatest_31 : decode prog_11_method_5_code 31 = .ok (.irem, 1) := by decide +kernel
theorem d_Plan_greatest_32 : decode prog_11_method_5_code 32 = .ok (.iload_n 2, 1) := by decide +kernel
theorem d_Plan_greatest_33 : decode prog_11_method_5_code 33 = .ok (.bipush 37, 2) := by decide +kernel
theorem d_Plan_greatest_35 : decode prog_11_method_5_code 35 = .ok (.imul, 1) := by decide +kernel
theorem d_Plan_greatest_36 : decode prog_11_method_5_code 36 = .ok (.bipush 11, 2) := by decide +kernel
theorem d_Plan_greatest_38 : decode prog_11_method_5_code 38 = .ok (.irem, 1) := by decide +kernel
theorem d_Plan_greatest_39 : decode prog_11_method_5_code 39 = .ok (.if_icmp .le 5, 3) := by decide +kernel
theorem d_Plan_greatest_42 : decode prog_11_method_5_code 42 = .ok (.iload_n 3, 1) := by decide +kernel
theorem d_Plan_greatest_43 : decode prog_11_method_5_code 43 = .ok (.istore_n 2, 1) := by decide +kernel
theorem d_Plan_greatest_44 : decode prog_11_method_5_code 44 = .ok (.iinc 3 1, 3) := by decide +kernel
theorem d_Plan_greatest_47 : decode prog_11_method_5_code 47 = .ok (.goto (-43), 3) := by decide +kernel
theorem d_Plan_greatest_50 : decode prog_11_method_5_code 50 = .ok (.iload_n 2, 1) := by decide +kernel
theorem d_Plan_greatest_51 : decode prog_11_method_5_code 51 = .ok (.ireturn, 1) := by decide +kernel
theorem d_Desk_init_0 : decode prog_5_method_1_code 0 = .ok (.aload_n 0, 1) := by decide +kernel
theorem d_Desk_init_1 : decode prog_5_method_1_code 1 = .ok (.invokespecial 3, 3) := by decide +kernel
theorem d_Desk_init_4 : decode prog_5_method_1_code 4 = .ok (.aload_n 0, 1) := by decide +kernel
theorem d_Desk_init_5 : decode prog_5_method_1_code 5 = .ok (.bipush 8, 2) := by decide +kernel
theorem d_Desk_init_7 : decode prog_5_method_1_code 7 = .ok (.anewarray 9, 3) := by decide +kernel
theorem d_Desk_init_10 : decode prog_5_method_1_code 10 = .ok (.putfield 11, 3) := by decide +kernel
theorem d_Desk_init_13 : decode prog_5_method_1_code 13 = .ok (.aload_n 0, 1) := by decide +kernel
theorem d_Desk_init_14 : decode prog_5_method_1_code 14 = .ok (.bipush 8, 2) := by decide +kernel
theorem d_Desk_init_16 : decode prog_5_method_1_code 16 = .ok (.newarray .boolean, 2) := by decide +kernel
theorem d_Desk_init_18 : decode prog_5_method_1_code 18 = .ok (.putfield 17, 3) := by decide +kernel
theorem d_Desk_init_21 : decode prog_5_method_1_code 21 = .ok (.aload_n 0, 1) := by decide +kernel
theorem d_Desk_init_22 : decode prog_5_method_1_code 22 = .ok (.sipush 512, 3) := by decide +kernel
theorem d_Desk_init_25 : decode prog_5_method_1_code 25 = .ok (.newarray .int, 2) := by decide +kernel
theorem d_Desk_init_27 : decode prog_5_method_1_code 27 = .ok (.putfield 21, 3) := by decide +kernel
theorem d_Desk_init_30 : decode prog_5_method_1_code 30 = .ok (.aload_n 0, 1) := by decide +kernel
theorem d_Desk_init_31 : decode prog_5_method_1_code 31 = .ok (.aload_n 1, 1) := by decide +kernel
theorem d_Desk_init_32 : decode prog_5_method_1_code 32 = .ok (.putfield 25, 3) := by decide +kernel
theorem d_Desk_init_35 : decode prog_5_method_1_code 35 = .ok (.return_, 1) := by decide +kernel
theorem d_Node_init_0 : decode prog_10_method_1_code 0 = .ok (.aload_n 0, 1) := by decide +kernel
theorem d_Node_init_1 : decode prog_10_method_1_code 1 = .ok (.invokespecial 3, 3) := by decide +kernel
theorem d_Node_init_4 : decode prog_10_method_1_code 4 = .ok (.aload_n 0, 1) := by decide +kernel
theorem d_Node_init_5 : decode prog_10_method_1_code 5 = .ok (.new 9, 3) := by decide +kernel
theorem d_Node_init_8 : decode prog_10_method_1_code 8 = .ok (.dup, 1) := by decide +kernel
theorem d_Node_init_9 : decode prog_10_method_1_code 9 = .ok (.invokespecial 11, 3) := by decide +kernel
theorem d_Node_init_12 : decode prog_10_method_1_code 12 = .ok (.putfield 12, 3) := by decide +kernel
theorem d_Node_init_15 : decode prog_10_method_1_code 15 = .ok (.aload_n 0, 1) := by decide +kernel
theorem d_Node_init_16 : decode prog_10_method_1_code 16 = .ok (.new 9, 3) := by decide +kernel
theorem d_Node_init_19 : decode prog_10_method_1_code 19 = .ok (.dup, 1) := by decide +kernel
theorem d_Node_init_20 : decode prog_10_method_1_code 20 = .ok (.invokespecial 11, 3) := by decide +kernel
theorem d_Node_init_23 : decode prog_10_method_1_code 23 = .ok (.putfield 18, 3) := by decide +kernel
theorem d_Node_init_26 : decode prog_10_method_1_code 26 = .ok (.aload_n 0, 1) := by decide +kernel
theorem d_Node_init_27 : decode prog_10_method_1_code 27 = .ok (.iconst 1, 1) := by decide +kernel
theorem d_Node_init_28 : decode prog_10_method_1_code 28 = .ok (.putfield 21, 3) := by decide +kernel
theorem d_Node_init_31 : decode prog_10_method_1_code 31 = .ok (.aload_n 0, 1) := by decide +kernel
theorem d_Node_init_32 : decode prog_10_method_1_code 32 = .ok (.iload_n 1, 1) := by decide +kernel
theorem d_Node_init_33 : decode prog_10_method_1_code 33 = .ok (.putfield 25, 3) := by decide +kernel
theorem d_Node_init_36 : decode prog_10_method_1_code 36 = .ok (.aload_n 0, 1) := by decide +kernel
theorem d_Node_init_37 : decode prog_10_method_1_code 37 = .ok (.aload_n 2, 1) := by decide +kernel
theorem d_Node_init_38 : decode prog_10_method_1_code 38 = .ok (.putfield 29, 3) := by decide +kernel
theorem d_Node_init_41 : decode prog_10_method_1_code 41 = .ok (.aload_n 0, 1) := by decide +kernel
theorem d_Node_init_42 : decode prog_10_method_1_code 42 = .ok (.aload_n 3, 1) := by decide +kernel
theorem d_Node_init_43 : decode prog_10_method_1_code 43 = .ok (.putfield 33, 3) := by decide +kernel
theorem d_Node_init_46 : decode prog_10_method_1_code 46 = .ok (.aload_n 0, 1) := by decide +kernel
theorem d_Node_init_47 : decode prog_10_method_1_code 47 = .ok (.new 37, 3) := by decide +kernel
theorem d_Node_init_50 : decode prog_10_method_1_code 50 = .ok (.dup, 1) := by decide +kernel
theorem d_Node_init_51 : decode prog_10_method_1_code 51 = .ok (.aload_n 2, 1) := by decide +kernel
theorem d_Node_init_52 : decode prog_10_method_1_code 52 = .ok (.getfield 39, 3) := by decide +kernel
theorem d_Node_init_55 : decode prog_10_method_1_code 55 = .ok (.invokespecial 44, 3) := by decide +kernel
theorem d_Node_init_58 : decode prog_10_method_1_code 58 = .ok (.putfield 47, 3) := by decide +kernel
theorem d_Node_init_61 : decode prog_10_method_1_code 61 = .ok (.aload_n 2, 1) := by decide +kernel
theorem d_Node_init_62 : decode prog_10_method_1_code 62 = .ok (.aload_n 2, 1) := by decide +kernel
theorem d_Node_init_63 : decode prog_10_method_1_code 63 = .ok (.invokevirtual 51, 3) := by decide +kernel
theorem d_Node_init_66 : decode prog_10_method_1_code 66 = .ok (.invokevirtual 55, 3) := by decide +kernel
theorem d_Node_init_69 : decode prog_10_method_1_code 69 = .ok (.istore 4, 2) := by decide +kernel
theorem d_Node_init_71 : decode prog_10_method_1_code 71 = .ok (.aload_n 0, 1) := by decide +kernel
theorem d_Node_init_72 : decode prog_10_method_1_code 72 = .ok (.getfield 12, 3) := by decide +kernel
theorem d_Node_init_75 : decode prog_10_method_1_code 75 = .ok (.iconst 1, 1) := by decide +kernel
theorem d_Node_init_76 : decode prog_10_method_1_code 76 = .ok (.iload 4, 2) := by decide +kernel
theorem d_Node_init_78 : decode prog_10_method_1_code 78 = .ok (.aload_n 2, 1) := by decide +kernel
theorem d_Node_init_79 : decode prog_10_method_1_code 79 = .ok (.iload 4, 2) := by decide +kernel
theorem d_Node_init_81 : decode prog_10_method_1_code 81 = .ok (.invokevirtual 59, 3) := by decide +kernel
theorem d_Node_init_84 : decode prog_10_method_1_code 84 = .ok (.invokevirtual 62, 3) := by decide +kernel
theorem d_Node_init_87 : decode prog_10_method_1_code 87 = .ok (.aload_n 0, 1) := by decide +kernel
theorem d_Node_init_88 : decode prog_10_method_1_code 88 = .ok (.getfield 18, 3) := by decide +kernel
theorem d_Node_init_91 : decode prog_10_method_1_code 91 = .ok (.aload_n 0, 1) := by decide +kernel
theorem d_Node_init_92 : decode prog_10_method_1_code 92 = .ok (.getfield 12, 3) := by decide +kernel
theorem d_Node_init_95 : decode prog_10_method_1_code 95 = .ok (.invokevirtual 66, 3) := by decide +kernel
theorem d_Node_init_98 : decode prog_10_method_1_code 98 = .ok (.return_, 1) := by decide +kernel
theorem d_Memory_init_0 : decode prog_8_method_1_code 0 = .ok (.aload_n 0, 1) := by decide +kernel
theorem d_Memory_init_1 : decode prog_8_method_1_code 1 = .ok (.invokespecial 1, 3) := by decide +kernel
theorem d_Memory_init_4 : decode prog_8_method_1_code 4 = .ok (.aload_n 0, 1) := by decide +kernel
theorem d_Memory_init_5 : decode prog_8_method_1_code 5 = .ok (.new 7, 3) := by decide +kernel
theorem d_Memory_init_8 : decode prog_8_method_1_code 8 = .ok (.dup, 1) := by decide +kernel
theorem d_Memory_init_9 : decode prog_8_method_1_code 9 = .ok (.invokespecial 9, 3) := by decide +kernel
theorem d_Memory_init_12 : decode prog_8_method_1_code 12 = .ok (.putfield 10, 3) := by decide +kernel
theorem d_Memory_init_15 : decode prog_8_method_1_code 15 = .ok (.return_, 1) := by decide +kernel
theorem d_Reports_init_0 : decode prog_13_method_1_code 0 = .ok (.aload_n 0, 1) := by decide +kernel
theorem d_Reports_init_1 : decode prog_13_method_1_code 1 = .ok (.invokespecial 3, 3) := by decide +kernel
theorem d_Reports_init_4 : decode prog_13_method_1_code 4 = .ok (.aload_n 0, 1) := by decide +kernel
theorem d_Reports_init_5 : decode prog_13_method_1_code 5 = .ok (.iload_n 1, 1) := by decide +kernel
theorem d_Reports_init_6 : decode prog_13_method_1_code 6 = .ok (.newarray .boolean, 2) := by decide +kernel
theorem d_Reports_init_8 : decode prog_13_method_1_code 8 = .ok (.putfield 9, 3) := by decide +kernel
theorem d_Reports_init_11 : decode prog_13_method_1_code 11 = .ok (.aload_n 0, 1) := by decide +kernel
theorem d_Reports_init_12 : decode prog_13_method_1_code 12 = .ok (.iload_n 1, 1) := by decide +kernel
theorem d_Reports_init_13 : decode prog_13_method_1_code 13 = .ok (.newarray .int, 2) := by decide +kernel
theorem d_Reports_init_15 : decode prog_13_method_1_code 15 = .ok (.putfield 15, 3) := by decide +kernel
theorem d_Reports_init_18 : decode prog_13_method_1_code 18 = .ok (.aload_n 0, 1) := by decide +kernel
theorem d_Reports_init_19 : decode prog_13_method_1_code 19 = .ok (.iload_n 1, 1) := by decide +kernel
theorem d_Reports_init_20 : decode prog_13_method_1_code 20 = .ok (.newarray .int, 2) := by decide +kernel
theorem d_Reports_init_22 : decode prog_13_method_1_code 22 = .ok (.putfield 19, 3) := by decide +kernel
theorem d_Reports_init_25 : decode prog_13_method_1_code 25 = .ok (.return_, 1) := by decide +kernel
theorem d_Plan_keepers_0 : decode prog_11_method_4_code 0 = .ok (.iload_n 1, 1) := by decide +kernel
theorem d_Plan_keepers_1 : decode prog_11_method_4_code 1 = .ok (.aload_n 0, 1) := by decide +kernel
theorem d_Plan_keepers_2 : decode prog_11_method_4_code 2 = .ok (.invokevirtual 18, 3) := by decide +kernel
theorem d_Plan_keepers_5 : decode prog_11_method_4_code 5 = .ok (.iand, 1) := by decide +kernel
theorem d_Plan_keepers_6 : decode prog_11_method_4_code 6 = .ok (.invokestatic 22, 3) := by decide +kernel
theorem d_Plan_keepers_9 : decode prog_11_method_4_code 9 = .ok (.aload_n 0, 1) := by decide +kernel
theorem d_Plan_keepers_10 : decode prog_11_method_4_code 10 = .ok (.getfield 15, 3) := by decide +kernel
theorem d_Plan_keepers_13 : decode prog_11_method_4_code 13 = .ok (.if_icmp .ge 5, 3) := by decide +kernel
theorem d_Plan_keepers_16 : decode prog_11_method_4_code 16 = .ok (.iconst 0, 1) := by decide +kernel
theorem d_Plan_keepers_17 : decode prog_11_method_4_code 17 = .ok (.ireturn, 1) := by decide +kernel
theorem d_Plan_keepers_18 : decode prog_11_method_4_code 18 = .ok (.iconst 0, 1) := by decide +kernel
theorem d_Plan_keepers_19 : decode prog_11_method_4_code 19 = .ok (.istore_n 2, 1) := by decide +kernel
theorem d_Plan_keepers_20 : decode prog_11_method_4_code 20 = .ok (.iconst 0, 1) := by decide +kernel
theorem d_Plan_keepers_21 : decode prog_11_method_4_code 21 = .ok (.istore_n 3, 1) := by decide +kernel
theorem d_Plan_keepers_22 : decode prog_11_method_4_code 22 = .ok (.iload_n 3, 1) := by decide +kernel
theorem d_Plan_keepers_23 : decode prog_11_method_4_code 23 = .ok (.aload_n 0, 1) := by decide +kernel
theorem d_Plan_keepers_24 : decode prog_11_method_4_code 24 = .ok (.getfield 15, 3) := by decide +kernel
theorem d_Plan_keepers_27 : decode prog_11_method_4_code 27 = .ok (.if_icmp .ge 23, 3) := by decide +kernel
theorem d_Plan_keepers_30 : decode prog_11_method_4_code 30 = .ok (.iload_n 2, 1) := by decide +kernel
theorem d_Plan_keepers_31 : decode prog_11_method_4_code 31 = .ok (.iconst 1, 1) := by decide +kernel
theorem d_Plan_keepers_32 : decode prog_11_method_4_code 32 = .ok (.aload_n 0, 1) := by decide +kernel
theorem d_Plan_keepers_33 : decode prog_11_method_4_code 33 = .ok (.iload_n 1, 1) := by decide +kernel
theorem d_Plan_keepers_34 : decode prog_11_method_4_code 34 = .ok (.iload_n 2, 1) := by decide +kernel
theorem d_Plan_keepers_35 : decode prog_11_method_4_code 35 = .ok (.iconst (-1), 1) := by decide +kernel
theorem d_Plan_keepers_36 : decode prog_11_method_4_code 36 = .ok (.ixor, 1) := by decide +kernel
theorem d_Plan_keepers_37 : decode prog_11_method_4_code 37 = .ok (.iand, 1) := by decide +kernel
theorem d_Plan_keepers_38 : decode prog_11_method_4_code 38 = .ok (.invokevirtual 28, 3) := by decide +kernel
theorem d_Plan_keepers_41 : decode prog_11_method_4_code 41 = .ok (.ishl, 1) := by decide +kernel
theorem d_Plan_keepers_42 : decode prog_11_method_4_code 42 = .ok (.ior, 1) := by decide +kernel
theorem d_Plan_keepers_43 : decode prog_11_method_4_code 43 = .ok (.istore_n 2, 1) := by decide +kernel
theorem d_Plan_keepers_44 : decode prog_11_method_4_code 44 = .ok (.iinc 3 1, 3) := by decide +kernel
theorem d_Plan_keepers_47 : decode prog_11_method_4_code 47 = .ok (.goto (-25), 3) := by decide +kernel
theorem d_Plan_keepers_50 : decode prog_11_method_4_code 50 = .ok (.iload_n 2, 1) := by decide +kernel
theorem d_Plan_keepers_51 : decode prog_11_method_4_code 51 = .ok (.ireturn, 1) := by decide +kernel
theorem d_Integer_bitCount_0 : decode prog_17_method_49_code 0 = .ok (.iload_n 0, 1) := by decide +kernel
theorem d_Integer_bitCount_1 : decode prog_17_method_49_code 1 = .ok (.iload_n 0, 1) := by decide +kernel
theorem d_Integer_bitCount_2 : decode prog_17_method_49_code 2 = .ok (.iconst 1, 1) := by decide +kernel
theorem d_Integer_bitCount_3 : decode prog_17_method_49_code 3 = .ok (.iushr, 1) := by decide +kernel
theorem d_Integer_bitCount_4 : decode prog_17_method_49_code 4 = .ok (.ldc_w 265, 3) := by decide +kernel
theorem d_Integer_bitCount_7 : decode prog_17_method_49_code 7 = .ok (.iand, 1) := by decide +kernel
theorem d_Integer_bitCount_8 : decode prog_17_method_49_code 8 = .ok (.isub, 1) := by decide +kernel
theorem d_Integer_bitCount_9 : decode prog_17_method_49_code 9 = .ok (.istore_n 0, 1) := by decide +kernel
theorem d_Integer_bitCount_10 : decode prog_17_method_49_code 10 = .ok (.iload_n 0, 1) := by decide +kernel
theorem d_Integer_bitCount_11 : decode prog_17_method_49_code 11 = .ok (.ldc_w 266, 3) := by decide +kernel
theorem d_Integer_bitCount_14 : decode prog_17_method_49_code 14 = .ok (.iand, 1) := by decide +kernel
theorem d_Integer_bitCount_15 : decode prog_17_method_49_code 15 = .ok (.iload_n 0, 1) := by decide +kernel
theorem d_Integer_bitCount_16 : decode prog_17_method_49_code 16 = .ok (.iconst 2, 1) := by decide +kernel
theorem d_Integer_bitCount_17 : decode prog_17_method_49_code 17 = .ok (.iushr, 1) := by decide +kernel
theorem d_Integer_bitCount_18 : decode prog_17_method_49_code 18 = .ok (.ldc_w 266, 3) := by decide +kernel
theorem d_Integer_bitCount_21 : decode prog_17_method_49_code 21 = .ok (.iand, 1) := by decide +kernel
theorem d_Integer_bitCount_22 : decode prog_17_method_49_code 22 = .ok (.iadd, 1) := by decide +kernel
theorem d_Integer_bitCount_23 : decode prog_17_method_49_code 23 = .ok (.istore_n 0, 1) := by decide +kernel
theorem d_Integer_bitCount_24 : decode prog_17_method_49_code 24 = .ok (.iload_n 0, 1) := by decide +kernel
theorem d_Integer_bitCount_25 : decode prog_17_method_49_code 25 = .ok (.iload_n 0, 1) := by decide +kernel
theorem d_Integer_bitCount_26 : decode prog_17_method_49_code 26 = .ok (.iconst 4, 1) := by decide +kernel
theorem d_Integer_bitCount_27 : decode prog_17_method_49_code 27 = .ok (.iushr, 1) := by decide +kernel
theorem d_Integer_bitCount_28 : decode prog_17_method_49_code 28 = .ok (.iadd, 1) := by decide +kernel
theorem d_Integer_bitCount_29 : decode prog_17_method_49_code 29 = .ok (.ldc_w 267, 3) := by decide +kernel
theorem d_Integer_bitCount_32 : decode prog_17_method_49_code 32 = .ok (.iand, 1) := by decide +kernel
theorem d_Integer_bitCount_33 : decode prog_17_method_49_code 33 = .ok (.istore_n 0, 1) := by decide +kernel
theorem d_Integer_bitCount_34 : decode prog_17_method_49_code 34 = .ok (.iload_n 0, 1) := by decide +kernel
theorem d_Integer_bitCount_35 : decode prog_17_method_49_code 35 = .ok (.iload_n 0, 1) := by decide +kernel
theorem d_Integer_bitCount_36 : decode prog_17_method_49_code 36 = .ok (.bipush 8, 2) := by decide +kernel
theorem d_Integer_bitCount_38 : decode prog_17_method_49_code 38 = .ok (.iushr, 1) := by decide +kernel
theorem d_Integer_bitCount_39 : decode prog_17_method_49_code 39 = .ok (.iadd, 1) := by decide +kernel
theorem d_Integer_bitCount_40 : decode prog_17_method_49_code 40 = .ok (.istore_n 0, 1) := by decide +kernel
theorem d_Integer_bitCount_41 : decode prog_17_method_49_code 41 = .ok (.iload_n 0, 1) := by decide +kernel
theorem d_Integer_bitCount_42 : decode prog_17_method_49_code 42 = .ok (.iload_n 0, 1) := by decide +kernel
theorem d_Integer_bitCount_43 : decode prog_17_method_49_code 43 = .ok (.bipush 16, 2) := by decide +kernel
theorem d_Integer_bitCount_45 : decode prog_17_method_49_code 45 = .ok (.iushr, 1) := by decide +kernel
theorem d_Integer_bitCount_46 : decode prog_17_method_49_code 46 = .ok (.iadd, 1) := by decide +kernel
theorem d_Integer_bitCount_47 : decode prog_17_method_49_code 47 = .ok (.istore_n 0, 1) := by decide +kernel
theorem d_Integer_bitCount_48 : decode prog_17_method_49_code 48 = .ok (.iload_n 0, 1) := by decide +kernel
theorem d_Integer_bitCount_49 : decode prog_17_method_49_code 49 = .ok (.bipush 63, 2) := by decide +kernel
theorem d_Integer_bitCount_51 : decode prog_17_method_49_code 51 = .ok (.iand, 1) := by decide +kernel
theorem d_Integer_bitCount_52 : decode prog_17_method_49_code 52 = .ok (.ireturn, 1) := by decide +kernel
theorem d_Memory_enter_0 : decode prog_8_method_2_code 0 = .ok (.aload_n 0, 1) := by decide +kernel
theorem d_Memory_enter_1 : decode prog_8_method_2_code 1 = .ok (.iload_n 1, 1) := by decide +kernel
theorem d_Memory_enter_2 : decode prog_8_method_2_code 2 = .ok (.putfield 16, 3) := by decide +kernel
theorem d_Memory_enter_5 : decode prog_8_method_2_code 5 = .ok (.aload_n 0, 1) := by decide +kernel
theorem d_Memory_enter_6 : decode prog_8_method_2_code 6 = .ok (.iload_n 2, 1) := by decide +kernel
theorem d_Memory_enter_7 : decode prog_8_method_2_code 7 = .ok (.putfield 20, 3) := by decide +kernel
theorem d_Memory_enter_10 : decode prog_8_method_2_code 10 = .ok (.aload_n 0, 1) := by decide +kernel
theorem d_Memory_enter_11 : decode prog_8_method_2_code 11 = .ok (.iload_n 3, 1) := by decide +kernel
theorem d_Memory_enter_12 : decode prog_8_method_2_code 12 = .ok (.putfield 23, 3) := by decide +kernel
theorem d_Memory_enter_15 : decode prog_8_method_2_code 15 = .ok (.return_, 1) := by decide +kernel
theorem d_Memory_become_0 : decode prog_8_method_4_code 0 = .ok (.aload_n 0, 1) := by decide +kernel
theorem d_Memory_become_1 : decode prog_8_method_4_code 1 = .ok (.aload_n 1, 1) := by decide +kernel
theorem d_Memory_become_2 : decode prog_8_method_4_code 2 = .ok (.getfield 16, 3) := by decide +kernel
theorem d_Memory_become_5 : decode prog_8_method_4_code 5 = .ok (.aload_n 1, 1) := by decide +kernel
theorem d_Memory_become_6 : decode prog_8_method_4_code 6 = .ok (.getfield 20, 3) := by decide +kernel
theorem d_Memory_become_9 : decode prog_8_method_4_code 9 = .ok (.aload_n 1, 1) := by decide +kernel
theorem d_Memory_become_10 : decode prog_8_method_4_code 10 = .ok (.getfield 23, 3) := by decide +kernel
theorem d_Memory_become_13 : decode prog_8_method_4_code 13 = .ok (.invokevirtual 26, 3) := by decide +kernel
theorem d_Memory_become_16 : decode prog_8_method_4_code 16 = .ok (.aload_n 0, 1) := by decide +kernel
theorem d_Memory_become_17 : decode prog_8_method_4_code 17 = .ok (.getfield 10, 3) := by decide +kernel
theorem d_Memory_become_20 : decode prog_8_method_4_code 20 = .ok (.aload_n 1, 1) := by decide +kernel
theorem d_Memory_become_21 : decode prog_8_method_4_code 21 = .ok (.getfield 10, 3) := by decide +kernel
theorem d_Memory_become_24 : decode prog_8_method_4_code 24 = .ok (.iconst 1, 1) := by decide +kernel
theorem d_Memory_become_25 : decode prog_8_method_4_code 25 = .ok (.invokevirtual 30, 3) := by decide +kernel
theorem d_Memory_become_28 : decode prog_8_method_4_code 28 = .ok (.return_, 1) := by decide +kernel
theorem d_Copy_copyFrom_0 : decode prog_4_method_9_code 0 = .ok (.aload_n 0, 1) := by decide +kernel
theorem d_Copy_copyFrom_1 : decode prog_4_method_9_code 1 = .ok (.aload_n 1, 1) := by decide +kernel
theorem d_Copy_copyFrom_2 : decode prog_4_method_9_code 2 = .ok (.getfield 28, 3) := by decide +kernel
theorem d_Copy_copyFrom_5 : decode prog_4_method_9_code 5 = .ok (.putfield 28, 3) := by decide +kernel
theorem d_Copy_copyFrom_8 : decode prog_4_method_9_code 8 = .ok (.aload_n 0, 1) := by decide +kernel
theorem d_Copy_copyFrom_9 : decode prog_4_method_9_code 9 = .ok (.aload_n 1, 1) := by decide +kernel
theorem d_Copy_copyFrom_10 : decode prog_4_method_9_code 10 = .ok (.getfield 35, 3) := by decide +kernel
theorem d_Copy_copyFrom_13 : decode prog_4_method_9_code 13 = .ok (.putfield 35, 3) := by decide +kernel
theorem d_Copy_copyFrom_16 : decode prog_4_method_9_code 16 = .ok (.iconst 0, 1) := by decide +kernel
theorem d_Copy_copyFrom_17 : decode prog_4_method_9_code 17 = .ok (.istore_n 3, 1) := by decide +kernel
theorem d_Copy_copyFrom_18 : decode prog_4_method_9_code 18 = .ok (.iload_n 3, 1) := by decide +kernel
theorem d_Copy_copyFrom_19 : decode prog_4_method_9_code 19 = .ok (.bipush 8, 2) := by decide +kernel
theorem d_Copy_copyFrom_21 : decode prog_4_method_9_code 21 = .ok (.if_icmp .ge 21, 3) := by decide +kernel
theorem d_Copy_copyFrom_24 : decode prog_4_method_9_code 24 = .ok (.aload_n 0, 1) := by decide +kernel
theorem d_Copy_copyFrom_25 : decode prog_4_method_9_code 25 = .ok (.getfield 20, 3) := by decide +kernel
theorem d_Copy_copyFrom_28 : decode prog_4_method_9_code 28 = .ok (.iload_n 3, 1) := by decide +kernel
theorem d_Copy_copyFrom_29 : decode prog_4_method_9_code 29 = .ok (.aload_n 1, 1) := by decide +kernel
theorem d_Copy_copyFrom_30 : decode prog_4_method_9_code 30 = .ok (.getfield 20, 3) := by decide +kernel
theorem d_Copy_copyFrom_33 : decode prog_4_method_9_code 33 = .ok (.iload_n 3, 1) := by decide +kernel
theorem d_Copy_copyFrom_34 : decode prog_4_method_9_code 34 = .ok (.aaload, 1) := by decide +kernel
theorem d_Copy_copyFrom_35 : decode prog_4_method_9_code 35 = .ok (.aastore, 1) := by decide +kernel
theorem d_Copy_copyFrom_36 : decode prog_4_method_9_code 36 = .ok (.iinc 3 1, 3) := by decide +kernel
theorem d_Copy_copyFrom_39 : decode prog_4_method_9_code 39 = .ok (.goto (-21), 3) := by decide +kernel
theorem d_Copy_copyFrom_42 : decode prog_4_method_9_code 42 = .ok (.iload_n 2, 1) := by decide +kernel
theorem d_Copy_copyFrom_43 : decode prog_4_method_9_code 43 = .ok (.ifCond .eq 41, 3) := by decide +kernel
theorem d_Copy_copyFrom_46 : decode prog_4_method_9_code 46 = .ok (.aload_n 0, 1) := by decide +kernel
theorem d_Copy_copyFrom_47 : decode prog_4_method_9_code 47 = .ok (.aload_n 1, 1) := by decide +kernel
theorem d_Copy_copyFrom_48 : decode prog_4_method_9_code 48 = .ok (.getfield 24, 3) := by decide +kernel
theorem d_Copy_copyFrom_51 : decode prog_4_method_9_code 51 = .ok (.putfield 24, 3) := by decide +kernel
theorem d_Copy_copyFrom_54 : decode prog_4_method_9_code 54 = .ok (.aload_n 1, 1) := by decide +kernel
theorem d_Copy_copyFrom_55 : decode prog_4_method_9_code 55 = .ok (.getfield 9, 3) := by decide +kernel
theorem d_Copy_copyFrom_58 : decode prog_4_method_9_code 58 = .ok (.iconst 0, 1) := by decide +kernel
theorem d_Copy_copyFrom_59 : decode prog_4_method_9_code 59 = .ok (.aload_n 0, 1) := by decide +kernel
theorem d_Copy_copyFrom_60 : decode prog_4_method_9_code 60 = .ok (.getfield 9, 3) := by decide +kernel
theorem d_Copy_copyFrom_63 : decode prog_4_method_9_code 63 = .ok (.iconst 0, 1) := by decide +kernel
theorem d_Copy_copyFrom_64 : decode prog_4_method_9_code 64 = .ok (.bipush 40, 2) := by decide +kernel
theorem d_Copy_copyFrom_66 : decode prog_4_method_9_code 66 = .ok (.invokestatic 74, 3) := by decide +kernel
theorem d_Copy_copyFrom_69 : decode prog_4_method_9_code 69 = .ok (.aload_n 1, 1) := by decide +kernel
theorem d_Copy_copyFrom_70 : decode prog_4_method_9_code 70 = .ok (.getfield 15, 3) := by decide +kernel
theorem d_Copy_copyFrom_73 : decode prog_4_method_9_code 73 = .ok (.iconst 0, 1) := by decide +kernel
theorem d_Copy_copyFrom_74 : decode prog_4_method_9_code 74 = .ok (.aload_n 0, 1) := by decide +kernel
theorem d_Copy_copyFrom_75 : decode prog_4_method_9_code 75 = .ok (.getfield 15, 3) := by decide +kernel
theorem d_Copy_copyFrom_78 : decode prog_4_method_9_code 78 = .ok (.iconst 0, 1) := by decide +kernel
theorem d_Copy_copyFrom_79 : decode prog_4_method_9_code 79 = .ok (.bipush 8, 2) := by decide +kernel
theorem d_Copy_copyFrom_81 : decode prog_4_method_9_code 81 = .ok (.invokestatic 74, 3) := by decide +kernel
theorem d_Copy_copyFrom_84 : decode prog_4_method_9_code 84 = .ok (.return_, 1) := by decide +kernel
theorem d_VG_give_0 : decode prog_1_method_2_code 0 = .ok (.iload_n 1, 1) := by decide +kernel
theorem d_VG_give_1 : decode prog_1_method_2_code 1 = .ok (.ifCond .lt 27, 3) := by decide +kernel
theorem d_VG_give_4 : decode prog_1_method_2_code 4 = .ok (.iload_n 1, 1) := by decide +kernel
theorem d_VG_give_5 : decode prog_1_method_2_code 5 = .ok (.iconst 4, 1) := by decide +kernel
theorem d_VG_give_6 : decode prog_1_method_2_code 6 = .ok (.if_icmp .gt 22, 3) := by decide +kernel
theorem d_VG_give_9 : decode prog_1_method_2_code 9 = .ok (.iload_n 2, 1) := by decide +kernel
theorem d_VG_give_10 : decode prog_1_method_2_code 10 = .ok (.invokestatic 60, 3) := by decide +kernel
theorem d_VG_give_13 : decode prog_1_method_2_code 13 = .ok (.ifCond .eq 15, 3) := by decide +kernel
theorem d_VG_give_16 : decode prog_1_method_2_code 16 = .ok (.iload_n 1, 1) := by decide +kernel
theorem d_VG_give_17 : decode prog_1_method_2_code 17 = .ok (.iconst 4, 1) := by decide +kernel
theorem d_VG_give_18 : decode prog_1_method_2_code 18 = .ok (.if_icmp .ne 12, 3) := by decide +kernel
theorem d_VG_give_21 : decode prog_1_method_2_code 21 = .ok (.iload_n 3, 1) := by decide +kernel
theorem d_VG_give_22 : decode prog_1_method_2_code 22 = .ok (.invokestatic 60, 3) := by decide +kernel
theorem d_VG_give_25 : decode prog_1_method_2_code 25 = .ok (.ifCond .ne 5, 3) := by decide +kernel
theorem d_VG_give_28 : decode prog_1_method_2_code 28 = .ok (.iconst (-1), 1) := by decide +kernel
theorem d_VG_give_29 : decode prog_1_method_2_code 29 = .ok (.ireturn, 1) := by decide +kernel
theorem d_VG_give_30 : decode prog_1_method_2_code 30 = .ok (.aload_n 0, 1) := by decide +kernel
theorem d_VG_give_31 : decode prog_1_method_2_code 31 = .ok (.getfield 44, 3) := by decide +kernel
theorem d_VG_give_34 : decode prog_1_method_2_code 34 = .ok (.invokevirtual 64, 3) := by decide +kernel
theorem d_VG_give_37 : decode prog_1_method_2_code 37 = .ok (.ifCond .eq 6, 3) := by decide +kernel
theorem d_VG_give_40 : decode prog_1_method_2_code 40 = .ok (.bipush (-2), 2) := by decide +kernel
theorem d_VG_give_42 : decode prog_1_method_2_code 42 = .ok (.ireturn, 1) := by decide +kernel
theorem d_VG_give_43 : decode prog_1_method_2_code 43 = .ok (.aload_n 0, 1) := by decide +kernel
theorem d_VG_give_44 : decode prog_1_method_2_code 44 = .ok (.iconst 0, 1) := by decide +kernel
theorem d_VG_give_45 : decode prog_1_method_2_code 45 = .ok (.putfield 68, 3) := by decide +kernel
theorem d_VG_give_48 : decode prog_1_method_2_code 48 = .ok (.aload_n 0, 1) := by decide +kernel
theorem d_VG_give_49 : decode prog_1_method_2_code 49 = .ok (.getfield 44, 3) := by decide +kernel
theorem d_VG_give_52 : decode prog_1_method_2_code 52 = .ok (.iload_n 1, 1) := by decide +kernel
theorem d_VG_give_53 : decode prog_1_method_2_code 53 = .ok (.iload_n 2, 1) := by decide +kernel
theorem d_VG_give_54 : decode prog_1_method_2_code 54 = .ok (.iload_n 3, 1) := by decide +kernel
theorem d_VG_give_55 : decode prog_1_method_2_code 55 = .ok (.invokevirtual 72, 3) := by decide +kernel
theorem d_VG_give_58 : decode prog_1_method_2_code 58 = .ok (.astore 4, 2) := by decide +kernel
theorem d_VG_give_60 : decode prog_1_method_2_code 60 = .ok (.aload_n 0, 1) := by decide +kernel
theorem d_VG_give_61 : decode prog_1_method_2_code 61 = .ok (.getfield 44, 3) := by decide +kernel
theorem d_VG_give_64 : decode prog_1_method_2_code 64 = .ok (.aload 4, 2) := by decide +kernel
theorem d_VG_give_66 : decode prog_1_method_2_code 66 = .ok (.aload_n 0, 1) := by decide +kernel
theorem d_VG_give_67 : decode prog_1_method_2_code 67 = .ok (.getfield 35, 3) := by decide +kernel
theorem d_VG_give_70 : decode prog_1_method_2_code 70 = .ok (.getfield 76, 3) := by decide +kernel
theorem d_VG_give_73 : decode prog_1_method_2_code 73 = .ok (.aload_n 0, 1) := by decide +kernel
theorem d_VG_give_74 : decode prog_1_method_2_code 74 = .ok (.getfield 35, 3) := by decide +kernel
theorem d_VG_give_77 : decode prog_1_method_2_code 77 = .ok (.getfield 79, 3) := by decide +kernel
theorem d_VG_give_80 : decode prog_1_method_2_code 80 = .ok (.invokevirtual 82, 3) := by decide +kernel
theorem d_VG_give_83 : decode prog_1_method_2_code 83 = .ok (.aload 4, 2) := by decide +kernel
theorem d_VG_give_85 : decode prog_1_method_2_code 85 = .ok (.getfield 86, 3) := by decide +kernel
theorem d_VG_give_88 : decode prog_1_method_2_code 88 = .ok (.ireturn, 1) := by decide +kernel
theorem d_VG_isKey_0 : decode prog_1_method_15_code 0 = .ok (.iload_n 0, 1) := by decide +kernel
theorem d_VG_isKey_1 : decode prog_1_method_15_code 1 = .ok (.ifCond .lt 13, 3) := by decide +kernel
theorem d_VG_isKey_4 : decode prog_1_method_15_code 4 = .ok (.iload_n 0, 1) := by decide +kernel
theorem d_VG_isKey_5 : decode prog_1_method_15_code 5 = .ok (.bipush 40, 2) := by decide +kernel
theorem d_VG_isKey_7 : decode prog_1_method_15_code 7 = .ok (.if_icmp .ge 7, 3) := by decide +kernel
theorem d_VG_isKey_10 : decode prog_1_method_15_code 10 = .ok (.iconst 1, 1) := by decide +kernel
theorem d_VG_isKey_11 : decode prog_1_method_15_code 11 = .ok (.goto 4, 3) := by decide +kernel
theorem d_VG_isKey_14 : decode prog_1_method_15_code 14 = .ok (.iconst 0, 1) := by decide +kernel
theorem d_VG_isKey_15 : decode prog_1_method_15_code 15 = .ok (.ireturn, 1) := by decide +kernel
theorem d_Desk_isFull_0 : decode prog_5_method_3_code 0 = .ok (.aload_n 0, 1) := by decide +kernel
theorem d_Desk_isFull_1 : decode prog_5_method_3_code 1 = .ok (.invokevirtual 36, 3) := by decide +kernel
theorem d_Desk_isFull_4 : decode prog_5_method_3_code 4 = .ok (.bipush 8, 2) := by decide +kernel
theorem d_Desk_isFull_6 : decode prog_5_method_3_code 6 = .ok (.if_icmp .ge 13, 3) := by decide +kernel
theorem d_Desk_isFull_9 : decode prog_5_method_3_code 9 = .ok (.aload_n 0, 1) := by decide +kernel
theorem d_Desk_isFull_10 : decode prog_5_method_3_code 10 = .ok (.getfield 29, 3) := by decide +kernel
theorem d_Desk_isFull_13 : decode prog_5_method_3_code 13 = .ok (.sipush 512, 3) := by decide +kernel
theorem d_Desk_isFull_16 : decode prog_5_method_3_code 16 = .ok (.if_icmp .lt 7, 3) := by decide +kernel
theorem d_Desk_isFull_19 : decode prog_5_method_3_code 19 = .ok (.iconst 1, 1) := by decide +kernel
theorem d_Desk_isFull_20 : decode prog_5_method_3_code 20 = .ok (.goto 4, 3) := by decide +kernel
theorem d_Desk_isFull_23 : decode prog_5_method_3_code 23 = .ok (.iconst 0, 1) := by decide +kernel
theorem d_Desk_isFull_24 : decode prog_5_method_3_code 24 = .ok (.ireturn, 1) := by decide +kernel
theorem d_Desk_open_0 : decode prog_5_method_2_code 0 = .ok (.aload_n 0, 1) := by decide +kernel
theorem d_Desk_open_1 : decode prog_5_method_2_code 1 = .ok (.getfield 29, 3) := by decide +kernel
theorem d_Desk_open_4 : decode prog_5_method_2_code 4 = .ok (.aload_n 0, 1) := by decide +kernel
theorem d_Desk_open_5 : decode prog_5_method_2_code 5 = .ok (.getfield 33, 3) := by decide +kernel
theorem d_Desk_open_8 : decode prog_5_method_2_code 8 = .ok (.isub, 1) := by decide +kernel
theorem d_Desk_open_9 : decode prog_5_method_2_code 9 = .ok (.ireturn, 1) := by decide +kernel
theorem d_Desk_accept_0 : decode prog_5_method_4_code 0 = .ok (.new 9, 3) := by decide +kernel
theorem d_Desk_accept_3 : decode prog_5_method_4_code 3 = .ok (.dup, 1) := by decide +kernel
theorem d_Desk_accept_4 : decode prog_5_method_4_code 4 = .ok (.aload_n 0, 1) := by decide +kernel
theorem d_Desk_accept_5 : decode prog_5_method_4_code 5 = .ok (.getfield 29, 3) := by decide +kernel
theorem d_Desk_accept_8 : decode prog_5_method_4_code 8 = .ok (.iload_n 1, 1) := by decide +kernel
theorem d_Desk_accept_9 : decode prog_5_method_4_code 9 = .ok (.iload_n 2, 1) := by decide +kernel
theorem d_Desk_accept_10 : decode prog_5_method_4_code 10 = .ok (.iload_n 3, 1) := by decide +kernel
theorem d_Desk_accept_11 : decode prog_5_method_4_code 11 = .ok (.invokespecial 40, 3) := by decide +kernel
theorem d_Desk_accept_14 : decode prog_5_method_4_code 14 = .ok (.astore 4, 2) := by decide +kernel
theorem d_Desk_accept_16 : decode prog_5_method_4_code 16 = .ok (.aload_n 0, 1) := by decide +kernel
theorem d_Desk_accept_17 : decode prog_5_method_4_code 17 = .ok (.getfield 11, 3) := by decide +kernel
theorem d_Desk_accept_20 : decode prog_5_method_4_code 20 = .ok (.aload_n 0, 1) := by decide +kernel
theorem d_Desk_accept_21 : decode prog_5_method_4_code 21 = .ok (.getfield 29, 3) := by decide +kernel
theorem d_Desk_accept_24 : decode prog_5_method_4_code 24 = .ok (.bipush 8, 2) := by decide +kernel
theorem d_Desk_accept_26 : decode prog_5_method_4_code 26 = .ok (.irem, 1) := by decide +kernel
theorem d_Desk_accept_27 : decode prog_5_method_4_code 27 = .ok (.aload 4, 2) := by decide +kernel
theorem d_Desk_accept_29 : decode prog_5_method_4_code 29 = .ok (.aastore, 1) := by decide +kernel
theorem d_Desk_accept_30 : decode prog_5_method_4_code 30 = .ok (.aload_n 0, 1) := by decide +kernel
theorem d_Desk_accept_31 : decode prog_5_method_4_code 31 = .ok (.getfield 17, 3) := by decide +kernel
theorem d_Desk_accept_34 : decode prog_5_method_4_code 34 = .ok (.aload_n 0, 1) := by decide +kernel
theorem d_Desk_accept_35 : decode prog_5_method_4_code 35 = .ok (.getfield 29, 3) := by decide +kernel
theorem d_Desk_accept_38 : decode prog_5_method_4_code 38 = .ok (.bipush 8, 2) := by decide +kernel
theorem d_Desk_accept_40 : decode prog_5_method_4_code 40 = .ok (.irem, 1) := by decide +kernel
theorem d_Desk_accept_41 : decode prog_5_method_4_code 41 = .ok (.iconst 0, 1) := by decide +kernel
theorem d_Desk_accept_42 : decode prog_5_method_4_code 42 = .ok (.bastore, 1) := by decide +kernel
theorem d_Desk_accept_43 : decode prog_5_method_4_code 43 = .ok (.aload_n 0, 1) := by decide +kernel
theorem d_Desk_accept_44 : decode prog_5_method_4_code 44 = .ok (.dup, 1) := by decide +kernel
theorem d_Desk_accept_45 : decode prog_5_method_4_code 45 = .ok (.getfield 29, 3) := by decide +kernel
theorem d_Desk_accept_48 : decode prog_5_method_4_code 48 = .ok (.iconst 1, 1) := by decide +kernel
theorem d_Desk_accept_49 : decode prog_5_method_4_code 49 = .ok (.iadd, 1) := by decide +kernel
theorem d_Desk_accept_50 : decode prog_5_method_4_code 50 = .ok (.putfield 29, 3) := by decide +kernel
theorem d_Desk_accept_53 : decode prog_5_method_4_code 53 = .ok (.aload 4, 2) := by decide +kernel
theorem d_Desk_accept_55 : decode prog_5_method_4_code 55 = .ok (.areturn, 1) := by decide +kernel
theorem d_Command_init_0 : decode prog_3_method_1_code 0 = .ok (.aload_n 0, 1) := by decide +kernel
theorem d_Command_init_1 : decode prog_3_method_1_code 1 = .ok (.invokespecial 1, 3) := by decide +kernel
theorem d_Command_init_4 : decode prog_3_method_1_code 4 = .ok (.aload_n 0, 1) := by decide +kernel
theorem d_Command_init_5 : decode prog_3_method_1_code 5 = .ok (.iload_n 1, 1) := by decide +kernel
theorem d_Command_init_6 : decode prog_3_method_1_code 6 = .ok (.putfield 7, 3) := by decide +kernel
theorem d_Command_init_9 : decode prog_3_method_1_code 9 = .ok (.aload_n 0, 1) := by decide +kernel
theorem d_Command_init_10 : decode prog_3_method_1_code 10 = .ok (.iload_n 2, 1) := by decide +kernel
theorem d_Command_init_11 : decode prog_3_method_1_code 11 = .ok (.putfield 13, 3) := by decide +kernel
theorem d_Command_init_14 : decode prog_3_method_1_code 14 = .ok (.aload_n 0, 1) := by decide +kernel
theorem d_Command_init_15 : decode prog_3_method_1_code 15 = .ok (.iload_n 3, 1) := by decide +kernel
theorem d_Command_init_16 : decode prog_3_method_1_code 16 = .ok (.putfield 16, 3) := by decide +kernel
theorem d_Command_init_19 : decode prog_3_method_1_code 19 = .ok (.aload_n 0, 1) := by decide +kernel
theorem d_Command_init_20 : decode prog_3_method_1_code 20 = .ok (.iload 4, 2) := by decide +kernel
theorem d_Command_init_22 : decode prog_3_method_1_code 22 = .ok (.putfield 19, 3) := by decide +kernel
theorem d_Command_init_25 : decode prog_3_method_1_code 25 = .ok (.return_, 1) := by decide +kernel
theorem d_Desk_request_0 : decode prog_5_method_5_code 0 = .ok (.iload_n 2, 1) := by decide +kernel
theorem d_Desk_request_1 : decode prog_5_method_5_code 1 = .ok (.iconst (-1), 1) := by decide +kernel
theorem d_Desk_request_2 : decode prog_5_method_5_code 2 = .ok (.if_icmp .eq 20, 3) := by decide +kernel
theorem d_Desk_request_5 : decode prog_5_method_5_code 5 = .ok (.aload_n 0, 1) := by decide +kernel
theorem d_Desk_request_6 : decode prog_5_method_5_code 6 = .ok (.getfield 25, 3) := by decide +kernel
theorem d_Desk_request_9 : decode prog_5_method_5_code 9 = .ok (.getstatic 43, 3) := by decide +kernel
theorem d_Desk_request_12 : decode prog_5_method_5_code 12 = .ok (.iconst (-1), 1) := by decide +kernel
theorem d_Desk_request_13 : decode prog_5_method_5_code 13 = .ok (.iload_n 2, 1) := by decide +kernel
theorem d_Desk_request_14 : decode prog_5_method_5_code 14 = .ok (.iload_n 3, 1) := by decide +kernel
theorem d_Desk_request_15 : decode prog_5_method_5_code 15 = .ok (.invokevirtual 49, 3) := by decide +kernel
theorem d_Desk_request_18 : decode prog_5_method_5_code 18 = .ok (.aload_n 1, 1) := by decide +kernel
theorem d_Desk_request_19 : decode prog_5_method_5_code 19 = .ok (.putfield 55, 3) := by decide +kernel
theorem d_Desk_request_22 : decode prog_5_method_5_code 22 = .ok (.return_, 1) := by decide +kernel
theorem d_Post_send_0 : decode prog_12_method_2_code 0 = .ok (.aload_n 0, 1) := by decide +kernel
theorem d_Post_send_1 : decode prog_12_method_2_code 1 = .ok (.getfield 11, 3) := by decide +kernel
theorem d_Post_send_4 : decode prog_12_method_2_code 4 = .ok (.bipush 64, 2) := by decide +kernel
theorem d_Post_send_6 : decode prog_12_method_2_code 6 = .ok (.aaload, 1) := by decide +kernel
theorem d_Post_send_7 : decode prog_12_method_2_code 7 = .ok (.astore 5, 2) := by decide +kernel
theorem d_Post_send_9 : decode prog_12_method_2_code 9 = .ok (.aload_n 0, 1) := by decide +kernel
theorem d_Post_send_10 : decode prog_12_method_2_code 10 = .ok (.getfield 22, 3) := by decide +kernel
theorem d_Post_send_13 : decode prog_12_method_2_code 13 = .ok (.bipush 64, 2) := by decide +kernel
theorem d_Post_send_15 : decode prog_12_method_2_code 15 = .ok (.if_icmp .ge 29, 3) := by decide +kernel
theorem d_Post_send_18 : decode prog_12_method_2_code 18 = .ok (.aload_n 0, 1) := by decide +kernel
theorem d_Post_send_19 : decode prog_12_method_2_code 19 = .ok (.getfield 11, 3) := by decide +kernel
theorem d_Post_send_22 : decode prog_12_method_2_code 22 = .ok (.aload_n 0, 1) := by decide +kernel
theorem d_Post_send_23 : decode prog_12_method_2_code 23 = .ok (.getfield 17, 3) := by decide +kernel
theorem d_Post_send_26 : decode prog_12_method_2_code 26 = .ok (.aload_n 0, 1) := by decide +kernel
theorem d_Post_send_27 : decode prog_12_method_2_code 27 = .ok (.getfield 22, 3) := by decide +kernel
theorem d_Post_send_30 : decode prog_12_method_2_code 30 = .ok (.iaload, 1) := by decide +kernel
theorem d_Post_send_31 : decode prog_12_method_2_code 31 = .ok (.aaload, 1) := by decide +kernel
theorem d_Post_send_32 : decode prog_12_method_2_code 32 = .ok (.astore 5, 2) := by decide +kernel
theorem d_Post_send_34 : decode prog_12_method_2_code 34 = .ok (.aload_n 0, 1) := by decide +kernel
theorem d_Post_send_35 : decode prog_12_method_2_code 35 = .ok (.dup, 1) := by decide +kernel
theorem d_Post_send_36 : decode prog_12_method_2_code 36 = .ok (.getfield 22, 3) := by decide +kernel
theorem d_Post_send_39 : decode prog_12_method_2_code 39 = .ok (.iconst 1, 1) := by decide +kernel
theorem d_Post_send_40 : decode prog_12_method_2_code 40 = .ok (.iadd, 1) := by decide +kernel
theorem d_Post_send_41 : decode prog_12_method_2_code 41 = .ok (.putfield 22, 3) := by decide +kernel
theorem d_Post_send_44 : decode prog_12_method_2_code 44 = .ok (.aload 5, 2) := by decide +kernel
theorem d_Post_send_46 : decode prog_12_method_2_code 46 = .ok (.aload_n 1, 1) := by decide +kernel
theorem d_Post_send_47 : decode prog_12_method_2_code 47 = .ok (.putfield 26, 3) := by decide +kernel
theorem d_Post_send_50 : decode prog_12_method_2_code 50 = .ok (.aload 5, 2) := by decide +kernel
theorem d_Post_send_52 : decode prog_12_method_2_code 52 = .ok (.iload_n 2, 1) := by decide +kernel
theorem d_Post_send_53 : decode prog_12_method_2_code 53 = .ok (.putfield 30, 3) := by decide +kernel
theorem d_Post_send_56 : decode prog_12_method_2_code 56 = .ok (.aload 5, 2) := by decide +kernel
theorem d_Post_send_58 : decode prog_12_method_2_code 58 = .ok (.iload_n 3, 1) := by decide +kernel
theorem d_Post_send_59 : decode prog_12_method_2_code 59 = .ok (.putfield 33, 3) := by decide +kernel
theorem d_Post_send_62 : decode prog_12_method_2_code 62 = .ok (.aload 5, 2) := by decide +kernel
theorem d_Post_send_64 : decode prog_12_method_2_code 64 = .ok (.iload 4, 2) := by decide +kernel
theorem d_Post_send_66 : decode prog_12_method_2_code 66 = .ok (.putfield 36, 3) := by decide +kernel
theorem d_Post_send_69 : decode prog_12_method_2_code 69 = .ok (.aload 5, 2) := by decide +kernel
theorem d_Post_send_71 : decode prog_12_method_2_code 71 = .ok (.areturn, 1) := by decide +kernel
theorem d_VG_deliver_0 : decode prog_1_method_3_code 0 = .ok (.aload_n 0, 1) := by decide +kernel
theorem d_VG_deliver_1 : decode prog_1_method_3_code 1 = .ok (.iconst 0, 1) := by decide +kernel
theorem d_VG_deliver_2 : decode prog_1_method_3_code 2 = .ok (.putfield 68, 3) := by decide +kernel
theorem d_VG_deliver_5 : decode prog_1_method_3_code 5 = .ok (.aload_n 0, 1) := by decide +kernel
theorem d_VG_deliver_6 : decode prog_1_method_3_code 6 = .ok (.iload_n 1, 1) := by decide +kernel
theorem d_VG_deliver_7 : decode prog_1_method_3_code 7 = .ok (.iconst 1, 1) := by decide +kernel
theorem d_VG_deliver_8 : decode prog_1_method_3_code 8 = .ok (.invokevirtual 91, 3) := by decide +kernel
theorem d_VG_deliver_11 : decode prog_1_method_3_code 11 = .ok (.return_, 1) := by decide +kernel
theorem d_VG_bring_0 : decode prog_1_method_19_code 0 = .ok (.aload_n 0, 1) := by decide +kernel
theorem d_VG_bring_1 : decode prog_1_method_19_code 1 = .ok (.getfield 24, 3) := by decide +kernel
theorem d_VG_bring_4 : decode prog_1_method_19_code 4 = .ok (.getfield 125, 3) := by decide +kernel
theorem d_VG_bring_7 : decode prog_1_method_19_code 7 = .ok (.ifCond .ne 4, 3) := by decide +kernel
theorem d_VG_bring_10 : decode prog_1_method_19_code 10 = .ok (.return_, 1) := by decide +kernel
theorem d_VG_bring_11 : decode prog_1_method_19_code 11 = .ok (.iload_n 1, 1) := by decide +kernel
theorem d_VG_bring_12 : decode prog_1_method_19_code 12 = .ok (.aload_n 0, 1) := by decide +kernel
theorem d_VG_bring_13 : decode prog_1_method_19_code 13 = .ok (.getfield 24, 3) := by decide +kernel
theorem d_VG_bring_16 : decode prog_1_method_19_code 16 = .ok (.getfield 125, 3) := by decide +kernel
theorem d_VG_bring_19 : decode prog_1_method_19_code 19 = .ok (.invokestatic 180, 3) := by decide +kernel
theorem d_VG_bring_22 : decode prog_1_method_19_code 22 = .ok (.istore_n 3, 1) := by decide +kernel
theorem d_VG_bring_23 : decode prog_1_method_19_code 23 = .ok (.iconst 0, 1) := by decide +kernel
theorem d_VG_bring_24 : decode prog_1_method_19_code 24 = .ok (.istore 4, 2) := by decide +kernel
theorem d_VG_bring_26 : decode prog_1_method_19_code 26 = .ok (.iload 4, 2) := by decide +kernel
theorem d_VG_bring_28 : decode prog_1_method_19_code 28 = .ok (.iload_n 2, 1) := by decide +kernel
theorem d_VG_bring_29 : decode prog_1_method_19_code 29 = .ok (.if_icmp .ge 21, 3) := by decide +kernel
theorem d_VG_bring_32 : decode prog_1_method_19_code 32 = .ok (.aload_n 0, 1) := by decide +kernel
theorem d_VG_bring_33 : decode prog_1_method_19_code 33 = .ok (.aload_n 0, 1) := by decide +kernel
theorem d_VG_bring_34 : decode prog_1_method_19_code 34 = .ok (.getfield 24, 3) := by decide +kernel
theorem d_VG_bring_37 : decode prog_1_method_19_code 37 = .ok (.iload_n 3, 1) := by decide +kernel
theorem d_VG_bring_38 : decode prog_1_method_19_code 38 = .ok (.invokevirtual 183, 3) := by decide +kernel
theorem d_VG_bring_41 : decode prog_1_method_19_code 41 = .ok (.invokevirtual 187, 3) := by decide +kernel
theorem d_VG_bring_44 : decode prog_1_method_19_code 44 = .ok (.iinc 4 1, 3) := by decide +kernel
theorem d_VG_bring_47 : decode prog_1_method_19_code 47 = .ok (.goto (-21), 3) := by decide +kernel
theorem d_VG_bring_50 : decode prog_1_method_19_code 50 = .ok (.aload_n 0, 1) := by decide +kernel
theorem d_VG_bring_51 : decode prog_1_method_19_code 51 = .ok (.getfield 24, 3) := by decide +kernel
theorem d_VG_bring_54 : decode prog_1_method_19_code 54 = .ok (.iload_n 3, 1) := by decide +kernel
theorem d_VG_bring_55 : decode prog_1_method_19_code 55 = .ok (.invokevirtual 191, 3) := by decide +kernel
theorem d_VG_bring_58 : decode prog_1_method_19_code 58 = .ok (.return_, 1) := by decide +kernel
theorem d_Math_floorMod_0 : decode prog_18_method_50_code 0 = .ok (.iload_n 0, 1) := by decide +kernel
theorem d_Math_floorMod_1 : decode prog_18_method_50_code 1 = .ok (.iload_n 1, 1) := by decide +kernel
theorem d_Math_floorMod_2 : decode prog_18_method_50_code 2 = .ok (.irem, 1) := by decide +kernel
theorem d_Math_floorMod_3 : decode prog_18_method_50_code 3 = .ok (.istore_n 2, 1) := by decide +kernel
theorem d_Math_floorMod_4 : decode prog_18_method_50_code 4 = .ok (.iload_n 0, 1) := by decide +kernel
theorem d_Math_floorMod_5 : decode prog_18_method_50_code 5 = .ok (.iload_n 1, 1) := by decide +kernel
theorem d_Math_floorMod_6 : decode prog_18_method_50_code 6 = .ok (.ixor, 1) := by decide +kernel
theorem d_Math_floorMod_7 : decode prog_18_method_50_code 7 = .ok (.ifCond .ge 11, 3) := by decide +kernel
theorem d_Math_floorMod_10 : decode prog_18_method_50_code 10 = .ok (.iload_n 2, 1) := by decide +kernel
theorem d_Math_floorMod_11 : decode prog_18_method_50_code 11 = .ok (.ifCond .eq 7, 3) := by decide +kernel
theorem d_Math_floorMod_14 : decode prog_18_method_50_code 14 = .ok (.iload_n 2, 1) := by decide +kernel
theorem d_Math_floorMod_15 : decode prog_18_method_50_code 15 = .ok (.iload_n 1, 1) := by decide +kernel
theorem d_Math_floorMod_16 : decode prog_18_method_50_code 16 = .ok (.iadd, 1) := by decide +kernel
theorem d_Math_floorMod_17 : decode prog_18_method_50_code 17 = .ok (.ireturn, 1) := by decide +kernel
theorem d_Math_floorMod_18 : decode prog_18_method_50_code 18 = .ok (.iload_n 2, 1) := by decide +kernel
theorem d_Math_floorMod_19 : decode prog_18_method_50_code 19 = .ok (.ireturn, 1) := by decide +kernel
theorem d_Post_look_0 : decode prog_12_method_3_code 0 = .ok (.iload_n 1, 1) := by decide +kernel
theorem d_Post_look_1 : decode prog_12_method_3_code 1 = .ok (.ifCond .lt 25, 3) := by decide +kernel
theorem d_Post_look_4 : decode prog_12_method_3_code 4 = .ok (.iload_n 1, 1) := by decide +kernel
theorem d_Post_look_5 : decode prog_12_method_3_code 5 = .ok (.aload_n 0, 1) := by decide +kernel
theorem d_Post_look_6 : decode prog_12_method_3_code 6 = .ok (.getfield 22, 3) := by decide +kernel
theorem d_Post_look_9 : decode prog_12_method_3_code 9 = .ok (.if_icmp .ge 17, 3) := by decide +kernel
theorem d_Post_look_12 : decode prog_12_method_3_code 12 = .ok (.aload_n 0, 1) := by decide +kernel
theorem d_Post_look_13 : decode prog_12_method_3_code 13 = .ok (.getfield 11, 3) := by decide +kernel
theorem d_Post_look_16 : decode prog_12_method_3_code 16 = .ok (.aload_n 0, 1) := by decide +kernel
theorem d_Post_look_17 : decode prog_12_method_3_code 17 = .ok (.getfield 17, 3) := by decide +kernel
theorem d_Post_look_20 : decode prog_12_method_3_code 20 = .ok (.iload_n 1, 1) := by decide +kernel
theorem d_Post_look_21 : decode prog_12_method_3_code 21 = .ok (.iaload, 1) := by decide +kernel
theorem d_Post_look_22 : decode prog_12_method_3_code 22 = .ok (.aaload, 1) := by decide +kernel
theorem d_Post_look_23 : decode prog_12_method_3_code 23 = .ok (.goto 10, 3) := by decide +kernel
theorem d_Post_look_26 : decode prog_12_method_3_code 26 = .ok (.aload_n 0, 1) := by decide +kernel
theorem d_Post_look_27 : decode prog_12_method_3_code 27 = .ok (.getfield 11, 3) := by decide +kernel
theorem d_Post_look_30 : decode prog_12_method_3_code 30 = .ok (.bipush 64, 2) := by decide +kernel
theorem d_Post_look_32 : decode prog_12_method_3_code 32 = .ok (.aaload, 1) := by decide +kernel
theorem d_Post_look_33 : decode prog_12_method_3_code 33 = .ok (.areturn, 1) := by decide +kernel
theorem d_VG_arrive_0 : decode prog_1_method_22_code 0 = .ok (.aload_n 1, 1) := by decide +kernel
theorem d_VG_arrive_1 : decode prog_1_method_22_code 1 = .ok (.getfield 195, 3) := by decide +kernel
theorem d_VG_arrive_4 : decode prog_1_method_22_code 4 = .ok (.getstatic 201, 3) := by decide +kernel
theorem d_VG_arrive_7 : decode prog_1_method_22_code 7 = .ok (.if_acmp .ne 14, 3) := by decide +kernel
theorem d_VG_arrive_10 : decode prog_1_method_22_code 10 = .ok (.aload_n 0, 1) := by decide +kernel
theorem d_VG_arrive_11 : decode prog_1_method_22_code 11 = .ok (.getfield 35, 3) := by decide +kernel
theorem d_VG_arrive_14 : decode prog_1_method_22_code 14 = .ok (.aload_n 1, 1) := by decide +kernel
theorem d_VG_arrive_15 : decode prog_1_method_22_code 15 = .ok (.invokevirtual 206, 3) := by decide +kernel
theorem d_VG_arrive_18 : decode prog_1_method_22_code 18 = .ok (.goto 63, 3) := by decide +kernel
theorem d_VG_arrive_21 : decode prog_1_method_22_code 21 = .ok (.aload_n 1, 1) := by decide +kernel
theorem d_VG_arrive_22 : decode prog_1_method_22_code 22 = .ok (.getfield 195, 3) := by decide +kernel
theorem d_VG_arrive_25 : decode prog_1_method_22_code 25 = .ok (.getstatic 209, 3) := by decide +kernel
theorem d_VG_arrive_28 : decode prog_1_method_22_code 28 = .ok (.if_acmp .ne 14, 3) := by decide +kernel
theorem d_VG_arrive_31 : decode prog_1_method_22_code 31 = .ok (.aload_n 0, 1) := by decide +kernel
theorem d_VG_arrive_32 : decode prog_1_method_22_code 32 = .ok (.getfield 44, 3) := by decide +kernel
theorem d_VG_arrive_35 : decode prog_1_method_22_code 35 = .ok (.aload_n 1, 1) := by decide +kernel
theorem d_VG_arrive_36 : decode prog_1_method_22_code 36 = .ok (.invokevirtual 212, 3) := by decide +kernel
theorem d_VG_arrive_39 : decode prog_1_method_22_code 39 = .ok (.goto 42, 3) := by decide +kernel
theorem d_VG_arrive_42 : decode prog_1_method_22_code 42 = .ok (.aload_n 0, 1) := by decide +kernel
theorem d_VG_arrive_43 : decode prog_1_method_22_code 43 = .ok (.aload_n 1, 1) := by decide +kernel
theorem d_VG_arrive_44 : decode prog_1_method_22_code 44 = .ok (.getfield 213, 3) := by decide +kernel
theorem d_VG_arrive_47 : decode prog_1_method_22_code 47 = .ok (.invokevirtual 102, 3) := by decide +kernel
theorem d_VG_arrive_50 : decode prog_1_method_22_code 50 = .ok (.ifCond .eq 31, 3) := by decide +kernel
theorem d_VG_arrive_53 : decode prog_1_method_22_code 53 = .ok (.aload_n 0, 1) := by decide +kernel
theorem d_VG_arrive_54 : decode prog_1_method_22_code 54 = .ok (.getfield 54, 3) := by decide +kernel
theorem d_VG_arrive_57 : decode prog_1_method_22_code 57 = .ok (.aload_n 1, 1) := by decide +kernel
theorem d_VG_arrive_58 : decode prog_1_method_22_code 58 = .ok (.getfield 213, 3) := by decide +kernel
theorem d_VG_arrive_61 : decode prog_1_method_22_code 61 = .ok (.aaload, 1) := by decide +kernel
theorem d_VG_arrive_62 : decode prog_1_method_22_code 62 = .ok (.getfield 105, 3) := by decide +kernel
theorem d_VG_arrive_65 : decode prog_1_method_22_code 65 = .ok (.ifCond .eq 16, 3) := by decide +kernel
theorem d_VG_arrive_68 : decode prog_1_method_22_code 68 = .ok (.aload_n 0, 1) := by decide +kernel
theorem d_VG_arrive_69 : decode prog_1_method_22_code 69 = .ok (.getfield 54, 3) := by decide +kernel
theorem d_VG_arrive_72 : decode prog_1_method_22_code 72 = .ok (.aload_n 1, 1) := by decide +kernel
theorem d_VG_arrive_73 : decode prog_1_method_22_code 73 = .ok (.getfield 213, 3) := by decide +kernel
theorem d_VG_arrive_76 : decode prog_1_method_22_code 76 = .ok (.aaload, 1) := by decide +kernel
theorem d_VG_arrive_77 : decode prog_1_method_22_code 77 = .ok (.aload_n 1, 1) := by decide +kernel
theorem d_VG_arrive_78 : decode prog_1_method_22_code 78 = .ok (.invokevirtual 216, 3) := by decide +kernel
theorem d_VG_arrive_81 : decode prog_1_method_22_code 81 = .ok (.return_, 1) := by decide +kernel
theorem d_MapKeeper_hear_0 : decode prog_7_method_4_code 0 = .ok (.aload_n 1, 1) := by decide +kernel
theorem d_MapKeeper_hear_1 : decode prog_7_method_4_code 1 = .ok (.getfield 64, 3) := by decide +kernel
theorem d_MapKeeper_hear_4 : decode prog_7_method_4_code 4 = .ok (.ifCond .lt 42, 3) := by decide +kernel
theorem d_MapKeeper_hear_7 : decode prog_7_method_4_code 7 = .ok (.aload_n 1, 1) := by decide +kernel
theorem d_MapKeeper_hear_8 : decode prog_7_method_4_code 8 = .ok (.getfield 64, 3) := by decide +kernel
theorem d_MapKeeper_hear_11 : decode prog_7_method_4_code 11 = .ok (.aload_n 0, 1) := by decide +kernel
theorem d_MapKeeper_hear_12 : decode prog_7_method_4_code 12 = .ok (.getfield 15, 3) := by decide +kernel
theorem d_MapKeeper_hear_15 : decode prog_7_method_4_code 15 = .ok (.getfield 39, 3) := by decide +kernel
theorem d_MapKeeper_hear_18 : decode prog_7_method_4_code 18 = .ok (.if_icmp .ge 28, 3) := by decide +kernel
theorem d_MapKeeper_hear_21 : decode prog_7_method_4_code 21 = .ok (.aload_n 0, 1) := by decide +kernel
theorem d_MapKeeper_hear_22 : decode prog_7_method_4_code 22 = .ok (.getfield 42, 3) := by decide +kernel
theorem d_MapKeeper_hear_25 : decode prog_7_method_4_code 25 = .ok (.aload_n 1, 1) := by decide +kernel
theorem d_MapKeeper_hear_26 : decode prog_7_method_4_code 26 = .ok (.getfield 64, 3) := by decide +kernel
theorem d_MapKeeper_hear_29 : decode prog_7_method_4_code 29 = .ok (.aload_n 0, 1) := by decide +kernel
theorem d_MapKeeper_hear_30 : decode prog_7_method_4_code 30 = .ok (.getfield 42, 3) := by decide +kernel
theorem d_MapKeeper_hear_33 : decode prog_7_method_4_code 33 = .ok (.aload_n 1, 1) := by decide +kernel
theorem d_MapKeeper_hear_34 : decode prog_7_method_4_code 34 = .ok (.getfield 64, 3) := by decide +kernel
theorem d_MapKeeper_hear_37 : decode prog_7_method_4_code 37 = .ok (.iaload, 1) := by decide +kernel
theorem d_MapKeeper_hear_38 : decode prog_7_method_4_code 38 = .ok (.aload_n 1, 1) := by decide +kernel
theorem d_MapKeeper_hear_39 : decode prog_7_method_4_code 39 = .ok (.getfield 67, 3) := by decide +kernel
theorem d_MapKeeper_hear_42 : decode prog_7_method_4_code 42 = .ok (.invokestatic 68, 3) := by decide +kernel
theorem d_MapKeeper_hear_45 : decode prog_7_method_4_code 45 = .ok (.iastore, 1) := by decide +kernel
theorem d_MapKeeper_hear_46 : decode prog_7_method_4_code 46 = .ok (.return_, 1) := by decide +kernel
theorem d_Desk_hear_0 : decode prog_5_method_7_code 0 = .ok (.aload_n 1, 1) := by decide +kernel
theorem d_Desk_hear_1 : decode prog_5_method_7_code 1 = .ok (.getfield 65, 3) := by decide +kernel
theorem d_Desk_hear_4 : decode prog_5_method_7_code 4 = .ok (.istore_n 2, 1) := by decide +kernel
theorem d_Desk_hear_5 : decode prog_5_method_7_code 5 = .ok (.iload_n 2, 1) := by decide +kernel
theorem d_Desk_hear_6 : decode prog_5_method_7_code 6 = .ok (.aload_n 0, 1) := by decide +kernel
theorem d_Desk_hear_7 : decode prog_5_method_7_code 7 = .ok (.getfield 33, 3) := by decide +kernel
theorem d_Desk_hear_10 : decode prog_5_method_7_code 10 = .ok (.if_icmp .lt 31, 3) := by decide +kernel
theorem d_Desk_hear_13 : decode prog_5_method_7_code 13 = .ok (.iload_n 2, 1) := by decide +kernel
theorem d_Desk_hear_14 : decode prog_5_method_7_code 14 = .ok (.aload_n 0, 1) := by decide +kernel
theorem d_Desk_hear_15 : decode prog_5_method_7_code 15 = .ok (.getfield 29, 3) := by decide +kernel
theorem d_Desk_hear_18 : decode prog_5_method_7_code 18 = .ok (.if_icmp .ge 23, 3) := by decide +kernel
theorem d_Desk_hear_21 : decode prog_5_method_7_code 21 = .ok (.aload_n 0, 1) := by decide +kernel
theorem d_Desk_hear_22 : decode prog_5_method_7_code 22 = .ok (.getfield 21, 3) := by decide +kernel
theorem d_Desk_hear_25 : decode prog_5_method_7_code 25 = .ok (.iload_n 2, 1) := by decide +kernel
theorem d_Desk_hear_26 : decode prog_5_method_7_code 26 = .ok (.aload_n 1, 1) := by decide +kernel
theorem d_Desk_hear_27 : decode prog_5_method_7_code 27 = .ok (.getfield 68, 3) := by decide +kernel
theorem d_Desk_hear_30 : decode prog_5_method_7_code 30 = .ok (.iastore, 1) := by decide +kernel
theorem d_Desk_hear_31 : decode prog_5_method_7_code 31 = .ok (.aload_n 0, 1) := by decide +kernel
theorem d_Desk_hear_32 : decode prog_5_method_7_code 32 = .ok (.getfield 17, 3) := by decide +kernel
theorem d_Desk_hear_35 : decode prog_5_method_7_code 35 = .ok (.iload_n 2, 1) := by decide +kernel
theorem d_Desk_hear_36 : decode prog_5_method_7_code 36 = .ok (.bipush 8, 2) := by decide +kernel
theorem d_Desk_hear_38 : decode prog_5_method_7_code 38 = .ok (.irem, 1) := by decide +kernel
theorem d_Desk_hear_39 : decode prog_5_method_7_code 39 = .ok (.iconst 1, 1) := by decide +kernel
theorem d_Desk_hear_40 : decode prog_5_method_7_code 40 = .ok (.bastore, 1) := by decide +kernel
theorem d_Desk_hear_41 : decode prog_5_method_7_code 41 = .ok (.return_, 1) := by decide +kernel
theorem d_VG_isNode_0 : decode prog_1_method_16_code 0 = .ok (.iload_n 1, 1) := by decide +kernel
theorem d_VG_isNode_1 : decode prog_1_method_16_code 1 = .ok (.ifCond .lt 16, 3) := by decide +kernel
theorem d_VG_isNode_4 : decode prog_1_method_16_code 4 = .ok (.iload_n 1, 1) := by decide +kernel
theorem d_VG_isNode_5 : decode prog_1_method_16_code 5 = .ok (.aload_n 0, 1) := by decide +kernel
theorem d_VG_isNode_6 : decode prog_1_method_16_code 6 = .ok (.getfield 54, 3) := by decide +kernel
theorem d_VG_isNode_9 : decode prog_1_method_16_code 9 = .ok (.arraylength, 1) := by decide +kernel
theorem d_VG_isNode_10 : decode prog_1_method_16_code 10 = .ok (.if_icmp .ge 7, 3) := by decide +kernel
theorem d_VG_isNode_13 : decode prog_1_method_16_code 13 = .ok (.iconst 1, 1) := by decide +kernel
theorem d_VG_isNode_14 : decode prog_1_method_16_code 14 = .ok (.goto 4, 3) := by decide +kernel
theorem d_VG_isNode_17 : decode prog_1_method_16_code 17 = .ok (.iconst 0, 1) := by decide +kernel
theorem d_VG_isNode_18 : decode prog_1_method_16_code 18 = .ok (.ireturn, 1) := by decide +kernel
theorem d_Node_hear_0 : decode prog_10_method_4_code 0 = .ok (.aload_n 1, 1) := by decide +kernel
theorem d_Node_hear_1 : decode prog_10_method_4_code 1 = .ok (.getfield 85, 3) := by decide +kernel
theorem d_Node_hear_4 : decode prog_10_method_4_code 4 = .ok (.getstatic 91, 3) := by decide +kernel
theorem d_Node_hear_7 : decode prog_10_method_4_code 7 = .ok (.if_acmp .ne 9, 3) := by decide +kernel
theorem d_Node_hear_10 : decode prog_10_method_4_code 10 = .ok (.aload_n 0, 1) := by decide +kernel
theorem d_Node_hear_11 : decode prog_10_method_4_code 11 = .ok (.aload_n 1, 1) := by decide +kernel
theorem d_Node_hear_12 : decode prog_10_method_4_code 12 = .ok (.invokevirtual 96, 3) := by decide +kernel
theorem d_Node_hear_15 : decode prog_10_method_4_code 15 = .ok (.return_, 1) := by decide +kernel
theorem d_Node_hear_16 : decode prog_10_method_4_code 16 = .ok (.aload_n 1, 1) := by decide +kernel
theorem d_Node_hear_17 : decode prog_10_method_4_code 17 = .ok (.getfield 100, 3) := by decide +kernel
theorem d_Node_hear_20 : decode prog_10_method_4_code 20 = .ok (.aload_n 0, 1) := by decide +kernel
theorem d_Node_hear_21 : decode prog_10_method_4_code 21 = .ok (.getfield 12, 3) := by decide +kernel
theorem d_Node_hear_24 : decode prog_10_method_4_code 24 = .ok (.getfield 103, 3) := by decide +kernel
theorem d_Node_hear_27 : decode prog_10_method_4_code 27 = .ok (.if_icmp .eq 4, 3) := by decide +kernel
theorem d_Node_hear_30 : decode prog_10_method_4_code 30 = .ok (.return_, 1) := by decide +kernel
theorem d_Node_hear_31 : decode prog_10_method_4_code 31 = .ok (.getstatic 104, 3) := by decide +kernel
theorem d_Node_hear_34 : decode prog_10_method_4_code 34 = .ok (.aload_n 1, 1) := by decide +kernel
theorem d_Node_hear_35 : decode prog_10_method_4_code 35 = .ok (.getfield 85, 3) := by decide +kernel
theorem d_Node_hear_38 : decode prog_10_method_4_code 38 = .ok (.invokevirtual 110, 3) := by decide +kernel
theorem d_Node_hear_41 : decode prog_10_method_4_code 41 = .ok (.iaload, 1) := by decide +kernel
theorem d_Node_hear_42 : decode prog_10_method_4_code 42 = .ok (.tableswitch 199 1 7 #[42, 53, 61, 83, 130, 130, 176], 42) := by decide +kernel
theorem d_Node_hear_84 : decode prog_10_method_4_code 84 = .ok (.aload_n 0, 1) := by decide +kernel
theorem d_Node_hear_85 : decode prog_10_method_4_code 85 = .ok (.aload_n 1, 1) := by decide +kernel
theorem d_Node_hear_86 : decode prog_10_method_4_code 86 = .ok (.getfield 113, 3) := by decide +kernel
theorem d_Node_hear_89 : decode prog_10_method_4_code 89 = .ok (.invokevirtual 117, 3) := by decide +kernel
theorem d_Node_hear_92 : decode prog_10_method_4_code 92 = .ok (.goto 149, 3) := by decide +kernel
theorem d_Node_hear_95 : decode prog_10_method_4_code 95 = .ok (.aload_n 0, 1) := by decide +kernel
theorem d_Node_hear_96 : decode prog_10_method_4_code 96 = .ok (.iconst 1, 1) := by decide +kernel
theorem d_Node_hear_97 : decode prog_10_method_4_code 97 = .ok (.putfield 82, 3) := by decide +kernel
theorem d_Node_hear_100 : decode prog_10_method_4_code 100 = .ok (.goto 141, 3) := by decide +kernel
theorem d_Node_hear_103 : decode prog_10_method_4_code 103 = .ok (.aload_n 0, 1) := by decide +kernel
theorem d_Node_hear_104 : decode prog_10_method_4_code 104 = .ok (.getfield 47, 3) := by decide +kernel
theorem d_Node_hear_107 : decode prog_10_method_4_code 107 = .ok (.aload_n 1, 1) := by decide +kernel
theorem d_Node_hear_108 : decode prog_10_method_4_code 108 = .ok (.getfield 121, 3) := by decide +kernel
theorem d_Node_hear_111 : decode prog_10_method_4_code 111 = .ok (.aload_n 1, 1) := by decide +kernel
theorem d_Node_hear_112 : decode prog_10_method_4_code 112 = .ok (.getfield 124, 3) := by decide +kernel
theorem d_Node_hear_115 : decode prog_10_method_4_code 115 = .ok (.aload_n 1, 1) := by decide +kernel
theorem d_Node_hear_116 : decode prog_10_method_4_code 116 = .ok (.getfield 127, 3) := by decide +kernel
theorem d_Node_hear_119 : decode prog_10_method_4_code 119 = .ok (.invokevirtual 130, 3) := by decide +kernel
theorem d_Node_hear_122 : decode prog_10_method_4_code 122 = .ok (.goto 119, 3) := by decide +kernel
theorem d_Node_hear_125 : decode prog_10_method_4_code 125 = .ok (.aload_n 0, 1) := by decide +kernel
theorem d_Node_hear_126 : decode prog_10_method_4_code 126 = .ok (.getfield 33, 3) := by decide +kernel
theorem d_Node_hear_129 : decode prog_10_method_4_code 129 = .ok (.getstatic 133, 3) := by decide +kernel
theorem d_Node_hear_132 : decode prog_10_method_4_code 132 = .ok (.aload_n 0, 1) := by decide +kernel
theorem d_Node_hear_133 : decode prog_10_method_4_code 133 = .ok (.getfield 25, 3) := by decide +kernel
theorem d_Node_hear_136 : decode prog_10_method_4_code 136 = .ok (.aload_n 1, 1) := by decide +kernel
theorem d_Node_hear_137 : decode prog_10_method_4_code 137 = .ok (.getfield 121, 3) := by decide +kernel
theorem d_Node_hear_140 : decode prog_10_method_4_code 140 = .ok (.aload_n 0, 1) := by decide +kernel
theorem d_Node_hear_141 : decode prog_10_method_4_code 141 = .ok (.getfield 12, 3) := by decide +kernel
theorem d_Node_hear_144 : decode prog_10_method_4_code 144 = .ok (.getfield 103, 3) := by decide +kernel
theorem d_Node_hear_147 : decode prog_10_method_4_code 147 = .ok (.invokevirtual 136, 3) := by decide +kernel
theorem d_Node_hear_150 : decode prog_10_method_4_code 150 = .ok (.getfield 142, 3) := by decide +kernel
theorem d_Node_hear_153 : decode prog_10_method_4_code 153 = .ok (.aload_n 0, 1) := by decide +kernel
theorem d_Node_hear_154 : decode prog_10_method_4_code 154 = .ok (.getfield 12, 3) := by decide +kernel
theorem d_Node_hear_157 : decode prog_10_method_4_code 157 = .ok (.getfield 146, 3) := by decide +kernel
theorem d_Node_hear_160 : decode prog_10_method_4_code 160 = .ok (.iconst 1, 1) := by decide +kernel
theorem d_Node_hear_161 : decode prog_10_method_4_code 161 = .ok (.invokevirtual 147, 3) := by decide +kernel
theorem d_Node_hear_164 : decode prog_10_method_4_code 164 = .ok (.aload_n 0, 1) := by decide +kernel
theorem d_Node_hear_165 : decode prog_10_method_4_code 165 = .ok (.iconst 1, 1) := by decide +kernel
theorem d_Node_hear_166 : decode prog_10_method_4_code 166 = .ok (.putfield 82, 3) := by decide +kernel
theorem d_Node_hear_169 : decode prog_10_method_4_code 169 = .ok (.goto 72, 3) := by decide +kernel
theorem d_Node_hear_172 : decode prog_10_method_4_code 172 = .ok (.aload_n 0, 1) := by decide +kernel
theorem d_Node_hear_173 : decode prog_10_method_4_code 173 = .ok (.dup, 1) := by decide +kernel
theorem d_Node_hear_174 : decode prog_10_method_4_code 174 = .ok (.getfield 76, 3) := by decide +kernel
theorem d_Node_hear_177 : decode prog_10_method_4_code 177 = .ok (.aload_n 0, 1) := by decide +kernel
theorem d_Node_hear_178 : decode prog_10_method_4_code 178 = .ok (.getfield 12, 3) := by decide +kernel
theorem d_Node_hear_181 : decode prog_10_method_4_code 181 = .ok (.getfield 146, 3) := by decide +kernel
theorem d_Node_hear_184 : decode prog_10_method_4_code 184 = .ok (.aload_n 1, 1) := by decide +kernel
theorem d_Node_hear_185 : decode prog_10_method_4_code 185 = .ok (.getfield 142, 3) := by decide +kernel
theorem d_Node_hear_188 : decode prog_10_method_4_code 188 = .ok (.aload_n 1, 1) := by decide +kernel
theorem d_Node_hear_189 : decode prog_10_method_4_code 189 = .ok (.getfield 85, 3) := by decide +kernel
theorem d_Node_hear_192 : decode prog_10_method_4_code 192 = .ok (.getstatic 133, 3) := by decide +kernel
theorem d_Node_hear_195 : decode prog_10_method_4_code 195 = .ok (.if_acmp .ne 7, 3) := by decide +kernel
theorem d_Node_hear_198 : decode prog_10_method_4_code 198 = .ok (.iconst 1, 1) := by decide +kernel
theorem d_Node_hear_199 : decode prog_10_method_4_code 199 = .ok (.goto 4, 3) := by decide +kernel
theorem d_Node_hear_202 : decode prog_10_method_4_code 202 = .ok (.iconst 0, 1) := by decide +kernel
theorem d_Node_hear_203 : decode prog_10_method_4_code 203 = .ok (.invokevirtual 153, 3) := by decide +kernel
theorem d_Node_hear_206 : decode prog_10_method_4_code 206 = .ok (.ior, 1) := by decide +kernel
theorem d_Node_hear_207 : decode prog_10_method_4_code 207 = .ok (.putfield 76, 3) := by decide +kernel
theorem d_Node_hear_210 : decode prog_10_method_4_code 210 = .ok (.aload_n 0, 1) := by decide +kernel
theorem d_Node_hear_211 : decode prog_10_method_4_code 211 = .ok (.iconst 1, 1) := by decide +kernel
theorem d_Node_hear_212 : decode prog_10_method_4_code 212 = .ok (.putfield 82, 3) := by decide +kernel
theorem d_Node_hear_215 : decode prog_10_method_4_code 215 = .ok (.goto 26, 3) := by decide +kernel
theorem d_Node_hear_218 : decode prog_10_method_4_code 218 = .ok (.aload_n 0, 1) := by decide +kernel
theorem d_Node_hear_219 : decode prog_10_method_4_code 219 = .ok (.getfield 12, 3) := by decide +kernel
theorem d_Node_hear_222 : decode prog_10_method_4_code 222 = .ok (.getfield 146, 3) := by decide +kernel
theorem d_Node_hear_225 : decode prog_10_method_4_code 225 = .ok (.invokevirtual 157, 3) := by decide +kernel
theorem d_Node_hear_228 : decode prog_10_method_4_code 228 = .ok (.aload_n 0, 1) := by decide +kernel
theorem d_Node_hear_229 : decode prog_10_method_4_code 229 = .ok (.iconst 1, 1) := by decide +kernel
theorem d_Node_hear_230 : decode prog_10_method_4_code 230 = .ok (.putfield 76, 3) := by decide +kernel
theorem d_Node_hear_233 : decode prog_10_method_4_code 233 = .ok (.aload_n 0, 1) := by decide +kernel
theorem d_Node_hear_234 : decode prog_10_method_4_code 234 = .ok (.iconst 1, 1) := by decide +kernel
theorem d_Node_hear_235 : decode prog_10_method_4_code 235 = .ok (.putfield 82, 3) := by decide +kernel
theorem d_Node_hear_238 : decode prog_10_method_4_code 238 = .ok (.goto 3, 3) := by decide +kernel
theorem d_Node_hear_241 : decode prog_10_method_4_code 241 = .ok (.return_, 1) := by decide +kernel
theorem d_Node_hearMap_0 : decode prog_10_method_5_code 0 = .ok (.aload_n 0, 1) := by decide +kernel
theorem d_Node_hearMap_1 : decode prog_10_method_5_code 1 = .ok (.iconst 1, 1) := by decide +kernel
theorem d_Node_hearMap_2 : decode prog_10_method_5_code 2 = .ok (.putfield 79, 3) := by decide +kernel
theorem d_Node_hearMap_5 : decode prog_10_method_5_code 5 = .ok (.aload_n 1, 1) := by decide +kernel
theorem d_Node_hearMap_6 : decode prog_10_method_5_code 6 = .ok (.getfield 100, 3) := by decide +kernel
theorem d_Node_hearMap_9 : decode prog_10_method_5_code 9 = .ok (.aload_n 0, 1) := by decide +kernel
theorem d_Node_hearMap_10 : decode prog_10_method_5_code 10 = .ok (.getfield 12, 3) := by decide +kernel
theorem d_Node_hearMap_13 : decode prog_10_method_5_code 13 = .ok (.getfield 103, 3) := by decide +kernel
theorem d_Node_hearMap_16 : decode prog_10_method_5_code 16 = .ok (.if_icmp .le 52, 3) := by decide +kernel
theorem d_Node_hearMap_19 : decode prog_10_method_5_code 19 = .ok (.aload_n 0, 1) := by decide +kernel
theorem d_Node_hearMap_20 : decode prog_10_method_5_code 20 = .ok (.getfield 29, 3) := by decide +kernel
theorem d_Node_hearMap_23 : decode prog_10_method_5_code 23 = .ok (.aload_n 1, 1) := by decide +kernel
theorem d_Node_hearMap_24 : decode prog_10_method_5_code 24 = .ok (.getfield 160, 3) := by decide +kernel
theorem d_Node_hearMap_27 : decode prog_10_method_5_code 27 = .ok (.invokevirtual 55, 3) := by decide +kernel
theorem d_Node_hearMap_30 : decode prog_10_method_5_code 30 = .ok (.istore_n 2, 1) := by decide +kernel
theorem d_Node_hearMap_31 : decode prog_10_method_5_code 31 = .ok (.aload_n 0, 1) := by decide +kernel
theorem d_Node_hearMap_32 : decode prog_10_method_5_code 32 = .ok (.getfield 12, 3) := by decide +kernel
theorem d_Node_hearMap_35 : decode prog_10_method_5_code 35 = .ok (.aload_n 1, 1) := by decide +kernel
theorem d_Node_hearMap_36 : decode prog_10_method_5_code 36 = .ok (.getfield 100, 3) := by decide +kernel
theorem d_Node_hearMap_39 : decode prog_10_method_5_code 39 = .ok (.iload_n 2, 1) := by decide +kernel
theorem d_Node_hearMap_40 : decode prog_10_method_5_code 40 = .ok (.aload_n 0, 1) := by decide +kernel
theorem d_Node_hearMap_41 : decode prog_10_method_5_code 41 = .ok (.getfield 29, 3) := by decide +kernel
theorem d_Node_hearMap_44 : decode prog_10_method_5_code 44 = .ok (.iload_n 2, 1) := by decide +kernel
theorem d_Node_hearMap_45 : decode prog_10_method_5_code 45 = .ok (.invokevirtual 59, 3) := by decide +kernel
theorem d_Node_hearMap_48 : decode prog_10_method_5_code 48 = .ok (.invokevirtual 62, 3) := by decide +kernel
theorem d_Node_hearMap_51 : decode prog_10_method_5_code 51 = .ok (.aload_n 0, 1) := by decide +kernel
theorem d_Node_hearMap_52 : decode prog_10_method_5_code 52 = .ok (.getfield 47, 3) := by decide +kernel
theorem d_Node_hearMap_55 : decode prog_10_method_5_code 55 = .ok (.invokevirtual 73, 3) := by decide +kernel
theorem d_Node_hearMap_58 : decode prog_10_method_5_code 58 = .ok (.aload_n 0, 1) := by decide +kernel
theorem d_Node_hearMap_59 : decode prog_10_method_5_code 59 = .ok (.iconst 1, 1) := by decide +kernel
theorem d_Node_hearMap_60 : decode prog_10_method_5_code 60 = .ok (.putfield 76, 3) := by decide +kernel
theorem d_Node_hearMap_63 : decode prog_10_method_5_code 63 = .ok (.aload_n 0, 1) := by decide +kernel
theorem d_Node_hearMap_64 : decode prog_10_method_5_code 64 = .ok (.iconst 1, 1) := by decide +kernel
theorem d_Node_hearMap_65 : decode prog_10_method_5_code 65 = .ok (.putfield 82, 3) := by decide +kernel
theorem d_Node_hearMap_68 : decode prog_10_method_5_code 68 = .ok (.return_, 1) := by decide +kernel
theorem d_Reports_clear_0 : decode prog_13_method_2_code 0 = .ok (.iconst 0, 1) := by decide +kernel
theorem d_Reports_clear_1 : decode prog_13_method_2_code 1 = .ok (.istore_n 1, 1) := by decide +kernel
theorem d_Reports_clear_2 : decode prog_13_method_2_code 2 = .ok (.iload_n 1, 1) := by decide +kernel
theorem d_Reports_clear_3 : decode prog_13_method_2_code 3 = .ok (.aload_n 0, 1) := by decide +kernel
theorem d_Reports_clear_4 : decode prog_13_method_2_code 4 = .ok (.getfield 9, 3) := by decide +kernel
theorem d_Reports_clear_7 : decode prog_13_method_2_code 7 = .ok (.arraylength, 1) := by decide +kernel
theorem d_Reports_clear_8 : decode prog_13_method_2_code 8 = .ok (.if_icmp .ge 16, 3) := by decide +kernel
theorem d_Reports_clear_11 : decode prog_13_method_2_code 11 = .ok (.aload_n 0, 1) := by decide +kernel
theorem d_Reports_clear_12 : decode prog_13_method_2_code 12 = .ok (.getfield 9, 3) := by decide +kernel
theorem d_Reports_clear_15 : decode prog_13_method_2_code 15 = .ok (.iload_n 1, 1) := by decide +kernel
theorem d_Reports_clear_16 : decode prog_13_method_2_code 16 = .ok (.iconst 0, 1) := by decide +kernel
theorem d_Reports_clear_17 : decode prog_13_method_2_code 17 = .ok (.bastore, 1) := by decide +kernel
theorem d_Reports_clear_18 : decode prog_13_method_2_code 18 = .ok (.iinc 1 1, 3) := by decide +kernel
theorem d_Reports_clear_21 : decode prog_13_method_2_code 21 = .ok (.goto (-19), 3) := by decide +kernel
theorem d_Reports_clear_24 : decode prog_13_method_2_code 24 = .ok (.aload_n 0, 1) := by decide +kernel
theorem d_Reports_clear_25 : decode prog_13_method_2_code 25 = .ok (.iconst 0, 1) := by decide +kernel
theorem d_Reports_clear_26 : decode prog_13_method_2_code 26 = .ok (.putfield 22, 3) := by decide +kernel
theorem d_Reports_clear_29 : decode prog_13_method_2_code 29 = .ok (.aload_n 0, 1) := by decide +kernel
theorem d_Reports_clear_30 : decode prog_13_method_2_code 30 = .ok (.iconst 0, 1) := by decide +kernel
theorem d_Reports_clear_31 : decode prog_13_method_2_code 31 = .ok (.putfield 26, 3) := by decide +kernel
theorem d_Reports_clear_34 : decode prog_13_method_2_code 34 = .ok (.return_, 1) := by decide +kernel
theorem d_Enum_ordinal_0 : decode prog_16_method_2_code 0 = .ok (.aload_n 0, 1) := by decide +kernel
theorem d_Enum_ordinal_1 : decode prog_16_method_2_code 1 = .ok (.getfield 7, 3) := by decide +kernel
theorem d_Enum_ordinal_4 : decode prog_16_method_2_code 4 = .ok (.ireturn, 1) := by decide +kernel
theorem d_Node_hearCommand_0 : decode prog_10_method_6_code 0 = .ok (.aload_n 1, 1) := by decide +kernel
theorem d_Node_hearCommand_1 : decode prog_10_method_6_code 1 = .ok (.ifnull 27, 3) := by decide +kernel
theorem d_Node_hearCommand_4 : decode prog_10_method_6_code 4 = .ok (.aload_n 0, 1) := by decide +kernel
theorem d_Node_hearCommand_5 : decode prog_10_method_6_code 5 = .ok (.getfield 12, 3) := by decide +kernel
theorem d_Node_hearCommand_8 : decode prog_10_method_6_code 8 = .ok (.getfield 163, 3) := by decide +kernel
theorem d_Node_hearCommand_11 : decode prog_10_method_6_code 11 = .ok (.aload_n 0, 1) := by decide +kernel
theorem d_Node_hearCommand_12 : decode prog_10_method_6_code 12 = .ok (.getfield 25, 3) := by decide +kernel
theorem d_Node_hearCommand_15 : decode prog_10_method_6_code 15 = .ok (.if_icmp .ne 13, 3) := by decide +kernel
theorem d_Node_hearCommand_18 : decode prog_10_method_6_code 18 = .ok (.aload_n 0, 1) := by decide +kernel
theorem d_Node_hearCommand_19 : decode prog_10_method_6_code 19 = .ok (.getfield 47, 3) := by decide +kernel
theorem d_Node_hearCommand_22 : decode prog_10_method_6_code 22 = .ok (.getfield 166, 3) := by decide +kernel
theorem d_Node_hearCommand_25 : decode prog_10_method_6_code 25 = .ok (.ifCond .ne 4, 3) := by decide +kernel
theorem d_Node_hearCommand_28 : decode prog_10_method_6_code 28 = .ok (.return_, 1) := by decide +kernel
theorem d_Node_hearCommand_29 : decode prog_10_method_6_code 29 = .ok (.aload_n 0, 1) := by decide +kernel
theorem d_Node_hearCommand_30 : decode prog_10_method_6_code 30 = .ok (.getfield 12, 3) := by decide +kernel
theorem d_Node_hearCommand_33 : decode prog_10_method_6_code 33 = .ok (.getfield 146, 3) := by decide +kernel
theorem d_Node_hearCommand_36 : decode prog_10_method_6_code 36 = .ok (.aload_n 1, 1) := by decide +kernel
theorem d_Node_hearCommand_37 : decode prog_10_method_6_code 37 = .ok (.getfield 169, 3) := by decide +kernel
theorem d_Node_hearCommand_40 : decode prog_10_method_6_code 40 = .ok (.invokevirtual 174, 3) := by decide +kernel
theorem d_Node_hearCommand_43 : decode prog_10_method_6_code 43 = .ok (.ifCond .eq 14, 3) := by decide +kernel
theorem d_Node_hearCommand_46 : decode prog_10_method_6_code 46 = .ok (.aload_n 0, 1) := by decide +kernel
theorem d_Node_hearCommand_47 : decode prog_10_method_6_code 47 = .ok (.aload_n 1, 1) := by decide +kernel
theorem d_Node_hearCommand_48 : decode prog_10_method_6_code 48 = .ok (.getfield 169, 3) := by decide +kernel
theorem d_Node_hearCommand_51 : decode prog_10_method_6_code 51 = .ok (.invokevirtual 178, 3) := by decide +kernel
theorem d_Node_hearCommand_54 : decode prog_10_method_6_code 54 = .ok (.goto 23, 3) := by decide +kernel
theorem d_Node_hearCommand_57 : decode prog_10_method_6_code 57 = .ok (.aload_n 0, 1) := by decide +kernel
theorem d_Node_hearCommand_58 : decode prog_10_method_6_code 58 = .ok (.dup, 1) := by decide +kernel
theorem d_Node_hearCommand_59 : decode prog_10_method_6_code 59 = .ok (.getfield 76, 3) := by decide +kernel
theorem d_Node_hearCommand_62 : decode prog_10_method_6_code 62 = .ok (.aload_n 0, 1) := by decide +kernel
theorem d_Node_hearCommand_63 : decode prog_10_method_6_code 63 = .ok (.getfield 12, 3) := by decide +kernel
theorem d_Node_hearCommand_66 : decode prog_10_method_6_code 66 = .ok (.getfield 146, 3) := by decide +kernel
theorem d_Node_hearCommand_69 : decode prog_10_method_6_code 69 = .ok (.aload_n 1, 1) := by decide +kernel
theorem d_Node_hearCommand_70 : decode prog_10_method_6_code 70 = .ok (.invokevirtual 181, 3) := by decide +kernel
theorem d_Node_hearCommand_73 : decode prog_10_method_6_code 73 = .ok (.ior, 1) := by decide +kernel
theorem d_Node_hearCommand_74 : decode prog_10_method_6_code 74 = .ok (.putfield 76, 3) := by decide +kernel
theorem d_Node_hearCommand_77 : decode prog_10_method_6_code 77 = .ok (.return_, 1) := by decide +kernel
theorem d_Copy_remembers_0 : decode prog_4_method_3_code 0 = .ok (.iload_n 1, 1) := by decide +kernel
theorem d_Copy_remembers_1 : decode prog_4_method_3_code 1 = .ok (.ifCond .lt 26, 3) := by decide +kernel
theorem d_Copy_remembers_4 : decode prog_4_method_3_code 4 = .ok (.iload_n 1, 1) := by decide +kernel
theorem d_Copy_remembers_5 : decode prog_4_method_3_code 5 = .ok (.aload_n 0, 1) := by decide +kernel
theorem d_Copy_remembers_6 : decode prog_4_method_3_code 6 = .ok (.getfield 28, 3) := by decide +kernel
theorem d_Copy_remembers_9 : decode prog_4_method_3_code 9 = .ok (.if_icmp .ge 18, 3) := by decide +kernel
theorem d_Copy_remembers_12 : decode prog_4_method_3_code 12 = .ok (.iload_n 1, 1) := by decide +kernel
theorem d_Copy_remembers_13 : decode prog_4_method_3_code 13 = .ok (.aload_n 0, 1) := by decide +kernel
theorem d_Copy_remembers_14 : decode prog_4_method_3_code 14 = .ok (.getfield 28, 3) := by decide +kernel
theorem d_Copy_remembers_17 : decode prog_4_method_3_code 17 = .ok (.bipush 8, 2) := by decide +kernel
theorem d_Copy_remembers_19 : decode prog_4_method_3_code 19 = .ok (.isub, 1) := by decide +kernel
theorem d_Copy_remembers_20 : decode prog_4_method_3_code 20 = .ok (.if_icmp .lt 7, 3) := by decide +kernel
theorem d_Copy_remembers_23 : decode prog_4_method_3_code 23 = .ok (.iconst 1, 1) := by decide +kernel
theorem d_Copy_remembers_24 : decode prog_4_method_3_code 24 = .ok (.goto 4, 3) := by decide +kernel
theorem d_Copy_remembers_27 : decode prog_4_method_3_code 27 = .ok (.iconst 0, 1) := by decide +kernel
theorem d_Copy_remembers_28 : decode prog_4_method_3_code 28 = .ok (.ireturn, 1) := by decide +kernel
theorem d_Node_tellAnswer_0 : decode prog_10_method_7_code 0 = .ok (.aload_n 0, 1) := by decide +kernel
theorem d_Node_tellAnswer_1 : decode prog_10_method_7_code 1 = .ok (.getfield 33, 3) := by decide +kernel
theorem d_Node_tellAnswer_4 : decode prog_10_method_7_code 4 = .ok (.getstatic 185, 3) := by decide +kernel
theorem d_Node_tellAnswer_7 : decode prog_10_method_7_code 7 = .ok (.aload_n 0, 1) := by decide +kernel
theorem d_Node_tellAnswer_8 : decode prog_10_method_7_code 8 = .ok (.getfield 25, 3) := by decide +kernel
theorem d_Node_tellAnswer_11 : decode prog_10_method_7_code 11 = .ok (.iconst (-1), 1) := by decide +kernel
theorem d_Node_tellAnswer_12 : decode prog_10_method_7_code 12 = .ok (.aload_n 0, 1) := by decide +kernel
theorem d_Node_tellAnswer_13 : decode prog_10_method_7_code 13 = .ok (.getfield 12, 3) := by decide +kernel
theorem d_Node_tellAnswer_16 : decode prog_10_method_7_code 16 = .ok (.getfield 103, 3) := by decide +kernel
theorem d_Node_tellAnswer_19 : decode prog_10_method_7_code 19 = .ok (.invokevirtual 136, 3) := by decide +kernel
theorem d_Node_tellAnswer_22 : decode prog_10_method_7_code 22 = .ok (.astore_n 2, 1) := by decide +kernel
theorem d_Node_tellAnswer_23 : decode prog_10_method_7_code 23 = .ok (.aload_n 2, 1) := by decide +kernel
theorem d_Node_tellAnswer_24 : decode prog_10_method_7_code 24 = .ok (.iload_n 1, 1) := by decide +kernel
theorem d_Node_tellAnswer_25 : decode prog_10_method_7_code 25 = .ok (.putfield 188, 3) := by decide +kernel
theorem d_Node_tellAnswer_28 : decode prog_10_method_7_code 28 = .ok (.aload_n 2, 1) := by decide +kernel
theorem d_Node_tellAnswer_29 : decode prog_10_method_7_code 29 = .ok (.aload_n 0, 1) := by decide +kernel
theorem d_Node_tellAnswer_30 : decode prog_10_method_7_code 30 = .ok (.getfield 12, 3) := by decide +kernel
theorem d_Node_tellAnswer_33 : decode prog_10_method_7_code 33 = .ok (.getfield 146, 3) := by decide +kernel
theorem d_Node_tellAnswer_36 : decode prog_10_method_7_code 36 = .ok (.getfield 189, 3) := by decide +kernel
theorem d_Node_tellAnswer_39 : decode prog_10_method_7_code 39 = .ok (.iload_n 1, 1) := by decide +kernel
theorem d_Node_tellAnswer_40 : decode prog_10_method_7_code 40 = .ok (.bipush 8, 2) := by decide +kernel
theorem d_Node_tellAnswer_42 : decode prog_10_method_7_code 42 = .ok (.irem, 1) := by decide +kernel
theorem d_Node_tellAnswer_43 : decode prog_10_method_7_code 43 = .ok (.iaload, 1) := by decide +kernel
theorem d_Node_tellAnswer_44 : decode prog_10_method_7_code 44 = .ok (.putfield 192, 3) := by decide +kernel
theorem d_Node_tellAnswer_47 : decode prog_10_method_7_code 47 = .ok (.return_, 1) := by decide +kernel
theorem d_Copy_append_0 : decode prog_4_method_4_code 0 = .ok (.aload_n 1, 1) := by decide +kernel
theorem d_Copy_append_1 : decode prog_4_method_4_code 1 = .ok (.ifnull 28, 3) := by decide +kernel
theorem d_Copy_append_4 : decode prog_4_method_4_code 4 = .ok (.aload_n 1, 1) := by decide +kernel
theorem d_Copy_append_5 : decode prog_4_method_4_code 5 = .ok (.getfield 32, 3) := by decide +kernel
theorem d_Copy_append_8 : decode prog_4_method_4_code 8 = .ok (.aload_n 0, 1) := by decide +kernel
theorem d_Copy_append_9 : decode prog_4_method_4_code 9 = .ok (.getfield 35, 3) := by decide +kernel
theorem d_Copy_append_12 : decode prog_4_method_4_code 12 = .ok (.if_icmp .ne 17, 3) := by decide +kernel
theorem d_Copy_append_15 : decode prog_4_method_4_code 15 = .ok (.aload_n 0, 1) := by decide +kernel
theorem d_Copy_append_16 : decode prog_4_method_4_code 16 = .ok (.getfield 35, 3) := by decide +kernel
theorem d_Copy_append_19 : decode prog_4_method_4_code 19 = .ok (.aload_n 0, 1) := by decide +kernel
theorem d_Copy_append_20 : decode prog_4_method_4_code 20 = .ok (.getfield 28, 3) := by decide +kernel
theorem d_Copy_append_23 : decode prog_4_method_4_code 23 = .ok (.isub, 1) := by decide +kernel
theorem d_Copy_append_24 : decode prog_4_method_4_code 24 = .ok (.bipush 8, 2) := by decide +kernel
theorem d_Copy_append_26 : decode prog_4_method_4_code 26 = .ok (.if_icmp .lt 5, 3) := by decide +kernel
theorem d_Copy_append_29 : decode prog_4_method_4_code 29 = .ok (.iconst 0, 1) := by decide +kernel
theorem d_Copy_append_30 : decode prog_4_method_4_code 30 = .ok (.ireturn, 1) := by decide +kernel
theorem d_Copy_append_31 : decode prog_4_method_4_code 31 = .ok (.aload_n 0, 1) := by decide +kernel
theorem d_Copy_append_32 : decode prog_4_method_4_code 32 = .ok (.getfield 20, 3) := by decide +kernel
theorem d_Copy_append_35 : decode prog_4_method_4_code 35 = .ok (.aload_n 0, 1) := by decide +kernel
theorem d_Copy_append_36 : decode prog_4_method_4_code 36 = .ok (.getfield 35, 3) := by decide +kernel
theorem d_Copy_append_39 : decode prog_4_method_4_code 39 = .ok (.bipush 8, 2) := by decide +kernel
theorem d_Copy_append_41 : decode prog_4_method_4_code 41 = .ok (.irem, 1) := by decide +kernel
theorem d_Copy_append_42 : decode prog_4_method_4_code 42 = .ok (.aload_n 1, 1) := by decide +kernel
theorem d_Copy_append_43 : decode prog_4_method_4_code 43 = .ok (.aastore, 1) := by decide +kernel
theorem d_Copy_append_44 : decode prog_4_method_4_code 44 = .ok (.aload_n 0, 1) := by decide +kernel
theorem d_Copy_append_45 : decode prog_4_method_4_code 45 = .ok (.dup, 1) := by decide +kernel
theorem d_Copy_append_46 : decode prog_4_method_4_code 46 = .ok (.getfield 35, 3) := by decide +kernel
theorem d_Copy_append_49 : decode prog_4_method_4_code 49 = .ok (.iconst 1, 1) := by decide +kernel
theorem d_Copy_append_50 : decode prog_4_method_4_code 50 = .ok (.iadd, 1) := by decide +kernel
theorem d_Copy_append_51 : decode prog_4_method_4_code 51 = .ok (.putfield 35, 3) := by decide +kernel
theorem d_Copy_append_54 : decode prog_4_method_4_code 54 = .ok (.iconst 1, 1) := by decide +kernel
theorem d_Copy_append_55 : decode prog_4_method_4_code 55 = .ok (.ireturn, 1) := by decide +kernel
theorem d_Reports_note_0 : decode prog_13_method_3_code 0 = .ok (.iload_n 1, 1) := by decide +kernel
theorem d_Reports_note_1 : decode prog_13_method_3_code 1 = .ok (.ifCond .lt 33, 3) := by decide +kernel
theorem d_Reports_note_4 : decode prog_13_method_3_code 4 = .ok (.iload_n 1, 1) := by decide +kernel
theorem d_Reports_note_5 : decode prog_13_method_3_code 5 = .ok (.aload_n 0, 1) := by decide +kernel
theorem d_Reports_note_6 : decode prog_13_method_3_code 6 = .ok (.getfield 9, 3) := by decide +kernel
theorem d_Reports_note_9 : decode prog_13_method_3_code 9 = .ok (.arraylength, 1) := by decide +kernel
theorem d_Reports_note_10 : decode prog_13_method_3_code 10 = .ok (.if_icmp .ge 24, 3) := by decide +kernel
theorem d_Reports_note_13 : decode prog_13_method_3_code 13 = .ok (.aload_n 0, 1) := by decide +kernel
theorem d_Reports_note_14 : decode prog_13_method_3_code 14 = .ok (.getfield 9, 3) := by decide +kernel
theorem d_Reports_note_17 : decode prog_13_method_3_code 17 = .ok (.iload_n 1, 1) := by decide +kernel
theorem d_Reports_note_18 : decode prog_13_method_3_code 18 = .ok (.iconst 1, 1) := by decide +kernel
theorem d_Reports_note_19 : decode prog_13_method_3_code 19 = .ok (.bastore, 1) := by decide +kernel
theorem d_Reports_note_20 : decode prog_13_method_3_code 20 = .ok (.aload_n 0, 1) := by decide +kernel
theorem d_Reports_note_21 : decode prog_13_method_3_code 21 = .ok (.getfield 15, 3) := by decide +kernel
theorem d_Reports_note_24 : decode prog_13_method_3_code 24 = .ok (.iload_n 1, 1) := by decide +kernel
theorem d_Reports_note_25 : decode prog_13_method_3_code 25 = .ok (.iload_n 2, 1) := by decide +kernel
theorem d_Reports_note_26 : decode prog_13_method_3_code 26 = .ok (.iastore, 1) := by decide +kernel
theorem d_Reports_note_27 : decode prog_13_method_3_code 27 = .ok (.aload_n 0, 1) := by decide +kernel
theorem d_Reports_note_28 : decode prog_13_method_3_code 28 = .ok (.getfield 19, 3) := by decide +kernel
theorem d_Reports_note_31 : decode prog_13_method_3_code 31 = .ok (.iload_n 1, 1) := by decide +kernel
theorem d_Reports_note_32 : decode prog_13_method_3_code 32 = .ok (.iload_n 3, 1) := by decide +kernel
theorem d_Reports_note_33 : decode prog_13_method_3_code 33 = .ok (.iastore, 1) := by decide +kernel
theorem d_Reports_note_34 : decode prog_13_method_3_code 34 = .ok (.return_, 1) := by decide +kernel
theorem d_Copy_follow_0 : decode prog_4_method_8_code 0 = .ok (.aload_n 1, 1) := by decide +kernel
theorem d_Copy_follow_1 : decode prog_4_method_8_code 1 = .ok (.aload_n 0, 1) := by decide +kernel
theorem d_Copy_follow_2 : decode prog_4_method_8_code 2 = .ok (.getfield 35, 3) := by decide +kernel
theorem d_Copy_follow_5 : decode prog_4_method_8_code 5 = .ok (.invokevirtual 59, 3) := by decide +kernel
theorem d_Copy_follow_8 : decode prog_4_method_8_code 8 = .ok (.ifCond .ne 15, 3) := by decide +kernel
theorem d_Copy_follow_11 : decode prog_4_method_8_code 11 = .ok (.iload_n 2, 1) := by decide +kernel
theorem d_Copy_follow_12 : decode prog_4_method_8_code 12 = .ok (.ifCond .eq 9, 3) := by decide +kernel
theorem d_Copy_follow_15 : decode prog_4_method_8_code 15 = .ok (.aload_n 0, 1) := by decide +kernel
theorem d_Copy_follow_16 : decode prog_4_method_8_code 16 = .ok (.aload_n 1, 1) := by decide +kernel
theorem d_Copy_follow_17 : decode prog_4_method_8_code 17 = .ok (.iconst 1, 1) := by decide +kernel
theorem d_Copy_follow_18 : decode prog_4_method_8_code 18 = .ok (.invokevirtual 63, 3) := by decide +kernel
theorem d_Copy_follow_21 : decode prog_4_method_8_code 21 = .ok (.iload_n 2, 1) := by decide +kernel
theorem d_Copy_follow_22 : decode prog_4_method_8_code 22 = .ok (.ireturn, 1) := by decide +kernel
theorem d_Copy_follow_23 : decode prog_4_method_8_code 23 = .ok (.iconst 0, 1) := by decide +kernel
theorem d_Copy_follow_24 : decode prog_4_method_8_code 24 = .ok (.istore_n 3, 1) := by decide +kernel
theorem d_Copy_follow_25 : decode prog_4_method_8_code 25 = .ok (.aload_n 0, 1) := by decide +kernel
theorem d_Copy_follow_26 : decode prog_4_method_8_code 26 = .ok (.getfield 35, 3) := by decide +kernel
theorem d_Copy_follow_29 : decode prog_4_method_8_code 29 = .ok (.istore 4, 2) := by decide +kernel
theorem d_Copy_follow_31 : decode prog_4_method_8_code 31 = .ok (.iload 4, 2) := by decide +kernel
theorem d_Copy_follow_33 : decode prog_4_method_8_code 33 = .ok (.aload_n 1, 1) := by decide +kernel
theorem d_Copy_follow_34 : decode prog_4_method_8_code 34 = .ok (.getfield 35, 3) := by decide +kernel
theorem d_Copy_follow_37 : decode prog_4_method_8_code 37 = .ok (.if_icmp .ge 37, 3) := by decide +kernel
theorem d_Copy_follow_40 : decode prog_4_method_8_code 40 = .ok (.iload_n 3, 1) := by decide +kernel
theorem d_Copy_follow_41 : decode prog_4_method_8_code 41 = .ok (.aload_n 0, 1) := by decide +kernel
theorem d_Copy_follow_42 : decode prog_4_method_8_code 42 = .ok (.aload_n 1, 1) := by decide +kernel
theorem d_Copy_follow_43 : decode prog_4_method_8_code 43 = .ok (.getfield 28, 3) := by decide +kernel
theorem d_Copy_follow_46 : decode prog_4_method_8_code 46 = .ok (.invokevirtual 67, 3) := by decide +kernel
theorem d_Copy_follow_49 : decode prog_4_method_8_code 49 = .ok (.ior, 1) := by decide +kernel
theorem d_Copy_follow_50 : decode prog_4_method_8_code 50 = .ok (.istore_n 3, 1) := by decide +kernel
theorem d_Copy_follow_51 : decode prog_4_method_8_code 51 = .ok (.iload_n 3, 1) := by decide +kernel
theorem d_Copy_follow_52 : decode prog_4_method_8_code 52 = .ok (.aload_n 0, 1) := by decide +kernel
theorem d_Copy_follow_53 : decode prog_4_method_8_code 53 = .ok (.aload_n 1, 1) := by decide +kernel
theorem d_Copy_follow_54 : decode prog_4_method_8_code 54 = .ok (.getfield 20, 3) := by decide +kernel
theorem d_Copy_follow_57 : decode prog_4_method_8_code 57 = .ok (.iload 4, 2) := by decide +kernel
theorem d_Copy_follow_59 : decode prog_4_method_8_code 59 = .ok (.bipush 8, 2) := by decide +kernel
theorem d_Copy_follow_61 : decode prog_4_method_8_code 61 = .ok (.irem, 1) := by decide +kernel
theorem d_Copy_follow_62 : decode prog_4_method_8_code 62 = .ok (.aaload, 1) := by decide +kernel
theorem d_Copy_follow_63 : decode prog_4_method_8_code 63 = .ok (.invokevirtual 70, 3) := by decide +kernel
theorem d_Copy_follow_66 : decode prog_4_method_8_code 66 = .ok (.ior, 1) := by decide +kernel
theorem d_Copy_follow_67 : decode prog_4_method_8_code 67 = .ok (.istore_n 3, 1) := by decide +kernel
theorem d_Copy_follow_68 : decode prog_4_method_8_code 68 = .ok (.iinc 4 1, 3) := by decide +kernel
theorem d_Copy_follow_71 : decode prog_4_method_8_code 71 = .ok (.goto (-40), 3) := by decide +kernel
theorem d_Copy_follow_74 : decode prog_4_method_8_code 74 = .ok (.aload_n 0, 1) := by decide +kernel
theorem d_Copy_follow_75 : decode prog_4_method_8_code 75 = .ok (.aload_n 1, 1) := by decide +kernel
theorem d_Copy_follow_76 : decode prog_4_method_8_code 76 = .ok (.getfield 28, 3) := by decide +kernel
theorem d_Copy_follow_79 : decode prog_4_method_8_code 79 = .ok (.invokevirtual 67, 3) := by decide +kernel
theorem d_Copy_follow_82 : decode prog_4_method_8_code 82 = .ok (.iload_n 3, 1) := by decide +kernel
theorem d_Copy_follow_83 : decode prog_4_method_8_code 83 = .ok (.ior, 1) := by decide +kernel
theorem d_Copy_follow_84 : decode prog_4_method_8_code 84 = .ok (.ireturn, 1) := by decide +kernel
theorem d_Copy_reachesBackTo_0 : decode prog_4_method_7_code 0 = .ok (.iload_n 1, 1) := by decide +kernel
theorem d_Copy_reachesBackTo_1 : decode prog_4_method_7_code 1 = .ok (.aload_n 0, 1) := by decide +kernel
theorem d_Copy_reachesBackTo_2 : decode prog_4_method_7_code 2 = .ok (.getfield 35, 3) := by decide +kernel
theorem d_Copy_reachesBackTo_5 : decode prog_4_method_7_code 5 = .ok (.bipush 8, 2) := by decide +kernel
theorem d_Copy_reachesBackTo_7 : decode prog_4_method_7_code 7 = .ok (.isub, 1) := by decide +kernel
theorem d_Copy_reachesBackTo_8 : decode prog_4_method_7_code 8 = .ok (.if_icmp .lt 7, 3) := by decide +kernel
theorem d_Copy_reachesBackTo_11 : decode prog_4_method_7_code 11 = .ok (.iconst 1, 1) := by decide +kernel
theorem d_Copy_reachesBackTo_12 : decode prog_4_method_7_code 12 = .ok (.goto 4, 3) := by decide +kernel
theorem d_Copy_reachesBackTo_15 : decode prog_4_method_7_code 15 = .ok (.iconst 0, 1) := by decide +kernel
theorem d_Copy_reachesBackTo_16 : decode prog_4_method_7_code 16 = .ok (.ireturn, 1) := by decide +kernel
theorem d_Copy_doUpTo_0 : decode prog_4_method_5_code 0 = .ok (.aload_n 0, 1) := by decide +kernel
theorem d_Copy_doUpTo_1 : decode prog_4_method_5_code 1 = .ok (.getfield 28, 3) := by decide +kernel
theorem d_Copy_doUpTo_4 : decode prog_4_method_5_code 4 = .ok (.istore_n 2, 1) := by decide +kernel
theorem d_Copy_doUpTo_5 : decode prog_4_method_5_code 5 = .ok (.iload_n 1, 1) := by decide +kernel
theorem d_Copy_doUpTo_6 : decode prog_4_method_5_code 6 = .ok (.aload_n 0, 1) := by decide +kernel
theorem d_Copy_doUpTo_7 : decode prog_4_method_5_code 7 = .ok (.getfield 35, 3) := by decide +kernel
theorem d_Copy_doUpTo_10 : decode prog_4_method_5_code 10 = .ok (.invokestatic 38, 3) := by decide +kernel
theorem d_Copy_doUpTo_13 : decode prog_4_method_5_code 13 = .ok (.istore_n 3, 1) := by decide +kernel
theorem d_Copy_doUpTo_14 : decode prog_4_method_5_code 14 = .ok (.aload_n 0, 1) := by decide +kernel
theorem d_Copy_doUpTo_15 : decode prog_4_method_5_code 15 = .ok (.getfield 28, 3) := by decide +kernel
theorem d_Copy_doUpTo_18 : decode prog_4_method_5_code 18 = .ok (.iload_n 3, 1) := by decide +kernel
theorem d_Copy_doUpTo_19 : decode prog_4_method_5_code 19 = .ok (.if_icmp .ge 44, 3) := by decide +kernel
theorem d_Copy_doUpTo_22 : decode prog_4_method_5_code 22 = .ok (.aload_n 0, 1) := by decide +kernel
theorem d_Copy_doUpTo_23 : decode prog_4_method_5_code 23 = .ok (.getfield 15, 3) := by decide +kernel
theorem d_Copy_doUpTo_26 : decode prog_4_method_5_code 26 = .ok (.aload_n 0, 1) := by decide +kernel
theorem d_Copy_doUpTo_27 : decode prog_4_method_5_code 27 = .ok (.getfield 28, 3) := by decide +kernel
theorem d_Copy_doUpTo_30 : decode prog_4_method_5_code 30 = .ok (.bipush 8, 2) := by decide +kernel
theorem d_Copy_doUpTo_32 : decode prog_4_method_5_code 32 = .ok (.irem, 1) := by decide +kernel
theorem d_Copy_doUpTo_33 : decode prog_4_method_5_code 33 = .ok (.aload_n 0, 1) := by decide +kernel
theorem d_Copy_doUpTo_34 : decode prog_4_method_5_code 34 = .ok (.aload_n 0, 1) := by decide +kernel
theorem d_Copy_doUpTo_35 : decode prog_4_method_5_code 35 = .ok (.getfield 20, 3) := by decide +kernel
theorem d_Copy_doUpTo_38 : decode prog_4_method_5_code 38 = .ok (.aload_n 0, 1) := by decide +kernel
theorem d_Copy_doUpTo_39 : decode prog_4_method_5_code 39 = .ok (.getfield 28, 3) := by decide +kernel
theorem d_Copy_doUpTo_42 : decode prog_4_method_5_code 42 = .ok (.bipush 8, 2) := by decide +kernel
theorem d_Copy_doUpTo_44 : decode prog_4_method_5_code 44 = .ok (.irem, 1) := by decide +kernel
theorem d_Copy_doUpTo_45 : decode prog_4_method_5_code 45 = .ok (.aaload, 1) := by decide +kernel
theorem d_Copy_doUpTo_46 : decode prog_4_method_5_code 46 = .ok (.invokevirtual 44, 3) := by decide +kernel
theorem d_Copy_doUpTo_49 : decode prog_4_method_5_code 49 = .ok (.iastore, 1) := by decide +kernel
theorem d_Copy_doUpTo_50 : decode prog_4_method_5_code 50 = .ok (.aload_n 0, 1) := by decide +kernel
theorem d_Copy_doUpTo_51 : decode prog_4_method_5_code 51 = .ok (.dup, 1) := by decide +kernel
theorem d_Copy_doUpTo_52 : decode prog_4_method_5_code 52 = .ok (.getfield 28, 3) := by decide +kernel
theorem d_Copy_doUpTo_55 : decode prog_4_method_5_code 55 = .ok (.iconst 1, 1) := by decide +kernel
theorem d_Copy_doUpTo_56 : decode prog_4_method_5_code 56 = .ok (.iadd, 1) := by decide +kernel
theorem d_Copy_doUpTo_57 : decode prog_4_method_5_code 57 = .ok (.putfield 28, 3) := by decide +kernel
theorem d_Copy_doUpTo_60 : decode prog_4_method_5_code 60 = .ok (.goto (-46), 3) := by decide +kernel
theorem d_Copy_doUpTo_63 : decode prog_4_method_5_code 63 = .ok (.aload_n 0, 1) := by decide +kernel
theorem d_Copy_doUpTo_64 : decode prog_4_method_5_code 64 = .ok (.getfield 28, 3) := by decide +kernel
theorem d_Copy_doUpTo_67 : decode prog_4_method_5_code 67 = .ok (.iload_n 2, 1) := by decide +kernel
theorem d_Copy_doUpTo_68 : decode prog_4_method_5_code 68 = .ok (.if_icmp .le 7, 3) := by decide +kernel
theorem d_Copy_doUpTo_71 : decode prog_4_method_5_code 71 = .ok (.iconst 1, 1) := by decide +kernel
theorem d_Copy_doUpTo_72 : decode prog_4_method_5_code 72 = .ok (.goto 4, 3) := by decide +kernel
theorem d_Copy_doUpTo_75 : decode prog_4_method_5_code 75 = .ok (.iconst 0, 1) := by decide +kernel
theorem d_Copy_doUpTo_76 : decode prog_4_method_5_code 76 = .ok (.ireturn, 1) := by decide +kernel
theorem d_Copy_perform_0 : decode prog_4_method_6_code 0 = .ok (.aload_n 1, 1) := by decide +kernel
theorem d_Copy_perform_1 : decode prog_4_method_6_code 1 = .ok (.ifnonnull 5, 3) := by decide +kernel
theorem d_Copy_perform_4 : decode prog_4_method_6_code 4 = .ok (.iconst 0, 1) := by decide +kernel
theorem d_Copy_perform_5 : decode prog_4_method_6_code 5 = .ok (.ireturn, 1) := by decide +kernel
theorem d_Copy_perform_6 : decode prog_4_method_6_code 6 = .ok (.aload_n 1, 1) := by decide +kernel
theorem d_Copy_perform_7 : decode prog_4_method_6_code 7 = .ok (.getfield 48, 3) := by decide +kernel
theorem d_Copy_perform_10 : decode prog_4_method_6_code 10 = .ok (.istore_n 2, 1) := by decide +kernel
theorem d_Copy_perform_11 : decode prog_4_method_6_code 11 = .ok (.aload_n 1, 1) := by decide +kernel
theorem d_Copy_perform_12 : decode prog_4_method_6_code 12 = .ok (.getfield 51, 3) := by decide +kernel
theorem d_Copy_perform_15 : decode prog_4_method_6_code 15 = .ok (.istore_n 3, 1) := by decide +kernel
theorem d_Copy_perform_16 : decode prog_4_method_6_code 16 = .ok (.lconst 1, 1) := by decide +kernel
theorem d_Copy_perform_17 : decode prog_4_method_6_code 17 = .ok (.iload_n 2, 1) := by decide +kernel
theorem d_Copy_perform_18 : decode prog_4_method_6_code 18 = .ok (.lshl, 1) := by decide +kernel
theorem d_Copy_perform_19 : decode prog_4_method_6_code 19 = .ok (.lstore 4, 2) := by decide +kernel
theorem d_Copy_perform_21 : decode prog_4_method_6_code 21 = .ok (.aload_n 0, 1) := by decide +kernel
theorem d_Copy_perform_22 : decode prog_4_method_6_code 22 = .ok (.getfield 24, 3) := by decide +kernel
theorem d_Copy_perform_25 : decode prog_4_method_6_code 25 = .ok (.lload 4, 2) := by decide +kernel
theorem d_Copy_perform_27 : decode prog_4_method_6_code 27 = .ok (.land, 1) := by decide +kernel
theorem d_Copy_perform_28 : decode prog_4_method_6_code 28 = .ok (.lconst 0, 1) := by decide +kernel
theorem d_Copy_perform_29 : decode prog_4_method_6_code 29 = .ok (.lcmp, 1) := by decide +kernel
theorem d_Copy_perform_30 : decode prog_4_method_6_code 30 = .ok (.ifCond .eq 7, 3) := by decide +kernel
theorem d_Copy_perform_33 : decode prog_4_method_6_code 33 = .ok (.iconst 1, 1) := by decide +kernel
theorem d_Copy_perform_34 : decode prog_4_method_6_code 34 = .ok (.goto 4, 3) := by decide +kernel
theorem d_Copy_perform_37 : decode prog_4_method_6_code 37 = .ok (.iconst 0, 1) := by decide +kernel
theorem d_Copy_perform_38 : decode prog_4_method_6_code 38 = .ok (.istore 6, 2) := by decide +kernel
theorem d_Copy_perform_40 : decode prog_4_method_6_code 40 = .ok (.aload_n 1, 1) := by decide +kernel
theorem d_Copy_perform_41 : decode prog_4_method_6_code 41 = .ok (.getfield 54, 3) := by decide +kernel
theorem d_Copy_perform_44 : decode prog_4_method_6_code 44 = .ok (.tableswitch 166 0 4 #[36, 57, 166, 82, 110], 36) := by decide +kernel
theorem d_Copy_perform_80 : decode prog_4_method_6_code 80 = .ok (.aload_n 0, 1) := by decide +kernel
theorem d_Copy_perform_81 : decode prog_4_method_6_code 81 = .ok (.dup, 1) := by decide +kernel
theorem d_Copy_perform_82 : decode prog_4_method_6_code 82 = .ok (.getfield 24, 3) := by decide +kernel
theorem d_Copy_perform_85 : decode prog_4_method_6_code 85 = .ok (.lload 4, 2) := by decide +kernel
theorem d_Copy_perform_87 : decode prog_4_method_6_code 87 = .ok (.lor, 1) := by decide +kernel
theorem d_Copy_perform_88 : decode prog_4_method_6_code 88 = .ok (.putfield 24, 3) := by decide +kernel
theorem d_Copy_perform_91 : decode prog_4_method_6_code 91 = .ok (.aload_n 0, 1) := by decide +kernel
theorem d_Copy_perform_92 : decode prog_4_method_6_code 92 = .ok (.getfield 9, 3) := by decide +kernel
theorem d_Copy_perform_95 : decode prog_4_method_6_code 95 = .ok (.iload_n 2, 1) := by decide +kernel
theorem d_Copy_perform_96 : decode prog_4_method_6_code 96 = .ok (.iload_n 3, 1) := by decide +kernel
theorem d_Copy_perform_97 : decode prog_4_method_6_code 97 = .ok (.iastore, 1) := by decide +kernel
theorem d_Copy_perform_98 : decode prog_4_method_6_code 98 = .ok (.iload 6, 2) := by decide +kernel
theorem d_Copy_perform_100 : decode prog_4_method_6_code 100 = .ok (.ireturn, 1) := by decide +kernel
theorem d_Copy_perform_101 : decode prog_4_method_6_code 101 = .ok (.aload_n 0, 1) := by decide +kernel
theorem d_Copy_perform_102 : decode prog_4_method_6_code 102 = .ok (.dup, 1) := by decide +kernel
theorem d_Copy_perform_103 : decode prog_4_method_6_code 103 = .ok (.getfield 24, 3) := by decide +kernel
theorem d_Copy_perform_106 : decode prog_4_method_6_code 106 = .ok (.lload 4, 2) := by decide +kernel
theorem d_Copy_perform_108 : decode prog_4_method_6_code 108 = .ok (.ldc2_w 57, 3) := by decide +kernel
theorem d_Copy_perform_111 : decode prog_4_method_6_code 111 = .ok (.lxor, 1) := by decide +kernel
theorem d_Copy_perform_112 : decode prog_4_method_6_code 112 = .ok (.land, 1) := by decide +kernel
theorem d_Copy_perform_113 : decode prog_4_method_6_code 113 = .ok (.putfield 24, 3) := by decide +kernel
theorem d_Copy_perform_116 : decode prog_4_method_6_code 116 = .ok (.aload_n 0, 1) := by decide +kernel
theorem d_Copy_perform_117 : decode prog_4_method_6_code 117 = .ok (.getfield 9, 3) := by decide +kernel
theorem d_Copy_perform_120 : decode prog_4_method_6_code 120 = .ok (.iload_n 2, 1) := by decide +kernel
theorem d_Copy_perform_121 : decode prog_4_method_6_code 121 = .ok (.iconst 0, 1) := by decide +kernel
theorem d_Copy_perform_122 : decode prog_4_method_6_code 122 = .ok (.iastore, 1) := by decide +kernel
theorem d_Copy_perform_123 : decode prog_4_method_6_code 123 = .ok (.iload 6, 2) := by decide +kernel
theorem d_Copy_perform_125 : decode prog_4_method_6_code 125 = .ok (.ireturn, 1) := by decide +kernel
theorem d_Copy_perform_126 : decode prog_4_method_6_code 126 = .ok (.aload_n 0, 1) := by decide +kernel
theorem d_Copy_perform_127 : decode prog_4_method_6_code 127 = .ok (.dup, 1) := by decide +kernel
theorem d_Copy_perform_128 : decode prog_4_method_6_code 128 = .ok (.getfield 24, 3) := by decide +kernel
theorem d_Copy_perform_131 : decode prog_4_method_6_code 131 = .ok (.lload 4, 2) := by decide +kernel
theorem d_Copy_perform_133 : decode prog_4_method_6_code 133 = .ok (.lor, 1) := by decide +kernel
theorem d_Copy_perform_134 : decode prog_4_method_6_code 134 = .ok (.putfield 24, 3) := by decide +kernel
theorem d_Copy_perform_137 : decode prog_4_method_6_code 137 = .ok (.aload_n 0, 1) := by decide +kernel
theorem d_Copy_perform_138 : decode prog_4_method_6_code 138 = .ok (.getfield 9, 3) := by decide +kernel
theorem d_Copy_perform_141 : decode prog_4_method_6_code 141 = .ok (.iload_n 2, 1) := by decide +kernel
theorem d_Copy_perform_142 : decode prog_4_method_6_code 142 = .ok (.dup2, 1) := by decide +kernel
theorem d_Copy_perform_143 : decode prog_4_method_6_code 143 = .ok (.iaload, 1) := by decide +kernel
theorem d_Copy_perform_144 : decode prog_4_method_6_code 144 = .ok (.iload_n 3, 1) := by decide +kernel
theorem d_Copy_perform_145 : decode prog_4_method_6_code 145 = .ok (.iadd, 1) := by decide +kernel
theorem d_Copy_perform_146 : decode prog_4_method_6_code 146 = .ok (.iastore, 1) := by decide +kernel
theorem d_Copy_perform_147 : decode prog_4_method_6_code 147 = .ok (.aload_n 0, 1) := by decide +kernel
theorem d_Copy_perform_148 : decode prog_4_method_6_code 148 = .ok (.getfield 9, 3) := by decide +kernel
theorem d_Copy_perform_151 : decode prog_4_method_6_code 151 = .ok (.iload_n 2, 1) := by decide +kernel
theorem d_Copy_perform_152 : decode prog_4_method_6_code 152 = .ok (.iaload, 1) := by decide +kernel
theorem d_Copy_perform_153 : decode prog_4_method_6_code 153 = .ok (.ireturn, 1) := by decide +kernel
theorem d_Copy_perform_154 : decode prog_4_method_6_code 154 = .ok (.iload_n 2, 1) := by decide +kernel
theorem d_Copy_perform_155 : decode prog_4_method_6_code 155 = .ok (.iload_n 3, 1) := by decide +kernel
theorem d_Copy_perform_156 : decode prog_4_method_6_code 156 = .ok (.if_icmp .eq 51, 3) := by decide +kernel
theorem d_Copy_perform_159 : decode prog_4_method_6_code 159 = .ok (.aload_n 0, 1) := by decide +kernel
theorem d_Copy_perform_160 : decode prog_4_method_6_code 160 = .ok (.aload_n 0, 1) := by decide +kernel
theorem d_Copy_perform_161 : decode prog_4_method_6_code 161 = .ok (.getfield 24, 3) := by decide +kernel
theorem d_Copy_perform_164 : decode prog_4_method_6_code 164 = .ok (.lload 4, 2) := by decide +kernel
theorem d_Copy_perform_166 : decode prog_4_method_6_code 166 = .ok (.ldc2_w 57, 3) := by decide +kernel
theorem d_Copy_perform_169 : decode prog_4_method_6_code 169 = .ok (.lxor, 1) := by decide +kernel
theorem d_Copy_perform_170 : decode prog_4_method_6_code 170 = .ok (.land, 1) := by decide +kernel
theorem d_Copy_perform_171 : decode prog_4_method_6_code 171 = .ok (.lconst 1, 1) := by decide +kernel
theorem d_Copy_perform_172 : decode prog_4_method_6_code 172 = .ok (.iload_n 3, 1) := by decide +kernel
theorem d_Copy_perform_173 : decode prog_4_method_6_code 173 = .ok (.lshl, 1) := by decide +kernel
theorem d_Copy_perform_174 : decode prog_4_method_6_code 174 = .ok (.ldc2_w 57, 3) := by decide +kernel
theorem d_Copy_perform_177 : decode prog_4_method_6_code 177 = .ok (.lxor, 1) := by decide +kernel
theorem d_Copy_perform_178 : decode prog_4_method_6_code 178 = .ok (.land, 1) := by decide +kernel
theorem d_Copy_perform_179 : decode prog_4_method_6_code 179 = .ok (.iload 6, 2) := by decide +kernel
theorem d_Copy_perform_181 : decode prog_4_method_6_code 181 = .ok (.i2l, 1) := by decide +kernel
theorem d_Copy_perform_182 : decode prog_4_method_6_code 182 = .ok (.iload_n 3, 1) := by decide +kernel
theorem d_Copy_perform_183 : decode prog_4_method_6_code 183 = .ok (.lshl, 1) := by decide +kernel
theorem d_Copy_perform_184 : decode prog_4_method_6_code 184 = .ok (.lor, 1) := by decide +kernel
theorem d_Copy_perform_185 : decode prog_4_method_6_code 185 = .ok (.putfield 24, 3) := by decide +kernel
theorem d_Copy_perform_188 : decode prog_4_method_6_code 188 = .ok (.aload_n 0, 1) := by decide +kernel
theorem d_Copy_perform_189 : decode prog_4_method_6_code 189 = .ok (.getfield 9, 3) := by decide +kernel
theorem d_Copy_perform_192 : decode prog_4_method_6_code 192 = .ok (.iload_n 3, 1) := by decide +kernel
theorem d_Copy_perform_193 : decode prog_4_method_6_code 193 = .ok (.aload_n 0, 1) := by decide +kernel
theorem d_Copy_perform_194 : decode prog_4_method_6_code 194 = .ok (.getfield 9, 3) := by decide +kernel
theorem d_Copy_perform_197 : decode prog_4_method_6_code 197 = .ok (.iload_n 2, 1) := by decide +kernel
theorem d_Copy_perform_198 : decode prog_4_method_6_code 198 = .ok (.iaload, 1) := by decide +kernel
theorem d_Copy_perform_199 : decode prog_4_method_6_code 199 = .ok (.iastore, 1) := by decide +kernel
theorem d_Copy_perform_200 : decode prog_4_method_6_code 200 = .ok (.aload_n 0, 1) := by decide +kernel
theorem d_Copy_perform_201 : decode prog_4_method_6_code 201 = .ok (.getfield 9, 3) := by decide +kernel
theorem d_Copy_perform_204 : decode prog_4_method_6_code 204 = .ok (.iload_n 2, 1) := by decide +kernel
theorem d_Copy_perform_205 : decode prog_4_method_6_code 205 = .ok (.iconst 0, 1) := by decide +kernel
theorem d_Copy_perform_206 : decode prog_4_method_6_code 206 = .ok (.iastore, 1) := by decide +kernel
theorem d_Copy_perform_207 : decode prog_4_method_6_code 207 = .ok (.iload 6, 2) := by decide +kernel
theorem d_Copy_perform_209 : decode prog_4_method_6_code 209 = .ok (.ireturn, 1) := by decide +kernel
theorem d_Copy_perform_210 : decode prog_4_method_6_code 210 = .ok (.aload_n 0, 1) := by decide +kernel
theorem d_Copy_perform_211 : decode prog_4_method_6_code 211 = .ok (.getfield 9, 3) := by decide +kernel
theorem d_Copy_perform_214 : decode prog_4_method_6_code 214 = .ok (.iload_n 2, 1) := by decide +kernel
theorem d_Copy_perform_215 : decode prog_4_method_6_code 215 = .ok (.iaload, 1) := by decide +kernel
theorem d_Copy_perform_216 : decode prog_4_method_6_code 216 = .ok (.ireturn, 1) := by decide +kernel
theorem d_Copy_empty_0 : decode prog_4_method_10_code 0 = .ok (.aload_n 0, 1) := by decide +kernel
theorem d_Copy_empty_1 : decode prog_4_method_10_code 1 = .ok (.iconst 0, 1) := by decide +kernel
theorem d_Copy_empty_2 : decode prog_4_method_10_code 2 = .ok (.putfield 28, 3) := by decide +kernel
theorem d_Copy_empty_5 : decode prog_4_method_10_code 5 = .ok (.aload_n 0, 1) := by decide +kernel
theorem d_Copy_empty_6 : decode prog_4_method_10_code 6 = .ok (.iconst 0, 1) := by decide +kernel
theorem d_Copy_empty_7 : decode prog_4_method_10_code 7 = .ok (.putfield 35, 3) := by decide +kernel
theorem d_Copy_empty_10 : decode prog_4_method_10_code 10 = .ok (.aload_n 0, 1) := by decide +kernel
theorem d_Copy_empty_11 : decode prog_4_method_10_code 11 = .ok (.lconst 0, 1) := by decide +kernel
theorem d_Copy_empty_12 : decode prog_4_method_10_code 12 = .ok (.putfield 24, 3) := by decide +kernel
theorem d_Copy_empty_15 : decode prog_4_method_10_code 15 = .ok (.iconst 0, 1) := by decide +kernel
theorem d_Copy_empty_16 : decode prog_4_method_10_code 16 = .ok (.istore_n 1, 1) := by decide +kernel
theorem d_Copy_empty_17 : decode prog_4_method_10_code 17 = .ok (.iload_n 1, 1) := by decide +kernel
theorem d_Copy_empty_18 : decode prog_4_method_10_code 18 = .ok (.bipush 40, 2) := by decide +kernel
theorem d_Copy_empty_20 : decode prog_4_method_10_code 20 = .ok (.if_icmp .ge 16, 3) := by decide +kernel
theorem d_Copy_empty_23 : decode prog_4_method_10_code 23 = .ok (.aload_n 0, 1) := by decide +kernel
theorem d_Copy_empty_24 : decode prog_4_method_10_code 24 = .ok (.getfield 9, 3) := by decide +kernel
theorem d_Copy_empty_27 : decode prog_4_method_10_code 27 = .ok (.iload_n 1, 1) := by decide +kernel
theorem d_Copy_empty_28 : decode prog_4_method_10_code 28 = .ok (.iconst 0, 1) := by decide +kernel
theorem d_Copy_empty_29 : decode prog_4_method_10_code 29 = .ok (.iastore, 1) := by decide +kernel
theorem d_Copy_empty_30 : decode prog_4_method_10_code 30 = .ok (.iinc 1 1, 3) := by decide +kernel
theorem d_Copy_empty_33 : decode prog_4_method_10_code 33 = .ok (.goto (-16), 3) := by decide +kernel
theorem d_Copy_empty_36 : decode prog_4_method_10_code 36 = .ok (.return_, 1) := by decide +kernel
theorem d_Post_remove_0 : decode prog_12_method_4_code 0 = .ok (.iload_n 1, 1) := by decide +kernel
theorem d_Post_remove_1 : decode prog_12_method_4_code 1 = .ok (.ifCond .lt 11, 3) := by decide +kernel
theorem d_Post_remove_4 : decode prog_12_method_4_code 4 = .ok (.iload_n 1, 1) := by decide +kernel
theorem d_Post_remove_5 : decode prog_12_method_4_code 5 = .ok (.aload_n 0, 1) := by decide +kernel
theorem d_Post_remove_6 : decode prog_12_method_4_code 6 = .ok (.getfield 22, 3) := by decide +kernel
theorem d_Post_remove_9 : decode prog_12_method_4_code 9 = .ok (.if_icmp .lt 4, 3) := by decide +kernel
theorem d_Post_remove_12 : decode prog_12_method_4_code 12 = .ok (.return_, 1) := by decide +kernel
theorem d_Post_remove_13 : decode prog_12_method_4_code 13 = .ok (.aload_n 0, 1) := by decide +kernel
theorem d_Post_remove_14 : decode prog_12_method_4_code 14 = .ok (.getfield 17, 3) := by decide +kernel
theorem d_Post_remove_17 : decode prog_12_method_4_code 17 = .ok (.iload_n 1, 1) := by decide +kernel
theorem d_Post_remove_18 : decode prog_12_method_4_code 18 = .ok (.iaload, 1) := by decide +kernel
theorem d_Post_remove_19 : decode prog_12_method_4_code 19 = .ok (.istore_n 2, 1) := by decide +kernel
theorem d_Post_remove_20 : decode prog_12_method_4_code 20 = .ok (.aload_n 0, 1) := by decide +kernel
theorem d_Post_remove_21 : decode prog_12_method_4_code 21 = .ok (.dup, 1) := by decide +kernel
theorem d_Post_remove_22 : decode prog_12_method_4_code 22 = .ok (.getfield 22, 3) := by decide +kernel
theorem d_Post_remove_25 : decode prog_12_method_4_code 25 = .ok (.iconst 1, 1) := by decide +kernel
theorem d_Post_remove_26 : decode prog_12_method_4_code 26 = .ok (.isub, 1) := by decide +kernel
theorem d_Post_remove_27 : decode prog_12_method_4_code 27 = .ok (.putfield 22, 3) := by decide +kernel
theorem d_Post_remove_30 : decode prog_12_method_4_code 30 = .ok (.aload_n 0, 1) := by decide +kernel
theorem d_Post_remove_31 : decode prog_12_method_4_code 31 = .ok (.getfield 17, 3) := by decide +kernel
theorem d_Post_remove_34 : decode prog_12_method_4_code 34 = .ok (.iload_n 1, 1) := by decide +kernel
theorem d_Post_remove_35 : decode prog_12_method_4_code 35 = .ok (.iconst 1, 1) := by decide +kernel
theorem d_Post_remove_36 : decode prog_12_method_4_code 36 = .ok (.iadd, 1) := by decide +kernel
theorem d_Post_remove_37 : decode prog_12_method_4_code 37 = .ok (.aload_n 0, 1) := by decide +kernel
theorem d_Post_remove_38 : decode prog_12_method_4_code 38 = .ok (.getfield 17, 3) := by decide +kernel
theorem d_Post_remove_41 : decode prog_12_method_4_code 41 = .ok (.iload_n 1, 1) := by decide +kernel
theorem d_Post_remove_42 : decode prog_12_method_4_code 42 = .ok (.aload_n 0, 1) := by decide +kernel
theorem d_Post_remove_43 : decode prog_12_method_4_code 43 = .ok (.getfield 22, 3) := by decide +kernel
theorem d_Post_remove_46 : decode prog_12_method_4_code 46 = .ok (.iload_n 1, 1) := by decide +kernel
theorem d_Post_remove_47 : decode prog_12_method_4_code 47 = .ok (.isub, 1) := by decide +kernel
theorem d_Post_remove_48 : decode prog_12_method_4_code 48 = .ok (.invokestatic 39, 3) := by decide +kernel
theorem d_Post_remove_51 : decode prog_12_method_4_code 51 = .ok (.aload_n 0, 1) := by decide +kernel
theorem d_Post_remove_52 : decode prog_12_method_4_code 52 = .ok (.getfield 17, 3) := by decide +kernel
theorem d_Post_remove_55 : decode prog_12_method_4_code 55 = .ok (.aload_n 0, 1) := by decide +kernel
theorem d_Post_remove_56 : decode prog_12_method_4_code 56 = .ok (.getfield 22, 3) := by decide +kernel
theorem d_Post_remove_59 : decode prog_12_method_4_code 59 = .ok (.iload_n 2, 1) := by decide +kernel
theorem d_Post_remove_60 : decode prog_12_method_4_code 60 = .ok (.iastore, 1) := by decide +kernel
theorem d_Post_remove_61 : decode prog_12_method_4_code 61 = .ok (.return_, 1) := by decide +kernel
theorem d_VG_lose_0 : decode prog_1_method_4_code 0 = .ok (.aload_n 0, 1) := by decide +kernel
theorem d_VG_lose_1 : decode prog_1_method_4_code 1 = .ok (.iconst 0, 1) := by decide +kernel
theorem d_VG_lose_2 : decode prog_1_method_4_code 2 = .ok (.putfield 68, 3) := by decide +kernel
theorem d_VG_lose_5 : decode prog_1_method_4_code 5 = .ok (.aload_n 0, 1) := by decide +kernel
theorem d_VG_lose_6 : decode prog_1_method_4_code 6 = .ok (.iload_n 1, 1) := by decide +kernel
theorem d_VG_lose_7 : decode prog_1_method_4_code 7 = .ok (.invokevirtual 94, 3) := by decide +kernel
theorem d_VG_lose_10 : decode prog_1_method_4_code 10 = .ok (.return_, 1) := by decide +kernel
theorem d_VG_drop_0 : decode prog_1_method_20_code 0 = .ok (.aload_n 0, 1) := by decide +kernel
theorem d_VG_drop_1 : decode prog_1_method_20_code 1 = .ok (.getfield 24, 3) := by decide +kernel
theorem d_VG_drop_4 : decode prog_1_method_20_code 4 = .ok (.getfield 125, 3) := by decide +kernel
theorem d_VG_drop_7 : decode prog_1_method_20_code 7 = .ok (.ifCond .le 21, 3) := by decide +kernel
theorem d_VG_drop_10 : decode prog_1_method_20_code 10 = .ok (.aload_n 0, 1) := by decide +kernel
theorem d_VG_drop_11 : decode prog_1_method_20_code 11 = .ok (.getfield 24, 3) := by decide +kernel
theorem d_VG_drop_14 : decode prog_1_method_20_code 14 = .ok (.iload_n 1, 1) := by decide +kernel
theorem d_VG_drop_15 : decode prog_1_method_20_code 15 = .ok (.aload_n 0, 1) := by decide +kernel
theorem d_VG_drop_16 : decode prog_1_method_20_code 16 = .ok (.getfield 24, 3) := by decide +kernel
theorem d_VG_drop_19 : decode prog_1_method_20_code 19 = .ok (.getfield 125, 3) := by decide +kernel
theorem d_VG_drop_22 : decode prog_1_method_20_code 22 = .ok (.invokestatic 180, 3) := by decide +kernel
theorem d_VG_drop_25 : decode prog_1_method_20_code 25 = .ok (.invokevirtual 191, 3) := by decide +kernel
theorem d_VG_drop_28 : decode prog_1_method_20_code 28 = .ok (.return_, 1) := by decide +kernel
theorem d_VG_twice_0 : decode prog_1_method_5_code 0 = .ok (.aload_n 0, 1) := by decide +kernel
theorem d_VG_twice_1 : decode prog_1_method_5_code 1 = .ok (.iconst 0, 1) := by decide +kernel
theorem d_VG_twice_2 : decode prog_1_method_5_code 2 = .ok (.putfield 68, 3) := by decide +kernel
theorem d_VG_twice_5 : decode prog_1_method_5_code 5 = .ok (.aload_n 0, 1) := by decide +kernel
theorem d_VG_twice_6 : decode prog_1_method_5_code 6 = .ok (.iload_n 1, 1) := by decide +kernel
theorem d_VG_twice_7 : decode prog_1_method_5_code 7 = .ok (.iconst 2, 1) := by decide +kernel
theorem d_VG_twice_8 : decode prog_1_method_5_code 8 = .ok (.invokevirtual 91, 3) := by decide +kernel
theorem d_VG_twice_11 : decode prog_1_method_5_code 11 = .ok (.return_, 1) := by decide +kernel
theorem d_VG_stir_0 : decode prog_1_method_6_code 0 = .ok (.iload_n 1, 1) := by decide +kernel
theorem d_VG_stir_1 : decode prog_1_method_6_code 1 = .ok (.iconst 1, 1) := by decide +kernel
theorem d_VG_stir_2 : decode prog_1_method_6_code 2 = .ok (.if_icmp .lt 10, 3) := by decide +kernel
theorem d_VG_stir_5 : decode prog_1_method_6_code 5 = .ok (.iload_n 1, 1) := by decide +kernel
theorem d_VG_stir_6 : decode prog_1_method_6_code 6 = .ok (.sipush 500, 3) := by decide +kernel
theorem d_VG_stir_9 : decode prog_1_method_6_code 9 = .ok (.if_icmp .le 5, 3) := by decide +kernel
theorem d_VG_stir_12 : decode prog_1_method_6_code 12 = .ok (.iconst (-1), 1) := by decide +kernel
theorem d_VG_stir_13 : decode prog_1_method_6_code 13 = .ok (.ireturn, 1) := by decide +kernel
theorem d_VG_stir_14 : decode prog_1_method_6_code 14 = .ok (.aload_n 0, 1) := by decide +kernel
theorem d_VG_stir_15 : decode prog_1_method_6_code 15 = .ok (.iconst 0, 1) := by decide +kernel
theorem d_VG_stir_16 : decode prog_1_method_6_code 16 = .ok (.putfield 68, 3) := by decide +kernel
theorem d_VG_stir_19 : decode prog_1_method_6_code 19 = .ok (.iload_n 2, 1) := by decide +kernel
theorem d_VG_stir_20 : decode prog_1_method_6_code 20 = .ok (.istore_n 3, 1) := by decide +kernel
theorem d_VG_stir_21 : decode prog_1_method_6_code 21 = .ok (.iconst 0, 1) := by decide +kernel
theorem d_VG_stir_22 : decode prog_1_method_6_code 22 = .ok (.istore 4, 2) := by decide +kernel
theorem d_VG_stir_24 : decode prog_1_method_6_code 24 = .ok (.iload 4, 2) := by decide +kernel
theorem d_VG_stir_26 : decode prog_1_method_6_code 26 = .ok (.iload_n 1, 1) := by decide +kernel
theorem d_VG_stir_27 : decode prog_1_method_6_code 27 = .ok (.if_icmp .ge 77, 3) := by decide +kernel
theorem d_VG_stir_30 : decode prog_1_method_6_code 30 = .ok (.iload_n 3, 1) := by decide +kernel
theorem d_VG_stir_31 : decode prog_1_method_6_code 31 = .ok (.ldc 98, 2) := by decide +kernel
theorem d_VG_stir_33 : decode prog_1_method_6_code 33 = .ok (.imul, 1) := by decide +kernel
theorem d_VG_stir_34 : decode prog_1_method_6_code 34 = .ok (.sipush 12345, 3) := by decide +kernel
theorem d_VG_stir_37 : decode prog_1_method_6_code 37 = .ok (.iadd, 1) := by decide +kernel
theorem d_VG_stir_38 : decode prog_1_method_6_code 38 = .ok (.istore_n 3, 1) := by decide +kernel
theorem d_VG_stir_39 : decode prog_1_method_6_code 39 = .ok (.iload_n 3, 1) := by decide +kernel
theorem d_VG_stir_40 : decode prog_1_method_6_code 40 = .ok (.bipush 8, 2) := by decide +kernel
theorem d_VG_stir_42 : decode prog_1_method_6_code 42 = .ok (.iushr, 1) := by decide +kernel
theorem d_VG_stir_43 : decode prog_1_method_6_code 43 = .ok (.istore 5, 2) := by decide +kernel
theorem d_VG_stir_45 : decode prog_1_method_6_code 45 = .ok (.iload 5, 2) := by decide +kernel
theorem d_VG_stir_47 : decode prog_1_method_6_code 47 = .ok (.bipush 8, 2) := by decide +kernel
theorem d_VG_stir_49 : decode prog_1_method_6_code 49 = .ok (.irem, 1) := by decide +kernel
theorem d_VG_stir_50 : decode prog_1_method_6_code 50 = .ok (.istore 6, 2) := by decide +kernel
theorem d_VG_stir_52 : decode prog_1_method_6_code 52 = .ok (.iload 5, 2) := by decide +kernel
theorem d_VG_stir_54 : decode prog_1_method_6_code 54 = .ok (.bipush 8, 2) := by decide +kernel
theorem d_VG_stir_56 : decode prog_1_method_6_code 56 = .ok (.idiv, 1) := by decide +kernel
theorem d_VG_stir_57 : decode prog_1_method_6_code 57 = .ok (.istore 7, 2) := by decide +kernel
theorem d_VG_stir_59 : decode prog_1_method_6_code 59 = .ok (.iload 6, 2) := by decide +kernel
theorem d_VG_stir_61 : decode prog_1_method_6_code 61 = .ok (.iconst 5, 1) := by decide +kernel
theorem d_VG_stir_62 : decode prog_1_method_6_code 62 = .ok (.if_icmp .ge 13, 3) := by decide +kernel
theorem d_VG_stir_65 : decode prog_1_method_6_code 65 = .ok (.aload_n 0, 1) := by decide +kernel
theorem d_VG_stir_66 : decode prog_1_method_6_code 66 = .ok (.iload 7, 2) := by decide +kernel
theorem d_VG_stir_68 : decode prog_1_method_6_code 68 = .ok (.iconst 1, 1) := by decide +kernel
theorem d_VG_stir_69 : decode prog_1_method_6_code 69 = .ok (.invokevirtual 91, 3) := by decide +kernel
theorem d_VG_stir_72 : decode prog_1_method_6_code 72 = .ok (.goto 26, 3) := by decide +kernel
theorem d_VG_stir_75 : decode prog_1_method_6_code 75 = .ok (.iload 6, 2) := by decide +kernel
theorem d_VG_stir_77 : decode prog_1_method_6_code 77 = .ok (.bipush 7, 2) := by decide +kernel
theorem d_VG_stir_79 : decode prog_1_method_6_code 79 = .ok (.if_icmp .ge 12, 3) := by decide +kernel
theorem d_VG_stir_82 : decode prog_1_method_6_code 82 = .ok (.aload_n 0, 1) := by decide +kernel
theorem d_VG_stir_83 : decode prog_1_method_6_code 83 = .ok (.iload 7, 2) := by decide +kernel
theorem d_VG_stir_85 : decode prog_1_method_6_code 85 = .ok (.invokevirtual 94, 3) := by decide +kernel
theorem d_VG_stir_88 : decode prog_1_method_6_code 88 = .ok (.goto 10, 3) := by decide +kernel
theorem d_VG_stir_91 : decode prog_1_method_6_code 91 = .ok (.aload_n 0, 1) := by decide +kernel
theorem d_VG_stir_92 : decode prog_1_method_6_code 92 = .ok (.iload 7, 2) := by decide +kernel
theorem d_VG_stir_94 : decode prog_1_method_6_code 94 = .ok (.iconst 2, 1) := by decide +kernel
theorem d_VG_stir_95 : decode prog_1_method_6_code 95 = .ok (.invokevirtual 91, 3) := by decide +kernel
theorem d_VG_stir_98 : decode prog_1_method_6_code 98 = .ok (.iinc 4 1, 3) := by decide +kernel
theorem d_VG_stir_101 : decode prog_1_method_6_code 101 = .ok (.goto (-77), 3) := by decide +kernel
theorem d_VG_stir_104 : decode prog_1_method_6_code 104 = .ok (.iload_n 1, 1) := by decide +kernel
theorem d_VG_stir_105 : decode prog_1_method_6_code 105 = .ok (.ireturn, 1) := by decide +kernel
theorem d_VG_tick_0 : decode prog_1_method_7_code 0 = .ok (.iload_n 1, 1) := by decide +kernel
theorem d_VG_tick_1 : decode prog_1_method_7_code 1 = .ok (.iconst 1, 1) := by decide +kernel
theorem d_VG_tick_2 : decode prog_1_method_7_code 2 = .ok (.if_icmp .lt 9, 3) := by decide +kernel
theorem d_VG_tick_5 : decode prog_1_method_7_code 5 = .ok (.iload_n 1, 1) := by decide +kernel
theorem d_VG_tick_6 : decode prog_1_method_7_code 6 = .ok (.bipush 50, 2) := by decide +kernel
theorem d_VG_tick_8 : decode prog_1_method_7_code 8 = .ok (.if_icmp .le 5, 3) := by decide +kernel
theorem d_VG_tick_11 : decode prog_1_method_7_code 11 = .ok (.iconst (-1), 1) := by decide +kernel
theorem d_VG_tick_12 : decode prog_1_method_7_code 12 = .ok (.ireturn, 1) := by decide +kernel
theorem d_VG_tick_13 : decode prog_1_method_7_code 13 = .ok (.aload_n 0, 1) := by decide +kernel
theorem d_VG_tick_14 : decode prog_1_method_7_code 14 = .ok (.iconst 0, 1) := by decide +kernel
theorem d_VG_tick_15 : decode prog_1_method_7_code 15 = .ok (.putfield 68, 3) := by decide +kernel
theorem d_VG_tick_18 : decode prog_1_method_7_code 18 = .ok (.iconst 0, 1) := by decide +kernel
theorem d_VG_tick_19 : decode prog_1_method_7_code 19 = .ok (.istore_n 2, 1) := by decide +kernel
theorem d_VG_tick_20 : decode prog_1_method_7_code 20 = .ok (.iload_n 2, 1) := by decide +kernel
theorem d_VG_tick_21 : decode prog_1_method_7_code 21 = .ok (.iload_n 1, 1) := by decide +kernel
theorem d_VG_tick_22 : decode prog_1_method_7_code 22 = .ok (.if_icmp .ge 13, 3) := by decide +kernel
theorem d_VG_tick_25 : decode prog_1_method_7_code 25 = .ok (.aload_n 0, 1) := by decide +kernel
theorem d_VG_tick_26 : decode prog_1_method_7_code 26 = .ok (.invokevirtual 99, 3) := by decide +kernel
theorem d_VG_tick_29 : decode prog_1_method_7_code 29 = .ok (.iinc 2 1, 3) := by decide +kernel
theorem d_VG_tick_32 : decode prog_1_method_7_code 32 = .ok (.goto (-12), 3) := by decide +kernel
theorem d_VG_tick_35 : decode prog_1_method_7_code 35 = .ok (.iload_n 1, 1) := by decide +kernel
theorem d_VG_tick_36 : decode prog_1_method_7_code 36 = .ok (.ireturn, 1) := by decide +kernel
theorem d_VG_passOneTick_0 : decode prog_1_method_18_code 0 = .ok (.aload_n 0, 1) := by decide +kernel
theorem d_VG_passOneTick_1 : decode prog_1_method_18_code 1 = .ok (.getfield 35, 3) := by decide +kernel
theorem d_VG_passOneTick_4 : decode prog_1_method_18_code 4 = .ok (.invokevirtual 115, 3) := by decide +kernel
theorem d_VG_passOneTick_7 : decode prog_1_method_18_code 7 = .ok (.aload_n 0, 1) := by decide +kernel
theorem d_VG_passOneTick_8 : decode prog_1_method_18_code 8 = .ok (.getfield 44, 3) := by decide +kernel
theorem d_VG_passOneTick_11 : decode prog_1_method_18_code 11 = .ok (.aload_n 0, 1) := by decide +kernel
theorem d_VG_passOneTick_12 : decode prog_1_method_18_code 12 = .ok (.getfield 35, 3) := by decide +kernel
theorem d_VG_passOneTick_15 : decode prog_1_method_18_code 15 = .ok (.getfield 76, 3) := by decide +kernel
theorem d_VG_passOneTick_18 : decode prog_1_method_18_code 18 = .ok (.aload_n 0, 1) := by decide +kernel
theorem d_VG_passOneTick_19 : decode prog_1_method_18_code 19 = .ok (.getfield 35, 3) := by decide +kernel
theorem d_VG_passOneTick_22 : decode prog_1_method_18_code 22 = .ok (.getfield 79, 3) := by decide +kernel
theorem d_VG_passOneTick_25 : decode prog_1_method_18_code 25 = .ok (.invokevirtual 174, 3) := by decide +kernel
theorem d_VG_passOneTick_28 : decode prog_1_method_18_code 28 = .ok (.iconst 0, 1) := by decide +kernel
theorem d_VG_passOneTick_29 : decode prog_1_method_18_code 29 = .ok (.istore_n 1, 1) := by decide +kernel
theorem d_VG_passOneTick_30 : decode prog_1_method_18_code 30 = .ok (.iload_n 1, 1) := by decide +kernel
theorem d_VG_passOneTick_31 : decode prog_1_method_18_code 31 = .ok (.aload_n 0, 1) := by decide +kernel
theorem d_VG_passOneTick_32 : decode prog_1_method_18_code 32 = .ok (.getfield 54, 3) := by decide +kernel
theorem d_VG_passOneTick_35 : decode prog_1_method_18_code 35 = .ok (.arraylength, 1) := by decide +kernel
theorem d_VG_passOneTick_36 : decode prog_1_method_18_code 36 = .ok (.if_icmp .ge 18, 3) := by decide +kernel
theorem d_VG_passOneTick_39 : decode prog_1_method_18_code 39 = .ok (.aload_n 0, 1) := by decide +kernel
theorem d_VG_passOneTick_40 : decode prog_1_method_18_code 40 = .ok (.getfield 54, 3) := by decide +kernel
theorem d_VG_passOneTick_43 : decode prog_1_method_18_code 43 = .ok (.iload_n 1, 1) := by decide +kernel
theorem d_VG_passOneTick_44 : decode prog_1_method_18_code 44 = .ok (.aaload, 1) := by decide +kernel
theorem d_VG_passOneTick_45 : decode prog_1_method_18_code 45 = .ok (.invokevirtual 177, 3) := by decide +kernel
theorem d_VG_passOneTick_48 : decode prog_1_method_18_code 48 = .ok (.iinc 1 1, 3) := by decide +kernel
theorem d_VG_passOneTick_51 : decode prog_1_method_18_code 51 = .ok (.goto (-21), 3) := by decide +kernel
theorem d_VG_passOneTick_54 : decode prog_1_method_18_code 54 = .ok (.return_, 1) := by decide +kernel
theorem d_MapKeeper_proclaim_0 : decode prog_7_method_3_code 0 = .ok (.iconst 0, 1) := by decide +kernel
theorem d_MapKeeper_proclaim_1 : decode prog_7_method_3_code 1 = .ok (.istore_n 1, 1) := by decide +kernel
theorem d_MapKeeper_proclaim_2 : decode prog_7_method_3_code 2 = .ok (.iload_n 1, 1) := by decide +kernel
theorem d_MapKeeper_proclaim_3 : decode prog_7_method_3_code 3 = .ok (.aload_n 0, 1) := by decide +kernel
theorem d_MapKeeper_proclaim_4 : decode prog_7_method_3_code 4 = .ok (.getfield 15, 3) := by decide +kernel
theorem d_MapKeeper_proclaim_7 : decode prog_7_method_3_code 7 = .ok (.getfield 39, 3) := by decide +kernel
theorem d_MapKeeper_proclaim_10 : decode prog_7_method_3_code 10 = .ok (.if_icmp .ge 45, 3) := by decide +kernel
theorem d_MapKeeper_proclaim_13 : decode prog_7_method_3_code 13 = .ok (.aload_n 0, 1) := by decide +kernel
theorem d_MapKeeper_proclaim_14 : decode prog_7_method_3_code 14 = .ok (.getfield 42, 3) := by decide +kernel
theorem d_MapKeeper_proclaim_17 : decode prog_7_method_3_code 17 = .ok (.iload_n 1, 1) := by decide +kernel
theorem d_MapKeeper_proclaim_18 : decode prog_7_method_3_code 18 = .ok (.iaload, 1) := by decide +kernel
theorem d_MapKeeper_proclaim_19 : decode prog_7_method_3_code 19 = .ok (.aload_n 0, 1) := by decide +kernel
theorem d_MapKeeper_proclaim_20 : decode prog_7_method_3_code 20 = .ok (.getfield 9, 3) := by decide +kernel
theorem d_MapKeeper_proclaim_23 : decode prog_7_method_3_code 23 = .ok (.if_icmp .ge 26, 3) := by decide +kernel
theorem d_MapKeeper_proclaim_26 : decode prog_7_method_3_code 26 = .ok (.aload_n 0, 1) := by decide +kernel
theorem d_MapKeeper_proclaim_27 : decode prog_7_method_3_code 27 = .ok (.getfield 19, 3) := by decide +kernel
theorem d_MapKeeper_proclaim_30 : decode prog_7_method_3_code 30 = .ok (.getstatic 49, 3) := by decide +kernel
theorem d_MapKeeper_proclaim_33 : decode prog_7_method_3_code 33 = .ok (.iconst (-1), 1) := by decide +kernel
theorem d_MapKeeper_proclaim_34 : decode prog_7_method_3_code 34 = .ok (.iload_n 1, 1) := by decide +kernel
theorem d_MapKeeper_proclaim_35 : decode prog_7_method_3_code 35 = .ok (.aload_n 0, 1) := by decide +kernel
theorem d_MapKeeper_proclaim_36 : decode prog_7_method_3_code 36 = .ok (.getfield 9, 3) := by decide +kernel
theorem d_MapKeeper_proclaim_39 : decode prog_7_method_3_code 39 = .ok (.invokevirtual 55, 3) := by decide +kernel
theorem d_MapKeeper_proclaim_42 : decode prog_7_method_3_code 42 = .ok (.aload_n 0, 1) := by decide +kernel
theorem d_MapKeeper_proclaim_43 : decode prog_7_method_3_code 43 = .ok (.getfield 29, 3) := by decide +kernel
theorem d_MapKeeper_proclaim_46 : decode prog_7_method_3_code 46 = .ok (.putfield 61, 3) := by decide +kernel
theorem d_MapKeeper_proclaim_49 : decode prog_7_method_3_code 49 = .ok (.iinc 1 1, 3) := by decide +kernel
theorem d_MapKeeper_proclaim_52 : decode prog_7_method_3_code 52 = .ok (.goto (-50), 3) := by decide +kernel
theorem d_MapKeeper_proclaim_55 : decode prog_7_method_3_code 55 = .ok (.return_, 1) := by decide +kernel
theorem d_Desk_requestAll_0 : decode prog_5_method_6_code 0 = .ok (.aload_n 0, 1) := by decide +kernel
theorem d_Desk_requestAll_1 : decode prog_5_method_6_code 1 = .ok (.getfield 33, 3) := by decide +kernel
theorem d_Desk_requestAll_4 : decode prog_5_method_6_code 4 = .ok (.istore_n 3, 1) := by decide +kernel
theorem d_Desk_requestAll_5 : decode prog_5_method_6_code 5 = .ok (.iload_n 3, 1) := by decide +kernel
theorem d_Desk_requestAll_6 : decode prog_5_method_6_code 6 = .ok (.aload_n 0, 1) := by decide +kernel
theorem d_Desk_requestAll_7 : decode prog_5_method_6_code 7 = .ok (.getfield 29, 3) := by decide +kernel
theorem d_Desk_requestAll_10 : decode prog_5_method_6_code 10 = .ok (.if_icmp .ge 36, 3) := by decide +kernel
theorem d_Desk_requestAll_13 : decode prog_5_method_6_code 13 = .ok (.aload_n 0, 1) := by decide +kernel
theorem d_Desk_requestAll_14 : decode prog_5_method_6_code 14 = .ok (.getfield 17, 3) := by decide +kernel
theorem d_Desk_requestAll_17 : decode prog_5_method_6_code 17 = .ok (.iload_n 3, 1) := by decide +kernel
theorem d_Desk_requestAll_18 : decode prog_5_method_6_code 18 = .ok (.bipush 8, 2) := by decide +kernel
theorem d_Desk_requestAll_20 : decode prog_5_method_6_code 20 = .ok (.irem, 1) := by decide +kernel
theorem d_Desk_requestAll_21 : decode prog_5_method_6_code 21 = .ok (.baload, 1) := by decide +kernel
theorem d_Desk_requestAll_22 : decode prog_5_method_6_code 22 = .ok (.ifCond .ne 18, 3) := by decide +kernel
theorem d_Desk_requestAll_25 : decode prog_5_method_6_code 25 = .ok (.aload_n 0, 1) := by decide +kernel
theorem d_Desk_requestAll_26 : decode prog_5_method_6_code 26 = .ok (.aload_n 0, 1) := by decide +kernel
theorem d_Desk_requestAll_27 : decode prog_5_method_6_code 27 = .ok (.getfield 11, 3) := by decide +kernel
theorem d_Desk_requestAll_30 : decode prog_5_method_6_code 30 = .ok (.iload_n 3, 1) := by decide +kernel
theorem d_Desk_requestAll_31 : decode prog_5_method_6_code 31 = .ok (.bipush 8, 2) := by decide +kernel
theorem d_Desk_requestAll_33 : decode prog_5_method_6_code 33 = .ok (.irem, 1) := by decide +kernel
theorem d_Desk_requestAll_34 : decode prog_5_method_6_code 34 = .ok (.aaload, 1) := by decide +kernel
theorem d_Desk_requestAll_35 : decode prog_5_method_6_code 35 = .ok (.iload_n 1, 1) := by decide +kernel
theorem d_Desk_requestAll_36 : decode prog_5_method_6_code 36 = .ok (.iload_n 2, 1) := by decide +kernel
theorem d_Desk_requestAll_37 : decode prog_5_method_6_code 37 = .ok (.invokevirtual 61, 3) := by decide +kernel
theorem d_Desk_requestAll_40 : decode prog_5_method_6_code 40 = .ok (.iinc 3 1, 3) := by decide +kernel
theorem d_Desk_requestAll_43 : decode prog_5_method_6_code 43 = .ok (.goto (-38), 3) := by decide +kernel
theorem d_Desk_requestAll_46 : decode prog_5_method_6_code 46 = .ok (.return_, 1) := by decide +kernel
theorem d_Node_work_0 : decode prog_10_method_8_code 0 = .ok (.aload_n 0, 1) := by decide +kernel
theorem d_Node_work_1 : decode prog_10_method_8_code 1 = .ok (.getfield 21, 3) := by decide +kernel
theorem d_Node_work_4 : decode prog_10_method_8_code 4 = .ok (.ifCond .ne 4, 3) := by decide +kernel
theorem d_Node_work_7 : decode prog_10_method_8_code 7 = .ok (.return_, 1) := by decide +kernel
theorem d_Node_work_8 : decode prog_10_method_8_code 8 = .ok (.aload_n 0, 1) := by decide +kernel
theorem d_Node_work_9 : decode prog_10_method_8_code 9 = .ok (.invokevirtual 70, 3) := by decide +kernel
theorem d_Node_work_12 : decode prog_10_method_8_code 12 = .ok (.aload_n 0, 1) := by decide +kernel
theorem d_Node_work_13 : decode prog_10_method_8_code 13 = .ok (.getfield 79, 3) := by decide +kernel
theorem d_Node_work_16 : decode prog_10_method_8_code 16 = .ok (.ifCond .eq 31, 3) := by decide +kernel
theorem d_Node_work_19 : decode prog_10_method_8_code 19 = .ok (.aload_n 0, 1) := by decide +kernel
theorem d_Node_work_20 : decode prog_10_method_8_code 20 = .ok (.getfield 33, 3) := by decide +kernel
theorem d_Node_work_23 : decode prog_10_method_8_code 23 = .ok (.getstatic 195, 3) := by decide +kernel
theorem d_Node_work_26 : decode prog_10_method_8_code 26 = .ok (.aload_n 0, 1) := by decide +kernel
theorem d_Node_work_27 : decode prog_10_method_8_code 27 = .ok (.getfield 25, 3) := by decide +kernel
theorem d_Node_work_30 : decode prog_10_method_8_code 30 = .ok (.iconst (-1), 1) := by decide +kernel
theorem d_Node_work_31 : decode prog_10_method_8_code 31 = .ok (.aload_n 0, 1) := by decide +kernel
theorem d_Node_work_32 : decode prog_10_method_8_code 32 = .ok (.getfield 12, 3) := by decide +kernel
theorem d_Node_work_35 : decode prog_10_method_8_code 35 = .ok (.getfield 103, 3) := by decide +kernel
theorem d_Node_work_38 : decode prog_10_method_8_code 38 = .ok (.invokevirtual 136, 3) := by decide +kernel
theorem d_Node_work_41 : decode prog_10_method_8_code 41 = .ok (.pop, 1) := by decide +kernel
theorem d_Node_work_42 : decode prog_10_method_8_code 42 = .ok (.aload_n 0, 1) := by decide +kernel
theorem d_Node_work_43 : decode prog_10_method_8_code 43 = .ok (.iconst 0, 1) := by decide +kernel
theorem d_Node_work_44 : decode prog_10_method_8_code 44 = .ok (.putfield 79, 3) := by decide +kernel
theorem d_Node_work_47 : decode prog_10_method_8_code 47 = .ok (.aload_n 0, 1) := by decide +kernel
theorem d_Node_work_48 : decode prog_10_method_8_code 48 = .ok (.getfield 12, 3) := by decide +kernel
theorem d_Node_work_51 : decode prog_10_method_8_code 51 = .ok (.getfield 163, 3) := by decide +kernel
theorem d_Node_work_54 : decode prog_10_method_8_code 54 = .ok (.aload_n 0, 1) := by decide +kernel
theorem d_Node_work_55 : decode prog_10_method_8_code 55 = .ok (.getfield 25, 3) := by decide +kernel
theorem d_Node_work_58 : decode prog_10_method_8_code 58 = .ok (.if_icmp .ne 10, 3) := by decide +kernel
theorem d_Node_work_61 : decode prog_10_method_8_code 61 = .ok (.aload_n 0, 1) := by decide +kernel
theorem d_Node_work_62 : decode prog_10_method_8_code 62 = .ok (.invokevirtual 198, 3) := by decide +kernel
theorem d_Node_work_65 : decode prog_10_method_8_code 65 = .ok (.goto 78, 3) := by decide +kernel
theorem d_Node_work_68 : decode prog_10_method_8_code 68 = .ok (.aload_n 0, 1) := by decide +kernel
theorem d_Node_work_69 : decode prog_10_method_8_code 69 = .ok (.getfield 82, 3) := by decide +kernel
theorem d_Node_work_72 : decode prog_10_method_8_code 72 = .ok (.ifCond .eq 71, 3) := by decide +kernel
theorem d_Node_work_75 : decode prog_10_method_8_code 75 = .ok (.aload_n 0, 1) := by decide +kernel
theorem d_Node_work_76 : decode prog_10_method_8_code 76 = .ok (.getfield 12, 3) := by decide +kernel
theorem d_Node_work_79 : decode prog_10_method_8_code 79 = .ok (.getfield 163, 3) := by decide +kernel
theorem d_Node_work_82 : decode prog_10_method_8_code 82 = .ok (.iconst (-1), 1) := by decide +kernel
theorem d_Node_work_83 : decode prog_10_method_8_code 83 = .ok (.if_icmp .eq 60, 3) := by decide +kernel
theorem d_Node_work_86 : decode prog_10_method_8_code 86 = .ok (.aload_n 0, 1) := by decide +kernel
theorem d_Node_work_87 : decode prog_10_method_8_code 87 = .ok (.getfield 33, 3) := by decide +kernel
theorem d_Node_work_90 : decode prog_10_method_8_code 90 = .ok (.getstatic 201, 3) := by decide +kernel
theorem d_Node_work_93 : decode prog_10_method_8_code 93 = .ok (.aload_n 0, 1) := by decide +kernel
theorem d_Node_work_94 : decode prog_10_method_8_code 94 = .ok (.getfield 25, 3) := by decide +kernel
theorem d_Node_work_97 : decode prog_10_method_8_code 97 = .ok (.aload_n 0, 1) := by decide +kernel
theorem d_Node_work_98 : decode prog_10_method_8_code 98 = .ok (.getfield 12, 3) := by decide +kernel
theorem d_Node_work_101 : decode prog_10_method_8_code 101 = .ok (.getfield 163, 3) := by decide +kernel
theorem d_Node_work_104 : decode prog_10_method_8_code 104 = .ok (.aload_n 0, 1) := by decide +kernel
theorem d_Node_work_105 : decode prog_10_method_8_code 105 = .ok (.getfield 12, 3) := by decide +kernel
theorem d_Node_work_108 : decode prog_10_method_8_code 108 = .ok (.getfield 103, 3) := by decide +kernel
theorem d_Node_work_111 : decode prog_10_method_8_code 111 = .ok (.invokevirtual 136, 3) := by decide +kernel
theorem d_Node_work_114 : decode prog_10_method_8_code 114 = .ok (.astore_n 1, 1) := by decide +kernel
theorem d_Node_work_115 : decode prog_10_method_8_code 115 = .ok (.aload_n 1, 1) := by decide +kernel
theorem d_Node_work_116 : decode prog_10_method_8_code 116 = .ok (.aload_n 0, 1) := by decide +kernel
theorem d_Node_work_117 : decode prog_10_method_8_code 117 = .ok (.getfield 12, 3) := by decide +kernel
theorem d_Node_work_120 : decode prog_10_method_8_code 120 = .ok (.getfield 146, 3) := by decide +kernel
theorem d_Node_work_123 : decode prog_10_method_8_code 123 = .ok (.getfield 204, 3) := by decide +kernel
theorem d_Node_work_126 : decode prog_10_method_8_code 126 = .ok (.putfield 124, 3) := by decide +kernel
theorem d_Node_work_129 : decode prog_10_method_8_code 129 = .ok (.aload_n 1, 1) := by decide +kernel
theorem d_Node_work_130 : decode prog_10_method_8_code 130 = .ok (.aload_n 0, 1) := by decide +kernel
theorem d_Node_work_131 : decode prog_10_method_8_code 131 = .ok (.getfield 12, 3) := by decide +kernel
theorem d_Node_work_134 : decode prog_10_method_8_code 134 = .ok (.getfield 146, 3) := by decide +kernel
theorem d_Node_work_137 : decode prog_10_method_8_code 137 = .ok (.getfield 205, 3) := by decide +kernel
theorem d_Node_work_140 : decode prog_10_method_8_code 140 = .ok (.putfield 127, 3) := by decide +kernel
theorem d_Node_work_143 : decode prog_10_method_8_code 143 = .ok (.aload_n 0, 1) := by decide +kernel
theorem d_Node_work_144 : decode prog_10_method_8_code 144 = .ok (.iconst 0, 1) := by decide +kernel
theorem d_Node_work_145 : decode prog_10_method_8_code 145 = .ok (.putfield 82, 3) := by decide +kernel
theorem d_Node_work_148 : decode prog_10_method_8_code 148 = .ok (.return_, 1) := by decide +kernel
theorem d_Node_flush_0 : decode prog_10_method_3_code 0 = .ok (.aload_n 0, 1) := by decide +kernel
theorem d_Node_flush_1 : decode prog_10_method_3_code 1 = .ok (.getfield 76, 3) := by decide +kernel
theorem d_Node_flush_4 : decode prog_10_method_3_code 4 = .ok (.ifCond .eq 19, 3) := by decide +kernel
theorem d_Node_flush_7 : decode prog_10_method_3_code 7 = .ok (.aload_n 0, 1) := by decide +kernel
theorem d_Node_flush_8 : decode prog_10_method_3_code 8 = .ok (.getfield 18, 3) := by decide +kernel
theorem d_Node_flush_11 : decode prog_10_method_3_code 11 = .ok (.aload_n 0, 1) := by decide +kernel
theorem d_Node_flush_12 : decode prog_10_method_3_code 12 = .ok (.getfield 12, 3) := by decide +kernel
theorem d_Node_flush_15 : decode prog_10_method_3_code 15 = .ok (.invokevirtual 66, 3) := by decide +kernel
theorem d_Node_flush_18 : decode prog_10_method_3_code 18 = .ok (.aload_n 0, 1) := by decide +kernel
theorem d_Node_flush_19 : decode prog_10_method_3_code 19 = .ok (.iconst 0, 1) := by decide +kernel
theorem d_Node_flush_20 : decode prog_10_method_3_code 20 = .ok (.putfield 76, 3) := by decide +kernel
theorem d_Node_flush_23 : decode prog_10_method_3_code 23 = .ok (.return_, 1) := by decide +kernel
theorem d_Node_lead_0 : decode prog_10_method_9_code 0 = .ok (.aload_n 0, 1) := by decide +kernel
theorem d_Node_lead_1 : decode prog_10_method_9_code 1 = .ok (.getfield 47, 3) := by decide +kernel
theorem d_Node_lead_4 : decode prog_10_method_9_code 4 = .ok (.aload_n 0, 1) := by decide +kernel
theorem d_Node_lead_5 : decode prog_10_method_9_code 5 = .ok (.getfield 25, 3) := by decide +kernel
theorem d_Node_lead_8 : decode prog_10_method_9_code 8 = .ok (.aload_n 0, 1) := by decide +kernel
theorem d_Node_lead_9 : decode prog_10_method_9_code 9 = .ok (.getfield 12, 3) := by decide +kernel
theorem d_Node_lead_12 : decode prog_10_method_9_code 12 = .ok (.getfield 146, 3) := by decide +kernel
theorem d_Node_lead_15 : decode prog_10_method_9_code 15 = .ok (.getfield 204, 3) := by decide +kernel
theorem d_Node_lead_18 : decode prog_10_method_9_code 18 = .ok (.aload_n 0, 1) := by decide +kernel
theorem d_Node_lead_19 : decode prog_10_method_9_code 19 = .ok (.getfield 12, 3) := by decide +kernel
theorem d_Node_lead_22 : decode prog_10_method_9_code 22 = .ok (.getfield 146, 3) := by decide +kernel
theorem d_Node_lead_25 : decode prog_10_method_9_code 25 = .ok (.getfield 205, 3) := by decide +kernel
theorem d_Node_lead_28 : decode prog_10_method_9_code 28 = .ok (.invokevirtual 130, 3) := by decide +kernel
theorem d_Node_lead_31 : decode prog_10_method_9_code 31 = .ok (.aload_n 0, 1) := by decide +kernel
theorem d_Node_lead_32 : decode prog_10_method_9_code 32 = .ok (.getfield 47, 3) := by decide +kernel
theorem d_Node_lead_35 : decode prog_10_method_9_code 35 = .ok (.getfield 166, 3) := by decide +kernel
theorem d_Node_lead_38 : decode prog_10_method_9_code 38 = .ok (.ifCond .ne 7, 3) := by decide +kernel
theorem d_Node_lead_41 : decode prog_10_method_9_code 41 = .ok (.aload_n 0, 1) := by decide +kernel
theorem d_Node_lead_42 : decode prog_10_method_9_code 42 = .ok (.invokevirtual 206, 3) := by decide +kernel
theorem d_Node_lead_45 : decode prog_10_method_9_code 45 = .ok (.aload_n 0, 1) := by decide +kernel
theorem d_Node_lead_46 : decode prog_10_method_9_code 46 = .ok (.getfield 47, 3) := by decide +kernel
theorem d_Node_lead_49 : decode prog_10_method_9_code 49 = .ok (.getfield 166, 3) := by decide +kernel
theorem d_Node_lead_52 : decode prog_10_method_9_code 52 = .ok (.ifCond .eq 7, 3) := by decide +kernel
theorem d_Node_lead_55 : decode prog_10_method_9_code 55 = .ok (.aload_n 0, 1) := by decide +kernel
theorem d_Node_lead_56 : decode prog_10_method_9_code 56 = .ok (.invokevirtual 209, 3) := by decide +kernel
theorem d_Node_lead_59 : decode prog_10_method_9_code 59 = .ok (.iconst 0, 1) := by decide +kernel
theorem d_Node_lead_60 : decode prog_10_method_9_code 60 = .ok (.istore_n 1, 1) := by decide +kernel
theorem d_Node_lead_61 : decode prog_10_method_9_code 61 = .ok (.iload_n 1, 1) := by decide +kernel
theorem d_Node_lead_62 : decode prog_10_method_9_code 62 = .ok (.aload_n 0, 1) := by decide +kernel
theorem d_Node_lead_63 : decode prog_10_method_9_code 63 = .ok (.getfield 29, 3) := by decide +kernel
theorem d_Node_lead_66 : decode prog_10_method_9_code 66 = .ok (.getfield 39, 3) := by decide +kernel
theorem d_Node_lead_69 : decode prog_10_method_9_code 69 = .ok (.if_icmp .ge 22, 3) := by decide +kernel
theorem d_Node_lead_72 : decode prog_10_method_9_code 72 = .ok (.iload_n 1, 1) := by decide +kernel
theorem d_Node_lead_73 : decode prog_10_method_9_code 73 = .ok (.aload_n 0, 1) := by decide +kernel
theorem d_Node_lead_74 : decode prog_10_method_9_code 74 = .ok (.getfield 25, 3) := by decide +kernel
theorem d_Node_lead_77 : decode prog_10_method_9_code 77 = .ok (.if_icmp .eq 8, 3) := by decide +kernel
theorem d_Node_lead_80 : decode prog_10_method_9_code 80 = .ok (.aload_n 0, 1) := by decide +kernel
theorem d_Node_lead_81 : decode prog_10_method_9_code 81 = .ok (.iload_n 1, 1) := by decide +kernel
theorem d_Node_lead_82 : decode prog_10_method_9_code 82 = .ok (.invokevirtual 212, 3) := by decide +kernel
theorem d_Node_lead_85 : decode prog_10_method_9_code 85 = .ok (.iinc 1 1, 3) := by decide +kernel
theorem d_Node_lead_88 : decode prog_10_method_9_code 88 = .ok (.goto (-27), 3) := by decide +kernel
theorem d_Node_lead_91 : decode prog_10_method_9_code 91 = .ok (.return_, 1) := by decide +kernel
theorem d_Node_prepare_0 : decode prog_10_method_10_code 0 = .ok (.aload_n 0, 1) := by decide +kernel
theorem d_Node_prepare_1 : decode prog_10_method_10_code 1 = .ok (.getfield 47, 3) := by decide +kernel
theorem d_Node_prepare_4 : decode prog_10_method_10_code 4 = .ok (.invokevirtual 215, 3) := by decide +kernel
theorem d_Node_prepare_7 : decode prog_10_method_10_code 7 = .ok (.aload_n 0, 1) := by decide +kernel
theorem d_Node_prepare_8 : decode prog_10_method_10_code 8 = .ok (.getfield 29, 3) := by decide +kernel
theorem d_Node_prepare_11 : decode prog_10_method_10_code 11 = .ok (.invokevirtual 218, 3) := by decide +kernel
theorem d_Node_prepare_14 : decode prog_10_method_10_code 14 = .ok (.if_icmp .ge 4, 3) := by decide +kernel
theorem d_Node_prepare_17 : decode prog_10_method_10_code 17 = .ok (.return_, 1) := by decide +kernel
theorem d_Node_prepare_18 : decode prog_10_method_10_code 18 = .ok (.aload_n 0, 1) := by decide +kernel
theorem d_Node_prepare_19 : decode prog_10_method_10_code 19 = .ok (.getfield 47, 3) := by decide +kernel
theorem d_Node_prepare_22 : decode prog_10_method_10_code 22 = .ok (.aload_n 0, 1) := by decide +kernel
theorem d_Node_prepare_23 : decode prog_10_method_10_code 23 = .ok (.getfield 25, 3) := by decide +kernel
theorem d_Node_prepare_26 : decode prog_10_method_10_code 26 = .ok (.invokevirtual 221, 3) := by decide +kernel
theorem d_Node_prepare_29 : decode prog_10_method_10_code 29 = .ok (.istore_n 1, 1) := by decide +kernel
theorem d_Node_prepare_30 : decode prog_10_method_10_code 30 = .ok (.iload_n 1, 1) := by decide +kernel
theorem d_Node_prepare_31 : decode prog_10_method_10_code 31 = .ok (.aload_n 0, 1) := by decide +kernel
end
section
theorem d_Node_prepare_32 : decode prog_10_method_10_code 32 = .ok (.getfield 25, 3) := by decide +kernel
theorem d_Node_prepare_35 : decode prog_10_method_10_code 35 = .ok (.if_icmp .ne 31, 3) := by decide +kernel
theorem d_Node_prepare_38 : decode prog_10_method_10_code 38 = .ok (.aload_n 0, 1) := by decide +kernel
theorem d_Node_prepare_39 : decode prog_10_method_10_code 39 = .ok (.getfield 47, 3) := by decide +kernel
theorem d_Node_prepare_42 : decode prog_10_method_10_code 42 = .ok (.iconst 1, 1) := by decide +kernel
theorem d_Node_prepare_43 : decode prog_10_method_10_code 43 = .ok (.putfield 166, 3) := by decide +kernel
theorem d_Node_prepare_46 : decode prog_10_method_10_code 46 = .ok (.aload_n 0, 1) := by decide +kernel
theorem d_Node_prepare_47 : decode prog_10_method_10_code 47 = .ok (.getfield 47, 3) := by decide +kernel
theorem d_Node_prepare_50 : decode prog_10_method_10_code 50 = .ok (.aload_n 0, 1) := by decide +kernel
theorem d_Node_prepare_51 : decode prog_10_method_10_code 51 = .ok (.getfield 12, 3) := by decide +kernel
theorem d_Node_prepare_54 : decode prog_10_method_10_code 54 = .ok (.getfield 146, 3) := by decide +kernel
theorem d_Node_prepare_57 : decode prog_10_method_10_code 57 = .ok (.getfield 204, 3) := by decide +kernel
theorem d_Node_prepare_60 : decode prog_10_method_10_code 60 = .ok (.putfield 224, 3) := by decide +kernel
theorem d_Node_prepare_63 : decode prog_10_method_10_code 63 = .ok (.goto 26, 3) := by decide +kernel
theorem d_Node_prepare_66 : decode prog_10_method_10_code 66 = .ok (.aload_n 0, 1) := by decide +kernel
theorem d_Node_prepare_67 : decode prog_10_method_10_code 67 = .ok (.getfield 33, 3) := by decide +kernel
theorem d_Node_prepare_70 : decode prog_10_method_10_code 70 = .ok (.getstatic 227, 3) := by decide +kernel
theorem d_Node_prepare_73 : decode prog_10_method_10_code 73 = .ok (.aload_n 0, 1) := by decide +kernel
theorem d_Node_prepare_74 : decode prog_10_method_10_code 74 = .ok (.getfield 25, 3) := by decide +kernel
theorem d_Node_prepare_77 : decode prog_10_method_10_code 77 = .ok (.iload_n 1, 1) := by decide +kernel
theorem d_Node_prepare_78 : decode prog_10_method_10_code 78 = .ok (.aload_n 0, 1) := by decide +kernel
theorem d_Node_prepare_79 : decode prog_10_method_10_code 79 = .ok (.getfield 12, 3) := by decide +kernel
theorem d_Node_prepare_82 : decode prog_10_method_10_code 82 = .ok (.getfield 103, 3) := by decide +kernel
theorem d_Node_prepare_85 : decode prog_10_method_10_code 85 = .ok (.invokevirtual 136, 3) := by decide +kernel
theorem d_Node_prepare_88 : decode prog_10_method_10_code 88 = .ok (.pop, 1) := by decide +kernel
theorem d_Node_prepare_89 : decode prog_10_method_10_code 89 = .ok (.return_, 1) := by decide +kernel
theorem d_Reports_size_0 : decode prog_13_method_4_code 0 = .ok (.iconst 0, 1) := by decide +kernel
theorem d_Reports_size_1 : decode prog_13_method_4_code 1 = .ok (.istore_n 1, 1) := by decide +kernel
theorem d_Reports_size_2 : decode prog_13_method_4_code 2 = .ok (.iconst 0, 1) := by decide +kernel
theorem d_Reports_size_3 : decode prog_13_method_4_code 3 = .ok (.istore_n 2, 1) := by decide +kernel
theorem d_Reports_size_4 : decode prog_13_method_4_code 4 = .ok (.iload_n 2, 1) := by decide +kernel
theorem d_Reports_size_5 : decode prog_13_method_4_code 5 = .ok (.aload_n 0, 1) := by decide +kernel
theorem d_Reports_size_6 : decode prog_13_method_4_code 6 = .ok (.getfield 9, 3) := by decide +kernel
theorem d_Reports_size_9 : decode prog_13_method_4_code 9 = .ok (.arraylength, 1) := by decide +kernel
theorem d_Reports_size_10 : decode prog_13_method_4_code 10 = .ok (.if_icmp .ge 21, 3) := by decide +kernel
theorem d_Reports_size_13 : decode prog_13_method_4_code 13 = .ok (.aload_n 0, 1) := by decide +kernel
theorem d_Reports_size_14 : decode prog_13_method_4_code 14 = .ok (.getfield 9, 3) := by decide +kernel
theorem d_Reports_size_17 : decode prog_13_method_4_code 17 = .ok (.iload_n 2, 1) := by decide +kernel
theorem d_Reports_size_18 : decode prog_13_method_4_code 18 = .ok (.baload, 1) := by decide +kernel
theorem d_Reports_size_19 : decode prog_13_method_4_code 19 = .ok (.ifCond .eq 6, 3) := by decide +kernel
theorem d_Reports_size_22 : decode prog_13_method_4_code 22 = .ok (.iinc 1 1, 3) := by decide +kernel
theorem d_Reports_size_25 : decode prog_13_method_4_code 25 = .ok (.iinc 2 1, 3) := by decide +kernel
theorem d_Reports_size_28 : decode prog_13_method_4_code 28 = .ok (.goto (-24), 3) := by decide +kernel
theorem d_Reports_size_31 : decode prog_13_method_4_code 31 = .ok (.iload_n 1, 1) := by decide +kernel
theorem d_Reports_size_32 : decode prog_13_method_4_code 32 = .ok (.ireturn, 1) := by decide +kernel
theorem d_Plan_quorum_0 : decode prog_11_method_3_code 0 = .ok (.aload_n 0, 1) := by decide +kernel
theorem d_Plan_quorum_1 : decode prog_11_method_3_code 1 = .ok (.getfield 9, 3) := by decide +kernel
theorem d_Plan_quorum_4 : decode prog_11_method_3_code 4 = .ok (.aload_n 0, 1) := by decide +kernel
theorem d_Plan_quorum_5 : decode prog_11_method_3_code 5 = .ok (.getfield 15, 3) := by decide +kernel
theorem d_Plan_quorum_8 : decode prog_11_method_3_code 8 = .ok (.isub, 1) := by decide +kernel
theorem d_Plan_quorum_9 : decode prog_11_method_3_code 9 = .ok (.iconst 1, 1) := by decide +kernel
theorem d_Plan_quorum_10 : decode prog_11_method_3_code 10 = .ok (.iadd, 1) := by decide +kernel
theorem d_Plan_quorum_11 : decode prog_11_method_3_code 11 = .ok (.ireturn, 1) := by decide +kernel
theorem d_Reports_furthest_0 : decode prog_13_method_5_code 0 = .ok (.iload_n 1, 1) := by decide +kernel
theorem d_Reports_furthest_1 : decode prog_13_method_5_code 1 = .ok (.istore_n 2, 1) := by decide +kernel
theorem d_Reports_furthest_2 : decode prog_13_method_5_code 2 = .ok (.iconst 0, 1) := by decide +kernel
theorem d_Reports_furthest_3 : decode prog_13_method_5_code 3 = .ok (.istore_n 3, 1) := by decide +kernel
theorem d_Reports_furthest_4 : decode prog_13_method_5_code 4 = .ok (.iload_n 3, 1) := by decide +kernel
theorem d_Reports_furthest_5 : decode prog_13_method_5_code 5 = .ok (.aload_n 0, 1) := by decide +kernel
theorem d_Reports_furthest_6 : decode prog_13_method_5_code 6 = .ok (.getfield 9, 3) := by decide +kernel
theorem d_Reports_furthest_9 : decode prog_13_method_5_code 9 = .ok (.arraylength, 1) := by decide +kernel
theorem d_Reports_furthest_10 : decode prog_13_method_5_code 10 = .ok (.if_icmp .ge 35, 3) := by decide +kernel
theorem d_Reports_furthest_13 : decode prog_13_method_5_code 13 = .ok (.aload_n 0, 1) := by decide +kernel
theorem d_Reports_furthest_14 : decode prog_13_method_5_code 14 = .ok (.getfield 9, 3) := by decide +kernel
theorem d_Reports_furthest_17 : decode prog_13_method_5_code 17 = .ok (.iload_n 3, 1) := by decide +kernel
theorem d_Reports_furthest_18 : decode prog_13_method_5_code 18 = .ok (.baload, 1) := by decide +kernel
theorem d_Reports_furthest_19 : decode prog_13_method_5_code 19 = .ok (.ifCond .eq 20, 3) := by decide +kernel
theorem d_Reports_furthest_22 : decode prog_13_method_5_code 22 = .ok (.aload_n 0, 1) := by decide +kernel
theorem d_Reports_furthest_23 : decode prog_13_method_5_code 23 = .ok (.getfield 15, 3) := by decide +kernel
theorem d_Reports_furthest_26 : decode prog_13_method_5_code 26 = .ok (.iload_n 3, 1) := by decide +kernel
theorem d_Reports_furthest_27 : decode prog_13_method_5_code 27 = .ok (.iaload, 1) := by decide +kernel
theorem d_Reports_furthest_28 : decode prog_13_method_5_code 28 = .ok (.aload_n 0, 1) := by decide +kernel
theorem d_Reports_furthest_29 : decode prog_13_method_5_code 29 = .ok (.getfield 15, 3) := by decide +kernel
theorem d_Reports_furthest_32 : decode prog_13_method_5_code 32 = .ok (.iload_n 2, 1) := by decide +kernel
theorem d_Reports_furthest_33 : decode prog_13_method_5_code 33 = .ok (.iaload, 1) := by decide +kernel
theorem d_Reports_furthest_34 : decode prog_13_method_5_code 34 = .ok (.if_icmp .le 5, 3) := by decide +kernel
theorem d_Reports_furthest_37 : decode prog_13_method_5_code 37 = .ok (.iload_n 3, 1) := by decide +kernel
theorem d_Reports_furthest_38 : decode prog_13_method_5_code 38 = .ok (.istore_n 2, 1) := by decide +kernel
theorem d_Reports_furthest_39 : decode prog_13_method_5_code 39 = .ok (.iinc 3 1, 3) := by decide +kernel
theorem d_Reports_furthest_42 : decode prog_13_method_5_code 42 = .ok (.goto (-38), 3) := by decide +kernel
theorem d_Reports_furthest_45 : decode prog_13_method_5_code 45 = .ok (.iload_n 2, 1) := by decide +kernel
theorem d_Reports_furthest_46 : decode prog_13_method_5_code 46 = .ok (.ireturn, 1) := by decide +kernel
theorem d_Node_doWhatIsAgreed_0 : decode prog_10_method_11_code 0 = .ok (.aload_n 0, 1) := by decide +kernel
theorem d_Node_doWhatIsAgreed_1 : decode prog_10_method_11_code 1 = .ok (.getfield 12, 3) := by decide +kernel
theorem d_Node_doWhatIsAgreed_4 : decode prog_10_method_11_code 4 = .ok (.getfield 146, 3) := by decide +kernel
theorem d_Node_doWhatIsAgreed_7 : decode prog_10_method_11_code 7 = .ok (.getfield 205, 3) := by decide +kernel
theorem d_Node_doWhatIsAgreed_10 : decode prog_10_method_11_code 10 = .ok (.istore_n 1, 1) := by decide +kernel
theorem d_Node_doWhatIsAgreed_11 : decode prog_10_method_11_code 11 = .ok (.aload_n 0, 1) := by decide +kernel
theorem d_Node_doWhatIsAgreed_12 : decode prog_10_method_11_code 12 = .ok (.dup, 1) := by decide +kernel
theorem d_Node_doWhatIsAgreed_13 : decode prog_10_method_11_code 13 = .ok (.getfield 76, 3) := by decide +kernel
theorem d_Node_doWhatIsAgreed_16 : decode prog_10_method_11_code 16 = .ok (.aload_n 0, 1) := by decide +kernel
theorem d_Node_doWhatIsAgreed_17 : decode prog_10_method_11_code 17 = .ok (.getfield 12, 3) := by decide +kernel
theorem d_Node_doWhatIsAgreed_20 : decode prog_10_method_11_code 20 = .ok (.getfield 146, 3) := by decide +kernel
theorem d_Node_doWhatIsAgreed_23 : decode prog_10_method_11_code 23 = .ok (.aload_n 0, 1) := by decide +kernel
theorem d_Node_doWhatIsAgreed_24 : decode prog_10_method_11_code 24 = .ok (.getfield 47, 3) := by decide +kernel
theorem d_Node_doWhatIsAgreed_27 : decode prog_10_method_11_code 27 = .ok (.aload_n 0, 1) := by decide +kernel
theorem d_Node_doWhatIsAgreed_28 : decode prog_10_method_11_code 28 = .ok (.getfield 12, 3) := by decide +kernel
theorem d_Node_doWhatIsAgreed_31 : decode prog_10_method_11_code 31 = .ok (.getfield 230, 3) := by decide +kernel
theorem d_Node_doWhatIsAgreed_34 : decode prog_10_method_11_code 34 = .ok (.invokevirtual 232, 3) := by decide +kernel
theorem d_Node_doWhatIsAgreed_37 : decode prog_10_method_11_code 37 = .ok (.invokevirtual 235, 3) := by decide +kernel
theorem d_Node_doWhatIsAgreed_40 : decode prog_10_method_11_code 40 = .ok (.ior, 1) := by decide +kernel
theorem d_Node_doWhatIsAgreed_41 : decode prog_10_method_11_code 41 = .ok (.putfield 76, 3) := by decide +kernel
theorem d_Node_doWhatIsAgreed_44 : decode prog_10_method_11_code 44 = .ok (.iload_n 1, 1) := by decide +kernel
theorem d_Node_doWhatIsAgreed_45 : decode prog_10_method_11_code 45 = .ok (.istore_n 2, 1) := by decide +kernel
theorem d_Node_doWhatIsAgreed_46 : decode prog_10_method_11_code 46 = .ok (.iload_n 2, 1) := by decide +kernel
theorem d_Node_doWhatIsAgreed_47 : decode prog_10_method_11_code 47 = .ok (.aload_n 0, 1) := by decide +kernel
theorem d_Node_doWhatIsAgreed_48 : decode prog_10_method_11_code 48 = .ok (.getfield 12, 3) := by decide +kernel
theorem d_Node_doWhatIsAgreed_51 : decode prog_10_method_11_code 51 = .ok (.getfield 146, 3) := by decide +kernel
theorem d_Node_doWhatIsAgreed_54 : decode prog_10_method_11_code 54 = .ok (.getfield 205, 3) := by decide +kernel
theorem d_Node_doWhatIsAgreed_57 : decode prog_10_method_11_code 57 = .ok (.if_icmp .ge 14, 3) := by decide +kernel
theorem d_Node_doWhatIsAgreed_60 : decode prog_10_method_11_code 60 = .ok (.aload_n 0, 1) := by decide +kernel
theorem d_Node_doWhatIsAgreed_61 : decode prog_10_method_11_code 61 = .ok (.iload_n 2, 1) := by decide +kernel
theorem d_Node_doWhatIsAgreed_62 : decode prog_10_method_11_code 62 = .ok (.invokevirtual 178, 3) := by decide +kernel
theorem d_Node_doWhatIsAgreed_65 : decode prog_10_method_11_code 65 = .ok (.iinc 2 1, 3) := by decide +kernel
theorem d_Node_doWhatIsAgreed_68 : decode prog_10_method_11_code 68 = .ok (.goto (-22), 3) := by decide +kernel
theorem d_Node_doWhatIsAgreed_71 : decode prog_10_method_11_code 71 = .ok (.return_, 1) := by decide +kernel
theorem d_Reports_agreed_0 : decode prog_13_method_6_code 0 = .ok (.sipush 512, 3) := by decide +kernel
theorem d_Reports_agreed_3 : decode prog_13_method_6_code 3 = .ok (.istore_n 2, 1) := by decide +kernel
theorem d_Reports_agreed_4 : decode prog_13_method_6_code 4 = .ok (.iconst 0, 1) := by decide +kernel
theorem d_Reports_agreed_5 : decode prog_13_method_6_code 5 = .ok (.istore_n 3, 1) := by decide +kernel
theorem d_Reports_agreed_6 : decode prog_13_method_6_code 6 = .ok (.iload_n 3, 1) := by decide +kernel
theorem d_Reports_agreed_7 : decode prog_13_method_6_code 7 = .ok (.aload_n 0, 1) := by decide +kernel
theorem d_Reports_agreed_8 : decode prog_13_method_6_code 8 = .ok (.getfield 9, 3) := by decide +kernel
theorem d_Reports_agreed_11 : decode prog_13_method_6_code 11 = .ok (.arraylength, 1) := by decide +kernel
theorem d_Reports_agreed_12 : decode prog_13_method_6_code 12 = .ok (.if_icmp .ge 41, 3) := by decide +kernel
theorem d_Reports_agreed_15 : decode prog_13_method_6_code 15 = .ok (.iload_n 1, 1) := by decide +kernel
theorem d_Reports_agreed_16 : decode prog_13_method_6_code 16 = .ok (.iload_n 3, 1) := by decide +kernel
theorem d_Reports_agreed_17 : decode prog_13_method_6_code 17 = .ok (.iushr, 1) := by decide +kernel
theorem d_Reports_agreed_18 : decode prog_13_method_6_code 18 = .ok (.iconst 1, 1) := by decide +kernel
theorem d_Reports_agreed_19 : decode prog_13_method_6_code 19 = .ok (.iand, 1) := by decide +kernel
theorem d_Reports_agreed_20 : decode prog_13_method_6_code 20 = .ok (.ifCond .eq 27, 3) := by decide +kernel
theorem d_Reports_agreed_23 : decode prog_13_method_6_code 23 = .ok (.iload_n 2, 1) := by decide +kernel
theorem d_Reports_agreed_24 : decode prog_13_method_6_code 24 = .ok (.aload_n 0, 1) := by decide +kernel
theorem d_Reports_agreed_25 : decode prog_13_method_6_code 25 = .ok (.getfield 9, 3) := by decide +kernel
theorem d_Reports_agreed_28 : decode prog_13_method_6_code 28 = .ok (.iload_n 3, 1) := by decide +kernel
theorem d_Reports_agreed_29 : decode prog_13_method_6_code 29 = .ok (.baload, 1) := by decide +kernel
theorem d_Reports_agreed_30 : decode prog_13_method_6_code 30 = .ok (.ifCond .eq 12, 3) := by decide +kernel
theorem d_Reports_agreed_33 : decode prog_13_method_6_code 33 = .ok (.aload_n 0, 1) := by decide +kernel
theorem d_Reports_agreed_34 : decode prog_13_method_6_code 34 = .ok (.getfield 15, 3) := by decide +kernel
theorem d_Reports_agreed_37 : decode prog_13_method_6_code 37 = .ok (.iload_n 3, 1) := by decide +kernel
theorem d_Reports_agreed_38 : decode prog_13_method_6_code 38 = .ok (.iaload, 1) := by decide +kernel
theorem d_Reports_agreed_39 : decode prog_13_method_6_code 39 = .ok (.goto 4, 3) := by decide +kernel
theorem d_Reports_agreed_42 : decode prog_13_method_6_code 42 = .ok (.iconst 0, 1) := by decide +kernel
theorem d_Reports_agreed_43 : decode prog_13_method_6_code 43 = .ok (.invokestatic 30, 3) := by decide +kernel
theorem d_Reports_agreed_46 : decode prog_13_method_6_code 46 = .ok (.istore_n 2, 1) := by decide +kernel
theorem d_Reports_agreed_47 : decode prog_13_method_6_code 47 = .ok (.iinc 3 1, 3) := by decide +kernel
theorem d_Reports_agreed_50 : decode prog_13_method_6_code 50 = .ok (.goto (-44), 3) := by decide +kernel
theorem d_Reports_agreed_53 : decode prog_13_method_6_code 53 = .ok (.iload_n 2, 1) := by decide +kernel
theorem d_Reports_agreed_54 : decode prog_13_method_6_code 54 = .ok (.ireturn, 1) := by decide +kernel
theorem d_Node_guide_0 : decode prog_10_method_12_code 0 = .ok (.aload_n 0, 1) := by decide +kernel
theorem d_Node_guide_1 : decode prog_10_method_12_code 1 = .ok (.getfield 47, 3) := by decide +kernel
theorem d_Node_guide_4 : decode prog_10_method_12_code 4 = .ok (.getfield 238, 3) := by decide +kernel
theorem d_Node_guide_7 : decode prog_10_method_12_code 7 = .ok (.iload_n 1, 1) := by decide +kernel
theorem d_Node_guide_8 : decode prog_10_method_12_code 8 = .ok (.baload, 1) := by decide +kernel
theorem d_Node_guide_9 : decode prog_10_method_12_code 9 = .ok (.ifCond .ne 29, 3) := by decide +kernel
theorem d_Node_guide_12 : decode prog_10_method_12_code 12 = .ok (.aload_n 0, 1) := by decide +kernel
theorem d_Node_guide_13 : decode prog_10_method_12_code 13 = .ok (.getfield 33, 3) := by decide +kernel
theorem d_Node_guide_16 : decode prog_10_method_12_code 16 = .ok (.getstatic 242, 3) := by decide +kernel
theorem d_Node_guide_19 : decode prog_10_method_12_code 19 = .ok (.aload_n 0, 1) := by decide +kernel
theorem d_Node_guide_20 : decode prog_10_method_12_code 20 = .ok (.getfield 25, 3) := by decide +kernel
theorem d_Node_guide_23 : decode prog_10_method_12_code 23 = .ok (.iload_n 1, 1) := by decide +kernel
theorem d_Node_guide_24 : decode prog_10_method_12_code 24 = .ok (.aload_n 0, 1) := by decide +kernel
theorem d_Node_guide_25 : decode prog_10_method_12_code 25 = .ok (.getfield 12, 3) := by decide +kernel
theorem d_Node_guide_28 : decode prog_10_method_12_code 28 = .ok (.getfield 103, 3) := by decide +kernel
theorem d_Node_guide_31 : decode prog_10_method_12_code 31 = .ok (.invokevirtual 136, 3) := by decide +kernel
theorem d_Node_guide_34 : decode prog_10_method_12_code 34 = .ok (.pop, 1) := by decide +kernel
theorem d_Node_guide_35 : decode prog_10_method_12_code 35 = .ok (.goto 145, 3) := by decide +kernel
theorem d_Node_guide_38 : decode prog_10_method_12_code 38 = .ok (.aload_n 0, 1) := by decide +kernel
theorem d_Node_guide_39 : decode prog_10_method_12_code 39 = .ok (.getfield 47, 3) := by decide +kernel
theorem d_Node_guide_42 : decode prog_10_method_12_code 42 = .ok (.getfield 166, 3) := by decide +kernel
theorem d_Node_guide_45 : decode prog_10_method_12_code 45 = .ok (.ifCond .eq 66, 3) := by decide +kernel
theorem d_Node_guide_48 : decode prog_10_method_12_code 48 = .ok (.aload_n 0, 1) := by decide +kernel
theorem d_Node_guide_49 : decode prog_10_method_12_code 49 = .ok (.getfield 12, 3) := by decide +kernel
theorem d_Node_guide_52 : decode prog_10_method_12_code 52 = .ok (.iload_n 1, 1) := by decide +kernel
theorem d_Node_guide_53 : decode prog_10_method_12_code 53 = .ok (.invokevirtual 245, 3) := by decide +kernel
theorem d_Node_guide_56 : decode prog_10_method_12_code 56 = .ok (.ifCond .eq 55, 3) := by decide +kernel
theorem d_Node_guide_59 : decode prog_10_method_12_code 59 = .ok (.aload_n 0, 1) := by decide +kernel
theorem d_Node_guide_60 : decode prog_10_method_12_code 60 = .ok (.getfield 47, 3) := by decide +kernel
theorem d_Node_guide_63 : decode prog_10_method_12_code 63 = .ok (.getfield 248, 3) := by decide +kernel
theorem d_Node_guide_66 : decode prog_10_method_12_code 66 = .ok (.iload_n 1, 1) := by decide +kernel
theorem d_Node_guide_67 : decode prog_10_method_12_code 67 = .ok (.iaload, 1) := by decide +kernel
theorem d_Node_guide_68 : decode prog_10_method_12_code 68 = .ok (.aload_n 0, 1) := by decide +kernel
theorem d_Node_guide_69 : decode prog_10_method_12_code 69 = .ok (.getfield 12, 3) := by decide +kernel
theorem d_Node_guide_72 : decode prog_10_method_12_code 72 = .ok (.getfield 146, 3) := by decide +kernel
theorem d_Node_guide_75 : decode prog_10_method_12_code 75 = .ok (.getfield 204, 3) := by decide +kernel
theorem d_Node_guide_78 : decode prog_10_method_12_code 78 = .ok (.if_icmp .lt 25, 3) := by decide +kernel
theorem d_Node_guide_81 : decode prog_10_method_12_code 81 = .ok (.aload_n 0, 1) := by decide +kernel
theorem d_Node_guide_82 : decode prog_10_method_12_code 82 = .ok (.getfield 47, 3) := by decide +kernel
theorem d_Node_guide_85 : decode prog_10_method_12_code 85 = .ok (.getfield 251, 3) := by decide +kernel
theorem d_Node_guide_88 : decode prog_10_method_12_code 88 = .ok (.iload_n 1, 1) := by decide +kernel
theorem d_Node_guide_89 : decode prog_10_method_12_code 89 = .ok (.iaload, 1) := by decide +kernel
theorem d_Node_guide_90 : decode prog_10_method_12_code 90 = .ok (.aload_n 0, 1) := by decide +kernel
theorem d_Node_guide_91 : decode prog_10_method_12_code 91 = .ok (.getfield 12, 3) := by decide +kernel
theorem d_Node_guide_94 : decode prog_10_method_12_code 94 = .ok (.getfield 146, 3) := by decide +kernel
theorem d_Node_guide_97 : decode prog_10_method_12_code 97 = .ok (.getfield 205, 3) := by decide +kernel
theorem d_Node_guide_100 : decode prog_10_method_12_code 100 = .ok (.if_icmp .ge 80, 3) := by decide +kernel
theorem d_Node_guide_103 : decode prog_10_method_12_code 103 = .ok (.aload_n 0, 1) := by decide +kernel
theorem d_Node_guide_104 : decode prog_10_method_12_code 104 = .ok (.iload_n 1, 1) := by decide +kernel
theorem d_Node_guide_105 : decode prog_10_method_12_code 105 = .ok (.invokevirtual 254, 3) := by decide +kernel
theorem d_Node_guide_108 : decode prog_10_method_12_code 108 = .ok (.goto 72, 3) := by decide +kernel
theorem d_Node_guide_111 : decode prog_10_method_12_code 111 = .ok (.aload_n 0, 1) := by decide +kernel
theorem d_Node_guide_112 : decode prog_10_method_12_code 112 = .ok (.getfield 47, 3) := by decide +kernel
theorem d_Node_guide_115 : decode prog_10_method_12_code 115 = .ok (.getfield 166, 3) := by decide +kernel
theorem d_Node_guide_118 : decode prog_10_method_12_code 118 = .ok (.ifCond .eq 62, 3) := by decide +kernel
theorem d_Node_guide_121 : decode prog_10_method_12_code 121 = .ok (.aload_n 0, 1) := by decide +kernel
theorem d_Node_guide_122 : decode prog_10_method_12_code 122 = .ok (.getfield 47, 3) := by decide +kernel
theorem d_Node_guide_125 : decode prog_10_method_12_code 125 = .ok (.getfield 248, 3) := by decide +kernel
theorem d_Node_guide_128 : decode prog_10_method_12_code 128 = .ok (.iload_n 1, 1) := by decide +kernel
theorem d_Node_guide_129 : decode prog_10_method_12_code 129 = .ok (.iaload, 1) := by decide +kernel
theorem d_Node_guide_130 : decode prog_10_method_12_code 130 = .ok (.ifCond .le 50, 3) := by decide +kernel
theorem d_Node_guide_133 : decode prog_10_method_12_code 133 = .ok (.aload_n 0, 1) := by decide +kernel
theorem d_Node_guide_134 : decode prog_10_method_12_code 134 = .ok (.getfield 47, 3) := by decide +kernel
theorem d_Node_guide_137 : decode prog_10_method_12_code 137 = .ok (.aload_n 0, 1) := by decide +kernel
theorem d_Node_guide_138 : decode prog_10_method_12_code 138 = .ok (.getfield 12, 3) := by decide +kernel
theorem d_Node_guide_141 : decode prog_10_method_12_code 141 = .ok (.getfield 230, 3) := by decide +kernel
theorem d_Node_guide_144 : decode prog_10_method_12_code 144 = .ok (.invokevirtual 232, 3) := by decide +kernel
theorem d_Node_guide_147 : decode prog_10_method_12_code 147 = .ok (.aload_n 0, 1) := by decide +kernel
theorem d_Node_guide_148 : decode prog_10_method_12_code 148 = .ok (.getfield 47, 3) := by decide +kernel
theorem d_Node_guide_151 : decode prog_10_method_12_code 151 = .ok (.getfield 224, 3) := by decide +kernel
theorem d_Node_guide_154 : decode prog_10_method_12_code 154 = .ok (.if_icmp .lt 26, 3) := by decide +kernel
theorem d_Node_guide_157 : decode prog_10_method_12_code 157 = .ok (.aload_n 0, 1) := by decide +kernel
theorem d_Node_guide_158 : decode prog_10_method_12_code 158 = .ok (.getfield 33, 3) := by decide +kernel
theorem d_Node_guide_161 : decode prog_10_method_12_code 161 = .ok (.getstatic 257, 3) := by decide +kernel
theorem d_Node_guide_164 : decode prog_10_method_12_code 164 = .ok (.aload_n 0, 1) := by decide +kernel
theorem d_Node_guide_165 : decode prog_10_method_12_code 165 = .ok (.getfield 25, 3) := by decide +kernel
theorem d_Node_guide_168 : decode prog_10_method_12_code 168 = .ok (.iload_n 1, 1) := by decide +kernel
theorem d_Node_guide_169 : decode prog_10_method_12_code 169 = .ok (.aload_n 0, 1) := by decide +kernel
theorem d_Node_guide_170 : decode prog_10_method_12_code 170 = .ok (.getfield 12, 3) := by decide +kernel
theorem d_Node_guide_173 : decode prog_10_method_12_code 173 = .ok (.getfield 103, 3) := by decide +kernel
theorem d_Node_guide_176 : decode prog_10_method_12_code 176 = .ok (.invokevirtual 136, 3) := by decide +kernel
theorem d_Node_guide_179 : decode prog_10_method_12_code 179 = .ok (.pop, 1) := by decide +kernel
theorem d_Node_guide_180 : decode prog_10_method_12_code 180 = .ok (.return_, 1) := by decide +kernel
theorem d_Memory_keeps_0 : decode prog_8_method_3_code 0 = .ok (.aload_n 0, 1) := by decide +kernel
theorem d_Memory_keeps_1 : decode prog_8_method_3_code 1 = .ok (.getfield 20, 3) := by decide +kernel
theorem d_Memory_keeps_4 : decode prog_8_method_3_code 4 = .ok (.iload_n 1, 1) := by decide +kernel
theorem d_Memory_keeps_5 : decode prog_8_method_3_code 5 = .ok (.iushr, 1) := by decide +kernel
theorem d_Memory_keeps_6 : decode prog_8_method_3_code 6 = .ok (.iconst 1, 1) := by decide +kernel
theorem d_Memory_keeps_7 : decode prog_8_method_3_code 7 = .ok (.iand, 1) := by decide +kernel
theorem d_Memory_keeps_8 : decode prog_8_method_3_code 8 = .ok (.ifCond .eq 7, 3) := by decide +kernel
theorem d_Memory_keeps_11 : decode prog_8_method_3_code 11 = .ok (.iconst 1, 1) := by decide +kernel
theorem d_Memory_keeps_12 : decode prog_8_method_3_code 12 = .ok (.goto 4, 3) := by decide +kernel
theorem d_Memory_keeps_15 : decode prog_8_method_3_code 15 = .ok (.iconst 0, 1) := by decide +kernel
theorem d_Memory_keeps_16 : decode prog_8_method_3_code 16 = .ok (.ireturn, 1) := by decide +kernel
theorem d_Node_sendCopy_0 : decode prog_10_method_13_code 0 = .ok (.aload_n 0, 1) := by decide +kernel
theorem d_Node_sendCopy_1 : decode prog_10_method_13_code 1 = .ok (.getfield 12, 3) := by decide +kernel
theorem d_Node_sendCopy_4 : decode prog_10_method_13_code 4 = .ok (.getfield 146, 3) := by decide +kernel
theorem d_Node_sendCopy_7 : decode prog_10_method_13_code 7 = .ok (.aload_n 0, 1) := by decide +kernel
theorem d_Node_sendCopy_8 : decode prog_10_method_13_code 8 = .ok (.getfield 47, 3) := by decide +kernel
theorem d_Node_sendCopy_11 : decode prog_10_method_13_code 11 = .ok (.getfield 248, 3) := by decide +kernel
theorem d_Node_sendCopy_14 : decode prog_10_method_13_code 14 = .ok (.iload_n 1, 1) := by decide +kernel
theorem d_Node_sendCopy_15 : decode prog_10_method_13_code 15 = .ok (.iaload, 1) := by decide +kernel
theorem d_Node_sendCopy_16 : decode prog_10_method_13_code 16 = .ok (.invokevirtual 260, 3) := by decide +kernel
theorem d_Node_sendCopy_19 : decode prog_10_method_13_code 19 = .ok (.ifCond .ne 7, 3) := by decide +kernel
theorem d_Node_sendCopy_22 : decode prog_10_method_13_code 22 = .ok (.iconst 1, 1) := by decide +kernel
theorem d_Node_sendCopy_23 : decode prog_10_method_13_code 23 = .ok (.goto 4, 3) := by decide +kernel
theorem d_Node_sendCopy_26 : decode prog_10_method_13_code 26 = .ok (.iconst 0, 1) := by decide +kernel
theorem d_Node_sendCopy_27 : decode prog_10_method_13_code 27 = .ok (.istore_n 2, 1) := by decide +kernel
theorem d_Node_sendCopy_28 : decode prog_10_method_13_code 28 = .ok (.iload_n 2, 1) := by decide +kernel
theorem d_Node_sendCopy_29 : decode prog_10_method_13_code 29 = .ok (.ifCond .eq 9, 3) := by decide +kernel
theorem d_Node_sendCopy_32 : decode prog_10_method_13_code 32 = .ok (.getstatic 133, 3) := by decide +kernel
theorem d_Node_sendCopy_35 : decode prog_10_method_13_code 35 = .ok (.goto 6, 3) := by decide +kernel
theorem d_Node_sendCopy_38 : decode prog_10_method_13_code 38 = .ok (.getstatic 263, 3) := by decide +kernel
theorem d_Node_sendCopy_41 : decode prog_10_method_13_code 41 = .ok (.astore_n 3, 1) := by decide +kernel
theorem d_Node_sendCopy_42 : decode prog_10_method_13_code 42 = .ok (.aload_n 0, 1) := by decide +kernel
theorem d_Node_sendCopy_43 : decode prog_10_method_13_code 43 = .ok (.getfield 33, 3) := by decide +kernel
theorem d_Node_sendCopy_46 : decode prog_10_method_13_code 46 = .ok (.aload_n 3, 1) := by decide +kernel
theorem d_Node_sendCopy_47 : decode prog_10_method_13_code 47 = .ok (.aload_n 0, 1) := by decide +kernel
theorem d_Node_sendCopy_48 : decode prog_10_method_13_code 48 = .ok (.getfield 25, 3) := by decide +kernel
theorem d_Node_sendCopy_51 : decode prog_10_method_13_code 51 = .ok (.iload_n 1, 1) := by decide +kernel
theorem d_Node_sendCopy_52 : decode prog_10_method_13_code 52 = .ok (.aload_n 0, 1) := by decide +kernel
theorem d_Node_sendCopy_53 : decode prog_10_method_13_code 53 = .ok (.getfield 12, 3) := by decide +kernel
theorem d_Node_sendCopy_56 : decode prog_10_method_13_code 56 = .ok (.getfield 103, 3) := by decide +kernel
theorem d_Node_sendCopy_59 : decode prog_10_method_13_code 59 = .ok (.invokevirtual 136, 3) := by decide +kernel
theorem d_Node_sendCopy_62 : decode prog_10_method_13_code 62 = .ok (.getfield 142, 3) := by decide +kernel
theorem d_Node_sendCopy_65 : decode prog_10_method_13_code 65 = .ok (.aload_n 0, 1) := by decide +kernel
theorem d_Node_sendCopy_66 : decode prog_10_method_13_code 66 = .ok (.getfield 12, 3) := by decide +kernel
theorem d_Node_sendCopy_69 : decode prog_10_method_13_code 69 = .ok (.getfield 146, 3) := by decide +kernel
theorem d_Node_sendCopy_72 : decode prog_10_method_13_code 72 = .ok (.iload_n 2, 1) := by decide +kernel
theorem d_Node_sendCopy_73 : decode prog_10_method_13_code 73 = .ok (.invokevirtual 147, 3) := by decide +kernel
theorem d_Node_sendCopy_76 : decode prog_10_method_13_code 76 = .ok (.return_, 1) := by decide +kernel
theorem d_VG_crash_0 : decode prog_1_method_8_code 0 = .ok (.aload_n 0, 1) := by decide +kernel
theorem d_VG_crash_1 : decode prog_1_method_8_code 1 = .ok (.iload_n 1, 1) := by decide +kernel
theorem d_VG_crash_2 : decode prog_1_method_8_code 2 = .ok (.invokevirtual 102, 3) := by decide +kernel
theorem d_VG_crash_5 : decode prog_1_method_8_code 5 = .ok (.ifCond .eq 15, 3) := by decide +kernel
theorem d_VG_crash_8 : decode prog_1_method_8_code 8 = .ok (.aload_n 0, 1) := by decide +kernel
theorem d_VG_crash_9 : decode prog_1_method_8_code 9 = .ok (.getfield 54, 3) := by decide +kernel
theorem d_VG_crash_12 : decode prog_1_method_8_code 12 = .ok (.iload_n 1, 1) := by decide +kernel
theorem d_VG_crash_13 : decode prog_1_method_8_code 13 = .ok (.aaload, 1) := by decide +kernel
theorem d_VG_crash_14 : decode prog_1_method_8_code 14 = .ok (.getfield 105, 3) := by decide +kernel
theorem d_VG_crash_17 : decode prog_1_method_8_code 17 = .ok (.ifCond .ne 5, 3) := by decide +kernel
theorem d_VG_crash_20 : decode prog_1_method_8_code 20 = .ok (.iconst 0, 1) := by decide +kernel
theorem d_VG_crash_21 : decode prog_1_method_8_code 21 = .ok (.ireturn, 1) := by decide +kernel
theorem d_VG_crash_22 : decode prog_1_method_8_code 22 = .ok (.aload_n 0, 1) := by decide +kernel
theorem d_VG_crash_23 : decode prog_1_method_8_code 23 = .ok (.iconst 0, 1) := by decide +kernel
theorem d_VG_crash_24 : decode prog_1_method_8_code 24 = .ok (.putfield 68, 3) := by decide +kernel
theorem d_VG_crash_27 : decode prog_1_method_8_code 27 = .ok (.aload_n 0, 1) := by decide +kernel
theorem d_VG_crash_28 : decode prog_1_method_8_code 28 = .ok (.getfield 54, 3) := by decide +kernel
theorem d_VG_crash_31 : decode prog_1_method_8_code 31 = .ok (.iload_n 1, 1) := by decide +kernel
theorem d_VG_crash_32 : decode prog_1_method_8_code 32 = .ok (.aaload, 1) := by decide +kernel
theorem d_VG_crash_33 : decode prog_1_method_8_code 33 = .ok (.iload_n 2, 1) := by decide +kernel
theorem d_VG_crash_34 : decode prog_1_method_8_code 34 = .ok (.invokevirtual 108, 3) := by decide +kernel
theorem d_VG_crash_37 : decode prog_1_method_8_code 37 = .ok (.iconst 1, 1) := by decide +kernel
theorem d_VG_crash_38 : decode prog_1_method_8_code 38 = .ok (.ireturn, 1) := by decide +kernel
theorem d_Node_fail_0 : decode prog_10_method_2_code 0 = .ok (.aload_n 0, 1) := by decide +kernel
theorem d_Node_fail_1 : decode prog_10_method_2_code 1 = .ok (.iconst 0, 1) := by decide +kernel
theorem d_Node_fail_2 : decode prog_10_method_2_code 2 = .ok (.putfield 21, 3) := by decide +kernel
theorem d_Node_fail_5 : decode prog_10_method_2_code 5 = .ok (.iload_n 1, 1) := by decide +kernel
theorem d_Node_fail_6 : decode prog_10_method_2_code 6 = .ok (.ifCond .eq 8, 3) := by decide +kernel
theorem d_Node_fail_9 : decode prog_10_method_2_code 9 = .ok (.aload_n 0, 1) := by decide +kernel
theorem d_Node_fail_10 : decode prog_10_method_2_code 10 = .ok (.invokevirtual 70, 3) := by decide +kernel
theorem d_Node_fail_13 : decode prog_10_method_2_code 13 = .ok (.return_, 1) := by decide +kernel
theorem d_Node_fail_14 : decode prog_10_method_2_code 14 = .ok (.aload_n 0, 1) := by decide +kernel
theorem d_Node_fail_15 : decode prog_10_method_2_code 15 = .ok (.getfield 12, 3) := by decide +kernel
theorem d_Node_fail_18 : decode prog_10_method_2_code 18 = .ok (.aload_n 0, 1) := by decide +kernel
theorem d_Node_fail_19 : decode prog_10_method_2_code 19 = .ok (.getfield 18, 3) := by decide +kernel
theorem d_Node_fail_22 : decode prog_10_method_2_code 22 = .ok (.invokevirtual 66, 3) := by decide +kernel
theorem d_Node_fail_25 : decode prog_10_method_2_code 25 = .ok (.aload_n 0, 1) := by decide +kernel
theorem d_Node_fail_26 : decode prog_10_method_2_code 26 = .ok (.getfield 47, 3) := by decide +kernel
theorem d_Node_fail_29 : decode prog_10_method_2_code 29 = .ok (.invokevirtual 73, 3) := by decide +kernel
theorem d_Node_fail_32 : decode prog_10_method_2_code 32 = .ok (.aload_n 0, 1) := by decide +kernel
theorem d_Node_fail_33 : decode prog_10_method_2_code 33 = .ok (.iconst 0, 1) := by decide +kernel
theorem d_Node_fail_34 : decode prog_10_method_2_code 34 = .ok (.putfield 76, 3) := by decide +kernel
theorem d_Node_fail_37 : decode prog_10_method_2_code 37 = .ok (.aload_n 0, 1) := by decide +kernel
theorem d_Node_fail_38 : decode prog_10_method_2_code 38 = .ok (.iconst 0, 1) := by decide +kernel
theorem d_Node_fail_39 : decode prog_10_method_2_code 39 = .ok (.putfield 79, 3) := by decide +kernel
theorem d_Node_fail_42 : decode prog_10_method_2_code 42 = .ok (.aload_n 0, 1) := by decide +kernel
theorem d_Node_fail_43 : decode prog_10_method_2_code 43 = .ok (.iconst 0, 1) := by decide +kernel
theorem d_Node_fail_44 : decode prog_10_method_2_code 44 = .ok (.putfield 82, 3) := by decide +kernel
theorem d_Node_fail_47 : decode prog_10_method_2_code 47 = .ok (.return_, 1) := by decide +kernel
theorem d_VG_restart_0 : decode prog_1_method_9_code 0 = .ok (.aload_n 0, 1) := by decide +kernel
theorem d_VG_restart_1 : decode prog_1_method_9_code 1 = .ok (.iload_n 1, 1) := by decide +kernel
theorem d_VG_restart_2 : decode prog_1_method_9_code 2 = .ok (.invokevirtual 102, 3) := by decide +kernel
theorem d_VG_restart_5 : decode prog_1_method_9_code 5 = .ok (.ifCond .eq 15, 3) := by decide +kernel
theorem d_VG_restart_8 : decode prog_1_method_9_code 8 = .ok (.aload_n 0, 1) := by decide +kernel
theorem d_VG_restart_9 : decode prog_1_method_9_code 9 = .ok (.getfield 54, 3) := by decide +kernel
theorem d_VG_restart_12 : decode prog_1_method_9_code 12 = .ok (.iload_n 1, 1) := by decide +kernel
theorem d_VG_restart_13 : decode prog_1_method_9_code 13 = .ok (.aaload, 1) := by decide +kernel
theorem d_VG_restart_14 : decode prog_1_method_9_code 14 = .ok (.getfield 105, 3) := by decide +kernel
theorem d_VG_restart_17 : decode prog_1_method_9_code 17 = .ok (.ifCond .eq 5, 3) := by decide +kernel
theorem d_VG_restart_20 : decode prog_1_method_9_code 20 = .ok (.iconst 0, 1) := by decide +kernel
theorem d_VG_restart_21 : decode prog_1_method_9_code 21 = .ok (.ireturn, 1) := by decide +kernel
theorem d_VG_restart_22 : decode prog_1_method_9_code 22 = .ok (.aload_n 0, 1) := by decide +kernel
theorem d_VG_restart_23 : decode prog_1_method_9_code 23 = .ok (.iconst 0, 1) := by decide +kernel
theorem d_VG_restart_24 : decode prog_1_method_9_code 24 = .ok (.putfield 68, 3) := by decide +kernel
theorem d_VG_restart_27 : decode prog_1_method_9_code 27 = .ok (.aload_n 0, 1) := by decide +kernel
theorem d_VG_restart_28 : decode prog_1_method_9_code 28 = .ok (.getfield 54, 3) := by decide +kernel
theorem d_VG_restart_31 : decode prog_1_method_9_code 31 = .ok (.iload_n 1, 1) := by decide +kernel
theorem d_VG_restart_32 : decode prog_1_method_9_code 32 = .ok (.aaload, 1) := by decide +kernel
theorem d_VG_restart_33 : decode prog_1_method_9_code 33 = .ok (.iconst 1, 1) := by decide +kernel
theorem d_VG_restart_34 : decode prog_1_method_9_code 34 = .ok (.putfield 105, 3) := by decide +kernel
theorem d_VG_restart_37 : decode prog_1_method_9_code 37 = .ok (.iconst 1, 1) := by decide +kernel
theorem d_VG_restart_38 : decode prog_1_method_9_code 38 = .ok (.ireturn, 1) := by decide +kernel
theorem d_VG_map_0 : decode prog_1_method_10_code 0 = .ok (.aload_n 0, 1) := by decide +kernel
theorem d_VG_map_1 : decode prog_1_method_10_code 1 = .ok (.iconst 0, 1) := by decide +kernel
theorem d_VG_map_2 : decode prog_1_method_10_code 2 = .ok (.putfield 68, 3) := by decide +kernel
theorem d_VG_map_5 : decode prog_1_method_10_code 5 = .ok (.aload_n 0, 1) := by decide +kernel
theorem d_VG_map_6 : decode prog_1_method_10_code 6 = .ok (.getfield 35, 3) := by decide +kernel
theorem d_VG_map_9 : decode prog_1_method_10_code 9 = .ok (.iload_n 1, 1) := by decide +kernel
theorem d_VG_map_10 : decode prog_1_method_10_code 10 = .ok (.invokevirtual 112, 3) := by decide +kernel
theorem d_VG_map_13 : decode prog_1_method_10_code 13 = .ok (.aload_n 0, 1) := by decide +kernel
theorem d_VG_map_14 : decode prog_1_method_10_code 14 = .ok (.getfield 35, 3) := by decide +kernel
theorem d_VG_map_17 : decode prog_1_method_10_code 17 = .ok (.invokevirtual 115, 3) := by decide +kernel
theorem d_VG_map_20 : decode prog_1_method_10_code 20 = .ok (.aload_n 0, 1) := by decide +kernel
theorem d_VG_map_21 : decode prog_1_method_10_code 21 = .ok (.getfield 35, 3) := by decide +kernel
theorem d_VG_map_24 : decode prog_1_method_10_code 24 = .ok (.getfield 79, 3) := by decide +kernel
theorem d_VG_map_27 : decode prog_1_method_10_code 27 = .ok (.ireturn, 1) := by decide +kernel
theorem d_MapKeeper_renew_0 : decode prog_7_method_2_code 0 = .ok (.aload_n 0, 1) := by decide +kernel
theorem d_MapKeeper_renew_1 : decode prog_7_method_2_code 1 = .ok (.dup, 1) := by decide +kernel
theorem d_MapKeeper_renew_2 : decode prog_7_method_2_code 2 = .ok (.getfield 9, 3) := by decide +kernel
theorem d_MapKeeper_renew_5 : decode prog_7_method_2_code 5 = .ok (.iconst 1, 1) := by decide +kernel
theorem d_MapKeeper_renew_6 : decode prog_7_method_2_code 6 = .ok (.iadd, 1) := by decide +kernel
theorem d_MapKeeper_renew_7 : decode prog_7_method_2_code 7 = .ok (.putfield 9, 3) := by decide +kernel
theorem d_MapKeeper_renew_10 : decode prog_7_method_2_code 10 = .ok (.aload_n 0, 1) := by decide +kernel
theorem d_MapKeeper_renew_11 : decode prog_7_method_2_code 11 = .ok (.iload_n 1, 1) := by decide +kernel
theorem d_MapKeeper_renew_12 : decode prog_7_method_2_code 12 = .ok (.aload_n 0, 1) := by decide +kernel
theorem d_MapKeeper_renew_13 : decode prog_7_method_2_code 13 = .ok (.getfield 15, 3) := by decide +kernel
theorem d_MapKeeper_renew_16 : decode prog_7_method_2_code 16 = .ok (.invokevirtual 23, 3) := by decide +kernel
theorem d_MapKeeper_renew_19 : decode prog_7_method_2_code 19 = .ok (.iand, 1) := by decide +kernel
theorem d_MapKeeper_renew_20 : decode prog_7_method_2_code 20 = .ok (.putfield 29, 3) := by decide +kernel
theorem d_MapKeeper_renew_23 : decode prog_7_method_2_code 23 = .ok (.aload_n 0, 1) := by decide +kernel
theorem d_MapKeeper_renew_24 : decode prog_7_method_2_code 24 = .ok (.aload_n 0, 1) := by decide +kernel
theorem d_MapKeeper_renew_25 : decode prog_7_method_2_code 25 = .ok (.getfield 15, 3) := by decide +kernel
theorem d_MapKeeper_renew_28 : decode prog_7_method_2_code 28 = .ok (.aload_n 0, 1) := by decide +kernel
theorem d_MapKeeper_renew_29 : decode prog_7_method_2_code 29 = .ok (.getfield 15, 3) := by decide +kernel
theorem d_MapKeeper_renew_32 : decode prog_7_method_2_code 32 = .ok (.aload_n 0, 1) := by decide +kernel
theorem d_MapKeeper_renew_33 : decode prog_7_method_2_code 33 = .ok (.getfield 29, 3) := by decide +kernel
theorem d_MapKeeper_renew_36 : decode prog_7_method_2_code 36 = .ok (.invokevirtual 46, 3) := by decide +kernel
theorem d_MapKeeper_renew_39 : decode prog_7_method_2_code 39 = .ok (.invokevirtual 32, 3) := by decide +kernel
theorem d_MapKeeper_renew_42 : decode prog_7_method_2_code 42 = .ok (.putfield 36, 3) := by decide +kernel
theorem d_MapKeeper_renew_45 : decode prog_7_method_2_code 45 = .ok (.return_, 1) := by decide +kernel
theorem d_VG_settle_0 : decode prog_1_method_11_code 0 = .ok (.aload_n 0, 1) := by decide +kernel
theorem d_VG_settle_1 : decode prog_1_method_11_code 1 = .ok (.getfield 44, 3) := by decide +kernel
theorem d_VG_settle_4 : decode prog_1_method_11_code 4 = .ok (.invokevirtual 118, 3) := by decide +kernel
theorem d_VG_settle_7 : decode prog_1_method_11_code 7 = .ok (.istore_n 1, 1) := by decide +kernel
theorem d_VG_settle_8 : decode prog_1_method_11_code 8 = .ok (.aload_n 0, 1) := by decide +kernel
theorem d_VG_settle_9 : decode prog_1_method_11_code 9 = .ok (.iconst 0, 1) := by decide +kernel
theorem d_VG_settle_10 : decode prog_1_method_11_code 10 = .ok (.putfield 68, 3) := by decide +kernel
theorem d_VG_settle_13 : decode prog_1_method_11_code 13 = .ok (.iconst 0, 1) := by decide +kernel
theorem d_VG_settle_14 : decode prog_1_method_11_code 14 = .ok (.istore_n 2, 1) := by decide +kernel
theorem d_VG_settle_15 : decode prog_1_method_11_code 15 = .ok (.iload_n 2, 1) := by decide +kernel
theorem d_VG_settle_16 : decode prog_1_method_11_code 16 = .ok (.aload_n 0, 1) := by decide +kernel
theorem d_VG_settle_17 : decode prog_1_method_11_code 17 = .ok (.getfield 54, 3) := by decide +kernel
theorem d_VG_settle_20 : decode prog_1_method_11_code 20 = .ok (.arraylength, 1) := by decide +kernel
theorem d_VG_settle_21 : decode prog_1_method_11_code 21 = .ok (.if_icmp .ge 19, 3) := by decide +kernel
theorem d_VG_settle_24 : decode prog_1_method_11_code 24 = .ok (.aload_n 0, 1) := by decide +kernel
theorem d_VG_settle_25 : decode prog_1_method_11_code 25 = .ok (.getfield 54, 3) := by decide +kernel
theorem d_VG_settle_28 : decode prog_1_method_11_code 28 = .ok (.iload_n 2, 1) := by decide +kernel
theorem d_VG_settle_29 : decode prog_1_method_11_code 29 = .ok (.aaload, 1) := by decide +kernel
theorem d_VG_settle_30 : decode prog_1_method_11_code 30 = .ok (.iconst 1, 1) := by decide +kernel
theorem d_VG_settle_31 : decode prog_1_method_11_code 31 = .ok (.putfield 105, 3) := by decide +kernel
theorem d_VG_settle_34 : decode prog_1_method_11_code 34 = .ok (.iinc 2 1, 3) := by decide +kernel
theorem d_VG_settle_37 : decode prog_1_method_11_code 37 = .ok (.goto (-22), 3) := by decide +kernel
theorem d_VG_settle_40 : decode prog_1_method_11_code 40 = .ok (.aload_n 0, 1) := by decide +kernel
theorem d_VG_settle_41 : decode prog_1_method_11_code 41 = .ok (.getfield 35, 3) := by decide +kernel
theorem d_VG_settle_44 : decode prog_1_method_11_code 44 = .ok (.iconst (-1), 1) := by decide +kernel
theorem d_VG_settle_45 : decode prog_1_method_11_code 45 = .ok (.invokevirtual 112, 3) := by decide +kernel
theorem d_VG_settle_48 : decode prog_1_method_11_code 48 = .ok (.aload_n 0, 1) := by decide +kernel
theorem d_VG_settle_49 : decode prog_1_method_11_code 49 = .ok (.getfield 35, 3) := by decide +kernel
theorem d_VG_settle_52 : decode prog_1_method_11_code 52 = .ok (.invokevirtual 115, 3) := by decide +kernel
theorem d_VG_settle_55 : decode prog_1_method_11_code 55 = .ok (.iconst 0, 1) := by decide +kernel
theorem d_VG_settle_56 : decode prog_1_method_11_code 56 = .ok (.istore_n 2, 1) := by decide +kernel
theorem d_VG_settle_57 : decode prog_1_method_11_code 57 = .ok (.iload_n 2, 1) := by decide +kernel
theorem d_VG_settle_58 : decode prog_1_method_11_code 58 = .ok (.sipush 1000, 3) := by decide +kernel
theorem d_VG_settle_61 : decode prog_1_method_11_code 61 = .ok (.if_icmp .ge 51, 3) := by decide +kernel
theorem d_VG_settle_64 : decode prog_1_method_11_code 64 = .ok (.aload_n 0, 1) := by decide +kernel
theorem d_VG_settle_65 : decode prog_1_method_11_code 65 = .ok (.invokevirtual 122, 3) := by decide +kernel
theorem d_VG_settle_68 : decode prog_1_method_11_code 68 = .ok (.aload_n 0, 1) := by decide +kernel
theorem d_VG_settle_69 : decode prog_1_method_11_code 69 = .ok (.invokevirtual 99, 3) := by decide +kernel
theorem d_VG_settle_72 : decode prog_1_method_11_code 72 = .ok (.aload_n 0, 1) := by decide +kernel
theorem d_VG_settle_73 : decode prog_1_method_11_code 73 = .ok (.getfield 24, 3) := by decide +kernel
theorem d_VG_settle_76 : decode prog_1_method_11_code 76 = .ok (.getfield 125, 3) := by decide +kernel
theorem d_VG_settle_79 : decode prog_1_method_11_code 79 = .ok (.ifCond .ne 27, 3) := by decide +kernel
theorem d_VG_settle_82 : decode prog_1_method_11_code 82 = .ok (.aload_n 0, 1) := by decide +kernel
theorem d_VG_settle_83 : decode prog_1_method_11_code 83 = .ok (.getfield 44, 3) := by decide +kernel
theorem d_VG_settle_86 : decode prog_1_method_11_code 86 = .ok (.invokevirtual 128, 3) := by decide +kernel
theorem d_VG_settle_89 : decode prog_1_method_11_code 89 = .ok (.ifCond .eq 17, 3) := by decide +kernel
theorem d_VG_settle_92 : decode prog_1_method_11_code 92 = .ok (.aload_n 0, 1) := by decide +kernel
theorem d_VG_settle_93 : decode prog_1_method_11_code 93 = .ok (.getfield 44, 3) := by decide +kernel
theorem d_VG_settle_96 : decode prog_1_method_11_code 96 = .ok (.invokevirtual 131, 3) := by decide +kernel
theorem d_VG_settle_99 : decode prog_1_method_11_code 99 = .ok (.aload_n 0, 1) := by decide +kernel
theorem d_VG_settle_100 : decode prog_1_method_11_code 100 = .ok (.iconst 1, 1) := by decide +kernel
theorem d_VG_settle_101 : decode prog_1_method_11_code 101 = .ok (.putfield 68, 3) := by decide +kernel
theorem d_VG_settle_104 : decode prog_1_method_11_code 104 = .ok (.iload_n 1, 1) := by decide +kernel
theorem d_VG_settle_105 : decode prog_1_method_11_code 105 = .ok (.ireturn, 1) := by decide +kernel
theorem d_VG_settle_106 : decode prog_1_method_11_code 106 = .ok (.iinc 2 1, 3) := by decide +kernel
theorem d_VG_settle_109 : decode prog_1_method_11_code 109 = .ok (.goto (-52), 3) := by decide +kernel
theorem d_VG_settle_112 : decode prog_1_method_11_code 112 = .ok (.bipush (-4), 2) := by decide +kernel
theorem d_VG_settle_114 : decode prog_1_method_11_code 114 = .ok (.ireturn, 1) := by decide +kernel
theorem d_VG_bringAll_0 : decode prog_1_method_21_code 0 = .ok (.iconst 0, 1) := by decide +kernel
theorem d_VG_bringAll_1 : decode prog_1_method_21_code 1 = .ok (.istore_n 1, 1) := by decide +kernel
theorem d_VG_bringAll_2 : decode prog_1_method_21_code 2 = .ok (.iload_n 1, 1) := by decide +kernel
theorem d_VG_bringAll_3 : decode prog_1_method_21_code 3 = .ok (.ldc 194, 2) := by decide +kernel
theorem d_VG_bringAll_5 : decode prog_1_method_21_code 5 = .ok (.if_icmp .ge 39, 3) := by decide +kernel
theorem d_VG_bringAll_8 : decode prog_1_method_21_code 8 = .ok (.aload_n 0, 1) := by decide +kernel
theorem d_VG_bringAll_9 : decode prog_1_method_21_code 9 = .ok (.getfield 24, 3) := by decide +kernel
theorem d_VG_bringAll_12 : decode prog_1_method_21_code 12 = .ok (.getfield 125, 3) := by decide +kernel
theorem d_VG_bringAll_15 : decode prog_1_method_21_code 15 = .ok (.ifCond .le 29, 3) := by decide +kernel
theorem d_VG_bringAll_18 : decode prog_1_method_21_code 18 = .ok (.aload_n 0, 1) := by decide +kernel
theorem d_VG_bringAll_19 : decode prog_1_method_21_code 19 = .ok (.aload_n 0, 1) := by decide +kernel
theorem d_VG_bringAll_20 : decode prog_1_method_21_code 20 = .ok (.getfield 24, 3) := by decide +kernel
theorem d_VG_bringAll_23 : decode prog_1_method_21_code 23 = .ok (.iconst 0, 1) := by decide +kernel
theorem d_VG_bringAll_24 : decode prog_1_method_21_code 24 = .ok (.invokevirtual 183, 3) := by decide +kernel
theorem d_VG_bringAll_27 : decode prog_1_method_21_code 27 = .ok (.invokevirtual 187, 3) := by decide +kernel
theorem d_VG_bringAll_30 : decode prog_1_method_21_code 30 = .ok (.aload_n 0, 1) := by decide +kernel
theorem d_VG_bringAll_31 : decode prog_1_method_21_code 31 = .ok (.getfield 24, 3) := by decide +kernel
theorem d_VG_bringAll_34 : decode prog_1_method_21_code 34 = .ok (.iconst 0, 1) := by decide +kernel
theorem d_VG_bringAll_35 : decode prog_1_method_21_code 35 = .ok (.invokevirtual 191, 3) := by decide +kernel
theorem d_VG_bringAll_38 : decode prog_1_method_21_code 38 = .ok (.iinc 1 1, 3) := by decide +kernel
theorem d_VG_bringAll_41 : decode prog_1_method_21_code 41 = .ok (.goto (-39), 3) := by decide +kernel
theorem d_VG_bringAll_44 : decode prog_1_method_21_code 44 = .ok (.return_, 1) := by decide +kernel
theorem d_Desk_hasAllAnswers_0 : decode prog_5_method_8_code 0 = .ok (.aload_n 0, 1) := by decide +kernel
theorem d_Desk_hasAllAnswers_1 : decode prog_5_method_8_code 1 = .ok (.getfield 33, 3) := by decide +kernel
theorem d_Desk_hasAllAnswers_4 : decode prog_5_method_8_code 4 = .ok (.istore_n 1, 1) := by decide +kernel
theorem d_Desk_hasAllAnswers_5 : decode prog_5_method_8_code 5 = .ok (.iload_n 1, 1) := by decide +kernel
theorem d_Desk_hasAllAnswers_6 : decode prog_5_method_8_code 6 = .ok (.aload_n 0, 1) := by decide +kernel
theorem d_Desk_hasAllAnswers_7 : decode prog_5_method_8_code 7 = .ok (.getfield 29, 3) := by decide +kernel
theorem d_Desk_hasAllAnswers_10 : decode prog_5_method_8_code 10 = .ok (.if_icmp .ge 23, 3) := by decide +kernel
theorem d_Desk_hasAllAnswers_13 : decode prog_5_method_8_code 13 = .ok (.aload_n 0, 1) := by decide +kernel
theorem d_Desk_hasAllAnswers_14 : decode prog_5_method_8_code 14 = .ok (.getfield 17, 3) := by decide +kernel
theorem d_Desk_hasAllAnswers_17 : decode prog_5_method_8_code 17 = .ok (.iload_n 1, 1) := by decide +kernel
theorem d_Desk_hasAllAnswers_18 : decode prog_5_method_8_code 18 = .ok (.bipush 8, 2) := by decide +kernel
theorem d_Desk_hasAllAnswers_20 : decode prog_5_method_8_code 20 = .ok (.irem, 1) := by decide +kernel
theorem d_Desk_hasAllAnswers_21 : decode prog_5_method_8_code 21 = .ok (.baload, 1) := by decide +kernel
theorem d_Desk_hasAllAnswers_22 : decode prog_5_method_8_code 22 = .ok (.ifCond .ne 5, 3) := by decide +kernel
theorem d_Desk_hasAllAnswers_25 : decode prog_5_method_8_code 25 = .ok (.iconst 0, 1) := by decide +kernel
theorem d_Desk_hasAllAnswers_26 : decode prog_5_method_8_code 26 = .ok (.ireturn, 1) := by decide +kernel
theorem d_Desk_hasAllAnswers_27 : decode prog_5_method_8_code 27 = .ok (.iinc 1 1, 3) := by decide +kernel
theorem d_Desk_hasAllAnswers_30 : decode prog_5_method_8_code 30 = .ok (.goto (-25), 3) := by decide +kernel
theorem d_Desk_hasAllAnswers_33 : decode prog_5_method_8_code 33 = .ok (.iconst 1, 1) := by decide +kernel
theorem d_Desk_hasAllAnswers_34 : decode prog_5_method_8_code 34 = .ok (.ireturn, 1) := by decide +kernel
theorem d_Desk_tellAnswers_0 : decode prog_5_method_9_code 0 = .ok (.aload_n 0, 1) := by decide +kernel
theorem d_Desk_tellAnswers_1 : decode prog_5_method_9_code 1 = .ok (.aload_n 0, 1) := by decide +kernel
theorem d_Desk_tellAnswers_2 : decode prog_5_method_9_code 2 = .ok (.getfield 29, 3) := by decide +kernel
theorem d_Desk_tellAnswers_5 : decode prog_5_method_9_code 5 = .ok (.putfield 33, 3) := by decide +kernel
theorem d_Desk_tellAnswers_8 : decode prog_5_method_9_code 8 = .ok (.return_, 1) := by decide +kernel
theorem d_VG_answer_0 : decode prog_1_method_12_code 0 = .ok (.iload_n 1, 1) := by decide +kernel
theorem d_VG_answer_1 : decode prog_1_method_12_code 1 = .ok (.ifCond .lt 14, 3) := by decide +kernel
theorem d_VG_answer_4 : decode prog_1_method_12_code 4 = .ok (.iload_n 1, 1) := by decide +kernel
theorem d_VG_answer_5 : decode prog_1_method_12_code 5 = .ok (.aload_n 0, 1) := by decide +kernel
theorem d_VG_answer_6 : decode prog_1_method_12_code 6 = .ok (.getfield 44, 3) := by decide +kernel
theorem d_VG_answer_9 : decode prog_1_method_12_code 9 = .ok (.getfield 134, 3) := by decide +kernel
theorem d_VG_answer_12 : decode prog_1_method_12_code 12 = .ok (.if_icmp .lt 7, 3) := by decide +kernel
theorem d_VG_answer_15 : decode prog_1_method_12_code 15 = .ok (.ldc2_w 137, 3) := by decide +kernel
theorem d_VG_answer_18 : decode prog_1_method_12_code 18 = .ok (.lreturn, 1) := by decide +kernel
theorem d_VG_answer_19 : decode prog_1_method_12_code 19 = .ok (.iload_n 1, 1) := by decide +kernel
theorem d_VG_answer_20 : decode prog_1_method_12_code 20 = .ok (.aload_n 0, 1) := by decide +kernel
theorem d_VG_answer_21 : decode prog_1_method_12_code 21 = .ok (.getfield 44, 3) := by decide +kernel
theorem d_VG_answer_24 : decode prog_1_method_12_code 24 = .ok (.getfield 139, 3) := by decide +kernel
theorem d_VG_answer_27 : decode prog_1_method_12_code 27 = .ok (.if_icmp .ge 16, 3) := by decide +kernel
theorem d_VG_answer_30 : decode prog_1_method_12_code 30 = .ok (.aload_n 0, 1) := by decide +kernel
theorem d_VG_answer_31 : decode prog_1_method_12_code 31 = .ok (.getfield 44, 3) := by decide +kernel
theorem d_VG_answer_34 : decode prog_1_method_12_code 34 = .ok (.getfield 142, 3) := by decide +kernel
theorem d_VG_answer_37 : decode prog_1_method_12_code 37 = .ok (.iload_n 1, 1) := by decide +kernel
theorem d_VG_answer_38 : decode prog_1_method_12_code 38 = .ok (.iaload, 1) := by decide +kernel
theorem d_VG_answer_39 : decode prog_1_method_12_code 39 = .ok (.i2l, 1) := by decide +kernel
theorem d_VG_answer_40 : decode prog_1_method_12_code 40 = .ok (.goto 6, 3) := by decide +kernel
theorem d_VG_answer_43 : decode prog_1_method_12_code 43 = .ok (.ldc2_w 146, 3) := by decide +kernel
theorem d_VG_answer_46 : decode prog_1_method_12_code 46 = .ok (.lreturn, 1) := by decide +kernel
theorem d_VG_at_0 : decode prog_1_method_13_code 0 = .ok (.aload_n 0, 1) := by decide +kernel
theorem d_VG_at_1 : decode prog_1_method_13_code 1 = .ok (.iload_n 1, 1) := by decide +kernel
theorem d_VG_at_2 : decode prog_1_method_13_code 2 = .ok (.invokevirtual 102, 3) := by decide +kernel
theorem d_VG_at_5 : decode prog_1_method_13_code 5 = .ok (.ifCond .eq 19, 3) := by decide +kernel
theorem d_VG_at_8 : decode prog_1_method_13_code 8 = .ok (.iload_n 2, 1) := by decide +kernel
theorem d_VG_at_9 : decode prog_1_method_13_code 9 = .ok (.invokestatic 60, 3) := by decide +kernel
theorem d_VG_at_12 : decode prog_1_method_13_code 12 = .ok (.ifCond .eq 12, 3) := by decide +kernel
theorem d_VG_at_15 : decode prog_1_method_13_code 15 = .ok (.iload_n 3, 1) := by decide +kernel
theorem d_VG_at_16 : decode prog_1_method_13_code 16 = .ok (.ifCond .lt 8, 3) := by decide +kernel
theorem d_VG_at_19 : decode prog_1_method_13_code 19 = .ok (.iload_n 3, 1) := by decide +kernel
theorem d_VG_at_20 : decode prog_1_method_13_code 20 = .ok (.iconst 1, 1) := by decide +kernel
theorem d_VG_at_21 : decode prog_1_method_13_code 21 = .ok (.if_icmp .le 7, 3) := by decide +kernel
theorem d_VG_at_24 : decode prog_1_method_13_code 24 = .ok (.ldc2_w 137, 3) := by decide +kernel
theorem d_VG_at_27 : decode prog_1_method_13_code 27 = .ok (.lreturn, 1) := by decide +kernel
theorem d_VG_at_28 : decode prog_1_method_13_code 28 = .ok (.aload_n 0, 1) := by decide +kernel
theorem d_VG_at_29 : decode prog_1_method_13_code 29 = .ok (.getfield 68, 3) := by decide +kernel
theorem d_VG_at_32 : decode prog_1_method_13_code 32 = .ok (.ifCond .ne 7, 3) := by decide +kernel
theorem d_VG_at_35 : decode prog_1_method_13_code 35 = .ok (.ldc2_w 148, 3) := by decide +kernel
theorem d_VG_at_38 : decode prog_1_method_13_code 38 = .ok (.lreturn, 1) := by decide +kernel
theorem d_VG_at_39 : decode prog_1_method_13_code 39 = .ok (.aload_n 0, 1) := by decide +kernel
theorem d_VG_at_40 : decode prog_1_method_13_code 40 = .ok (.getfield 54, 3) := by decide +kernel
theorem d_VG_at_43 : decode prog_1_method_13_code 43 = .ok (.iload_n 1, 1) := by decide +kernel
theorem d_VG_at_44 : decode prog_1_method_13_code 44 = .ok (.aaload, 1) := by decide +kernel
theorem d_VG_at_45 : decode prog_1_method_13_code 45 = .ok (.getfield 150, 3) := by decide +kernel
theorem d_VG_at_48 : decode prog_1_method_13_code 48 = .ok (.getfield 154, 3) := by decide +kernel
theorem d_VG_at_51 : decode prog_1_method_13_code 51 = .ok (.astore 4, 2) := by decide +kernel
theorem d_VG_at_53 : decode prog_1_method_13_code 53 = .ok (.iload_n 3, 1) := by decide +kernel
theorem d_VG_at_54 : decode prog_1_method_13_code 54 = .ok (.ifCond .ne 18, 3) := by decide +kernel
theorem d_VG_at_57 : decode prog_1_method_13_code 57 = .ok (.aload 4, 2) := by decide +kernel
theorem d_VG_at_59 : decode prog_1_method_13_code 59 = .ok (.iload_n 2, 1) := by decide +kernel
theorem d_VG_at_60 : decode prog_1_method_13_code 60 = .ok (.invokevirtual 160, 3) := by decide +kernel
theorem d_VG_at_63 : decode prog_1_method_13_code 63 = .ok (.ifCond .eq 7, 3) := by decide +kernel
theorem d_VG_at_66 : decode prog_1_method_13_code 66 = .ok (.lconst 1, 1) := by decide +kernel
theorem d_VG_at_67 : decode prog_1_method_13_code 67 = .ok (.goto 4, 3) := by decide +kernel
theorem d_VG_at_70 : decode prog_1_method_13_code 70 = .ok (.lconst 0, 1) := by decide +kernel
theorem d_VG_at_71 : decode prog_1_method_13_code 71 = .ok (.lreturn, 1) := by decide +kernel
theorem d_VG_at_72 : decode prog_1_method_13_code 72 = .ok (.aload 4, 2) := by decide +kernel
theorem d_VG_at_74 : decode prog_1_method_13_code 74 = .ok (.getfield 165, 3) := by decide +kernel
theorem d_VG_at_77 : decode prog_1_method_13_code 77 = .ok (.iload_n 2, 1) := by decide +kernel
theorem d_VG_at_78 : decode prog_1_method_13_code 78 = .ok (.iaload, 1) := by decide +kernel
theorem d_VG_at_79 : decode prog_1_method_13_code 79 = .ok (.i2l, 1) := by decide +kernel
theorem d_VG_at_80 : decode prog_1_method_13_code 80 = .ok (.lreturn, 1) := by decide +kernel
theorem d_Copy_has_0 : decode prog_4_method_2_code 0 = .ok (.aload_n 0, 1) := by decide +kernel
theorem d_Copy_has_1 : decode prog_4_method_2_code 1 = .ok (.getfield 24, 3) := by decide +kernel
theorem d_Copy_has_4 : decode prog_4_method_2_code 4 = .ok (.iload_n 1, 1) := by decide +kernel
theorem d_Copy_has_5 : decode prog_4_method_2_code 5 = .ok (.lushr, 1) := by decide +kernel
theorem d_Copy_has_6 : decode prog_4_method_2_code 6 = .ok (.lconst 1, 1) := by decide +kernel
theorem d_Copy_has_7 : decode prog_4_method_2_code 7 = .ok (.land, 1) := by decide +kernel
theorem d_Copy_has_8 : decode prog_4_method_2_code 8 = .ok (.lconst 0, 1) := by decide +kernel
theorem d_Copy_has_9 : decode prog_4_method_2_code 9 = .ok (.lcmp, 1) := by decide +kernel
theorem d_Copy_has_10 : decode prog_4_method_2_code 10 = .ok (.ifCond .eq 7, 3) := by decide +kernel
theorem d_Copy_has_13 : decode prog_4_method_2_code 13 = .ok (.iconst 1, 1) := by decide +kernel
theorem d_Copy_has_14 : decode prog_4_method_2_code 14 = .ok (.goto 4, 3) := by decide +kernel
theorem d_Copy_has_17 : decode prog_4_method_2_code 17 = .ok (.iconst 0, 1) := by decide +kernel
theorem d_Copy_has_18 : decode prog_4_method_2_code 18 = .ok (.ireturn, 1) := by decide +kernel
theorem d_VG_count_0 : decode prog_1_method_14_code 0 = .ok (.iload_n 1, 1) := by decide +kernel
theorem d_VG_count_1 : decode prog_1_method_14_code 1 = .ok (.tableswitch 89 0 5 #[39, 47, 55, 63, 68, 76], 39) := by decide +kernel
theorem d_VG_count_40 : decode prog_1_method_14_code 40 = .ok (.aload_n 0, 1) := by decide +kernel
theorem d_VG_count_41 : decode prog_1_method_14_code 41 = .ok (.getfield 44, 3) := by decide +kernel
theorem d_VG_count_44 : decode prog_1_method_14_code 44 = .ok (.getfield 134, 3) := by decide +kernel
theorem d_VG_count_47 : decode prog_1_method_14_code 47 = .ok (.ireturn, 1) := by decide +kernel
theorem d_VG_count_48 : decode prog_1_method_14_code 48 = .ok (.aload_n 0, 1) := by decide +kernel
theorem d_VG_count_49 : decode prog_1_method_14_code 49 = .ok (.getfield 44, 3) := by decide +kernel
theorem d_VG_count_52 : decode prog_1_method_14_code 52 = .ok (.invokevirtual 118, 3) := by decide +kernel
theorem d_VG_count_55 : decode prog_1_method_14_code 55 = .ok (.ireturn, 1) := by decide +kernel
theorem d_VG_count_56 : decode prog_1_method_14_code 56 = .ok (.aload_n 0, 1) := by decide +kernel
theorem d_VG_count_57 : decode prog_1_method_14_code 57 = .ok (.getfield 35, 3) := by decide +kernel
theorem d_VG_count_60 : decode prog_1_method_14_code 60 = .ok (.getfield 79, 3) := by decide +kernel
theorem d_VG_count_63 : decode prog_1_method_14_code 63 = .ok (.ireturn, 1) := by decide +kernel
theorem d_VG_count_64 : decode prog_1_method_14_code 64 = .ok (.aload_n 0, 1) := by decide +kernel
theorem d_VG_count_65 : decode prog_1_method_14_code 65 = .ok (.invokevirtual 168, 3) := by decide +kernel
theorem d_VG_count_68 : decode prog_1_method_14_code 68 = .ok (.ireturn, 1) := by decide +kernel
theorem d_VG_count_69 : decode prog_1_method_14_code 69 = .ok (.aload_n 0, 1) := by decide +kernel
theorem d_VG_count_70 : decode prog_1_method_14_code 70 = .ok (.getfield 35, 3) := by decide +kernel
theorem d_VG_count_73 : decode prog_1_method_14_code 73 = .ok (.getfield 171, 3) := by decide +kernel
theorem d_VG_count_76 : decode prog_1_method_14_code 76 = .ok (.ireturn, 1) := by decide +kernel
theorem d_VG_count_77 : decode prog_1_method_14_code 77 = .ok (.aload_n 0, 1) := by decide +kernel
theorem d_VG_count_78 : decode prog_1_method_14_code 78 = .ok (.getfield 68, 3) := by decide +kernel
theorem d_VG_count_81 : decode prog_1_method_14_code 81 = .ok (.ifCond .eq 7, 3) := by decide +kernel
theorem d_VG_count_84 : decode prog_1_method_14_code 84 = .ok (.iconst 1, 1) := by decide +kernel
theorem d_VG_count_85 : decode prog_1_method_14_code 85 = .ok (.goto 4, 3) := by decide +kernel
theorem d_VG_count_88 : decode prog_1_method_14_code 88 = .ok (.iconst 0, 1) := by decide +kernel
theorem d_VG_count_89 : decode prog_1_method_14_code 89 = .ok (.ireturn, 1) := by decide +kernel
theorem d_VG_count_90 : decode prog_1_method_14_code 90 = .ok (.iconst (-1), 1) := by decide +kernel
theorem d_VG_count_91 : decode prog_1_method_14_code 91 = .ok (.ireturn, 1) := by decide +kernel
theorem d_VG_nodesUp_0 : decode prog_1_method_17_code 0 = .ok (.iconst 0, 1) := by decide +kernel
theorem d_VG_nodesUp_1 : decode prog_1_method_17_code 1 = .ok (.istore_n 1, 1) := by decide +kernel
theorem d_VG_nodesUp_2 : decode prog_1_method_17_code 2 = .ok (.iconst 0, 1) := by decide +kernel
theorem d_VG_nodesUp_3 : decode prog_1_method_17_code 3 = .ok (.istore_n 2, 1) := by decide +kernel
theorem d_VG_nodesUp_4 : decode prog_1_method_17_code 4 = .ok (.iload_n 2, 1) := by decide +kernel
theorem d_VG_nodesUp_5 : decode prog_1_method_17_code 5 = .ok (.aload_n 0, 1) := by decide +kernel
theorem d_VG_nodesUp_6 : decode prog_1_method_17_code 6 = .ok (.getfield 54, 3) := by decide +kernel
theorem d_VG_nodesUp_9 : decode prog_1_method_17_code 9 = .ok (.arraylength, 1) := by decide +kernel
theorem d_VG_nodesUp_10 : decode prog_1_method_17_code 10 = .ok (.if_icmp .ge 24, 3) := by decide +kernel
theorem d_VG_nodesUp_13 : decode prog_1_method_17_code 13 = .ok (.aload_n 0, 1) := by decide +kernel
theorem d_VG_nodesUp_14 : decode prog_1_method_17_code 14 = .ok (.getfield 54, 3) := by decide +kernel
theorem d_VG_nodesUp_17 : decode prog_1_method_17_code 17 = .ok (.iload_n 2, 1) := by decide +kernel
theorem d_VG_nodesUp_18 : decode prog_1_method_17_code 18 = .ok (.aaload, 1) := by decide +kernel
theorem d_VG_nodesUp_19 : decode prog_1_method_17_code 19 = .ok (.getfield 105, 3) := by decide +kernel
theorem d_VG_nodesUp_22 : decode prog_1_method_17_code 22 = .ok (.ifCond .eq 6, 3) := by decide +kernel
theorem d_VG_nodesUp_25 : decode prog_1_method_17_code 25 = .ok (.iinc 1 1, 3) := by decide +kernel
theorem d_VG_nodesUp_28 : decode prog_1_method_17_code 28 = .ok (.iinc 2 1, 3) := by decide +kernel
theorem d_VG_nodesUp_31 : decode prog_1_method_17_code 31 = .ok (.goto (-27), 3) := by decide +kernel
theorem d_VG_nodesUp_34 : decode prog_1_method_17_code 34 = .ok (.iload_n 1, 1) := by decide +kernel
theorem d_VG_nodesUp_35 : decode prog_1_method_17_code 35 = .ok (.ireturn, 1) := by decide +kernel
theorem d_Mod_init_0 : decode prog_15_method_1_code 0 = .ok (.aload_n 0, 1) := by decide +kernel
theorem d_Mod_init_1 : decode prog_15_method_1_code 1 = .ok (.invokespecial 1, 3) := by decide +kernel
theorem d_Mod_init_4 : decode prog_15_method_1_code 4 = .ok (.aload_n 0, 1) := by decide +kernel
theorem d_Mod_init_5 : decode prog_15_method_1_code 5 = .ok (.bipush 40, 2) := by decide +kernel
theorem d_Mod_init_7 : decode prog_15_method_1_code 7 = .ok (.newarray .int, 2) := by decide +kernel
theorem d_Mod_init_9 : decode prog_15_method_1_code 9 = .ok (.putfield 7, 3) := by decide +kernel
theorem d_Mod_init_12 : decode prog_15_method_1_code 12 = .ok (.aload_n 0, 1) := by decide +kernel
theorem d_Mod_init_13 : decode prog_15_method_1_code 13 = .ok (.bipush 40, 2) := by decide +kernel
theorem d_Mod_init_15 : decode prog_15_method_1_code 15 = .ok (.newarray .boolean, 2) := by decide +kernel
theorem d_Mod_init_17 : decode prog_15_method_1_code 17 = .ok (.putfield 13, 3) := by decide +kernel
theorem d_Mod_init_20 : decode prog_15_method_1_code 20 = .ok (.aload_n 0, 1) := by decide +kernel
theorem d_Mod_init_21 : decode prog_15_method_1_code 21 = .ok (.bipush 8, 2) := by decide +kernel
theorem d_Mod_init_23 : decode prog_15_method_1_code 23 = .ok (.newarray .int, 2) := by decide +kernel
theorem d_Mod_init_25 : decode prog_15_method_1_code 25 = .ok (.putfield 17, 3) := by decide +kernel
theorem d_Mod_init_28 : decode prog_15_method_1_code 28 = .ok (.aload_n 0, 1) := by decide +kernel
theorem d_Mod_init_29 : decode prog_15_method_1_code 29 = .ok (.bipush 8, 2) := by decide +kernel
theorem d_Mod_init_31 : decode prog_15_method_1_code 31 = .ok (.newarray .int, 2) := by decide +kernel
theorem d_Mod_init_33 : decode prog_15_method_1_code 33 = .ok (.putfield 20, 3) := by decide +kernel
theorem d_Mod_init_36 : decode prog_15_method_1_code 36 = .ok (.aload_n 0, 1) := by decide +kernel
theorem d_Mod_init_37 : decode prog_15_method_1_code 37 = .ok (.bipush 8, 2) := by decide +kernel
theorem d_Mod_init_39 : decode prog_15_method_1_code 39 = .ok (.newarray .int, 2) := by decide +kernel
theorem d_Mod_init_41 : decode prog_15_method_1_code 41 = .ok (.putfield 23, 3) := by decide +kernel
theorem d_Mod_init_44 : decode prog_15_method_1_code 44 = .ok (.aload_n 0, 1) := by decide +kernel
theorem d_Mod_init_45 : decode prog_15_method_1_code 45 = .ok (.bipush 64, 2) := by decide +kernel
theorem d_Mod_init_47 : decode prog_15_method_1_code 47 = .ok (.newarray .long, 2) := by decide +kernel
theorem d_Mod_init_49 : decode prog_15_method_1_code 49 = .ok (.putfield 26, 3) := by decide +kernel
theorem d_Mod_init_52 : decode prog_15_method_1_code 52 = .ok (.aload_n 0, 1) := by decide +kernel
theorem d_Mod_init_53 : decode prog_15_method_1_code 53 = .ok (.iconst 1, 1) := by decide +kernel
theorem d_Mod_init_54 : decode prog_15_method_1_code 54 = .ok (.putfield 30, 3) := by decide +kernel
theorem d_Mod_init_57 : decode prog_15_method_1_code 57 = .ok (.aload_n 0, 1) := by decide +kernel
theorem d_Mod_init_58 : decode prog_15_method_1_code 58 = .ok (.iload_n 1, 1) := by decide +kernel
theorem d_Mod_init_59 : decode prog_15_method_1_code 59 = .ok (.iconst 3, 1) := by decide +kernel
theorem d_Mod_init_60 : decode prog_15_method_1_code 60 = .ok (.if_icmp .ge 7, 3) := by decide +kernel
theorem d_Mod_init_63 : decode prog_15_method_1_code 63 = .ok (.iconst 3, 1) := by decide +kernel
theorem d_Mod_init_64 : decode prog_15_method_1_code 64 = .ok (.goto 15, 3) := by decide +kernel
theorem d_Mod_init_67 : decode prog_15_method_1_code 67 = .ok (.iload_n 1, 1) := by decide +kernel
theorem d_Mod_init_68 : decode prog_15_method_1_code 68 = .ok (.bipush 6, 2) := by decide +kernel
theorem d_Mod_init_70 : decode prog_15_method_1_code 70 = .ok (.if_icmp .le 8, 3) := by decide +kernel
theorem d_Mod_init_73 : decode prog_15_method_1_code 73 = .ok (.bipush 6, 2) := by decide +kernel
theorem d_Mod_init_75 : decode prog_15_method_1_code 75 = .ok (.goto 4, 3) := by decide +kernel
theorem d_Mod_init_78 : decode prog_15_method_1_code 78 = .ok (.iload_n 1, 1) := by decide +kernel
theorem d_Mod_init_79 : decode prog_15_method_1_code 79 = .ok (.putfield 34, 3) := by decide +kernel
theorem d_Mod_init_82 : decode prog_15_method_1_code 82 = .ok (.aload_n 0, 1) := by decide +kernel
theorem d_Mod_init_83 : decode prog_15_method_1_code 83 = .ok (.iload_n 2, 1) := by decide +kernel
theorem d_Mod_init_84 : decode prog_15_method_1_code 84 = .ok (.iconst 2, 1) := by decide +kernel
theorem d_Mod_init_85 : decode prog_15_method_1_code 85 = .ok (.if_icmp .ge 7, 3) := by decide +kernel
theorem d_Mod_init_88 : decode prog_15_method_1_code 88 = .ok (.iconst 2, 1) := by decide +kernel
theorem d_Mod_init_89 : decode prog_15_method_1_code 89 = .ok (.goto 13, 3) := by decide +kernel
theorem d_Mod_init_92 : decode prog_15_method_1_code 92 = .ok (.iload_n 2, 1) := by decide +kernel
theorem d_Mod_init_93 : decode prog_15_method_1_code 93 = .ok (.iconst 3, 1) := by decide +kernel
theorem d_Mod_init_94 : decode prog_15_method_1_code 94 = .ok (.if_icmp .le 7, 3) := by decide +kernel
theorem d_Mod_init_97 : decode prog_15_method_1_code 97 = .ok (.iconst 3, 1) := by decide +kernel
theorem d_Mod_init_98 : decode prog_15_method_1_code 98 = .ok (.goto 4, 3) := by decide +kernel
theorem d_Mod_init_101 : decode prog_15_method_1_code 101 = .ok (.iload_n 2, 1) := by decide +kernel
theorem d_Mod_init_102 : decode prog_15_method_1_code 102 = .ok (.putfield 37, 3) := by decide +kernel
theorem d_Mod_init_105 : decode prog_15_method_1_code 105 = .ok (.aload_n 0, 1) := by decide +kernel
theorem d_Mod_init_106 : decode prog_15_method_1_code 106 = .ok (.iconst 1, 1) := by decide +kernel
theorem d_Mod_init_107 : decode prog_15_method_1_code 107 = .ok (.aload_n 0, 1) := by decide +kernel
theorem d_Mod_init_108 : decode prog_15_method_1_code 108 = .ok (.getfield 34, 3) := by decide +kernel
theorem d_Mod_init_111 : decode prog_15_method_1_code 111 = .ok (.ishl, 1) := by decide +kernel
theorem d_Mod_init_112 : decode prog_15_method_1_code 112 = .ok (.iconst 1, 1) := by decide +kernel
theorem d_Mod_init_113 : decode prog_15_method_1_code 113 = .ok (.isub, 1) := by decide +kernel
theorem d_Mod_init_114 : decode prog_15_method_1_code 114 = .ok (.putfield 40, 3) := by decide +kernel
theorem d_Mod_init_117 : decode prog_15_method_1_code 117 = .ok (.aload_n 0, 1) := by decide +kernel
theorem d_Mod_init_118 : decode prog_15_method_1_code 118 = .ok (.aload_n 0, 1) := by decide +kernel
theorem d_Mod_init_119 : decode prog_15_method_1_code 119 = .ok (.getfield 40, 3) := by decide +kernel
theorem d_Mod_init_122 : decode prog_15_method_1_code 122 = .ok (.putfield 43, 3) := by decide +kernel
theorem d_Mod_init_125 : decode prog_15_method_1_code 125 = .ok (.return_, 1) := by decide +kernel
theorem d_Mod_give_0 : decode prog_15_method_2_code 0 = .ok (.iload_n 1, 1) := by decide +kernel
theorem d_Mod_give_1 : decode prog_15_method_2_code 1 = .ok (.ifCond .lt 33, 3) := by decide +kernel
theorem d_Mod_give_4 : decode prog_15_method_2_code 4 = .ok (.iload_n 1, 1) := by decide +kernel
theorem d_Mod_give_5 : decode prog_15_method_2_code 5 = .ok (.iconst 4, 1) := by decide +kernel
theorem d_Mod_give_6 : decode prog_15_method_2_code 6 = .ok (.if_icmp .gt 28, 3) := by decide +kernel
theorem d_Mod_give_9 : decode prog_15_method_2_code 9 = .ok (.iload_n 2, 1) := by decide +kernel
theorem d_Mod_give_10 : decode prog_15_method_2_code 10 = .ok (.ifCond .lt 24, 3) := by decide +kernel
theorem d_Mod_give_13 : decode prog_15_method_2_code 13 = .ok (.iload_n 2, 1) := by decide +kernel
theorem d_Mod_give_14 : decode prog_15_method_2_code 14 = .ok (.bipush 39, 2) := by decide +kernel
theorem d_Mod_give_16 : decode prog_15_method_2_code 16 = .ok (.if_icmp .gt 18, 3) := by decide +kernel
theorem d_Mod_give_19 : decode prog_15_method_2_code 19 = .ok (.iload_n 1, 1) := by decide +kernel
theorem d_Mod_give_20 : decode prog_15_method_2_code 20 = .ok (.iconst 4, 1) := by decide +kernel
theorem d_Mod_give_21 : decode prog_15_method_2_code 21 = .ok (.if_icmp .ne 15, 3) := by decide +kernel
theorem d_Mod_give_24 : decode prog_15_method_2_code 24 = .ok (.iload_n 3, 1) := by decide +kernel
theorem d_Mod_give_25 : decode prog_15_method_2_code 25 = .ok (.ifCond .lt 9, 3) := by decide +kernel
theorem d_Mod_give_28 : decode prog_15_method_2_code 28 = .ok (.iload_n 3, 1) := by decide +kernel
theorem d_Mod_give_29 : decode prog_15_method_2_code 29 = .ok (.bipush 39, 2) := by decide +kernel
theorem d_Mod_give_31 : decode prog_15_method_2_code 31 = .ok (.if_icmp .le 5, 3) := by decide +kernel
theorem d_Mod_give_34 : decode prog_15_method_2_code 34 = .ok (.iconst (-1), 1) := by decide +kernel
theorem d_Mod_give_35 : decode prog_15_method_2_code 35 = .ok (.ireturn, 1) := by decide +kernel
theorem d_Mod_give_36 : decode prog_15_method_2_code 36 = .ok (.aload_n 0, 1) := by decide +kernel
theorem d_Mod_give_37 : decode prog_15_method_2_code 37 = .ok (.getfield 46, 3) := by decide +kernel
theorem d_Mod_give_40 : decode prog_15_method_2_code 40 = .ok (.bipush 8, 2) := by decide +kernel
theorem d_Mod_give_42 : decode prog_15_method_2_code 42 = .ok (.if_icmp .ne 6, 3) := by decide +kernel
theorem d_Mod_give_45 : decode prog_15_method_2_code 45 = .ok (.bipush (-2), 2) := by decide +kernel
theorem d_Mod_give_47 : decode prog_15_method_2_code 47 = .ok (.ireturn, 1) := by decide +kernel
theorem d_Mod_give_48 : decode prog_15_method_2_code 48 = .ok (.aload_n 0, 1) := by decide +kernel
theorem d_Mod_give_49 : decode prog_15_method_2_code 49 = .ok (.getfield 17, 3) := by decide +kernel
theorem d_Mod_give_52 : decode prog_15_method_2_code 52 = .ok (.aload_n 0, 1) := by decide +kernel
theorem d_Mod_give_53 : decode prog_15_method_2_code 53 = .ok (.getfield 46, 3) := by decide +kernel
theorem d_Mod_give_56 : decode prog_15_method_2_code 56 = .ok (.iload_n 1, 1) := by decide +kernel
theorem d_Mod_give_57 : decode prog_15_method_2_code 57 = .ok (.iastore, 1) := by decide +kernel
theorem d_Mod_give_58 : decode prog_15_method_2_code 58 = .ok (.aload_n 0, 1) := by decide +kernel
theorem d_Mod_give_59 : decode prog_15_method_2_code 59 = .ok (.getfield 20, 3) := by decide +kernel
theorem d_Mod_give_62 : decode prog_15_method_2_code 62 = .ok (.aload_n 0, 1) := by decide +kernel
theorem d_Mod_give_63 : decode prog_15_method_2_code 63 = .ok (.getfield 46, 3) := by decide +kernel
theorem d_Mod_give_66 : decode prog_15_method_2_code 66 = .ok (.iload_n 2, 1) := by decide +kernel
theorem d_Mod_give_67 : decode prog_15_method_2_code 67 = .ok (.iastore, 1) := by decide +kernel
theorem d_Mod_give_68 : decode prog_15_method_2_code 68 = .ok (.aload_n 0, 1) := by decide +kernel
theorem d_Mod_give_69 : decode prog_15_method_2_code 69 = .ok (.getfield 23, 3) := by decide +kernel
theorem d_Mod_give_72 : decode prog_15_method_2_code 72 = .ok (.aload_n 0, 1) := by decide +kernel
theorem d_Mod_give_73 : decode prog_15_method_2_code 73 = .ok (.getfield 46, 3) := by decide +kernel
theorem d_Mod_give_76 : decode prog_15_method_2_code 76 = .ok (.iload_n 3, 1) := by decide +kernel
theorem d_Mod_give_77 : decode prog_15_method_2_code 77 = .ok (.iastore, 1) := by decide +kernel
theorem d_Mod_give_78 : decode prog_15_method_2_code 78 = .ok (.aload_n 0, 1) := by decide +kernel
theorem d_Mod_give_79 : decode prog_15_method_2_code 79 = .ok (.dup, 1) := by decide +kernel
theorem d_Mod_give_80 : decode prog_15_method_2_code 80 = .ok (.getfield 46, 3) := by decide +kernel
theorem d_Mod_give_83 : decode prog_15_method_2_code 83 = .ok (.iconst 1, 1) := by decide +kernel
theorem d_Mod_give_84 : decode prog_15_method_2_code 84 = .ok (.iadd, 1) := by decide +kernel
theorem d_Mod_give_85 : decode prog_15_method_2_code 85 = .ok (.putfield 46, 3) := by decide +kernel
theorem d_Mod_give_88 : decode prog_15_method_2_code 88 = .ok (.aload_n 0, 1) := by decide +kernel
theorem d_Mod_give_89 : decode prog_15_method_2_code 89 = .ok (.dup, 1) := by decide +kernel
theorem d_Mod_give_90 : decode prog_15_method_2_code 90 = .ok (.getfield 49, 3) := by decide +kernel
theorem d_Mod_give_93 : decode prog_15_method_2_code 93 = .ok (.iconst 1, 1) := by decide +kernel
theorem d_Mod_give_94 : decode prog_15_method_2_code 94 = .ok (.iadd, 1) := by decide +kernel
theorem d_Mod_give_95 : decode prog_15_method_2_code 95 = .ok (.putfield 49, 3) := by decide +kernel
theorem d_Mod_give_98 : decode prog_15_method_2_code 98 = .ok (.aload_n 0, 1) := by decide +kernel
theorem d_Mod_give_99 : decode prog_15_method_2_code 99 = .ok (.iconst 0, 1) := by decide +kernel
theorem d_Mod_give_100 : decode prog_15_method_2_code 100 = .ok (.putfield 52, 3) := by decide +kernel
theorem d_Mod_give_103 : decode prog_15_method_2_code 103 = .ok (.aload_n 0, 1) := by decide +kernel
theorem d_Mod_give_104 : decode prog_15_method_2_code 104 = .ok (.getfield 49, 3) := by decide +kernel
theorem d_Mod_give_107 : decode prog_15_method_2_code 107 = .ok (.iconst 1, 1) := by decide +kernel
theorem d_Mod_give_108 : decode prog_15_method_2_code 108 = .ok (.isub, 1) := by decide +kernel
theorem d_Mod_give_109 : decode prog_15_method_2_code 109 = .ok (.ireturn, 1) := by decide +kernel
theorem d_Mod_deliver_0 : decode prog_15_method_3_code 0 = .ok (.aload_n 0, 1) := by decide +kernel
theorem d_Mod_deliver_1 : decode prog_15_method_3_code 1 = .ok (.iconst 0, 1) := by decide +kernel
theorem d_Mod_deliver_2 : decode prog_15_method_3_code 2 = .ok (.putfield 52, 3) := by decide +kernel
theorem d_Mod_deliver_5 : decode prog_15_method_3_code 5 = .ok (.return_, 1) := by decide +kernel
theorem d_Mod_lose_0 : decode prog_15_method_4_code 0 = .ok (.aload_n 0, 1) := by decide +kernel
theorem d_Mod_lose_1 : decode prog_15_method_4_code 1 = .ok (.iconst 0, 1) := by decide +kernel
theorem d_Mod_lose_2 : decode prog_15_method_4_code 2 = .ok (.putfield 52, 3) := by decide +kernel
theorem d_Mod_lose_5 : decode prog_15_method_4_code 5 = .ok (.return_, 1) := by decide +kernel
theorem d_Mod_twice_0 : decode prog_15_method_5_code 0 = .ok (.aload_n 0, 1) := by decide +kernel
theorem d_Mod_twice_1 : decode prog_15_method_5_code 1 = .ok (.iconst 0, 1) := by decide +kernel
theorem d_Mod_twice_2 : decode prog_15_method_5_code 2 = .ok (.putfield 52, 3) := by decide +kernel
theorem d_Mod_twice_5 : decode prog_15_method_5_code 5 = .ok (.return_, 1) := by decide +kernel
theorem d_Mod_stir_0 : decode prog_15_method_6_code 0 = .ok (.iload_n 1, 1) := by decide +kernel
theorem d_Mod_stir_1 : decode prog_15_method_6_code 1 = .ok (.iconst 1, 1) := by decide +kernel
theorem d_Mod_stir_2 : decode prog_15_method_6_code 2 = .ok (.if_icmp .lt 10, 3) := by decide +kernel
theorem d_Mod_stir_5 : decode prog_15_method_6_code 5 = .ok (.iload_n 1, 1) := by decide +kernel
theorem d_Mod_stir_6 : decode prog_15_method_6_code 6 = .ok (.sipush 500, 3) := by decide +kernel
theorem d_Mod_stir_9 : decode prog_15_method_6_code 9 = .ok (.if_icmp .le 5, 3) := by decide +kernel
theorem d_Mod_stir_12 : decode prog_15_method_6_code 12 = .ok (.iconst (-1), 1) := by decide +kernel
theorem d_Mod_stir_13 : decode prog_15_method_6_code 13 = .ok (.ireturn, 1) := by decide +kernel
theorem d_Mod_stir_14 : decode prog_15_method_6_code 14 = .ok (.aload_n 0, 1) := by decide +kernel
theorem d_Mod_stir_15 : decode prog_15_method_6_code 15 = .ok (.iconst 0, 1) := by decide +kernel
theorem d_Mod_stir_16 : decode prog_15_method_6_code 16 = .ok (.putfield 52, 3) := by decide +kernel
theorem d_Mod_stir_19 : decode prog_15_method_6_code 19 = .ok (.iload_n 1, 1) := by decide +kernel
theorem d_Mod_stir_20 : decode prog_15_method_6_code 20 = .ok (.ireturn, 1) := by decide +kernel
theorem d_Mod_tick_0 : decode prog_15_method_7_code 0 = .ok (.iload_n 1, 1) := by decide +kernel
theorem d_Mod_tick_1 : decode prog_15_method_7_code 1 = .ok (.iconst 1, 1) := by decide +kernel
theorem d_Mod_tick_2 : decode prog_15_method_7_code 2 = .ok (.if_icmp .lt 9, 3) := by decide +kernel
theorem d_Mod_tick_5 : decode prog_15_method_7_code 5 = .ok (.iload_n 1, 1) := by decide +kernel
theorem d_Mod_tick_6 : decode prog_15_method_7_code 6 = .ok (.bipush 50, 2) := by decide +kernel
theorem d_Mod_tick_8 : decode prog_15_method_7_code 8 = .ok (.if_icmp .le 5, 3) := by decide +kernel
theorem d_Mod_tick_11 : decode prog_15_method_7_code 11 = .ok (.iconst (-1), 1) := by decide +kernel
theorem d_Mod_tick_12 : decode prog_15_method_7_code 12 = .ok (.ireturn, 1) := by decide +kernel
theorem d_Mod_tick_13 : decode prog_15_method_7_code 13 = .ok (.aload_n 0, 1) := by decide +kernel
theorem d_Mod_tick_14 : decode prog_15_method_7_code 14 = .ok (.iconst 0, 1) := by decide +kernel
theorem d_Mod_tick_15 : decode prog_15_method_7_code 15 = .ok (.putfield 52, 3) := by decide +kernel
theorem d_Mod_tick_18 : decode prog_15_method_7_code 18 = .ok (.iload_n 1, 1) := by decide +kernel
theorem d_Mod_tick_19 : decode prog_15_method_7_code 19 = .ok (.ireturn, 1) := by decide +kernel
theorem d_Mod_crash_0 : decode prog_15_method_9_code 0 = .ok (.aload_n 0, 1) := by decide +kernel
theorem d_Mod_crash_1 : decode prog_15_method_9_code 1 = .ok (.iload_n 1, 1) := by decide +kernel
theorem d_Mod_crash_2 : decode prog_15_method_9_code 2 = .ok (.iconst 1, 1) := by decide +kernel
theorem d_Mod_crash_3 : decode prog_15_method_9_code 3 = .ok (.invokevirtual 56, 3) := by decide +kernel
theorem d_Mod_crash_6 : decode prog_15_method_9_code 6 = .ok (.ireturn, 1) := by decide +kernel
theorem d_Mod_turn_0 : decode prog_15_method_8_code 0 = .ok (.iload_n 1, 1) := by decide +kernel
theorem d_Mod_turn_1 : decode prog_15_method_8_code 1 = .ok (.ifCond .lt 31, 3) := by decide +kernel
theorem d_Mod_turn_4 : decode prog_15_method_8_code 4 = .ok (.iload_n 1, 1) := by decide +kernel
theorem d_Mod_turn_5 : decode prog_15_method_8_code 5 = .ok (.aload_n 0, 1) := by decide +kernel
theorem d_Mod_turn_6 : decode prog_15_method_8_code 6 = .ok (.getfield 34, 3) := by decide +kernel
theorem d_Mod_turn_9 : decode prog_15_method_8_code 9 = .ok (.if_icmp .ge 23, 3) := by decide +kernel
theorem d_Mod_turn_12 : decode prog_15_method_8_code 12 = .ok (.aload_n 0, 1) := by decide +kernel
theorem d_Mod_turn_13 : decode prog_15_method_8_code 13 = .ok (.getfield 40, 3) := by decide +kernel
theorem d_Mod_turn_16 : decode prog_15_method_8_code 16 = .ok (.iload_n 1, 1) := by decide +kernel
theorem d_Mod_turn_17 : decode prog_15_method_8_code 17 = .ok (.ishr, 1) := by decide +kernel
theorem d_Mod_turn_18 : decode prog_15_method_8_code 18 = .ok (.iconst 1, 1) := by decide +kernel
theorem d_Mod_turn_19 : decode prog_15_method_8_code 19 = .ok (.iand, 1) := by decide +kernel
theorem d_Mod_turn_20 : decode prog_15_method_8_code 20 = .ok (.iload_n 2, 1) := by decide +kernel
theorem d_Mod_turn_21 : decode prog_15_method_8_code 21 = .ok (.ifCond .eq 7, 3) := by decide +kernel
theorem d_Mod_turn_24 : decode prog_15_method_8_code 24 = .ok (.iconst 1, 1) := by decide +kernel
theorem d_Mod_turn_25 : decode prog_15_method_8_code 25 = .ok (.goto 4, 3) := by decide +kernel
theorem d_Mod_turn_28 : decode prog_15_method_8_code 28 = .ok (.iconst 0, 1) := by decide +kernel
theorem d_Mod_turn_29 : decode prog_15_method_8_code 29 = .ok (.if_icmp .eq 5, 3) := by decide +kernel
theorem d_Mod_turn_32 : decode prog_15_method_8_code 32 = .ok (.iconst 0, 1) := by decide +kernel
theorem d_Mod_turn_33 : decode prog_15_method_8_code 33 = .ok (.ireturn, 1) := by decide +kernel
theorem d_Mod_turn_34 : decode prog_15_method_8_code 34 = .ok (.aload_n 0, 1) := by decide +kernel
theorem d_Mod_turn_35 : decode prog_15_method_8_code 35 = .ok (.dup, 1) := by decide +kernel
theorem d_Mod_turn_36 : decode prog_15_method_8_code 36 = .ok (.getfield 40, 3) := by decide +kernel
theorem d_Mod_turn_39 : decode prog_15_method_8_code 39 = .ok (.iconst 1, 1) := by decide +kernel
theorem d_Mod_turn_40 : decode prog_15_method_8_code 40 = .ok (.iload_n 1, 1) := by decide +kernel
theorem d_Mod_turn_41 : decode prog_15_method_8_code 41 = .ok (.ishl, 1) := by decide +kernel
theorem d_Mod_turn_42 : decode prog_15_method_8_code 42 = .ok (.ixor, 1) := by decide +kernel
theorem d_Mod_turn_43 : decode prog_15_method_8_code 43 = .ok (.putfield 40, 3) := by decide +kernel
theorem d_Mod_turn_46 : decode prog_15_method_8_code 46 = .ok (.aload_n 0, 1) := by decide +kernel
theorem d_Mod_turn_47 : decode prog_15_method_8_code 47 = .ok (.iconst 0, 1) := by decide +kernel
theorem d_Mod_turn_48 : decode prog_15_method_8_code 48 = .ok (.putfield 52, 3) := by decide +kernel
theorem d_Mod_turn_51 : decode prog_15_method_8_code 51 = .ok (.iconst 1, 1) := by decide +kernel
theorem d_Mod_turn_52 : decode prog_15_method_8_code 52 = .ok (.ireturn, 1) := by decide +kernel
theorem d_Mod_restart_0 : decode prog_15_method_10_code 0 = .ok (.aload_n 0, 1) := by decide +kernel
theorem d_Mod_restart_1 : decode prog_15_method_10_code 1 = .ok (.iload_n 1, 1) := by decide +kernel
theorem d_Mod_restart_2 : decode prog_15_method_10_code 2 = .ok (.iconst 0, 1) := by decide +kernel
theorem d_Mod_restart_3 : decode prog_15_method_10_code 3 = .ok (.invokevirtual 56, 3) := by decide +kernel
theorem d_Mod_restart_6 : decode prog_15_method_10_code 6 = .ok (.ireturn, 1) := by decide +kernel
theorem d_Mod_map_0 : decode prog_15_method_11_code 0 = .ok (.aload_n 0, 1) := by decide +kernel
theorem d_Mod_map_1 : decode prog_15_method_11_code 1 = .ok (.iload_n 1, 1) := by decide +kernel
theorem d_Mod_map_2 : decode prog_15_method_11_code 2 = .ok (.iconst 1, 1) := by decide +kernel
theorem d_Mod_map_3 : decode prog_15_method_11_code 3 = .ok (.aload_n 0, 1) := by decide +kernel
theorem d_Mod_map_4 : decode prog_15_method_11_code 4 = .ok (.getfield 34, 3) := by decide +kernel
theorem d_Mod_map_7 : decode prog_15_method_11_code 7 = .ok (.ishl, 1) := by decide +kernel
theorem d_Mod_map_8 : decode prog_15_method_11_code 8 = .ok (.iconst 1, 1) := by decide +kernel
theorem d_Mod_map_9 : decode prog_15_method_11_code 9 = .ok (.isub, 1) := by decide +kernel
theorem d_Mod_map_10 : decode prog_15_method_11_code 10 = .ok (.iand, 1) := by decide +kernel
theorem d_Mod_map_11 : decode prog_15_method_11_code 11 = .ok (.putfield 43, 3) := by decide +kernel
theorem d_Mod_map_14 : decode prog_15_method_11_code 14 = .ok (.aload_n 0, 1) := by decide +kernel
theorem d_Mod_map_15 : decode prog_15_method_11_code 15 = .ok (.dup, 1) := by decide +kernel
theorem d_Mod_map_16 : decode prog_15_method_11_code 16 = .ok (.getfield 30, 3) := by decide +kernel
theorem d_Mod_map_19 : decode prog_15_method_11_code 19 = .ok (.iconst 1, 1) := by decide +kernel
theorem d_Mod_map_20 : decode prog_15_method_11_code 20 = .ok (.iadd, 1) := by decide +kernel
theorem d_Mod_map_21 : decode prog_15_method_11_code 21 = .ok (.putfield 30, 3) := by decide +kernel
theorem d_Mod_map_24 : decode prog_15_method_11_code 24 = .ok (.aload_n 0, 1) := by decide +kernel
theorem d_Mod_map_25 : decode prog_15_method_11_code 25 = .ok (.iconst 0, 1) := by decide +kernel
theorem d_Mod_map_26 : decode prog_15_method_11_code 26 = .ok (.putfield 52, 3) := by decide +kernel
theorem d_Mod_map_29 : decode prog_15_method_11_code 29 = .ok (.aload_n 0, 1) := by decide +kernel
theorem d_Mod_map_30 : decode prog_15_method_11_code 30 = .ok (.getfield 30, 3) := by decide +kernel
theorem d_Mod_map_33 : decode prog_15_method_11_code 33 = .ok (.ireturn, 1) := by decide +kernel
theorem d_Mod_settle_0 : decode prog_15_method_14_code 0 = .ok (.aload_n 0, 1) := by decide +kernel
theorem d_Mod_settle_1 : decode prog_15_method_14_code 1 = .ok (.getfield 46, 3) := by decide +kernel
theorem d_Mod_settle_4 : decode prog_15_method_14_code 4 = .ok (.istore_n 1, 1) := by decide +kernel
theorem d_Mod_settle_5 : decode prog_15_method_14_code 5 = .ok (.aload_n 0, 1) := by decide +kernel
theorem d_Mod_settle_6 : decode prog_15_method_14_code 6 = .ok (.getfield 49, 3) := by decide +kernel
theorem d_Mod_settle_9 : decode prog_15_method_14_code 9 = .ok (.aload_n 0, 1) := by decide +kernel
theorem d_Mod_settle_10 : decode prog_15_method_14_code 10 = .ok (.getfield 26, 3) := by decide +kernel
theorem d_Mod_settle_13 : decode prog_15_method_14_code 13 = .ok (.arraylength, 1) := by decide +kernel
theorem d_Mod_settle_14 : decode prog_15_method_14_code 14 = .ok (.if_icmp .le 44, 3) := by decide +kernel
theorem d_Mod_settle_17 : decode prog_15_method_14_code 17 = .ok (.iconst 2, 1) := by decide +kernel
theorem d_Mod_settle_18 : decode prog_15_method_14_code 18 = .ok (.aload_n 0, 1) := by decide +kernel
theorem d_Mod_settle_19 : decode prog_15_method_14_code 19 = .ok (.getfield 49, 3) := by decide +kernel
theorem d_Mod_settle_22 : decode prog_15_method_14_code 22 = .ok (.imul, 1) := by decide +kernel
theorem d_Mod_settle_23 : decode prog_15_method_14_code 23 = .ok (.newarray .long, 2) := by decide +kernel
theorem d_Mod_settle_25 : decode prog_15_method_14_code 25 = .ok (.astore_n 2, 1) := by decide +kernel
theorem d_Mod_settle_26 : decode prog_15_method_14_code 26 = .ok (.iconst 0, 1) := by decide +kernel
theorem d_Mod_settle_27 : decode prog_15_method_14_code 27 = .ok (.istore_n 3, 1) := by decide +kernel
theorem d_Mod_settle_28 : decode prog_15_method_14_code 28 = .ok (.iload_n 3, 1) := by decide +kernel
theorem d_Mod_settle_29 : decode prog_15_method_14_code 29 = .ok (.aload_n 0, 1) := by decide +kernel
theorem d_Mod_settle_30 : decode prog_15_method_14_code 30 = .ok (.getfield 49, 3) := by decide +kernel
theorem d_Mod_settle_33 : decode prog_15_method_14_code 33 = .ok (.iload_n 1, 1) := by decide +kernel
theorem d_Mod_settle_34 : decode prog_15_method_14_code 34 = .ok (.isub, 1) := by decide +kernel
theorem d_Mod_settle_35 : decode prog_15_method_14_code 35 = .ok (.if_icmp .ge 18, 3) := by decide +kernel
theorem d_Mod_settle_38 : decode prog_15_method_14_code 38 = .ok (.aload_n 2, 1) := by decide +kernel
theorem d_Mod_settle_39 : decode prog_15_method_14_code 39 = .ok (.iload_n 3, 1) := by decide +kernel
theorem d_Mod_settle_40 : decode prog_15_method_14_code 40 = .ok (.aload_n 0, 1) := by decide +kernel
theorem d_Mod_settle_41 : decode prog_15_method_14_code 41 = .ok (.getfield 26, 3) := by decide +kernel
theorem d_Mod_settle_44 : decode prog_15_method_14_code 44 = .ok (.iload_n 3, 1) := by decide +kernel
theorem d_Mod_settle_45 : decode prog_15_method_14_code 45 = .ok (.laload, 1) := by decide +kernel
theorem d_Mod_settle_46 : decode prog_15_method_14_code 46 = .ok (.lastore, 1) := by decide +kernel
theorem d_Mod_settle_47 : decode prog_15_method_14_code 47 = .ok (.iinc 3 1, 3) := by decide +kernel
theorem d_Mod_settle_50 : decode prog_15_method_14_code 50 = .ok (.goto (-22), 3) := by decide +kernel
theorem d_Mod_settle_53 : decode prog_15_method_14_code 53 = .ok (.aload_n 0, 1) := by decide +kernel
theorem d_Mod_settle_54 : decode prog_15_method_14_code 54 = .ok (.aload_n 2, 1) := by decide +kernel
theorem d_Mod_settle_55 : decode prog_15_method_14_code 55 = .ok (.putfield 26, 3) := by decide +kernel
theorem d_Mod_settle_58 : decode prog_15_method_14_code 58 = .ok (.iconst 0, 1) := by decide +kernel
theorem d_Mod_settle_59 : decode prog_15_method_14_code 59 = .ok (.istore_n 2, 1) := by decide +kernel
theorem d_Mod_settle_60 : decode prog_15_method_14_code 60 = .ok (.iload_n 2, 1) := by decide +kernel
theorem d_Mod_settle_61 : decode prog_15_method_14_code 61 = .ok (.iload_n 1, 1) := by decide +kernel
theorem d_Mod_settle_62 : decode prog_15_method_14_code 62 = .ok (.if_icmp .ge 27, 3) := by decide +kernel
theorem d_Mod_settle_65 : decode prog_15_method_14_code 65 = .ok (.aload_n 0, 1) := by decide +kernel
theorem d_Mod_settle_66 : decode prog_15_method_14_code 66 = .ok (.getfield 26, 3) := by decide +kernel
theorem d_Mod_settle_69 : decode prog_15_method_14_code 69 = .ok (.aload_n 0, 1) := by decide +kernel
theorem d_Mod_settle_70 : decode prog_15_method_14_code 70 = .ok (.getfield 49, 3) := by decide +kernel
theorem d_Mod_settle_73 : decode prog_15_method_14_code 73 = .ok (.iload_n 1, 1) := by decide +kernel
theorem d_Mod_settle_74 : decode prog_15_method_14_code 74 = .ok (.isub, 1) := by decide +kernel
theorem d_Mod_settle_75 : decode prog_15_method_14_code 75 = .ok (.iload_n 2, 1) := by decide +kernel
theorem d_Mod_settle_76 : decode prog_15_method_14_code 76 = .ok (.iadd, 1) := by decide +kernel
theorem d_Mod_settle_77 : decode prog_15_method_14_code 77 = .ok (.aload_n 0, 1) := by decide +kernel
theorem d_Mod_settle_78 : decode prog_15_method_14_code 78 = .ok (.iload_n 2, 1) := by decide +kernel
theorem d_Mod_settle_79 : decode prog_15_method_14_code 79 = .ok (.invokevirtual 64, 3) := by decide +kernel
theorem d_Mod_settle_82 : decode prog_15_method_14_code 82 = .ok (.lastore, 1) := by decide +kernel
theorem d_Mod_settle_83 : decode prog_15_method_14_code 83 = .ok (.iinc 2 1, 3) := by decide +kernel
theorem d_Mod_settle_86 : decode prog_15_method_14_code 86 = .ok (.goto (-26), 3) := by decide +kernel
theorem d_Mod_settle_89 : decode prog_15_method_14_code 89 = .ok (.aload_n 0, 1) := by decide +kernel
theorem d_Mod_settle_90 : decode prog_15_method_14_code 90 = .ok (.iconst 0, 1) := by decide +kernel
theorem d_Mod_settle_91 : decode prog_15_method_14_code 91 = .ok (.putfield 46, 3) := by decide +kernel
theorem d_Mod_settle_94 : decode prog_15_method_14_code 94 = .ok (.aload_n 0, 1) := by decide +kernel
theorem d_Mod_settle_95 : decode prog_15_method_14_code 95 = .ok (.iconst 1, 1) := by decide +kernel
theorem d_Mod_settle_96 : decode prog_15_method_14_code 96 = .ok (.aload_n 0, 1) := by decide +kernel
theorem d_Mod_settle_97 : decode prog_15_method_14_code 97 = .ok (.getfield 34, 3) := by decide +kernel
theorem d_Mod_settle_100 : decode prog_15_method_14_code 100 = .ok (.ishl, 1) := by decide +kernel
theorem d_Mod_settle_101 : decode prog_15_method_14_code 101 = .ok (.iconst 1, 1) := by decide +kernel
theorem d_Mod_settle_102 : decode prog_15_method_14_code 102 = .ok (.isub, 1) := by decide +kernel
theorem d_Mod_settle_103 : decode prog_15_method_14_code 103 = .ok (.putfield 40, 3) := by decide +kernel
theorem d_Mod_settle_106 : decode prog_15_method_14_code 106 = .ok (.aload_n 0, 1) := by decide +kernel
theorem d_Mod_settle_107 : decode prog_15_method_14_code 107 = .ok (.aload_n 0, 1) := by decide +kernel
theorem d_Mod_settle_108 : decode prog_15_method_14_code 108 = .ok (.getfield 40, 3) := by decide +kernel
theorem d_Mod_settle_111 : decode prog_15_method_14_code 111 = .ok (.putfield 43, 3) := by decide +kernel
theorem d_Mod_settle_114 : decode prog_15_method_14_code 114 = .ok (.aload_n 0, 1) := by decide +kernel
theorem d_Mod_settle_115 : decode prog_15_method_14_code 115 = .ok (.dup, 1) := by decide +kernel
theorem d_Mod_settle_116 : decode prog_15_method_14_code 116 = .ok (.getfield 30, 3) := by decide +kernel
theorem d_Mod_settle_119 : decode prog_15_method_14_code 119 = .ok (.iconst 1, 1) := by decide +kernel
theorem d_Mod_settle_120 : decode prog_15_method_14_code 120 = .ok (.iadd, 1) := by decide +kernel
theorem d_Mod_settle_121 : decode prog_15_method_14_code 121 = .ok (.putfield 30, 3) := by decide +kernel
theorem d_Mod_settle_124 : decode prog_15_method_14_code 124 = .ok (.aload_n 0, 1) := by decide +kernel
theorem d_Mod_settle_125 : decode prog_15_method_14_code 125 = .ok (.iconst 1, 1) := by decide +kernel
theorem d_Mod_settle_126 : decode prog_15_method_14_code 126 = .ok (.putfield 52, 3) := by decide +kernel
theorem d_Mod_settle_129 : decode prog_15_method_14_code 129 = .ok (.iload_n 1, 1) := by decide +kernel
theorem d_Mod_settle_130 : decode prog_15_method_14_code 130 = .ok (.ireturn, 1) := by decide +kernel
theorem d_Mod_act_0 : decode prog_15_method_13_code 0 = .ok (.aload_n 0, 1) := by decide +kernel
theorem d_Mod_act_1 : decode prog_15_method_13_code 1 = .ok (.getfield 20, 3) := by decide +kernel
theorem d_Mod_act_4 : decode prog_15_method_13_code 4 = .ok (.iload_n 1, 1) := by decide +kernel
theorem d_Mod_act_5 : decode prog_15_method_13_code 5 = .ok (.iaload, 1) := by decide +kernel
theorem d_Mod_act_6 : decode prog_15_method_13_code 6 = .ok (.istore_n 2, 1) := by decide +kernel
theorem d_Mod_act_7 : decode prog_15_method_13_code 7 = .ok (.aload_n 0, 1) := by decide +kernel
theorem d_Mod_act_8 : decode prog_15_method_13_code 8 = .ok (.getfield 23, 3) := by decide +kernel
theorem d_Mod_act_11 : decode prog_15_method_13_code 11 = .ok (.iload_n 1, 1) := by decide +kernel
theorem d_Mod_act_12 : decode prog_15_method_13_code 12 = .ok (.iaload, 1) := by decide +kernel
theorem d_Mod_act_13 : decode prog_15_method_13_code 13 = .ok (.istore_n 3, 1) := by decide +kernel
theorem d_Mod_act_14 : decode prog_15_method_13_code 14 = .ok (.aload_n 0, 1) := by decide +kernel
theorem d_Mod_act_15 : decode prog_15_method_13_code 15 = .ok (.getfield 13, 3) := by decide +kernel
theorem d_Mod_act_18 : decode prog_15_method_13_code 18 = .ok (.iload_n 2, 1) := by decide +kernel
theorem d_Mod_act_19 : decode prog_15_method_13_code 19 = .ok (.baload, 1) := by decide +kernel
theorem d_Mod_act_20 : decode prog_15_method_13_code 20 = .ok (.ifCond .eq 7, 3) := by decide +kernel
theorem d_Mod_act_23 : decode prog_15_method_13_code 23 = .ok (.lconst 1, 1) := by decide +kernel
theorem d_Mod_act_24 : decode prog_15_method_13_code 24 = .ok (.goto 4, 3) := by decide +kernel
theorem d_Mod_act_27 : decode prog_15_method_13_code 27 = .ok (.lconst 0, 1) := by decide +kernel
theorem d_Mod_act_28 : decode prog_15_method_13_code 28 = .ok (.lstore 4, 2) := by decide +kernel
theorem d_Mod_act_30 : decode prog_15_method_13_code 30 = .ok (.aload_n 0, 1) := by decide +kernel
theorem d_Mod_act_31 : decode prog_15_method_13_code 31 = .ok (.getfield 17, 3) := by decide +kernel
theorem d_Mod_act_34 : decode prog_15_method_13_code 34 = .ok (.iload_n 1, 1) := by decide +kernel
theorem d_Mod_act_35 : decode prog_15_method_13_code 35 = .ok (.iaload, 1) := by decide +kernel
theorem d_Mod_act_36 : decode prog_15_method_13_code 36 = .ok (.tableswitch 82 0 3 #[32, 42, 52, 60], 32) := by decide +kernel
theorem d_Mod_act_68 : decode prog_15_method_13_code 68 = .ok (.aload_n 0, 1) := by decide +kernel
theorem d_Mod_act_69 : decode prog_15_method_13_code 69 = .ok (.iload_n 2, 1) := by decide +kernel
theorem d_Mod_act_70 : decode prog_15_method_13_code 70 = .ok (.iconst 1, 1) := by decide +kernel
theorem d_Mod_act_71 : decode prog_15_method_13_code 71 = .ok (.iload_n 3, 1) := by decide +kernel
theorem d_Mod_act_72 : decode prog_15_method_13_code 72 = .ok (.invokevirtual 60, 3) := by decide +kernel
theorem d_Mod_act_75 : decode prog_15_method_13_code 75 = .ok (.lload 4, 2) := by decide +kernel
theorem d_Mod_act_77 : decode prog_15_method_13_code 77 = .ok (.lreturn, 1) := by decide +kernel
theorem d_Mod_act_78 : decode prog_15_method_13_code 78 = .ok (.aload_n 0, 1) := by decide +kernel
theorem d_Mod_act_79 : decode prog_15_method_13_code 79 = .ok (.iload_n 2, 1) := by decide +kernel
theorem d_Mod_act_80 : decode prog_15_method_13_code 80 = .ok (.iconst 0, 1) := by decide +kernel
theorem d_Mod_act_81 : decode prog_15_method_13_code 81 = .ok (.iconst 0, 1) := by decide +kernel
theorem d_Mod_act_82 : decode prog_15_method_13_code 82 = .ok (.invokevirtual 60, 3) := by decide +kernel
theorem d_Mod_act_85 : decode prog_15_method_13_code 85 = .ok (.lload 4, 2) := by decide +kernel
theorem d_Mod_act_87 : decode prog_15_method_13_code 87 = .ok (.lreturn, 1) := by decide +kernel
theorem d_Mod_act_88 : decode prog_15_method_13_code 88 = .ok (.aload_n 0, 1) := by decide +kernel
theorem d_Mod_act_89 : decode prog_15_method_13_code 89 = .ok (.getfield 7, 3) := by decide +kernel
theorem d_Mod_act_92 : decode prog_15_method_13_code 92 = .ok (.iload_n 2, 1) := by decide +kernel
theorem d_Mod_act_93 : decode prog_15_method_13_code 93 = .ok (.iaload, 1) := by decide +kernel
theorem d_Mod_act_94 : decode prog_15_method_13_code 94 = .ok (.i2l, 1) := by decide +kernel
theorem d_Mod_act_95 : decode prog_15_method_13_code 95 = .ok (.lreturn, 1) := by decide +kernel
theorem d_Mod_act_96 : decode prog_15_method_13_code 96 = .ok (.aload_n 0, 1) := by decide +kernel
theorem d_Mod_act_97 : decode prog_15_method_13_code 97 = .ok (.iload_n 2, 1) := by decide +kernel
theorem d_Mod_act_98 : decode prog_15_method_13_code 98 = .ok (.iconst 1, 1) := by decide +kernel
theorem d_Mod_act_99 : decode prog_15_method_13_code 99 = .ok (.aload_n 0, 1) := by decide +kernel
theorem d_Mod_act_100 : decode prog_15_method_13_code 100 = .ok (.getfield 7, 3) := by decide +kernel
theorem d_Mod_act_103 : decode prog_15_method_13_code 103 = .ok (.iload_n 2, 1) := by decide +kernel
theorem d_Mod_act_104 : decode prog_15_method_13_code 104 = .ok (.iaload, 1) := by decide +kernel
theorem d_Mod_act_105 : decode prog_15_method_13_code 105 = .ok (.iload_n 3, 1) := by decide +kernel
theorem d_Mod_act_106 : decode prog_15_method_13_code 106 = .ok (.iadd, 1) := by decide +kernel
theorem d_Mod_act_107 : decode prog_15_method_13_code 107 = .ok (.invokevirtual 60, 3) := by decide +kernel
theorem d_Mod_act_110 : decode prog_15_method_13_code 110 = .ok (.aload_n 0, 1) := by decide +kernel
theorem d_Mod_act_111 : decode prog_15_method_13_code 111 = .ok (.getfield 7, 3) := by decide +kernel
theorem d_Mod_act_114 : decode prog_15_method_13_code 114 = .ok (.iload_n 2, 1) := by decide +kernel
theorem d_Mod_act_115 : decode prog_15_method_13_code 115 = .ok (.iaload, 1) := by decide +kernel
theorem d_Mod_act_116 : decode prog_15_method_13_code 116 = .ok (.i2l, 1) := by decide +kernel
theorem d_Mod_act_117 : decode prog_15_method_13_code 117 = .ok (.lreturn, 1) := by decide +kernel
theorem d_Mod_act_118 : decode prog_15_method_13_code 118 = .ok (.iload_n 2, 1) := by decide +kernel
theorem d_Mod_act_119 : decode prog_15_method_13_code 119 = .ok (.iload_n 3, 1) := by decide +kernel
theorem d_Mod_act_120 : decode prog_15_method_13_code 120 = .ok (.if_icmp .ne 6, 3) := by decide +kernel
theorem d_Mod_act_123 : decode prog_15_method_13_code 123 = .ok (.lload 4, 2) := by decide +kernel
theorem d_Mod_act_125 : decode prog_15_method_13_code 125 = .ok (.lreturn, 1) := by decide +kernel
theorem d_Mod_act_126 : decode prog_15_method_13_code 126 = .ok (.aload_n 0, 1) := by decide +kernel
theorem d_Mod_act_127 : decode prog_15_method_13_code 127 = .ok (.iload_n 3, 1) := by decide +kernel
theorem d_Mod_act_128 : decode prog_15_method_13_code 128 = .ok (.aload_n 0, 1) := by decide +kernel
theorem d_Mod_act_129 : decode prog_15_method_13_code 129 = .ok (.getfield 13, 3) := by decide +kernel
theorem d_Mod_act_132 : decode prog_15_method_13_code 132 = .ok (.iload_n 2, 1) := by decide +kernel
theorem d_Mod_act_133 : decode prog_15_method_13_code 133 = .ok (.baload, 1) := by decide +kernel
theorem d_Mod_act_134 : decode prog_15_method_13_code 134 = .ok (.aload_n 0, 1) := by decide +kernel
theorem d_Mod_act_135 : decode prog_15_method_13_code 135 = .ok (.getfield 7, 3) := by decide +kernel
theorem d_Mod_act_138 : decode prog_15_method_13_code 138 = .ok (.iload_n 2, 1) := by decide +kernel
theorem d_Mod_act_139 : decode prog_15_method_13_code 139 = .ok (.iaload, 1) := by decide +kernel
theorem d_Mod_act_140 : decode prog_15_method_13_code 140 = .ok (.invokevirtual 60, 3) := by decide +kernel
theorem d_Mod_act_143 : decode prog_15_method_13_code 143 = .ok (.aload_n 0, 1) := by decide +kernel
theorem d_Mod_act_144 : decode prog_15_method_13_code 144 = .ok (.iload_n 2, 1) := by decide +kernel
theorem d_Mod_act_145 : decode prog_15_method_13_code 145 = .ok (.iconst 0, 1) := by decide +kernel
theorem d_Mod_act_146 : decode prog_15_method_13_code 146 = .ok (.iconst 0, 1) := by decide +kernel
theorem d_Mod_act_147 : decode prog_15_method_13_code 147 = .ok (.invokevirtual 60, 3) := by decide +kernel
theorem d_Mod_act_150 : decode prog_15_method_13_code 150 = .ok (.lload 4, 2) := by decide +kernel
theorem d_Mod_act_152 : decode prog_15_method_13_code 152 = .ok (.lreturn, 1) := by decide +kernel
theorem d_Mod_set_0 : decode prog_15_method_12_code 0 = .ok (.aload_n 0, 1) := by decide +kernel
theorem d_Mod_set_1 : decode prog_15_method_12_code 1 = .ok (.getfield 13, 3) := by decide +kernel
theorem d_Mod_set_4 : decode prog_15_method_12_code 4 = .ok (.iload_n 1, 1) := by decide +kernel
theorem d_Mod_set_5 : decode prog_15_method_12_code 5 = .ok (.iload_n 2, 1) := by decide +kernel
theorem d_Mod_set_6 : decode prog_15_method_12_code 6 = .ok (.bastore, 1) := by decide +kernel
theorem d_Mod_set_7 : decode prog_15_method_12_code 7 = .ok (.aload_n 0, 1) := by decide +kernel
theorem d_Mod_set_8 : decode prog_15_method_12_code 8 = .ok (.getfield 7, 3) := by decide +kernel
theorem d_Mod_set_11 : decode prog_15_method_12_code 11 = .ok (.iload_n 1, 1) := by decide +kernel
theorem d_Mod_set_12 : decode prog_15_method_12_code 12 = .ok (.iload_n 2, 1) := by decide +kernel
theorem d_Mod_set_13 : decode prog_15_method_12_code 13 = .ok (.ifCond .eq 7, 3) := by decide +kernel
theorem d_Mod_set_16 : decode prog_15_method_12_code 16 = .ok (.iload_n 3, 1) := by decide +kernel
theorem d_Mod_set_17 : decode prog_15_method_12_code 17 = .ok (.goto 4, 3) := by decide +kernel
theorem d_Mod_set_20 : decode prog_15_method_12_code 20 = .ok (.iconst 0, 1) := by decide +kernel
theorem d_Mod_set_21 : decode prog_15_method_12_code 21 = .ok (.iastore, 1) := by decide +kernel
theorem d_Mod_set_22 : decode prog_15_method_12_code 22 = .ok (.return_, 1) := by decide +kernel
theorem d_Mod_answer_0 : decode prog_15_method_15_code 0 = .ok (.iload_n 1, 1) := by decide +kernel
theorem d_Mod_answer_1 : decode prog_15_method_15_code 1 = .ok (.ifCond .lt 11, 3) := by decide +kernel
theorem d_Mod_answer_4 : decode prog_15_method_15_code 4 = .ok (.iload_n 1, 1) := by decide +kernel
theorem d_Mod_answer_5 : decode prog_15_method_15_code 5 = .ok (.aload_n 0, 1) := by decide +kernel
theorem d_Mod_answer_6 : decode prog_15_method_15_code 6 = .ok (.getfield 49, 3) := by decide +kernel
theorem d_Mod_answer_9 : decode prog_15_method_15_code 9 = .ok (.if_icmp .lt 7, 3) := by decide +kernel
theorem d_Mod_answer_12 : decode prog_15_method_15_code 12 = .ok (.ldc2_w 68, 3) := by decide +kernel
theorem d_Mod_answer_15 : decode prog_15_method_15_code 15 = .ok (.lreturn, 1) := by decide +kernel
theorem d_Mod_answer_16 : decode prog_15_method_15_code 16 = .ok (.iload_n 1, 1) := by decide +kernel
theorem d_Mod_answer_17 : decode prog_15_method_15_code 17 = .ok (.aload_n 0, 1) := by decide +kernel
theorem d_Mod_answer_18 : decode prog_15_method_15_code 18 = .ok (.getfield 49, 3) := by decide +kernel
theorem d_Mod_answer_21 : decode prog_15_method_15_code 21 = .ok (.aload_n 0, 1) := by decide +kernel
theorem d_Mod_answer_22 : decode prog_15_method_15_code 22 = .ok (.getfield 46, 3) := by decide +kernel
theorem d_Mod_answer_25 : decode prog_15_method_15_code 25 = .ok (.isub, 1) := by decide +kernel
theorem d_Mod_answer_26 : decode prog_15_method_15_code 26 = .ok (.if_icmp .lt 9, 3) := by decide +kernel
theorem d_Mod_answer_29 : decode prog_15_method_15_code 29 = .ok (.ldc2_w 70, 3) := by decide +kernel
theorem d_Mod_answer_32 : decode prog_15_method_15_code 32 = .ok (.goto 9, 3) := by decide +kernel
theorem d_Mod_answer_35 : decode prog_15_method_15_code 35 = .ok (.aload_n 0, 1) := by decide +kernel
theorem d_Mod_answer_36 : decode prog_15_method_15_code 36 = .ok (.getfield 26, 3) := by decide +kernel
theorem d_Mod_answer_39 : decode prog_15_method_15_code 39 = .ok (.iload_n 1, 1) := by decide +kernel
theorem d_Mod_answer_40 : decode prog_15_method_15_code 40 = .ok (.laload, 1) := by decide +kernel
theorem d_Mod_answer_41 : decode prog_15_method_15_code 41 = .ok (.lreturn, 1) := by decide +kernel
theorem d_Mod_at_0 : decode prog_15_method_17_code 0 = .ok (.iload_n 1, 1) := by decide +kernel
theorem d_Mod_at_1 : decode prog_15_method_17_code 1 = .ok (.ifCond .lt 30, 3) := by decide +kernel
theorem d_Mod_at_4 : decode prog_15_method_17_code 4 = .ok (.iload_n 1, 1) := by decide +kernel
theorem d_Mod_at_5 : decode prog_15_method_17_code 5 = .ok (.aload_n 0, 1) := by decide +kernel
theorem d_Mod_at_6 : decode prog_15_method_17_code 6 = .ok (.getfield 34, 3) := by decide +kernel
theorem d_Mod_at_9 : decode prog_15_method_17_code 9 = .ok (.if_icmp .ge 22, 3) := by decide +kernel
theorem d_Mod_at_12 : decode prog_15_method_17_code 12 = .ok (.iload_n 2, 1) := by decide +kernel
theorem d_Mod_at_13 : decode prog_15_method_17_code 13 = .ok (.ifCond .lt 18, 3) := by decide +kernel
theorem d_Mod_at_16 : decode prog_15_method_17_code 16 = .ok (.iload_n 2, 1) := by decide +kernel
theorem d_Mod_at_17 : decode prog_15_method_17_code 17 = .ok (.bipush 39, 2) := by decide +kernel
theorem d_Mod_at_19 : decode prog_15_method_17_code 19 = .ok (.if_icmp .gt 12, 3) := by decide +kernel
theorem d_Mod_at_22 : decode prog_15_method_17_code 22 = .ok (.iload_n 3, 1) := by decide +kernel
theorem d_Mod_at_23 : decode prog_15_method_17_code 23 = .ok (.ifCond .lt 8, 3) := by decide +kernel
theorem d_Mod_at_26 : decode prog_15_method_17_code 26 = .ok (.iload_n 3, 1) := by decide +kernel
theorem d_Mod_at_27 : decode prog_15_method_17_code 27 = .ok (.iconst 1, 1) := by decide +kernel
theorem d_Mod_at_28 : decode prog_15_method_17_code 28 = .ok (.if_icmp .le 7, 3) := by decide +kernel
theorem d_Mod_at_31 : decode prog_15_method_17_code 31 = .ok (.ldc2_w 68, 3) := by decide +kernel
theorem d_Mod_at_34 : decode prog_15_method_17_code 34 = .ok (.lreturn, 1) := by decide +kernel
theorem d_Mod_at_35 : decode prog_15_method_17_code 35 = .ok (.aload_n 0, 1) := by decide +kernel
theorem d_Mod_at_36 : decode prog_15_method_17_code 36 = .ok (.getfield 52, 3) := by decide +kernel
theorem d_Mod_at_39 : decode prog_15_method_17_code 39 = .ok (.ifCond .ne 7, 3) := by decide +kernel
theorem d_Mod_at_42 : decode prog_15_method_17_code 42 = .ok (.ldc2_w 72, 3) := by decide +kernel
theorem d_Mod_at_45 : decode prog_15_method_17_code 45 = .ok (.lreturn, 1) := by decide +kernel
theorem d_Mod_at_46 : decode prog_15_method_17_code 46 = .ok (.aload_n 0, 1) := by decide +kernel
theorem d_Mod_at_47 : decode prog_15_method_17_code 47 = .ok (.iload_n 1, 1) := by decide +kernel
theorem d_Mod_at_48 : decode prog_15_method_17_code 48 = .ok (.invokevirtual 74, 3) := by decide +kernel
theorem d_Mod_at_51 : decode prog_15_method_17_code 51 = .ok (.ifCond .eq 12, 3) := by decide +kernel
theorem d_Mod_at_54 : decode prog_15_method_17_code 54 = .ok (.aload_n 0, 1) := by decide +kernel
theorem d_Mod_at_55 : decode prog_15_method_17_code 55 = .ok (.getfield 13, 3) := by decide +kernel
theorem d_Mod_at_58 : decode prog_15_method_17_code 58 = .ok (.iload_n 2, 1) := by decide +kernel
theorem d_Mod_at_59 : decode prog_15_method_17_code 59 = .ok (.baload, 1) := by decide +kernel
theorem d_Mod_at_60 : decode prog_15_method_17_code 60 = .ok (.ifCond .ne 5, 3) := by decide +kernel
theorem d_Mod_at_63 : decode prog_15_method_17_code 63 = .ok (.lconst 0, 1) := by decide +kernel
theorem d_Mod_at_64 : decode prog_15_method_17_code 64 = .ok (.lreturn, 1) := by decide +kernel
theorem d_Mod_at_65 : decode prog_15_method_17_code 65 = .ok (.iload_n 3, 1) := by decide +kernel
theorem d_Mod_at_66 : decode prog_15_method_17_code 66 = .ok (.ifCond .ne 7, 3) := by decide +kernel
theorem d_Mod_at_69 : decode prog_15_method_17_code 69 = .ok (.lconst 1, 1) := by decide +kernel
theorem d_Mod_at_70 : decode prog_15_method_17_code 70 = .ok (.goto 10, 3) := by decide +kernel
theorem d_Mod_at_73 : decode prog_15_method_17_code 73 = .ok (.aload_n 0, 1) := by decide +kernel
theorem d_Mod_at_74 : decode prog_15_method_17_code 74 = .ok (.getfield 7, 3) := by decide +kernel
theorem d_Mod_at_77 : decode prog_15_method_17_code 77 = .ok (.iload_n 2, 1) := by decide +kernel
theorem d_Mod_at_78 : decode prog_15_method_17_code 78 = .ok (.iaload, 1) := by decide +kernel
theorem d_Mod_at_79 : decode prog_15_method_17_code 79 = .ok (.i2l, 1) := by decide +kernel
theorem d_Mod_at_80 : decode prog_15_method_17_code 80 = .ok (.lreturn, 1) := by decide +kernel
theorem d_Mod_copy_0 : decode prog_15_method_16_code 0 = .ok (.iconst 0, 1) := by decide +kernel
theorem d_Mod_copy_1 : decode prog_15_method_16_code 1 = .ok (.istore_n 2, 1) := by decide +kernel
theorem d_Mod_copy_2 : decode prog_15_method_16_code 2 = .ok (.iconst 0, 1) := by decide +kernel
theorem d_Mod_copy_3 : decode prog_15_method_16_code 3 = .ok (.istore_n 3, 1) := by decide +kernel
theorem d_Mod_copy_4 : decode prog_15_method_16_code 4 = .ok (.iload_n 3, 1) := by decide +kernel
theorem d_Mod_copy_5 : decode prog_15_method_16_code 5 = .ok (.aload_n 0, 1) := by decide +kernel
theorem d_Mod_copy_6 : decode prog_15_method_16_code 6 = .ok (.getfield 34, 3) := by decide +kernel
theorem d_Mod_copy_9 : decode prog_15_method_16_code 9 = .ok (.if_icmp .ge 29, 3) := by decide +kernel
theorem d_Mod_copy_12 : decode prog_15_method_16_code 12 = .ok (.iload_n 3, 1) := by decide +kernel
theorem d_Mod_copy_13 : decode prog_15_method_16_code 13 = .ok (.bipush 37, 2) := by decide +kernel
theorem d_Mod_copy_15 : decode prog_15_method_16_code 15 = .ok (.imul, 1) := by decide +kernel
theorem d_Mod_copy_16 : decode prog_15_method_16_code 16 = .ok (.bipush 11, 2) := by decide +kernel
theorem d_Mod_copy_18 : decode prog_15_method_16_code 18 = .ok (.irem, 1) := by decide +kernel
theorem d_Mod_copy_19 : decode prog_15_method_16_code 19 = .ok (.iload_n 1, 1) := by decide +kernel
theorem d_Mod_copy_20 : decode prog_15_method_16_code 20 = .ok (.bipush 37, 2) := by decide +kernel
theorem d_Mod_copy_22 : decode prog_15_method_16_code 22 = .ok (.imul, 1) := by decide +kernel
theorem d_Mod_copy_23 : decode prog_15_method_16_code 23 = .ok (.bipush 11, 2) := by decide +kernel
theorem d_Mod_copy_25 : decode prog_15_method_16_code 25 = .ok (.irem, 1) := by decide +kernel
theorem d_Mod_copy_26 : decode prog_15_method_16_code 26 = .ok (.if_icmp .le 6, 3) := by decide +kernel
theorem d_Mod_copy_29 : decode prog_15_method_16_code 29 = .ok (.iinc 2 1, 3) := by decide +kernel
theorem d_Mod_copy_32 : decode prog_15_method_16_code 32 = .ok (.iinc 3 1, 3) := by decide +kernel
theorem d_Mod_copy_35 : decode prog_15_method_16_code 35 = .ok (.goto (-31), 3) := by decide +kernel
theorem d_Mod_copy_38 : decode prog_15_method_16_code 38 = .ok (.iload_n 2, 1) := by decide +kernel
theorem d_Mod_copy_39 : decode prog_15_method_16_code 39 = .ok (.aload_n 0, 1) := by decide +kernel
theorem d_Mod_copy_40 : decode prog_15_method_16_code 40 = .ok (.getfield 37, 3) := by decide +kernel
theorem d_Mod_copy_43 : decode prog_15_method_16_code 43 = .ok (.if_icmp .ge 7, 3) := by decide +kernel
theorem d_Mod_copy_46 : decode prog_15_method_16_code 46 = .ok (.iconst 1, 1) := by decide +kernel
theorem d_Mod_copy_47 : decode prog_15_method_16_code 47 = .ok (.goto 4, 3) := by decide +kernel
theorem d_Mod_copy_50 : decode prog_15_method_16_code 50 = .ok (.iconst 0, 1) := by decide +kernel
theorem d_Mod_copy_51 : decode prog_15_method_16_code 51 = .ok (.ireturn, 1) := by decide +kernel
theorem d_Mod_count_0 : decode prog_15_method_18_code 0 = .ok (.iconst 0, 1) := by decide +kernel
theorem d_Mod_count_1 : decode prog_15_method_18_code 1 = .ok (.istore_n 2, 1) := by decide +kernel
theorem d_Mod_count_2 : decode prog_15_method_18_code 2 = .ok (.iconst 0, 1) := by decide +kernel
theorem d_Mod_count_3 : decode prog_15_method_18_code 3 = .ok (.istore_n 3, 1) := by decide +kernel
theorem d_Mod_count_4 : decode prog_15_method_18_code 4 = .ok (.iload_n 3, 1) := by decide +kernel
theorem d_Mod_count_5 : decode prog_15_method_18_code 5 = .ok (.aload_n 0, 1) := by decide +kernel
theorem d_Mod_count_6 : decode prog_15_method_18_code 6 = .ok (.getfield 34, 3) := by decide +kernel
theorem d_Mod_count_9 : decode prog_15_method_18_code 9 = .ok (.if_icmp .ge 20, 3) := by decide +kernel
theorem d_Mod_count_12 : decode prog_15_method_18_code 12 = .ok (.iload_n 2, 1) := by decide +kernel
theorem d_Mod_count_13 : decode prog_15_method_18_code 13 = .ok (.aload_n 0, 1) := by decide +kernel
theorem d_Mod_count_14 : decode prog_15_method_18_code 14 = .ok (.getfield 40, 3) := by decide +kernel
theorem d_Mod_count_17 : decode prog_15_method_18_code 17 = .ok (.iload_n 3, 1) := by decide +kernel
theorem d_Mod_count_18 : decode prog_15_method_18_code 18 = .ok (.ishr, 1) := by decide +kernel
theorem d_Mod_count_19 : decode prog_15_method_18_code 19 = .ok (.iconst 1, 1) := by decide +kernel
theorem d_Mod_count_20 : decode prog_15_method_18_code 20 = .ok (.iand, 1) := by decide +kernel
theorem d_Mod_count_21 : decode prog_15_method_18_code 21 = .ok (.iadd, 1) := by decide +kernel
theorem d_Mod_count_22 : decode prog_15_method_18_code 22 = .ok (.istore_n 2, 1) := by decide +kernel
theorem d_Mod_count_23 : decode prog_15_method_18_code 23 = .ok (.iinc 3 1, 3) := by decide +kernel
theorem d_Mod_count_26 : decode prog_15_method_18_code 26 = .ok (.goto (-22), 3) := by decide +kernel
theorem d_Mod_count_29 : decode prog_15_method_18_code 29 = .ok (.iload_n 1, 1) := by decide +kernel
theorem d_Mod_count_30 : decode prog_15_method_18_code 30 = .ok (.tableswitch 73 0 5 #[38, 43, 48, 53, 55, 60], 38) := by decide +kernel
theorem d_Mod_count_68 : decode prog_15_method_18_code 68 = .ok (.aload_n 0, 1) := by decide +kernel
theorem d_Mod_count_69 : decode prog_15_method_18_code 69 = .ok (.getfield 49, 3) := by decide +kernel
theorem d_Mod_count_72 : decode prog_15_method_18_code 72 = .ok (.ireturn, 1) := by decide +kernel
theorem d_Mod_count_73 : decode prog_15_method_18_code 73 = .ok (.aload_n 0, 1) := by decide +kernel
theorem d_Mod_count_74 : decode prog_15_method_18_code 74 = .ok (.getfield 46, 3) := by decide +kernel
theorem d_Mod_count_77 : decode prog_15_method_18_code 77 = .ok (.ireturn, 1) := by decide +kernel
theorem d_Mod_count_78 : decode prog_15_method_18_code 78 = .ok (.aload_n 0, 1) := by decide +kernel
theorem d_Mod_count_79 : decode prog_15_method_18_code 79 = .ok (.getfield 30, 3) := by decide +kernel
theorem d_Mod_count_82 : decode prog_15_method_18_code 82 = .ok (.ireturn, 1) := by decide +kernel
theorem d_Mod_count_83 : decode prog_15_method_18_code 83 = .ok (.iload_n 2, 1) := by decide +kernel
theorem d_Mod_count_84 : decode prog_15_method_18_code 84 = .ok (.ireturn, 1) := by decide +kernel
theorem d_Mod_count_85 : decode prog_15_method_18_code 85 = .ok (.aload_n 0, 1) := by decide +kernel
theorem d_Mod_count_86 : decode prog_15_method_18_code 86 = .ok (.getfield 43, 3) := by decide +kernel
theorem d_Mod_count_89 : decode prog_15_method_18_code 89 = .ok (.ireturn, 1) := by decide +kernel
theorem d_Mod_count_90 : decode prog_15_method_18_code 90 = .ok (.aload_n 0, 1) := by decide +kernel
theorem d_Mod_count_91 : decode prog_15_method_18_code 91 = .ok (.getfield 52, 3) := by decide +kernel
theorem d_Mod_count_94 : decode prog_15_method_18_code 94 = .ok (.ifCond .eq 7, 3) := by decide +kernel
theorem d_Mod_count_97 : decode prog_15_method_18_code 97 = .ok (.iconst 1, 1) := by decide +kernel
theorem d_Mod_count_98 : decode prog_15_method_18_code 98 = .ok (.goto 4, 3) := by decide +kernel
theorem d_Mod_count_101 : decode prog_15_method_18_code 101 = .ok (.iconst 0, 1) := by decide +kernel
theorem d_Mod_count_102 : decode prog_15_method_18_code 102 = .ok (.ireturn, 1) := by decide +kernel
theorem d_Mod_count_103 : decode prog_15_method_18_code 103 = .ok (.iconst (-1), 1) := by decide +kernel
theorem d_Mod_count_104 : decode prog_15_method_18_code 104 = .ok (.ireturn, 1) := by decide +kernel
theorem d_Law_law_0 : decode code 0 = .ok (.new 7, 3) := by decide +kernel
theorem d_Law_law_3 : decode code 3 = .ok (.dup, 1) := by decide +kernel
theorem d_Law_law_4 : decode code 4 = .ok (.aload_n 0, 1) := by decide +kernel
theorem d_Law_law_5 : decode code 5 = .ok (.iconst 0, 1) := by decide +kernel
theorem d_Law_law_6 : decode code 6 = .ok (.invokestatic 9, 3) := by decide +kernel
theorem d_Law_law_9 : decode code 9 = .ok (.aload_n 0, 1) := by decide +kernel
theorem d_Law_law_10 : decode code 10 = .ok (.iconst 1, 1) := by decide +kernel
theorem d_Law_law_11 : decode code 11 = .ok (.invokestatic 9, 3) := by decide +kernel
theorem d_Law_law_14 : decode code 14 = .ok (.invokespecial 15, 3) := by decide +kernel
theorem d_Law_law_17 : decode code 17 = .ok (.astore_n 1, 1) := by decide +kernel
theorem d_Law_law_18 : decode code 18 = .ok (.new 18, 3) := by decide +kernel
theorem d_Law_law_21 : decode code 21 = .ok (.dup, 1) := by decide +kernel
theorem d_Law_law_22 : decode code 22 = .ok (.aload_n 0, 1) := by decide +kernel
theorem d_Law_law_23 : decode code 23 = .ok (.iconst 0, 1) := by decide +kernel
theorem d_Law_law_24 : decode code 24 = .ok (.invokestatic 9, 3) := by decide +kernel
theorem d_Law_law_27 : decode code 27 = .ok (.aload_n 0, 1) := by decide +kernel
theorem d_Law_law_28 : decode code 28 = .ok (.iconst 1, 1) := by decide +kernel
theorem d_Law_law_29 : decode code 29 = .ok (.invokestatic 9, 3) := by decide +kernel
theorem d_Law_law_32 : decode code 32 = .ok (.invokespecial 20, 3) := by decide +kernel
theorem d_Law_law_35 : decode code 35 = .ok (.astore_n 2, 1) := by decide +kernel
theorem d_Law_law_36 : decode code 36 = .ok (.iconst 2, 1) := by decide +kernel
theorem d_Law_law_37 : decode code 37 = .ok (.istore_n 3, 1) := by decide +kernel
theorem d_Law_law_38 : decode code 38 = .ok (.iload_n 3, 1) := by decide +kernel
theorem d_Law_law_39 : decode code 39 = .ok (.aload_n 0, 1) := by decide +kernel
theorem d_Law_law_40 : decode code 40 = .ok (.arraylength, 1) := by decide +kernel
theorem d_Law_law_41 : decode code 41 = .ok (.iconst 4, 1) := by decide +kernel
theorem d_Law_law_42 : decode code 42 = .ok (.isub, 1) := by decide +kernel
theorem d_Law_law_43 : decode code 43 = .ok (.if_icmp .gt 444, 3) := by decide +kernel
theorem d_Law_law_46 : decode code 46 = .ok (.aload_n 0, 1) := by decide +kernel
theorem d_Law_law_47 : decode code 47 = .ok (.iload_n 3, 1) := by decide +kernel
theorem d_Law_law_48 : decode code 48 = .ok (.iaload, 1) := by decide +kernel
theorem d_Law_law_49 : decode code 49 = .ok (.bipush 15, 2) := by decide +kernel
theorem d_Law_law_51 : decode code 51 = .ok (.iand, 1) := by decide +kernel
theorem d_Law_law_52 : decode code 52 = .ok (.tableswitch 429 0 12 #[68, 111, 132, 153, 174, 207, 230, 279, 302, 325, 338, 362, 406], 68) := by decide +kernel
theorem d_Law_law_120 : decode code 120 = .ok (.aload_n 1, 1) := by decide +kernel
theorem d_Law_law_121 : decode code 121 = .ok (.aload_n 0, 1) := by decide +kernel
theorem d_Law_law_122 : decode code 122 = .ok (.iload_n 3, 1) := by decide +kernel
theorem d_Law_law_123 : decode code 123 = .ok (.iconst 1, 1) := by decide +kernel
theorem d_Law_law_124 : decode code 124 = .ok (.iadd, 1) := by decide +kernel
theorem d_Law_law_125 : decode code 125 = .ok (.iaload, 1) := by decide +kernel
theorem d_Law_law_126 : decode code 126 = .ok (.aload_n 0, 1) := by decide +kernel
theorem d_Law_law_127 : decode code 127 = .ok (.iload_n 3, 1) := by decide +kernel
theorem d_Law_law_128 : decode code 128 = .ok (.iconst 2, 1) := by decide +kernel
theorem d_Law_law_129 : decode code 129 = .ok (.iadd, 1) := by decide +kernel
theorem d_Law_law_130 : decode code 130 = .ok (.iaload, 1) := by decide +kernel
theorem d_Law_law_131 : decode code 131 = .ok (.aload_n 0, 1) := by decide +kernel
theorem d_Law_law_132 : decode code 132 = .ok (.iload_n 3, 1) := by decide +kernel
theorem d_Law_law_133 : decode code 133 = .ok (.iconst 3, 1) := by decide +kernel
theorem d_Law_law_134 : decode code 134 = .ok (.iadd, 1) := by decide +kernel
theorem d_Law_law_135 : decode code 135 = .ok (.iaload, 1) := by decide +kernel
theorem d_Law_law_136 : decode code 136 = .ok (.invokevirtual 21, 3) := by decide +kernel
theorem d_Law_law_139 : decode code 139 = .ok (.aload_n 2, 1) := by decide +kernel
theorem d_Law_law_140 : decode code 140 = .ok (.aload_n 0, 1) := by decide +kernel
theorem d_Law_law_141 : decode code 141 = .ok (.iload_n 3, 1) := by decide +kernel
theorem d_Law_law_142 : decode code 142 = .ok (.iconst 1, 1) := by decide +kernel
theorem d_Law_law_143 : decode code 143 = .ok (.iadd, 1) := by decide +kernel
theorem d_Law_law_144 : decode code 144 = .ok (.iaload, 1) := by decide +kernel
theorem d_Law_law_145 : decode code 145 = .ok (.aload_n 0, 1) := by decide +kernel
theorem d_Law_law_146 : decode code 146 = .ok (.iload_n 3, 1) := by decide +kernel
theorem d_Law_law_147 : decode code 147 = .ok (.iconst 2, 1) := by decide +kernel
theorem d_Law_law_148 : decode code 148 = .ok (.iadd, 1) := by decide +kernel
theorem d_Law_law_149 : decode code 149 = .ok (.iaload, 1) := by decide +kernel
theorem d_Law_law_150 : decode code 150 = .ok (.aload_n 0, 1) := by decide +kernel
theorem d_Law_law_151 : decode code 151 = .ok (.iload_n 3, 1) := by decide +kernel
theorem d_Law_law_152 : decode code 152 = .ok (.iconst 3, 1) := by decide +kernel
theorem d_Law_law_153 : decode code 153 = .ok (.iadd, 1) := by decide +kernel
theorem d_Law_law_154 : decode code 154 = .ok (.iaload, 1) := by decide +kernel
theorem d_Law_law_155 : decode code 155 = .ok (.invokevirtual 25, 3) := by decide +kernel
theorem d_Law_law_158 : decode code 158 = .ok (.if_icmp .eq 323, 3) := by decide +kernel
theorem d_Law_law_161 : decode code 161 = .ok (.iconst 0, 1) := by decide +kernel
theorem d_Law_law_162 : decode code 162 = .ok (.ireturn, 1) := by decide +kernel
theorem d_Law_law_163 : decode code 163 = .ok (.aload_n 1, 1) := by decide +kernel
theorem d_Law_law_164 : decode code 164 = .ok (.aload_n 0, 1) := by decide +kernel
theorem d_Law_law_165 : decode code 165 = .ok (.iload_n 3, 1) := by decide +kernel
theorem d_Law_law_166 : decode code 166 = .ok (.iconst 1, 1) := by decide +kernel
theorem d_Law_law_167 : decode code 167 = .ok (.iadd, 1) := by decide +kernel
theorem d_Law_law_168 : decode code 168 = .ok (.iaload, 1) := by decide +kernel
theorem d_Law_law_169 : decode code 169 = .ok (.invokevirtual 26, 3) := by decide +kernel
theorem d_Law_law_172 : decode code 172 = .ok (.aload_n 2, 1) := by decide +kernel
theorem d_Law_law_173 : decode code 173 = .ok (.aload_n 0, 1) := by decide +kernel
theorem d_Law_law_174 : decode code 174 = .ok (.iload_n 3, 1) := by decide +kernel
theorem d_Law_law_175 : decode code 175 = .ok (.iconst 1, 1) := by decide +kernel
theorem d_Law_law_176 : decode code 176 = .ok (.iadd, 1) := by decide +kernel
theorem d_Law_law_177 : decode code 177 = .ok (.iaload, 1) := by decide +kernel
theorem d_Law_law_178 : decode code 178 = .ok (.invokevirtual 30, 3) := by decide +kernel
theorem d_Law_law_181 : decode code 181 = .ok (.goto 300, 3) := by decide +kernel
theorem d_Law_law_184 : decode code 184 = .ok (.aload_n 1, 1) := by decide +kernel
theorem d_Law_law_185 : decode code 185 = .ok (.aload_n 0, 1) := by decide +kernel
theorem d_Law_law_186 : decode code 186 = .ok (.iload_n 3, 1) := by decide +kernel
theorem d_Law_law_187 : decode code 187 = .ok (.iconst 1, 1) := by decide +kernel
theorem d_Law_law_188 : decode code 188 = .ok (.iadd, 1) := by decide +kernel
theorem d_Law_law_189 : decode code 189 = .ok (.iaload, 1) := by decide +kernel
theorem d_Law_law_190 : decode code 190 = .ok (.invokevirtual 31, 3) := by decide +kernel
theorem d_Law_law_193 : decode code 193 = .ok (.aload_n 2, 1) := by decide +kernel
theorem d_Law_law_194 : decode code 194 = .ok (.aload_n 0, 1) := by decide +kernel
theorem d_Law_law_195 : decode code 195 = .ok (.iload_n 3, 1) := by decide +kernel
theorem d_Law_law_196 : decode code 196 = .ok (.iconst 1, 1) := by decide +kernel
theorem d_Law_law_197 : decode code 197 = .ok (.iadd, 1) := by decide +kernel
theorem d_Law_law_198 : decode code 198 = .ok (.iaload, 1) := by decide +kernel
theorem d_Law_law_199 : decode code 199 = .ok (.invokevirtual 34, 3) := by decide +kernel
theorem d_Law_law_202 : decode code 202 = .ok (.goto 279, 3) := by decide +kernel
theorem d_Law_law_205 : decode code 205 = .ok (.aload_n 1, 1) := by decide +kernel
theorem d_Law_law_206 : decode code 206 = .ok (.aload_n 0, 1) := by decide +kernel
theorem d_Law_law_207 : decode code 207 = .ok (.iload_n 3, 1) := by decide +kernel
theorem d_Law_law_208 : decode code 208 = .ok (.iconst 1, 1) := by decide +kernel
theorem d_Law_law_209 : decode code 209 = .ok (.iadd, 1) := by decide +kernel
theorem d_Law_law_210 : decode code 210 = .ok (.iaload, 1) := by decide +kernel
theorem d_Law_law_211 : decode code 211 = .ok (.invokevirtual 35, 3) := by decide +kernel
theorem d_Law_law_214 : decode code 214 = .ok (.aload_n 2, 1) := by decide +kernel
theorem d_Law_law_215 : decode code 215 = .ok (.aload_n 0, 1) := by decide +kernel
theorem d_Law_law_216 : decode code 216 = .ok (.iload_n 3, 1) := by decide +kernel
theorem d_Law_law_217 : decode code 217 = .ok (.iconst 1, 1) := by decide +kernel
theorem d_Law_law_218 : decode code 218 = .ok (.iadd, 1) := by decide +kernel
theorem d_Law_law_219 : decode code 219 = .ok (.iaload, 1) := by decide +kernel
theorem d_Law_law_220 : decode code 220 = .ok (.invokevirtual 38, 3) := by decide +kernel
theorem d_Law_law_223 : decode code 223 = .ok (.goto 258, 3) := by decide +kernel
theorem d_Law_law_226 : decode code 226 = .ok (.aload_n 1, 1) := by decide +kernel
theorem d_Law_law_227 : decode code 227 = .ok (.aload_n 0, 1) := by decide +kernel
theorem d_Law_law_228 : decode code 228 = .ok (.iload_n 3, 1) := by decide +kernel
theorem d_Law_law_229 : decode code 229 = .ok (.iconst 1, 1) := by decide +kernel
theorem d_Law_law_230 : decode code 230 = .ok (.iadd, 1) := by decide +kernel
theorem d_Law_law_231 : decode code 231 = .ok (.iaload, 1) := by decide +kernel
theorem d_Law_law_232 : decode code 232 = .ok (.aload_n 0, 1) := by decide +kernel
theorem d_Law_law_233 : decode code 233 = .ok (.iload_n 3, 1) := by decide +kernel
theorem d_Law_law_234 : decode code 234 = .ok (.iconst 2, 1) := by decide +kernel
theorem d_Law_law_235 : decode code 235 = .ok (.iadd, 1) := by decide +kernel
theorem d_Law_law_236 : decode code 236 = .ok (.iaload, 1) := by decide +kernel
theorem d_Law_law_237 : decode code 237 = .ok (.invokevirtual 39, 3) := by decide +kernel
theorem d_Law_law_240 : decode code 240 = .ok (.aload_n 2, 1) := by decide +kernel
theorem d_Law_law_241 : decode code 241 = .ok (.aload_n 0, 1) := by decide +kernel
theorem d_Law_law_242 : decode code 242 = .ok (.iload_n 3, 1) := by decide +kernel
theorem d_Law_law_243 : decode code 243 = .ok (.iconst 1, 1) := by decide +kernel
theorem d_Law_law_244 : decode code 244 = .ok (.iadd, 1) := by decide +kernel
theorem d_Law_law_245 : decode code 245 = .ok (.iaload, 1) := by decide +kernel
theorem d_Law_law_246 : decode code 246 = .ok (.aload_n 0, 1) := by decide +kernel
theorem d_Law_law_247 : decode code 247 = .ok (.iload_n 3, 1) := by decide +kernel
theorem d_Law_law_248 : decode code 248 = .ok (.iconst 2, 1) := by decide +kernel
theorem d_Law_law_249 : decode code 249 = .ok (.iadd, 1) := by decide +kernel
theorem d_Law_law_250 : decode code 250 = .ok (.iaload, 1) := by decide +kernel
theorem d_Law_law_251 : decode code 251 = .ok (.invokevirtual 43, 3) := by decide +kernel
theorem d_Law_law_254 : decode code 254 = .ok (.if_icmp .eq 227, 3) := by decide +kernel
theorem d_Law_law_257 : decode code 257 = .ok (.iconst 0, 1) := by decide +kernel
theorem d_Law_law_258 : decode code 258 = .ok (.ireturn, 1) := by decide +kernel
theorem d_Law_law_259 : decode code 259 = .ok (.aload_n 1, 1) := by decide +kernel
theorem d_Law_law_260 : decode code 260 = .ok (.aload_n 0, 1) := by decide +kernel
theorem d_Law_law_261 : decode code 261 = .ok (.iload_n 3, 1) := by decide +kernel
theorem d_Law_law_262 : decode code 262 = .ok (.iconst 1, 1) := by decide +kernel
theorem d_Law_law_263 : decode code 263 = .ok (.iadd, 1) := by decide +kernel
theorem d_Law_law_264 : decode code 264 = .ok (.iaload, 1) := by decide +kernel
theorem d_Law_law_265 : decode code 265 = .ok (.invokevirtual 44, 3) := by decide +kernel
theorem d_Law_law_268 : decode code 268 = .ok (.aload_n 2, 1) := by decide +kernel
theorem d_Law_law_269 : decode code 269 = .ok (.aload_n 0, 1) := by decide +kernel
theorem d_Law_law_270 : decode code 270 = .ok (.iload_n 3, 1) := by decide +kernel
theorem d_Law_law_271 : decode code 271 = .ok (.iconst 1, 1) := by decide +kernel
theorem d_Law_law_272 : decode code 272 = .ok (.iadd, 1) := by decide +kernel
theorem d_Law_law_273 : decode code 273 = .ok (.iaload, 1) := by decide +kernel
theorem d_Law_law_274 : decode code 274 = .ok (.invokevirtual 48, 3) := by decide +kernel
theorem d_Law_law_277 : decode code 277 = .ok (.if_icmp .eq 204, 3) := by decide +kernel
theorem d_Law_law_280 : decode code 280 = .ok (.iconst 0, 1) := by decide +kernel
theorem d_Law_law_281 : decode code 281 = .ok (.ireturn, 1) := by decide +kernel
theorem d_Law_law_282 : decode code 282 = .ok (.aload_n 1, 1) := by decide +kernel
theorem d_Law_law_283 : decode code 283 = .ok (.aload_n 0, 1) := by decide +kernel
theorem d_Law_law_284 : decode code 284 = .ok (.iload_n 3, 1) := by decide +kernel
theorem d_Law_law_285 : decode code 285 = .ok (.iconst 1, 1) := by decide +kernel
theorem d_Law_law_286 : decode code 286 = .ok (.iadd, 1) := by decide +kernel
theorem d_Law_law_287 : decode code 287 = .ok (.iaload, 1) := by decide +kernel
theorem d_Law_law_288 : decode code 288 = .ok (.aload_n 0, 1) := by decide +kernel
theorem d_Law_law_289 : decode code 289 = .ok (.iload_n 3, 1) := by decide +kernel
theorem d_Law_law_290 : decode code 290 = .ok (.iconst 2, 1) := by decide +kernel
theorem d_Law_law_291 : decode code 291 = .ok (.iadd, 1) := by decide +kernel
theorem d_Law_law_292 : decode code 292 = .ok (.iaload, 1) := by decide +kernel
theorem d_Law_law_293 : decode code 293 = .ok (.ifCond .eq 7, 3) := by decide +kernel
theorem d_Law_law_296 : decode code 296 = .ok (.iconst 1, 1) := by decide +kernel
theorem d_Law_law_297 : decode code 297 = .ok (.goto 4, 3) := by decide +kernel
theorem d_Law_law_300 : decode code 300 = .ok (.iconst 0, 1) := by decide +kernel
theorem d_Law_law_301 : decode code 301 = .ok (.invokevirtual 49, 3) := by decide +kernel
theorem d_Law_law_304 : decode code 304 = .ok (.aload_n 2, 1) := by decide +kernel
theorem d_Law_law_305 : decode code 305 = .ok (.aload_n 0, 1) := by decide +kernel
theorem d_Law_law_306 : decode code 306 = .ok (.iload_n 3, 1) := by decide +kernel
theorem d_Law_law_307 : decode code 307 = .ok (.iconst 1, 1) := by decide +kernel
theorem d_Law_law_308 : decode code 308 = .ok (.iadd, 1) := by decide +kernel
theorem d_Law_law_309 : decode code 309 = .ok (.iaload, 1) := by decide +kernel
theorem d_Law_law_310 : decode code 310 = .ok (.aload_n 0, 1) := by decide +kernel
theorem d_Law_law_311 : decode code 311 = .ok (.iload_n 3, 1) := by decide +kernel
theorem d_Law_law_312 : decode code 312 = .ok (.iconst 2, 1) := by decide +kernel
theorem d_Law_law_313 : decode code 313 = .ok (.iadd, 1) := by decide +kernel
theorem d_Law_law_314 : decode code 314 = .ok (.iaload, 1) := by decide +kernel
theorem d_Law_law_315 : decode code 315 = .ok (.ifCond .eq 7, 3) := by decide +kernel
theorem d_Law_law_318 : decode code 318 = .ok (.iconst 1, 1) := by decide +kernel
theorem d_Law_law_319 : decode code 319 = .ok (.goto 4, 3) := by decide +kernel
theorem d_Law_law_322 : decode code 322 = .ok (.iconst 0, 1) := by decide +kernel
theorem d_Law_law_323 : decode code 323 = .ok (.invokevirtual 53, 3) := by decide +kernel
theorem d_Law_law_326 : decode code 326 = .ok (.if_icmp .eq 155, 3) := by decide +kernel
theorem d_Law_law_329 : decode code 329 = .ok (.iconst 0, 1) := by decide +kernel
theorem d_Law_law_330 : decode code 330 = .ok (.ireturn, 1) := by decide +kernel
theorem d_Law_law_331 : decode code 331 = .ok (.aload_n 1, 1) := by decide +kernel
theorem d_Law_law_332 : decode code 332 = .ok (.aload_n 0, 1) := by decide +kernel
theorem d_Law_law_333 : decode code 333 = .ok (.iload_n 3, 1) := by decide +kernel
theorem d_Law_law_334 : decode code 334 = .ok (.iconst 1, 1) := by decide +kernel
theorem d_Law_law_335 : decode code 335 = .ok (.iadd, 1) := by decide +kernel
theorem d_Law_law_336 : decode code 336 = .ok (.iaload, 1) := by decide +kernel
theorem d_Law_law_337 : decode code 337 = .ok (.invokevirtual 54, 3) := by decide +kernel
theorem d_Law_law_340 : decode code 340 = .ok (.aload_n 2, 1) := by decide +kernel
theorem d_Law_law_341 : decode code 341 = .ok (.aload_n 0, 1) := by decide +kernel
theorem d_Law_law_342 : decode code 342 = .ok (.iload_n 3, 1) := by decide +kernel
theorem d_Law_law_343 : decode code 343 = .ok (.iconst 1, 1) := by decide +kernel
theorem d_Law_law_344 : decode code 344 = .ok (.iadd, 1) := by decide +kernel
theorem d_Law_law_345 : decode code 345 = .ok (.iaload, 1) := by decide +kernel
theorem d_Law_law_346 : decode code 346 = .ok (.invokevirtual 58, 3) := by decide +kernel
theorem d_Law_law_349 : decode code 349 = .ok (.if_icmp .eq 132, 3) := by decide +kernel
theorem d_Law_law_352 : decode code 352 = .ok (.iconst 0, 1) := by decide +kernel
theorem d_Law_law_353 : decode code 353 = .ok (.ireturn, 1) := by decide +kernel
theorem d_Law_law_354 : decode code 354 = .ok (.aload_n 1, 1) := by decide +kernel
theorem d_Law_law_355 : decode code 355 = .ok (.aload_n 0, 1) := by decide +kernel
theorem d_Law_law_356 : decode code 356 = .ok (.iload_n 3, 1) := by decide +kernel
theorem d_Law_law_357 : decode code 357 = .ok (.iconst 1, 1) := by decide +kernel
theorem d_Law_law_358 : decode code 358 = .ok (.iadd, 1) := by decide +kernel
theorem d_Law_law_359 : decode code 359 = .ok (.iaload, 1) := by decide +kernel
theorem d_Law_law_360 : decode code 360 = .ok (.invokevirtual 59, 3) := by decide +kernel
theorem d_Law_law_363 : decode code 363 = .ok (.aload_n 2, 1) := by decide +kernel
theorem d_Law_law_364 : decode code 364 = .ok (.aload_n 0, 1) := by decide +kernel
theorem d_Law_law_365 : decode code 365 = .ok (.iload_n 3, 1) := by decide +kernel
theorem d_Law_law_366 : decode code 366 = .ok (.iconst 1, 1) := by decide +kernel
theorem d_Law_law_367 : decode code 367 = .ok (.iadd, 1) := by decide +kernel
theorem d_Law_law_368 : decode code 368 = .ok (.iaload, 1) := by decide +kernel
theorem d_Law_law_369 : decode code 369 = .ok (.invokevirtual 62, 3) := by decide +kernel
theorem d_Law_law_372 : decode code 372 = .ok (.if_icmp .eq 109, 3) := by decide +kernel
theorem d_Law_law_375 : decode code 375 = .ok (.iconst 0, 1) := by decide +kernel
theorem d_Law_law_376 : decode code 376 = .ok (.ireturn, 1) := by decide +kernel
theorem d_Law_law_377 : decode code 377 = .ok (.aload_n 1, 1) := by decide +kernel
theorem d_Law_law_378 : decode code 378 = .ok (.invokevirtual 63, 3) := by decide +kernel
theorem d_Law_law_381 : decode code 381 = .ok (.aload_n 2, 1) := by decide +kernel
theorem d_Law_law_382 : decode code 382 = .ok (.invokevirtual 67, 3) := by decide +kernel
theorem d_Law_law_385 : decode code 385 = .ok (.if_icmp .eq 96, 3) := by decide +kernel
theorem d_Law_law_388 : decode code 388 = .ok (.iconst 0, 1) := by decide +kernel
theorem d_Law_law_389 : decode code 389 = .ok (.ireturn, 1) := by decide +kernel
theorem d_Law_law_390 : decode code 390 = .ok (.aload_n 1, 1) := by decide +kernel
theorem d_Law_law_391 : decode code 391 = .ok (.aload_n 0, 1) := by decide +kernel
theorem d_Law_law_392 : decode code 392 = .ok (.iload_n 3, 1) := by decide +kernel
theorem d_Law_law_393 : decode code 393 = .ok (.iconst 1, 1) := by decide +kernel
theorem d_Law_law_394 : decode code 394 = .ok (.iadd, 1) := by decide +kernel
theorem d_Law_law_395 : decode code 395 = .ok (.iaload, 1) := by decide +kernel
theorem d_Law_law_396 : decode code 396 = .ok (.invokevirtual 68, 3) := by decide +kernel
theorem d_Law_law_399 : decode code 399 = .ok (.aload_n 2, 1) := by decide +kernel
theorem d_Law_law_400 : decode code 400 = .ok (.aload_n 0, 1) := by decide +kernel
theorem d_Law_law_401 : decode code 401 = .ok (.iload_n 3, 1) := by decide +kernel
theorem d_Law_law_402 : decode code 402 = .ok (.iconst 1, 1) := by decide +kernel
theorem d_Law_law_403 : decode code 403 = .ok (.iadd, 1) := by decide +kernel
theorem d_Law_law_404 : decode code 404 = .ok (.iaload, 1) := by decide +kernel
theorem d_Law_law_405 : decode code 405 = .ok (.invokevirtual 72, 3) := by decide +kernel
theorem d_Law_law_408 : decode code 408 = .ok (.lcmp, 1) := by decide +kernel
theorem d_Law_law_409 : decode code 409 = .ok (.ifCond .eq 72, 3) := by decide +kernel
theorem d_Law_law_412 : decode code 412 = .ok (.iconst 0, 1) := by decide +kernel
theorem d_Law_law_413 : decode code 413 = .ok (.ireturn, 1) := by decide +kernel
theorem d_Law_law_414 : decode code 414 = .ok (.aload_n 1, 1) := by decide +kernel
theorem d_Law_law_415 : decode code 415 = .ok (.aload_n 0, 1) := by decide +kernel
theorem d_Law_law_416 : decode code 416 = .ok (.iload_n 3, 1) := by decide +kernel
theorem d_Law_law_417 : decode code 417 = .ok (.iconst 1, 1) := by decide +kernel
theorem d_Law_law_418 : decode code 418 = .ok (.iadd, 1) := by decide +kernel
theorem d_Law_law_419 : decode code 419 = .ok (.iaload, 1) := by decide +kernel
theorem d_Law_law_420 : decode code 420 = .ok (.aload_n 0, 1) := by decide +kernel
theorem d_Law_law_421 : decode code 421 = .ok (.iload_n 3, 1) := by decide +kernel
theorem d_Law_law_422 : decode code 422 = .ok (.iconst 2, 1) := by decide +kernel
theorem d_Law_law_423 : decode code 423 = .ok (.iadd, 1) := by decide +kernel
theorem d_Law_law_424 : decode code 424 = .ok (.iaload, 1) := by decide +kernel
theorem d_Law_law_425 : decode code 425 = .ok (.aload_n 0, 1) := by decide +kernel
theorem d_Law_law_426 : decode code 426 = .ok (.iload_n 3, 1) := by decide +kernel
theorem d_Law_law_427 : decode code 427 = .ok (.iconst 3, 1) := by decide +kernel
theorem d_Law_law_428 : decode code 428 = .ok (.iadd, 1) := by decide +kernel
theorem d_Law_law_429 : decode code 429 = .ok (.iaload, 1) := by decide +kernel
theorem d_Law_law_430 : decode code 430 = .ok (.invokevirtual 73, 3) := by decide +kernel
theorem d_Law_law_433 : decode code 433 = .ok (.aload_n 2, 1) := by decide +kernel
theorem d_Law_law_434 : decode code 434 = .ok (.aload_n 0, 1) := by decide +kernel
theorem d_Law_law_435 : decode code 435 = .ok (.iload_n 3, 1) := by decide +kernel
theorem d_Law_law_436 : decode code 436 = .ok (.iconst 1, 1) := by decide +kernel
theorem d_Law_law_437 : decode code 437 = .ok (.iadd, 1) := by decide +kernel
theorem d_Law_law_438 : decode code 438 = .ok (.iaload, 1) := by decide +kernel
theorem d_Law_law_439 : decode code 439 = .ok (.aload_n 0, 1) := by decide +kernel
theorem d_Law_law_440 : decode code 440 = .ok (.iload_n 3, 1) := by decide +kernel
theorem d_Law_law_441 : decode code 441 = .ok (.iconst 2, 1) := by decide +kernel
theorem d_Law_law_442 : decode code 442 = .ok (.iadd, 1) := by decide +kernel
theorem d_Law_law_443 : decode code 443 = .ok (.iaload, 1) := by decide +kernel
theorem d_Law_law_444 : decode code 444 = .ok (.aload_n 0, 1) := by decide +kernel
theorem d_Law_law_445 : decode code 445 = .ok (.iload_n 3, 1) := by decide +kernel
theorem d_Law_law_446 : decode code 446 = .ok (.iconst 3, 1) := by decide +kernel
theorem d_Law_law_447 : decode code 447 = .ok (.iadd, 1) := by decide +kernel
theorem d_Law_law_448 : decode code 448 = .ok (.iaload, 1) := by decide +kernel
theorem d_Law_law_449 : decode code 449 = .ok (.invokevirtual 77, 3) := by decide +kernel
theorem d_Law_law_452 : decode code 452 = .ok (.lcmp, 1) := by decide +kernel
theorem d_Law_law_453 : decode code 453 = .ok (.ifCond .eq 28, 3) := by decide +kernel
theorem d_Law_law_456 : decode code 456 = .ok (.iconst 0, 1) := by decide +kernel
theorem d_Law_law_457 : decode code 457 = .ok (.ireturn, 1) := by decide +kernel
theorem d_Law_law_458 : decode code 458 = .ok (.aload_n 1, 1) := by decide +kernel
theorem d_Law_law_459 : decode code 459 = .ok (.aload_n 0, 1) := by decide +kernel
theorem d_Law_law_460 : decode code 460 = .ok (.iload_n 3, 1) := by decide +kernel
theorem d_Law_law_461 : decode code 461 = .ok (.iconst 1, 1) := by decide +kernel
theorem d_Law_law_462 : decode code 462 = .ok (.iadd, 1) := by decide +kernel
theorem d_Law_law_463 : decode code 463 = .ok (.iaload, 1) := by decide +kernel
theorem d_Law_law_464 : decode code 464 = .ok (.invokevirtual 78, 3) := by decide +kernel
theorem d_Law_law_467 : decode code 467 = .ok (.aload_n 2, 1) := by decide +kernel
theorem d_Law_law_468 : decode code 468 = .ok (.aload_n 0, 1) := by decide +kernel
theorem d_Law_law_469 : decode code 469 = .ok (.iload_n 3, 1) := by decide +kernel
theorem d_Law_law_470 : decode code 470 = .ok (.iconst 1, 1) := by decide +kernel
theorem d_Law_law_471 : decode code 471 = .ok (.iadd, 1) := by decide +kernel
theorem d_Law_law_472 : decode code 472 = .ok (.iaload, 1) := by decide +kernel
theorem d_Law_law_473 : decode code 473 = .ok (.invokevirtual 81, 3) := by decide +kernel
theorem d_Law_law_476 : decode code 476 = .ok (.if_icmp .eq 5, 3) := by decide +kernel
theorem d_Law_law_479 : decode code 479 = .ok (.iconst 0, 1) := by decide +kernel
theorem d_Law_law_480 : decode code 480 = .ok (.ireturn, 1) := by decide +kernel
theorem d_Law_law_481 : decode code 481 = .ok (.iinc 3 4, 3) := by decide +kernel
theorem d_Law_law_484 : decode code 484 = .ok (.goto (-446), 3) := by decide +kernel
theorem d_Law_law_487 : decode code 487 = .ok (.iconst 1, 1) := by decide +kernel
theorem d_Law_law_488 : decode code 488 = .ok (.ireturn, 1) := by decide +kernel
end
section
/-! The core: memory, a method's walk over it (RW), what the machine owes a walk. -/
abbrev mm_M : Type := Nat → Option va_E
def mup (M : mm_M) (a : Nat) (e : va_E) : mm_M := fun q => if q = a then some e else M q
theorem mup_self (M : mm_M) (a : Nat) (e : va_E) : mup M a e a = some e := by simp [mup]
theorem mup_ne (M : mm_M) {a q : Nat} (e : va_E) (h : q ≠ a) : mup M a e q = M q := by simp [mup, h]
theorem mup_get {M : mm_M} {a q : Nat} {e : va_E} {x : Option va_E} (h : q ≠ a) (hM : M q = x) : mup M a e q = x := by rw [mup_ne M e h]; exact hM
/-- D, the array classes by tag, the heap's size at the law's start, that heap, the addresses of the kinds, the switch's table, the script (address, length, numbers) -/
abbrev mm_G : Type := va_G × (Nat → ClassId) × Nat × Heap × (Nat → Nat) × Nat × Nat × Nat × (Nat → Int32)
abbrev gD (G : mm_G) : va_G := G.1
abbrev gK (G : mm_G) : Nat → ClassId := G.2.1
abbrev gh (G : mm_G) : Nat := G.2.2.1
abbrev gH (G : mm_G) : Heap := G.2.2.2.1
abbrev gad (G : mm_G) : Nat → Nat := G.2.2.2.2.1
abbrev gsw (G : mm_G) : Nat := G.2.2.2.2.2.1
abbrev gb (G : mm_G) : Nat := G.2.2.2.2.2.2.1
abbrev gL (G : mm_G) : Nat := G.2.2.2.2.2.2.2.1
abbrev gx (G : mm_G) : Nat → Int32 := G.2.2.2.2.2.2.2.2
def mm_cv (G : mm_G) (e : va_E) : va_E := match e with
  | .inl x => .inl (gK G x.1, x.2)
  | .inr o => .inr o
/-- the element type of an array's tag -/
def mm_ty (t : Nat) : FieldType := match t with
  | 0 => .int
  | 1 => .boolean
  | 2 => .long
  | 3 => .object "VersionGroup$Command"
  | 4 => .object "VersionGroup$Message"
  | _ => .object "VersionGroup$Node"
abbrev mm_tys (G : mm_G) : List (ClassId × FieldType) := [(gK G 0, mm_ty 0), (gK G 1, mm_ty 1), (gK G 2, mm_ty 2), (gK G 3, mm_ty 3), (gK G 4, mm_ty 4), (gK G 5, mm_ty 5)]
theorem mm_tys_at (G : mm_G) {t : Nat} (h : t < 6) : (mm_tys G)[t]? = some (gK G t, mm_ty t) := by
  match t, h with
  | 0, _ => rfl
  | 1, _ => rfl
  | 2, _ => rfl
  | 3, _ => rfl
  | 4, _ => rfl
  | 5, _ => rfl
/-- the words that a method carries: those that keep -/
def mm_keep (w : Cond) : Bool := (w.onTables && w.keeps) || (match w with | .arrayClass _ => true | _ => false)
def lwK : List Cond := lw_tbl.filter mm_keep
theorem lwK_good (y : MethodName) (b : ByteArray) (n : Nat) (r : Option FieldType) (h : Cond.code y b n r ∈ lwK) : GoodIn lwK (Cond.code y b n r :: lwK) := by
  have key : ∀ w ∈ lwK, w ∈ lwK ∧ ((w.onTables && w.keeps) = true ∨ ∃ ty, w = .arrayClass ty) := by
    intro w hw
    refine ⟨hw, ?_⟩
    have h2 := (List.mem_filter.mp hw).2
    unfold mm_keep at h2
    rw [Bool.or_eq_true] at h2
    rcases h2 with h2 | h2
    · exact Or.inl h2
    · right
      cases w <;> simp at h2
      exact ⟨_, rfl⟩
  intro w hw
  rcases List.mem_cons.mp hw with rfl | hw
  · exact key _ h
  · exact key w hw
theorem lwK_in {w : Cond} (i : Nat) (h : tables_1[i]? = some w) (hk : mm_keep w = true) : w ∈ lwK := List.mem_filter.mpr ⟨List.mem_append_right _ (List.mem_of_getElem? h), hk⟩
theorem lwK_pos {ws : List Cond} (ps : List Nat) (h : ws = ps.filterMap (fun i => tables_1[i]?)) (hk : ws.all mm_keep = true) : ∀ w ∈ ws, w ∈ lwK := by
  intro w hw
  have h1 := List.all_eq_true.mp hk w hw
  rw [h] at hw
  obtain ⟨i, -, hi⟩ := List.mem_filterMap.mp hw
  exact lwK_in i hi h1
theorem lwK_priv {w : Cond} (i : Nat) (h : (k2_sels lw_privs)[i]? = some w) (hk : mm_keep w = true) : w ∈ lwK := List.mem_filter.mpr ⟨List.mem_append_left _ (List.mem_of_getElem? h), hk⟩
/-- what the switch over the kinds holds -/
def mm_swv (i : Nat) : Value := .int ([0, 0, 1, 0, 2, 3, 4, 5, 6, 7].getD i 0)
/-- links to private constructors of other classes -/
def mm_nest (j : Nat) : Cond := match j with
  | 0 => .methodLinkNest "VersionGroup$Post" 21 ⟨"VersionGroup$Message", "<init>", "()V"⟩ "VersionGroup"
  | 1 => .methodLinkNest "VersionGroup$Message" 9 ⟨"VersionGroup$Copy", "<init>", "()V"⟩ "VersionGroup"
  | 2 => .methodLinkNest "VersionGroup$Node" 11 ⟨"VersionGroup$Memory", "<init>", "()V"⟩ "VersionGroup"
  | _ => .methodLinkNest "VersionGroup$Memory" 9 ⟨"VersionGroup$Copy", "<init>", "()V"⟩ "VersionGroup"
abbrev mm_A (G : mm_G) : Nat → Prop := fun q => gh G ≤ q
def mm_kinds : List String := ["MAP", "HEARD", "COMMAND", "ANSWER", "ASK", "REPORT", "FETCH", "ENTRIES", "WHOLE", "DROP"]
def mm_ord : List (String × String × String × List Int32) := [("java/lang/Enum", "ordinal", "I", [0, 1, 2, 3, 4, 5, 6, 7, 8, 9])]
/-- what the tables and the constants say, wherever the walk stands -/
def mm_K (G : mm_G) (U : State) : Prop :=
  va_K (gD G) vwCl (mm_tys G) U ∧
  va_En "VersionGroup$Kind" "LVersionGroup$Kind;" mm_kinds mm_ord (gad G) (mm_A G) U (gH G) ∧
  va_Z "VersionGroup$1" "$SwitchMap$VersionGroup$Kind" "[I" (.ref (gsw G)) (mm_A G) U (gH G) ∧
  va_T .int (gsw G) 10 mm_swv (mm_A G) U (gH G) ∧
  va_X (gb G) (gL G) (gx G) U (gH G) ∧ gb G < gh G ∧
  (va_AO "VersionGroup$Command" U ∧ va_AO "VersionGroup$Message" U ∧ va_AO "VersionGroup$Node" U) ∧ ∀ j, va_Nw (mm_nest j) U
theorem mm_nest_tab (j : Nat) : (mm_nest j).onTables = true := by
  match j with
  | 0 => rfl
  | 1 => rfl
  | 2 => rfl
  | _ + 3 => rfl
theorem mm_K.warm {G : mm_G} {u U : State} (hW : u.WarmedH U.vm) (h : mm_K G u) : mm_K G U := by
  have hvm := hW.alike
  obtain ⟨h1, h2, h3, h4, h5, h6, ⟨h7, h8, h9⟩, h10⟩ := h
  refine ⟨h1.moved hvm, h2.moved hvm, h3.moved hvm, h4.moved hvm, h5.moved hvm, h6, ⟨h7.moved hvm, h8.moved hvm, h9.moved hvm⟩, fun j => ?_⟩
  match j with
  | 0 => exact va_Nw.warmM hW (h10 0)
  | 1 => exact va_Nw.warmM hW (h10 1)
  | 2 => exact va_Nw.warmM hW (h10 2)
  | k + 3 => exact va_Nw.warmM hW (h10 (k + 3))
theorem mm_K.same {G : mm_G} {u U : State} (he : u.vm = U.vm) (h : mm_K G u) : mm_K G U := by
  have hvm : u.vm.Alike U.vm := he ▸ Vm.Alike.refl u.vm
  obtain ⟨h1, h2, h3, h4, h5, h6, ⟨h7, h8, h9⟩, h10⟩ := h
  exact ⟨h1.moved hvm, h2.moved hvm, h3.moved hvm, h4.moved hvm, h5.moved hvm, h6, ⟨h7.moved hvm, h8.moved hvm, h9.moved hvm⟩, fun j => va_Nw.same (mm_nest_tab j) he (h10 j)⟩
/-- the heap holds the memory -/
def mm_R (G : mm_G) (M : mm_M) (sz : Nat) (H : Heap) : Prop :=
  H.size = sz ∧ (∀ (a : Nat) (e : va_E), M a = some e → gh G ≤ a ∧ va_at (gD G) vwCl (a, mm_cv G e) H) ∧ (∀ q : Nat, q < gh G → H[q]? = (gH G)[q]?) ∧ gh G ≤ sz
theorem mm_R.set {G : mm_G} {M : mm_M} {sz a : Nat} {H H1 : Heap} {e : va_E} (h : mm_R G M sz H) (ha : gh G ≤ a) (he : va_at (gD G) vwCl (a, mm_cv G e) H1) (hz : H1.size = H.size) (oq : ∀ q : Nat, q ≠ a → H1[q]? = H[q]?) : mm_R G (mup M a e) sz H1 := by
  obtain ⟨h1, h2, h3, h4⟩ := h
  refine ⟨hz.trans h1, fun b x hb => ?_, fun q hq => ?_, h4⟩
  · by_cases hba : b = a
    · subst hba
      rw [mup_self] at hb
      cases hb
      exact ⟨ha, he⟩
    · rw [mup_ne M e hba] at hb
      exact ⟨(h2 b x hb).1, (h2 b x hb).2.kept (oq b hba)⟩
  · rw [oq q (by omega)]
    exact h3 q hq
theorem mm_R.push {G : mm_G} {M : mm_M} {sz : Nat} {H H1 : Heap} {e : va_E} (h : mm_R G M sz H) (he : va_at (gD G) vwCl (sz, mm_cv G e) H1) (hz : H1.size = sz + 1) (oq : ∀ q : Nat, q < sz → H1[q]? = H[q]?) : mm_R G (mup M sz e) (sz + 1) H1 := by
  obtain ⟨h1, h2, h3, h4⟩ := h
  refine ⟨hz, fun b x hb => ?_, fun q hq => ?_, by omega⟩
  · by_cases hba : b = sz
    · subst hba
      rw [mup_self] at hb
      cases hb
      exact ⟨h4, he⟩
    · rw [mup_ne M e hba] at hb
      have hl : b < sz := by
        have := (h2 b x hb).2.lt
        simp only at this
        omega
      exact ⟨(h2 b x hb).1, (h2 b x hb).2.kept (oq b hl)⟩
  · rw [oq q (by omega)]
    exact h3 q hq
/-- a method: its class, its code, its locals, its answer's type, its name -/
abbrev mm_Y : Type := String × ByteArray × Nat × Option FieldType × String
def mm_C (G : mm_G) (Y : mm_Y) (p : Program) (s : State) (m : MethodId) (args : Array Value) (meth : Method) (c : Code) : Prop :=
  p.tables.exec = Jvm.exec ∧ c.code = Y.2.1 ∧ meth.sig.returnType = Y.2.2.2.1 ∧ c.maxLocals = Y.2.2.1 ∧ meth.locks = false ∧ s.vm.findClass Y.1 = some m.cls ∧ meth.name = Y.2.2.2.2 ∧ (∀ w ∈ lwK, w.before args s = true) ∧ mm_K G s
abbrev mm_Zt : Type := List Frame → Array Value → State → State → Prop
/-- a walk: wherever the machine stands so, it comes to Z -/
def RW (l : Launch) (G : mm_G) (Y : mm_Y) (R : Room) (Z : mm_Zt) (kc ks pc : Nat) (lv : List (Nat × Value)) (st : List Value) (M : mm_M) (sz : Nat) : Prop :=
  ∀ (p : Program) (e : Env) (s : State) (m : MethodId) (args : Array Value) (below : List Frame) (meth : Method) (c : Code), mm_C G Y p s m args meth c →
  ∀ (H : Heap) (locs : List Loc) (ls : Array Slot) (cells slots : Nat), mm_R G M sz H → (∀ q ∈ locs, gh G ≤ q.base) → lv_has ls Y.2.2.1 lv → cells + kc ≤ R.cells → slots + ks ≤ R.slots →
  W p l e R s m args below meth c H locs cells slots (Z below args s) (F0 m pc ls st)
def mm_Q (G : mm_G) (QQ : Option Value → mm_M → Nat → Prop) : Array Value → State → Outcome → State → Prop := fun _ _ oc t => ∃ (r : Option Value) (M : mm_M) (sz : Nat), oc = .returned r ∧ QQ r M sz ∧ mm_R G M sz t.heap
/-- a method's own end -/
def mm_Z (G : mm_G) (R : Room) (QQ : Option Value → mm_M → Nat → Prop) : mm_Zt := fun below args s => MQ below (mm_Q G QQ) args s R.cells R.slots (fun q => gh G ≤ q)
abbrev mm_y (Y : mm_Y) (desc : String) : MethodName := ⟨Y.1, Y.2.2.2.2, desc⟩
/-- a method's contract at one start -/
def CT (l : Launch) (G : mm_G) (Y : mm_Y) (desc : String) (R : Room) (As : List Value) (M : mm_M) (sz : Nat) (QQ : Option Value → mm_M → Nat → Prop) : Prop :=
  Met l (mm_y Y desc) (Cond.code (mm_y Y desc) Y.2.1 Y.2.2.1 Y.2.2.2.1 :: lwK) R (va_Pc As (fun U => mm_K G U ∧ mm_R G M sz U.heap)) (mm_Q G QQ) R.cells R.slots (fun q => gh G ≤ q)
theorem CT.of {l : Launch} {G : mm_G} {Y : mm_Y} {desc : String} {R : Room} {As : List Value} {M : mm_M} {sz : Nat} {QQ : Option Value → mm_M → Nat → Prop} (hy : plainName Y.1 = true) (hn : (lg_sl As).length ≤ Y.2.2.1) (h : RW l G Y R (mm_Z G R QQ) R.cells R.slots 0 (lv_args 0 As) [] M sz) : CT l G Y desc R As M sz QQ := by
  unfold CT
  refine Met.ofW (cc := Y.2.1) (maxL := Y.2.2.1) (ret := Y.2.2.2.1) hy rfl ?_
  intro p e s m args below meth c s₁ B hml hv
  obtain ⟨rfl, hK, hR⟩ := hv
  have hts := atoms_spec (ws := Cond.code (mm_y Y desc) Y.2.1 Y.2.2.1 Y.2.2.2.1 :: lwK) B.pre
  have hown : s.vm.findClass Y.1 = some m.cls := findClass_of_methodNamed B.named
  have hnm : meth.name = Y.2.2.2.2 := (name_of_methodNamed B.named B.method).1
  have hl := lv_entry As (n := Y.2.2.1) hn
  rw [lg_entry_eq]
  exact h p e s m As.toArray below meth c ⟨B.exec, B.bytes, B.returns, hml, B.notSynchronized, hown, hnm, fun w hw => hts w (List.mem_cons_of_mem _ hw), hK⟩ s.heap [] _ 0 0 hR (fun q hq => by cases hq) hl (by simp [headSpec]) (by simp [headSpec])
theorem lk_mem {lv : List (Nat × Value)} {i : Nat} {v : Value} (h : lv.lookup i = some v) : (i, v) ∈ lv := by
  induction lv with
  | nil => simp at h
  | cons q t ih =>
    obtain ⟨j, w⟩ := q
    rw [List.lookup_cons] at h
    by_cases hj : i = j
    · subst hj
      simp at h
      subst h
      exact List.mem_cons_self
    · have : (i == j) = false := by simpa using hj
      rw [this] at h
      exact List.mem_cons_of_mem _ (ih h)
end
section
section RULES
variable {l : Launch} {G : mm_G} {Y : mm_Y} {R : Room} {Z : mm_Zt} {kc ks pc : Nat} {lv : List (Nat × Value)} {st : List Value} {M : mm_M} {sz : Nat}
theorem rw_iconst {n : Int} {v : Int32} (hd : decode Y.2.1 pc = .ok (.iconst n, 1)) (hv : Int32.ofInt n = v) (k : RW l G Y R Z kc ks (pc + 1) lv (.int v :: st) M sz) : RW l G Y R Z kc ks (pc) lv (st) M sz := by
  intro p e s m args below meth c C H locs ls cells slots hR hL hl h1 h2
  exact lv_iconst C.1 C.2.1 hd hv (k p e s m args below meth c C H locs ls cells slots hR hL hl h1 h2)
theorem rw_bipush {n : Int} {v : Int32} (hd : decode Y.2.1 pc = .ok (.bipush n, 2)) (hv : (Int8.ofInt n).toInt32 = v) (k : RW l G Y R Z kc ks (pc + 2) lv (.int v :: st) M sz) : RW l G Y R Z kc ks (pc) lv (st) M sz := by
  intro p e s m args below meth c C H locs ls cells slots hR hL hl h1 h2
  exact lv_bipush C.1 C.2.1 hd hv (k p e s m args below meth c C H locs ls cells slots hR hL hl h1 h2)
theorem rw_sipush {n : Int} {v : Int32} (hd : decode Y.2.1 pc = .ok (.sipush n, 3)) (hv : (Int16.ofInt n).toInt32 = v) (k : RW l G Y R Z kc ks (pc + 3) lv (.int v :: st) M sz) : RW l G Y R Z kc ks (pc) lv (st) M sz := by
  intro p e s m args below meth c C H locs ls cells slots hR hL hl h1 h2
  exact lv_sipush C.1 C.2.1 hd hv (k p e s m args below meth c C H locs ls cells slots hR hL hl h1 h2)
theorem rw_lconst {n : Fin 2} {v : Int64} (hd : decode Y.2.1 pc = .ok (.lconst n, 1)) (hv : Int64.ofNat (n : Nat) = v) (k : RW l G Y R Z kc ks (pc + 1) lv (.long v :: st) M sz) : RW l G Y R Z kc ks (pc) lv (st) M sz := by
  intro p e s m args below meth c C H locs ls cells slots hR hL hl h1 h2
  exact lv_lconst C.1 C.2.1 hd hv (k p e s m args below meth c C H locs ls cells slots hR hL hl h1 h2)
theorem rw_null (hd : decode Y.2.1 pc = .ok (.aconst_null, 1)) (k : RW l G Y R Z kc ks (pc + 1) lv (.null :: st) M sz) : RW l G Y R Z kc ks (pc) lv (st) M sz := by
  intro p e s m args below meth c C H locs ls cells slots hR hL hl h1 h2
  exact lv_null C.1 C.2.1 hd (k p e s m args below meth c C H locs ls cells slots hR hL hl h1 h2)
theorem rw_ldc {i : Nat} {v : Int32} (hd : decode Y.2.1 pc = .ok (.ldc i, 2)) (hw : Cond.constant Y.1 i v ∈ lwK) (k : RW l G Y R Z kc ks (pc + 2) lv (.int v :: st) M sz) : RW l G Y R Z kc ks (pc) lv (st) M sz := by
  intro p e s m args below meth c C H locs ls cells slots hR hL hl h1 h2
  exact lv_ldc C.1 C.2.1 C.2.2.2.2.2.1 (C.2.2.2.2.2.2.2.1 _ hw) hd (k p e s m args below meth c C H locs ls cells slots hR hL hl h1 h2)
theorem rw_ldc2 {i : Nat} {v : Int64} (hd : decode Y.2.1 pc = .ok (.ldc2_w i, 3)) (hw : Cond.constantLong Y.1 i v ∈ lwK) (k : RW l G Y R Z kc ks (pc + 3) lv (.long v :: st) M sz) : RW l G Y R Z kc ks (pc) lv (st) M sz := by
  intro p e s m args below meth c C H locs ls cells slots hR hL hl h1 h2
  exact lv_ldc2 C.1 C.2.1 C.2.2.2.2.2.1 (C.2.2.2.2.2.2.2.1 _ hw) hd (k p e s m args below meth c C H locs ls cells slots hR hL hl h1 h2)
theorem rw_iload_n {j : Fin 4} {x : Int32} (hd : decode Y.2.1 pc = .ok (.iload_n j, 1)) (hv : lv.lookup (j : Nat) = some (.int x)) (k : RW l G Y R Z kc ks (pc + 1) lv (.int x :: st) M sz) : RW l G Y R Z kc ks (pc) lv (st) M sz := by
  intro p e s m args below meth c C H locs ls cells slots hR hL hl h1 h2
  exact lv_iload_n C.1 C.2.1 hd rfl (hl.2.2 (_, _) (lk_mem hv)) (k p e s m args below meth c C H locs ls cells slots hR hL hl h1 h2)
theorem rw_iload {j : Nat} {x : Int32} (hd : decode Y.2.1 pc = .ok (.iload j, 2)) (hv : lv.lookup j = some (.int x)) (k : RW l G Y R Z kc ks (pc + 2) lv (.int x :: st) M sz) : RW l G Y R Z kc ks (pc) lv (st) M sz := by
  intro p e s m args below meth c C H locs ls cells slots hR hL hl h1 h2
  exact lv_iload C.1 C.2.1 hd (hl.2.2 (_, _) (lk_mem hv)) (k p e s m args below meth c C H locs ls cells slots hR hL hl h1 h2)
theorem rw_lload_n {j : Fin 4} {x : Int64} (hd : decode Y.2.1 pc = .ok (.lload_n j, 1)) (hv : lv.lookup (j : Nat) = some (.long x)) (k : RW l G Y R Z kc ks (pc + 1) lv (.long x :: st) M sz) : RW l G Y R Z kc ks (pc) lv (st) M sz := by
  intro p e s m args below meth c C H locs ls cells slots hR hL hl h1 h2
  exact lv_lload_n C.1 C.2.1 hd rfl (hl.2.2 (_, _) (lk_mem hv)) (k p e s m args below meth c C H locs ls cells slots hR hL hl h1 h2)
theorem rw_lload {j : Nat} {x : Int64} (hd : decode Y.2.1 pc = .ok (.lload j, 2)) (hv : lv.lookup j = some (.long x)) (k : RW l G Y R Z kc ks (pc + 2) lv (.long x :: st) M sz) : RW l G Y R Z kc ks (pc) lv (st) M sz := by
  intro p e s m args below meth c C H locs ls cells slots hR hL hl h1 h2
  exact lv_lload C.1 C.2.1 hd (hl.2.2 (_, _) (lk_mem hv)) (k p e s m args below meth c C H locs ls cells slots hR hL hl h1 h2)
def mm_ref (v : Value) : Prop := v = .null ∨ ∃ a, v = .ref a
theorem mm_ref_r (a : Nat) : mm_ref (.ref a) := Or.inr ⟨a, rfl⟩
theorem mm_ref_n : mm_ref .null := Or.inl rfl
theorem mm_ref_o (o : Option Nat) : mm_ref (va_rf o) := by cases o with | none => exact Or.inl rfl | some a => exact Or.inr ⟨a, rfl⟩
theorem rw_aload_n {j : Fin 4} {v : Value} (hd : decode Y.2.1 pc = .ok (.aload_n j, 1)) (hv : lv.lookup (j : Nat) = some v) (hr : mm_ref v) (k : RW l G Y R Z kc ks (pc + 1) lv (v :: st) M sz) : RW l G Y R Z kc ks (pc) lv (st) M sz := by
  intro p e s m args below meth c C H locs ls cells slots hR hL hl h1 h2
  rcases hr with rfl | ⟨a, rfl⟩
  · exact lv_aload_nN C.1 C.2.1 hd rfl (hl.2.2 (_, _) (lk_mem hv)) (k p e s m args below meth c C H locs ls cells slots hR hL hl h1 h2)
  · exact lv_aload_n C.1 C.2.1 hd rfl (hl.2.2 (_, _) (lk_mem hv)) (k p e s m args below meth c C H locs ls cells slots hR hL hl h1 h2)
theorem rw_aload {j : Nat} {v : Value} (hd : decode Y.2.1 pc = .ok (.aload j, 2)) (hv : lv.lookup j = some v) (hr : mm_ref v) (k : RW l G Y R Z kc ks (pc + 2) lv (v :: st) M sz) : RW l G Y R Z kc ks (pc) lv (st) M sz := by
  intro p e s m args below meth c C H locs ls cells slots hR hL hl h1 h2
  rcases hr with rfl | ⟨a, rfl⟩
  · exact lv_aloadN C.1 C.2.1 hd (hl.2.2 (_, _) (lk_mem hv)) (k p e s m args below meth c C H locs ls cells slots hR hL hl h1 h2)
  · exact lv_aload C.1 C.2.1 hd (hl.2.2 (_, _) (lk_mem hv)) (k p e s m args below meth c C H locs ls cells slots hR hL hl h1 h2)
def lv_s1 (lv : List (Nat × Value)) (i : Nat) (v : Value) : List (Nat × Value) := (i, v) :: lv.filter (fun q => !(q.1 == i) && !(q.1 + 1 == i && q.2.category == 2))
def lv_s2 (lv : List (Nat × Value)) (i : Nat) (v : Value) : List (Nat × Value) := (i, v) :: lv.filter (fun q => !(q.1 == i) && (!(q.1 == i + 1) && !(q.1 + 1 == i && q.2.category == 2)))
theorem rw_istore_n {j : Fin 4} {x : Int32} {lv' : List (Nat × Value)} (hd : decode Y.2.1 pc = .ok (.istore_n j, 1)) (hj : (j : Nat) < Y.2.2.1) (he : lv_s1 lv j (.int x) = lv') (k : RW l G Y R Z kc ks (pc + 1) lv' (st) M sz) : RW l G Y R Z kc ks (pc) lv (.int x :: st) M sz := by
  intro p e s m args below meth c C H locs ls cells slots hR hL hl h1 h2
  exact lv_istore_n C.1 C.2.1 hd rfl hl hj he (fun ls' hl' => k p e s m args below meth c C H locs ls' cells slots hR hL hl' h1 h2)
theorem rw_istore {j : Nat} {x : Int32} {lv' : List (Nat × Value)} (hd : decode Y.2.1 pc = .ok (.istore j, 2)) (hj : j < Y.2.2.1) (he : lv_s1 lv j (.int x) = lv') (k : RW l G Y R Z kc ks (pc + 2) lv' (st) M sz) : RW l G Y R Z kc ks (pc) lv (.int x :: st) M sz := by
  intro p e s m args below meth c C H locs ls cells slots hR hL hl h1 h2
  exact lv_istore C.1 C.2.1 hd hl hj he (fun ls' hl' => k p e s m args below meth c C H locs ls' cells slots hR hL hl' h1 h2)
theorem rw_lstore_n {j : Fin 4} {x : Int64} {lv' : List (Nat × Value)} (hd : decode Y.2.1 pc = .ok (.lstore_n j, 1)) (hj : (j : Nat) + 1 < Y.2.2.1) (he : lv_s2 lv j (.long x) = lv') (k : RW l G Y R Z kc ks (pc + 1) lv' (st) M sz) : RW l G Y R Z kc ks (pc) lv (.long x :: st) M sz := by
  intro p e s m args below meth c C H locs ls cells slots hR hL hl h1 h2
  exact lv_lstore_n C.1 C.2.1 hd rfl hl hj he (fun ls' hl' => k p e s m args below meth c C H locs ls' cells slots hR hL hl' h1 h2)
theorem rw_lstore {j : Nat} {x : Int64} {lv' : List (Nat × Value)} (hd : decode Y.2.1 pc = .ok (.lstore j, 2)) (hj : j + 1 < Y.2.2.1) (he : lv_s2 lv j (.long x) = lv') (k : RW l G Y R Z kc ks (pc + 2) lv' (st) M sz) : RW l G Y R Z kc ks (pc) lv (.long x :: st) M sz := by
  intro p e s m args below meth c C H locs ls cells slots hR hL hl h1 h2
  exact lv_lstore C.1 C.2.1 hd hl hj he (fun ls' hl' => k p e s m args below meth c C H locs ls' cells slots hR hL hl' h1 h2)
theorem rw_astore_n {j : Fin 4} {v : Value} {lv' : List (Nat × Value)} (hd : decode Y.2.1 pc = .ok (.astore_n j, 1)) (hj : (j : Nat) < Y.2.2.1) (hr : mm_ref v) (he : lv_s1 lv j v = lv') (k : RW l G Y R Z kc ks (pc + 1) lv' (st) M sz) : RW l G Y R Z kc ks (pc) lv (v :: st) M sz := by
  intro p e s m args below meth c C H locs ls cells slots hR hL hl h1 h2
  rcases hr with rfl | ⟨a, rfl⟩
  · exact lv_astore_nN C.1 C.2.1 hd rfl hl hj he (fun ls' hl' => k p e s m args below meth c C H locs ls' cells slots hR hL hl' h1 h2)
  · exact lv_astore_n C.1 C.2.1 hd rfl hl hj he (fun ls' hl' => k p e s m args below meth c C H locs ls' cells slots hR hL hl' h1 h2)
theorem rw_astore {j : Nat} {v : Value} {lv' : List (Nat × Value)} (hd : decode Y.2.1 pc = .ok (.astore j, 2)) (hj : j < Y.2.2.1) (hr : mm_ref v) (he : lv_s1 lv j v = lv') (k : RW l G Y R Z kc ks (pc + 2) lv' (st) M sz) : RW l G Y R Z kc ks (pc) lv (v :: st) M sz := by
  intro p e s m args below meth c C H locs ls cells slots hR hL hl h1 h2
  rcases hr with rfl | ⟨a, rfl⟩
  · exact lv_astoreN C.1 C.2.1 hd hl hj he (fun ls' hl' => k p e s m args below meth c C H locs ls' cells slots hR hL hl' h1 h2)
  · exact lv_astore C.1 C.2.1 hd hl hj he (fun ls' hl' => k p e s m args below meth c C H locs ls' cells slots hR hL hl' h1 h2)
theorem rw_iinc {j : Nat} {n : Int} {x v : Int32} {lv' : List (Nat × Value)} (hd : decode Y.2.1 pc = .ok (.iinc j n, 3)) (hj : j < Y.2.2.1) (hx : lv.lookup j = some (.int x)) (hv : x + Int32.ofInt n = v) (he : lv_s1 lv j (.int v) = lv') (k : RW l G Y R Z kc ks (pc + 3) lv' (st) M sz) : RW l G Y R Z kc ks (pc) lv (st) M sz := by
  intro p e s m args below meth c C H locs ls cells slots hR hL hl h1 h2
  obtain ⟨i, hi⟩ := List.getElem?_of_mem (lk_mem hx)
  exact lv_iinc C.1 C.2.1 hd hl hi hv hj he (fun ls' hl' => k p e s m args below meth c C H locs ls' cells slots hR hL hl' h1 h2)
theorem rw_dup {v : Value} (hd : decode Y.2.1 pc = .ok (.dup, 1)) (hv : v.category = 1) (k : RW l G Y R Z kc ks (pc + 1) lv (v :: v :: st) M sz) : RW l G Y R Z kc ks (pc) lv (v :: st) M sz := by
  intro p e s m args below meth c C H locs ls cells slots hR hL hl h1 h2
  exact lv_dup C.1 C.2.1 hd hv (k p e s m args below meth c C H locs ls cells slots hR hL hl h1 h2)
theorem rw_pop {v : Value} (hd : decode Y.2.1 pc = .ok (.pop, 1)) (hv : v.category = 1) (k : RW l G Y R Z kc ks (pc + 1) lv (st) M sz) : RW l G Y R Z kc ks (pc) lv (v :: st) M sz := by
  intro p e s m args below meth c C H locs ls cells slots hR hL hl h1 h2
  exact lv_pop C.1 C.2.1 hd hv (k p e s m args below meth c C H locs ls cells slots hR hL hl h1 h2)
theorem rw_dup_x1 {v w : Value} (hd : decode Y.2.1 pc = .ok (.dup_x1, 1)) (hv : v.category = 1) (hw : w.category = 1) (k : RW l G Y R Z kc ks (pc + 1) lv (v :: w :: v :: st) M sz) : RW l G Y R Z kc ks (pc) lv (v :: w :: st) M sz := by
  intro p e s m args below meth c C H locs ls cells slots hR hL hl h1 h2
  exact lv_dup_x1 C.1 C.2.1 hd hv hw (k p e s m args below meth c C H locs ls cells slots hR hL hl h1 h2)
theorem rw_dup2 {v w : Value} (hd : decode Y.2.1 pc = .ok (.dup2, 1)) (hv : v.category = 1) (hw : w.category = 1) (k : RW l G Y R Z kc ks (pc + 1) lv (v :: w :: v :: w :: st) M sz) : RW l G Y R Z kc ks (pc) lv (v :: w :: st) M sz := by
  intro p e s m args below meth c C H locs ls cells slots hR hL hl h1 h2
  exact lv_dup2_11 C.1 C.2.1 hd hv hw (k p e s m args below meth c C H locs ls cells slots hR hL hl h1 h2)
theorem rw_iadd {x y : Int32} (hd : decode Y.2.1 pc = .ok (.iadd, 1)) (k : RW l G Y R Z kc ks (pc + 1) lv (.int (x + y) :: st) M sz) : RW l G Y R Z kc ks (pc) lv (.int y :: .int x :: st) M sz := by
  intro p e s m args below meth c C H locs ls cells slots hR hL hl h1 h2
  exact lv_iadd C.1 C.2.1 hd (k p e s m args below meth c C H locs ls cells slots hR hL hl h1 h2)
theorem rw_isub {x y : Int32} (hd : decode Y.2.1 pc = .ok (.isub, 1)) (k : RW l G Y R Z kc ks (pc + 1) lv (.int (x - y) :: st) M sz) : RW l G Y R Z kc ks (pc) lv (.int y :: .int x :: st) M sz := by
  intro p e s m args below meth c C H locs ls cells slots hR hL hl h1 h2
  exact lv_isub C.1 C.2.1 hd (k p e s m args below meth c C H locs ls cells slots hR hL hl h1 h2)
theorem rw_imul {x y : Int32} (hd : decode Y.2.1 pc = .ok (.imul, 1)) (k : RW l G Y R Z kc ks (pc + 1) lv (.int (x * y) :: st) M sz) : RW l G Y R Z kc ks (pc) lv (.int y :: .int x :: st) M sz := by
  intro p e s m args below meth c C H locs ls cells slots hR hL hl h1 h2
  exact lv_imul C.1 C.2.1 hd (k p e s m args below meth c C H locs ls cells slots hR hL hl h1 h2)
theorem rw_iand {x y : Int32} (hd : decode Y.2.1 pc = .ok (.iand, 1)) (k : RW l G Y R Z kc ks (pc + 1) lv (.int (x &&& y) :: st) M sz) : RW l G Y R Z kc ks (pc) lv (.int y :: .int x :: st) M sz := by
  intro p e s m args below meth c C H locs ls cells slots hR hL hl h1 h2
  exact lv_iand C.1 C.2.1 hd (k p e s m args below meth c C H locs ls cells slots hR hL hl h1 h2)
theorem rw_ior {x y : Int32} (hd : decode Y.2.1 pc = .ok (.ior, 1)) (k : RW l G Y R Z kc ks (pc + 1) lv (.int (x ||| y) :: st) M sz) : RW l G Y R Z kc ks (pc) lv (.int y :: .int x :: st) M sz := by
  intro p e s m args below meth c C H locs ls cells slots hR hL hl h1 h2
  exact lv_ior C.1 C.2.1 hd (k p e s m args below meth c C H locs ls cells slots hR hL hl h1 h2)
theorem rw_ixor {x y : Int32} (hd : decode Y.2.1 pc = .ok (.ixor, 1)) (k : RW l G Y R Z kc ks (pc + 1) lv (.int (x ^^^ y) :: st) M sz) : RW l G Y R Z kc ks (pc) lv (.int y :: .int x :: st) M sz := by
  intro p e s m args below meth c C H locs ls cells slots hR hL hl h1 h2
  exact lv_ixor C.1 C.2.1 hd (k p e s m args below meth c C H locs ls cells slots hR hL hl h1 h2)
theorem rw_ishl {x y : Int32} (hd : decode Y.2.1 pc = .ok (.ishl, 1)) (k : RW l G Y R Z kc ks (pc + 1) lv (.int (x <<< (y &&& 31)) :: st) M sz) : RW l G Y R Z kc ks (pc) lv (.int y :: .int x :: st) M sz := by
  intro p e s m args below meth c C H locs ls cells slots hR hL hl h1 h2
  exact lv_ishl C.1 C.2.1 hd (k p e s m args below meth c C H locs ls cells slots hR hL hl h1 h2)
theorem rw_ishr {x y : Int32} (hd : decode Y.2.1 pc = .ok (.ishr, 1)) (k : RW l G Y R Z kc ks (pc + 1) lv (.int (x >>> (y &&& 31)) :: st) M sz) : RW l G Y R Z kc ks (pc) lv (.int y :: .int x :: st) M sz := by
  intro p e s m args below meth c C H locs ls cells slots hR hL hl h1 h2
  exact lv_ishr C.1 C.2.1 hd (k p e s m args below meth c C H locs ls cells slots hR hL hl h1 h2)
theorem rw_idiv {x y : Int32} (hd : decode Y.2.1 pc = .ok (.idiv, 1)) (hy : ¬ y = 0) (k : RW l G Y R Z kc ks (pc + 1) lv (.int (x / y) :: st) M sz) : RW l G Y R Z kc ks (pc) lv (.int y :: .int x :: st) M sz := by
  intro p e s m args below meth c C H locs ls cells slots hR hL hl h1 h2
  exact lv_idiv C.1 C.2.1 hd hy (k p e s m args below meth c C H locs ls cells slots hR hL hl h1 h2)
theorem rw_irem {x y : Int32} (hd : decode Y.2.1 pc = .ok (.irem, 1)) (hy : ¬ y = 0) (k : RW l G Y R Z kc ks (pc + 1) lv (.int (x - x / y * y) :: st) M sz) : RW l G Y R Z kc ks (pc) lv (.int y :: .int x :: st) M sz := by
  intro p e s m args below meth c C H locs ls cells slots hR hL hl h1 h2
  exact lv_irem C.1 C.2.1 hd hy (k p e s m args below meth c C H locs ls cells slots hR hL hl h1 h2)
theorem rw_iushr {x y v : Int32} (hd : decode Y.2.1 pc = .ok (.iushr, 1)) (hv : (x.toUInt32 >>> (y.toUInt32 &&& Int32.toUInt32 31)).toInt32 = v) (k : RW l G Y R Z kc ks (pc + 1) lv (.int v :: st) M sz) : RW l G Y R Z kc ks (pc) lv (.int y :: .int x :: st) M sz := by
  intro p e s m args below meth c C H locs ls cells slots hR hL hl h1 h2
  exact lv_iushr C.1 C.2.1 hd hv (k p e s m args below meth c C H locs ls cells slots hR hL hl h1 h2)
theorem rw_land {x y : Int64} (hd : decode Y.2.1 pc = .ok (.land, 1)) (k : RW l G Y R Z kc ks (pc + 1) lv (.long (x &&& y) :: st) M sz) : RW l G Y R Z kc ks (pc) lv (.long y :: .long x :: st) M sz := by
  intro p e s m args below meth c C H locs ls cells slots hR hL hl h1 h2
  exact lv_land C.1 C.2.1 hd (k p e s m args below meth c C H locs ls cells slots hR hL hl h1 h2)
theorem rw_lor {x y : Int64} (hd : decode Y.2.1 pc = .ok (.lor, 1)) (k : RW l G Y R Z kc ks (pc + 1) lv (.long (x ||| y) :: st) M sz) : RW l G Y R Z kc ks (pc) lv (.long y :: .long x :: st) M sz := by
  intro p e s m args below meth c C H locs ls cells slots hR hL hl h1 h2
  exact lv_lor C.1 C.2.1 hd (k p e s m args below meth c C H locs ls cells slots hR hL hl h1 h2)
theorem rw_lxor {x y : Int64} (hd : decode Y.2.1 pc = .ok (.lxor, 1)) (k : RW l G Y R Z kc ks (pc + 1) lv (.long (x ^^^ y) :: st) M sz) : RW l G Y R Z kc ks (pc) lv (.long y :: .long x :: st) M sz := by
  intro p e s m args below meth c C H locs ls cells slots hR hL hl h1 h2
  exact lv_lxor C.1 C.2.1 hd (k p e s m args below meth c C H locs ls cells slots hR hL hl h1 h2)
theorem rw_lshl {x v : Int64} {y : Int32} (hd : decode Y.2.1 pc = .ok (.lshl, 1)) (hv : x <<< (y.toInt64 &&& 63) = v) (k : RW l G Y R Z kc ks (pc + 1) lv (.long v :: st) M sz) : RW l G Y R Z kc ks (pc) lv (.int y :: .long x :: st) M sz := by
  intro p e s m args below meth c C H locs ls cells slots hR hL hl h1 h2
  exact lv_lshl C.1 C.2.1 hd hv (k p e s m args below meth c C H locs ls cells slots hR hL hl h1 h2)
theorem rw_lushr {x v : Int64} {y : Int32} (hd : decode Y.2.1 pc = .ok (.lushr, 1)) (hv : (x.toUInt64 >>> (y.toInt64.toUInt64 &&& Int64.toUInt64 63)).toInt64 = v) (k : RW l G Y R Z kc ks (pc + 1) lv (.long v :: st) M sz) : RW l G Y R Z kc ks (pc) lv (.int y :: .long x :: st) M sz := by
  intro p e s m args below meth c C H locs ls cells slots hR hL hl h1 h2
  exact lv_lushr C.1 C.2.1 hd hv (k p e s m args below meth c C H locs ls cells slots hR hL hl h1 h2)
theorem rw_i2l {x : Int32} {v : Int64} (hd : decode Y.2.1 pc = .ok (.i2l, 1)) (hv : x.toInt64 = v) (k : RW l G Y R Z kc ks (pc + 1) lv (.long v :: st) M sz) : RW l G Y R Z kc ks (pc) lv (.int x :: st) M sz := by
  intro p e s m args below meth c C H locs ls cells slots hR hL hl h1 h2
  exact lv_i2l C.1 C.2.1 hd hv (k p e s m args below meth c C H locs ls cells slots hR hL hl h1 h2)
theorem rw_lcmp {x y : Int64} (hd : decode Y.2.1 pc = .ok (.lcmp, 1)) (k : RW l G Y R Z kc ks (pc + 1) lv (.int (lg_cmp x y) :: st) M sz) : RW l G Y R Z kc ks (pc) lv (.long y :: .long x :: st) M sz := by
  intro p e s m args below meth c C H locs ls cells slots hR hL hl h1 h2
  exact W.lcmp C.1 C.2.1 hd (k p e s m args below meth c C H locs ls cells slots hR hL hl h1 h2)
theorem rw_icmp_eq {x y : Int32} {off : Int} {tgt : Nat} (hd : decode Y.2.1 pc = .ok (.if_icmp .eq off, 3)) (ht : (pc : Int) + off = (tgt : Int)) (kt : x = y → RW l G Y R Z kc ks (tgt) lv (st) M sz) (kf : ¬ x = y → RW l G Y R Z kc ks (pc + 3) lv (st) M sz) : RW l G Y R Z kc ks (pc) lv (.int y :: .int x :: st) M sz := by
  intro p e s m args below meth c C H locs ls cells slots hR hL hl h1 h2
  exact lv_icmp_eq C.1 C.2.1 hd ht (fun q => kt q p e s m args below meth c C H locs ls cells slots hR hL hl h1 h2) (fun q => kf q p e s m args below meth c C H locs ls cells slots hR hL hl h1 h2)
theorem rw_icmp_eq_t {x y : Int32} {off : Int} {tgt : Nat} (hd : decode Y.2.1 pc = .ok (.if_icmp .eq off, 3)) (ht : (pc : Int) + off = (tgt : Int)) (q : x = y) (k : RW l G Y R Z kc ks (tgt) lv (st) M sz) : RW l G Y R Z kc ks (pc) lv (.int y :: .int x :: st) M sz := rw_icmp_eq hd ht (fun _ => k) (fun n => absurd q (by first | exact n | (intro z; exact z n)))
theorem rw_icmp_eq_f {x y : Int32} {off : Int} {tgt : Nat} (hd : decode Y.2.1 pc = .ok (.if_icmp .eq off, 3)) (ht : (pc : Int) + off = (tgt : Int)) (q : ¬ x = y) (k : RW l G Y R Z kc ks (pc + 3) lv (st) M sz) : RW l G Y R Z kc ks (pc) lv (.int y :: .int x :: st) M sz := rw_icmp_eq hd ht (fun n => absurd n (by first | exact q | (intro z; exact z q))) (fun _ => k)
theorem rw_if_eq {x : Int32} {off : Int} {tgt : Nat} (hd : decode Y.2.1 pc = .ok (.ifCond .eq off, 3)) (ht : (pc : Int) + off = (tgt : Int)) (kt : x = 0 → RW l G Y R Z kc ks (tgt) lv (st) M sz) (kf : ¬ x = 0 → RW l G Y R Z kc ks (pc + 3) lv (st) M sz) : RW l G Y R Z kc ks (pc) lv (.int x :: st) M sz := by
  intro p e s m args below meth c C H locs ls cells slots hR hL hl h1 h2
  exact lv_if_eq C.1 C.2.1 hd ht (fun q => kt q p e s m args below meth c C H locs ls cells slots hR hL hl h1 h2) (fun q => kf q p e s m args below meth c C H locs ls cells slots hR hL hl h1 h2)
theorem rw_if_eq_t {x : Int32} {off : Int} {tgt : Nat} (hd : decode Y.2.1 pc = .ok (.ifCond .eq off, 3)) (ht : (pc : Int) + off = (tgt : Int)) (q : x = 0) (k : RW l G Y R Z kc ks (tgt) lv (st) M sz) : RW l G Y R Z kc ks (pc) lv (.int x :: st) M sz := rw_if_eq hd ht (fun _ => k) (fun n => absurd q (by first | exact n | (intro z; exact z n)))
theorem rw_if_eq_f {x : Int32} {off : Int} {tgt : Nat} (hd : decode Y.2.1 pc = .ok (.ifCond .eq off, 3)) (ht : (pc : Int) + off = (tgt : Int)) (q : ¬ x = 0) (k : RW l G Y R Z kc ks (pc + 3) lv (st) M sz) : RW l G Y R Z kc ks (pc) lv (.int x :: st) M sz := rw_if_eq hd ht (fun n => absurd n (by first | exact q | (intro z; exact z q))) (fun _ => k)
theorem rw_icmp_ne {x y : Int32} {off : Int} {tgt : Nat} (hd : decode Y.2.1 pc = .ok (.if_icmp .ne off, 3)) (ht : (pc : Int) + off = (tgt : Int)) (kt : ¬ x = y → RW l G Y R Z kc ks (tgt) lv (st) M sz) (kf : x = y → RW l G Y R Z kc ks (pc + 3) lv (st) M sz) : RW l G Y R Z kc ks (pc) lv (.int y :: .int x :: st) M sz := by
  intro p e s m args below meth c C H locs ls cells slots hR hL hl h1 h2
  exact lv_icmp_ne C.1 C.2.1 hd ht (fun q => kt q p e s m args below meth c C H locs ls cells slots hR hL hl h1 h2) (fun q => kf q p e s m args below meth c C H locs ls cells slots hR hL hl h1 h2)
theorem rw_icmp_ne_t {x y : Int32} {off : Int} {tgt : Nat} (hd : decode Y.2.1 pc = .ok (.if_icmp .ne off, 3)) (ht : (pc : Int) + off = (tgt : Int)) (q : ¬ x = y) (k : RW l G Y R Z kc ks (tgt) lv (st) M sz) : RW l G Y R Z kc ks (pc) lv (.int y :: .int x :: st) M sz := rw_icmp_ne hd ht (fun _ => k) (fun n => absurd q (by first | exact n | (intro z; exact z n)))
theorem rw_icmp_ne_f {x y : Int32} {off : Int} {tgt : Nat} (hd : decode Y.2.1 pc = .ok (.if_icmp .ne off, 3)) (ht : (pc : Int) + off = (tgt : Int)) (q : x = y) (k : RW l G Y R Z kc ks (pc + 3) lv (st) M sz) : RW l G Y R Z kc ks (pc) lv (.int y :: .int x :: st) M sz := rw_icmp_ne hd ht (fun n => absurd n (by first | exact q | (intro z; exact z q))) (fun _ => k)
theorem rw_if_ne {x : Int32} {off : Int} {tgt : Nat} (hd : decode Y.2.1 pc = .ok (.ifCond .ne off, 3)) (ht : (pc : Int) + off = (tgt : Int)) (kt : ¬ x = 0 → RW l G Y R Z kc ks (tgt) lv (st) M sz) (kf : x = 0 → RW l G Y R Z kc ks (pc + 3) lv (st) M sz) : RW l G Y R Z kc ks (pc) lv (.int x :: st) M sz := by
  intro p e s m args below meth c C H locs ls cells slots hR hL hl h1 h2
  exact lv_if_ne C.1 C.2.1 hd ht (fun q => kt q p e s m args below meth c C H locs ls cells slots hR hL hl h1 h2) (fun q => kf q p e s m args below meth c C H locs ls cells slots hR hL hl h1 h2)
theorem rw_if_ne_t {x : Int32} {off : Int} {tgt : Nat} (hd : decode Y.2.1 pc = .ok (.ifCond .ne off, 3)) (ht : (pc : Int) + off = (tgt : Int)) (q : ¬ x = 0) (k : RW l G Y R Z kc ks (tgt) lv (st) M sz) : RW l G Y R Z kc ks (pc) lv (.int x :: st) M sz := rw_if_ne hd ht (fun _ => k) (fun n => absurd q (by first | exact n | (intro z; exact z n)))
theorem rw_if_ne_f {x : Int32} {off : Int} {tgt : Nat} (hd : decode Y.2.1 pc = .ok (.ifCond .ne off, 3)) (ht : (pc : Int) + off = (tgt : Int)) (q : x = 0) (k : RW l G Y R Z kc ks (pc + 3) lv (st) M sz) : RW l G Y R Z kc ks (pc) lv (.int x :: st) M sz := rw_if_ne hd ht (fun n => absurd n (by first | exact q | (intro z; exact z q))) (fun _ => k)
theorem rw_icmp_lt {x y : Int32} {off : Int} {tgt : Nat} (hd : decode Y.2.1 pc = .ok (.if_icmp .lt off, 3)) (ht : (pc : Int) + off = (tgt : Int)) (kt : x < y → RW l G Y R Z kc ks (tgt) lv (st) M sz) (kf : ¬ x < y → RW l G Y R Z kc ks (pc + 3) lv (st) M sz) : RW l G Y R Z kc ks (pc) lv (.int y :: .int x :: st) M sz := by
  intro p e s m args below meth c C H locs ls cells slots hR hL hl h1 h2
  exact lv_icmp_lt C.1 C.2.1 hd ht (fun q => kt q p e s m args below meth c C H locs ls cells slots hR hL hl h1 h2) (fun q => kf q p e s m args below meth c C H locs ls cells slots hR hL hl h1 h2)
theorem rw_icmp_lt_t {x y : Int32} {off : Int} {tgt : Nat} (hd : decode Y.2.1 pc = .ok (.if_icmp .lt off, 3)) (ht : (pc : Int) + off = (tgt : Int)) (q : x < y) (k : RW l G Y R Z kc ks (tgt) lv (st) M sz) : RW l G Y R Z kc ks (pc) lv (.int y :: .int x :: st) M sz := rw_icmp_lt hd ht (fun _ => k) (fun n => absurd q (by first | exact n | (intro z; exact z n)))
theorem rw_icmp_lt_f {x y : Int32} {off : Int} {tgt : Nat} (hd : decode Y.2.1 pc = .ok (.if_icmp .lt off, 3)) (ht : (pc : Int) + off = (tgt : Int)) (q : ¬ x < y) (k : RW l G Y R Z kc ks (pc + 3) lv (st) M sz) : RW l G Y R Z kc ks (pc) lv (.int y :: .int x :: st) M sz := rw_icmp_lt hd ht (fun n => absurd n (by first | exact q | (intro z; exact z q))) (fun _ => k)
theorem rw_if_lt {x : Int32} {off : Int} {tgt : Nat} (hd : decode Y.2.1 pc = .ok (.ifCond .lt off, 3)) (ht : (pc : Int) + off = (tgt : Int)) (kt : x < 0 → RW l G Y R Z kc ks (tgt) lv (st) M sz) (kf : ¬ x < 0 → RW l G Y R Z kc ks (pc + 3) lv (st) M sz) : RW l G Y R Z kc ks (pc) lv (.int x :: st) M sz := by
  intro p e s m args below meth c C H locs ls cells slots hR hL hl h1 h2
  exact lv_if_lt C.1 C.2.1 hd ht (fun q => kt q p e s m args below meth c C H locs ls cells slots hR hL hl h1 h2) (fun q => kf q p e s m args below meth c C H locs ls cells slots hR hL hl h1 h2)
theorem rw_if_lt_t {x : Int32} {off : Int} {tgt : Nat} (hd : decode Y.2.1 pc = .ok (.ifCond .lt off, 3)) (ht : (pc : Int) + off = (tgt : Int)) (q : x < 0) (k : RW l G Y R Z kc ks (tgt) lv (st) M sz) : RW l G Y R Z kc ks (pc) lv (.int x :: st) M sz := rw_if_lt hd ht (fun _ => k) (fun n => absurd q (by first | exact n | (intro z; exact z n)))
theorem rw_if_lt_f {x : Int32} {off : Int} {tgt : Nat} (hd : decode Y.2.1 pc = .ok (.ifCond .lt off, 3)) (ht : (pc : Int) + off = (tgt : Int)) (q : ¬ x < 0) (k : RW l G Y R Z kc ks (pc + 3) lv (st) M sz) : RW l G Y R Z kc ks (pc) lv (.int x :: st) M sz := rw_if_lt hd ht (fun n => absurd n (by first | exact q | (intro z; exact z q))) (fun _ => k)
theorem rw_icmp_ge {x y : Int32} {off : Int} {tgt : Nat} (hd : decode Y.2.1 pc = .ok (.if_icmp .ge off, 3)) (ht : (pc : Int) + off = (tgt : Int)) (kt : y ≤ x → RW l G Y R Z kc ks (tgt) lv (st) M sz) (kf : ¬ y ≤ x → RW l G Y R Z kc ks (pc + 3) lv (st) M sz) : RW l G Y R Z kc ks (pc) lv (.int y :: .int x :: st) M sz := by
  intro p e s m args below meth c C H locs ls cells slots hR hL hl h1 h2
  exact lv_icmp_ge C.1 C.2.1 hd ht (fun q => kt q p e s m args below meth c C H locs ls cells slots hR hL hl h1 h2) (fun q => kf q p e s m args below meth c C H locs ls cells slots hR hL hl h1 h2)
theorem rw_icmp_ge_t {x y : Int32} {off : Int} {tgt : Nat} (hd : decode Y.2.1 pc = .ok (.if_icmp .ge off, 3)) (ht : (pc : Int) + off = (tgt : Int)) (q : y ≤ x) (k : RW l G Y R Z kc ks (tgt) lv (st) M sz) : RW l G Y R Z kc ks (pc) lv (.int y :: .int x :: st) M sz := rw_icmp_ge hd ht (fun _ => k) (fun n => absurd q (by first | exact n | (intro z; exact z n)))
theorem rw_icmp_ge_f {x y : Int32} {off : Int} {tgt : Nat} (hd : decode Y.2.1 pc = .ok (.if_icmp .ge off, 3)) (ht : (pc : Int) + off = (tgt : Int)) (q : ¬ y ≤ x) (k : RW l G Y R Z kc ks (pc + 3) lv (st) M sz) : RW l G Y R Z kc ks (pc) lv (.int y :: .int x :: st) M sz := rw_icmp_ge hd ht (fun n => absurd n (by first | exact q | (intro z; exact z q))) (fun _ => k)
theorem rw_if_ge {x : Int32} {off : Int} {tgt : Nat} (hd : decode Y.2.1 pc = .ok (.ifCond .ge off, 3)) (ht : (pc : Int) + off = (tgt : Int)) (kt : 0 ≤ x → RW l G Y R Z kc ks (tgt) lv (st) M sz) (kf : ¬ 0 ≤ x → RW l G Y R Z kc ks (pc + 3) lv (st) M sz) : RW l G Y R Z kc ks (pc) lv (.int x :: st) M sz := by
  intro p e s m args below meth c C H locs ls cells slots hR hL hl h1 h2
  exact lv_if_ge C.1 C.2.1 hd ht (fun q => kt q p e s m args below meth c C H locs ls cells slots hR hL hl h1 h2) (fun q => kf q p e s m args below meth c C H locs ls cells slots hR hL hl h1 h2)
theorem rw_if_ge_t {x : Int32} {off : Int} {tgt : Nat} (hd : decode Y.2.1 pc = .ok (.ifCond .ge off, 3)) (ht : (pc : Int) + off = (tgt : Int)) (q : 0 ≤ x) (k : RW l G Y R Z kc ks (tgt) lv (st) M sz) : RW l G Y R Z kc ks (pc) lv (.int x :: st) M sz := rw_if_ge hd ht (fun _ => k) (fun n => absurd q (by first | exact n | (intro z; exact z n)))
theorem rw_if_ge_f {x : Int32} {off : Int} {tgt : Nat} (hd : decode Y.2.1 pc = .ok (.ifCond .ge off, 3)) (ht : (pc : Int) + off = (tgt : Int)) (q : ¬ 0 ≤ x) (k : RW l G Y R Z kc ks (pc + 3) lv (st) M sz) : RW l G Y R Z kc ks (pc) lv (.int x :: st) M sz := rw_if_ge hd ht (fun n => absurd n (by first | exact q | (intro z; exact z q))) (fun _ => k)
theorem rw_icmp_gt {x y : Int32} {off : Int} {tgt : Nat} (hd : decode Y.2.1 pc = .ok (.if_icmp .gt off, 3)) (ht : (pc : Int) + off = (tgt : Int)) (kt : y < x → RW l G Y R Z kc ks (tgt) lv (st) M sz) (kf : ¬ y < x → RW l G Y R Z kc ks (pc + 3) lv (st) M sz) : RW l G Y R Z kc ks (pc) lv (.int y :: .int x :: st) M sz := by
  intro p e s m args below meth c C H locs ls cells slots hR hL hl h1 h2
  exact lv_icmp_gt C.1 C.2.1 hd ht (fun q => kt q p e s m args below meth c C H locs ls cells slots hR hL hl h1 h2) (fun q => kf q p e s m args below meth c C H locs ls cells slots hR hL hl h1 h2)
theorem rw_icmp_gt_t {x y : Int32} {off : Int} {tgt : Nat} (hd : decode Y.2.1 pc = .ok (.if_icmp .gt off, 3)) (ht : (pc : Int) + off = (tgt : Int)) (q : y < x) (k : RW l G Y R Z kc ks (tgt) lv (st) M sz) : RW l G Y R Z kc ks (pc) lv (.int y :: .int x :: st) M sz := rw_icmp_gt hd ht (fun _ => k) (fun n => absurd q (by first | exact n | (intro z; exact z n)))
theorem rw_icmp_gt_f {x y : Int32} {off : Int} {tgt : Nat} (hd : decode Y.2.1 pc = .ok (.if_icmp .gt off, 3)) (ht : (pc : Int) + off = (tgt : Int)) (q : ¬ y < x) (k : RW l G Y R Z kc ks (pc + 3) lv (st) M sz) : RW l G Y R Z kc ks (pc) lv (.int y :: .int x :: st) M sz := rw_icmp_gt hd ht (fun n => absurd n (by first | exact q | (intro z; exact z q))) (fun _ => k)
theorem rw_if_gt {x : Int32} {off : Int} {tgt : Nat} (hd : decode Y.2.1 pc = .ok (.ifCond .gt off, 3)) (ht : (pc : Int) + off = (tgt : Int)) (kt : 0 < x → RW l G Y R Z kc ks (tgt) lv (st) M sz) (kf : ¬ 0 < x → RW l G Y R Z kc ks (pc + 3) lv (st) M sz) : RW l G Y R Z kc ks (pc) lv (.int x :: st) M sz := by
  intro p e s m args below meth c C H locs ls cells slots hR hL hl h1 h2
  exact lv_if_gt C.1 C.2.1 hd ht (fun q => kt q p e s m args below meth c C H locs ls cells slots hR hL hl h1 h2) (fun q => kf q p e s m args below meth c C H locs ls cells slots hR hL hl h1 h2)
theorem rw_if_gt_t {x : Int32} {off : Int} {tgt : Nat} (hd : decode Y.2.1 pc = .ok (.ifCond .gt off, 3)) (ht : (pc : Int) + off = (tgt : Int)) (q : 0 < x) (k : RW l G Y R Z kc ks (tgt) lv (st) M sz) : RW l G Y R Z kc ks (pc) lv (.int x :: st) M sz := rw_if_gt hd ht (fun _ => k) (fun n => absurd q (by first | exact n | (intro z; exact z n)))
theorem rw_if_gt_f {x : Int32} {off : Int} {tgt : Nat} (hd : decode Y.2.1 pc = .ok (.ifCond .gt off, 3)) (ht : (pc : Int) + off = (tgt : Int)) (q : ¬ 0 < x) (k : RW l G Y R Z kc ks (pc + 3) lv (st) M sz) : RW l G Y R Z kc ks (pc) lv (.int x :: st) M sz := rw_if_gt hd ht (fun n => absurd n (by first | exact q | (intro z; exact z q))) (fun _ => k)
theorem rw_icmp_le {x y : Int32} {off : Int} {tgt : Nat} (hd : decode Y.2.1 pc = .ok (.if_icmp .le off, 3)) (ht : (pc : Int) + off = (tgt : Int)) (kt : x ≤ y → RW l G Y R Z kc ks (tgt) lv (st) M sz) (kf : ¬ x ≤ y → RW l G Y R Z kc ks (pc + 3) lv (st) M sz) : RW l G Y R Z kc ks (pc) lv (.int y :: .int x :: st) M sz := by
  intro p e s m args below meth c C H locs ls cells slots hR hL hl h1 h2
  exact lv_icmp_le C.1 C.2.1 hd ht (fun q => kt q p e s m args below meth c C H locs ls cells slots hR hL hl h1 h2) (fun q => kf q p e s m args below meth c C H locs ls cells slots hR hL hl h1 h2)
theorem rw_icmp_le_t {x y : Int32} {off : Int} {tgt : Nat} (hd : decode Y.2.1 pc = .ok (.if_icmp .le off, 3)) (ht : (pc : Int) + off = (tgt : Int)) (q : x ≤ y) (k : RW l G Y R Z kc ks (tgt) lv (st) M sz) : RW l G Y R Z kc ks (pc) lv (.int y :: .int x :: st) M sz := rw_icmp_le hd ht (fun _ => k) (fun n => absurd q (by first | exact n | (intro z; exact z n)))
theorem rw_icmp_le_f {x y : Int32} {off : Int} {tgt : Nat} (hd : decode Y.2.1 pc = .ok (.if_icmp .le off, 3)) (ht : (pc : Int) + off = (tgt : Int)) (q : ¬ x ≤ y) (k : RW l G Y R Z kc ks (pc + 3) lv (st) M sz) : RW l G Y R Z kc ks (pc) lv (.int y :: .int x :: st) M sz := rw_icmp_le hd ht (fun n => absurd n (by first | exact q | (intro z; exact z q))) (fun _ => k)
theorem rw_if_le {x : Int32} {off : Int} {tgt : Nat} (hd : decode Y.2.1 pc = .ok (.ifCond .le off, 3)) (ht : (pc : Int) + off = (tgt : Int)) (kt : x ≤ 0 → RW l G Y R Z kc ks (tgt) lv (st) M sz) (kf : ¬ x ≤ 0 → RW l G Y R Z kc ks (pc + 3) lv (st) M sz) : RW l G Y R Z kc ks (pc) lv (.int x :: st) M sz := by
  intro p e s m args below meth c C H locs ls cells slots hR hL hl h1 h2
  exact lv_if_le C.1 C.2.1 hd ht (fun q => kt q p e s m args below meth c C H locs ls cells slots hR hL hl h1 h2) (fun q => kf q p e s m args below meth c C H locs ls cells slots hR hL hl h1 h2)
theorem rw_if_le_t {x : Int32} {off : Int} {tgt : Nat} (hd : decode Y.2.1 pc = .ok (.ifCond .le off, 3)) (ht : (pc : Int) + off = (tgt : Int)) (q : x ≤ 0) (k : RW l G Y R Z kc ks (tgt) lv (st) M sz) : RW l G Y R Z kc ks (pc) lv (.int x :: st) M sz := rw_if_le hd ht (fun _ => k) (fun n => absurd q (by first | exact n | (intro z; exact z n)))
theorem rw_if_le_f {x : Int32} {off : Int} {tgt : Nat} (hd : decode Y.2.1 pc = .ok (.ifCond .le off, 3)) (ht : (pc : Int) + off = (tgt : Int)) (q : ¬ x ≤ 0) (k : RW l G Y R Z kc ks (pc + 3) lv (st) M sz) : RW l G Y R Z kc ks (pc) lv (.int x :: st) M sz := rw_if_le hd ht (fun n => absurd n (by first | exact q | (intro z; exact z q))) (fun _ => k)
theorem rw_acmp_ne {rx ry : Option Nat} {off : Int} {tgt : Nat} (hd : decode Y.2.1 pc = .ok (.if_acmp .ne off, 3)) (ht : (pc : Int) + off = (tgt : Int)) (kt : ¬ rx = ry → RW l G Y R Z kc ks (tgt) lv (st) M sz) (kf : rx = ry → RW l G Y R Z kc ks (pc + 3) lv (st) M sz) : RW l G Y R Z kc ks (pc) lv (va_rf ry :: va_rf rx :: st) M sz := by
  intro p e s m args below meth c C H locs ls cells slots hR hL hl h1 h2
  exact lv_acmp_ne C.1 C.2.1 hd ht (fun q => kt q p e s m args below meth c C H locs ls cells slots hR hL hl h1 h2) (fun q => kf q p e s m args below meth c C H locs ls cells slots hR hL hl h1 h2)
theorem rw_acmp_ne_t {a b : Nat} {off : Int} {tgt : Nat} (hd : decode Y.2.1 pc = .ok (.if_acmp .ne off, 3)) (ht : (pc : Int) + off = (tgt : Int)) (q : a ≠ b) (k : RW l G Y R Z kc ks (tgt) lv (st) M sz) : RW l G Y R Z kc ks (pc) lv (.ref b :: .ref a :: st) M sz := rw_acmp_ne (rx := some a) (ry := some b) hd ht (fun _ => k) (fun n => absurd (Option.some.inj n) q)
theorem rw_acmp_ne_f {a : Nat} {off : Int} {tgt : Nat} (hd : decode Y.2.1 pc = .ok (.if_acmp .ne off, 3)) (ht : (pc : Int) + off = (tgt : Int)) (k : RW l G Y R Z kc ks (pc + 3) lv (st) M sz) : RW l G Y R Z kc ks (pc) lv (.ref a :: .ref a :: st) M sz := rw_acmp_ne (rx := some a) (ry := some a) hd ht (fun n => absurd rfl n) (fun _ => k)
theorem rw_goto {off : Int} {tgt : Nat} (hd : decode Y.2.1 pc = .ok (.goto off, 3)) (ht : (pc : Int) + off = (tgt : Int)) (k : RW l G Y R Z kc ks (tgt) lv (st) M sz) : RW l G Y R Z kc ks (pc) lv (st) M sz := by
  intro p e s m args below meth c C H locs ls cells slots hR hL hl h1 h2
  exact lv_goto C.1 C.2.1 hd ht (k p e s m args below meth c C H locs ls cells slots hR hL hl h1 h2)
theorem rw_ifnull_f {a : Nat} {off : Int} (hd : decode Y.2.1 pc = .ok (.ifnull off, 3)) (k : RW l G Y R Z kc ks (pc + 3) lv (st) M sz) : RW l G Y R Z kc ks (pc) lv (.ref a :: st) M sz := by
  intro p e s m args below meth c C H locs ls cells slots hR hL hl h1 h2
  exact lv_ifnull C.1 C.2.1 hd (k p e s m args below meth c C H locs ls cells slots hR hL hl h1 h2)
theorem rw_ifnull_t {off : Int} {tgt : Nat} (hd : decode Y.2.1 pc = .ok (.ifnull off, 3)) (ht : (pc : Int) + off = (tgt : Int)) (k : RW l G Y R Z kc ks (tgt) lv (st) M sz) : RW l G Y R Z kc ks (pc) lv (.null :: st) M sz := by
  intro p e s m args below meth c C H locs ls cells slots hR hL hl h1 h2
  exact lv_ifnullN C.1 C.2.1 hd ht (k p e s m args below meth c C H locs ls cells slots hR hL hl h1 h2)
theorem rw_ifnonnull_t {a : Nat} {off : Int} {tgt : Nat} (hd : decode Y.2.1 pc = .ok (.ifnonnull off, 3)) (ht : (pc : Int) + off = (tgt : Int)) (k : RW l G Y R Z kc ks (tgt) lv (st) M sz) : RW l G Y R Z kc ks (pc) lv (.ref a :: st) M sz := by
  intro p e s m args below meth c C H locs ls cells slots hR hL hl h1 h2
  exact lv_ifnonnull C.1 C.2.1 hd ht (k p e s m args below meth c C H locs ls cells slots hR hL hl h1 h2)
theorem rw_ifnonnull_f {off : Int} (hd : decode Y.2.1 pc = .ok (.ifnonnull off, 3)) (k : RW l G Y R Z kc ks (pc + 3) lv (st) M sz) : RW l G Y R Z kc ks (pc) lv (.null :: st) M sz := by
  intro p e s m args below meth c C H locs ls cells slots hR hL hl h1 h2
  exact lv_ifnonnullN C.1 C.2.1 hd (k p e s m args below meth c C H locs ls cells slots hR hL hl h1 h2)
theorem rw_tabOut {dflt lo hi : Int} {offs : Array Int} {len : Nat} {x : Int32} {tgt : Nat} (hd : decode Y.2.1 pc = .ok (.tableswitch dflt lo hi offs, len)) (hx : x.toInt < lo ∨ hi < x.toInt) (ht : (pc : Int) + dflt = (tgt : Int)) (k : RW l G Y R Z kc ks (tgt) lv (st) M sz) : RW l G Y R Z kc ks (pc) lv (.int x :: st) M sz := by
  intro p e s m args below meth c C H locs ls cells slots hR hL hl h1 h2
  exact lv_tableOut C.1 C.2.1 hd hx ht (k p e s m args below meth c C H locs ls cells slots hR hL hl h1 h2)
theorem rw_tabIn {dflt lo hi : Int} {offs : Array Int} {len : Nat} {x : Int32} {off : Int} {tgt : Nat} (hd : decode Y.2.1 pc = .ok (.tableswitch dflt lo hi offs, len)) (hx : ¬ x.toInt < lo) (hx2 : ¬ hi < x.toInt) (ho : offs[(x.toInt - lo).toNat]? = some off) (ht : (pc : Int) + off = (tgt : Int)) (k : RW l G Y R Z kc ks (tgt) lv (st) M sz) : RW l G Y R Z kc ks (pc) lv (.int x :: st) M sz := by
  intro p e s m args below meth c C H locs ls cells slots hR hL hl h1 h2
  exact lv_tableIn C.1 C.2.1 hd hx hx2 ho ht (k p e s m args below meth c C H locs ls cells slots hR hL hl h1 h2)
theorem rw_topi {x : Int32} (k : ∀ y : Int32, y = x → RW l G Y R Z kc ks (pc) lv (.int y :: st) M sz) : RW l G Y R Z kc ks (pc) lv (.int x :: st) M sz := k x rfl
theorem rw_topl {x : Int64} (k : ∀ y : Int64, y = x → RW l G Y R Z kc ks (pc) lv (.long y :: st) M sz) : RW l G Y R Z kc ks (pc) lv (.long x :: st) M sz := k x rfl
theorem rw_stk {st' : List Value} (he : st = st') (k : RW l G Y R Z kc ks (pc) lv (st') M sz) : RW l G Y R Z kc ks (pc) lv (st) M sz := he ▸ k
theorem rw_lv {lv' : List (Nat × Value)} (he : ∀ q ∈ lv', lv.lookup q.1 = some q.2) (k : RW l G Y R Z kc ks (pc) lv' (st) M sz) : RW l G Y R Z kc ks (pc) lv (st) M sz := by
  intro p e s m args below meth c C H locs ls cells slots hR hL hl h1 h2
  exact k p e s m args below meth c C H locs ls cells slots hR hL ⟨hl.1, hl.2.1, fun q hq => hl.2.2 (q.1, q.2) (lk_mem (he q hq))⟩ h1 h2
theorem rw_fewer {kc' ks' : Nat} (hk : kc' ≤ kc) (hs : ks' ≤ ks) (k : RW l G Y R Z kc' ks' (pc) lv (st) M sz) : RW l G Y R Z kc ks (pc) lv (st) M sz := by
  intro p e s m args below meth c C H locs ls cells slots hR hL hl h1 h2
  exact k p e s m args below meth c C H locs ls cells slots hR hL hl (by omega) (by omega)
theorem rw_iret {v : Int32} {QQ : Option Value → mm_M → Nat → Prop} (hd : decode Y.2.1 pc = .ok (.ireturn, 1)) (hr : Y.2.2.2.1 = some .int) (hq : QQ (some (.int v)) M sz) : RW l G Y R (mm_Z G R QQ) kc ks (pc) lv ([.int v]) M sz := by
  intro p e s m args below meth c C H locs ls cells slots hR hL hl h1 h2
  refine W.widen (k := R.cells) (n := R.slots) (by omega) (by omega) ?_
  exact W.iret C.1 C.2.1 (C.2.2.1.trans hr) (fun t ht _ => ⟨_, M, sz, rfl, hq, by rw [ht]; exact hR⟩) hL hd C.2.2.2.2.1
theorem rw_lret {v : Int64} {QQ : Option Value → mm_M → Nat → Prop} (hd : decode Y.2.1 pc = .ok (.lreturn, 1)) (hr : Y.2.2.2.1 = some .long) (hq : QQ (some (.long v)) M sz) : RW l G Y R (mm_Z G R QQ) kc ks (pc) lv ([.long v]) M sz := by
  intro p e s m args below meth c C H locs ls cells slots hR hL hl h1 h2
  refine W.widen (k := R.cells) (n := R.slots) (by omega) (by omega) ?_
  exact W.lret C.1 C.2.1 (C.2.2.1.trans hr) (fun t ht _ => ⟨_, M, sz, rfl, hq, by rw [ht]; exact hR⟩) hL hd C.2.2.2.2.1
theorem rw_vret {QQ : Option Value → mm_M → Nat → Prop} (hd : decode Y.2.1 pc = .ok (.return_, 1)) (hr : Y.2.2.2.1 = none) (hq : QQ (none) M sz) : RW l G Y R (mm_Z G R QQ) kc ks (pc) lv ([]) M sz := by
  intro p e s m args below meth c C H locs ls cells slots hR hL hl h1 h2
  refine W.widen (k := R.cells) (n := R.slots) (by omega) (by omega) ?_
  exact W.vret C.1 C.2.1 (C.2.2.1.trans hr) (fun t ht _ => ⟨_, M, sz, rfl, hq, by rw [ht]; exact hR⟩) hL hd C.2.2.2.2.1
theorem rw_zret {v : Int32} {QQ : Option Value → mm_M → Nat → Prop} (hd : decode Y.2.1 pc = .ok (.ireturn, 1)) (hr : Y.2.2.2.1 = some .boolean) (hn : narrow .boolean (.int v) = .int v) (hq : QQ (some (.int v)) M sz) : RW l G Y R (mm_Z G R QQ) kc ks (pc) lv ([.int v]) M sz := by
  intro p e s m args below meth c C H locs ls cells slots hR hL hl h1 h2
  refine W.widen (k := R.cells) (n := R.slots) (by omega) (by omega) ?_
  exact W.zret C.1 C.2.1 (C.2.2.1.trans hr) hn (fun t ht _ => ⟨_, M, sz, rfl, hq, by rw [ht]; exact hR⟩) hL hd C.2.2.2.2.1
theorem rw_aret {v : Value} {cn : String} {QQ : Option Value → mm_M → Nat → Prop} (hd : decode Y.2.1 pc = .ok (.areturn, 1)) (hr : Y.2.2.2.1 = some (.object cn)) (hv : mm_ref v) (hq : QQ (some v) M sz) : RW l G Y R (mm_Z G R QQ) kc ks (pc) lv ([v]) M sz := by
  intro p e s m args below meth c C H locs ls cells slots hR hL hl h1 h2
  refine W.widen (k := R.cells) (n := R.slots) (by omega) (by omega) ?_
  exact W.aret C.1 C.2.1 (C.2.2.1.trans hr) (Or.inl ⟨_, rfl⟩) hv (fun t ht _ => ⟨_, M, sz, rfl, hq, by rw [ht]; exact hR⟩) hL hd C.2.2.2.2.1
end RULES
end
section
/-! Rules of a walk that touch memory, and calls. -/
theorem mm_P1 {D : va_G} {cl : List vw_C} {q : Nat × va_E} {H : Heap} (h : va_at D cl q H) : va_P D cl [q] H := by
  intro k x hk
  match k, hk with
  | 0, hk => cases hk; exact h
/-- a field by its place in the pool of the class 'own': class ci, field k -/
def mm_F (own : String) (idx ci k : Nat) : Prop := ∃ (C : String) (T : u_T) (N : Nat), vwCl[ci]? = some (C, T, N) ∧ k < N ∧ (∀ w ∈ u_ws C T N, w ∈ lwK) ∧ Cond.fieldLink own idx (T k).1 (T k).2.1 (T k).2.2.1 ∈ lwK
/-- the same for a store: of type ty; a final one in a constructor alone -/
def mm_FP (own : String) (idx ci k : Nat) (ty : FieldType) (nm : String) : Prop := ∃ (C : String) (T : u_T) (N : Nat) (tyf : Nat → FieldType), vwCl[ci]? = some (C, T, N) ∧ k < N ∧ (∀ w ∈ u_ws C T N, w ∈ lwK) ∧ Cond.fieldLink own idx (T k).1 (T k).2.1 (T k).2.2.1 ∈ lwK ∧
  (∀ j, j < N → parseFieldDescriptor (T j).2.2.1 = some (tyf j)) ∧ (∀ a, a < N → ∀ b, b < N → a ≠ b → (T a).2.1 ≠ (T b).2.1) ∧ parseFieldDescriptor (T k).2.2.1 = some ty ∧ ((T k).2.2.2 = false ∨ ((T k).2.2.2 = true ∧ nm = "<init>" ∧ (T k).1 = own))
/-- an object of class ci of N fields, fresh: its fields -/
def mm_N (own : String) (idx ci N : Nat) (fs : List Value) : Prop := ∃ (C : String) (T : u_T) (tyf : Nat → FieldType), vwCl[ci]? = some (C, T, N) ∧ (∀ w ∈ u_ws C T N, w ∈ lwK) ∧ (∀ j, j < N → parseFieldDescriptor (T j).2.2.1 = some (tyf j)) ∧ Cond.classLink own idx C ∈ lwK ∧ Cond.instantiable C N ∈ lwK ∧ Cond.initialized C ∈ lwK ∧ (∀ j, j < N → defaultValue (tyf j) = vp_V fs j)
theorem mm_locs {G : mm_G} {locs : List Loc} {a i : Nat} (h : ∀ q ∈ locs, gh G ≤ q.base) (ha : gh G ≤ a) : ∀ q ∈ locs ++ [(⟨a, i⟩ : Loc)], gh G ≤ q.base := by
  intro q hq
  rcases List.mem_append.mp hq with h1 | h1
  · exact h q h1
  · rw [List.mem_singleton.mp h1]
    exact ha
section MEM
variable {l : Launch} {G : mm_G} {Y : mm_Y} {R : Room} {Z : mm_Zt} {kc ks pc : Nat} {lv : List (Nat × Value)} {st : List Value} {M : mm_M} {sz : Nat}
theorem rw_get {ci k idx a : Nat} {fs : List Value} {v : Value} (hd : decode Y.2.1 pc = .ok (.getfield idx, 3)) (hF : mm_F Y.1 idx ci k) (hM : M a = some (.inr (ci, fs))) (hv : fs[k]? = some v) (kk : RW l G Y R Z kc ks (pc + 3) lv (v :: st) M sz) : RW l G Y R Z kc ks pc lv (.ref a :: st) M sz := by
  intro p e s m args below meth c C H locs ls cells slots hR hL hl h1 h2
  obtain ⟨C0, T, N, hc, hk, hin, hw⟩ := hF
  obtain ⟨hx, hb, -, -, -, hown, -, hts, hK⟩ := id C
  exact va_get hx hb hts hin hown hK.1 (mm_P1 (hR.2.1 a _ hM).2) 0 rfl hc k hk (hts _ hw) (fun _ h => h) hv hd (kk p e s m args below meth c C H locs ls cells slots hR hL hl h1 h2)
theorem rw_put {ci k idx a : Nat} {ty : FieldType} {fs : List Value} {v : Value} (hd : decode Y.2.1 pc = .ok (.putfield idx, 3)) (hF : mm_FP Y.1 idx ci k ty Y.2.2.2.2) (hM : M a = some (.inr (ci, fs))) (hl0 : k < fs.length) (hn : narrow ty v = v) (hf : fits ty v = true) (kk : RW l G Y R Z kc ks (pc + 3) lv st (mup M a (.inr (ci, fs.set k v))) sz) : RW l G Y R Z kc ks pc lv (v :: .ref a :: st) M sz := by
  intro p e s m args below meth c C H locs ls cells slots hR hL hl h1 h2
  obtain ⟨C0, T, N, tyf, hc, hk, hin, hw, hty, hnm, hd2, hfin⟩ := hF
  obtain ⟨hx, hb, -, -, -, hown, hmn, hts, hK⟩ := id C
  have hap := va_apart (own := Y.1) hts hin tyf hty hnm hK.1 hc
  obtain ⟨r, h1', cell, q1, q2, q3, q4⟩ := (hR.2.1 a _ hM).2
  have hr : r = (C0, T, N) := Option.some.inj (h1'.symm.trans hc)
  subst hr
  obtain ⟨hS, hfc, kC, hkC, hkind⟩ := hK.1.1 ci _ hc
  obtain ⟨cf, kf, fi, f, hi, hsl⟩ := hS k hk
  have hlay := hts _ (hin _ (u_in_lay hk))
  have hst := (u_facts hfc hkC (u_lays hts hin hk) hi).1
  rcases hfin with hfin | ⟨hfin, hin2, hdecl⟩
  · unfold u_lay at hlay
    rw [if_neg (by rw [hfin]; decide)] at hlay
    have h6 := u_store hfc hkC hkind hlay hi hd2 hn hf
    refine W.putK hx hb (f := f) ⟨hown, hts _ hw, ⟨_, _, _, hi⟩, hst⟩ (by rw [q2]; exact h6) q1 q3 (by rw [hsl]; exact k2_hasslot (q4 k hk)) rfl rfl hd fun H' e1 e2 e3 => ?_
    rw [hsl] at e1
    exact kk p e s m args below meth c C H' _ ls cells slots (hR.set (hR.2.1 a _ hM).1 ⟨_, hc, t_OB.to (V := updV (vp_V fs) k v) ⟨_, e1, q2, q3, t_set q4 hap hk v⟩ (fun j _ => vp_updV_set hl0 v j)⟩ e2 e3) (mm_locs hL (hR.2.1 a _ hM).1) hl h1 h2
  · unfold u_lay at hlay
    rw [if_pos hfin] at hlay
    have hcf : m.cls = cf := by
      obtain ⟨_, _, c', _, _, _, -, -, hf', -, -, -, hown2, -⟩ := Cond.laysFinal_spec hlay
      have e1 : c' = cf := by have := hi.symm.trans hf'; simp at this; exact this.1.symm
      rw [hdecl] at hown2
      rw [← e1]; exact Option.some.inj (hown.symm.trans hown2)
    have h6 := u_fits hfc hkC hkind (Or.inr hlay) hi hd2 hn hf
    refine W.putFinK hx hb hown (hts _ hw) hi hst hcf (hmn.trans hin2) (by rw [q2]; exact h6) q1 q3 (by rw [hsl]; exact k2_hasslot (q4 k hk)) rfl rfl hd fun H' e1 e2 e3 => ?_
    rw [hsl] at e1
    exact kk p e s m args below meth c C H' _ ls cells slots (hR.set (hR.2.1 a _ hM).1 ⟨_, hc, t_OB.to (V := updV (vp_V fs) k v) ⟨_, e1, q2, q3, t_set q4 hap hk v⟩ (fun j _ => vp_updV_set hl0 v j)⟩ e2 e3) (mm_locs hL (hR.2.1 a _ hM).1) hl h1 h2
theorem rw_iald {a n : Nat} {f : Nat → Int32} {i : Int32} (hd : decode Y.2.1 pc = .ok (.iaload, 1)) (hM : M a = some (.inl (0, n, .inl f))) (hin : vp_in i n) (kk : RW l G Y R Z kc ks (pc + 1) lv (.int (f i.toNatClampNeg) :: st) M sz) : RW l G Y R Z kc ks pc lv (.int i :: .ref a :: st) M sz := by
  intro p e s m args below meth c C H locs ls cells slots hR hL hl h1 h2
  obtain ⟨hx, hb, -, -, -, hown, hmn, hts, hK⟩ := id C
  exact va_iald hx hb hK.1 (mm_P1 (hR.2.1 a _ hM).2) 0 0 rfl rfl hin hd (kk p e s m args below meth c C H locs ls cells slots hR hL hl h1 h2)
theorem rw_zald {a n : Nat} {f : Nat → Int32} {i : Int32} (hd : decode Y.2.1 pc = .ok (.baload, 1)) (hM : M a = some (.inl (1, n, .inl f))) (hin : vp_in i n) (kk : RW l G Y R Z kc ks (pc + 1) lv (.int (f i.toNatClampNeg) :: st) M sz) : RW l G Y R Z kc ks pc lv (.int i :: .ref a :: st) M sz := by
  intro p e s m args below meth c C H locs ls cells slots hR hL hl h1 h2
  obtain ⟨hx, hb, -, -, -, hown, hmn, hts, hK⟩ := id C
  exact va_zald hx hb hK.1 (mm_P1 (hR.2.1 a _ hM).2) 0 1 rfl rfl hin hd (kk p e s m args below meth c C H locs ls cells slots hR hL hl h1 h2)
theorem rw_lald {a n : Nat} {f : Nat → Int64} {i : Int32} (hd : decode Y.2.1 pc = .ok (.laload, 1)) (hM : M a = some (.inl (2, n, .inr (.inl f)))) (hin : vp_in i n) (kk : RW l G Y R Z kc ks (pc + 1) lv (.long (f i.toNatClampNeg) :: st) M sz) : RW l G Y R Z kc ks pc lv (.int i :: .ref a :: st) M sz := by
  intro p e s m args below meth c C H locs ls cells slots hR hL hl h1 h2
  obtain ⟨hx, hb, -, -, -, hown, hmn, hts, hK⟩ := id C
  exact va_lald hx hb hK.1 (mm_P1 (hR.2.1 a _ hM).2) 0 2 rfl rfl hin hd (kk p e s m args below meth c C H locs ls cells slots hR hL hl h1 h2)
theorem rw_aald {a n t : Nat} {cn : String} {f : Nat → Option Nat} {i : Int32} (hd : decode Y.2.1 pc = .ok (.aaload, 1)) (hM : M a = some (.inl (t, n, .inr (.inr (.inr (.inr f)))))) (ht : t < 6) (hcn : mm_ty t = .object cn) (hin : vp_in i n) (kk : RW l G Y R Z kc ks (pc + 1) lv (va_rf (f i.toNatClampNeg) :: st) M sz) : RW l G Y R Z kc ks pc lv (.int i :: .ref a :: st) M sz := by
  intro p e s m args below meth c C H locs ls cells slots hR hL hl h1 h2
  obtain ⟨hx, hb, -, -, -, hown, hmn, hts, hK⟩ := id C
  exact va_aldq hx hb hK.1 (mm_P1 (hR.2.1 a _ hM).2) 0 t rfl (hcn ▸ mm_tys_at G ht) hin hd (kk p e s m args below meth c C H locs ls cells slots hR hL hl h1 h2)
theorem rw_alen {a t : Nat} {x : vp_A} {v : Int32} (hd : decode Y.2.1 pc = .ok (.arraylength, 1)) (hM : M a = some (.inl (t, x))) (ht : t < 6) (hv : Int32.ofNat x.1 = v) (kk : RW l G Y R Z kc ks (pc + 1) lv (.int v :: st) M sz) : RW l G Y R Z kc ks pc lv (.ref a :: st) M sz := by
  intro p e s m args below meth c C H locs ls cells slots hR hL hl h1 h2
  obtain ⟨hx, hb, -, -, -, hown, hmn, hts, hK⟩ := id C
  exact va_alen hx hb hK.1 (mm_P1 (hR.2.1 a _ hM).2) 0 t rfl (mm_tys_at G ht) hv hd (kk p e s m args below meth c C H locs ls cells slots hR hL hl h1 h2)
theorem rw_sld {i : Int32} (hd : decode Y.2.1 pc = .ok (.iaload, 1)) (hin : vp_in i (gL G)) (kk : RW l G Y R Z kc ks (pc + 1) lv (.int (gx G i.toNatClampNeg) :: st) M sz) : RW l G Y R Z kc ks pc lv (.int i :: .ref (gb G) :: st) M sz := by
  intro p e s m args below meth c C H locs ls cells slots hR hL hl h1 h2
  obtain ⟨hx, hb, -, -, -, hown, hmn, hts, hK⟩ := id C
  obtain ⟨scr, q1, q2, q3, q4, q5⟩ := hK.2.2.2.2.1
  have hlt : i.toNatClampNeg < gL G := Nat.not_le.mp fun q => hin (Or.inr q)
  exact W.iald (v := .int (gx G i.toNatClampNeg)) hx hb (by rw [hR.2.2.1 _ hK.2.2.2.2.2.1]; exact q1) q2 q3 (by rw [q4]; exact hin) (q5 _ hlt) rfl rfl hd (kk p e s m args below meth c C H locs ls cells slots hR hL hl h1 h2)
theorem rw_slen {v : Int32} (hd : decode Y.2.1 pc = .ok (.arraylength, 1)) (hv : Int32.ofNat (gL G) = v) (kk : RW l G Y R Z kc ks (pc + 1) lv (.int v :: st) M sz) : RW l G Y R Z kc ks pc lv (.ref (gb G) :: st) M sz := by
  intro p e s m args below meth c C H locs ls cells slots hR hL hl h1 h2
  obtain ⟨hx, hb, -, -, -, hown, hmn, hts, hK⟩ := id C
  obtain ⟨scr, q1, q2, q3, q4, q5⟩ := hK.2.2.2.2.1
  subst hv
  exact W.alen (n := Int32.ofNat (gL G)) hx hb (by rw [hR.2.2.1 _ hK.2.2.2.2.2.1]; exact q1) q2 (by rw [q4] <;> rfl) rfl rfl hd (kk p e s m args below meth c C H locs ls cells slots hR hL hl h1 h2)
/-- a table of the switch -/
theorem rw_swld {i : Int32} {v : Value} (hd : decode Y.2.1 pc = .ok (.iaload, 1)) (hin : vp_in i 10) (hv : mm_swv i.toNatClampNeg = v) (kk : RW l G Y R Z kc ks (pc + 1) lv (v :: st) M sz) : RW l G Y R Z kc ks pc lv (.int i :: .ref (gsw G) :: st) M sz := by
  intro p e s m args below meth c C H locs ls cells slots hR hL hl h1 h2
  obtain ⟨hx, hb, -, -, -, hown, hmn, hts, hK⟩ := id C
  obtain ⟨cell, q1, q2, q3, q4, q5, q6, q7⟩ := hK.2.2.2.1
  have hlt : i.toNatClampNeg < 10 := Nat.not_le.mp fun q => hin (Or.inr q)
  exact W.iald (v := v) hx hb (by rw [hR.2.2.1 _ (Nat.not_le.mp q7)]; exact q1) q2 q3 (fun q => hin (q.elim Or.inl (fun z => Or.inr (Nat.le_trans q4 z)))) (by rw [q6 _ hlt, hv]) rfl rfl hd (kk p e s m args below meth c C H locs ls cells slots hR hL hl h1 h2)
theorem mm_gets {C0 n d ref : String} {v : Value} {idx : Nat} (hZ : ∀ s : State, mm_K G s → va_Z C0 n d v (mm_A G) s (gH G)) (hw : Cond.fieldLink Y.1 idx C0 n d ∈ lwK) (hd : decode Y.2.1 pc = .ok (.getstatic idx, 3)) (kk : RW l G Y R Z kc ks (pc + 3) lv (v :: st) M sz) : RW l G Y R Z kc ks pc lv st M sz := by
  intro p e s m args below meth c C H locs ls cells slots hR hL hl h1 h2
  obtain ⟨hx, hb, -, -, -, hown, hmn, hts, hK⟩ := id C
  obtain ⟨cf, kf, fi, f, a, cell, z1, z2, z3, z4, z5, z6, z7, z8⟩ := hZ s hK
  exact W.gets hx hb hown (hts _ hw) z1 z2 z3 z4 (by rw [hR.2.2.1 a (Nat.not_le.mp z8)]; exact z5) (fun e => by rw [e] at z6; cases z6) z7 rfl hd (kk p e s m args below meth c C H locs ls cells slots hR hL hl h1 h2)
theorem rw_kind {i idx : Nat} (hi : i < 10) (hw : Cond.fieldLink Y.1 idx "VersionGroup$Kind" (mm_kinds.getD i "") "LVersionGroup$Kind;" ∈ lwK) (hd : decode Y.2.1 pc = .ok (.getstatic idx, 3)) (kk : RW l G Y R Z kc ks (pc + 3) lv (.ref (gad G i) :: st) M sz) : RW l G Y R Z kc ks pc lv st M sz :=
  mm_gets (ref := "") (fun _ hK => (hK.2.1.1 i hi).1) hw hd kk
theorem rw_swm {idx : Nat} (hw : Cond.fieldLink Y.1 idx "VersionGroup$1" "$SwitchMap$VersionGroup$Kind" "[I" ∈ lwK) (hd : decode Y.2.1 pc = .ok (.getstatic idx, 3)) (kk : RW l G Y R Z kc ks (pc + 3) lv (.ref (gsw G) :: st) M sz) : RW l G Y R Z kc ks pc lv st M sz :=
  mm_gets (ref := "") (fun _ hK => hK.2.2.1) hw hd kk
theorem rw_iast {a n : Nat} {f : Nat → Int32} {i x : Int32} (hd : decode Y.2.1 pc = .ok (.iastore, 1)) (hM : M a = some (.inl (0, n, .inl f))) (hin : vp_in i n) (kk : RW l G Y R Z kc ks (pc + 1) lv st (mup M a (.inl (0, n, .inl (upd f i.toNatClampNeg x)))) sz) : RW l G Y R Z kc ks pc lv (.int x :: .int i :: .ref a :: st) M sz := by
  intro p e s m args below meth c C H locs ls cells slots hR hL hl h1 h2
  obtain ⟨hx, hb, -, -, -, hown, hmn, hts, hK⟩ := id C
  have ha := (hR.2.1 a _ hM)
  refine W.iast hx hb ha.2 ((hK.1.2 0 _ rfl).1 n (fun j => .int (f j))) (fun q => by cases q) (by show ¬ (i < 0 ∨ (arrV _ _ _).slots.size ≤ _); rw [arrV_size]; exact hin) rfl rfl hd fun H1 e1 z oq => ?_
  refine kk p e s m args below meth c C H1 _ ls cells slots (hR.set ha.1 ?_ z oq) (mm_locs hL ha.1) hl h1 h2
  show H1[a]? = some (vp_cell _ _)
  rw [e1]
  show some ((vp_cell _ _).setSlot _ _) = _
  rw [vp_cell_i, vp_cell_i, arrV_store]
  congr 2
  funext q
  by_cases hq : q = i.toNatClampNeg
  · subst hq
    simp [updV, upd]
  · simp [updV, upd, hq]
theorem rw_zast {a n : Nat} {f : Nat → Int32} {i x : Int32} (hd : decode Y.2.1 pc = .ok (.bastore, 1)) (hM : M a = some (.inl (1, n, .inl f))) (hin : vp_in i n) (hn : narrow .boolean (.int x) = .int x) (kk : RW l G Y R Z kc ks (pc + 1) lv st (mup M a (.inl (1, n, .inl (upd f i.toNatClampNeg x)))) sz) : RW l G Y R Z kc ks pc lv (.int x :: .int i :: .ref a :: st) M sz := by
  intro p e s m args below meth c C H locs ls cells slots hR hL hl h1 h2
  obtain ⟨hx, hb, -, -, -, hown, hmn, hts, hK⟩ := id C
  have ha := (hR.2.1 a _ hM)
  refine W.zast hx hb ha.2 ((hK.1.2 1 _ rfl).1 n (fun j => .int (f j))) (fun q => by cases q) (by show ¬ (i < 0 ∨ (arrV _ _ _).slots.size ≤ _); rw [arrV_size]; exact hin) rfl rfl hd fun H1 e1 z oq => ?_
  refine kk p e s m args below meth c C H1 _ ls cells slots (hR.set ha.1 ?_ z oq) (mm_locs hL ha.1) hl h1 h2
  show H1[a]? = some (vp_cell _ _)
  rw [e1, hn]
  show some ((vp_cell _ _).setSlot _ _) = _
  rw [vp_cell_i, vp_cell_i, arrV_store]
  congr 2
  funext q
  by_cases hq : q = i.toNatClampNeg
  · subst hq
    simp [updV, upd]
  · simp [updV, upd, hq]
theorem rw_last {a n : Nat} {f : Nat → Int64} {i : Int32} {x : Int64} (hd : decode Y.2.1 pc = .ok (.lastore, 1)) (hM : M a = some (.inl (2, n, .inr (.inl f)))) (hin : vp_in i n) (kk : RW l G Y R Z kc ks (pc + 1) lv st (mup M a (.inl (2, n, .inr (.inl (va_up f i.toNatClampNeg x))))) sz) : RW l G Y R Z kc ks pc lv (.long x :: .int i :: .ref a :: st) M sz := by
  intro p e s m args below meth c C H locs ls cells slots hR hL hl h1 h2
  obtain ⟨hx, hb, -, -, -, hown, hmn, hts, hK⟩ := id C
  have ha := (hR.2.1 a _ hM)
  refine W.last hx hb ha.2 ((hK.1.2 2 _ rfl).1 n (fun j => .long (f j))) (fun q => by cases q) (by show ¬ (i < 0 ∨ (arrV _ _ _).slots.size ≤ _); rw [arrV_size]; exact hin) rfl rfl hd fun H1 e1 z oq => ?_
  refine kk p e s m args below meth c C H1 _ ls cells slots (hR.set ha.1 ?_ z oq) (mm_locs hL ha.1) hl h1 h2
  show H1[a]? = some (vp_cell _ _)
  rw [e1]
  show some ((vp_cell _ _).setSlot _ _) = _
  rw [vp_cell_l, vp_cell_l, arrV_store]
  congr 2
  funext q
  by_cases hq : q = i.toNatClampNeg
  · subst hq
    simp [updV, va_up]
  · simp [updV, va_up, hq]
theorem rw_aast {a n t v ci : Nat} {C0 : String} {T : u_T} {N : Nat} {vs : List Value} {f : Nat → Option Nat} {i : Int32} (hd : decode Y.2.1 pc = .ok (.aastore, 1)) (hM : M a = some (.inl (t, n, .inr (.inr (.inr (.inr f)))))) (ht : t < 6) (hV : M v = some (.inr (ci, vs))) (hc : vwCl[ci]? = some (C0, T, N)) (hcn : mm_ty t = .object C0) (hin : vp_in i n) (kk : RW l G Y R Z kc ks (pc + 1) lv st (mup M a (.inl (t, n, .inr (.inr (.inr (.inr (va_up f i.toNatClampNeg (some v)))))))) sz) : RW l G Y R Z kc ks pc lv (.ref v :: .int i :: .ref a :: st) M sz := by
  intro p e s m args below meth c C H locs ls cells slots hR hL hl h1 h2
  obtain ⟨hx, hb, -, -, -, hown, hmn, hts, hK⟩ := id C
  have ha := (hR.2.1 a _ hM)
  have hlt : i.toNatClampNeg < n := Nat.not_le.mp fun q => hin (Or.inr q)
  have h0 : ¬ i < 0 := fun q => hin (Or.inl q)
  obtain ⟨r', hr', cellV, g1, g2, g3, -⟩ := (hR.2.1 v _ hV).2
  have hcls := (hK.1.1 ci _ hc).2
  have htt := (hK.1.2 t _ (mm_tys_at G ht)).2
  rw [hcn] at htt
  obtain ⟨kA, comp, k1, k2, k3, -⟩ := htt
  have hcomp : comp = (gD G).1 ci := Option.some.inj (k3.symm.trans hcls.1)
  subst hcomp
  obtain ⟨kC, hkC, -⟩ := hcls.2
  refine W.aast hx hb ha.2 (fun q h => by cases h) (fun h => by cases h) k1 k2 rfl hkC ⟨h0, by show _ < (arrV _ _ _).slots.size; rw [arrV_size]; exact hlt⟩ g1 (fun q h => by rw [g3] at h; cases h) (by rw [g2]; exact hkC) (by rw [g2]; exact va_assign hcls) rfl rfl hd fun H1 e1 z oq => ?_
  refine kk p e s m args below meth c C H1 _ ls cells slots (hR.set ha.1 ?_ z oq) (mm_locs hL ha.1) hl h1 h2
  show H1[a]? = some (vp_cell _ _)
  rw [e1]
  show some ((vp_cell _ _).setSlot _ _) = _
  rw [vp_cell_q, vp_cell_q, arrV_store]
  congr 2
  funext q
  by_cases hq : q = i.toNatClampNeg
  · subst hq
    simp [updV, va_up, va_rf]
  · simp [updV, va_up, hq]
theorem rw_aastN {a n t : Nat} {cn : String} {f : Nat → Option Nat} {i : Int32} (hd : decode Y.2.1 pc = .ok (.aastore, 1)) (hM : M a = some (.inl (t, n, .inr (.inr (.inr (.inr f)))))) (ht : t < 6) (hcn : mm_ty t = .object cn) (hin : vp_in i n) (kk : RW l G Y R Z kc ks (pc + 1) lv st (mup M a (.inl (t, n, .inr (.inr (.inr (.inr (va_up f i.toNatClampNeg none))))))) sz) : RW l G Y R Z kc ks pc lv (.null :: .int i :: .ref a :: st) M sz := by
  intro p e s m args below meth c C H locs ls cells slots hR hL hl h1 h2
  obtain ⟨hx, hb, -, -, -, hown, hmn, hts, hK⟩ := id C
  have ha := (hR.2.1 a _ hM)
  have htt := (hK.1.2 t _ (mm_tys_at G ht)).1
  rw [hcn] at htt
  refine va_WaastN (C := cn) hx hb ha.2 (htt n (fun j => va_rf (f j))) (fun h => by cases h) (by show ¬ (i < 0 ∨ (arrV _ _ _).slots.size ≤ _); rw [arrV_size]; exact hin) rfl rfl hd fun H1 e1 z oq => ?_
  refine kk p e s m args below meth c C H1 _ ls cells slots (hR.set ha.1 ?_ z oq) (mm_locs hL ha.1) hl h1 h2
  show H1[a]? = some (vp_cell _ _)
  rw [e1]
  show some ((vp_cell _ _).setSlot _ _) = _
  rw [vp_cell_q, vp_cell_q, arrV_store]
  congr 2
  funext q
  by_cases hq : q = i.toNatClampNeg
  · subst hq
    simp [updV, va_up, va_rf]
  · simp [updV, va_up, hq]
theorem rw_new {ci idx N : Nat} {fs : List Value} (hd : decode Y.2.1 pc = .ok (.new idx, 3)) (hF : mm_N Y.1 idx ci N fs) (kk : RW l G Y R Z kc ks (pc + 3) lv (.ref sz :: st) (mup M sz (.inr (ci, fs))) (sz + 1)) : RW l G Y R Z (kc + 1) (ks + N) pc lv st M sz := by
  intro p e s m args below meth c C H locs ls cells slots hR hL hl h1 h2
  obtain ⟨C0, T, tyf, hc, hin, hty, hcl, hinst, hini, hfs⟩ := hF
  obtain ⟨hx, hb, -, -, -, hown, hmn, hts, hK⟩ := id C
  have hKn := hK.1.1 ci _ hc
  refine W.newcK hx hb hown (hts _ hcl) (hts _ hinst) (hts _ hini) rfl hd (by omega) (by omega) hKn.2.1 hR.1 fun H1 kC hkC e1 z1 o1 => ?_
  exact kk p e s m args below meth c C H1 locs ls (cells + 1) (slots + N) (hR.push ⟨_, hc, (u_born tyf hts hin hKn hkC e1 hty).to hfs⟩ z1 o1) hL hl (by omega) (by omega)
theorem rw_newa {t N : Nat} {atype : ArrayType} {n : Int32} {a0 : vp_A} (hd : decode Y.2.1 pc = .ok (.newarray atype, 2)) (hty : newarray.typeOf atype = mm_ty t) (ht : t < 3) (hw : Cond.arrayClass (mm_ty t) ∈ lwK) (hn : ¬ n < 0) (hN : n.toNatClampNeg = N) (hbytes : N * componentBytes (mm_ty t) ≤ 536870912) (ha : ∀ cA : ClassId, vp_cell cA a0 = arrV cA N (fun _ => defaultValue (mm_ty t)))
    (kk : RW l G Y R Z kc ks (pc + 2) lv (.ref sz :: st) (mup M sz (.inl (t, a0))) (sz + 1)) : RW l G Y R Z (kc + 1) (ks + N) pc lv (.int n :: st) M sz := by
  intro p e s m args below meth c C H locs ls cells slots hR hL hl h1 h2
  obtain ⟨hx, hb, -, -, -, hown, hmn, hts, hK⟩ := id C
  refine va_newaK hx hb (by rw [hty]; exact hts _ hw) rfl hd rfl hn hN (by rw [hty]; exact hbytes) (by omega) (by omega) hR.1 fun H1 cA e1 z1 o1 hAr hNm => ?_
  rw [hty] at e1 hNm
  have hA : cA = gK G t := by
    have hra := (hK.1.2 t _ (mm_tys_at G (by omega))).2
    match t, ht, hra, hNm with
    | 0, _, hra, hNm => exact Option.some.inj (hNm.symm.trans hra)
    | 1, _, hra, hNm => exact Option.some.inj (hNm.symm.trans hra)
    | 2, _, hra, hNm => exact Option.some.inj (hNm.symm.trans hra)
  subst hA
  refine kk p e s m args below meth c C H1 locs ls (cells + 1) (slots + N) (hR.push ?_ z1 o1) hL hl (by omega) (by omega)
  show H1[sz]? = some (vp_cell _ _)
  rw [e1]
  exact congrArg some (ha _).symm
theorem rw_newq {t N idx : Nat} {cn : String} {n : Int32} (hd : decode Y.2.1 pc = .ok (.anewarray idx, 3)) (ht : t < 6) (hcn : mm_ty t = .object cn) (hao : ∀ s : State, mm_K G s → va_AO cn s) (hw : Cond.classLink Y.1 idx cn ∈ lwK) (hn : ¬ n < 0) (hN : n.toNatClampNeg = N) (hbytes : N * 4 ≤ 536870912)
    (kk : RW l G Y R Z kc ks (pc + 3) lv (.ref sz :: st) (mup M sz (.inl (t, N, .inr (.inr (.inr (.inr (fun _ => none))))))) (sz + 1)) : RW l G Y R Z (kc + 1) (ks + N) pc lv (.int n :: st) M sz := by
  intro p e s m args below meth c C H locs ls cells slots hR hL hl h1 h2
  obtain ⟨hx, hb, -, -, -, hown, hmn, hts, hK⟩ := id C
  subst hN
  refine W.anew hx hb hown (hts _ hw) (va_AO.use (hao s hK)) rfl hd rfl hn hbytes (by omega) (by omega) fun cA kA comp f1 f2 f3 f4 => ?_
  have hA : cA = gK G t := by
    have hra := (hK.1.2 t _ (mm_tys_at G ht)).2
    rw [hcn] at hra
    obtain ⟨-, -, -, -, -, k4⟩ := hra
    exact Option.some.inj (f1.symm.trans k4)
  subst hA
  have hs := hR.1
  subst hs
  refine kk p e s m args below meth c C _ locs ls (cells + 1) (slots + n.toNatClampNeg) (hR.push ?_ (by simp) (fun q hq => by rw [Array.getElem?_push, if_neg (Nat.ne_of_lt hq)])) hL hl (by omega) (by omega)
  show (H.push _)[H.size]? = some (vp_cell _ _)
  rw [Array.getElem?_push_size, vp_cell_q, ← arrV_new]
  rfl
/-- behind a call -/
theorem rw_run {mc ms : Nat} {rest : List Value} {Q2 : Option Value → mm_M → Nat → Prop} {a : Array Value} {p : Program} {e : Env} {s : State} {m : MethodId} {args : Array Value} {below : List Frame} {meth : Method} {c : Code} {H : Heap} {locs : List Loc} {ls : Array Slot} {cells slots : Nat}
    (C : mm_C G Y p s m args meth c) (hL : ∀ q ∈ locs, gh G ≤ q.base) (hl : lv_has ls Y.2.2.1 lv) (h1 : cells + (kc + mc) ≤ R.cells) (h2 : slots + (ks + ms) ≤ R.slots)
    (hr : va_Run p l e R s m args below meth c H locs cells slots mc ms (F0 m pc ls st) rest (mm_Q G Q2 a) (fun q => gh G ≤ q))
    (kk : ∀ (r : Option Value) (M' : mm_M) (sz' : Nat), Q2 r M' sz' → RW l G Y R Z kc ks (pc + 3) lv (r.toList ++ rest) M' sz') : W p l e R s m args below meth c H locs cells slots (Z below args s) (F0 m pc ls st) := by
  intro T hT X
  obtain ⟨v, st₀, t, T', L, h0, X', hLL, e1, e2, ⟨r, M', sz', hv, hq, hRR⟩, stp⟩ := hr T hT X
  cases hv
  obtain ⟨t2, a1, b1⟩ := kk v M' sz' hq p e s m args below meth c C T'.heap (locs ++ L) ls (cells + mc) (slots + ms) (by rw [e1]; exact hRR) (fun q hq => by
    rcases List.mem_append.mp hq with h | h
    · exact hL q h
    · exact hLL q h) hl (by omega) (by omega) T' rfl X'
  exact ⟨t2, stp t2 a1, b1⟩
theorem mm_blind {As : List Value} {M0 : mm_M} {z0 : Nat} : FrameBlind (va_Pc As (fun U => mm_K G U ∧ mm_R G M0 z0 U.heap)) := by
  intro a U g mk h
  obtain ⟨h1, h2, h3⟩ := h
  exact ⟨h1, mm_K.same (u := U) (U := U.calling g mk a) rfl h2, h3⟩
/-- what a call asks of the words, apart from the link: the callee's code is known, its class is initialized, its parameters are n -/
def mm_CW (Y2 : mm_Y) (desc : String) (n : Nat) : Prop := Cond.code (mm_y Y2 desc) Y2.2.1 Y2.2.2.1 Y2.2.2.2.1 ∈ lwK ∧ Cond.initialized Y2.1 ∈ lwK ∧ Y2.1 ≠ "java/lang/invoke/MethodHandle" ∧ Y2.1 ≠ "java/lang/invoke/VarHandle" ∧ (parseMethodDescriptor desc).map (fun d => d.parameters.length) = some n
theorem mm_CB {Y2 : mm_Y} {desc : String} {n idx : Nat} {R2 : Room} {s : State} {args : Array Value} (hts : ∀ w ∈ lwK, w.before args s = true) (hW : mm_CW Y2 desc n) (hlk : Cond.methodLink Y.1 idx (mm_y Y2 desc) ∈ lwK) (hRm : R2.frames + 1 ≤ R.frames ∧ 8 + (Y2.2.2.1 + 11) + R2.locals ≤ R.locals) :
    CallB R s args Y.1 idx (mm_y Y2 desc) Y2.2.1 Y2.2.2.1 Y2.2.2.2.1 (Cond.code (mm_y Y2 desc) Y2.2.1 Y2.2.2.1 Y2.2.2.2.1 :: lwK) R2 R2.cells R2.slots n :=
  callB_of n hts (lwK_good _ _ _ _ hW.1) rfl rfl rfl (hts _ hW.2.1) (hts _ hlk) hW.2.2 hRm
theorem rw_callV {Y2 : mm_Y} {desc : String} {idx a n ci : Nat} {C0 : String} {T : u_T} {N : Nat} {fs As rest : List Value} {R2 : Room} {Q2 : Option Value → mm_M → Nat → Prop} (hd : decode Y.2.1 pc = .ok (.invokevirtual idx, 3)) (hC : CT l G Y2 desc R2 (.ref a :: As) M sz Q2) (hW : mm_CW Y2 desc n) (hlk : Cond.methodLink Y.1 idx (mm_y Y2 desc) ∈ lwK) (hin : Cond.instanceMethod (mm_y Y2 desc) ∈ lwK) (hse : Cond.selects Y2.1 (mm_y Y2 desc) (mm_y Y2 desc) ∈ lwK)
    (hRm : R2.frames + 1 ≤ R.frames ∧ 8 + (Y2.2.2.1 + 11) + R2.locals ≤ R.locals) (hM : M a = some (.inr (ci, fs))) (hc : vwCl[ci]? = some (C0, T, N)) (hcn : C0 = Y2.1) (hn : As.length = n) (hst : st = As.reverse ++ .ref a :: rest) (hsm : (rest.map fun v => v.category).sum ≤ 8)
    (kk : ∀ (r : Option Value) (M' : mm_M) (sz' : Nat), Q2 r M' sz' → RW l G Y R Z kc ks (pc + 3) lv (r.toList ++ rest) M' sz') : RW l G Y R Z (kc + R2.cells) (ks + R2.slots) pc lv st M sz := by
  intro p e s m args below meth c C H locs ls cells slots hR hL hl h1 h2
  obtain ⟨hx, hb, -, hml, -, hown, hmn, hts, hK⟩ := id C
  refine rw_run C hL hl h1 h2 (va_runV (C := Y2.1) ⟨hx, hb, hml, hown, hts⟩ hC ⟨mm_CB hts hW hlk hRm, hts _ hin, hts _ hse⟩ ⟨mm_blind, ?_, fun U hU hWm => ⟨rfl, hK.warm hWm, by rw [hU]; exact hR⟩⟩ rfl hn hl.1 hst (lv_room hsm) hd ⟨by omega, by omega⟩) kk
  subst hcn
  exact va_recv hK.1 (mm_P1 (hR.2.1 a _ hM).2) (ci := ci) (q := (Y2.1, T, N)) (q0 := 0) hc rfl
theorem rw_callI {Y2 : mm_Y} {desc : String} {idx a n : Nat} {As rest : List Value} {R2 : Room} {Q2 : Option Value → mm_M → Nat → Prop} (hd : decode Y.2.1 pc = .ok (.invokespecial idx, 3)) (hC : CT l G Y2 desc R2 (.ref a :: As) M sz Q2) (hW : mm_CW Y2 desc n) (hlk : Cond.methodLink Y.1 idx (mm_y Y2 desc) ∈ lwK) (hin : Cond.instanceMethod (mm_y Y2 desc) ∈ lwK) (hi : Y2.2.2.2.2 = "<init>") (hret : Y2.2.2.2.1 = none)
    (hRm : R2.frames + 1 ≤ R.frames ∧ 8 + (Y2.2.2.1 + 11) + R2.locals ≤ R.locals) (hn : As.length = n) (hst : st = As.reverse ++ .ref a :: rest) (hsm : (rest.map fun v => v.category).sum ≤ 8)
    (kk : ∀ (r : Option Value) (M' : mm_M) (sz' : Nat), Q2 r M' sz' → RW l G Y R Z kc ks (pc + 3) lv (r.toList ++ rest) M' sz') : RW l G Y R Z (kc + R2.cells) (ks + R2.slots) pc lv st M sz := by
  intro p e s m args below meth c C H locs ls cells slots hR hL hl h1 h2
  obtain ⟨hx, hb, -, hml, -, hown, hmn, hts, hK⟩ := id C
  have hCB := mm_CB (Y := Y) (R := R) (R2 := R2) hts hW hlk hRm
  rw [hret] at hCB
  unfold CT at hC
  rw [hret] at hC
  exact rw_run C hL hl h1 h2 (va_runI ⟨hx, hb, hml, hown, hts⟩ hC ⟨hCB, hi, hts _ hin⟩ ⟨mm_blind, fun U hU hWm => ⟨rfl, hK.warm hWm, by rw [hU]; exact hR⟩⟩ rfl hn hl.1 hst (lv_room hsm) hd ⟨by omega, by omega⟩) kk
theorem rw_callS {Y2 : mm_Y} {desc : String} {idx n : Nat} {As rest : List Value} {R2 : Room} {Q2 : Option Value → mm_M → Nat → Prop} (hd : decode Y.2.1 pc = .ok (.invokestatic idx, 3)) (hC : CT l G Y2 desc R2 As M sz Q2) (hW : mm_CW Y2 desc n) (hlk : Cond.methodLink Y.1 idx (mm_y Y2 desc) ∈ lwK) (hs : Cond.static (mm_y Y2 desc) ∈ lwK)
    (hRm : R2.frames + 1 ≤ R.frames ∧ 8 + (Y2.2.2.1 + 11) + R2.locals ≤ R.locals) (hn : As.length = n) (hst : st = As.reverse ++ rest) (hsm : (rest.map fun v => v.category).sum ≤ 8)
    (kk : ∀ (r : Option Value) (M' : mm_M) (sz' : Nat), Q2 r M' sz' → RW l G Y R Z kc ks (pc + 3) lv (r.toList ++ rest) M' sz') : RW l G Y R Z (kc + R2.cells) (ks + R2.slots) pc lv st M sz := by
  intro p e s m args below meth c C H locs ls cells slots hR hL hl h1 h2
  obtain ⟨hx, hb, -, hml, -, hown, hmn, hts, hK⟩ := id C
  exact rw_run C hL hl h1 h2 (va_runS ⟨hx, hb, hml, hown, hts⟩ hC ⟨mm_CB hts hW hlk hRm, hts _ hs⟩ ⟨mm_blind, fun U hU hWm => ⟨rfl, hK.warm hWm, by rw [hU]; exact hR⟩⟩ rfl hn hl.1 hst (lv_room hsm) hd ⟨by omega, by omega⟩) kk
theorem rw_objInit {idx a : Nat} {rest : List Value} (hd : decode Y.2.1 pc = .ok (.invokespecial idx, 3)) (hlk : Cond.methodLink Y.1 idx objectInit ∈ lwK) (hin : Cond.instanceMethod objectInit ∈ lwK) (hco : Cond.code objectInit ⟨#[0xb1]⟩ 1 none ∈ lwK) (hfr : 1 ≤ R.frames) (hlo : (rest.map fun v => v.category).sum + 12 ≤ R.locals) (kk : RW l G Y R Z kc ks (pc + 3) lv rest M sz) : RW l G Y R Z kc ks pc lv (.ref a :: rest) M sz := by
  intro p e s m args below meth c C H locs ls cells slots hR hL hl h1 h2
  obtain ⟨hx, hb, -, hml, -, hown, hmn, hts, hK⟩ := id C
  exact W.objInit hx hb hown (hts _ hlk) (hts _ hin) (hts _ hco) rfl (hl.1.trans hml.symm) rfl hd hfr (by show 2 * 0 + _ + 12 ≤ _; omega) (kk p e s m args below meth c C H locs ls cells slots hR hL hl h1 h2)
end MEM
end
section
theorem in_Command : ∀ w ∈ u_ws n_Command T_Command 4, w ∈ lwK := lwK_pos [390, 392, 394, 396] (by decide +kernel) (by decide +kernel)
theorem in_Copy : ∀ w ∈ u_ws n_Copy T_Copy 6, w ∈ lwK := lwK_pos [80, 82, 84, 86, 88, 90] (by decide +kernel) (by decide +kernel)
theorem in_Plan : ∀ w ∈ u_ws n_Plan T_Plan 2, w ∈ lwK := lwK_pos [44, 46] (by decide +kernel) (by decide +kernel)
theorem in_Message : ∀ w ∈ u_ws n_Message T_Message 11, w ∈ lwK := lwK_pos [117, 119, 121, 123, 125, 127, 129, 131, 133, 135, 137] (by decide +kernel) (by decide +kernel)
theorem in_Post : ∀ w ∈ u_ws n_Post T_Post 3, w ∈ lwK := lwK_pos [144, 146, 148] (by decide +kernel) (by decide +kernel)
theorem in_MapKeeper : ∀ w ∈ u_ws n_MapKeeper T_MapKeeper 6, w ∈ lwK := lwK_pos [174, 176, 178, 180, 182, 184] (by decide +kernel) (by decide +kernel)
theorem in_Desk : ∀ w ∈ u_ws n_Desk T_Desk 6, w ∈ lwK := lwK_pos [203, 205, 207, 209, 211, 213] (by decide +kernel) (by decide +kernel)
theorem in_Memory : ∀ w ∈ u_ws n_Memory T_Memory 4, w ∈ lwK := lwK_pos [241, 243, 245, 247] (by decide +kernel) (by decide +kernel)
theorem in_Reports : ∀ w ∈ u_ws n_Reports T_Reports 5, w ∈ lwK := lwK_pos [266, 268, 270, 272, 274] (by decide +kernel) (by decide +kernel)
theorem in_Node : ∀ w ∈ u_ws n_Node T_Node 10, w ∈ lwK := lwK_pos [319, 321, 323, 325, 327, 329, 331, 333, 335, 337] (by decide +kernel) (by decide +kernel)
theorem in_VG : ∀ w ∈ u_ws n_VG T_VG 5, w ∈ lwK := lwK_pos [345, 347, 349, 351, 353] (by decide +kernel) (by decide +kernel)
theorem in_Mod : ∀ w ∈ u_ws n_Mod T_Mod 14, w ∈ lwK := lwK_pos [704, 706, 708, 710, 712, 714, 716, 718, 720, 722, 724, 726, 728, 730] (by decide +kernel) (by decide +kernel)
theorem fF_Plan_9 : mm_F "VersionGroup$Plan" 9 2 0 := ⟨n_Plan, T_Plan, 2, rfl, by decide, in_Plan, lwK_in 39 (by decide +kernel) (by decide +kernel)⟩
theorem fQ_Plan_9 : mm_FP "VersionGroup$Plan" 9 2 0 (.int) "<init>" := ⟨n_Plan, T_Plan, 2, ty_Plan, rfl, by decide, in_Plan, lwK_in 39 (by decide +kernel) (by decide +kernel), tyok_Plan, nm_Plan, by decide +kernel, Or.inr ⟨rfl, rfl, rfl⟩⟩
theorem fF_MapKeeper_39 : mm_F "VersionGroup$MapKeeper" 39 2 0 := ⟨n_Plan, T_Plan, 2, rfl, by decide, in_Plan, lwK_in 40 (by decide +kernel) (by decide +kernel)⟩
theorem fF_Node_39 : mm_F "VersionGroup$Node" 39 2 0 := ⟨n_Plan, T_Plan, 2, rfl, by decide, in_Plan, lwK_in 41 (by decide +kernel) (by decide +kernel)⟩
theorem fF_VG_48 : mm_F "VersionGroup" 48 2 0 := ⟨n_Plan, T_Plan, 2, rfl, by decide, in_Plan, lwK_in 42 (by decide +kernel) (by decide +kernel)⟩
theorem fF_Plan_15 : mm_F "VersionGroup$Plan" 15 2 1 := ⟨n_Plan, T_Plan, 2, rfl, by decide, in_Plan, lwK_in 43 (by decide +kernel) (by decide +kernel)⟩
theorem fQ_Plan_15 : mm_FP "VersionGroup$Plan" 15 2 1 (.int) "<init>" := ⟨n_Plan, T_Plan, 2, ty_Plan, rfl, by decide, in_Plan, lwK_in 43 (by decide +kernel) (by decide +kernel), tyok_Plan, nm_Plan, by decide +kernel, Or.inr ⟨rfl, rfl, rfl⟩⟩
theorem fF_Copy_28 : mm_F "VersionGroup$Copy" 28 1 0 := ⟨n_Copy, T_Copy, 6, rfl, by decide, in_Copy, lwK_in 70 (by decide +kernel) (by decide +kernel)⟩
theorem fP_Copy_28 (nm : String) : mm_FP "VersionGroup$Copy" 28 1 0 (.int) nm := ⟨n_Copy, T_Copy, 6, ty_Copy, rfl, by decide, in_Copy, lwK_in 70 (by decide +kernel) (by decide +kernel), tyok_Copy, nm_Copy, by decide +kernel, Or.inl rfl⟩
theorem fF_Node_205 : mm_F "VersionGroup$Node" 205 1 0 := ⟨n_Copy, T_Copy, 6, rfl, by decide, in_Copy, lwK_in 71 (by decide +kernel) (by decide +kernel)⟩
theorem fP_Node_205 (nm : String) : mm_FP "VersionGroup$Node" 205 1 0 (.int) nm := ⟨n_Copy, T_Copy, 6, ty_Copy, rfl, by decide, in_Copy, lwK_in 71 (by decide +kernel) (by decide +kernel), tyok_Copy, nm_Copy, by decide +kernel, Or.inl rfl⟩
theorem fF_Copy_35 : mm_F "VersionGroup$Copy" 35 1 1 := ⟨n_Copy, T_Copy, 6, rfl, by decide, in_Copy, lwK_in 72 (by decide +kernel) (by decide +kernel)⟩
theorem fP_Copy_35 (nm : String) : mm_FP "VersionGroup$Copy" 35 1 1 (.int) nm := ⟨n_Copy, T_Copy, 6, ty_Copy, rfl, by decide, in_Copy, lwK_in 72 (by decide +kernel) (by decide +kernel), tyok_Copy, nm_Copy, by decide +kernel, Or.inl rfl⟩
theorem fF_Node_204 : mm_F "VersionGroup$Node" 204 1 1 := ⟨n_Copy, T_Copy, 6, rfl, by decide, in_Copy, lwK_in 73 (by decide +kernel) (by decide +kernel)⟩
theorem fP_Node_204 (nm : String) : mm_FP "VersionGroup$Node" 204 1 1 (.int) nm := ⟨n_Copy, T_Copy, 6, ty_Copy, rfl, by decide, in_Copy, lwK_in 73 (by decide +kernel) (by decide +kernel), tyok_Copy, nm_Copy, by decide +kernel, Or.inl rfl⟩
theorem fF_Copy_24 : mm_F "VersionGroup$Copy" 24 1 2 := ⟨n_Copy, T_Copy, 6, rfl, by decide, in_Copy, lwK_in 74 (by decide +kernel) (by decide +kernel)⟩
theorem fP_Copy_24 (nm : String) : mm_FP "VersionGroup$Copy" 24 1 2 (.long) nm := ⟨n_Copy, T_Copy, 6, ty_Copy, rfl, by decide, in_Copy, lwK_in 74 (by decide +kernel) (by decide +kernel), tyok_Copy, nm_Copy, by decide +kernel, Or.inl rfl⟩
theorem fF_Copy_9 : mm_F "VersionGroup$Copy" 9 1 3 := ⟨n_Copy, T_Copy, 6, rfl, by decide, in_Copy, lwK_in 75 (by decide +kernel) (by decide +kernel)⟩
theorem fQ_Copy_9 : mm_FP "VersionGroup$Copy" 9 1 3 (.array .int) "<init>" := ⟨n_Copy, T_Copy, 6, ty_Copy, rfl, by decide, in_Copy, lwK_in 75 (by decide +kernel) (by decide +kernel), tyok_Copy, nm_Copy, by decide +kernel, Or.inr ⟨rfl, rfl, rfl⟩⟩
theorem fF_VG_165 : mm_F "VersionGroup" 165 1 3 := ⟨n_Copy, T_Copy, 6, rfl, by decide, in_Copy, lwK_in 76 (by decide +kernel) (by decide +kernel)⟩
theorem fF_Copy_15 : mm_F "VersionGroup$Copy" 15 1 4 := ⟨n_Copy, T_Copy, 6, rfl, by decide, in_Copy, lwK_in 77 (by decide +kernel) (by decide +kernel)⟩
theorem fQ_Copy_15 : mm_FP "VersionGroup$Copy" 15 1 4 (.array .int) "<init>" := ⟨n_Copy, T_Copy, 6, ty_Copy, rfl, by decide, in_Copy, lwK_in 77 (by decide +kernel) (by decide +kernel), tyok_Copy, nm_Copy, by decide +kernel, Or.inr ⟨rfl, rfl, rfl⟩⟩
theorem fF_Node_189 : mm_F "VersionGroup$Node" 189 1 4 := ⟨n_Copy, T_Copy, 6, rfl, by decide, in_Copy, lwK_in 78 (by decide +kernel) (by decide +kernel)⟩
theorem fF_Copy_20 : mm_F "VersionGroup$Copy" 20 1 5 := ⟨n_Copy, T_Copy, 6, rfl, by decide, in_Copy, lwK_in 79 (by decide +kernel) (by decide +kernel)⟩
theorem fQ_Copy_20 : mm_FP "VersionGroup$Copy" 20 1 5 (.array (.object "VersionGroup$Command")) "<init>" := ⟨n_Copy, T_Copy, 6, ty_Copy, rfl, by decide, in_Copy, lwK_in 79 (by decide +kernel) (by decide +kernel), tyok_Copy, nm_Copy, by decide +kernel, Or.inr ⟨rfl, rfl, rfl⟩⟩
theorem fF_Post_26 : mm_F "VersionGroup$Post" 26 3 0 := ⟨n_Message, T_Message, 11, rfl, by decide, in_Message, lwK_in 94 (by decide +kernel) (by decide +kernel)⟩
theorem fP_Post_26 (nm : String) : mm_FP "VersionGroup$Post" 26 3 0 (.object "VersionGroup$Kind") nm := ⟨n_Message, T_Message, 11, ty_Message, rfl, by decide, in_Message, lwK_in 94 (by decide +kernel) (by decide +kernel), tyok_Message, nm_Message, by decide +kernel, Or.inl rfl⟩
theorem fF_Node_85 : mm_F "VersionGroup$Node" 85 3 0 := ⟨n_Message, T_Message, 11, rfl, by decide, in_Message, lwK_in 95 (by decide +kernel) (by decide +kernel)⟩
theorem fP_Node_85 (nm : String) : mm_FP "VersionGroup$Node" 85 3 0 (.object "VersionGroup$Kind") nm := ⟨n_Message, T_Message, 11, ty_Message, rfl, by decide, in_Message, lwK_in 95 (by decide +kernel) (by decide +kernel), tyok_Message, nm_Message, by decide +kernel, Or.inl rfl⟩
theorem fF_VG_195 : mm_F "VersionGroup" 195 3 0 := ⟨n_Message, T_Message, 11, rfl, by decide, in_Message, lwK_in 96 (by decide +kernel) (by decide +kernel)⟩
theorem fP_VG_195 (nm : String) : mm_FP "VersionGroup" 195 3 0 (.object "VersionGroup$Kind") nm := ⟨n_Message, T_Message, 11, ty_Message, rfl, by decide, in_Message, lwK_in 96 (by decide +kernel) (by decide +kernel), tyok_Message, nm_Message, by decide +kernel, Or.inl rfl⟩
theorem fF_Post_30 : mm_F "VersionGroup$Post" 30 3 1 := ⟨n_Message, T_Message, 11, rfl, by decide, in_Message, lwK_in 97 (by decide +kernel) (by decide +kernel)⟩
theorem fP_Post_30 (nm : String) : mm_FP "VersionGroup$Post" 30 3 1 (.int) nm := ⟨n_Message, T_Message, 11, ty_Message, rfl, by decide, in_Message, lwK_in 97 (by decide +kernel) (by decide +kernel), tyok_Message, nm_Message, by decide +kernel, Or.inl rfl⟩
theorem fF_MapKeeper_64 : mm_F "VersionGroup$MapKeeper" 64 3 1 := ⟨n_Message, T_Message, 11, rfl, by decide, in_Message, lwK_in 98 (by decide +kernel) (by decide +kernel)⟩
theorem fP_MapKeeper_64 (nm : String) : mm_FP "VersionGroup$MapKeeper" 64 3 1 (.int) nm := ⟨n_Message, T_Message, 11, ty_Message, rfl, by decide, in_Message, lwK_in 98 (by decide +kernel) (by decide +kernel), tyok_Message, nm_Message, by decide +kernel, Or.inl rfl⟩
theorem fF_Node_121 : mm_F "VersionGroup$Node" 121 3 1 := ⟨n_Message, T_Message, 11, rfl, by decide, in_Message, lwK_in 99 (by decide +kernel) (by decide +kernel)⟩
theorem fP_Node_121 (nm : String) : mm_FP "VersionGroup$Node" 121 3 1 (.int) nm := ⟨n_Message, T_Message, 11, ty_Message, rfl, by decide, in_Message, lwK_in 99 (by decide +kernel) (by decide +kernel), tyok_Message, nm_Message, by decide +kernel, Or.inl rfl⟩
theorem fF_Post_33 : mm_F "VersionGroup$Post" 33 3 2 := ⟨n_Message, T_Message, 11, rfl, by decide, in_Message, lwK_in 100 (by decide +kernel) (by decide +kernel)⟩
theorem fP_Post_33 (nm : String) : mm_FP "VersionGroup$Post" 33 3 2 (.int) nm := ⟨n_Message, T_Message, 11, ty_Message, rfl, by decide, in_Message, lwK_in 100 (by decide +kernel) (by decide +kernel), tyok_Message, nm_Message, by decide +kernel, Or.inl rfl⟩
theorem fF_VG_213 : mm_F "VersionGroup" 213 3 2 := ⟨n_Message, T_Message, 11, rfl, by decide, in_Message, lwK_in 101 (by decide +kernel) (by decide +kernel)⟩
theorem fP_VG_213 (nm : String) : mm_FP "VersionGroup" 213 3 2 (.int) nm := ⟨n_Message, T_Message, 11, ty_Message, rfl, by decide, in_Message, lwK_in 101 (by decide +kernel) (by decide +kernel), tyok_Message, nm_Message, by decide +kernel, Or.inl rfl⟩
theorem fF_Post_36 : mm_F "VersionGroup$Post" 36 3 3 := ⟨n_Message, T_Message, 11, rfl, by decide, in_Message, lwK_in 102 (by decide +kernel) (by decide +kernel)⟩
theorem fP_Post_36 (nm : String) : mm_FP "VersionGroup$Post" 36 3 3 (.int) nm := ⟨n_Message, T_Message, 11, ty_Message, rfl, by decide, in_Message, lwK_in 102 (by decide +kernel) (by decide +kernel), tyok_Message, nm_Message, by decide +kernel, Or.inl rfl⟩
theorem fF_Node_100 : mm_F "VersionGroup$Node" 100 3 3 := ⟨n_Message, T_Message, 11, rfl, by decide, in_Message, lwK_in 103 (by decide +kernel) (by decide +kernel)⟩
theorem fP_Node_100 (nm : String) : mm_FP "VersionGroup$Node" 100 3 3 (.int) nm := ⟨n_Message, T_Message, 11, ty_Message, rfl, by decide, in_Message, lwK_in 103 (by decide +kernel) (by decide +kernel), tyok_Message, nm_Message, by decide +kernel, Or.inl rfl⟩
theorem fF_MapKeeper_67 : mm_F "VersionGroup$MapKeeper" 67 3 3 := ⟨n_Message, T_Message, 11, rfl, by decide, in_Message, lwK_in 104 (by decide +kernel) (by decide +kernel)⟩
theorem fP_MapKeeper_67 (nm : String) : mm_FP "VersionGroup$MapKeeper" 67 3 3 (.int) nm := ⟨n_Message, T_Message, 11, ty_Message, rfl, by decide, in_Message, lwK_in 104 (by decide +kernel) (by decide +kernel), tyok_Message, nm_Message, by decide +kernel, Or.inl rfl⟩
theorem fF_MapKeeper_61 : mm_F "VersionGroup$MapKeeper" 61 3 4 := ⟨n_Message, T_Message, 11, rfl, by decide, in_Message, lwK_in 105 (by decide +kernel) (by decide +kernel)⟩
theorem fP_MapKeeper_61 (nm : String) : mm_FP "VersionGroup$MapKeeper" 61 3 4 (.int) nm := ⟨n_Message, T_Message, 11, ty_Message, rfl, by decide, in_Message, lwK_in 105 (by decide +kernel) (by decide +kernel), tyok_Message, nm_Message, by decide +kernel, Or.inl rfl⟩
theorem fF_Node_160 : mm_F "VersionGroup$Node" 160 3 4 := ⟨n_Message, T_Message, 11, rfl, by decide, in_Message, lwK_in 106 (by decide +kernel) (by decide +kernel)⟩
theorem fP_Node_160 (nm : String) : mm_FP "VersionGroup$Node" 160 3 4 (.int) nm := ⟨n_Message, T_Message, 11, ty_Message, rfl, by decide, in_Message, lwK_in 106 (by decide +kernel) (by decide +kernel), tyok_Message, nm_Message, by decide +kernel, Or.inl rfl⟩
theorem fF_Node_124 : mm_F "VersionGroup$Node" 124 3 5 := ⟨n_Message, T_Message, 11, rfl, by decide, in_Message, lwK_in 107 (by decide +kernel) (by decide +kernel)⟩
theorem fP_Node_124 (nm : String) : mm_FP "VersionGroup$Node" 124 3 5 (.int) nm := ⟨n_Message, T_Message, 11, ty_Message, rfl, by decide, in_Message, lwK_in 107 (by decide +kernel) (by decide +kernel), tyok_Message, nm_Message, by decide +kernel, Or.inl rfl⟩
theorem fF_Node_127 : mm_F "VersionGroup$Node" 127 3 6 := ⟨n_Message, T_Message, 11, rfl, by decide, in_Message, lwK_in 108 (by decide +kernel) (by decide +kernel)⟩
theorem fP_Node_127 (nm : String) : mm_FP "VersionGroup$Node" 127 3 6 (.int) nm := ⟨n_Message, T_Message, 11, ty_Message, rfl, by decide, in_Message, lwK_in 108 (by decide +kernel) (by decide +kernel), tyok_Message, nm_Message, by decide +kernel, Or.inl rfl⟩
theorem fF_Desk_65 : mm_F "VersionGroup$Desk" 65 3 7 := ⟨n_Message, T_Message, 11, rfl, by decide, in_Message, lwK_in 109 (by decide +kernel) (by decide +kernel)⟩
theorem fP_Desk_65 (nm : String) : mm_FP "VersionGroup$Desk" 65 3 7 (.int) nm := ⟨n_Message, T_Message, 11, ty_Message, rfl, by decide, in_Message, lwK_in 109 (by decide +kernel) (by decide +kernel), tyok_Message, nm_Message, by decide +kernel, Or.inl rfl⟩
theorem fF_Node_188 : mm_F "VersionGroup$Node" 188 3 7 := ⟨n_Message, T_Message, 11, rfl, by decide, in_Message, lwK_in 110 (by decide +kernel) (by decide +kernel)⟩
theorem fP_Node_188 (nm : String) : mm_FP "VersionGroup$Node" 188 3 7 (.int) nm := ⟨n_Message, T_Message, 11, ty_Message, rfl, by decide, in_Message, lwK_in 110 (by decide +kernel) (by decide +kernel), tyok_Message, nm_Message, by decide +kernel, Or.inl rfl⟩
theorem fF_Desk_68 : mm_F "VersionGroup$Desk" 68 3 8 := ⟨n_Message, T_Message, 11, rfl, by decide, in_Message, lwK_in 111 (by decide +kernel) (by decide +kernel)⟩
theorem fP_Desk_68 (nm : String) : mm_FP "VersionGroup$Desk" 68 3 8 (.int) nm := ⟨n_Message, T_Message, 11, ty_Message, rfl, by decide, in_Message, lwK_in 111 (by decide +kernel) (by decide +kernel), tyok_Message, nm_Message, by decide +kernel, Or.inl rfl⟩
theorem fF_Node_192 : mm_F "VersionGroup$Node" 192 3 8 := ⟨n_Message, T_Message, 11, rfl, by decide, in_Message, lwK_in 112 (by decide +kernel) (by decide +kernel)⟩
theorem fP_Node_192 (nm : String) : mm_FP "VersionGroup$Node" 192 3 8 (.int) nm := ⟨n_Message, T_Message, 11, ty_Message, rfl, by decide, in_Message, lwK_in 112 (by decide +kernel) (by decide +kernel), tyok_Message, nm_Message, by decide +kernel, Or.inl rfl⟩
theorem fF_Node_113 : mm_F "VersionGroup$Node" 113 3 9 := ⟨n_Message, T_Message, 11, rfl, by decide, in_Message, lwK_in 113 (by decide +kernel) (by decide +kernel)⟩
theorem fP_Node_113 (nm : String) : mm_FP "VersionGroup$Node" 113 3 9 (.object "VersionGroup$Command") nm := ⟨n_Message, T_Message, 11, ty_Message, rfl, by decide, in_Message, lwK_in 113 (by decide +kernel) (by decide +kernel), tyok_Message, nm_Message, by decide +kernel, Or.inl rfl⟩
theorem fF_Desk_55 : mm_F "VersionGroup$Desk" 55 3 9 := ⟨n_Message, T_Message, 11, rfl, by decide, in_Message, lwK_in 114 (by decide +kernel) (by decide +kernel)⟩
theorem fP_Desk_55 (nm : String) : mm_FP "VersionGroup$Desk" 55 3 9 (.object "VersionGroup$Command") nm := ⟨n_Message, T_Message, 11, ty_Message, rfl, by decide, in_Message, lwK_in 114 (by decide +kernel) (by decide +kernel), tyok_Message, nm_Message, by decide +kernel, Or.inl rfl⟩
theorem fF_Message_10 : mm_F "VersionGroup$Message" 10 3 10 := ⟨n_Message, T_Message, 11, rfl, by decide, in_Message, lwK_in 115 (by decide +kernel) (by decide +kernel)⟩
theorem fQ_Message_10 : mm_FP "VersionGroup$Message" 10 3 10 (.object "VersionGroup$Copy") "<init>" := ⟨n_Message, T_Message, 11, ty_Message, rfl, by decide, in_Message, lwK_in 115 (by decide +kernel) (by decide +kernel), tyok_Message, nm_Message, by decide +kernel, Or.inr ⟨rfl, rfl, rfl⟩⟩
theorem fF_Node_142 : mm_F "VersionGroup$Node" 142 3 10 := ⟨n_Message, T_Message, 11, rfl, by decide, in_Message, lwK_in 116 (by decide +kernel) (by decide +kernel)⟩
theorem fF_Post_11 : mm_F "VersionGroup$Post" 11 4 0 := ⟨n_Post, T_Post, 3, rfl, by decide, in_Post, lwK_in 140 (by decide +kernel) (by decide +kernel)⟩
theorem fQ_Post_11 : mm_FP "VersionGroup$Post" 11 4 0 (.array (.object "VersionGroup$Message")) "<init>" := ⟨n_Post, T_Post, 3, ty_Post, rfl, by decide, in_Post, lwK_in 140 (by decide +kernel) (by decide +kernel), tyok_Post, nm_Post, by decide +kernel, Or.inr ⟨rfl, rfl, rfl⟩⟩
theorem fF_Post_17 : mm_F "VersionGroup$Post" 17 4 1 := ⟨n_Post, T_Post, 3, rfl, by decide, in_Post, lwK_in 141 (by decide +kernel) (by decide +kernel)⟩
theorem fQ_Post_17 : mm_FP "VersionGroup$Post" 17 4 1 (.array .int) "<init>" := ⟨n_Post, T_Post, 3, ty_Post, rfl, by decide, in_Post, lwK_in 141 (by decide +kernel) (by decide +kernel), tyok_Post, nm_Post, by decide +kernel, Or.inr ⟨rfl, rfl, rfl⟩⟩
theorem fF_Post_22 : mm_F "VersionGroup$Post" 22 4 2 := ⟨n_Post, T_Post, 3, rfl, by decide, in_Post, lwK_in 142 (by decide +kernel) (by decide +kernel)⟩
theorem fP_Post_22 (nm : String) : mm_FP "VersionGroup$Post" 22 4 2 (.int) nm := ⟨n_Post, T_Post, 3, ty_Post, rfl, by decide, in_Post, lwK_in 142 (by decide +kernel) (by decide +kernel), tyok_Post, nm_Post, by decide +kernel, Or.inl rfl⟩
theorem fF_VG_125 : mm_F "VersionGroup" 125 4 2 := ⟨n_Post, T_Post, 3, rfl, by decide, in_Post, lwK_in 143 (by decide +kernel) (by decide +kernel)⟩
theorem fP_VG_125 (nm : String) : mm_FP "VersionGroup" 125 4 2 (.int) nm := ⟨n_Post, T_Post, 3, ty_Post, rfl, by decide, in_Post, lwK_in 143 (by decide +kernel) (by decide +kernel), tyok_Post, nm_Post, by decide +kernel, Or.inl rfl⟩
theorem fF_MapKeeper_15 : mm_F "VersionGroup$MapKeeper" 15 5 0 := ⟨n_MapKeeper, T_MapKeeper, 6, rfl, by decide, in_MapKeeper, lwK_in 165 (by decide +kernel) (by decide +kernel)⟩
theorem fQ_MapKeeper_15 : mm_FP "VersionGroup$MapKeeper" 15 5 0 (.object "VersionGroup$Plan") "<init>" := ⟨n_MapKeeper, T_MapKeeper, 6, ty_MapKeeper, rfl, by decide, in_MapKeeper, lwK_in 165 (by decide +kernel) (by decide +kernel), tyok_MapKeeper, nm_MapKeeper, by decide +kernel, Or.inr ⟨rfl, rfl, rfl⟩⟩
theorem fF_MapKeeper_19 : mm_F "VersionGroup$MapKeeper" 19 5 1 := ⟨n_MapKeeper, T_MapKeeper, 6, rfl, by decide, in_MapKeeper, lwK_in 166 (by decide +kernel) (by decide +kernel)⟩
theorem fQ_MapKeeper_19 : mm_FP "VersionGroup$MapKeeper" 19 5 1 (.object "VersionGroup$Post") "<init>" := ⟨n_MapKeeper, T_MapKeeper, 6, ty_MapKeeper, rfl, by decide, in_MapKeeper, lwK_in 166 (by decide +kernel) (by decide +kernel), tyok_MapKeeper, nm_MapKeeper, by decide +kernel, Or.inr ⟨rfl, rfl, rfl⟩⟩
theorem fF_MapKeeper_42 : mm_F "VersionGroup$MapKeeper" 42 5 2 := ⟨n_MapKeeper, T_MapKeeper, 6, rfl, by decide, in_MapKeeper, lwK_in 167 (by decide +kernel) (by decide +kernel)⟩
theorem fQ_MapKeeper_42 : mm_FP "VersionGroup$MapKeeper" 42 5 2 (.array .int) "<init>" := ⟨n_MapKeeper, T_MapKeeper, 6, ty_MapKeeper, rfl, by decide, in_MapKeeper, lwK_in 167 (by decide +kernel) (by decide +kernel), tyok_MapKeeper, nm_MapKeeper, by decide +kernel, Or.inr ⟨rfl, rfl, rfl⟩⟩
theorem fF_MapKeeper_9 : mm_F "VersionGroup$MapKeeper" 9 5 3 := ⟨n_MapKeeper, T_MapKeeper, 6, rfl, by decide, in_MapKeeper, lwK_in 168 (by decide +kernel) (by decide +kernel)⟩
theorem fP_MapKeeper_9 (nm : String) : mm_FP "VersionGroup$MapKeeper" 9 5 3 (.int) nm := ⟨n_MapKeeper, T_MapKeeper, 6, ty_MapKeeper, rfl, by decide, in_MapKeeper, lwK_in 168 (by decide +kernel) (by decide +kernel), tyok_MapKeeper, nm_MapKeeper, by decide +kernel, Or.inl rfl⟩
theorem fF_VG_79 : mm_F "VersionGroup" 79 5 3 := ⟨n_MapKeeper, T_MapKeeper, 6, rfl, by decide, in_MapKeeper, lwK_in 169 (by decide +kernel) (by decide +kernel)⟩
theorem fP_VG_79 (nm : String) : mm_FP "VersionGroup" 79 5 3 (.int) nm := ⟨n_MapKeeper, T_MapKeeper, 6, ty_MapKeeper, rfl, by decide, in_MapKeeper, lwK_in 169 (by decide +kernel) (by decide +kernel), tyok_MapKeeper, nm_MapKeeper, by decide +kernel, Or.inl rfl⟩
theorem fF_MapKeeper_29 : mm_F "VersionGroup$MapKeeper" 29 5 4 := ⟨n_MapKeeper, T_MapKeeper, 6, rfl, by decide, in_MapKeeper, lwK_in 170 (by decide +kernel) (by decide +kernel)⟩
theorem fP_MapKeeper_29 (nm : String) : mm_FP "VersionGroup$MapKeeper" 29 5 4 (.int) nm := ⟨n_MapKeeper, T_MapKeeper, 6, ty_MapKeeper, rfl, by decide, in_MapKeeper, lwK_in 170 (by decide +kernel) (by decide +kernel), tyok_MapKeeper, nm_MapKeeper, by decide +kernel, Or.inl rfl⟩
theorem fF_VG_171 : mm_F "VersionGroup" 171 5 4 := ⟨n_MapKeeper, T_MapKeeper, 6, rfl, by decide, in_MapKeeper, lwK_in 171 (by decide +kernel) (by decide +kernel)⟩
theorem fP_VG_171 (nm : String) : mm_FP "VersionGroup" 171 5 4 (.int) nm := ⟨n_MapKeeper, T_MapKeeper, 6, ty_MapKeeper, rfl, by decide, in_MapKeeper, lwK_in 171 (by decide +kernel) (by decide +kernel), tyok_MapKeeper, nm_MapKeeper, by decide +kernel, Or.inl rfl⟩
theorem fF_MapKeeper_36 : mm_F "VersionGroup$MapKeeper" 36 5 5 := ⟨n_MapKeeper, T_MapKeeper, 6, rfl, by decide, in_MapKeeper, lwK_in 172 (by decide +kernel) (by decide +kernel)⟩
theorem fP_MapKeeper_36 (nm : String) : mm_FP "VersionGroup$MapKeeper" 36 5 5 (.int) nm := ⟨n_MapKeeper, T_MapKeeper, 6, ty_MapKeeper, rfl, by decide, in_MapKeeper, lwK_in 172 (by decide +kernel) (by decide +kernel), tyok_MapKeeper, nm_MapKeeper, by decide +kernel, Or.inl rfl⟩
theorem fF_VG_76 : mm_F "VersionGroup" 76 5 5 := ⟨n_MapKeeper, T_MapKeeper, 6, rfl, by decide, in_MapKeeper, lwK_in 173 (by decide +kernel) (by decide +kernel)⟩
theorem fP_VG_76 (nm : String) : mm_FP "VersionGroup" 76 5 5 (.int) nm := ⟨n_MapKeeper, T_MapKeeper, 6, ty_MapKeeper, rfl, by decide, in_MapKeeper, lwK_in 173 (by decide +kernel) (by decide +kernel), tyok_MapKeeper, nm_MapKeeper, by decide +kernel, Or.inl rfl⟩
theorem fF_Desk_25 : mm_F "VersionGroup$Desk" 25 6 0 := ⟨n_Desk, T_Desk, 6, rfl, by decide, in_Desk, lwK_in 194 (by decide +kernel) (by decide +kernel)⟩
theorem fQ_Desk_25 : mm_FP "VersionGroup$Desk" 25 6 0 (.object "VersionGroup$Post") "<init>" := ⟨n_Desk, T_Desk, 6, ty_Desk, rfl, by decide, in_Desk, lwK_in 194 (by decide +kernel) (by decide +kernel), tyok_Desk, nm_Desk, by decide +kernel, Or.inr ⟨rfl, rfl, rfl⟩⟩
theorem fF_Desk_11 : mm_F "VersionGroup$Desk" 11 6 1 := ⟨n_Desk, T_Desk, 6, rfl, by decide, in_Desk, lwK_in 195 (by decide +kernel) (by decide +kernel)⟩
theorem fQ_Desk_11 : mm_FP "VersionGroup$Desk" 11 6 1 (.array (.object "VersionGroup$Command")) "<init>" := ⟨n_Desk, T_Desk, 6, ty_Desk, rfl, by decide, in_Desk, lwK_in 195 (by decide +kernel) (by decide +kernel), tyok_Desk, nm_Desk, by decide +kernel, Or.inr ⟨rfl, rfl, rfl⟩⟩
theorem fF_Desk_17 : mm_F "VersionGroup$Desk" 17 6 2 := ⟨n_Desk, T_Desk, 6, rfl, by decide, in_Desk, lwK_in 196 (by decide +kernel) (by decide +kernel)⟩
theorem fQ_Desk_17 : mm_FP "VersionGroup$Desk" 17 6 2 (.array .boolean) "<init>" := ⟨n_Desk, T_Desk, 6, ty_Desk, rfl, by decide, in_Desk, lwK_in 196 (by decide +kernel) (by decide +kernel), tyok_Desk, nm_Desk, by decide +kernel, Or.inr ⟨rfl, rfl, rfl⟩⟩
theorem fF_Desk_21 : mm_F "VersionGroup$Desk" 21 6 3 := ⟨n_Desk, T_Desk, 6, rfl, by decide, in_Desk, lwK_in 197 (by decide +kernel) (by decide +kernel)⟩
theorem fQ_Desk_21 : mm_FP "VersionGroup$Desk" 21 6 3 (.array .int) "<init>" := ⟨n_Desk, T_Desk, 6, ty_Desk, rfl, by decide, in_Desk, lwK_in 197 (by decide +kernel) (by decide +kernel), tyok_Desk, nm_Desk, by decide +kernel, Or.inr ⟨rfl, rfl, rfl⟩⟩
theorem fF_VG_142 : mm_F "VersionGroup" 142 6 3 := ⟨n_Desk, T_Desk, 6, rfl, by decide, in_Desk, lwK_in 198 (by decide +kernel) (by decide +kernel)⟩
theorem fF_Desk_29 : mm_F "VersionGroup$Desk" 29 6 4 := ⟨n_Desk, T_Desk, 6, rfl, by decide, in_Desk, lwK_in 199 (by decide +kernel) (by decide +kernel)⟩
theorem fP_Desk_29 (nm : String) : mm_FP "VersionGroup$Desk" 29 6 4 (.int) nm := ⟨n_Desk, T_Desk, 6, ty_Desk, rfl, by decide, in_Desk, lwK_in 199 (by decide +kernel) (by decide +kernel), tyok_Desk, nm_Desk, by decide +kernel, Or.inl rfl⟩
theorem fF_VG_134 : mm_F "VersionGroup" 134 6 4 := ⟨n_Desk, T_Desk, 6, rfl, by decide, in_Desk, lwK_in 200 (by decide +kernel) (by decide +kernel)⟩
theorem fP_VG_134 (nm : String) : mm_FP "VersionGroup" 134 6 4 (.int) nm := ⟨n_Desk, T_Desk, 6, ty_Desk, rfl, by decide, in_Desk, lwK_in 200 (by decide +kernel) (by decide +kernel), tyok_Desk, nm_Desk, by decide +kernel, Or.inl rfl⟩
theorem fF_Desk_33 : mm_F "VersionGroup$Desk" 33 6 5 := ⟨n_Desk, T_Desk, 6, rfl, by decide, in_Desk, lwK_in 201 (by decide +kernel) (by decide +kernel)⟩
theorem fP_Desk_33 (nm : String) : mm_FP "VersionGroup$Desk" 33 6 5 (.int) nm := ⟨n_Desk, T_Desk, 6, ty_Desk, rfl, by decide, in_Desk, lwK_in 201 (by decide +kernel) (by decide +kernel), tyok_Desk, nm_Desk, by decide +kernel, Or.inl rfl⟩
theorem fF_VG_139 : mm_F "VersionGroup" 139 6 5 := ⟨n_Desk, T_Desk, 6, rfl, by decide, in_Desk, lwK_in 202 (by decide +kernel) (by decide +kernel)⟩
theorem fP_VG_139 (nm : String) : mm_FP "VersionGroup" 139 6 5 (.int) nm := ⟨n_Desk, T_Desk, 6, ty_Desk, rfl, by decide, in_Desk, lwK_in 202 (by decide +kernel) (by decide +kernel), tyok_Desk, nm_Desk, by decide +kernel, Or.inl rfl⟩
theorem fF_Memory_16 : mm_F "VersionGroup$Memory" 16 7 0 := ⟨n_Memory, T_Memory, 4, rfl, by decide, in_Memory, lwK_in 232 (by decide +kernel) (by decide +kernel)⟩
theorem fP_Memory_16 (nm : String) : mm_FP "VersionGroup$Memory" 16 7 0 (.int) nm := ⟨n_Memory, T_Memory, 4, ty_Memory, rfl, by decide, in_Memory, lwK_in 232 (by decide +kernel) (by decide +kernel), tyok_Memory, nm_Memory, by decide +kernel, Or.inl rfl⟩
theorem fF_Node_103 : mm_F "VersionGroup$Node" 103 7 0 := ⟨n_Memory, T_Memory, 4, rfl, by decide, in_Memory, lwK_in 233 (by decide +kernel) (by decide +kernel)⟩
theorem fP_Node_103 (nm : String) : mm_FP "VersionGroup$Node" 103 7 0 (.int) nm := ⟨n_Memory, T_Memory, 4, ty_Memory, rfl, by decide, in_Memory, lwK_in 233 (by decide +kernel) (by decide +kernel), tyok_Memory, nm_Memory, by decide +kernel, Or.inl rfl⟩
theorem fF_Memory_20 : mm_F "VersionGroup$Memory" 20 7 1 := ⟨n_Memory, T_Memory, 4, rfl, by decide, in_Memory, lwK_in 234 (by decide +kernel) (by decide +kernel)⟩
theorem fP_Memory_20 (nm : String) : mm_FP "VersionGroup$Memory" 20 7 1 (.int) nm := ⟨n_Memory, T_Memory, 4, ty_Memory, rfl, by decide, in_Memory, lwK_in 234 (by decide +kernel) (by decide +kernel), tyok_Memory, nm_Memory, by decide +kernel, Or.inl rfl⟩
theorem fF_Node_230 : mm_F "VersionGroup$Node" 230 7 1 := ⟨n_Memory, T_Memory, 4, rfl, by decide, in_Memory, lwK_in 235 (by decide +kernel) (by decide +kernel)⟩
theorem fP_Node_230 (nm : String) : mm_FP "VersionGroup$Node" 230 7 1 (.int) nm := ⟨n_Memory, T_Memory, 4, ty_Memory, rfl, by decide, in_Memory, lwK_in 235 (by decide +kernel) (by decide +kernel), tyok_Memory, nm_Memory, by decide +kernel, Or.inl rfl⟩
theorem fF_Memory_23 : mm_F "VersionGroup$Memory" 23 7 2 := ⟨n_Memory, T_Memory, 4, rfl, by decide, in_Memory, lwK_in 236 (by decide +kernel) (by decide +kernel)⟩
theorem fP_Memory_23 (nm : String) : mm_FP "VersionGroup$Memory" 23 7 2 (.int) nm := ⟨n_Memory, T_Memory, 4, ty_Memory, rfl, by decide, in_Memory, lwK_in 236 (by decide +kernel) (by decide +kernel), tyok_Memory, nm_Memory, by decide +kernel, Or.inl rfl⟩
theorem fF_Node_163 : mm_F "VersionGroup$Node" 163 7 2 := ⟨n_Memory, T_Memory, 4, rfl, by decide, in_Memory, lwK_in 237 (by decide +kernel) (by decide +kernel)⟩
theorem fP_Node_163 (nm : String) : mm_FP "VersionGroup$Node" 163 7 2 (.int) nm := ⟨n_Memory, T_Memory, 4, ty_Memory, rfl, by decide, in_Memory, lwK_in 237 (by decide +kernel) (by decide +kernel), tyok_Memory, nm_Memory, by decide +kernel, Or.inl rfl⟩
theorem fF_Memory_10 : mm_F "VersionGroup$Memory" 10 7 3 := ⟨n_Memory, T_Memory, 4, rfl, by decide, in_Memory, lwK_in 238 (by decide +kernel) (by decide +kernel)⟩
theorem fQ_Memory_10 : mm_FP "VersionGroup$Memory" 10 7 3 (.object "VersionGroup$Copy") "<init>" := ⟨n_Memory, T_Memory, 4, ty_Memory, rfl, by decide, in_Memory, lwK_in 238 (by decide +kernel) (by decide +kernel), tyok_Memory, nm_Memory, by decide +kernel, Or.inr ⟨rfl, rfl, rfl⟩⟩
theorem fF_Node_146 : mm_F "VersionGroup$Node" 146 7 3 := ⟨n_Memory, T_Memory, 4, rfl, by decide, in_Memory, lwK_in 239 (by decide +kernel) (by decide +kernel)⟩
theorem fF_VG_154 : mm_F "VersionGroup" 154 7 3 := ⟨n_Memory, T_Memory, 4, rfl, by decide, in_Memory, lwK_in 240 (by decide +kernel) (by decide +kernel)⟩
theorem fF_Reports_9 : mm_F "VersionGroup$Reports" 9 8 0 := ⟨n_Reports, T_Reports, 5, rfl, by decide, in_Reports, lwK_in 256 (by decide +kernel) (by decide +kernel)⟩
theorem fQ_Reports_9 : mm_FP "VersionGroup$Reports" 9 8 0 (.array .boolean) "<init>" := ⟨n_Reports, T_Reports, 5, ty_Reports, rfl, by decide, in_Reports, lwK_in 256 (by decide +kernel) (by decide +kernel), tyok_Reports, nm_Reports, by decide +kernel, Or.inr ⟨rfl, rfl, rfl⟩⟩
theorem fF_Node_238 : mm_F "VersionGroup$Node" 238 8 0 := ⟨n_Reports, T_Reports, 5, rfl, by decide, in_Reports, lwK_in 257 (by decide +kernel) (by decide +kernel)⟩
theorem fF_Reports_15 : mm_F "VersionGroup$Reports" 15 8 1 := ⟨n_Reports, T_Reports, 5, rfl, by decide, in_Reports, lwK_in 258 (by decide +kernel) (by decide +kernel)⟩
theorem fQ_Reports_15 : mm_FP "VersionGroup$Reports" 15 8 1 (.array .int) "<init>" := ⟨n_Reports, T_Reports, 5, ty_Reports, rfl, by decide, in_Reports, lwK_in 258 (by decide +kernel) (by decide +kernel), tyok_Reports, nm_Reports, by decide +kernel, Or.inr ⟨rfl, rfl, rfl⟩⟩
theorem fF_Node_248 : mm_F "VersionGroup$Node" 248 8 1 := ⟨n_Reports, T_Reports, 5, rfl, by decide, in_Reports, lwK_in 259 (by decide +kernel) (by decide +kernel)⟩
theorem fF_Reports_19 : mm_F "VersionGroup$Reports" 19 8 2 := ⟨n_Reports, T_Reports, 5, rfl, by decide, in_Reports, lwK_in 260 (by decide +kernel) (by decide +kernel)⟩
theorem fQ_Reports_19 : mm_FP "VersionGroup$Reports" 19 8 2 (.array .int) "<init>" := ⟨n_Reports, T_Reports, 5, ty_Reports, rfl, by decide, in_Reports, lwK_in 260 (by decide +kernel) (by decide +kernel), tyok_Reports, nm_Reports, by decide +kernel, Or.inr ⟨rfl, rfl, rfl⟩⟩
theorem fF_Node_251 : mm_F "VersionGroup$Node" 251 8 2 := ⟨n_Reports, T_Reports, 5, rfl, by decide, in_Reports, lwK_in 261 (by decide +kernel) (by decide +kernel)⟩
theorem fF_Reports_22 : mm_F "VersionGroup$Reports" 22 8 3 := ⟨n_Reports, T_Reports, 5, rfl, by decide, in_Reports, lwK_in 262 (by decide +kernel) (by decide +kernel)⟩
theorem fP_Reports_22 (nm : String) : mm_FP "VersionGroup$Reports" 22 8 3 (.boolean) nm := ⟨n_Reports, T_Reports, 5, ty_Reports, rfl, by decide, in_Reports, lwK_in 262 (by decide +kernel) (by decide +kernel), tyok_Reports, nm_Reports, by decide +kernel, Or.inl rfl⟩
theorem fF_Node_166 : mm_F "VersionGroup$Node" 166 8 3 := ⟨n_Reports, T_Reports, 5, rfl, by decide, in_Reports, lwK_in 263 (by decide +kernel) (by decide +kernel)⟩
theorem fP_Node_166 (nm : String) : mm_FP "VersionGroup$Node" 166 8 3 (.boolean) nm := ⟨n_Reports, T_Reports, 5, ty_Reports, rfl, by decide, in_Reports, lwK_in 263 (by decide +kernel) (by decide +kernel), tyok_Reports, nm_Reports, by decide +kernel, Or.inl rfl⟩
theorem fF_Reports_26 : mm_F "VersionGroup$Reports" 26 8 4 := ⟨n_Reports, T_Reports, 5, rfl, by decide, in_Reports, lwK_in 264 (by decide +kernel) (by decide +kernel)⟩
theorem fP_Reports_26 (nm : String) : mm_FP "VersionGroup$Reports" 26 8 4 (.int) nm := ⟨n_Reports, T_Reports, 5, ty_Reports, rfl, by decide, in_Reports, lwK_in 264 (by decide +kernel) (by decide +kernel), tyok_Reports, nm_Reports, by decide +kernel, Or.inl rfl⟩
theorem fF_Node_224 : mm_F "VersionGroup$Node" 224 8 4 := ⟨n_Reports, T_Reports, 5, rfl, by decide, in_Reports, lwK_in 265 (by decide +kernel) (by decide +kernel)⟩
theorem fP_Node_224 (nm : String) : mm_FP "VersionGroup$Node" 224 8 4 (.int) nm := ⟨n_Reports, T_Reports, 5, ty_Reports, rfl, by decide, in_Reports, lwK_in 265 (by decide +kernel) (by decide +kernel), tyok_Reports, nm_Reports, by decide +kernel, Or.inl rfl⟩
theorem fF_Node_25 : mm_F "VersionGroup$Node" 25 9 0 := ⟨n_Node, T_Node, 10, rfl, by decide, in_Node, lwK_in 307 (by decide +kernel) (by decide +kernel)⟩
theorem fQ_Node_25 : mm_FP "VersionGroup$Node" 25 9 0 (.int) "<init>" := ⟨n_Node, T_Node, 10, ty_Node, rfl, by decide, in_Node, lwK_in 307 (by decide +kernel) (by decide +kernel), tyok_Node, nm_Node, by decide +kernel, Or.inr ⟨rfl, rfl, rfl⟩⟩
theorem fF_Node_29 : mm_F "VersionGroup$Node" 29 9 1 := ⟨n_Node, T_Node, 10, rfl, by decide, in_Node, lwK_in 308 (by decide +kernel) (by decide +kernel)⟩
theorem fQ_Node_29 : mm_FP "VersionGroup$Node" 29 9 1 (.object "VersionGroup$Plan") "<init>" := ⟨n_Node, T_Node, 10, ty_Node, rfl, by decide, in_Node, lwK_in 308 (by decide +kernel) (by decide +kernel), tyok_Node, nm_Node, by decide +kernel, Or.inr ⟨rfl, rfl, rfl⟩⟩
theorem fF_Node_33 : mm_F "VersionGroup$Node" 33 9 2 := ⟨n_Node, T_Node, 10, rfl, by decide, in_Node, lwK_in 309 (by decide +kernel) (by decide +kernel)⟩
theorem fQ_Node_33 : mm_FP "VersionGroup$Node" 33 9 2 (.object "VersionGroup$Post") "<init>" := ⟨n_Node, T_Node, 10, ty_Node, rfl, by decide, in_Node, lwK_in 309 (by decide +kernel) (by decide +kernel), tyok_Node, nm_Node, by decide +kernel, Or.inr ⟨rfl, rfl, rfl⟩⟩
theorem fF_Node_12 : mm_F "VersionGroup$Node" 12 9 3 := ⟨n_Node, T_Node, 10, rfl, by decide, in_Node, lwK_in 310 (by decide +kernel) (by decide +kernel)⟩
theorem fQ_Node_12 : mm_FP "VersionGroup$Node" 12 9 3 (.object "VersionGroup$Memory") "<init>" := ⟨n_Node, T_Node, 10, ty_Node, rfl, by decide, in_Node, lwK_in 310 (by decide +kernel) (by decide +kernel), tyok_Node, nm_Node, by decide +kernel, Or.inr ⟨rfl, rfl, rfl⟩⟩
theorem fF_VG_150 : mm_F "VersionGroup" 150 9 3 := ⟨n_Node, T_Node, 10, rfl, by decide, in_Node, lwK_in 311 (by decide +kernel) (by decide +kernel)⟩
theorem fF_Node_18 : mm_F "VersionGroup$Node" 18 9 4 := ⟨n_Node, T_Node, 10, rfl, by decide, in_Node, lwK_in 312 (by decide +kernel) (by decide +kernel)⟩
theorem fQ_Node_18 : mm_FP "VersionGroup$Node" 18 9 4 (.object "VersionGroup$Memory") "<init>" := ⟨n_Node, T_Node, 10, ty_Node, rfl, by decide, in_Node, lwK_in 312 (by decide +kernel) (by decide +kernel), tyok_Node, nm_Node, by decide +kernel, Or.inr ⟨rfl, rfl, rfl⟩⟩
theorem fF_Node_47 : mm_F "VersionGroup$Node" 47 9 5 := ⟨n_Node, T_Node, 10, rfl, by decide, in_Node, lwK_in 313 (by decide +kernel) (by decide +kernel)⟩
theorem fQ_Node_47 : mm_FP "VersionGroup$Node" 47 9 5 (.object "VersionGroup$Reports") "<init>" := ⟨n_Node, T_Node, 10, ty_Node, rfl, by decide, in_Node, lwK_in 313 (by decide +kernel) (by decide +kernel), tyok_Node, nm_Node, by decide +kernel, Or.inr ⟨rfl, rfl, rfl⟩⟩
theorem fF_Node_21 : mm_F "VersionGroup$Node" 21 9 6 := ⟨n_Node, T_Node, 10, rfl, by decide, in_Node, lwK_in 314 (by decide +kernel) (by decide +kernel)⟩
theorem fP_Node_21 (nm : String) : mm_FP "VersionGroup$Node" 21 9 6 (.boolean) nm := ⟨n_Node, T_Node, 10, ty_Node, rfl, by decide, in_Node, lwK_in 314 (by decide +kernel) (by decide +kernel), tyok_Node, nm_Node, by decide +kernel, Or.inl rfl⟩
theorem fF_VG_105 : mm_F "VersionGroup" 105 9 6 := ⟨n_Node, T_Node, 10, rfl, by decide, in_Node, lwK_in 315 (by decide +kernel) (by decide +kernel)⟩
theorem fP_VG_105 (nm : String) : mm_FP "VersionGroup" 105 9 6 (.boolean) nm := ⟨n_Node, T_Node, 10, ty_Node, rfl, by decide, in_Node, lwK_in 315 (by decide +kernel) (by decide +kernel), tyok_Node, nm_Node, by decide +kernel, Or.inl rfl⟩
theorem fF_Node_76 : mm_F "VersionGroup$Node" 76 9 7 := ⟨n_Node, T_Node, 10, rfl, by decide, in_Node, lwK_in 316 (by decide +kernel) (by decide +kernel)⟩
theorem fP_Node_76 (nm : String) : mm_FP "VersionGroup$Node" 76 9 7 (.boolean) nm := ⟨n_Node, T_Node, 10, ty_Node, rfl, by decide, in_Node, lwK_in 316 (by decide +kernel) (by decide +kernel), tyok_Node, nm_Node, by decide +kernel, Or.inl rfl⟩
theorem fF_Node_79 : mm_F "VersionGroup$Node" 79 9 8 := ⟨n_Node, T_Node, 10, rfl, by decide, in_Node, lwK_in 317 (by decide +kernel) (by decide +kernel)⟩
theorem fP_Node_79 (nm : String) : mm_FP "VersionGroup$Node" 79 9 8 (.boolean) nm := ⟨n_Node, T_Node, 10, ty_Node, rfl, by decide, in_Node, lwK_in 317 (by decide +kernel) (by decide +kernel), tyok_Node, nm_Node, by decide +kernel, Or.inl rfl⟩
theorem fF_Node_82 : mm_F "VersionGroup$Node" 82 9 9 := ⟨n_Node, T_Node, 10, rfl, by decide, in_Node, lwK_in 318 (by decide +kernel) (by decide +kernel)⟩
theorem fP_Node_82 (nm : String) : mm_FP "VersionGroup$Node" 82 9 9 (.boolean) nm := ⟨n_Node, T_Node, 10, ty_Node, rfl, by decide, in_Node, lwK_in 318 (by decide +kernel) (by decide +kernel), tyok_Node, nm_Node, by decide +kernel, Or.inl rfl⟩
theorem fF_VG_24 : mm_F "VersionGroup" 24 10 0 := ⟨n_VG, T_VG, 5, rfl, by decide, in_VG, lwK_in 340 (by decide +kernel) (by decide +kernel)⟩
theorem fQ_VG_24 : mm_FP "VersionGroup" 24 10 0 (.object "VersionGroup$Post") "<init>" := ⟨n_VG, T_VG, 5, ty_VG, rfl, by decide, in_VG, lwK_in 340 (by decide +kernel) (by decide +kernel), tyok_VG, nm_VG, by decide +kernel, Or.inr ⟨rfl, rfl, rfl⟩⟩
theorem fF_VG_35 : mm_F "VersionGroup" 35 10 1 := ⟨n_VG, T_VG, 5, rfl, by decide, in_VG, lwK_in 341 (by decide +kernel) (by decide +kernel)⟩
theorem fQ_VG_35 : mm_FP "VersionGroup" 35 10 1 (.object "VersionGroup$MapKeeper") "<init>" := ⟨n_VG, T_VG, 5, ty_VG, rfl, by decide, in_VG, lwK_in 341 (by decide +kernel) (by decide +kernel), tyok_VG, nm_VG, by decide +kernel, Or.inr ⟨rfl, rfl, rfl⟩⟩
theorem fF_VG_44 : mm_F "VersionGroup" 44 10 2 := ⟨n_VG, T_VG, 5, rfl, by decide, in_VG, lwK_in 342 (by decide +kernel) (by decide +kernel)⟩
theorem fQ_VG_44 : mm_FP "VersionGroup" 44 10 2 (.object "VersionGroup$Desk") "<init>" := ⟨n_VG, T_VG, 5, ty_VG, rfl, by decide, in_VG, lwK_in 342 (by decide +kernel) (by decide +kernel), tyok_VG, nm_VG, by decide +kernel, Or.inr ⟨rfl, rfl, rfl⟩⟩
theorem fF_VG_54 : mm_F "VersionGroup" 54 10 3 := ⟨n_VG, T_VG, 5, rfl, by decide, in_VG, lwK_in 343 (by decide +kernel) (by decide +kernel)⟩
theorem fQ_VG_54 : mm_FP "VersionGroup" 54 10 3 (.array (.object "VersionGroup$Node")) "<init>" := ⟨n_VG, T_VG, 5, ty_VG, rfl, by decide, in_VG, lwK_in 343 (by decide +kernel) (by decide +kernel), tyok_VG, nm_VG, by decide +kernel, Or.inr ⟨rfl, rfl, rfl⟩⟩
theorem fF_VG_68 : mm_F "VersionGroup" 68 10 4 := ⟨n_VG, T_VG, 5, rfl, by decide, in_VG, lwK_in 344 (by decide +kernel) (by decide +kernel)⟩
theorem fP_VG_68 (nm : String) : mm_FP "VersionGroup" 68 10 4 (.boolean) nm := ⟨n_VG, T_VG, 5, ty_VG, rfl, by decide, in_VG, lwK_in 344 (by decide +kernel) (by decide +kernel), tyok_VG, nm_VG, by decide +kernel, Or.inl rfl⟩
theorem fF_Command_7 : mm_F "VersionGroup$Command" 7 0 0 := ⟨n_Command, T_Command, 4, rfl, by decide, in_Command, lwK_in 380 (by decide +kernel) (by decide +kernel)⟩
theorem fQ_Command_7 : mm_FP "VersionGroup$Command" 7 0 0 (.int) "<init>" := ⟨n_Command, T_Command, 4, ty_Command, rfl, by decide, in_Command, lwK_in 380 (by decide +kernel) (by decide +kernel), tyok_Command, nm_Command, by decide +kernel, Or.inr ⟨rfl, rfl, rfl⟩⟩
theorem fF_VG_86 : mm_F "VersionGroup" 86 0 0 := ⟨n_Command, T_Command, 4, rfl, by decide, in_Command, lwK_in 381 (by decide +kernel) (by decide +kernel)⟩
theorem fF_Copy_32 : mm_F "VersionGroup$Copy" 32 0 0 := ⟨n_Command, T_Command, 4, rfl, by decide, in_Command, lwK_in 382 (by decide +kernel) (by decide +kernel)⟩
theorem fF_Node_169 : mm_F "VersionGroup$Node" 169 0 0 := ⟨n_Command, T_Command, 4, rfl, by decide, in_Command, lwK_in 383 (by decide +kernel) (by decide +kernel)⟩
theorem fF_Command_13 : mm_F "VersionGroup$Command" 13 0 1 := ⟨n_Command, T_Command, 4, rfl, by decide, in_Command, lwK_in 384 (by decide +kernel) (by decide +kernel)⟩
theorem fQ_Command_13 : mm_FP "VersionGroup$Command" 13 0 1 (.int) "<init>" := ⟨n_Command, T_Command, 4, ty_Command, rfl, by decide, in_Command, lwK_in 384 (by decide +kernel) (by decide +kernel), tyok_Command, nm_Command, by decide +kernel, Or.inr ⟨rfl, rfl, rfl⟩⟩
theorem fF_Copy_54 : mm_F "VersionGroup$Copy" 54 0 1 := ⟨n_Command, T_Command, 4, rfl, by decide, in_Command, lwK_in 385 (by decide +kernel) (by decide +kernel)⟩
theorem fF_Command_16 : mm_F "VersionGroup$Command" 16 0 2 := ⟨n_Command, T_Command, 4, rfl, by decide, in_Command, lwK_in 386 (by decide +kernel) (by decide +kernel)⟩
theorem fQ_Command_16 : mm_FP "VersionGroup$Command" 16 0 2 (.int) "<init>" := ⟨n_Command, T_Command, 4, ty_Command, rfl, by decide, in_Command, lwK_in 386 (by decide +kernel) (by decide +kernel), tyok_Command, nm_Command, by decide +kernel, Or.inr ⟨rfl, rfl, rfl⟩⟩
theorem fF_Copy_48 : mm_F "VersionGroup$Copy" 48 0 2 := ⟨n_Command, T_Command, 4, rfl, by decide, in_Command, lwK_in 387 (by decide +kernel) (by decide +kernel)⟩
theorem fF_Command_19 : mm_F "VersionGroup$Command" 19 0 3 := ⟨n_Command, T_Command, 4, rfl, by decide, in_Command, lwK_in 388 (by decide +kernel) (by decide +kernel)⟩
theorem fQ_Command_19 : mm_FP "VersionGroup$Command" 19 0 3 (.int) "<init>" := ⟨n_Command, T_Command, 4, ty_Command, rfl, by decide, in_Command, lwK_in 388 (by decide +kernel) (by decide +kernel), tyok_Command, nm_Command, by decide +kernel, Or.inr ⟨rfl, rfl, rfl⟩⟩
theorem fF_Copy_51 : mm_F "VersionGroup$Copy" 51 0 3 := ⟨n_Command, T_Command, 4, rfl, by decide, in_Command, lwK_in 389 (by decide +kernel) (by decide +kernel)⟩
theorem fS_Desk_43 : Cond.fieldLink "VersionGroup$Desk" 43 "VersionGroup$Kind" "COMMAND" "LVersionGroup$Kind;" ∈ lwK := lwK_in 403 (by decide +kernel) (by decide +kernel)
theorem fS_VG_201 : Cond.fieldLink "VersionGroup" 201 "VersionGroup$Kind" "HEARD" "LVersionGroup$Kind;" ∈ lwK := lwK_in 428 (by decide +kernel) (by decide +kernel)
theorem fS_VG_209 : Cond.fieldLink "VersionGroup" 209 "VersionGroup$Kind" "ANSWER" "LVersionGroup$Kind;" ∈ lwK := lwK_in 435 (by decide +kernel) (by decide +kernel)
theorem fS_Node_91 : Cond.fieldLink "VersionGroup$Node" 91 "VersionGroup$Kind" "MAP" "LVersionGroup$Kind;" ∈ lwK := lwK_in 449 (by decide +kernel) (by decide +kernel)
theorem fS_Node_104 : Cond.fieldLink "VersionGroup$Node" 104 "VersionGroup$1" "$SwitchMap$VersionGroup$Kind" "[I" ∈ lwK := lwK_in 459 (by decide +kernel) (by decide +kernel)
theorem fS_Node_185 : Cond.fieldLink "VersionGroup$Node" 185 "VersionGroup$Kind" "ANSWER" "LVersionGroup$Kind;" ∈ lwK := lwK_in 479 (by decide +kernel) (by decide +kernel)
theorem fS_Node_133 : Cond.fieldLink "VersionGroup$Node" 133 "VersionGroup$Kind" "WHOLE" "LVersionGroup$Kind;" ∈ lwK := lwK_in 489 (by decide +kernel) (by decide +kernel)
theorem fS_MapKeeper_49 : Cond.fieldLink "VersionGroup$MapKeeper" 49 "VersionGroup$Kind" "MAP" "LVersionGroup$Kind;" ∈ lwK := lwK_in 550 (by decide +kernel) (by decide +kernel)
theorem fS_Node_195 : Cond.fieldLink "VersionGroup$Node" 195 "VersionGroup$Kind" "HEARD" "LVersionGroup$Kind;" ∈ lwK := lwK_in 565 (by decide +kernel) (by decide +kernel)
theorem fS_Node_227 : Cond.fieldLink "VersionGroup$Node" 227 "VersionGroup$Kind" "FETCH" "LVersionGroup$Kind;" ∈ lwK := lwK_in 586 (by decide +kernel) (by decide +kernel)
theorem fS_Node_242 : Cond.fieldLink "VersionGroup$Node" 242 "VersionGroup$Kind" "ASK" "LVersionGroup$Kind;" ∈ lwK := lwK_in 602 (by decide +kernel) (by decide +kernel)
theorem fS_Node_263 : Cond.fieldLink "VersionGroup$Node" 263 "VersionGroup$Kind" "ENTRIES" "LVersionGroup$Kind;" ∈ lwK := lwK_in 613 (by decide +kernel) (by decide +kernel)
theorem fS_Node_257 : Cond.fieldLink "VersionGroup$Node" 257 "VersionGroup$Kind" "DROP" "LVersionGroup$Kind;" ∈ lwK := lwK_in 615 (by decide +kernel) (by decide +kernel)
theorem fS_Node_201 : Cond.fieldLink "VersionGroup$Node" 201 "VersionGroup$Kind" "REPORT" "LVersionGroup$Kind;" ∈ lwK := lwK_in 617 (by decide +kernel) (by decide +kernel)
theorem fF_Mod_34 : mm_F "VersionGroupModel" 34 11 0 := ⟨n_Mod, T_Mod, 14, rfl, by decide, in_Mod, lwK_in 690 (by decide +kernel) (by decide +kernel)⟩
theorem fQ_Mod_34 : mm_FP "VersionGroupModel" 34 11 0 (.int) "<init>" := ⟨n_Mod, T_Mod, 14, ty_Mod, rfl, by decide, in_Mod, lwK_in 690 (by decide +kernel) (by decide +kernel), tyok_Mod, nm_Mod, by decide +kernel, Or.inr ⟨rfl, rfl, rfl⟩⟩
theorem fF_Mod_37 : mm_F "VersionGroupModel" 37 11 1 := ⟨n_Mod, T_Mod, 14, rfl, by decide, in_Mod, lwK_in 691 (by decide +kernel) (by decide +kernel)⟩
theorem fQ_Mod_37 : mm_FP "VersionGroupModel" 37 11 1 (.int) "<init>" := ⟨n_Mod, T_Mod, 14, ty_Mod, rfl, by decide, in_Mod, lwK_in 691 (by decide +kernel) (by decide +kernel), tyok_Mod, nm_Mod, by decide +kernel, Or.inr ⟨rfl, rfl, rfl⟩⟩
theorem fF_Mod_7 : mm_F "VersionGroupModel" 7 11 2 := ⟨n_Mod, T_Mod, 14, rfl, by decide, in_Mod, lwK_in 692 (by decide +kernel) (by decide +kernel)⟩
theorem fQ_Mod_7 : mm_FP "VersionGroupModel" 7 11 2 (.array .int) "<init>" := ⟨n_Mod, T_Mod, 14, ty_Mod, rfl, by decide, in_Mod, lwK_in 692 (by decide +kernel) (by decide +kernel), tyok_Mod, nm_Mod, by decide +kernel, Or.inr ⟨rfl, rfl, rfl⟩⟩
theorem fF_Mod_13 : mm_F "VersionGroupModel" 13 11 3 := ⟨n_Mod, T_Mod, 14, rfl, by decide, in_Mod, lwK_in 693 (by decide +kernel) (by decide +kernel)⟩
theorem fQ_Mod_13 : mm_FP "VersionGroupModel" 13 11 3 (.array .boolean) "<init>" := ⟨n_Mod, T_Mod, 14, ty_Mod, rfl, by decide, in_Mod, lwK_in 693 (by decide +kernel) (by decide +kernel), tyok_Mod, nm_Mod, by decide +kernel, Or.inr ⟨rfl, rfl, rfl⟩⟩
theorem fF_Mod_17 : mm_F "VersionGroupModel" 17 11 4 := ⟨n_Mod, T_Mod, 14, rfl, by decide, in_Mod, lwK_in 694 (by decide +kernel) (by decide +kernel)⟩
theorem fQ_Mod_17 : mm_FP "VersionGroupModel" 17 11 4 (.array .int) "<init>" := ⟨n_Mod, T_Mod, 14, ty_Mod, rfl, by decide, in_Mod, lwK_in 694 (by decide +kernel) (by decide +kernel), tyok_Mod, nm_Mod, by decide +kernel, Or.inr ⟨rfl, rfl, rfl⟩⟩
theorem fF_Mod_20 : mm_F "VersionGroupModel" 20 11 5 := ⟨n_Mod, T_Mod, 14, rfl, by decide, in_Mod, lwK_in 695 (by decide +kernel) (by decide +kernel)⟩
theorem fQ_Mod_20 : mm_FP "VersionGroupModel" 20 11 5 (.array .int) "<init>" := ⟨n_Mod, T_Mod, 14, ty_Mod, rfl, by decide, in_Mod, lwK_in 695 (by decide +kernel) (by decide +kernel), tyok_Mod, nm_Mod, by decide +kernel, Or.inr ⟨rfl, rfl, rfl⟩⟩
theorem fF_Mod_23 : mm_F "VersionGroupModel" 23 11 6 := ⟨n_Mod, T_Mod, 14, rfl, by decide, in_Mod, lwK_in 696 (by decide +kernel) (by decide +kernel)⟩
theorem fQ_Mod_23 : mm_FP "VersionGroupModel" 23 11 6 (.array .int) "<init>" := ⟨n_Mod, T_Mod, 14, ty_Mod, rfl, by decide, in_Mod, lwK_in 696 (by decide +kernel) (by decide +kernel), tyok_Mod, nm_Mod, by decide +kernel, Or.inr ⟨rfl, rfl, rfl⟩⟩
theorem fF_Mod_46 : mm_F "VersionGroupModel" 46 11 7 := ⟨n_Mod, T_Mod, 14, rfl, by decide, in_Mod, lwK_in 697 (by decide +kernel) (by decide +kernel)⟩
theorem fP_Mod_46 (nm : String) : mm_FP "VersionGroupModel" 46 11 7 (.int) nm := ⟨n_Mod, T_Mod, 14, ty_Mod, rfl, by decide, in_Mod, lwK_in 697 (by decide +kernel) (by decide +kernel), tyok_Mod, nm_Mod, by decide +kernel, Or.inl rfl⟩
theorem fF_Mod_26 : mm_F "VersionGroupModel" 26 11 8 := ⟨n_Mod, T_Mod, 14, rfl, by decide, in_Mod, lwK_in 698 (by decide +kernel) (by decide +kernel)⟩
theorem fP_Mod_26 (nm : String) : mm_FP "VersionGroupModel" 26 11 8 (.array .long) nm := ⟨n_Mod, T_Mod, 14, ty_Mod, rfl, by decide, in_Mod, lwK_in 698 (by decide +kernel) (by decide +kernel), tyok_Mod, nm_Mod, by decide +kernel, Or.inl rfl⟩
theorem fF_Mod_49 : mm_F "VersionGroupModel" 49 11 9 := ⟨n_Mod, T_Mod, 14, rfl, by decide, in_Mod, lwK_in 699 (by decide +kernel) (by decide +kernel)⟩
theorem fP_Mod_49 (nm : String) : mm_FP "VersionGroupModel" 49 11 9 (.int) nm := ⟨n_Mod, T_Mod, 14, ty_Mod, rfl, by decide, in_Mod, lwK_in 699 (by decide +kernel) (by decide +kernel), tyok_Mod, nm_Mod, by decide +kernel, Or.inl rfl⟩
theorem fF_Mod_40 : mm_F "VersionGroupModel" 40 11 10 := ⟨n_Mod, T_Mod, 14, rfl, by decide, in_Mod, lwK_in 700 (by decide +kernel) (by decide +kernel)⟩
theorem fP_Mod_40 (nm : String) : mm_FP "VersionGroupModel" 40 11 10 (.int) nm := ⟨n_Mod, T_Mod, 14, ty_Mod, rfl, by decide, in_Mod, lwK_in 700 (by decide +kernel) (by decide +kernel), tyok_Mod, nm_Mod, by decide +kernel, Or.inl rfl⟩
theorem fF_Mod_43 : mm_F "VersionGroupModel" 43 11 11 := ⟨n_Mod, T_Mod, 14, rfl, by decide, in_Mod, lwK_in 701 (by decide +kernel) (by decide +kernel)⟩
theorem fP_Mod_43 (nm : String) : mm_FP "VersionGroupModel" 43 11 11 (.int) nm := ⟨n_Mod, T_Mod, 14, ty_Mod, rfl, by decide, in_Mod, lwK_in 701 (by decide +kernel) (by decide +kernel), tyok_Mod, nm_Mod, by decide +kernel, Or.inl rfl⟩
theorem fF_Mod_30 : mm_F "VersionGroupModel" 30 11 12 := ⟨n_Mod, T_Mod, 14, rfl, by decide, in_Mod, lwK_in 702 (by decide +kernel) (by decide +kernel)⟩
theorem fP_Mod_30 (nm : String) : mm_FP "VersionGroupModel" 30 11 12 (.int) nm := ⟨n_Mod, T_Mod, 14, ty_Mod, rfl, by decide, in_Mod, lwK_in 702 (by decide +kernel) (by decide +kernel), tyok_Mod, nm_Mod, by decide +kernel, Or.inl rfl⟩
theorem fF_Mod_52 : mm_F "VersionGroupModel" 52 11 13 := ⟨n_Mod, T_Mod, 14, rfl, by decide, in_Mod, lwK_in 703 (by decide +kernel) (by decide +kernel)⟩
theorem fP_Mod_52 (nm : String) : mm_FP "VersionGroupModel" 52 11 13 (.boolean) nm := ⟨n_Mod, T_Mod, 14, ty_Mod, rfl, by decide, in_Mod, lwK_in 703 (by decide +kernel) (by decide +kernel), tyok_Mod, nm_Mod, by decide +kernel, Or.inl rfl⟩
theorem fS_Enum_7 : Cond.fieldLink "java/lang/Enum" 7 "java/lang/Enum" "ordinal" "I" ∈ lwK := lwK_in 805 (by decide +kernel) (by decide +kernel)
theorem cL_Law_7 : Cond.classLink "VersionGroupLaw" 7 "VersionGroup" ∈ lwK := lwK_in 19 (by decide +kernel) (by decide +kernel)
theorem nN_Law_7 : mm_N "VersionGroupLaw" 7 10 5 [.null, .null, .null, .null, .int 0] := ⟨n_VG, T_VG, ty_VG, rfl, in_VG, tyok_VG, lwK_in 19 (by decide +kernel) (by decide +kernel), lwK_in 20 (by decide +kernel) (by decide +kernel), lwK_in 1 (by decide +kernel) (by decide +kernel), by decide +kernel⟩
theorem mL_Law_15 : Cond.methodLink "VersionGroupLaw" 15 ⟨"VersionGroup", "<init>", "(II)V"⟩ ∈ lwK := lwK_in 21 (by decide +kernel) (by decide +kernel)
theorem mI_VG_init : Cond.instanceMethod ⟨"VersionGroup", "<init>", "(II)V"⟩ ∈ lwK := lwK_in 22 (by decide +kernel) (by decide +kernel)
theorem mW_VG_init : mm_CW Y_VG_init ds_VG_init 2 := ⟨lwK_in 23 (by decide +kernel) (by decide +kernel), lwK_in 1 (by decide +kernel) (by decide +kernel), by decide, by decide, by decide +kernel⟩
theorem mL_VG_1 : Cond.methodLink "VersionGroup" 1 ⟨"java/lang/Object", "<init>", "()V"⟩ ∈ lwK := lwK_in 24 (by decide +kernel) (by decide +kernel)
theorem mI_Object_init : Cond.instanceMethod ⟨"java/lang/Object", "<init>", "()V"⟩ ∈ lwK := lwK_in 25 (by decide +kernel) (by decide +kernel)
theorem cL_VG_7 : Cond.classLink "VersionGroup" 7 "VersionGroup$Plan" ∈ lwK := lwK_in 27 (by decide +kernel) (by decide +kernel)
theorem nN_VG_7 : mm_N "VersionGroup" 7 2 2 [.int 0, .int 0] := ⟨n_Plan, T_Plan, ty_Plan, rfl, in_Plan, tyok_Plan, lwK_in 27 (by decide +kernel) (by decide +kernel), lwK_in 28 (by decide +kernel) (by decide +kernel), lwK_in 2 (by decide +kernel) (by decide +kernel), by decide +kernel⟩
theorem mL_VG_9 : Cond.methodLink "VersionGroup" 9 ⟨"java/lang/Math", "min", "(II)I"⟩ ∈ lwK := lwK_in 29 (by decide +kernel) (by decide +kernel)
theorem mS_Math_min : Cond.static ⟨"java/lang/Math", "min", "(II)I"⟩ ∈ lwK := lwK_in 30 (by decide +kernel) (by decide +kernel)
theorem mW_Math_min : mm_CW Y_Math_min ds_Math_min 2 := ⟨lwK_in 31 (by decide +kernel) (by decide +kernel), lwK_in 3 (by decide +kernel) (by decide +kernel), by decide, by decide, by decide +kernel⟩
theorem mL_VG_15 : Cond.methodLink "VersionGroup" 15 ⟨"java/lang/Math", "max", "(II)I"⟩ ∈ lwK := lwK_in 32 (by decide +kernel) (by decide +kernel)
theorem mS_Math_max : Cond.static ⟨"java/lang/Math", "max", "(II)I"⟩ ∈ lwK := lwK_in 33 (by decide +kernel) (by decide +kernel)
theorem mW_Math_max : mm_CW Y_Math_max ds_Math_max 2 := ⟨lwK_in 34 (by decide +kernel) (by decide +kernel), lwK_in 3 (by decide +kernel) (by decide +kernel), by decide, by decide, by decide +kernel⟩
theorem mL_VG_18 : Cond.methodLink "VersionGroup" 18 ⟨"VersionGroup$Plan", "<init>", "(II)V"⟩ ∈ lwK := lwK_in 35 (by decide +kernel) (by decide +kernel)
theorem mI_Plan_init : Cond.instanceMethod ⟨"VersionGroup$Plan", "<init>", "(II)V"⟩ ∈ lwK := lwK_in 36 (by decide +kernel) (by decide +kernel)
theorem mW_Plan_init : mm_CW Y_Plan_init ds_Plan_init 2 := ⟨lwK_in 37 (by decide +kernel) (by decide +kernel), lwK_in 2 (by decide +kernel) (by decide +kernel), by decide, by decide, by decide +kernel⟩
theorem mL_Plan_3 : Cond.methodLink "VersionGroup$Plan" 3 ⟨"java/lang/Object", "<init>", "()V"⟩ ∈ lwK := lwK_in 38 (by decide +kernel) (by decide +kernel)
theorem cL_VG_21 : Cond.classLink "VersionGroup" 21 "VersionGroup$Post" ∈ lwK := lwK_in 49 (by decide +kernel) (by decide +kernel)
theorem nN_VG_21 : mm_N "VersionGroup" 21 4 3 [.null, .null, .int 0] := ⟨n_Post, T_Post, ty_Post, rfl, in_Post, tyok_Post, lwK_in 49 (by decide +kernel) (by decide +kernel), lwK_in 50 (by decide +kernel) (by decide +kernel), lwK_in 4 (by decide +kernel) (by decide +kernel), by decide +kernel⟩
theorem mL_VG_23 : Cond.methodLink "VersionGroup" 23 ⟨"VersionGroup$Post", "<init>", "()V"⟩ ∈ lwK := lwK_in 51 (by decide +kernel) (by decide +kernel)
theorem mI_Post_init : Cond.instanceMethod ⟨"VersionGroup$Post", "<init>", "()V"⟩ ∈ lwK := lwK_in 52 (by decide +kernel) (by decide +kernel)
theorem mW_Post_init : mm_CW Y_Post_init ds_Post_init 0 := ⟨lwK_in 53 (by decide +kernel) (by decide +kernel), lwK_in 4 (by decide +kernel) (by decide +kernel), by decide, by decide, by decide +kernel⟩
theorem mL_Post_3 : Cond.methodLink "VersionGroup$Post" 3 ⟨"java/lang/Object", "<init>", "()V"⟩ ∈ lwK := lwK_in 54 (by decide +kernel) (by decide +kernel)
theorem cL_Post_9 : Cond.classLink "VersionGroup$Post" 9 "VersionGroup$Message" ∈ lwK := lwK_in 55 (by decide +kernel) (by decide +kernel)
theorem nN_Post_9 : mm_N "VersionGroup$Post" 9 3 11 [.null, .int 0, .int 0, .int 0, .int 0, .int 0, .int 0, .int 0, .int 0, .null, .null] := ⟨n_Message, T_Message, ty_Message, rfl, in_Message, tyok_Message, lwK_in 55 (by decide +kernel) (by decide +kernel), lwK_in 57 (by decide +kernel) (by decide +kernel), lwK_in 5 (by decide +kernel) (by decide +kernel), by decide +kernel⟩
theorem mI_Message_init : Cond.instanceMethod ⟨"VersionGroup$Message", "<init>", "()V"⟩ ∈ lwK := lwK_in 59 (by decide +kernel) (by decide +kernel)
theorem mW_Message_init : mm_CW Y_Message_init ds_Message_init 0 := ⟨lwK_in 60 (by decide +kernel) (by decide +kernel), lwK_in 5 (by decide +kernel) (by decide +kernel), by decide, by decide, by decide +kernel⟩
theorem mL_Message_1 : Cond.methodLink "VersionGroup$Message" 1 ⟨"java/lang/Object", "<init>", "()V"⟩ ∈ lwK := lwK_in 61 (by decide +kernel) (by decide +kernel)
theorem cL_Message_7 : Cond.classLink "VersionGroup$Message" 7 "VersionGroup$Copy" ∈ lwK := lwK_in 62 (by decide +kernel) (by decide +kernel)
theorem nN_Message_7 : mm_N "VersionGroup$Message" 7 1 6 [.int 0, .int 0, .long 0, .null, .null, .null] := ⟨n_Copy, T_Copy, ty_Copy, rfl, in_Copy, tyok_Copy, lwK_in 62 (by decide +kernel) (by decide +kernel), lwK_in 63 (by decide +kernel) (by decide +kernel), lwK_in 6 (by decide +kernel) (by decide +kernel), by decide +kernel⟩
theorem mI_Copy_init : Cond.instanceMethod ⟨"VersionGroup$Copy", "<init>", "()V"⟩ ∈ lwK := lwK_in 65 (by decide +kernel) (by decide +kernel)
theorem mW_Copy_init : mm_CW Y_Copy_init ds_Copy_init 0 := ⟨lwK_in 66 (by decide +kernel) (by decide +kernel), lwK_in 6 (by decide +kernel) (by decide +kernel), by decide, by decide, by decide +kernel⟩
theorem mL_Copy_3 : Cond.methodLink "VersionGroup$Copy" 3 ⟨"java/lang/Object", "<init>", "()V"⟩ ∈ lwK := lwK_in 67 (by decide +kernel) (by decide +kernel)
theorem cL_Copy_18 : Cond.classLink "VersionGroup$Copy" 18 "VersionGroup$Command" ∈ lwK := lwK_in 68 (by decide +kernel) (by decide +kernel)
theorem nN_Copy_18 : mm_N "VersionGroup$Copy" 18 0 4 [.int 0, .int 0, .int 0, .int 0] := ⟨n_Command, T_Command, ty_Command, rfl, in_Command, tyok_Command, lwK_in 68 (by decide +kernel) (by decide +kernel), lwK_in 375 (by decide +kernel) (by decide +kernel), lwK_in 15 (by decide +kernel) (by decide +kernel), by decide +kernel⟩
theorem aC_int : Cond.arrayClass .int ∈ lwK := lwK_in 93 (by decide +kernel) (by decide +kernel)
theorem cL_VG_30 : Cond.classLink "VersionGroup" 30 "VersionGroup$MapKeeper" ∈ lwK := lwK_in 151 (by decide +kernel) (by decide +kernel)
theorem nN_VG_30 : mm_N "VersionGroup" 30 5 6 [.null, .null, .null, .int 0, .int 0, .int 0] := ⟨n_MapKeeper, T_MapKeeper, ty_MapKeeper, rfl, in_MapKeeper, tyok_MapKeeper, lwK_in 151 (by decide +kernel) (by decide +kernel), lwK_in 152 (by decide +kernel) (by decide +kernel), lwK_in 7 (by decide +kernel) (by decide +kernel), by decide +kernel⟩
theorem mL_VG_32 : Cond.methodLink "VersionGroup" 32 ⟨"VersionGroup$MapKeeper", "<init>", "(LVersionGroup$Plan;LVersionGroup$Post;)V"⟩ ∈ lwK := lwK_in 153 (by decide +kernel) (by decide +kernel)
theorem mI_MapKeeper_init : Cond.instanceMethod ⟨"VersionGroup$MapKeeper", "<init>", "(LVersionGroup$Plan;LVersionGroup$Post;)V"⟩ ∈ lwK := lwK_in 154 (by decide +kernel) (by decide +kernel)
theorem mW_MapKeeper_init : mm_CW Y_MapKeeper_init ds_MapKeeper_init 2 := ⟨lwK_in 155 (by decide +kernel) (by decide +kernel), lwK_in 7 (by decide +kernel) (by decide +kernel), by decide, by decide, by decide +kernel⟩
theorem mL_MapKeeper_3 : Cond.methodLink "VersionGroup$MapKeeper" 3 ⟨"java/lang/Object", "<init>", "()V"⟩ ∈ lwK := lwK_in 156 (by decide +kernel) (by decide +kernel)
theorem mL_MapKeeper_23 : Cond.methodLink "VersionGroup$MapKeeper" 23 ⟨"VersionGroup$Plan", "all", "()I"⟩ ∈ lwK := lwK_in 157 (by decide +kernel) (by decide +kernel)
theorem mI_Plan_all : Cond.instanceMethod ⟨"VersionGroup$Plan", "all", "()I"⟩ ∈ lwK := lwK_in 158 (by decide +kernel) (by decide +kernel)
theorem mE_Plan_all : Cond.selects "VersionGroup$Plan" ⟨"VersionGroup$Plan", "all", "()I"⟩ ⟨"VersionGroup$Plan", "all", "()I"⟩ ∈ lwK := lwK_in 159 (by decide +kernel) (by decide +kernel)
theorem mW_Plan_all : mm_CW Y_Plan_all ds_Plan_all 0 := ⟨lwK_in 160 (by decide +kernel) (by decide +kernel), lwK_in 2 (by decide +kernel) (by decide +kernel), by decide, by decide, by decide +kernel⟩
theorem mL_MapKeeper_32 : Cond.methodLink "VersionGroup$MapKeeper" 32 ⟨"VersionGroup$Plan", "greatest", "(I)I"⟩ ∈ lwK := lwK_in 161 (by decide +kernel) (by decide +kernel)
theorem mI_Plan_greatest : Cond.instanceMethod ⟨"VersionGroup$Plan", "greatest", "(I)I"⟩ ∈ lwK := lwK_in 162 (by decide +kernel) (by decide +kernel)
theorem mE_Plan_greatest : Cond.selects "VersionGroup$Plan" ⟨"VersionGroup$Plan", "greatest", "(I)I"⟩ ⟨"VersionGroup$Plan", "greatest", "(I)I"⟩ ∈ lwK := lwK_in 163 (by decide +kernel) (by decide +kernel)
theorem mW_Plan_greatest : mm_CW Y_Plan_greatest ds_Plan_greatest 1 := ⟨lwK_in 164 (by decide +kernel) (by decide +kernel), lwK_in 2 (by decide +kernel) (by decide +kernel), by decide, by decide, by decide +kernel⟩
theorem cL_VG_39 : Cond.classLink "VersionGroup" 39 "VersionGroup$Desk" ∈ lwK := lwK_in 187 (by decide +kernel) (by decide +kernel)
theorem nN_VG_39 : mm_N "VersionGroup" 39 6 6 [.null, .null, .null, .null, .int 0, .int 0] := ⟨n_Desk, T_Desk, ty_Desk, rfl, in_Desk, tyok_Desk, lwK_in 187 (by decide +kernel) (by decide +kernel), lwK_in 188 (by decide +kernel) (by decide +kernel), lwK_in 8 (by decide +kernel) (by decide +kernel), by decide +kernel⟩
theorem mL_VG_41 : Cond.methodLink "VersionGroup" 41 ⟨"VersionGroup$Desk", "<init>", "(LVersionGroup$Post;)V"⟩ ∈ lwK := lwK_in 189 (by decide +kernel) (by decide +kernel)
theorem mI_Desk_init : Cond.instanceMethod ⟨"VersionGroup$Desk", "<init>", "(LVersionGroup$Post;)V"⟩ ∈ lwK := lwK_in 190 (by decide +kernel) (by decide +kernel)
theorem mW_Desk_init : mm_CW Y_Desk_init ds_Desk_init 1 := ⟨lwK_in 191 (by decide +kernel) (by decide +kernel), lwK_in 8 (by decide +kernel) (by decide +kernel), by decide, by decide, by decide +kernel⟩
theorem mL_Desk_3 : Cond.methodLink "VersionGroup$Desk" 3 ⟨"java/lang/Object", "<init>", "()V"⟩ ∈ lwK := lwK_in 192 (by decide +kernel) (by decide +kernel)
theorem cL_Desk_9 : Cond.classLink "VersionGroup$Desk" 9 "VersionGroup$Command" ∈ lwK := lwK_in 193 (by decide +kernel) (by decide +kernel)
theorem nN_Desk_9 : mm_N "VersionGroup$Desk" 9 0 4 [.int 0, .int 0, .int 0, .int 0] := ⟨n_Command, T_Command, ty_Command, rfl, in_Command, tyok_Command, lwK_in 193 (by decide +kernel) (by decide +kernel), lwK_in 375 (by decide +kernel) (by decide +kernel), lwK_in 15 (by decide +kernel) (by decide +kernel), by decide +kernel⟩
theorem aC_boolean : Cond.arrayClass .boolean ∈ lwK := lwK_in 216 (by decide +kernel) (by decide +kernel)
theorem cL_VG_52 : Cond.classLink "VersionGroup" 52 "VersionGroup$Node" ∈ lwK := lwK_in 217 (by decide +kernel) (by decide +kernel)
theorem nN_VG_52 : mm_N "VersionGroup" 52 9 10 [.int 0, .null, .null, .null, .null, .null, .int 0, .int 0, .int 0, .int 0] := ⟨n_Node, T_Node, ty_Node, rfl, in_Node, tyok_Node, lwK_in 217 (by decide +kernel) (by decide +kernel), lwK_in 219 (by decide +kernel) (by decide +kernel), lwK_in 9 (by decide +kernel) (by decide +kernel), by decide +kernel⟩
theorem mL_VG_57 : Cond.methodLink "VersionGroup" 57 ⟨"VersionGroup$Node", "<init>", "(ILVersionGroup$Plan;LVersionGroup$Post;)V"⟩ ∈ lwK := lwK_in 220 (by decide +kernel) (by decide +kernel)
theorem mI_Node_init : Cond.instanceMethod ⟨"VersionGroup$Node", "<init>", "(ILVersionGroup$Plan;LVersionGroup$Post;)V"⟩ ∈ lwK := lwK_in 221 (by decide +kernel) (by decide +kernel)
theorem mW_Node_init : mm_CW Y_Node_init ds_Node_init 3 := ⟨lwK_in 222 (by decide +kernel) (by decide +kernel), lwK_in 9 (by decide +kernel) (by decide +kernel), by decide, by decide, by decide +kernel⟩
theorem mL_Node_3 : Cond.methodLink "VersionGroup$Node" 3 ⟨"java/lang/Object", "<init>", "()V"⟩ ∈ lwK := lwK_in 223 (by decide +kernel) (by decide +kernel)
theorem cL_Node_9 : Cond.classLink "VersionGroup$Node" 9 "VersionGroup$Memory" ∈ lwK := lwK_in 224 (by decide +kernel) (by decide +kernel)
theorem nN_Node_9 : mm_N "VersionGroup$Node" 9 7 4 [.int 0, .int 0, .int 0, .null] := ⟨n_Memory, T_Memory, ty_Memory, rfl, in_Memory, tyok_Memory, lwK_in 224 (by decide +kernel) (by decide +kernel), lwK_in 225 (by decide +kernel) (by decide +kernel), lwK_in 10 (by decide +kernel) (by decide +kernel), by decide +kernel⟩
theorem mI_Memory_init : Cond.instanceMethod ⟨"VersionGroup$Memory", "<init>", "()V"⟩ ∈ lwK := lwK_in 227 (by decide +kernel) (by decide +kernel)
theorem mW_Memory_init : mm_CW Y_Memory_init ds_Memory_init 0 := ⟨lwK_in 228 (by decide +kernel) (by decide +kernel), lwK_in 10 (by decide +kernel) (by decide +kernel), by decide, by decide, by decide +kernel⟩
theorem mL_Memory_1 : Cond.methodLink "VersionGroup$Memory" 1 ⟨"java/lang/Object", "<init>", "()V"⟩ ∈ lwK := lwK_in 229 (by decide +kernel) (by decide +kernel)
theorem cL_Memory_7 : Cond.classLink "VersionGroup$Memory" 7 "VersionGroup$Copy" ∈ lwK := lwK_in 230 (by decide +kernel) (by decide +kernel)
theorem nN_Memory_7 : mm_N "VersionGroup$Memory" 7 1 6 [.int 0, .int 0, .long 0, .null, .null, .null] := ⟨n_Copy, T_Copy, ty_Copy, rfl, in_Copy, tyok_Copy, lwK_in 230 (by decide +kernel) (by decide +kernel), lwK_in 63 (by decide +kernel) (by decide +kernel), lwK_in 6 (by decide +kernel) (by decide +kernel), by decide +kernel⟩
theorem cL_Node_37 : Cond.classLink "VersionGroup$Node" 37 "VersionGroup$Reports" ∈ lwK := lwK_in 250 (by decide +kernel) (by decide +kernel)
theorem nN_Node_37 : mm_N "VersionGroup$Node" 37 8 5 [.null, .null, .null, .int 0, .int 0] := ⟨n_Reports, T_Reports, ty_Reports, rfl, in_Reports, tyok_Reports, lwK_in 250 (by decide +kernel) (by decide +kernel), lwK_in 251 (by decide +kernel) (by decide +kernel), lwK_in 11 (by decide +kernel) (by decide +kernel), by decide +kernel⟩
theorem mL_Node_44 : Cond.methodLink "VersionGroup$Node" 44 ⟨"VersionGroup$Reports", "<init>", "(I)V"⟩ ∈ lwK := lwK_in 252 (by decide +kernel) (by decide +kernel)
theorem mI_Reports_init : Cond.instanceMethod ⟨"VersionGroup$Reports", "<init>", "(I)V"⟩ ∈ lwK := lwK_in 253 (by decide +kernel) (by decide +kernel)
theorem mW_Reports_init : mm_CW Y_Reports_init ds_Reports_init 1 := ⟨lwK_in 254 (by decide +kernel) (by decide +kernel), lwK_in 11 (by decide +kernel) (by decide +kernel), by decide, by decide, by decide +kernel⟩
theorem mL_Reports_3 : Cond.methodLink "VersionGroup$Reports" 3 ⟨"java/lang/Object", "<init>", "()V"⟩ ∈ lwK := lwK_in 255 (by decide +kernel) (by decide +kernel)
theorem mL_Node_51 : Cond.methodLink "VersionGroup$Node" 51 ⟨"VersionGroup$Plan", "all", "()I"⟩ ∈ lwK := lwK_in 277 (by decide +kernel) (by decide +kernel)
theorem mL_Node_55 : Cond.methodLink "VersionGroup$Node" 55 ⟨"VersionGroup$Plan", "keepers", "(I)I"⟩ ∈ lwK := lwK_in 278 (by decide +kernel) (by decide +kernel)
theorem mI_Plan_keepers : Cond.instanceMethod ⟨"VersionGroup$Plan", "keepers", "(I)I"⟩ ∈ lwK := lwK_in 279 (by decide +kernel) (by decide +kernel)
theorem mE_Plan_keepers : Cond.selects "VersionGroup$Plan" ⟨"VersionGroup$Plan", "keepers", "(I)I"⟩ ⟨"VersionGroup$Plan", "keepers", "(I)I"⟩ ∈ lwK := lwK_in 280 (by decide +kernel) (by decide +kernel)
theorem mW_Plan_keepers : mm_CW Y_Plan_keepers ds_Plan_keepers 1 := ⟨lwK_in 281 (by decide +kernel) (by decide +kernel), lwK_in 2 (by decide +kernel) (by decide +kernel), by decide, by decide, by decide +kernel⟩
theorem mL_Plan_18 : Cond.methodLink "VersionGroup$Plan" 18 ⟨"VersionGroup$Plan", "all", "()I"⟩ ∈ lwK := lwK_in 282 (by decide +kernel) (by decide +kernel)
theorem mL_Plan_22 : Cond.methodLink "VersionGroup$Plan" 22 ⟨"java/lang/Integer", "bitCount", "(I)I"⟩ ∈ lwK := lwK_in 283 (by decide +kernel) (by decide +kernel)
theorem mS_Integer_bitCount : Cond.static ⟨"java/lang/Integer", "bitCount", "(I)I"⟩ ∈ lwK := lwK_in 284 (by decide +kernel) (by decide +kernel)
theorem mW_Integer_bitCount : mm_CW Y_Integer_bitCount ds_Integer_bitCount 1 := ⟨lwK_in 285 (by decide +kernel) (by decide +kernel), lwK_in 12 (by decide +kernel) (by decide +kernel), by decide, by decide, by decide +kernel⟩
theorem kC_Integer_265 : Cond.constant "java/lang/Integer" 265 1431655765 ∈ lwK := lwK_in 286 (by decide +kernel) (by decide +kernel)
theorem kC_Integer_266 : Cond.constant "java/lang/Integer" 266 858993459 ∈ lwK := lwK_in 287 (by decide +kernel) (by decide +kernel)
theorem kC_Integer_267 : Cond.constant "java/lang/Integer" 267 252645135 ∈ lwK := lwK_in 288 (by decide +kernel) (by decide +kernel)
theorem mL_Plan_28 : Cond.methodLink "VersionGroup$Plan" 28 ⟨"VersionGroup$Plan", "greatest", "(I)I"⟩ ∈ lwK := lwK_in 289 (by decide +kernel) (by decide +kernel)
theorem mL_Node_59 : Cond.methodLink "VersionGroup$Node" 59 ⟨"VersionGroup$Plan", "greatest", "(I)I"⟩ ∈ lwK := lwK_in 290 (by decide +kernel) (by decide +kernel)
theorem mL_Node_62 : Cond.methodLink "VersionGroup$Node" 62 ⟨"VersionGroup$Memory", "enter", "(III)V"⟩ ∈ lwK := lwK_in 291 (by decide +kernel) (by decide +kernel)
theorem mI_Memory_enter : Cond.instanceMethod ⟨"VersionGroup$Memory", "enter", "(III)V"⟩ ∈ lwK := lwK_in 292 (by decide +kernel) (by decide +kernel)
theorem mE_Memory_enter : Cond.selects "VersionGroup$Memory" ⟨"VersionGroup$Memory", "enter", "(III)V"⟩ ⟨"VersionGroup$Memory", "enter", "(III)V"⟩ ∈ lwK := lwK_in 293 (by decide +kernel) (by decide +kernel)
theorem mW_Memory_enter : mm_CW Y_Memory_enter ds_Memory_enter 3 := ⟨lwK_in 294 (by decide +kernel) (by decide +kernel), lwK_in 10 (by decide +kernel) (by decide +kernel), by decide, by decide, by decide +kernel⟩
theorem mL_Node_66 : Cond.methodLink "VersionGroup$Node" 66 ⟨"VersionGroup$Memory", "become", "(LVersionGroup$Memory;)V"⟩ ∈ lwK := lwK_in 295 (by decide +kernel) (by decide +kernel)
theorem mI_Memory_become : Cond.instanceMethod ⟨"VersionGroup$Memory", "become", "(LVersionGroup$Memory;)V"⟩ ∈ lwK := lwK_in 296 (by decide +kernel) (by decide +kernel)
theorem mE_Memory_become : Cond.selects "VersionGroup$Memory" ⟨"VersionGroup$Memory", "become", "(LVersionGroup$Memory;)V"⟩ ⟨"VersionGroup$Memory", "become", "(LVersionGroup$Memory;)V"⟩ ∈ lwK := lwK_in 297 (by decide +kernel) (by decide +kernel)
theorem mW_Memory_become : mm_CW Y_Memory_become ds_Memory_become 1 := ⟨lwK_in 298 (by decide +kernel) (by decide +kernel), lwK_in 10 (by decide +kernel) (by decide +kernel), by decide, by decide, by decide +kernel⟩
theorem mL_Memory_26 : Cond.methodLink "VersionGroup$Memory" 26 ⟨"VersionGroup$Memory", "enter", "(III)V"⟩ ∈ lwK := lwK_in 299 (by decide +kernel) (by decide +kernel)
theorem mL_Memory_30 : Cond.methodLink "VersionGroup$Memory" 30 ⟨"VersionGroup$Copy", "copyFrom", "(LVersionGroup$Copy;Z)V"⟩ ∈ lwK := lwK_in 300 (by decide +kernel) (by decide +kernel)
theorem mI_Copy_copyFrom : Cond.instanceMethod ⟨"VersionGroup$Copy", "copyFrom", "(LVersionGroup$Copy;Z)V"⟩ ∈ lwK := lwK_in 301 (by decide +kernel) (by decide +kernel)
theorem mE_Copy_copyFrom : Cond.selects "VersionGroup$Copy" ⟨"VersionGroup$Copy", "copyFrom", "(LVersionGroup$Copy;Z)V"⟩ ⟨"VersionGroup$Copy", "copyFrom", "(LVersionGroup$Copy;Z)V"⟩ ∈ lwK := lwK_in 302 (by decide +kernel) (by decide +kernel)
theorem mW_Copy_copyFrom : mm_CW Y_Copy_copyFrom ds_Copy_copyFrom 2 := ⟨lwK_in 303 (by decide +kernel) (by decide +kernel), lwK_in 6 (by decide +kernel) (by decide +kernel), by decide, by decide, by decide +kernel⟩
theorem mL_Copy_74 : Cond.methodLink "VersionGroup$Copy" 74 ⟨"java/lang/System", "arraycopy", "(Ljava/lang/Object;ILjava/lang/Object;II)V"⟩ ∈ lwK := lwK_in 304 (by decide +kernel) (by decide +kernel)
theorem mS_System_arraycopy : Cond.static ⟨"java/lang/System", "arraycopy", "(Ljava/lang/Object;ILjava/lang/Object;II)V"⟩ ∈ lwK := lwK_in 305 (by decide +kernel) (by decide +kernel)
theorem mV_System_arraycopy : Cond.native ⟨"java/lang/System", "arraycopy", "(Ljava/lang/Object;ILjava/lang/Object;II)V"⟩ ∈ lwK := lwK_in 306 (by decide +kernel) (by decide +kernel)
theorem mL_Law_21 : Cond.methodLink "VersionGroupLaw" 21 ⟨"VersionGroup", "give", "(III)I"⟩ ∈ lwK := lwK_in 356 (by decide +kernel) (by decide +kernel)
theorem mI_VG_give : Cond.instanceMethod ⟨"VersionGroup", "give", "(III)I"⟩ ∈ lwK := lwK_in 357 (by decide +kernel) (by decide +kernel)
theorem mE_VG_give : Cond.selects "VersionGroup" ⟨"VersionGroup", "give", "(III)I"⟩ ⟨"VersionGroup", "give", "(III)I"⟩ ∈ lwK := lwK_in 358 (by decide +kernel) (by decide +kernel)
theorem mW_VG_give : mm_CW Y_VG_give ds_VG_give 3 := ⟨lwK_in 359 (by decide +kernel) (by decide +kernel), lwK_in 1 (by decide +kernel) (by decide +kernel), by decide, by decide, by decide +kernel⟩
theorem mL_VG_60 : Cond.methodLink "VersionGroup" 60 ⟨"VersionGroup", "isKey", "(I)Z"⟩ ∈ lwK := lwK_in 360 (by decide +kernel) (by decide +kernel)
theorem mS_VG_isKey : Cond.static ⟨"VersionGroup", "isKey", "(I)Z"⟩ ∈ lwK := lwK_in 361 (by decide +kernel) (by decide +kernel)
theorem mW_VG_isKey : mm_CW Y_VG_isKey ds_VG_isKey 1 := ⟨lwK_in 362 (by decide +kernel) (by decide +kernel), lwK_in 1 (by decide +kernel) (by decide +kernel), by decide, by decide, by decide +kernel⟩
theorem mL_VG_64 : Cond.methodLink "VersionGroup" 64 ⟨"VersionGroup$Desk", "isFull", "()Z"⟩ ∈ lwK := lwK_in 363 (by decide +kernel) (by decide +kernel)
theorem mI_Desk_isFull : Cond.instanceMethod ⟨"VersionGroup$Desk", "isFull", "()Z"⟩ ∈ lwK := lwK_in 364 (by decide +kernel) (by decide +kernel)
theorem mE_Desk_isFull : Cond.selects "VersionGroup$Desk" ⟨"VersionGroup$Desk", "isFull", "()Z"⟩ ⟨"VersionGroup$Desk", "isFull", "()Z"⟩ ∈ lwK := lwK_in 365 (by decide +kernel) (by decide +kernel)
theorem mW_Desk_isFull : mm_CW Y_Desk_isFull ds_Desk_isFull 0 := ⟨lwK_in 366 (by decide +kernel) (by decide +kernel), lwK_in 8 (by decide +kernel) (by decide +kernel), by decide, by decide, by decide +kernel⟩
theorem mL_Desk_36 : Cond.methodLink "VersionGroup$Desk" 36 ⟨"VersionGroup$Desk", "open", "()I"⟩ ∈ lwK := lwK_in 367 (by decide +kernel) (by decide +kernel)
theorem mI_Desk_open : Cond.instanceMethod ⟨"VersionGroup$Desk", "open", "()I"⟩ ∈ lwK := lwK_in 368 (by decide +kernel) (by decide +kernel)
theorem mE_Desk_open : Cond.selects "VersionGroup$Desk" ⟨"VersionGroup$Desk", "open", "()I"⟩ ⟨"VersionGroup$Desk", "open", "()I"⟩ ∈ lwK := lwK_in 369 (by decide +kernel) (by decide +kernel)
theorem mW_Desk_open : mm_CW Y_Desk_open ds_Desk_open 0 := ⟨lwK_in 370 (by decide +kernel) (by decide +kernel), lwK_in 8 (by decide +kernel) (by decide +kernel), by decide, by decide, by decide +kernel⟩
theorem mL_VG_72 : Cond.methodLink "VersionGroup" 72 ⟨"VersionGroup$Desk", "accept", "(III)LVersionGroup$Command;"⟩ ∈ lwK := lwK_in 371 (by decide +kernel) (by decide +kernel)
theorem mI_Desk_accept : Cond.instanceMethod ⟨"VersionGroup$Desk", "accept", "(III)LVersionGroup$Command;"⟩ ∈ lwK := lwK_in 372 (by decide +kernel) (by decide +kernel)
theorem mE_Desk_accept : Cond.selects "VersionGroup$Desk" ⟨"VersionGroup$Desk", "accept", "(III)LVersionGroup$Command;"⟩ ⟨"VersionGroup$Desk", "accept", "(III)LVersionGroup$Command;"⟩ ∈ lwK := lwK_in 373 (by decide +kernel) (by decide +kernel)
theorem mW_Desk_accept : mm_CW Y_Desk_accept ds_Desk_accept 3 := ⟨lwK_in 374 (by decide +kernel) (by decide +kernel), lwK_in 8 (by decide +kernel) (by decide +kernel), by decide, by decide, by decide +kernel⟩
theorem mL_Desk_40 : Cond.methodLink "VersionGroup$Desk" 40 ⟨"VersionGroup$Command", "<init>", "(IIII)V"⟩ ∈ lwK := lwK_in 376 (by decide +kernel) (by decide +kernel)
theorem mI_Command_init : Cond.instanceMethod ⟨"VersionGroup$Command", "<init>", "(IIII)V"⟩ ∈ lwK := lwK_in 377 (by decide +kernel) (by decide +kernel)
theorem mW_Command_init : mm_CW Y_Command_init ds_Command_init 4 := ⟨lwK_in 378 (by decide +kernel) (by decide +kernel), lwK_in 15 (by decide +kernel) (by decide +kernel), by decide, by decide, by decide +kernel⟩
theorem mL_Command_1 : Cond.methodLink "VersionGroup$Command" 1 ⟨"java/lang/Object", "<init>", "()V"⟩ ∈ lwK := lwK_in 379 (by decide +kernel) (by decide +kernel)
theorem mL_VG_82 : Cond.methodLink "VersionGroup" 82 ⟨"VersionGroup$Desk", "request", "(LVersionGroup$Command;II)V"⟩ ∈ lwK := lwK_in 399 (by decide +kernel) (by decide +kernel)
theorem mI_Desk_request : Cond.instanceMethod ⟨"VersionGroup$Desk", "request", "(LVersionGroup$Command;II)V"⟩ ∈ lwK := lwK_in 400 (by decide +kernel) (by decide +kernel)
theorem mE_Desk_request : Cond.selects "VersionGroup$Desk" ⟨"VersionGroup$Desk", "request", "(LVersionGroup$Command;II)V"⟩ ⟨"VersionGroup$Desk", "request", "(LVersionGroup$Command;II)V"⟩ ∈ lwK := lwK_in 401 (by decide +kernel) (by decide +kernel)
theorem mW_Desk_request : mm_CW Y_Desk_request ds_Desk_request 3 := ⟨lwK_in 402 (by decide +kernel) (by decide +kernel), lwK_in 8 (by decide +kernel) (by decide +kernel), by decide, by decide, by decide +kernel⟩
theorem mL_Desk_49 : Cond.methodLink "VersionGroup$Desk" 49 ⟨"VersionGroup$Post", "send", "(LVersionGroup$Kind;III)LVersionGroup$Message;"⟩ ∈ lwK := lwK_in 405 (by decide +kernel) (by decide +kernel)
theorem mI_Post_send : Cond.instanceMethod ⟨"VersionGroup$Post", "send", "(LVersionGroup$Kind;III)LVersionGroup$Message;"⟩ ∈ lwK := lwK_in 406 (by decide +kernel) (by decide +kernel)
theorem mE_Post_send : Cond.selects "VersionGroup$Post" ⟨"VersionGroup$Post", "send", "(LVersionGroup$Kind;III)LVersionGroup$Message;"⟩ ⟨"VersionGroup$Post", "send", "(LVersionGroup$Kind;III)LVersionGroup$Message;"⟩ ∈ lwK := lwK_in 407 (by decide +kernel) (by decide +kernel)
theorem mW_Post_send : mm_CW Y_Post_send ds_Post_send 4 := ⟨lwK_in 408 (by decide +kernel) (by decide +kernel), lwK_in 4 (by decide +kernel) (by decide +kernel), by decide, by decide, by decide +kernel⟩
theorem mL_Law_26 : Cond.methodLink "VersionGroupLaw" 26 ⟨"VersionGroup", "deliver", "(I)V"⟩ ∈ lwK := lwK_in 409 (by decide +kernel) (by decide +kernel)
theorem mI_VG_deliver : Cond.instanceMethod ⟨"VersionGroup", "deliver", "(I)V"⟩ ∈ lwK := lwK_in 410 (by decide +kernel) (by decide +kernel)
theorem mE_VG_deliver : Cond.selects "VersionGroup" ⟨"VersionGroup", "deliver", "(I)V"⟩ ⟨"VersionGroup", "deliver", "(I)V"⟩ ∈ lwK := lwK_in 411 (by decide +kernel) (by decide +kernel)
theorem mW_VG_deliver : mm_CW Y_VG_deliver ds_VG_deliver 1 := ⟨lwK_in 412 (by decide +kernel) (by decide +kernel), lwK_in 1 (by decide +kernel) (by decide +kernel), by decide, by decide, by decide +kernel⟩
theorem mL_VG_91 : Cond.methodLink "VersionGroup" 91 ⟨"VersionGroup", "bring", "(II)V"⟩ ∈ lwK := lwK_in 413 (by decide +kernel) (by decide +kernel)
theorem mI_VG_bring : Cond.instanceMethod ⟨"VersionGroup", "bring", "(II)V"⟩ ∈ lwK := lwK_in 415 (by decide +kernel) (by decide +kernel)
theorem mW_VG_bring : mm_CW Y_VG_bring ds_VG_bring 2 := ⟨lwK_in 416 (by decide +kernel) (by decide +kernel), lwK_in 1 (by decide +kernel) (by decide +kernel), by decide, by decide, by decide +kernel⟩
theorem mL_VG_180 : Cond.methodLink "VersionGroup" 180 ⟨"java/lang/Math", "floorMod", "(II)I"⟩ ∈ lwK := lwK_in 417 (by decide +kernel) (by decide +kernel)
theorem mS_Math_floorMod : Cond.static ⟨"java/lang/Math", "floorMod", "(II)I"⟩ ∈ lwK := lwK_in 418 (by decide +kernel) (by decide +kernel)
theorem mW_Math_floorMod : mm_CW Y_Math_floorMod ds_Math_floorMod 2 := ⟨lwK_in 419 (by decide +kernel) (by decide +kernel), lwK_in 3 (by decide +kernel) (by decide +kernel), by decide, by decide, by decide +kernel⟩
theorem mL_VG_183 : Cond.methodLink "VersionGroup" 183 ⟨"VersionGroup$Post", "look", "(I)LVersionGroup$Message;"⟩ ∈ lwK := lwK_in 420 (by decide +kernel) (by decide +kernel)
theorem mI_Post_look : Cond.instanceMethod ⟨"VersionGroup$Post", "look", "(I)LVersionGroup$Message;"⟩ ∈ lwK := lwK_in 421 (by decide +kernel) (by decide +kernel)
theorem mE_Post_look : Cond.selects "VersionGroup$Post" ⟨"VersionGroup$Post", "look", "(I)LVersionGroup$Message;"⟩ ⟨"VersionGroup$Post", "look", "(I)LVersionGroup$Message;"⟩ ∈ lwK := lwK_in 422 (by decide +kernel) (by decide +kernel)
theorem mW_Post_look : mm_CW Y_Post_look ds_Post_look 1 := ⟨lwK_in 423 (by decide +kernel) (by decide +kernel), lwK_in 4 (by decide +kernel) (by decide +kernel), by decide, by decide, by decide +kernel⟩
theorem mL_VG_187 : Cond.methodLink "VersionGroup" 187 ⟨"VersionGroup", "arrive", "(LVersionGroup$Message;)V"⟩ ∈ lwK := lwK_in 424 (by decide +kernel) (by decide +kernel)
theorem mI_VG_arrive : Cond.instanceMethod ⟨"VersionGroup", "arrive", "(LVersionGroup$Message;)V"⟩ ∈ lwK := lwK_in 426 (by decide +kernel) (by decide +kernel)
theorem mW_VG_arrive : mm_CW Y_VG_arrive ds_VG_arrive 1 := ⟨lwK_in 427 (by decide +kernel) (by decide +kernel), lwK_in 1 (by decide +kernel) (by decide +kernel), by decide, by decide, by decide +kernel⟩
theorem mL_VG_206 : Cond.methodLink "VersionGroup" 206 ⟨"VersionGroup$MapKeeper", "hear", "(LVersionGroup$Message;)V"⟩ ∈ lwK := lwK_in 430 (by decide +kernel) (by decide +kernel)
theorem mI_MapKeeper_hear : Cond.instanceMethod ⟨"VersionGroup$MapKeeper", "hear", "(LVersionGroup$Message;)V"⟩ ∈ lwK := lwK_in 431 (by decide +kernel) (by decide +kernel)
theorem mE_MapKeeper_hear : Cond.selects "VersionGroup$MapKeeper" ⟨"VersionGroup$MapKeeper", "hear", "(LVersionGroup$Message;)V"⟩ ⟨"VersionGroup$MapKeeper", "hear", "(LVersionGroup$Message;)V"⟩ ∈ lwK := lwK_in 432 (by decide +kernel) (by decide +kernel)
theorem mW_MapKeeper_hear : mm_CW Y_MapKeeper_hear ds_MapKeeper_hear 1 := ⟨lwK_in 433 (by decide +kernel) (by decide +kernel), lwK_in 7 (by decide +kernel) (by decide +kernel), by decide, by decide, by decide +kernel⟩
theorem mL_MapKeeper_68 : Cond.methodLink "VersionGroup$MapKeeper" 68 ⟨"java/lang/Math", "max", "(II)I"⟩ ∈ lwK := lwK_in 434 (by decide +kernel) (by decide +kernel)
theorem mL_VG_212 : Cond.methodLink "VersionGroup" 212 ⟨"VersionGroup$Desk", "hear", "(LVersionGroup$Message;)V"⟩ ∈ lwK := lwK_in 437 (by decide +kernel) (by decide +kernel)
theorem mI_Desk_hear : Cond.instanceMethod ⟨"VersionGroup$Desk", "hear", "(LVersionGroup$Message;)V"⟩ ∈ lwK := lwK_in 438 (by decide +kernel) (by decide +kernel)
theorem mE_Desk_hear : Cond.selects "VersionGroup$Desk" ⟨"VersionGroup$Desk", "hear", "(LVersionGroup$Message;)V"⟩ ⟨"VersionGroup$Desk", "hear", "(LVersionGroup$Message;)V"⟩ ∈ lwK := lwK_in 439 (by decide +kernel) (by decide +kernel)
theorem mW_Desk_hear : mm_CW Y_Desk_hear ds_Desk_hear 1 := ⟨lwK_in 440 (by decide +kernel) (by decide +kernel), lwK_in 8 (by decide +kernel) (by decide +kernel), by decide, by decide, by decide +kernel⟩
theorem mL_VG_102 : Cond.methodLink "VersionGroup" 102 ⟨"VersionGroup", "isNode", "(I)Z"⟩ ∈ lwK := lwK_in 441 (by decide +kernel) (by decide +kernel)
theorem mI_VG_isNode : Cond.instanceMethod ⟨"VersionGroup", "isNode", "(I)Z"⟩ ∈ lwK := lwK_in 443 (by decide +kernel) (by decide +kernel)
theorem mW_VG_isNode : mm_CW Y_VG_isNode ds_VG_isNode 1 := ⟨lwK_in 444 (by decide +kernel) (by decide +kernel), lwK_in 1 (by decide +kernel) (by decide +kernel), by decide, by decide, by decide +kernel⟩
theorem mL_VG_216 : Cond.methodLink "VersionGroup" 216 ⟨"VersionGroup$Node", "hear", "(LVersionGroup$Message;)V"⟩ ∈ lwK := lwK_in 445 (by decide +kernel) (by decide +kernel)
theorem mI_Node_hear : Cond.instanceMethod ⟨"VersionGroup$Node", "hear", "(LVersionGroup$Message;)V"⟩ ∈ lwK := lwK_in 446 (by decide +kernel) (by decide +kernel)
theorem mE_Node_hear : Cond.selects "VersionGroup$Node" ⟨"VersionGroup$Node", "hear", "(LVersionGroup$Message;)V"⟩ ⟨"VersionGroup$Node", "hear", "(LVersionGroup$Message;)V"⟩ ∈ lwK := lwK_in 447 (by decide +kernel) (by decide +kernel)
theorem mW_Node_hear : mm_CW Y_Node_hear ds_Node_hear 1 := ⟨lwK_in 448 (by decide +kernel) (by decide +kernel), lwK_in 9 (by decide +kernel) (by decide +kernel), by decide, by decide, by decide +kernel⟩
theorem mL_Node_96 : Cond.methodLink "VersionGroup$Node" 96 ⟨"VersionGroup$Node", "hearMap", "(LVersionGroup$Message;)V"⟩ ∈ lwK := lwK_in 451 (by decide +kernel) (by decide +kernel)
theorem mI_Node_hearMap : Cond.instanceMethod ⟨"VersionGroup$Node", "hearMap", "(LVersionGroup$Message;)V"⟩ ∈ lwK := lwK_in 453 (by decide +kernel) (by decide +kernel)
theorem mW_Node_hearMap : mm_CW Y_Node_hearMap ds_Node_hearMap 1 := ⟨lwK_in 454 (by decide +kernel) (by decide +kernel), lwK_in 9 (by decide +kernel) (by decide +kernel), by decide, by decide, by decide +kernel⟩
theorem mL_Node_73 : Cond.methodLink "VersionGroup$Node" 73 ⟨"VersionGroup$Reports", "clear", "()V"⟩ ∈ lwK := lwK_in 455 (by decide +kernel) (by decide +kernel)
theorem mI_Reports_clear : Cond.instanceMethod ⟨"VersionGroup$Reports", "clear", "()V"⟩ ∈ lwK := lwK_in 456 (by decide +kernel) (by decide +kernel)
theorem mE_Reports_clear : Cond.selects "VersionGroup$Reports" ⟨"VersionGroup$Reports", "clear", "()V"⟩ ⟨"VersionGroup$Reports", "clear", "()V"⟩ ∈ lwK := lwK_in 457 (by decide +kernel) (by decide +kernel)
theorem mW_Reports_clear : mm_CW Y_Reports_clear ds_Reports_clear 0 := ⟨lwK_in 458 (by decide +kernel) (by decide +kernel), lwK_in 11 (by decide +kernel) (by decide +kernel), by decide, by decide, by decide +kernel⟩
theorem mL_Node_110 : Cond.methodLink "VersionGroup$Node" 110 ⟨"VersionGroup$Kind", "ordinal", "()I"⟩ ∈ lwK := lwK_in 461 (by decide +kernel) (by decide +kernel)
theorem mE_Kind_ordinal : Cond.selects "VersionGroup$Kind" ⟨"VersionGroup$Kind", "ordinal", "()I"⟩ ⟨"java/lang/Enum", "ordinal", "()I"⟩ ∈ lwK := lwK_in 464 (by decide +kernel) (by decide +kernel)
theorem mI_Enum_ordinal : Cond.instanceMethod ⟨"java/lang/Enum", "ordinal", "()I"⟩ ∈ lwK := lwK_in 465 (by decide +kernel) (by decide +kernel)
theorem mW_Enum_ordinal : mm_CW Y_Enum_ordinal ds_Enum_ordinal 0 := ⟨lwK_in 466 (by decide +kernel) (by decide +kernel), lwK_in 16 (by decide +kernel) (by decide +kernel), by decide, by decide, by decide +kernel⟩
theorem mL_Node_117 : Cond.methodLink "VersionGroup$Node" 117 ⟨"VersionGroup$Node", "hearCommand", "(LVersionGroup$Command;)V"⟩ ∈ lwK := lwK_in 467 (by decide +kernel) (by decide +kernel)
theorem mI_Node_hearCommand : Cond.instanceMethod ⟨"VersionGroup$Node", "hearCommand", "(LVersionGroup$Command;)V"⟩ ∈ lwK := lwK_in 469 (by decide +kernel) (by decide +kernel)
theorem mW_Node_hearCommand : mm_CW Y_Node_hearCommand ds_Node_hearCommand 1 := ⟨lwK_in 470 (by decide +kernel) (by decide +kernel), lwK_in 9 (by decide +kernel) (by decide +kernel), by decide, by decide, by decide +kernel⟩
theorem mL_Node_174 : Cond.methodLink "VersionGroup$Node" 174 ⟨"VersionGroup$Copy", "remembers", "(I)Z"⟩ ∈ lwK := lwK_in 471 (by decide +kernel) (by decide +kernel)
theorem mI_Copy_remembers : Cond.instanceMethod ⟨"VersionGroup$Copy", "remembers", "(I)Z"⟩ ∈ lwK := lwK_in 472 (by decide +kernel) (by decide +kernel)
theorem mE_Copy_remembers : Cond.selects "VersionGroup$Copy" ⟨"VersionGroup$Copy", "remembers", "(I)Z"⟩ ⟨"VersionGroup$Copy", "remembers", "(I)Z"⟩ ∈ lwK := lwK_in 473 (by decide +kernel) (by decide +kernel)
theorem mW_Copy_remembers : mm_CW Y_Copy_remembers ds_Copy_remembers 1 := ⟨lwK_in 474 (by decide +kernel) (by decide +kernel), lwK_in 6 (by decide +kernel) (by decide +kernel), by decide, by decide, by decide +kernel⟩
theorem mL_Node_178 : Cond.methodLink "VersionGroup$Node" 178 ⟨"VersionGroup$Node", "tellAnswer", "(I)V"⟩ ∈ lwK := lwK_in 475 (by decide +kernel) (by decide +kernel)
theorem mI_Node_tellAnswer : Cond.instanceMethod ⟨"VersionGroup$Node", "tellAnswer", "(I)V"⟩ ∈ lwK := lwK_in 477 (by decide +kernel) (by decide +kernel)
theorem mW_Node_tellAnswer : mm_CW Y_Node_tellAnswer ds_Node_tellAnswer 1 := ⟨lwK_in 478 (by decide +kernel) (by decide +kernel), lwK_in 9 (by decide +kernel) (by decide +kernel), by decide, by decide, by decide +kernel⟩
theorem mL_Node_136 : Cond.methodLink "VersionGroup$Node" 136 ⟨"VersionGroup$Post", "send", "(LVersionGroup$Kind;III)LVersionGroup$Message;"⟩ ∈ lwK := lwK_in 480 (by decide +kernel) (by decide +kernel)
theorem mL_Node_181 : Cond.methodLink "VersionGroup$Node" 181 ⟨"VersionGroup$Copy", "append", "(LVersionGroup$Command;)Z"⟩ ∈ lwK := lwK_in 481 (by decide +kernel) (by decide +kernel)
theorem mI_Copy_append : Cond.instanceMethod ⟨"VersionGroup$Copy", "append", "(LVersionGroup$Command;)Z"⟩ ∈ lwK := lwK_in 482 (by decide +kernel) (by decide +kernel)
theorem mE_Copy_append : Cond.selects "VersionGroup$Copy" ⟨"VersionGroup$Copy", "append", "(LVersionGroup$Command;)Z"⟩ ⟨"VersionGroup$Copy", "append", "(LVersionGroup$Command;)Z"⟩ ∈ lwK := lwK_in 483 (by decide +kernel) (by decide +kernel)
theorem mW_Copy_append : mm_CW Y_Copy_append ds_Copy_append 1 := ⟨lwK_in 484 (by decide +kernel) (by decide +kernel), lwK_in 6 (by decide +kernel) (by decide +kernel), by decide, by decide, by decide +kernel⟩
theorem mL_Node_130 : Cond.methodLink "VersionGroup$Node" 130 ⟨"VersionGroup$Reports", "note", "(III)V"⟩ ∈ lwK := lwK_in 485 (by decide +kernel) (by decide +kernel)
theorem mI_Reports_note : Cond.instanceMethod ⟨"VersionGroup$Reports", "note", "(III)V"⟩ ∈ lwK := lwK_in 486 (by decide +kernel) (by decide +kernel)
theorem mE_Reports_note : Cond.selects "VersionGroup$Reports" ⟨"VersionGroup$Reports", "note", "(III)V"⟩ ⟨"VersionGroup$Reports", "note", "(III)V"⟩ ∈ lwK := lwK_in 487 (by decide +kernel) (by decide +kernel)
theorem mW_Reports_note : mm_CW Y_Reports_note ds_Reports_note 3 := ⟨lwK_in 488 (by decide +kernel) (by decide +kernel), lwK_in 11 (by decide +kernel) (by decide +kernel), by decide, by decide, by decide +kernel⟩
theorem mL_Node_147 : Cond.methodLink "VersionGroup$Node" 147 ⟨"VersionGroup$Copy", "copyFrom", "(LVersionGroup$Copy;Z)V"⟩ ∈ lwK := lwK_in 491 (by decide +kernel) (by decide +kernel)
theorem mL_Node_153 : Cond.methodLink "VersionGroup$Node" 153 ⟨"VersionGroup$Copy", "follow", "(LVersionGroup$Copy;Z)Z"⟩ ∈ lwK := lwK_in 492 (by decide +kernel) (by decide +kernel)
theorem mI_Copy_follow : Cond.instanceMethod ⟨"VersionGroup$Copy", "follow", "(LVersionGroup$Copy;Z)Z"⟩ ∈ lwK := lwK_in 493 (by decide +kernel) (by decide +kernel)
theorem mE_Copy_follow : Cond.selects "VersionGroup$Copy" ⟨"VersionGroup$Copy", "follow", "(LVersionGroup$Copy;Z)Z"⟩ ⟨"VersionGroup$Copy", "follow", "(LVersionGroup$Copy;Z)Z"⟩ ∈ lwK := lwK_in 494 (by decide +kernel) (by decide +kernel)
theorem mW_Copy_follow : mm_CW Y_Copy_follow ds_Copy_follow 2 := ⟨lwK_in 495 (by decide +kernel) (by decide +kernel), lwK_in 6 (by decide +kernel) (by decide +kernel), by decide, by decide, by decide +kernel⟩
theorem mL_Copy_59 : Cond.methodLink "VersionGroup$Copy" 59 ⟨"VersionGroup$Copy", "reachesBackTo", "(I)Z"⟩ ∈ lwK := lwK_in 496 (by decide +kernel) (by decide +kernel)
theorem mI_Copy_reachesBackTo : Cond.instanceMethod ⟨"VersionGroup$Copy", "reachesBackTo", "(I)Z"⟩ ∈ lwK := lwK_in 497 (by decide +kernel) (by decide +kernel)
theorem mE_Copy_reachesBackTo : Cond.selects "VersionGroup$Copy" ⟨"VersionGroup$Copy", "reachesBackTo", "(I)Z"⟩ ⟨"VersionGroup$Copy", "reachesBackTo", "(I)Z"⟩ ∈ lwK := lwK_in 498 (by decide +kernel) (by decide +kernel)
theorem mW_Copy_reachesBackTo : mm_CW Y_Copy_reachesBackTo ds_Copy_reachesBackTo 1 := ⟨lwK_in 499 (by decide +kernel) (by decide +kernel), lwK_in 6 (by decide +kernel) (by decide +kernel), by decide, by decide, by decide +kernel⟩
theorem mL_Copy_63 : Cond.methodLink "VersionGroup$Copy" 63 ⟨"VersionGroup$Copy", "copyFrom", "(LVersionGroup$Copy;Z)V"⟩ ∈ lwK := lwK_in 500 (by decide +kernel) (by decide +kernel)
theorem mL_Copy_67 : Cond.methodLink "VersionGroup$Copy" 67 ⟨"VersionGroup$Copy", "doUpTo", "(I)Z"⟩ ∈ lwK := lwK_in 501 (by decide +kernel) (by decide +kernel)
theorem mI_Copy_doUpTo : Cond.instanceMethod ⟨"VersionGroup$Copy", "doUpTo", "(I)Z"⟩ ∈ lwK := lwK_in 502 (by decide +kernel) (by decide +kernel)
theorem mE_Copy_doUpTo : Cond.selects "VersionGroup$Copy" ⟨"VersionGroup$Copy", "doUpTo", "(I)Z"⟩ ⟨"VersionGroup$Copy", "doUpTo", "(I)Z"⟩ ∈ lwK := lwK_in 503 (by decide +kernel) (by decide +kernel)
theorem mW_Copy_doUpTo : mm_CW Y_Copy_doUpTo ds_Copy_doUpTo 1 := ⟨lwK_in 504 (by decide +kernel) (by decide +kernel), lwK_in 6 (by decide +kernel) (by decide +kernel), by decide, by decide, by decide +kernel⟩
theorem mL_Copy_38 : Cond.methodLink "VersionGroup$Copy" 38 ⟨"java/lang/Math", "min", "(II)I"⟩ ∈ lwK := lwK_in 505 (by decide +kernel) (by decide +kernel)
theorem mL_Copy_44 : Cond.methodLink "VersionGroup$Copy" 44 ⟨"VersionGroup$Copy", "perform", "(LVersionGroup$Command;)I"⟩ ∈ lwK := lwK_in 506 (by decide +kernel) (by decide +kernel)
theorem mI_Copy_perform : Cond.instanceMethod ⟨"VersionGroup$Copy", "perform", "(LVersionGroup$Command;)I"⟩ ∈ lwK := lwK_in 508 (by decide +kernel) (by decide +kernel)
theorem mW_Copy_perform : mm_CW Y_Copy_perform ds_Copy_perform 1 := ⟨lwK_in 509 (by decide +kernel) (by decide +kernel), lwK_in 6 (by decide +kernel) (by decide +kernel), by decide, by decide, by decide +kernel⟩
theorem kC_Copy_57 : Cond.constantLong "VersionGroup$Copy" 57 (-1) ∈ lwK := lwK_in 510 (by decide +kernel) (by decide +kernel)
theorem mL_Copy_70 : Cond.methodLink "VersionGroup$Copy" 70 ⟨"VersionGroup$Copy", "append", "(LVersionGroup$Command;)Z"⟩ ∈ lwK := lwK_in 511 (by decide +kernel) (by decide +kernel)
theorem mL_Node_157 : Cond.methodLink "VersionGroup$Node" 157 ⟨"VersionGroup$Copy", "empty", "()V"⟩ ∈ lwK := lwK_in 512 (by decide +kernel) (by decide +kernel)
theorem mI_Copy_empty : Cond.instanceMethod ⟨"VersionGroup$Copy", "empty", "()V"⟩ ∈ lwK := lwK_in 513 (by decide +kernel) (by decide +kernel)
theorem mE_Copy_empty : Cond.selects "VersionGroup$Copy" ⟨"VersionGroup$Copy", "empty", "()V"⟩ ⟨"VersionGroup$Copy", "empty", "()V"⟩ ∈ lwK := lwK_in 514 (by decide +kernel) (by decide +kernel)
theorem mW_Copy_empty : mm_CW Y_Copy_empty ds_Copy_empty 0 := ⟨lwK_in 515 (by decide +kernel) (by decide +kernel), lwK_in 6 (by decide +kernel) (by decide +kernel), by decide, by decide, by decide +kernel⟩
theorem mL_VG_191 : Cond.methodLink "VersionGroup" 191 ⟨"VersionGroup$Post", "remove", "(I)V"⟩ ∈ lwK := lwK_in 516 (by decide +kernel) (by decide +kernel)
theorem mI_Post_remove : Cond.instanceMethod ⟨"VersionGroup$Post", "remove", "(I)V"⟩ ∈ lwK := lwK_in 517 (by decide +kernel) (by decide +kernel)
theorem mE_Post_remove : Cond.selects "VersionGroup$Post" ⟨"VersionGroup$Post", "remove", "(I)V"⟩ ⟨"VersionGroup$Post", "remove", "(I)V"⟩ ∈ lwK := lwK_in 518 (by decide +kernel) (by decide +kernel)
theorem mW_Post_remove : mm_CW Y_Post_remove ds_Post_remove 1 := ⟨lwK_in 519 (by decide +kernel) (by decide +kernel), lwK_in 4 (by decide +kernel) (by decide +kernel), by decide, by decide, by decide +kernel⟩
theorem mL_Post_39 : Cond.methodLink "VersionGroup$Post" 39 ⟨"java/lang/System", "arraycopy", "(Ljava/lang/Object;ILjava/lang/Object;II)V"⟩ ∈ lwK := lwK_in 520 (by decide +kernel) (by decide +kernel)
theorem mL_Law_31 : Cond.methodLink "VersionGroupLaw" 31 ⟨"VersionGroup", "lose", "(I)V"⟩ ∈ lwK := lwK_in 521 (by decide +kernel) (by decide +kernel)
theorem mI_VG_lose : Cond.instanceMethod ⟨"VersionGroup", "lose", "(I)V"⟩ ∈ lwK := lwK_in 522 (by decide +kernel) (by decide +kernel)
theorem mE_VG_lose : Cond.selects "VersionGroup" ⟨"VersionGroup", "lose", "(I)V"⟩ ⟨"VersionGroup", "lose", "(I)V"⟩ ∈ lwK := lwK_in 523 (by decide +kernel) (by decide +kernel)
theorem mW_VG_lose : mm_CW Y_VG_lose ds_VG_lose 1 := ⟨lwK_in 524 (by decide +kernel) (by decide +kernel), lwK_in 1 (by decide +kernel) (by decide +kernel), by decide, by decide, by decide +kernel⟩
theorem mL_VG_94 : Cond.methodLink "VersionGroup" 94 ⟨"VersionGroup", "drop", "(I)V"⟩ ∈ lwK := lwK_in 525 (by decide +kernel) (by decide +kernel)
theorem mI_VG_drop : Cond.instanceMethod ⟨"VersionGroup", "drop", "(I)V"⟩ ∈ lwK := lwK_in 527 (by decide +kernel) (by decide +kernel)
theorem mW_VG_drop : mm_CW Y_VG_drop ds_VG_drop 1 := ⟨lwK_in 528 (by decide +kernel) (by decide +kernel), lwK_in 1 (by decide +kernel) (by decide +kernel), by decide, by decide, by decide +kernel⟩
theorem mL_Law_35 : Cond.methodLink "VersionGroupLaw" 35 ⟨"VersionGroup", "twice", "(I)V"⟩ ∈ lwK := lwK_in 529 (by decide +kernel) (by decide +kernel)
theorem mI_VG_twice : Cond.instanceMethod ⟨"VersionGroup", "twice", "(I)V"⟩ ∈ lwK := lwK_in 530 (by decide +kernel) (by decide +kernel)
theorem mE_VG_twice : Cond.selects "VersionGroup" ⟨"VersionGroup", "twice", "(I)V"⟩ ⟨"VersionGroup", "twice", "(I)V"⟩ ∈ lwK := lwK_in 531 (by decide +kernel) (by decide +kernel)
theorem mW_VG_twice : mm_CW Y_VG_twice ds_VG_twice 1 := ⟨lwK_in 532 (by decide +kernel) (by decide +kernel), lwK_in 1 (by decide +kernel) (by decide +kernel), by decide, by decide, by decide +kernel⟩
theorem mL_Law_39 : Cond.methodLink "VersionGroupLaw" 39 ⟨"VersionGroup", "stir", "(II)I"⟩ ∈ lwK := lwK_in 533 (by decide +kernel) (by decide +kernel)
theorem mI_VG_stir : Cond.instanceMethod ⟨"VersionGroup", "stir", "(II)I"⟩ ∈ lwK := lwK_in 534 (by decide +kernel) (by decide +kernel)
theorem mE_VG_stir : Cond.selects "VersionGroup" ⟨"VersionGroup", "stir", "(II)I"⟩ ⟨"VersionGroup", "stir", "(II)I"⟩ ∈ lwK := lwK_in 535 (by decide +kernel) (by decide +kernel)
theorem mW_VG_stir : mm_CW Y_VG_stir ds_VG_stir 2 := ⟨lwK_in 536 (by decide +kernel) (by decide +kernel), lwK_in 1 (by decide +kernel) (by decide +kernel), by decide, by decide, by decide +kernel⟩
theorem kC_VG_98 : Cond.constant "VersionGroup" 98 1103515245 ∈ lwK := lwK_in 537 (by decide +kernel) (by decide +kernel)
theorem mL_Law_44 : Cond.methodLink "VersionGroupLaw" 44 ⟨"VersionGroup", "tick", "(I)I"⟩ ∈ lwK := lwK_in 538 (by decide +kernel) (by decide +kernel)
theorem mI_VG_tick : Cond.instanceMethod ⟨"VersionGroup", "tick", "(I)I"⟩ ∈ lwK := lwK_in 539 (by decide +kernel) (by decide +kernel)
theorem mE_VG_tick : Cond.selects "VersionGroup" ⟨"VersionGroup", "tick", "(I)I"⟩ ⟨"VersionGroup", "tick", "(I)I"⟩ ∈ lwK := lwK_in 540 (by decide +kernel) (by decide +kernel)
theorem mW_VG_tick : mm_CW Y_VG_tick ds_VG_tick 1 := ⟨lwK_in 541 (by decide +kernel) (by decide +kernel), lwK_in 1 (by decide +kernel) (by decide +kernel), by decide, by decide, by decide +kernel⟩
theorem mL_VG_99 : Cond.methodLink "VersionGroup" 99 ⟨"VersionGroup", "passOneTick", "()V"⟩ ∈ lwK := lwK_in 542 (by decide +kernel) (by decide +kernel)
theorem mI_VG_passOneTick : Cond.instanceMethod ⟨"VersionGroup", "passOneTick", "()V"⟩ ∈ lwK := lwK_in 544 (by decide +kernel) (by decide +kernel)
theorem mW_VG_passOneTick : mm_CW Y_VG_passOneTick ds_VG_passOneTick 0 := ⟨lwK_in 545 (by decide +kernel) (by decide +kernel), lwK_in 1 (by decide +kernel) (by decide +kernel), by decide, by decide, by decide +kernel⟩
theorem mL_VG_115 : Cond.methodLink "VersionGroup" 115 ⟨"VersionGroup$MapKeeper", "proclaim", "()V"⟩ ∈ lwK := lwK_in 546 (by decide +kernel) (by decide +kernel)
theorem mI_MapKeeper_proclaim : Cond.instanceMethod ⟨"VersionGroup$MapKeeper", "proclaim", "()V"⟩ ∈ lwK := lwK_in 547 (by decide +kernel) (by decide +kernel)
theorem mE_MapKeeper_proclaim : Cond.selects "VersionGroup$MapKeeper" ⟨"VersionGroup$MapKeeper", "proclaim", "()V"⟩ ⟨"VersionGroup$MapKeeper", "proclaim", "()V"⟩ ∈ lwK := lwK_in 548 (by decide +kernel) (by decide +kernel)
theorem mW_MapKeeper_proclaim : mm_CW Y_MapKeeper_proclaim ds_MapKeeper_proclaim 0 := ⟨lwK_in 549 (by decide +kernel) (by decide +kernel), lwK_in 7 (by decide +kernel) (by decide +kernel), by decide, by decide, by decide +kernel⟩
theorem mL_MapKeeper_55 : Cond.methodLink "VersionGroup$MapKeeper" 55 ⟨"VersionGroup$Post", "send", "(LVersionGroup$Kind;III)LVersionGroup$Message;"⟩ ∈ lwK := lwK_in 551 (by decide +kernel) (by decide +kernel)
theorem mL_VG_174 : Cond.methodLink "VersionGroup" 174 ⟨"VersionGroup$Desk", "requestAll", "(II)V"⟩ ∈ lwK := lwK_in 552 (by decide +kernel) (by decide +kernel)
theorem mI_Desk_requestAll : Cond.instanceMethod ⟨"VersionGroup$Desk", "requestAll", "(II)V"⟩ ∈ lwK := lwK_in 553 (by decide +kernel) (by decide +kernel)
theorem mE_Desk_requestAll : Cond.selects "VersionGroup$Desk" ⟨"VersionGroup$Desk", "requestAll", "(II)V"⟩ ⟨"VersionGroup$Desk", "requestAll", "(II)V"⟩ ∈ lwK := lwK_in 554 (by decide +kernel) (by decide +kernel)
theorem mW_Desk_requestAll : mm_CW Y_Desk_requestAll ds_Desk_requestAll 2 := ⟨lwK_in 555 (by decide +kernel) (by decide +kernel), lwK_in 8 (by decide +kernel) (by decide +kernel), by decide, by decide, by decide +kernel⟩
theorem mL_Desk_61 : Cond.methodLink "VersionGroup$Desk" 61 ⟨"VersionGroup$Desk", "request", "(LVersionGroup$Command;II)V"⟩ ∈ lwK := lwK_in 556 (by decide +kernel) (by decide +kernel)
theorem mL_VG_177 : Cond.methodLink "VersionGroup" 177 ⟨"VersionGroup$Node", "work", "()V"⟩ ∈ lwK := lwK_in 557 (by decide +kernel) (by decide +kernel)
theorem mI_Node_work : Cond.instanceMethod ⟨"VersionGroup$Node", "work", "()V"⟩ ∈ lwK := lwK_in 558 (by decide +kernel) (by decide +kernel)
theorem mE_Node_work : Cond.selects "VersionGroup$Node" ⟨"VersionGroup$Node", "work", "()V"⟩ ⟨"VersionGroup$Node", "work", "()V"⟩ ∈ lwK := lwK_in 559 (by decide +kernel) (by decide +kernel)
theorem mW_Node_work : mm_CW Y_Node_work ds_Node_work 0 := ⟨lwK_in 560 (by decide +kernel) (by decide +kernel), lwK_in 9 (by decide +kernel) (by decide +kernel), by decide, by decide, by decide +kernel⟩
theorem mL_Node_70 : Cond.methodLink "VersionGroup$Node" 70 ⟨"VersionGroup$Node", "flush", "()V"⟩ ∈ lwK := lwK_in 561 (by decide +kernel) (by decide +kernel)
theorem mI_Node_flush : Cond.instanceMethod ⟨"VersionGroup$Node", "flush", "()V"⟩ ∈ lwK := lwK_in 563 (by decide +kernel) (by decide +kernel)
theorem mW_Node_flush : mm_CW Y_Node_flush ds_Node_flush 0 := ⟨lwK_in 564 (by decide +kernel) (by decide +kernel), lwK_in 9 (by decide +kernel) (by decide +kernel), by decide, by decide, by decide +kernel⟩
theorem mL_Node_198 : Cond.methodLink "VersionGroup$Node" 198 ⟨"VersionGroup$Node", "lead", "()V"⟩ ∈ lwK := lwK_in 566 (by decide +kernel) (by decide +kernel)
theorem mI_Node_lead : Cond.instanceMethod ⟨"VersionGroup$Node", "lead", "()V"⟩ ∈ lwK := lwK_in 568 (by decide +kernel) (by decide +kernel)
theorem mW_Node_lead : mm_CW Y_Node_lead ds_Node_lead 0 := ⟨lwK_in 569 (by decide +kernel) (by decide +kernel), lwK_in 9 (by decide +kernel) (by decide +kernel), by decide, by decide, by decide +kernel⟩
theorem mL_Node_206 : Cond.methodLink "VersionGroup$Node" 206 ⟨"VersionGroup$Node", "prepare", "()V"⟩ ∈ lwK := lwK_in 570 (by decide +kernel) (by decide +kernel)
theorem mI_Node_prepare : Cond.instanceMethod ⟨"VersionGroup$Node", "prepare", "()V"⟩ ∈ lwK := lwK_in 572 (by decide +kernel) (by decide +kernel)
theorem mW_Node_prepare : mm_CW Y_Node_prepare ds_Node_prepare 0 := ⟨lwK_in 573 (by decide +kernel) (by decide +kernel), lwK_in 9 (by decide +kernel) (by decide +kernel), by decide, by decide, by decide +kernel⟩
theorem mL_Node_215 : Cond.methodLink "VersionGroup$Node" 215 ⟨"VersionGroup$Reports", "size", "()I"⟩ ∈ lwK := lwK_in 574 (by decide +kernel) (by decide +kernel)
theorem mI_Reports_size : Cond.instanceMethod ⟨"VersionGroup$Reports", "size", "()I"⟩ ∈ lwK := lwK_in 575 (by decide +kernel) (by decide +kernel)
theorem mE_Reports_size : Cond.selects "VersionGroup$Reports" ⟨"VersionGroup$Reports", "size", "()I"⟩ ⟨"VersionGroup$Reports", "size", "()I"⟩ ∈ lwK := lwK_in 576 (by decide +kernel) (by decide +kernel)
theorem mW_Reports_size : mm_CW Y_Reports_size ds_Reports_size 0 := ⟨lwK_in 577 (by decide +kernel) (by decide +kernel), lwK_in 11 (by decide +kernel) (by decide +kernel), by decide, by decide, by decide +kernel⟩
theorem mL_Node_218 : Cond.methodLink "VersionGroup$Node" 218 ⟨"VersionGroup$Plan", "quorum", "()I"⟩ ∈ lwK := lwK_in 578 (by decide +kernel) (by decide +kernel)
theorem mI_Plan_quorum : Cond.instanceMethod ⟨"VersionGroup$Plan", "quorum", "()I"⟩ ∈ lwK := lwK_in 579 (by decide +kernel) (by decide +kernel)
theorem mE_Plan_quorum : Cond.selects "VersionGroup$Plan" ⟨"VersionGroup$Plan", "quorum", "()I"⟩ ⟨"VersionGroup$Plan", "quorum", "()I"⟩ ∈ lwK := lwK_in 580 (by decide +kernel) (by decide +kernel)
theorem mW_Plan_quorum : mm_CW Y_Plan_quorum ds_Plan_quorum 0 := ⟨lwK_in 581 (by decide +kernel) (by decide +kernel), lwK_in 2 (by decide +kernel) (by decide +kernel), by decide, by decide, by decide +kernel⟩
theorem mL_Node_221 : Cond.methodLink "VersionGroup$Node" 221 ⟨"VersionGroup$Reports", "furthest", "(I)I"⟩ ∈ lwK := lwK_in 582 (by decide +kernel) (by decide +kernel)
theorem mI_Reports_furthest : Cond.instanceMethod ⟨"VersionGroup$Reports", "furthest", "(I)I"⟩ ∈ lwK := lwK_in 583 (by decide +kernel) (by decide +kernel)
theorem mE_Reports_furthest : Cond.selects "VersionGroup$Reports" ⟨"VersionGroup$Reports", "furthest", "(I)I"⟩ ⟨"VersionGroup$Reports", "furthest", "(I)I"⟩ ∈ lwK := lwK_in 584 (by decide +kernel) (by decide +kernel)
theorem mW_Reports_furthest : mm_CW Y_Reports_furthest ds_Reports_furthest 1 := ⟨lwK_in 585 (by decide +kernel) (by decide +kernel), lwK_in 11 (by decide +kernel) (by decide +kernel), by decide, by decide, by decide +kernel⟩
theorem mL_Node_209 : Cond.methodLink "VersionGroup$Node" 209 ⟨"VersionGroup$Node", "doWhatIsAgreed", "()V"⟩ ∈ lwK := lwK_in 588 (by decide +kernel) (by decide +kernel)
theorem mI_Node_doWhatIsAgreed : Cond.instanceMethod ⟨"VersionGroup$Node", "doWhatIsAgreed", "()V"⟩ ∈ lwK := lwK_in 590 (by decide +kernel) (by decide +kernel)
theorem mW_Node_doWhatIsAgreed : mm_CW Y_Node_doWhatIsAgreed ds_Node_doWhatIsAgreed 0 := ⟨lwK_in 591 (by decide +kernel) (by decide +kernel), lwK_in 9 (by decide +kernel) (by decide +kernel), by decide, by decide, by decide +kernel⟩
theorem mL_Node_232 : Cond.methodLink "VersionGroup$Node" 232 ⟨"VersionGroup$Reports", "agreed", "(I)I"⟩ ∈ lwK := lwK_in 592 (by decide +kernel) (by decide +kernel)
theorem mI_Reports_agreed : Cond.instanceMethod ⟨"VersionGroup$Reports", "agreed", "(I)I"⟩ ∈ lwK := lwK_in 593 (by decide +kernel) (by decide +kernel)
theorem mE_Reports_agreed : Cond.selects "VersionGroup$Reports" ⟨"VersionGroup$Reports", "agreed", "(I)I"⟩ ⟨"VersionGroup$Reports", "agreed", "(I)I"⟩ ∈ lwK := lwK_in 594 (by decide +kernel) (by decide +kernel)
theorem mW_Reports_agreed : mm_CW Y_Reports_agreed ds_Reports_agreed 1 := ⟨lwK_in 595 (by decide +kernel) (by decide +kernel), lwK_in 11 (by decide +kernel) (by decide +kernel), by decide, by decide, by decide +kernel⟩
theorem mL_Reports_30 : Cond.methodLink "VersionGroup$Reports" 30 ⟨"java/lang/Math", "min", "(II)I"⟩ ∈ lwK := lwK_in 596 (by decide +kernel) (by decide +kernel)
theorem mL_Node_235 : Cond.methodLink "VersionGroup$Node" 235 ⟨"VersionGroup$Copy", "doUpTo", "(I)Z"⟩ ∈ lwK := lwK_in 597 (by decide +kernel) (by decide +kernel)
theorem mL_Node_212 : Cond.methodLink "VersionGroup$Node" 212 ⟨"VersionGroup$Node", "guide", "(I)V"⟩ ∈ lwK := lwK_in 598 (by decide +kernel) (by decide +kernel)
theorem mI_Node_guide : Cond.instanceMethod ⟨"VersionGroup$Node", "guide", "(I)V"⟩ ∈ lwK := lwK_in 600 (by decide +kernel) (by decide +kernel)
theorem mW_Node_guide : mm_CW Y_Node_guide ds_Node_guide 1 := ⟨lwK_in 601 (by decide +kernel) (by decide +kernel), lwK_in 9 (by decide +kernel) (by decide +kernel), by decide, by decide, by decide +kernel⟩
theorem mL_Node_245 : Cond.methodLink "VersionGroup$Node" 245 ⟨"VersionGroup$Memory", "keeps", "(I)Z"⟩ ∈ lwK := lwK_in 604 (by decide +kernel) (by decide +kernel)
theorem mI_Memory_keeps : Cond.instanceMethod ⟨"VersionGroup$Memory", "keeps", "(I)Z"⟩ ∈ lwK := lwK_in 605 (by decide +kernel) (by decide +kernel)
theorem mE_Memory_keeps : Cond.selects "VersionGroup$Memory" ⟨"VersionGroup$Memory", "keeps", "(I)Z"⟩ ⟨"VersionGroup$Memory", "keeps", "(I)Z"⟩ ∈ lwK := lwK_in 606 (by decide +kernel) (by decide +kernel)
theorem mW_Memory_keeps : mm_CW Y_Memory_keeps ds_Memory_keeps 1 := ⟨lwK_in 607 (by decide +kernel) (by decide +kernel), lwK_in 10 (by decide +kernel) (by decide +kernel), by decide, by decide, by decide +kernel⟩
theorem mL_Node_254 : Cond.methodLink "VersionGroup$Node" 254 ⟨"VersionGroup$Node", "sendCopy", "(I)V"⟩ ∈ lwK := lwK_in 608 (by decide +kernel) (by decide +kernel)
theorem mI_Node_sendCopy : Cond.instanceMethod ⟨"VersionGroup$Node", "sendCopy", "(I)V"⟩ ∈ lwK := lwK_in 610 (by decide +kernel) (by decide +kernel)
theorem mW_Node_sendCopy : mm_CW Y_Node_sendCopy ds_Node_sendCopy 1 := ⟨lwK_in 611 (by decide +kernel) (by decide +kernel), lwK_in 9 (by decide +kernel) (by decide +kernel), by decide, by decide, by decide +kernel⟩
theorem mL_Node_260 : Cond.methodLink "VersionGroup$Node" 260 ⟨"VersionGroup$Copy", "reachesBackTo", "(I)Z"⟩ ∈ lwK := lwK_in 612 (by decide +kernel) (by decide +kernel)
theorem mL_Law_49 : Cond.methodLink "VersionGroupLaw" 49 ⟨"VersionGroup", "crash", "(IZ)Z"⟩ ∈ lwK := lwK_in 619 (by decide +kernel) (by decide +kernel)
theorem mI_VG_crash : Cond.instanceMethod ⟨"VersionGroup", "crash", "(IZ)Z"⟩ ∈ lwK := lwK_in 620 (by decide +kernel) (by decide +kernel)
theorem mE_VG_crash : Cond.selects "VersionGroup" ⟨"VersionGroup", "crash", "(IZ)Z"⟩ ⟨"VersionGroup", "crash", "(IZ)Z"⟩ ∈ lwK := lwK_in 621 (by decide +kernel) (by decide +kernel)
theorem mW_VG_crash : mm_CW Y_VG_crash ds_VG_crash 2 := ⟨lwK_in 622 (by decide +kernel) (by decide +kernel), lwK_in 1 (by decide +kernel) (by decide +kernel), by decide, by decide, by decide +kernel⟩
theorem mL_VG_108 : Cond.methodLink "VersionGroup" 108 ⟨"VersionGroup$Node", "fail", "(Z)V"⟩ ∈ lwK := lwK_in 623 (by decide +kernel) (by decide +kernel)
theorem mI_Node_fail : Cond.instanceMethod ⟨"VersionGroup$Node", "fail", "(Z)V"⟩ ∈ lwK := lwK_in 624 (by decide +kernel) (by decide +kernel)
theorem mE_Node_fail : Cond.selects "VersionGroup$Node" ⟨"VersionGroup$Node", "fail", "(Z)V"⟩ ⟨"VersionGroup$Node", "fail", "(Z)V"⟩ ∈ lwK := lwK_in 625 (by decide +kernel) (by decide +kernel)
theorem mW_Node_fail : mm_CW Y_Node_fail ds_Node_fail 1 := ⟨lwK_in 626 (by decide +kernel) (by decide +kernel), lwK_in 9 (by decide +kernel) (by decide +kernel), by decide, by decide, by decide +kernel⟩
theorem mL_Law_54 : Cond.methodLink "VersionGroupLaw" 54 ⟨"VersionGroup", "restart", "(I)Z"⟩ ∈ lwK := lwK_in 627 (by decide +kernel) (by decide +kernel)
theorem mI_VG_restart : Cond.instanceMethod ⟨"VersionGroup", "restart", "(I)Z"⟩ ∈ lwK := lwK_in 628 (by decide +kernel) (by decide +kernel)
theorem mE_VG_restart : Cond.selects "VersionGroup" ⟨"VersionGroup", "restart", "(I)Z"⟩ ⟨"VersionGroup", "restart", "(I)Z"⟩ ∈ lwK := lwK_in 629 (by decide +kernel) (by decide +kernel)
theorem mW_VG_restart : mm_CW Y_VG_restart ds_VG_restart 1 := ⟨lwK_in 630 (by decide +kernel) (by decide +kernel), lwK_in 1 (by decide +kernel) (by decide +kernel), by decide, by decide, by decide +kernel⟩
theorem mL_Law_59 : Cond.methodLink "VersionGroupLaw" 59 ⟨"VersionGroup", "map", "(I)I"⟩ ∈ lwK := lwK_in 631 (by decide +kernel) (by decide +kernel)
theorem mI_VG_map : Cond.instanceMethod ⟨"VersionGroup", "map", "(I)I"⟩ ∈ lwK := lwK_in 632 (by decide +kernel) (by decide +kernel)
theorem mE_VG_map : Cond.selects "VersionGroup" ⟨"VersionGroup", "map", "(I)I"⟩ ⟨"VersionGroup", "map", "(I)I"⟩ ∈ lwK := lwK_in 633 (by decide +kernel) (by decide +kernel)
theorem mW_VG_map : mm_CW Y_VG_map ds_VG_map 1 := ⟨lwK_in 634 (by decide +kernel) (by decide +kernel), lwK_in 1 (by decide +kernel) (by decide +kernel), by decide, by decide, by decide +kernel⟩
theorem mL_VG_112 : Cond.methodLink "VersionGroup" 112 ⟨"VersionGroup$MapKeeper", "renew", "(I)V"⟩ ∈ lwK := lwK_in 635 (by decide +kernel) (by decide +kernel)
theorem mI_MapKeeper_renew : Cond.instanceMethod ⟨"VersionGroup$MapKeeper", "renew", "(I)V"⟩ ∈ lwK := lwK_in 636 (by decide +kernel) (by decide +kernel)
theorem mE_MapKeeper_renew : Cond.selects "VersionGroup$MapKeeper" ⟨"VersionGroup$MapKeeper", "renew", "(I)V"⟩ ⟨"VersionGroup$MapKeeper", "renew", "(I)V"⟩ ∈ lwK := lwK_in 637 (by decide +kernel) (by decide +kernel)
theorem mW_MapKeeper_renew : mm_CW Y_MapKeeper_renew ds_MapKeeper_renew 1 := ⟨lwK_in 638 (by decide +kernel) (by decide +kernel), lwK_in 7 (by decide +kernel) (by decide +kernel), by decide, by decide, by decide +kernel⟩
theorem mL_MapKeeper_46 : Cond.methodLink "VersionGroup$MapKeeper" 46 ⟨"VersionGroup$Plan", "keepers", "(I)I"⟩ ∈ lwK := lwK_in 639 (by decide +kernel) (by decide +kernel)
theorem mL_Law_63 : Cond.methodLink "VersionGroupLaw" 63 ⟨"VersionGroup", "settle", "()I"⟩ ∈ lwK := lwK_in 640 (by decide +kernel) (by decide +kernel)
theorem mI_VG_settle : Cond.instanceMethod ⟨"VersionGroup", "settle", "()I"⟩ ∈ lwK := lwK_in 641 (by decide +kernel) (by decide +kernel)
theorem mE_VG_settle : Cond.selects "VersionGroup" ⟨"VersionGroup", "settle", "()I"⟩ ⟨"VersionGroup", "settle", "()I"⟩ ∈ lwK := lwK_in 642 (by decide +kernel) (by decide +kernel)
theorem mW_VG_settle : mm_CW Y_VG_settle ds_VG_settle 0 := ⟨lwK_in 643 (by decide +kernel) (by decide +kernel), lwK_in 1 (by decide +kernel) (by decide +kernel), by decide, by decide, by decide +kernel⟩
theorem mL_VG_118 : Cond.methodLink "VersionGroup" 118 ⟨"VersionGroup$Desk", "open", "()I"⟩ ∈ lwK := lwK_in 644 (by decide +kernel) (by decide +kernel)
theorem mL_VG_122 : Cond.methodLink "VersionGroup" 122 ⟨"VersionGroup", "bringAll", "()V"⟩ ∈ lwK := lwK_in 645 (by decide +kernel) (by decide +kernel)
theorem mI_VG_bringAll : Cond.instanceMethod ⟨"VersionGroup", "bringAll", "()V"⟩ ∈ lwK := lwK_in 647 (by decide +kernel) (by decide +kernel)
theorem mW_VG_bringAll : mm_CW Y_VG_bringAll ds_VG_bringAll 0 := ⟨lwK_in 648 (by decide +kernel) (by decide +kernel), lwK_in 1 (by decide +kernel) (by decide +kernel), by decide, by decide, by decide +kernel⟩
theorem kC_VG_194 : Cond.constant "VersionGroup" 194 1000000 ∈ lwK := lwK_in 649 (by decide +kernel) (by decide +kernel)
theorem mL_VG_128 : Cond.methodLink "VersionGroup" 128 ⟨"VersionGroup$Desk", "hasAllAnswers", "()Z"⟩ ∈ lwK := lwK_in 650 (by decide +kernel) (by decide +kernel)
theorem mI_Desk_hasAllAnswers : Cond.instanceMethod ⟨"VersionGroup$Desk", "hasAllAnswers", "()Z"⟩ ∈ lwK := lwK_in 651 (by decide +kernel) (by decide +kernel)
theorem mE_Desk_hasAllAnswers : Cond.selects "VersionGroup$Desk" ⟨"VersionGroup$Desk", "hasAllAnswers", "()Z"⟩ ⟨"VersionGroup$Desk", "hasAllAnswers", "()Z"⟩ ∈ lwK := lwK_in 652 (by decide +kernel) (by decide +kernel)
theorem mW_Desk_hasAllAnswers : mm_CW Y_Desk_hasAllAnswers ds_Desk_hasAllAnswers 0 := ⟨lwK_in 653 (by decide +kernel) (by decide +kernel), lwK_in 8 (by decide +kernel) (by decide +kernel), by decide, by decide, by decide +kernel⟩
theorem mL_VG_131 : Cond.methodLink "VersionGroup" 131 ⟨"VersionGroup$Desk", "tellAnswers", "()V"⟩ ∈ lwK := lwK_in 654 (by decide +kernel) (by decide +kernel)
theorem mI_Desk_tellAnswers : Cond.instanceMethod ⟨"VersionGroup$Desk", "tellAnswers", "()V"⟩ ∈ lwK := lwK_in 655 (by decide +kernel) (by decide +kernel)
theorem mE_Desk_tellAnswers : Cond.selects "VersionGroup$Desk" ⟨"VersionGroup$Desk", "tellAnswers", "()V"⟩ ⟨"VersionGroup$Desk", "tellAnswers", "()V"⟩ ∈ lwK := lwK_in 656 (by decide +kernel) (by decide +kernel)
theorem mW_Desk_tellAnswers : mm_CW Y_Desk_tellAnswers ds_Desk_tellAnswers 0 := ⟨lwK_in 657 (by decide +kernel) (by decide +kernel), lwK_in 8 (by decide +kernel) (by decide +kernel), by decide, by decide, by decide +kernel⟩
theorem mL_Law_68 : Cond.methodLink "VersionGroupLaw" 68 ⟨"VersionGroup", "answer", "(I)J"⟩ ∈ lwK := lwK_in 658 (by decide +kernel) (by decide +kernel)
theorem mI_VG_answer : Cond.instanceMethod ⟨"VersionGroup", "answer", "(I)J"⟩ ∈ lwK := lwK_in 659 (by decide +kernel) (by decide +kernel)
theorem mE_VG_answer : Cond.selects "VersionGroup" ⟨"VersionGroup", "answer", "(I)J"⟩ ⟨"VersionGroup", "answer", "(I)J"⟩ ∈ lwK := lwK_in 660 (by decide +kernel) (by decide +kernel)
theorem mW_VG_answer : mm_CW Y_VG_answer ds_VG_answer 1 := ⟨lwK_in 661 (by decide +kernel) (by decide +kernel), lwK_in 1 (by decide +kernel) (by decide +kernel), by decide, by decide, by decide +kernel⟩
theorem kC_VG_137 : Cond.constantLong "VersionGroup" 137 (-1) ∈ lwK := lwK_in 662 (by decide +kernel) (by decide +kernel)
theorem kC_VG_146 : Cond.constantLong "VersionGroup" 146 1099511627776 ∈ lwK := lwK_in 663 (by decide +kernel) (by decide +kernel)
theorem mL_Law_73 : Cond.methodLink "VersionGroupLaw" 73 ⟨"VersionGroup", "at", "(III)J"⟩ ∈ lwK := lwK_in 664 (by decide +kernel) (by decide +kernel)
theorem mI_VG_at : Cond.instanceMethod ⟨"VersionGroup", "at", "(III)J"⟩ ∈ lwK := lwK_in 665 (by decide +kernel) (by decide +kernel)
theorem mE_VG_at : Cond.selects "VersionGroup" ⟨"VersionGroup", "at", "(III)J"⟩ ⟨"VersionGroup", "at", "(III)J"⟩ ∈ lwK := lwK_in 666 (by decide +kernel) (by decide +kernel)
theorem mW_VG_at : mm_CW Y_VG_at ds_VG_at 3 := ⟨lwK_in 667 (by decide +kernel) (by decide +kernel), lwK_in 1 (by decide +kernel) (by decide +kernel), by decide, by decide, by decide +kernel⟩
theorem kC_VG_148 : Cond.constantLong "VersionGroup" 148 (-3) ∈ lwK := lwK_in 668 (by decide +kernel) (by decide +kernel)
theorem mL_VG_160 : Cond.methodLink "VersionGroup" 160 ⟨"VersionGroup$Copy", "has", "(I)Z"⟩ ∈ lwK := lwK_in 669 (by decide +kernel) (by decide +kernel)
theorem mI_Copy_has : Cond.instanceMethod ⟨"VersionGroup$Copy", "has", "(I)Z"⟩ ∈ lwK := lwK_in 670 (by decide +kernel) (by decide +kernel)
theorem mE_Copy_has : Cond.selects "VersionGroup$Copy" ⟨"VersionGroup$Copy", "has", "(I)Z"⟩ ⟨"VersionGroup$Copy", "has", "(I)Z"⟩ ∈ lwK := lwK_in 671 (by decide +kernel) (by decide +kernel)
theorem mW_Copy_has : mm_CW Y_Copy_has ds_Copy_has 1 := ⟨lwK_in 672 (by decide +kernel) (by decide +kernel), lwK_in 6 (by decide +kernel) (by decide +kernel), by decide, by decide, by decide +kernel⟩
theorem mL_Law_78 : Cond.methodLink "VersionGroupLaw" 78 ⟨"VersionGroup", "count", "(I)I"⟩ ∈ lwK := lwK_in 673 (by decide +kernel) (by decide +kernel)
theorem mI_VG_count : Cond.instanceMethod ⟨"VersionGroup", "count", "(I)I"⟩ ∈ lwK := lwK_in 674 (by decide +kernel) (by decide +kernel)
theorem mE_VG_count : Cond.selects "VersionGroup" ⟨"VersionGroup", "count", "(I)I"⟩ ⟨"VersionGroup", "count", "(I)I"⟩ ∈ lwK := lwK_in 675 (by decide +kernel) (by decide +kernel)
theorem mW_VG_count : mm_CW Y_VG_count ds_VG_count 1 := ⟨lwK_in 676 (by decide +kernel) (by decide +kernel), lwK_in 1 (by decide +kernel) (by decide +kernel), by decide, by decide, by decide +kernel⟩
theorem mL_VG_168 : Cond.methodLink "VersionGroup" 168 ⟨"VersionGroup", "nodesUp", "()I"⟩ ∈ lwK := lwK_in 677 (by decide +kernel) (by decide +kernel)
theorem mI_VG_nodesUp : Cond.instanceMethod ⟨"VersionGroup", "nodesUp", "()I"⟩ ∈ lwK := lwK_in 679 (by decide +kernel) (by decide +kernel)
theorem mW_VG_nodesUp : mm_CW Y_VG_nodesUp ds_VG_nodesUp 0 := ⟨lwK_in 680 (by decide +kernel) (by decide +kernel), lwK_in 1 (by decide +kernel) (by decide +kernel), by decide, by decide, by decide +kernel⟩
theorem mL_Law_9 : Cond.methodLink "VersionGroupLaw" 9 ⟨"VersionGroupLaw", "cell", "([II)I"⟩ ∈ lwK := lwK_in 681 (by decide +kernel) (by decide +kernel)
theorem mS_Law_cell : Cond.static ⟨"VersionGroupLaw", "cell", "([II)I"⟩ ∈ lwK := lwK_in 682 (by decide +kernel) (by decide +kernel)
theorem mW_Law_cell : mm_CW Y_Law_cell ds_Law_cell 2 := ⟨lwK_in 683 (by decide +kernel) (by decide +kernel), lwK_in 0 (by decide +kernel) (by decide +kernel), by decide, by decide, by decide +kernel⟩
theorem cL_Law_18 : Cond.classLink "VersionGroupLaw" 18 "VersionGroupModel" ∈ lwK := lwK_in 684 (by decide +kernel) (by decide +kernel)
theorem nN_Law_18 : mm_N "VersionGroupLaw" 18 11 14 [.int 0, .int 0, .null, .null, .null, .null, .null, .int 0, .null, .int 0, .int 0, .int 0, .int 0, .int 0] := ⟨n_Mod, T_Mod, ty_Mod, rfl, in_Mod, tyok_Mod, lwK_in 684 (by decide +kernel) (by decide +kernel), lwK_in 685 (by decide +kernel) (by decide +kernel), lwK_in 14 (by decide +kernel) (by decide +kernel), by decide +kernel⟩
theorem mL_Law_20 : Cond.methodLink "VersionGroupLaw" 20 ⟨"VersionGroupModel", "<init>", "(II)V"⟩ ∈ lwK := lwK_in 686 (by decide +kernel) (by decide +kernel)
theorem mI_Mod_init : Cond.instanceMethod ⟨"VersionGroupModel", "<init>", "(II)V"⟩ ∈ lwK := lwK_in 687 (by decide +kernel) (by decide +kernel)
theorem mW_Mod_init : mm_CW Y_Mod_init ds_Mod_init 2 := ⟨lwK_in 688 (by decide +kernel) (by decide +kernel), lwK_in 14 (by decide +kernel) (by decide +kernel), by decide, by decide, by decide +kernel⟩
theorem mL_Mod_1 : Cond.methodLink "VersionGroupModel" 1 ⟨"java/lang/Object", "<init>", "()V"⟩ ∈ lwK := lwK_in 689 (by decide +kernel) (by decide +kernel)
theorem aC_long : Cond.arrayClass .long ∈ lwK := lwK_in 733 (by decide +kernel) (by decide +kernel)
theorem mL_Law_25 : Cond.methodLink "VersionGroupLaw" 25 ⟨"VersionGroupModel", "give", "(III)I"⟩ ∈ lwK := lwK_in 734 (by decide +kernel) (by decide +kernel)
theorem mI_Mod_give : Cond.instanceMethod ⟨"VersionGroupModel", "give", "(III)I"⟩ ∈ lwK := lwK_in 735 (by decide +kernel) (by decide +kernel)
theorem mE_Mod_give : Cond.selects "VersionGroupModel" ⟨"VersionGroupModel", "give", "(III)I"⟩ ⟨"VersionGroupModel", "give", "(III)I"⟩ ∈ lwK := lwK_in 736 (by decide +kernel) (by decide +kernel)
theorem mW_Mod_give : mm_CW Y_Mod_give ds_Mod_give 3 := ⟨lwK_in 737 (by decide +kernel) (by decide +kernel), lwK_in 14 (by decide +kernel) (by decide +kernel), by decide, by decide, by decide +kernel⟩
theorem mL_Law_30 : Cond.methodLink "VersionGroupLaw" 30 ⟨"VersionGroupModel", "deliver", "(I)V"⟩ ∈ lwK := lwK_in 738 (by decide +kernel) (by decide +kernel)
theorem mI_Mod_deliver : Cond.instanceMethod ⟨"VersionGroupModel", "deliver", "(I)V"⟩ ∈ lwK := lwK_in 739 (by decide +kernel) (by decide +kernel)
theorem mE_Mod_deliver : Cond.selects "VersionGroupModel" ⟨"VersionGroupModel", "deliver", "(I)V"⟩ ⟨"VersionGroupModel", "deliver", "(I)V"⟩ ∈ lwK := lwK_in 740 (by decide +kernel) (by decide +kernel)
theorem mW_Mod_deliver : mm_CW Y_Mod_deliver ds_Mod_deliver 1 := ⟨lwK_in 741 (by decide +kernel) (by decide +kernel), lwK_in 14 (by decide +kernel) (by decide +kernel), by decide, by decide, by decide +kernel⟩
theorem mL_Law_34 : Cond.methodLink "VersionGroupLaw" 34 ⟨"VersionGroupModel", "lose", "(I)V"⟩ ∈ lwK := lwK_in 742 (by decide +kernel) (by decide +kernel)
theorem mI_Mod_lose : Cond.instanceMethod ⟨"VersionGroupModel", "lose", "(I)V"⟩ ∈ lwK := lwK_in 743 (by decide +kernel) (by decide +kernel)
theorem mE_Mod_lose : Cond.selects "VersionGroupModel" ⟨"VersionGroupModel", "lose", "(I)V"⟩ ⟨"VersionGroupModel", "lose", "(I)V"⟩ ∈ lwK := lwK_in 744 (by decide +kernel) (by decide +kernel)
theorem mW_Mod_lose : mm_CW Y_Mod_lose ds_Mod_lose 1 := ⟨lwK_in 745 (by decide +kernel) (by decide +kernel), lwK_in 14 (by decide +kernel) (by decide +kernel), by decide, by decide, by decide +kernel⟩
theorem mL_Law_38 : Cond.methodLink "VersionGroupLaw" 38 ⟨"VersionGroupModel", "twice", "(I)V"⟩ ∈ lwK := lwK_in 746 (by decide +kernel) (by decide +kernel)
theorem mI_Mod_twice : Cond.instanceMethod ⟨"VersionGroupModel", "twice", "(I)V"⟩ ∈ lwK := lwK_in 747 (by decide +kernel) (by decide +kernel)
theorem mE_Mod_twice : Cond.selects "VersionGroupModel" ⟨"VersionGroupModel", "twice", "(I)V"⟩ ⟨"VersionGroupModel", "twice", "(I)V"⟩ ∈ lwK := lwK_in 748 (by decide +kernel) (by decide +kernel)
theorem mW_Mod_twice : mm_CW Y_Mod_twice ds_Mod_twice 1 := ⟨lwK_in 749 (by decide +kernel) (by decide +kernel), lwK_in 14 (by decide +kernel) (by decide +kernel), by decide, by decide, by decide +kernel⟩
theorem mL_Law_43 : Cond.methodLink "VersionGroupLaw" 43 ⟨"VersionGroupModel", "stir", "(II)I"⟩ ∈ lwK := lwK_in 750 (by decide +kernel) (by decide +kernel)
theorem mI_Mod_stir : Cond.instanceMethod ⟨"VersionGroupModel", "stir", "(II)I"⟩ ∈ lwK := lwK_in 751 (by decide +kernel) (by decide +kernel)
theorem mE_Mod_stir : Cond.selects "VersionGroupModel" ⟨"VersionGroupModel", "stir", "(II)I"⟩ ⟨"VersionGroupModel", "stir", "(II)I"⟩ ∈ lwK := lwK_in 752 (by decide +kernel) (by decide +kernel)
theorem mW_Mod_stir : mm_CW Y_Mod_stir ds_Mod_stir 2 := ⟨lwK_in 753 (by decide +kernel) (by decide +kernel), lwK_in 14 (by decide +kernel) (by decide +kernel), by decide, by decide, by decide +kernel⟩
theorem mL_Law_48 : Cond.methodLink "VersionGroupLaw" 48 ⟨"VersionGroupModel", "tick", "(I)I"⟩ ∈ lwK := lwK_in 754 (by decide +kernel) (by decide +kernel)
theorem mI_Mod_tick : Cond.instanceMethod ⟨"VersionGroupModel", "tick", "(I)I"⟩ ∈ lwK := lwK_in 755 (by decide +kernel) (by decide +kernel)
theorem mE_Mod_tick : Cond.selects "VersionGroupModel" ⟨"VersionGroupModel", "tick", "(I)I"⟩ ⟨"VersionGroupModel", "tick", "(I)I"⟩ ∈ lwK := lwK_in 756 (by decide +kernel) (by decide +kernel)
theorem mW_Mod_tick : mm_CW Y_Mod_tick ds_Mod_tick 1 := ⟨lwK_in 757 (by decide +kernel) (by decide +kernel), lwK_in 14 (by decide +kernel) (by decide +kernel), by decide, by decide, by decide +kernel⟩
theorem mL_Law_53 : Cond.methodLink "VersionGroupLaw" 53 ⟨"VersionGroupModel", "crash", "(IZ)Z"⟩ ∈ lwK := lwK_in 758 (by decide +kernel) (by decide +kernel)
theorem mI_Mod_crash : Cond.instanceMethod ⟨"VersionGroupModel", "crash", "(IZ)Z"⟩ ∈ lwK := lwK_in 759 (by decide +kernel) (by decide +kernel)
theorem mE_Mod_crash : Cond.selects "VersionGroupModel" ⟨"VersionGroupModel", "crash", "(IZ)Z"⟩ ⟨"VersionGroupModel", "crash", "(IZ)Z"⟩ ∈ lwK := lwK_in 760 (by decide +kernel) (by decide +kernel)
theorem mW_Mod_crash : mm_CW Y_Mod_crash ds_Mod_crash 2 := ⟨lwK_in 761 (by decide +kernel) (by decide +kernel), lwK_in 14 (by decide +kernel) (by decide +kernel), by decide, by decide, by decide +kernel⟩
theorem mL_Mod_56 : Cond.methodLink "VersionGroupModel" 56 ⟨"VersionGroupModel", "turn", "(IZ)Z"⟩ ∈ lwK := lwK_in 762 (by decide +kernel) (by decide +kernel)
theorem mI_Mod_turn : Cond.instanceMethod ⟨"VersionGroupModel", "turn", "(IZ)Z"⟩ ∈ lwK := lwK_in 764 (by decide +kernel) (by decide +kernel)
theorem mW_Mod_turn : mm_CW Y_Mod_turn ds_Mod_turn 2 := ⟨lwK_in 765 (by decide +kernel) (by decide +kernel), lwK_in 14 (by decide +kernel) (by decide +kernel), by decide, by decide, by decide +kernel⟩
theorem mL_Law_58 : Cond.methodLink "VersionGroupLaw" 58 ⟨"VersionGroupModel", "restart", "(I)Z"⟩ ∈ lwK := lwK_in 766 (by decide +kernel) (by decide +kernel)
theorem mI_Mod_restart : Cond.instanceMethod ⟨"VersionGroupModel", "restart", "(I)Z"⟩ ∈ lwK := lwK_in 767 (by decide +kernel) (by decide +kernel)
theorem mE_Mod_restart : Cond.selects "VersionGroupModel" ⟨"VersionGroupModel", "restart", "(I)Z"⟩ ⟨"VersionGroupModel", "restart", "(I)Z"⟩ ∈ lwK := lwK_in 768 (by decide +kernel) (by decide +kernel)
theorem mW_Mod_restart : mm_CW Y_Mod_restart ds_Mod_restart 1 := ⟨lwK_in 769 (by decide +kernel) (by decide +kernel), lwK_in 14 (by decide +kernel) (by decide +kernel), by decide, by decide, by decide +kernel⟩
theorem mL_Law_62 : Cond.methodLink "VersionGroupLaw" 62 ⟨"VersionGroupModel", "map", "(I)I"⟩ ∈ lwK := lwK_in 770 (by decide +kernel) (by decide +kernel)
theorem mI_Mod_map : Cond.instanceMethod ⟨"VersionGroupModel", "map", "(I)I"⟩ ∈ lwK := lwK_in 771 (by decide +kernel) (by decide +kernel)
theorem mE_Mod_map : Cond.selects "VersionGroupModel" ⟨"VersionGroupModel", "map", "(I)I"⟩ ⟨"VersionGroupModel", "map", "(I)I"⟩ ∈ lwK := lwK_in 772 (by decide +kernel) (by decide +kernel)
theorem mW_Mod_map : mm_CW Y_Mod_map ds_Mod_map 1 := ⟨lwK_in 773 (by decide +kernel) (by decide +kernel), lwK_in 14 (by decide +kernel) (by decide +kernel), by decide, by decide, by decide +kernel⟩
theorem mL_Law_67 : Cond.methodLink "VersionGroupLaw" 67 ⟨"VersionGroupModel", "settle", "()I"⟩ ∈ lwK := lwK_in 774 (by decide +kernel) (by decide +kernel)
theorem mI_Mod_settle : Cond.instanceMethod ⟨"VersionGroupModel", "settle", "()I"⟩ ∈ lwK := lwK_in 775 (by decide +kernel) (by decide +kernel)
theorem mE_Mod_settle : Cond.selects "VersionGroupModel" ⟨"VersionGroupModel", "settle", "()I"⟩ ⟨"VersionGroupModel", "settle", "()I"⟩ ∈ lwK := lwK_in 776 (by decide +kernel) (by decide +kernel)
theorem mW_Mod_settle : mm_CW Y_Mod_settle ds_Mod_settle 0 := ⟨lwK_in 777 (by decide +kernel) (by decide +kernel), lwK_in 14 (by decide +kernel) (by decide +kernel), by decide, by decide, by decide +kernel⟩
theorem mL_Mod_64 : Cond.methodLink "VersionGroupModel" 64 ⟨"VersionGroupModel", "act", "(I)J"⟩ ∈ lwK := lwK_in 778 (by decide +kernel) (by decide +kernel)
theorem mI_Mod_act : Cond.instanceMethod ⟨"VersionGroupModel", "act", "(I)J"⟩ ∈ lwK := lwK_in 780 (by decide +kernel) (by decide +kernel)
theorem mW_Mod_act : mm_CW Y_Mod_act ds_Mod_act 1 := ⟨lwK_in 781 (by decide +kernel) (by decide +kernel), lwK_in 14 (by decide +kernel) (by decide +kernel), by decide, by decide, by decide +kernel⟩
theorem mL_Mod_60 : Cond.methodLink "VersionGroupModel" 60 ⟨"VersionGroupModel", "set", "(IZI)V"⟩ ∈ lwK := lwK_in 782 (by decide +kernel) (by decide +kernel)
theorem mI_Mod_set : Cond.instanceMethod ⟨"VersionGroupModel", "set", "(IZI)V"⟩ ∈ lwK := lwK_in 784 (by decide +kernel) (by decide +kernel)
theorem mW_Mod_set : mm_CW Y_Mod_set ds_Mod_set 3 := ⟨lwK_in 785 (by decide +kernel) (by decide +kernel), lwK_in 14 (by decide +kernel) (by decide +kernel), by decide, by decide, by decide +kernel⟩
theorem mL_Law_72 : Cond.methodLink "VersionGroupLaw" 72 ⟨"VersionGroupModel", "answer", "(I)J"⟩ ∈ lwK := lwK_in 786 (by decide +kernel) (by decide +kernel)
theorem mI_Mod_answer : Cond.instanceMethod ⟨"VersionGroupModel", "answer", "(I)J"⟩ ∈ lwK := lwK_in 787 (by decide +kernel) (by decide +kernel)
theorem mE_Mod_answer : Cond.selects "VersionGroupModel" ⟨"VersionGroupModel", "answer", "(I)J"⟩ ⟨"VersionGroupModel", "answer", "(I)J"⟩ ∈ lwK := lwK_in 788 (by decide +kernel) (by decide +kernel)
theorem mW_Mod_answer : mm_CW Y_Mod_answer ds_Mod_answer 1 := ⟨lwK_in 789 (by decide +kernel) (by decide +kernel), lwK_in 14 (by decide +kernel) (by decide +kernel), by decide, by decide, by decide +kernel⟩
theorem kC_Mod_68 : Cond.constantLong "VersionGroupModel" 68 (-1) ∈ lwK := lwK_in 790 (by decide +kernel) (by decide +kernel)
theorem kC_Mod_70 : Cond.constantLong "VersionGroupModel" 70 1099511627776 ∈ lwK := lwK_in 791 (by decide +kernel) (by decide +kernel)
theorem mL_Law_77 : Cond.methodLink "VersionGroupLaw" 77 ⟨"VersionGroupModel", "at", "(III)J"⟩ ∈ lwK := lwK_in 792 (by decide +kernel) (by decide +kernel)
theorem mI_Mod_at : Cond.instanceMethod ⟨"VersionGroupModel", "at", "(III)J"⟩ ∈ lwK := lwK_in 793 (by decide +kernel) (by decide +kernel)
theorem mE_Mod_at : Cond.selects "VersionGroupModel" ⟨"VersionGroupModel", "at", "(III)J"⟩ ⟨"VersionGroupModel", "at", "(III)J"⟩ ∈ lwK := lwK_in 794 (by decide +kernel) (by decide +kernel)
theorem mW_Mod_at : mm_CW Y_Mod_at ds_Mod_at 3 := ⟨lwK_in 795 (by decide +kernel) (by decide +kernel), lwK_in 14 (by decide +kernel) (by decide +kernel), by decide, by decide, by decide +kernel⟩
theorem kC_Mod_72 : Cond.constantLong "VersionGroupModel" 72 (-3) ∈ lwK := lwK_in 796 (by decide +kernel) (by decide +kernel)
theorem mL_Mod_74 : Cond.methodLink "VersionGroupModel" 74 ⟨"VersionGroupModel", "copy", "(I)Z"⟩ ∈ lwK := lwK_in 797 (by decide +kernel) (by decide +kernel)
theorem mI_Mod_copy : Cond.instanceMethod ⟨"VersionGroupModel", "copy", "(I)Z"⟩ ∈ lwK := lwK_in 799 (by decide +kernel) (by decide +kernel)
theorem mW_Mod_copy : mm_CW Y_Mod_copy ds_Mod_copy 1 := ⟨lwK_in 800 (by decide +kernel) (by decide +kernel), lwK_in 14 (by decide +kernel) (by decide +kernel), by decide, by decide, by decide +kernel⟩
theorem mL_Law_81 : Cond.methodLink "VersionGroupLaw" 81 ⟨"VersionGroupModel", "count", "(I)I"⟩ ∈ lwK := lwK_in 801 (by decide +kernel) (by decide +kernel)
theorem mI_Mod_count : Cond.instanceMethod ⟨"VersionGroupModel", "count", "(I)I"⟩ ∈ lwK := lwK_in 802 (by decide +kernel) (by decide +kernel)
theorem mE_Mod_count : Cond.selects "VersionGroupModel" ⟨"VersionGroupModel", "count", "(I)I"⟩ ⟨"VersionGroupModel", "count", "(I)I"⟩ ∈ lwK := lwK_in 803 (by decide +kernel) (by decide +kernel)
theorem mW_Mod_count : mm_CW Y_Mod_count ds_Mod_count 1 := ⟨lwK_in 804 (by decide +kernel) (by decide +kernel), lwK_in 14 (by decide +kernel) (by decide +kernel), by decide, by decide, by decide +kernel⟩
theorem mE_VG_bring : Cond.selects "VersionGroup" ⟨"VersionGroup", "bring", "(II)V"⟩ ⟨"VersionGroup", "bring", "(II)V"⟩ ∈ lwK := lwK_priv 0 (by decide +kernel) (by decide +kernel)
theorem mE_VG_arrive : Cond.selects "VersionGroup" ⟨"VersionGroup", "arrive", "(LVersionGroup$Message;)V"⟩ ⟨"VersionGroup", "arrive", "(LVersionGroup$Message;)V"⟩ ∈ lwK := lwK_priv 1 (by decide +kernel) (by decide +kernel)
theorem mE_VG_isNode : Cond.selects "VersionGroup" ⟨"VersionGroup", "isNode", "(I)Z"⟩ ⟨"VersionGroup", "isNode", "(I)Z"⟩ ∈ lwK := lwK_priv 2 (by decide +kernel) (by decide +kernel)
theorem mE_Node_hearMap : Cond.selects "VersionGroup$Node" ⟨"VersionGroup$Node", "hearMap", "(LVersionGroup$Message;)V"⟩ ⟨"VersionGroup$Node", "hearMap", "(LVersionGroup$Message;)V"⟩ ∈ lwK := lwK_priv 3 (by decide +kernel) (by decide +kernel)
theorem mE_Node_hearCommand : Cond.selects "VersionGroup$Node" ⟨"VersionGroup$Node", "hearCommand", "(LVersionGroup$Command;)V"⟩ ⟨"VersionGroup$Node", "hearCommand", "(LVersionGroup$Command;)V"⟩ ∈ lwK := lwK_priv 4 (by decide +kernel) (by decide +kernel)
theorem mE_Node_tellAnswer : Cond.selects "VersionGroup$Node" ⟨"VersionGroup$Node", "tellAnswer", "(I)V"⟩ ⟨"VersionGroup$Node", "tellAnswer", "(I)V"⟩ ∈ lwK := lwK_priv 5 (by decide +kernel) (by decide +kernel)
theorem mE_Copy_perform : Cond.selects "VersionGroup$Copy" ⟨"VersionGroup$Copy", "perform", "(LVersionGroup$Command;)I"⟩ ⟨"VersionGroup$Copy", "perform", "(LVersionGroup$Command;)I"⟩ ∈ lwK := lwK_priv 6 (by decide +kernel) (by decide +kernel)
theorem mE_VG_drop : Cond.selects "VersionGroup" ⟨"VersionGroup", "drop", "(I)V"⟩ ⟨"VersionGroup", "drop", "(I)V"⟩ ∈ lwK := lwK_priv 7 (by decide +kernel) (by decide +kernel)
theorem mE_VG_passOneTick : Cond.selects "VersionGroup" ⟨"VersionGroup", "passOneTick", "()V"⟩ ⟨"VersionGroup", "passOneTick", "()V"⟩ ∈ lwK := lwK_priv 8 (by decide +kernel) (by decide +kernel)
theorem mE_Node_flush : Cond.selects "VersionGroup$Node" ⟨"VersionGroup$Node", "flush", "()V"⟩ ⟨"VersionGroup$Node", "flush", "()V"⟩ ∈ lwK := lwK_priv 9 (by decide +kernel) (by decide +kernel)
theorem mE_Node_lead : Cond.selects "VersionGroup$Node" ⟨"VersionGroup$Node", "lead", "()V"⟩ ⟨"VersionGroup$Node", "lead", "()V"⟩ ∈ lwK := lwK_priv 10 (by decide +kernel) (by decide +kernel)
theorem mE_Node_prepare : Cond.selects "VersionGroup$Node" ⟨"VersionGroup$Node", "prepare", "()V"⟩ ⟨"VersionGroup$Node", "prepare", "()V"⟩ ∈ lwK := lwK_priv 11 (by decide +kernel) (by decide +kernel)
theorem mE_Node_doWhatIsAgreed : Cond.selects "VersionGroup$Node" ⟨"VersionGroup$Node", "doWhatIsAgreed", "()V"⟩ ⟨"VersionGroup$Node", "doWhatIsAgreed", "()V"⟩ ∈ lwK := lwK_priv 12 (by decide +kernel) (by decide +kernel)
theorem mE_Node_guide : Cond.selects "VersionGroup$Node" ⟨"VersionGroup$Node", "guide", "(I)V"⟩ ⟨"VersionGroup$Node", "guide", "(I)V"⟩ ∈ lwK := lwK_priv 13 (by decide +kernel) (by decide +kernel)
theorem mE_Node_sendCopy : Cond.selects "VersionGroup$Node" ⟨"VersionGroup$Node", "sendCopy", "(I)V"⟩ ⟨"VersionGroup$Node", "sendCopy", "(I)V"⟩ ∈ lwK := lwK_priv 14 (by decide +kernel) (by decide +kernel)
theorem mE_VG_bringAll : Cond.selects "VersionGroup" ⟨"VersionGroup", "bringAll", "()V"⟩ ⟨"VersionGroup", "bringAll", "()V"⟩ ∈ lwK := lwK_priv 15 (by decide +kernel) (by decide +kernel)
theorem mE_VG_nodesUp : Cond.selects "VersionGroup" ⟨"VersionGroup", "nodesUp", "()I"⟩ ⟨"VersionGroup", "nodesUp", "()I"⟩ ∈ lwK := lwK_priv 16 (by decide +kernel) (by decide +kernel)
theorem mE_Mod_turn : Cond.selects "VersionGroupModel" ⟨"VersionGroupModel", "turn", "(IZ)Z"⟩ ⟨"VersionGroupModel", "turn", "(IZ)Z"⟩ ∈ lwK := lwK_priv 17 (by decide +kernel) (by decide +kernel)
theorem mE_Mod_act : Cond.selects "VersionGroupModel" ⟨"VersionGroupModel", "act", "(I)J"⟩ ⟨"VersionGroupModel", "act", "(I)J"⟩ ∈ lwK := lwK_priv 18 (by decide +kernel) (by decide +kernel)
theorem mE_Mod_set : Cond.selects "VersionGroupModel" ⟨"VersionGroupModel", "set", "(IZI)V"⟩ ⟨"VersionGroupModel", "set", "(IZI)V"⟩ ∈ lwK := lwK_priv 19 (by decide +kernel) (by decide +kernel)
theorem mE_Mod_copy : Cond.selects "VersionGroupModel" ⟨"VersionGroupModel", "copy", "(I)Z"⟩ ⟨"VersionGroupModel", "copy", "(I)Z"⟩ ∈ lwK := lwK_priv 20 (by decide +kernel) (by decide +kernel)
end
section
/-! System.arraycopy of ints; ordinal of a kind. -/
theorem iS_System : Cond.initialized "java/lang/System" ∈ lwK := by decide +kernel
section AC
variable {l : Launch} {G : mm_G} {Y : mm_Y} {R : Room} {Z : mm_Zt} {kc ks pc : Nat} {lv : List (Nat × Value)} {st : List Value} {M : mm_M} {sz : Nat}
theorem rw_acopy {idx a0 a n0 n1 : Nat} {f g : Nat → Int32} {sp dp n : Int32} {rest : List Value} (hd : decode Y.2.1 pc = .ok (.invokestatic idx, 3)) (hlk : Cond.methodLink Y.1 idx arraycopyName ∈ lwK) (hM0 : M a0 = some (.inl (0, n0, .inl f))) (hM1 : M a = some (.inl (0, n1, .inl g)))
    (s1 : ¬ sp < 0) (s2 : ¬ dp < 0) (s3 : ¬ n < 0) (s4 : sp.toNatClampNeg + n.toNatClampNeg ≤ n0) (s5 : dp.toNatClampNeg + n.toNatClampNeg ≤ n1) (hfr : 1 ≤ R.frames) (hlo : (rest.map fun v => v.category).sum + (nativeFrameWords "java/lang/System" "arraycopy" 5 + 11) ≤ R.locals)
    (kk : RW l G Y R Z kc ks (pc + 3) lv rest (mup M a (.inl (0, n1, .inl (va_cpy f g sp.toNatClampNeg dp.toNatClampNeg n.toNatClampNeg)))) sz) : RW l G Y R Z kc ks pc lv (.int n :: .int dp :: .ref a :: .int sp :: .ref a0 :: rest) M sz := by
  intro p e s m args below meth c C H locs ls cells slots hR hL hl h1 h2
  obtain ⟨hx, hb, -, hml, -, hown, hmn, hts, hK⟩ := id C
  have nn : ∀ z : Int32, ¬ z < 0 → z.toInt = (z.toNatClampNeg : Int) := by
    intro z hz
    have hz0 : (0 : Int) ≤ z.toInt := by
      have := Int32.not_lt.mp hz
      simpa using Int32.le_iff_toInt_le.mp this
    show z.toInt = ((z.toInt.toNat : Nat) : Int)
    omega
  intro T hT X
  have hc0 : H[a0]? = some (vp_cell (gK G 0) (n0, .inl f)) := (hR.2.1 a0 _ hM0).2
  have hc1 : H[a]? = some (vp_cell (gK G 0) (n1, .inl g)) := (hR.2.1 a _ hM1).2
  obtain ⟨-, k0, hk0, cm0, hkk0⟩ := (hK.1.2 0 _ rfl).1 n0 (fun j => .int (f j))
  obtain ⟨-, k1, hk1, cm1, hkk1⟩ := (hK.1.2 0 _ rfl).1 n1 (fun j => .int (g j))
  obtain ⟨vm', X', step⟩ := X.arraycopy hx hown (hts _ hlk) (hts _ mV_System_arraycopy) (hts _ mS_System_arraycopy) (hts _ iS_System) (src := a0) (dst := a) (cs := vp_cell (gK G 0) (n0, .inl f)) (cd := vp_cell (gK G 0) (n1, .inl g)) (srcPos := sp) (destPos := dp) (n := n) (by rw [hT]; exact hc0) (by rw [hT]; exact hc1)
    (fun _ h => by cases h) (fun _ h => by cases h) (fun h => by cases h) (fun h => by cases h) hk0 hk1 hkk0 hkk1 (by simp [refKind, mm_ty]) s1 s2 s3
    (by rw [nn sp s1, nn n s3]; show ¬ _ > ((arrV (gK G 0) n0 (fun j => .int (f j))).slots.size : Int); rw [arrV_size]; omega)
    (by rw [nn dp s2, nn n s3]; show ¬ _ > ((arrV (gK G 0) n1 (fun j => .int (g j))).slots.size : Int); rw [arrV_size]; omega)
    (fun vm₁ _ i hi => by
      have e : (vp_cell (gK G 0) (n0, .inl f)).slots.getD (sp.toNatClampNeg + i) .null = .int (f (sp.toNatClampNeg + i)) := by
        show (arrV (gK G 0) n0 (fun j => .int (f j))).slots.getD _ _ = _
        rw [Array.getD_eq_getD_getElem?, arrV_read _ _ (by omega)]
        rfl
      refine ⟨?_, ?_⟩
      · rw [e]
        rfl
      · rw [e]
        exact trivial)
    (g := F0 m pc ls (.int n :: .int dp :: .ref a :: .int sp :: .ref a0 :: rest)) rfl (by rw [hml]; exact hl.1) (rest := rest) rfl (by rw [hb]; exact hd) hfr (by show 2 * 0 + _ + _ ≤ _; omega)
  have e1 : copied (vp_cell (gK G 0) (n0, .inl f)) (vp_cell (gK G 0) (n1, .inl g)) sp dp n = vp_cell (gK G 0) (n1, .inl (va_cpy f g sp.toNatClampNeg dp.toNatClampNeg n.toNatClampNeg)) := va_copied (fun z => .int z) (gK G 0) (gK G 0) f g s4
  rw [e1] at X' step
  have hll : a < H.size := (Array.getElem?_eq_some_iff.mp hc1).1
  have hheap : ((T.setVm vm').setCell a (vp_cell (gK G 0) (n1, .inl (va_cpy f g sp.toNatClampNeg dp.toNatClampNeg n.toNatClampNeg)))).heap = H.setIfInBounds a (vp_cell (gK G 0) (n1, .inl (va_cpy f g sp.toNatClampNeg dp.toNatClampNeg n.toNatClampNeg))) := by rw [← hT]; rfl
  have oq : ∀ q : Nat, q ≠ a → (H.setIfInBounds a (vp_cell (gK G 0) (n1, .inl (va_cpy f g sp.toNatClampNeg dp.toNatClampNeg n.toNatClampNeg))))[q]? = H[q]? := fun q hq => by simp [Array.getElem?_setIfInBounds, Ne.symm hq]
  obtain ⟨t, a1, b1⟩ := kk p e s m args below meth c C _ _ ls cells slots (hR.set (hR.2.1 a _ hM1).1 (e := .inl (0, n1, .inl (va_cpy f g sp.toNatClampNeg dp.toNatClampNeg n.toNatClampNeg))) (show (H.setIfInBounds a _)[a]? = some _ by simp [Array.getElem?_setIfInBounds, hll]) (by simp) oq) (fun q hq => by
      rcases List.mem_append.mp hq with h | h
      · exact hL q h
      · obtain ⟨z, -, hz⟩ := List.mem_map.mp h
        rw [← hz]
        exact (hR.2.1 a _ hM1).1) hl h1 h2 _ hheap X'
  exact ⟨t, step t a1, b1⟩
theorem rw_ldcw {i : Nat} {v : Int32} (hd : decode Y.2.1 pc = .ok (.ldc_w i, 3)) (hw : Cond.constant Y.1 i v ∈ lwK) (k : RW l G Y R Z kc ks (pc + 3) lv (.int v :: st) M sz) : RW l G Y R Z kc ks pc lv st M sz := by
  intro p e s m args below meth c C H locs ls cells slots hR hL hl h1 h2
  exact lv_ldcw C.1 C.2.1 C.2.2.2.2.2.1 (C.2.2.2.2.2.2.2.1 _ hw) hd (k p e s m args below meth c C H locs ls cells slots hR hL hl h1 h2)
/-- a private constructor of a nest mate: mm_nest j names the link -/
theorem rw_callIN {Y2 : mm_Y} {desc : String} {idx a n j : Nat} {As rest : List Value} {R2 : Room} {Q2 : Option Value → mm_M → Nat → Prop} (hd : decode Y.2.1 pc = .ok (.invokespecial idx, 3)) (hC : CT l G Y2 desc R2 (.ref a :: As) M sz Q2) (hW : mm_CW Y2 desc n) (hj : mm_nest j = .methodLinkNest Y.1 idx (mm_y Y2 desc) "VersionGroup") (hin : Cond.instanceMethod (mm_y Y2 desc) ∈ lwK) (hi : Y2.2.2.2.2 = "<init>") (hret : Y2.2.2.2.1 = none)
    (hRm : R2.frames + 1 ≤ R.frames ∧ 8 + (Y2.2.2.1 + 11) + R2.locals ≤ R.locals) (hn : As.length = n) (hst : st = As.reverse ++ .ref a :: rest) (hsm : (rest.map fun v => v.category).sum ≤ 8)
    (kk : ∀ (r : Option Value) (M' : mm_M) (sz' : Nat), Q2 r M' sz' → RW l G Y R Z kc ks (pc + 3) lv (r.toList ++ rest) M' sz') : RW l G Y R Z (kc + R2.cells) (ks + R2.slots) pc lv st M sz := by
  intro p e s m args below meth c C H locs ls cells slots hR hL hl h1 h2
  obtain ⟨hx, hb, -, hml, -, hown, hmn, hts, hK⟩ := id C
  have hCB := va_cnB (R := R) (own := Y.1) (host := "VersionGroup") (index := idx) (y := mm_y Y2 desc) (bytes := Y2.2.1) (maxL := Y2.2.2.1) (ret := Y2.2.2.2.1) (rm := R2) (mc := R2.cells) (ms := R2.slots) n hts (lwK_good _ _ _ _ hW.1) rfl rfl rfl (hj ▸ hK.2.2.2.2.2.2.2 j) (hts _ hW.2.1) hW.2.2 hRm
  rw [hret] at hCB
  unfold CT at hC
  rw [hret] at hC
  exact rw_run C hL hl h1 h2 (va_runIN ⟨hx, hb, hml, hown, hts⟩ hC ⟨hCB, hi, hts _ hin⟩ ⟨mm_blind, fun U hU hWm => ⟨rfl, hK.warm hWm, by rw [hU]; exact hR⟩⟩ rfl hn hl.1 hst (lv_room hsm) hd ⟨by omega, by omega⟩) kk
end AC
/-- as CT.of, for a method of the JDK that no entry runs instead -/
theorem CT.ofF {l : Launch} {G : mm_G} {Y : mm_Y} {desc : String} {R : Room} {As : List Value} {M : mm_M} {sz : Nat} {QQ : Option Value → mm_M → Nat → Prop} (hy : plainFor (mm_y Y desc) = true) (hn : (lg_sl As).length ≤ Y.2.2.1) (h : RW l G Y R (mm_Z G R QQ) R.cells R.slots 0 (lv_args 0 As) [] M sz) : CT l G Y desc R As M sz QQ := by
  unfold CT
  refine MetFree.of_bodySF (code := Y.2.1) (maxLocals := Y.2.2.1) (ret := Y.2.2.2.1) hy ?_ ?_
  · intro args s m h hn
    obtain ⟨meth, c, h1, h2, h3, h4, h5, h6, -, -⟩ := Cond.code_spec hn (atoms_spec (ws := Cond.code (mm_y Y desc) Y.2.1 Y.2.2.1 Y.2.2.2.1 :: lwK) h _ List.mem_cons_self)
    exact ⟨meth, c, h1, h2, h3, h4, h5, h6⟩
  · intro p e s m args below meth c s₁ B hml hv _
    have hh0 : s₁.heap = s.heap := by rw [B.state]; rfl
    obtain ⟨rfl, hK, hR⟩ := hv
    have hts := atoms_spec (ws := Cond.code (mm_y Y desc) Y.2.1 Y.2.2.1 Y.2.2.2.1 :: lwK) B.pre
    have hown : s.vm.findClass Y.1 = some m.cls := findClass_of_methodNamed B.named
    have hnm : meth.name = Y.2.2.2.2 := (name_of_methodNamed B.named B.method).1
    have hl := lv_entry As (n := Y.2.2.1) hn
    have K := h p e s m As.toArray below meth c ⟨B.exec, B.bytes, B.returns, hml, B.notSynchronized, hown, hnm, fun w hw => hts w (List.mem_cons_of_mem _ hw), hK⟩ s.heap [] _ 0 0 hR (fun q hq => by cases hq) hl (by simp) (by simp)
    rw [← lg_entry_eq m] at K
    obtain ⟨t, a1, o, b1, b2, b3⟩ := K s₁ hh0 (Stand.of_body B)
    exact ⟨t, o, a1, b1, b2, ⟨b3.1, b3.2⟩⟩
theorem cO_init : Cond.code objectInit ⟨#[0xb1]⟩ 1 none ∈ lwK := by decide +kernel
end
section
/-! Numbers: Int32 as whole numbers. -/
def iI (z : Int) : Int32 := Int32.ofInt z
theorem iI_toInt {z : Int} (h1 : -2147483648 ≤ z) (h2 : z ≤ 2147483647) : (iI z).toInt = z := Int32.toInt_ofInt_of_le (by omega) (by omega)
theorem nI_iI (n : Nat) : nI n = iI n := (Int32.ofInt_eq_ofNat).symm
theorem iI_add (a b : Int) : iI a + iI b = iI (a + b) := (Int32.ofInt_add a b).symm
theorem iI_sub (a b : Int) : iI a - iI b = iI (a - b) := (Int32.ofInt_sub a b).symm
theorem iI_mul (a b : Int) : iI a * iI b = iI (a * b) := (Int32.ofInt_mul a b).symm
theorem iI_lt {a b : Int} (h1 : -2147483648 ≤ a) (h2 : a ≤ 2147483647) (h3 : -2147483648 ≤ b) (h4 : b ≤ 2147483647) : iI a < iI b ↔ a < b := by
  rw [Int32.lt_iff_toInt_lt, iI_toInt h1 h2, iI_toInt h3 h4]
theorem iI_le {a b : Int} (h1 : -2147483648 ≤ a) (h2 : a ≤ 2147483647) (h3 : -2147483648 ≤ b) (h4 : b ≤ 2147483647) : iI a ≤ iI b ↔ a ≤ b := by
  rw [Int32.le_iff_toInt_le, iI_toInt h1 h2, iI_toInt h3 h4]
theorem iI_eq {a b : Int} (h1 : -2147483648 ≤ a) (h2 : a ≤ 2147483647) (h3 : -2147483648 ≤ b) (h4 : b ≤ 2147483647) : iI a = iI b ↔ a = b := by
  rw [← Int32.toInt_inj, iI_toInt h1 h2, iI_toInt h3 h4]
/-- an end less the window -/
theorem nI_sub8 (n : Nat) : nI n - 8 = iI ((n : Int) - 8) := by rw [nI_iI, ← iI_sub]; rfl
theorem nI_subI (a b : Nat) : nI a - nI b = iI ((a : Int) - b) := by rw [nI_iI, nI_iI, iI_sub]
theorem nI_div {n d : Nat} (h : n < 2147483648) (hd : 1 < d) (h2 : d < 2147483648) : nI n / nI d = nI (n / d) := by
  have e : (nI d).toInt = d := nI_toInt h2
  have h3 : nI d ≠ -1 := fun q => by
    have := congrArg Int32.toInt q
    rw [e] at this
    have h5 : (-1 : Int32).toInt = -1 := by decide
    omega
  have h4 : n / d < 2147483648 := Nat.lt_of_le_of_lt (Nat.div_le_self n d) h
  rw [← Int32.toInt_inj, Int32.toInt_div_of_ne_right _ _ h3, e, nI_toInt h, nI_toInt h4]
  exact Int.ofNat_tdiv n d
theorem nI_mul (a b : Nat) : nI a * nI b = nI (a * b) := by rw [nI_iI, nI_iI, iI_mul, nI_iI]; rfl
theorem nI_sub {a b : Nat} (h : b ≤ a) : nI a - nI b = nI (a - b) := by rw [nI_subI, nI_iI]; congr 1; omega
theorem nI_rem {n d : Nat} (h : n < 2147483648) (hd : 1 < d) (h2 : d < 2147483648) : nI n - nI n / nI d * nI d = nI (n % d) := by
  rw [nI_div h hd h2, nI_mul, nI_sub (Nat.div_mul_le_self n d)]
  congr 1
  have := Nat.div_add_mod n d
  have h3 : d * (n / d) = n / d * d := Nat.mul_comm _ _
  omega
theorem nI_rem8 {n : Nat} (h : n < 2147483648) : nI n - nI n / 8 * 8 = nI (n % 8) := nI_rem (d := 8) h (by omega) (by omega)
theorem vp_in8 (n : Nat) : vp_in (nI (n % 8)) 8 := vp_in_nI (Nat.mod_lt n (by omega)) (by omega)
theorem nI_c {n : Nat} (h : n < 2147483648) : (nI n).toNatClampNeg = n := nI_clamp h
theorem nI_c8 (n : Nat) : (nI (n % 8)).toNatClampNeg = n % 8 := nI_clamp (Nat.lt_of_lt_of_le (Nat.mod_lt n (by omega)) (by omega))
def bI (b : Bool) : Int32 := if b then 1 else 0
theorem narrow_bI (b : Bool) : narrow .boolean (.int (bI b)) = .int (bI b) := by cases b <;> rfl
theorem narrow_1b : narrow .boolean (.int 1) = .int 1 := rfl
theorem narrow_0b : narrow .boolean (.int 0) = .int 0 := rfl
/-- a method's room, at depth d, with k new cells of n slots -/
abbrev rmA (d k n : Nat) : Room := { frames := d, cells := k, slots := n, locals := 35 * d }
abbrev rm (d : Nat) : Room := rmA d 0 0
end
section
/-! What a command does to the table; bits of 'held'. -/
/-- a command: kind, key, value -/
abbrev pCm : Type := Nat × Nat × Int32
/-- a table: which keys are there, their values -/
abbrev pT : Type := (Nat → Bool) × (Nat → Int32)
def tS (c : pCm) (t : pT) : pT :=
  if c.1 = 0 then (va_up t.1 c.2.1 true, va_up t.2 c.2.1 c.2.2)
  else if c.1 = 1 then (va_up t.1 c.2.1 false, va_up t.2 c.2.1 0)
  else if c.1 = 3 then (va_up t.1 c.2.1 true, va_up t.2 c.2.1 (t.2 c.2.1 + c.2.2))
  else if c.1 = 4 ∧ nI c.2.1 ≠ c.2.2 then (va_up (va_up t.1 c.2.1 false) c.2.2.toNatClampNeg (t.1 c.2.1), va_up (va_up t.2 c.2.2.toNatClampNeg (t.2 c.2.1)) c.2.1 0)
  else t
def tA (c : pCm) (t : pT) : Int32 :=
  if c.1 = 2 then t.2 c.2.1 else if c.1 = 3 then t.2 c.2.1 + c.2.2 else bI (t.1 c.2.1)
def tab (cm : Nat → pCm) : Nat → pT
  | 0 => (fun _ => false, fun _ => 0)
  | n + 1 => tS (cm n) (tab cm n)
def tAns (cm : Nat → pCm) (i : Nat) : Int32 := tA (cm i) (tab cm i)
/-- a command that give takes -/
def cOk (c : pCm) : Prop := c.1 ≤ 4 ∧ c.2.1 < 40 ∧ (c.1 = 4 → ∃ j, j < 40 ∧ c.2.2 = nI j)
def bt (k : Nat) : Int64 := 1 <<< ((nI k).toInt64 &&& 63)
theorem bt_bit : ∀ k, k < 40 → ∀ j, j < 64 → (bt k).toBitVec.getLsbD j = decide (j = k) := by decide +kernel
theorem bn_bit : ∀ k, k < 40 → ∀ j, j < 64 → (bt k ^^^ (-1)).toBitVec.getLsbD j = !decide (j = k) := by decide +kernel
theorem b0_bit : ∀ k, k < 40 → ((0 : Int32).toInt64 <<< ((nI k).toInt64 &&& 63) : Int64) = 0 := by decide +kernel
theorem b1_bit : ∀ k, k < 40 → ((1 : Int32).toInt64 <<< ((nI k).toInt64 &&& 63) : Int64) = bt k := by decide +kernel
/-- held says which keys are there -/
def hOk (h : Int64) (hs : Nat → Bool) : Prop := ∀ k, k < 40 → h.toBitVec.getLsbD k = hs k
theorem hOk_and {h : Int64} {k : Nat} (hk : k < 40) : (h &&& bt k = 0) ↔ h.toBitVec.getLsbD k = false := by
  constructor
  · intro e
    have e1 := congrArg (fun z : Int64 => z.toBitVec.getLsbD k) e
    simp only [Int64.toBitVec_and, BitVec.getLsbD_and, bt_bit k hk k (by omega)] at e1
    simpa using e1
  · intro e
    apply Int64.toBitVec.inj
    apply BitVec.eq_of_getLsbD_eq
    intro i hi
    rw [Int64.toBitVec_and, BitVec.getLsbD_and, bt_bit k hk i hi]
    by_cases q : i = k
    · subst q
      simp [e]
    · simp [q]
theorem hOk_set {h : Int64} {hs : Nat → Bool} {k : Nat} (hk : k < 40) (H : hOk h hs) : hOk (h ||| bt k) (va_up hs k true) := by
  intro j hj
  rw [Int64.toBitVec_or, BitVec.getLsbD_or, bt_bit k hk j (by omega), H j hj]
  by_cases q : j = k
  · simp [q, va_up]
  · simp [q, va_up]
theorem hOk_clear {h : Int64} {hs : Nat → Bool} {k : Nat} (hk : k < 40) (H : hOk h hs) : hOk (h &&& (bt k ^^^ (-1))) (va_up hs k false) := by
  intro j hj
  rw [Int64.toBitVec_and, BitVec.getLsbD_and, bn_bit k hk j (by omega), H j hj]
  by_cases q : j = k
  · simp [q, va_up]
  · simp [q, va_up]
theorem hOk_move {h : Int64} {hs : Nat → Bool} {k v : Nat} (hk : k < 40) (hv : v < 40) (H : hOk h hs) (b : Bool) (x : Int64) (hx : x = if b then bt v else 0) : hOk (h &&& (bt k ^^^ (-1)) &&& (bt v ^^^ (-1)) ||| x) (va_up (va_up hs k false) v b) := by
  intro j hj
  rw [Int64.toBitVec_or, BitVec.getLsbD_or, Int64.toBitVec_and, BitVec.getLsbD_and, Int64.toBitVec_and, BitVec.getLsbD_and, bn_bit k hk j (by omega), bn_bit v hv j (by omega), H j hj, hx]
  have e0 : (0 : Int64).toBitVec.getLsbD j = false := by simp
  cases b
  · rw [if_neg (by decide), e0]
    by_cases q : j = v
    · simp [q, va_up]
    · by_cases q2 : j = k
      · simp [q, q2, va_up]
      · simp [q, q2, va_up]
  · rw [if_pos rfl, bt_bit v hv j (by omega)]
    by_cases q : j = v
    · simp [q, va_up]
    · by_cases q2 : j = k
      · simp [q, q2, va_up]
      · simp [q, q2, va_up]
theorem hOk_has {h : Int64} {hs : Nat → Bool} {k : Nat} (hk : k < 40) (H : hOk h hs) : ((h.toUInt64 >>> ((nI k).toInt64.toUInt64 &&& Int64.toUInt64 63)).toInt64 &&& 1 = 0) ↔ hs k = false := by
  have e : (nI k).toInt64.toUInt64 &&& Int64.toUInt64 63 = UInt64.ofNat k := by
    have : ∀ k, k < 40 → (nI k).toInt64.toUInt64 &&& Int64.toUInt64 63 = UInt64.ofNat k := by decide +kernel
    exact this k hk
  rw [e, ← H k hk]
  have b : ((h.toUInt64 >>> UInt64.ofNat k).toInt64 &&& 1).toBitVec = (h.toBitVec >>> k) &&& 1#64 := by
    show (h.toUInt64 >>> UInt64.ofNat k).toBitVec &&& 1#64 = _
    have e2 : (h.toUInt64 >>> UInt64.ofNat k).toBitVec = h.toBitVec >>> k := by
      rw [UInt64.toBitVec_shiftRight]
      show h.toBitVec >>> ((UInt64.ofNat k).toBitVec % 64#64) = _
      rw [BitVec.ushiftRight_eq']
      congr 1
      simp
      omega
    rw [e2]
  constructor
  · intro q
    have q1 := congrArg (fun z : Int64 => z.toBitVec.getLsbD 0) q
    simp only [b] at q1
    simpa using q1
  · intro q
    apply Int64.toBitVec.inj
    rw [b]
    apply BitVec.eq_of_getLsbD_eq
    intro i hi
    by_cases q0 : i = 0
    · subst q0
      simp [q]
    · simp [q0]
end
section
/-! The machine as numbers: nodes, messages, desk, keeper of maps.
A node is x : Nat → Nat: 0 up, 1 dirty, 2 owes heard, 3 owes report, 4 epoch, 5 done, 6 end (known), 7 epoch, 8 done, 9 end (flushed), 10 ready, 11 base, 20+m heard of m, 30+m end of m, 40+m done of m.
A message: kind (0 MAP, 1 HEARD, 2 COMMAND, 3 ANSWER, 4 ASK, 5 REPORT, 6 FETCH, 7 ENTRIES, 8 WHOLE, 9 DROP), from, to, epoch, x (end, or a command's number), y (done). -/
abbrev pN : Type := Nat → Nat
abbrev pMsg : Type := Nat × Nat × Nat × Nat × Nat × Nat
def pu (x : pN) (f v : Nat) : pN := fun j => if j = f then v else x j
theorem pu_self (x : pN) (f v : Nat) : pu x f v f = v := by simp [pu]
theorem pu_ne (x : pN) {f j : Nat} (v : Nat) (h : j ≠ f) : pu x f v j = x j := by simp [pu, h]
/-- the node of the greatest rank in the set: 99 is nobody -/
def pGr : Nat → Nat → Nat
  | 0, _ => 99
  | n + 1, set => if set.testBit n = true ∧ (pGr n set = 99 ∨ pGr n set * 37 % 11 < n * 37 % 11) then n else pGr n set
def pCount : Nat → Nat → Nat
  | 0, _ => 0
  | n + 1, set => pCount n set + (if set.testBit n then 1 else 0)
/-- the keepers chosen first to last -/
def pCh (N set : Nat) : Nat → Nat
  | 0 => 0
  | i + 1 => pCh N set i ||| 2 ^ pGr N (set &&& (63 - pCh N set i))
def pKeep (N c set : Nat) : Nat := if pCount N set < c then 0 else pCh N set c
/-- what is fixed: nodes, copies, the set of the nodes in of each epoch -/
abbrev pE : Type := Nat × Nat × (Nat → Nat)
abbrev eN (E : pE) : Nat := E.1
abbrev eC (E : pE) : Nat := E.2.1
/-- the keepers of epoch e -/
abbrev eM (E : pE) (e : Nat) : Nat := pKeep (eN E) (eC E) (E.2.2 e)
/-- n keeps a copy in epoch e -/
def eK (E : pE) (e n : Nat) : Prop := (eM E e).testBit n = true
abbrev eKb (E : pE) (e n : Nat) : Bool := (eM E e).testBit n
abbrev eL (E : pE) (e : Nat) : Nat := pGr (eN E) (eM E e)
abbrev eQ (E : pE) : Nat := eN E - eC E + 1
def pFlush (x : pN) : pN := if x 1 = 1 then (fun j => if j = 7 then x 4 else if j = 8 then x 5 else if j = 9 then x 6 else if j = 1 then 0 else x j) else x
def pClear (x : pN) : pN := fun j => if (20 ≤ j ∧ j < 30) ∨ j = 10 ∨ j = 11 then 0 else x j
def pFail (kept : Bool) (x : pN) : pN := if kept then pFlush (pu x 0 0) else pClear (fun j => if j = 0 then 0 else if j = 4 then x 7 else if j = 5 then x 8 else if j = 6 then x 9 else if j = 1 ∨ j = 2 ∨ j = 3 then 0 else x j)
/-- follow the other log (end b, done d): done and end behind it -/
def pFolN (whole : Bool) (n b : Nat) : Nat := if n + 8 < b then (if whole then b else n) else max n b
def pFolD (whole : Bool) (k n d b : Nat) : Nat := if n + 8 < b then (if whole then d else k) else max k (min d (max n b))
/-- does follow say that it changed something -/
def pFolC (whole : Bool) (k n d b : Nat) : Bool := if n + 8 < b then whole else decide (n < b) || decide (k < min d (max n b))
def pFollow (whole : Bool) (d b : Nat) (x : pN) : pN := fun j => if j = 5 then pFolD whole (x 5) (x 6) d b else if j = 6 then pFolN whole (x 6) b else if j = 1 then (if pFolC whole (x 5) (x 6) d b then 1 else x 1) else if j = 3 then 1 else x j
def pHearMap (e : Nat) (x : pN) : pN := if x 4 < e then pClear (fun j => if j = 2 ∨ j = 1 ∨ j = 3 then 1 else if j = 4 then e else x j) else pu x 2 1
def pRemembers (x : pN) (i : Nat) : Bool := decide (i < x 5) && decide (x 5 ≤ i + 8)
def pAppend (x : pN) (i : Nat) : pN := if i = x 6 ∧ x 6 < x 5 + 8 then (fun j => if j = 6 then x 6 + 1 else if j = 1 then 1 else x j) else x
def pAns (n : Nat) (x : pN) (i : Nat) : pMsg := (3, n, 99, x 4, i, 0)
/-- a message comes to a node that is up: the node behind it, what it sends -/
def pHear (E : pE) (n : Nat) (x : pN) (m : pMsg) : pN × List pMsg :=
  if m.1 = 0 then (pHearMap m.2.2.2.1 x, [])
  else if m.2.2.2.1 ≠ x 4 then (x, [])
  else if m.1 = 2 then (if eL E (x 4) = n ∧ x 10 = 1 then (if pRemembers x m.2.2.2.2.1 then (x, [pAns n x m.2.2.2.2.1]) else (pAppend x m.2.2.2.2.1, [])) else (x, []))
  else if m.1 = 4 then (pu x 3 1, [])
  else if m.1 = 5 then ((fun j => if j = 20 + m.2.1 then 1 else if j = 30 + m.2.1 then m.2.2.2.2.1 else if j = 40 + m.2.1 then m.2.2.2.2.2 else x j), [])
  else if m.1 = 6 then (pu x 3 1, [(8, n, m.2.1, x 4, x 6, x 5)])
  else if m.1 = 7 then (pFollow false m.2.2.2.2.2 m.2.2.2.2.1 x, [])
  else if m.1 = 8 then (pFollow true m.2.2.2.2.2 m.2.2.2.2.1 x, [])
  else if m.1 = 9 then ((fun j => if j = 5 ∨ j = 6 then 0 else if j = 1 ∨ j = 3 then 1 else x j), [])
  else (x, [])
def pNote (x : pN) (m b d : Nat) : pN := fun j => if j = 20 + m then 1 else if j = 30 + m then b else if j = 40 + m then d else x j
def pSize : Nat → pN → Nat
  | 0, _ => 0
  | m + 1, x => pSize m x + (if x (20 + m) = 1 then 1 else 0)
def pFar : Nat → pN → Nat → Nat
  | 0, _, self => self
  | m + 1, x, self => if x (20 + m) = 1 ∧ x (30 + pFar m x self) < x (30 + m) then m else pFar m x self
def pAgr (mask : Nat) : Nat → pN → Nat
  | 0, _ => 512
  | m + 1, x => if mask.testBit m then min (pAgr mask m x) (if x (20 + m) = 1 then x (30 + m) else 0) else pAgr mask m x
def pAgreed (E : pE) (x : pN) : Nat := pAgr (eM E (x 4)) (eN E) x
def pPrep (E : pE) (n : Nat) (x : pN) : pN × List pMsg :=
  if x 10 = 1 then (x, []) else if pSize (eN E) x < eQ E then (x, [])
  else if pFar (eN E) x n = n then ((fun j => if j = 10 then 1 else if j = 11 then x 6 else x j), []) else (x, [(6, n, pFar (eN E) x n, x 4, 0, 0)])
def pDo (E : pE) (n : Nat) (x : pN) : pN × List pMsg :=
  if x 10 = 1 then ((fun j => if j = 5 then max (x 5) (min (pAgreed E x) (x 6)) else if j = 1 then (if x 5 < min (pAgreed E x) (x 6) then 1 else x 1) else x j),
    (List.range (max (x 5) (min (pAgreed E x) (x 6)) - x 5)).map (fun i => pAns n x (x 5 + i))) else (x, [])
def pGuide (E : pE) (n : Nat) (x : pN) (m : Nat) : List pMsg :=
  if x (20 + m) ≠ 1 then [(4, n, m, x 4, 0, 0)]
  else if x 10 = 1 ∧ eKb E (x 4) m then (if x (30 + m) < x 6 ∨ x (40 + m) < x 5 then [(if x (30 + m) + 8 < x 6 then 8 else 7, n, m, x 4, x 6, x 5)] else [])
  else if x 10 = 1 ∧ 0 < x (30 + m) ∧ x 11 ≤ pAgreed E x then [(9, n, m, x 4, 0, 0)] else []
def pLead (E : pE) (n : Nat) (x : pN) : pN × List pMsg :=
  let x1 := pNote x n (x 6) (x 5)
  let a := pPrep E n x1
  let b := pDo E n a.1
  (b.1, a.2 ++ b.2 ++ (List.range (eN E)).flatMap (fun m => if m = n then [] else pGuide E n b.1 m))
def pWork (E : pE) (n : Nat) (x : pN) : pN × List pMsg :=
  if x 0 ≠ 1 then (x, []) else
  let x1 := pFlush x
  let h := if x1 2 = 1 then [((1, n, 99, x1 4, 0, 0) : pMsg)] else []
  let x2 := if x1 2 = 1 then pu x1 2 0 else x1
  if eL E (x2 4) = n then (pu (pLead E n x2).1 3 0, h ++ (pLead E n x2).2)
  else (pu x2 3 0, h ++ (if x2 3 = 1 ∧ eL E (x2 4) ≠ 99 then [((5, n, eL E (x2 4), x2 4, x2 6, x2 5) : pMsg)] else []))
/-- the post: 64 fit -/
def pSend (post : List pMsg) (ms : List pMsg) : List pMsg := (post ++ ms).take 64
end
section
/-! Safety: what was done once is never lost. Ghosts: rep n e, the most that n has reported (flushed) in epoch e; c, a bound of all that was done anywhere. -/
def pNM (E : pE) (nd : Nat → pN) (rep : Nat → Nat → Nat) (e b : Nat) : Prop := ∃ n, eK E e n ∧ e < nd n 7 ∧ rep n e ≤ b
def pSafe (E : pE) (nd : Nat → pN) (rep : Nat → Nat → Nat) (e : Nat) : Prop := ∃ b, (∀ m, eK E e m → b ≤ rep m e) ∧ ∀ e', e' < e → (∃ m, eK E e' m) → pNM E nd rep e' b
/-- n was dropped in an epoch behind lo, up to hi -/
def pDr (E : pE) (nd : Nat → pN) (rep : Nat → Nat → Nat) (n lo hi : Nat) : Prop := ∃ e2, lo < e2 ∧ e2 ≤ hi ∧ ¬ eK E e2 n ∧ (∃ m, eK E e2 m) ∧ pSafe E nd rep e2
/-- n reported the end b in epoch e1 -/
def pRp (E : pE) (nd : Nat → pN) (rep : Nat → Nat → Nat) (n e1 b : Nat) : Prop := e1 ≤ nd n 7 ∧ (∀ e, e < e1 → eK E e n → rep n e ≤ b ∨ pDr E nd rep n e e1) ∧ (eK E e1 n → b ≤ rep n e1)
def pMono (nd nd' : Nat → pN) (rep rep' : Nat → Nat → Nat) : Prop := (∀ m, nd m 7 ≤ nd' m 7) ∧ (∀ m e, rep m e ≤ rep' m e) ∧ (∀ m e, e < nd m 7 → rep' m e = rep m e)
theorem pNM.mono {E : pE} {nd nd' : Nat → pN} {rep rep' : Nat → Nat → Nat} {e b b' : Nat} (h : pNM E nd rep e b) (hm : pMono nd nd' rep rep') (hb : b ≤ b') : pNM E nd' rep' e b' := by
  obtain ⟨n, h1, h2, h3⟩ := h
  exact ⟨n, h1, Nat.lt_of_lt_of_le h2 (hm.1 n), by rw [hm.2.2 n e h2]; omega⟩
theorem pSafe.mono {E : pE} {nd nd' : Nat → pN} {rep rep' : Nat → Nat → Nat} {e : Nat} (h : pSafe E nd rep e) (hm : pMono nd nd' rep rep') : pSafe E nd' rep' e := by
  obtain ⟨b, h1, h2⟩ := h
  exact ⟨b, fun m hk => Nat.le_trans (h1 m hk) (hm.2.1 m e), fun e' he hn => (h2 e' he hn).mono hm (Nat.le_refl b)⟩
theorem pDr.mono {E : pE} {nd nd' : Nat → pN} {rep rep' : Nat → Nat → Nat} {n lo hi hi' : Nat} (h : pDr E nd rep n lo hi) (hm : pMono nd nd' rep rep') (hh : hi ≤ hi') : pDr E nd' rep' n lo hi' := by
  obtain ⟨e2, h1, h2, h3, h4, h5⟩ := h
  exact ⟨e2, h1, Nat.le_trans h2 hh, h3, h4, h5.mono hm⟩
theorem pRp.mono {E : pE} {nd nd' : Nat → pN} {rep rep' : Nat → Nat → Nat} {n e1 b : Nat} (h : pRp E nd rep n e1 b) (hm : pMono nd nd' rep rep') : pRp E nd' rep' n e1 b := by
  obtain ⟨h1, h2, h3⟩ := h
  refine ⟨Nat.le_trans h1 (hm.1 n), fun e he hk => ?_, fun hk => Nat.le_trans (h3 hk) (hm.2.1 n e1)⟩
  rcases h2 e he hk with h | h
  · left
    rw [hm.2.2 n e (by omega)]
    exact h
  · exact Or.inr (h.mono hm (Nat.le_refl _))
theorem pMono.refl (nd : Nat → pN) (rep : Nat → Nat → Nat) : pMono nd nd rep rep := ⟨fun _ => Nat.le_refl _, fun _ _ => Nat.le_refl _, fun _ _ _ => rfl⟩
theorem pMono.trans {a b c : Nat → pN} {r s t : Nat → Nat → Nat} (h : pMono a b r s) (k : pMono b c s t) : pMono a c r t :=
  ⟨fun m => Nat.le_trans (h.1 m) (k.1 m), fun m e => Nat.le_trans (h.2.1 m e) (k.2.1 m e), fun m e he => by rw [k.2.2 m e (Nat.lt_of_lt_of_le he (h.1 m)), h.2.2 m e he]⟩
/-- node n, standing at x -/
def pIn (E : pE) (nd : Nat → pN) (rep : Nat → Nat → Nat) (c n : Nat) (x : pN) : Prop :=
  x 7 ≤ x 4 ∧ (∀ e, e ≤ x 4 → eK E e n → rep n e ≤ x 6 ∨ pDr E nd rep n e (x 4)) ∧ (∀ e, e ≤ x 7 → eK E e n → rep n e ≤ x 9 ∨ pDr E nd rep n e (x 7)) ∧
  (∀ m, m < eN E → x (20 + m) = 1 → pRp E nd rep m (x 4) (x (30 + m))) ∧
  (x 10 = 1 → eL E (x 4) = n ∧ x 11 ≤ x 6 ∧ ∀ e', e' < x 4 → (∃ m, eK E e' m) → pNM E nd rep e' (x 11)) ∧ x 5 ≤ c ∧ x 8 ≤ c
def pIm (E : pE) (nd : Nat → pN) (rep : Nat → Nat → Nat) (c : Nat) (m : pMsg) : Prop :=
  (m.1 = 5 → pRp E nd rep m.2.1 m.2.2.2.1 m.2.2.2.2.1) ∧ (m.1 = 9 → pSafe E nd rep m.2.2.2.1 ∧ ¬ eK E m.2.2.2.1 m.2.2.1 ∧ ∃ k, eK E m.2.2.2.1 k) ∧
  (m.1 = 7 ∨ m.1 = 8 → m.2.2.2.2.2 ≤ c) ∧ (m.1 = 3 → m.2.2.2.2.1 < c)
def pIc (E : pE) (rep : Nat → Nat → Nat) (c : Nat) : Prop := c = 0 ∨ ∃ e, (∃ m, eK E e m) ∧ ∀ m, eK E e m → c ≤ rep m e
/-- all of it; ep is the newest epoch -/
def pI (E : pE) (ep : Nat) (nd : Nat → pN) (post : List pMsg) (rep : Nat → Nat → Nat) (c : Nat) : Prop :=
  (∀ n, pIn E nd rep c n (nd n)) ∧ (∀ n e, nd n 7 < e → rep n e = 0) ∧ (∀ m ∈ post, pIm E nd rep c m) ∧ pIc E rep c ∧ (∀ n, nd n 4 ≤ ep) ∧ (∀ m ∈ post, m.2.2.2.1 ≤ ep)
theorem pIm.mono {E : pE} {nd nd' : Nat → pN} {rep rep' : Nat → Nat → Nat} {c c' : Nat} {m : pMsg} (h : pIm E nd rep c m) (hm : pMono nd nd' rep rep') (hc : c ≤ c') : pIm E nd' rep' c' m :=
  ⟨fun q => (h.1 q).mono hm, fun q => ⟨(h.2.1 q).1.mono hm, (h.2.1 q).2⟩, fun q => Nat.le_trans (h.2.2.1 q) hc, fun q => Nat.lt_of_lt_of_le (h.2.2.2 q) hc⟩
theorem pIn.mono {E : pE} {nd nd' : Nat → pN} {rep rep' : Nat → Nat → Nat} {c c' n : Nat} {x : pN} (h : pIn E nd rep c n x) (hm : pMono nd nd' rep rep') (hc : c ≤ c') (hr : ∀ e, rep' n e = rep n e) : pIn E nd' rep' c' n x := by
  obtain ⟨h1, h2, h3, h4, h5, h6, h7⟩ := h
  refine ⟨h1, fun e he hk => ?_, fun e he hk => ?_, fun m hm' hx => (h4 m hm' hx).mono hm, fun hx => ⟨(h5 hx).1, (h5 hx).2.1, fun e' he hn => ((h5 hx).2.2 e' he hn).mono hm (Nat.le_refl _)⟩, Nat.le_trans h6 hc, Nat.le_trans h7 hc⟩
  · rw [hr]
    exact (h2 e he hk).imp id (fun z => z.mono hm (Nat.le_refl _))
  · rw [hr]
    exact (h3 e he hk).imp id (fun z => z.mono hm (Nat.le_refl _))
/-- one node moves, rep may rise for it in its own flushed epoch; it may send -/
theorem pI.step {E : pE} {ep : Nat} {nd : Nat → pN} {post post' : List pMsg} {rep rep' : Nat → Nat → Nat} {c c' n : Nat} {x' : pN} (h : pI E ep nd post rep c) (hm : pMono nd (va_up nd n x') rep rep') (hc : c ≤ c') (hr : ∀ m e, m ≠ n → rep' m e = rep m e) (hz : ∀ e, x' 7 < e → rep' n e = 0)
    (hx : pIn E (va_up nd n x') rep' c' n x') (hp : ∀ m ∈ post', m ∈ post ∨ (pIm E (va_up nd n x') rep' c' m ∧ m.2.2.2.1 ≤ ep)) (hcom : pIc E rep' c') (he : x' 4 ≤ ep) : pI E ep (va_up nd n x') post' rep' c' := by
  obtain ⟨h1, h2, h3, h4, h5, h6⟩ := h
  refine ⟨fun k => ?_, fun k e hk => ?_, fun m hm' => ?_, hcom, fun k => ?_, fun m hm' => ?_⟩
  · by_cases hkn : k = n
    · subst hkn
      rw [va_up_self]
      exact hx
    · rw [va_up_ne nd x' hkn]
      exact (h1 k).mono hm hc (fun e => hr k e hkn)
  · by_cases hkn : k = n
    · subst hkn
      rw [va_up_self] at hk
      exact hz e hk
    · rw [va_up_ne nd x' hkn] at hk
      rw [hr k e hkn]
      exact h2 k e hk
  · rcases hp m hm' with h | h
    · exact (h3 m h).mono hm hc
    · exact h.1
  · by_cases hkn : k = n
    · subst hkn
      rw [va_up_self]
      exact he
    · rw [va_up_ne nd x' hkn]
      exact h5 k
  · rcases hp m hm' with h | h
    · exact h6 m h
    · exact h.2
/-- a move that changes no report, and keeps or raises the flushed epoch -/
theorem pMono.node {nd : Nat → pN} {rep : Nat → Nat → Nat} {n : Nat} {x' : pN} (h : nd n 7 ≤ x' 7) : pMono nd (va_up nd n x') rep rep := by
  refine ⟨fun m => ?_, fun _ _ => Nat.le_refl _, fun _ _ _ => rfl⟩
  by_cases hm : m = n
  · subst hm
    rw [va_up_self]
    exact h
  · rw [va_up_ne nd x' hm]
    exact Nat.le_refl _
theorem pI.quiet {E : pE} {ep : Nat} {nd : Nat → pN} {post post' : List pMsg} {rep : Nat → Nat → Nat} {c n : Nat} {x' : pN} (h : pI E ep nd post rep c) (h7 : nd n 7 ≤ x' 7)
    (hx : (pMono nd (va_up nd n x') rep rep) → pIn E (va_up nd n x') rep c n x') (hp : ∀ m ∈ post', m ∈ post ∨ (pIm E (va_up nd n x') rep c m ∧ m.2.2.2.1 ≤ ep)) (he : x' 4 ≤ ep) : pI E ep (va_up nd n x') post' rep c :=
  pI.step h (pMono.node h7) (Nat.le_refl _) (fun _ _ _ => rfl) (fun e hxe => h.2.1 n e (by omega)) (hx (pMono.node h7)) hp h.2.2.2.1 he
theorem va_up_up {α : Type} (f : Nat → α) (k : Nat) (v w : α) : va_up (va_up f k v) k w = va_up f k w := by
  funext j
  by_cases h : j = k <;> simp [va_up, h]
/-- what pIn looks at -/
theorem pIn.same {E : pE} {nd : Nat → pN} {rep : Nat → Nat → Nat} {c n : Nat} {x x' : pN} (h : pIn E nd rep c n x) (h4 : x' 4 = x 4) (h5 : x' 5 = x 5) (h6 : x' 6 = x 6) (h7 : x' 7 = x 7) (h8 : x' 8 = x 8) (h9 : x' 9 = x 9) (h10 : x' 10 = x 10) (h11 : x' 11 = x 11) (h20 : ∀ m, x' (20 + m) = x (20 + m)) (h30 : ∀ m, x' (30 + m) = x (30 + m)) : pIn E nd rep c n x' := by
  unfold pIn at h ⊢
  rw [h4, h5, h6, h7, h8, h9, h10, h11]
  refine ⟨h.1, h.2.1, h.2.2.1, fun m hm hx => ?_, h.2.2.2.2⟩
  rw [h20] at hx
  rw [h30]
  exact h.2.2.2.1 m hm hx
theorem pI.flush {E : pE} {ep : Nat} {nd : Nat → pN} {post : List pMsg} {rep : Nat → Nat → Nat} {c : Nat} (h : pI E ep nd post rep c) (n : Nat) : pI E ep (va_up nd n (pFlush (nd n))) post rep c := by
  obtain ⟨h1, h2, h3, h4, h5, h6, h7⟩ := h.1 n
  by_cases hd : nd n 1 = 1
  · have e : pFlush (nd n) = (fun j => if j = 7 then nd n 4 else if j = 8 then nd n 5 else if j = 9 then nd n 6 else if j = 1 then 0 else nd n j) := by simp [pFlush, hd]
    rw [e]
    refine h.quiet (by simpa using h1) (fun hm => ?_) (fun m hm => Or.inl hm) (by simpa using h.2.2.2.2.1 n)
    refine ⟨by simp, fun e he hk => ?_, fun e he hk => ?_, fun m hm' hx => ?_, fun hx => ?_, by simpa using h6, by simpa using h6⟩
    · exact (h2 e (by simpa using he) hk).imp (fun z => by simpa using z) (fun z => by simpa using z.mono hm (Nat.le_refl _))
    · exact (h2 e (by simpa using he) hk).imp (fun z => by simpa using z) (fun z => by simpa using z.mono hm (Nat.le_refl _))
    · have e20 : ∀ j, 10 ≤ j → (fun j => if j = 7 then nd n 4 else if j = 8 then nd n 5 else if j = 9 then nd n 6 else if j = 1 then 0 else nd n j) j = nd n j := fun j hj => by
        simp only
        rw [if_neg (by omega), if_neg (by omega), if_neg (by omega), if_neg (by omega)]
      rw [e20 (20 + m) (by omega)] at hx
      rw [e20 (30 + m) (by omega)]
      exact (h4 m hm' hx).mono hm
    · have := h5 (by simpa using hx)
      exact ⟨by simpa using this.1, by simpa using this.2.1, fun e' he hn => by simpa using (this.2.2 e' (by simpa using he) hn).mono hm (Nat.le_refl _)⟩
  · have e : pFlush (nd n) = nd n := by simp [pFlush, hd]
    rw [e]
    exact h.quiet (Nat.le_refl _) (fun hm => (h.1 n).mono hm (Nat.le_refl _) (fun _ => rfl)) (fun m hm => Or.inl hm) (h.2.2.2.2.1 n)
/-- a change of what pIn doesn't look at -/
theorem pI.same {E : pE} {ep : Nat} {nd : Nat → pN} {post post' : List pMsg} {rep : Nat → Nat → Nat} {c n : Nat} {x' : pN} (h : pI E ep nd post rep c) (h4 : x' 4 = nd n 4) (h5 : x' 5 = nd n 5) (h6 : x' 6 = nd n 6) (h7 : x' 7 = nd n 7) (h8 : x' 8 = nd n 8) (h9 : x' 9 = nd n 9) (h10 : x' 10 = nd n 10) (h11 : x' 11 = nd n 11) (h20 : ∀ m, x' (20 + m) = nd n (20 + m)) (h30 : ∀ m, x' (30 + m) = nd n (30 + m))
    (hp : ∀ m ∈ post', m ∈ post ∨ (pIm E nd rep c m ∧ m.2.2.2.1 ≤ ep)) : pI E ep (va_up nd n x') post' rep c := by
  have hm := pMono.node (nd := nd) (rep := rep) (n := n) (x' := x') (by rw [h7]; exact Nat.le_refl _)
  refine h.quiet (by rw [h7]; exact Nat.le_refl _) (fun hm => ((h.1 n).mono hm (Nat.le_refl _) (fun _ => rfl)).same h4 h5 h6 h7 h8 h9 h10 h11 h20 h30) (fun m hm' => ?_) (by rw [h4]; exact h.2.2.2.2.1 n)
  rcases hp m hm' with h | h
  · exact Or.inl h
  · exact Or.inr ⟨h.1.mono hm (Nat.le_refl _), h.2⟩
theorem pI.post {E : pE} {ep : Nat} {nd : Nat → pN} {post post' : List pMsg} {rep : Nat → Nat → Nat} {c : Nat} (h : pI E ep nd post rep c) (hp : ∀ m ∈ post', m ∈ post ∨ (pIm E nd rep c m ∧ m.2.2.2.1 ≤ ep)) : pI E ep nd post' rep c := by
  obtain ⟨h1, h2, h3, h4, h5, h6⟩ := h
  refine ⟨h1, h2, fun m hm => ?_, h4, h5, fun m hm => ?_⟩
  · rcases hp m hm with h | h
    · exact h3 m h
    · exact h.1
  · rcases hp m hm with h | h
    · exact h6 m h
    · exact h.2
/-- the end rises, within the epoch; done may rise up to c -/
theorem pI.rise {E : pE} {ep : Nat} {nd : Nat → pN} {post : List pMsg} {rep : Nat → Nat → Nat} {c n : Nat} {x' : pN} (h : pI E ep nd post rep c) (h4 : x' 4 = nd n 4) (h5 : x' 5 ≤ c) (h6 : nd n 6 ≤ x' 6) (h7 : x' 7 = nd n 7) (h8 : x' 8 = nd n 8) (h9 : x' 9 = nd n 9) (h10 : x' 10 = nd n 10) (h11 : x' 11 = nd n 11) (h20 : ∀ m, x' (20 + m) = nd n (20 + m)) (h30 : ∀ m, x' (30 + m) = nd n (30 + m)) : pI E ep (va_up nd n x') post rep c := by
  obtain ⟨g1, g2, g3, g4, g5, g6, g7⟩ := h.1 n
  refine h.quiet (by rw [h7]; exact Nat.le_refl _) (fun hm => ?_) (fun m hm => Or.inl hm) (by rw [h4]; exact h.2.2.2.2.1 n)
  unfold pIn
  rw [h4, h7, h8, h9, h10, h11]
  refine ⟨g1, fun e he hk => ?_, fun e he hk => (g3 e he hk).imp id (fun z => z.mono hm (Nat.le_refl _)), fun m hm' hx => ?_, fun hx => ⟨(g5 hx).1, Nat.le_trans (g5 hx).2.1 h6, fun e' he hn => ((g5 hx).2.2 e' he hn).mono hm (Nat.le_refl _)⟩, h5, g7⟩
  · exact (g2 e he hk).imp (fun z => Nat.le_trans z h6) (fun z => z.mono hm (Nat.le_refl _))
  · rw [h20] at hx
    rw [h30]
    exact (g4 m hm' hx).mono hm
/-- a drop of this epoch -/
theorem pI.drop {E : pE} {ep : Nat} {nd : Nat → pN} {post : List pMsg} {rep : Nat → Nat → Nat} {c n : Nat} {x' : pN} (h : pI E ep nd post rep c) (hs : pSafe E nd rep (nd n 4)) (hk : ¬ eK E (nd n 4) n) (hn : ∃ k, eK E (nd n 4) k) (hr : nd n 10 = 0) (h4 : x' 4 = nd n 4) (h5 : x' 5 = 0) (h7 : x' 7 = nd n 7) (h8 : x' 8 = nd n 8) (h9 : x' 9 = nd n 9) (h10 : x' 10 = nd n 10) (h20 : ∀ m, x' (20 + m) = nd n (20 + m)) (h30 : ∀ m, x' (30 + m) = nd n (30 + m)) : pI E ep (va_up nd n x') post rep c := by
  obtain ⟨g1, g2, g3, g4, g5, g6, g7⟩ := h.1 n
  refine h.quiet (by rw [h7]; exact Nat.le_refl _) (fun hm => ?_) (fun m hm => Or.inl hm) (by rw [h4]; exact h.2.2.2.2.1 n)
  unfold pIn
  rw [h4, h5, h7, h8, h9, h10]
  refine ⟨g1, fun e he hke => ?_, fun e he hk => (g3 e he hk).imp id (fun z => z.mono hm (Nat.le_refl _)), fun m hm' hx => ?_, (fun hx => by rw [hr] at hx; cases hx), Nat.zero_le _, g7⟩
  · by_cases hee : e = nd n 4
    · subst hee
      exact absurd hke hk
    · exact Or.inr ⟨nd n 4, by omega, Nat.le_refl _, hk, hn, hs.mono hm⟩
  · rw [h20] at hx
    rw [h30]
    exact (g4 m hm' hx).mono hm
/-- a node hears of a newer map -/
theorem pI.enter {E : pE} {ep : Nat} {nd : Nat → pN} {post : List pMsg} {rep : Nat → Nat → Nat} {c n e1 : Nat} {x' : pN} (h : pI E ep nd post rep c) (hlt : nd n 4 < e1) (hep : e1 ≤ ep) (h4 : x' 4 = e1) (h5 : x' 5 = nd n 5) (h6 : x' 6 = nd n 6) (h7 : x' 7 = nd n 7) (h8 : x' 8 = nd n 8) (h9 : x' 9 = nd n 9) (h10 : x' 10 = 0) (h20 : ∀ m, m < 10 → x' (20 + m) = 0) (hN : eN E ≤ 10) : pI E ep (va_up nd n x') post rep c := by
  obtain ⟨g1, g2, g3, g4, g5, g6, g7⟩ := h.1 n
  refine h.quiet (by rw [h7]; exact Nat.le_refl _) (fun hm => ?_) (fun m hm => Or.inl hm) (by rw [h4]; exact hep)
  unfold pIn
  rw [h4, h5, h6, h7, h8, h9, h10]
  refine ⟨by omega, fun e he hke => ?_, fun e he hk => (g3 e he hk).imp id (fun z => z.mono hm (Nat.le_refl _)), fun m hm' hx => ?_, (fun hx => by cases hx), g6, g7⟩
  · by_cases hee : e ≤ nd n 4
    · exact (g2 e hee hke).imp id (fun z => z.mono hm (by omega))
    · left
      rw [h.2.1 n e (by omega)]
      exact Nat.zero_le _
  · rw [h20 m (by omega)] at hx
    cases hx
/-- a node loses what it had not flushed -/
theorem pI.crash {E : pE} {ep : Nat} {nd : Nat → pN} {post : List pMsg} {rep : Nat → Nat → Nat} {c n : Nat} {x' : pN} (h : pI E ep nd post rep c) (h4 : x' 4 = nd n 7) (h5 : x' 5 = nd n 8) (h6 : x' 6 = nd n 9) (h7 : x' 7 = nd n 7) (h8 : x' 8 = nd n 8) (h9 : x' 9 = nd n 9) (h10 : x' 10 = 0) (h20 : ∀ m, m < 10 → x' (20 + m) = 0) (hN : eN E ≤ 10) : pI E ep (va_up nd n x') post rep c := by
  obtain ⟨g1, g2, g3, g4, g5, g6, g7⟩ := h.1 n
  have hep := h.2.2.2.2.1 n
  refine h.quiet (by rw [h7]; exact Nat.le_refl _) (fun hm => ?_) (fun m hm => Or.inl hm) (by rw [h4]; omega)
  unfold pIn
  rw [h4, h5, h6, h7, h8, h9, h10]
  refine ⟨Nat.le_refl _, fun e he hk => (g3 e he hk).imp id (fun z => z.mono hm (Nat.le_refl _)), fun e he hk => (g3 e he hk).imp id (fun z => z.mono hm (Nat.le_refl _)), fun m hm' hx => ?_, (fun hx => by cases hx), g7, g7⟩
  rw [h20 m (by omega)] at hx
  cases hx
def pRise (rep : Nat → Nat → Nat) (n e b : Nat) : Nat → Nat → Nat := fun m e' => if m = n ∧ e' = e then max (rep m e') b else rep m e'
/-- a node that has flushed reports: its end counts -/
theorem pI.report {E : pE} {ep : Nat} {nd : Nat → pN} {post : List pMsg} {rep : Nat → Nat → Nat} {c : Nat} (h : pI E ep nd post rep c) (n : Nat) (h7 : nd n 7 = nd n 4) (h9 : nd n 9 = nd n 6) : pI E ep nd post (pRise rep n (nd n 4) (nd n 6)) c ∧ pRp E nd (pRise rep n (nd n 4) (nd n 6)) n (nd n 4) (nd n 6) ∧ pMono nd nd rep (pRise rep n (nd n 4) (nd n 6)) := by
  obtain ⟨g1, g2, g3, g4, g5, g6, g7⟩ := h.1 n
  have hm : pMono nd nd rep (pRise rep n (nd n 4) (nd n 6)) := by
    refine ⟨fun _ => Nat.le_refl _, fun m e => ?_, fun m e he => ?_⟩
    · unfold pRise
      split
      · omega
      · exact Nat.le_refl _
    · unfold pRise
      rw [if_neg]
      rintro ⟨rfl, rfl⟩
      omega
  have hne : ∀ m e, m ≠ n → pRise rep n (nd n 4) (nd n 6) m e = rep m e := fun m e hmn => by
    unfold pRise
    rw [if_neg (fun z => hmn z.1)]
  have hlt : ∀ e, e ≠ nd n 4 → pRise rep n (nd n 4) (nd n 6) n e = rep n e := fun e he => by
    unfold pRise
    rw [if_neg (fun z => he z.2)]
  have heq : pRise rep n (nd n 4) (nd n 6) n (nd n 4) = max (rep n (nd n 4)) (nd n 6) := by
    unfold pRise
    rw [if_pos ⟨rfl, rfl⟩]
  have hown : eK E (nd n 4) n → rep n (nd n 4) ≤ nd n 6 := fun hk => by
    rcases g2 _ (Nat.le_refl _) hk with z | ⟨e2, z1, z2, -⟩
    · exact z
    · omega
  have hin : pIn E nd (pRise rep n (nd n 4) (nd n 6)) c n (nd n) := by
    refine ⟨g1, fun e he hk => ?_, fun e he hk => ?_, fun m hm' hx => (g4 m hm' hx).mono hm, fun hx => ⟨(g5 hx).1, (g5 hx).2.1, fun e' he hn => ((g5 hx).2.2 e' he hn).mono hm (Nat.le_refl _)⟩, g6, g7⟩
    · by_cases hee : e = nd n 4
      · subst hee
        left
        rw [heq]
        have := hown hk
        omega
      · rw [hlt e hee]
        exact (g2 e he hk).imp id (fun z => z.mono hm (Nat.le_refl _))
    · by_cases hee : e = nd n 4
      · subst hee
        left
        rw [heq]
        have := hown hk
        omega
      · rw [hlt e hee]
        exact (g3 e he hk).imp id (fun z => z.mono hm (Nat.le_refl _))
  refine ⟨⟨fun k => ?_, fun k e hk => ?_, fun m hm' => (h.2.2.1 m hm').mono hm (Nat.le_refl _), ?_, h.2.2.2.2⟩, ⟨by omega, fun e he hk => ?_, fun _ => by rw [heq]; omega⟩, hm⟩
  · by_cases hkn : k = n
    · subst hkn
      exact hin
    · exact (h.1 k).mono hm (Nat.le_refl _) (fun e => hne k e hkn)
  · by_cases hkn : k = n
    · subst hkn
      rw [hlt e (by omega)]
      exact h.2.1 k e hk
    · rw [hne k e hkn]
      exact h.2.1 k e hk
  · rcases h.2.2.2.1 with z | ⟨e, z1, z2⟩
    · exact Or.inl z
    · exact Or.inr ⟨e, z1, fun m hk => Nat.le_trans (z2 m hk) (hm.2.1 m e)⟩
  · rw [hlt e (by omega)]
    exact (g2 e (by omega) hk).imp id (fun z => z.mono hm (Nat.le_refl _))
/-- a node notes a report of its epoch -/
theorem pI.note {E : pE} {ep : Nat} {nd : Nat → pN} {post : List pMsg} {rep : Nat → Nat → Nat} {c n k b d : Nat} (h : pI E ep nd post rep c) (hk : k < 10) (hr : pRp E nd rep k (nd n 4) b) (hN : eN E ≤ 10) : pI E ep (va_up nd n (pNote (nd n) k b d)) post rep c := by
  obtain ⟨g1, g2, g3, g4, g5, g6, g7⟩ := h.1 n
  have lo : ∀ j, j < 20 → pNote (nd n) k b d j = nd n j := fun j hj => by
    unfold pNote
    rw [if_neg (by omega), if_neg (by omega), if_neg (by omega)]
  refine h.quiet (by rw [lo 7 (by omega)]; exact Nat.le_refl _) (fun hm => ?_) (fun m hm => Or.inl hm) (by rw [lo 4 (by omega)]; exact h.2.2.2.2.1 n)
  unfold pIn
  rw [lo 4 (by omega), lo 5 (by omega), lo 6 (by omega), lo 7 (by omega), lo 8 (by omega), lo 9 (by omega), lo 10 (by omega), lo 11 (by omega)]
  refine ⟨g1, fun e he hk => (g2 e he hk).imp id (fun z => z.mono hm (Nat.le_refl _)), fun e he hk => (g3 e he hk).imp id (fun z => z.mono hm (Nat.le_refl _)), fun m hm' hx => ?_, fun hx => ⟨(g5 hx).1, (g5 hx).2.1, fun e' he hn => ((g5 hx).2.2 e' he hn).mono hm (Nat.le_refl _)⟩, g6, g7⟩
  by_cases hmk : m = k
  · subst hmk
    have : pNote (nd n) m b d (30 + m) = b := by
      unfold pNote
      rw [if_neg (by omega), if_pos rfl]
    rw [this]
    exact hr.mono hm
  · have e1 : pNote (nd n) k b d (20 + m) = nd n (20 + m) := by
      unfold pNote
      rw [if_neg (by omega), if_neg (by omega), if_neg (by omega)]
    have e2 : pNote (nd n) k b d (30 + m) = nd n (30 + m) := by
      unfold pNote
      rw [if_neg (by omega), if_neg (by omega), if_neg (by omega)]
    rw [e1] at hx
    rw [e2]
    exact (g4 m hm' hx).mono hm
/-- who has heard a quorum and is as far as each of it lacks nothing of the epochs before -/
theorem pReady {E : pE} {ep : Nat} {nd : Nat → pN} {post : List pMsg} {rep : Nat → Nat → Nat} {c n b : Nat} (h : pI E ep nd post rep c) (hq : ∀ e, (∃ m, eK E e m) → ∃ m, m < eN E ∧ nd n (20 + m) = 1 ∧ eK E e m) (hle : ∀ m, m < eN E → nd n (20 + m) = 1 → nd n (30 + m) ≤ b) (hself : eK E (nd n 4) n) (hb : rep n (nd n 4) ≤ b) :
    ∀ (k e : Nat), e + k = nd n 4 → 0 < k → (∃ m, eK E e m) → pNM E nd rep e b := by
  intro k
  induction k using Nat.strongRecOn with
  | _ k ih =>
    intro e hek hk hne
    obtain ⟨m, hm, hx, hkm⟩ := hq e hne
    obtain ⟨r1, r2, r3⟩ := (h.1 n).2.2.2.1 m hm hx
    rcases r2 e (by omega) hkm with z | ⟨e2, z1, z2, z3, z4, b2, z5, z6⟩
    · exact ⟨m, hkm, by omega, Nat.le_trans z (hle m hm hx)⟩
    · have hb2 : b2 ≤ b := by
        by_cases hee : e2 = nd n 4
        · subst hee
          exact Nat.le_trans (z5 n hself) hb
        · obtain ⟨m2, w1, w2, w3⟩ := ih (nd n 4 - e2) (by omega) e2 (by omega) (by omega) z4
          exact Nat.le_trans (z5 m2 w1) w3
      obtain ⟨m3, v1, v2, v3⟩ := z6 e z1 hne
      exact ⟨m3, v1, v2, by omega⟩
theorem pI.ready {E : pE} {ep : Nat} {nd : Nat → pN} {post : List pMsg} {rep : Nat → Nat → Nat} {c n : Nat} {x' : pN} (h : pI E ep nd post rep c) (hl : eL E (nd n 4) = n) (hb : ∀ e, e < nd n 4 → (∃ m, eK E e m) → pNM E nd rep e (nd n 6)) (h4 : x' 4 = nd n 4) (h5 : x' 5 = nd n 5) (h6 : x' 6 = nd n 6) (h7 : x' 7 = nd n 7) (h8 : x' 8 = nd n 8) (h9 : x' 9 = nd n 9) (h11 : x' 11 = nd n 6) (h20 : ∀ m, x' (20 + m) = nd n (20 + m)) (h30 : ∀ m, x' (30 + m) = nd n (30 + m)) : pI E ep (va_up nd n x') post rep c := by
  obtain ⟨g1, g2, g3, g4, g5, g6, g7⟩ := h.1 n
  refine h.quiet (by rw [h7]; exact Nat.le_refl _) (fun hm => ?_) (fun m hm => Or.inl hm) (by rw [h4]; exact h.2.2.2.2.1 n)
  unfold pIn
  rw [h4, h5, h6, h7, h8, h9, h11]
  refine ⟨g1, fun e he hk => (g2 e he hk).imp id (fun z => z.mono hm (Nat.le_refl _)), fun e he hk => (g3 e he hk).imp id (fun z => z.mono hm (Nat.le_refl _)), fun m hm' hx => ?_, fun _ => ⟨hl, Nat.le_refl _, fun e' he hn => (hb e' he hn).mono hm (Nat.le_refl _)⟩, g6, g7⟩
  rw [h20] at hx
  rw [h30]
  exact (g4 m hm' hx).mono hm
/-- what the bound of the done is good for -/
theorem pI.com_le {E : pE} {ep : Nat} {nd : Nat → pN} {post : List pMsg} {rep : Nat → Nat → Nat} {c n : Nat} (h : pI E ep nd post rep c) (hr : nd n 10 = 1) (hk : eK E (nd n 4) n) (hep : nd n 4 = ep) : c ≤ nd n 6 := by
  rcases h.2.2.2.1 with z | ⟨e, ⟨m0, hm0⟩, z2⟩
  · omega
  · by_cases hc : c = 0
    · omega
    · have hpos := z2 m0 hm0
      have hle : e ≤ nd m0 7 := by
        rcases Nat.lt_or_ge (nd m0 7) e with q | q
        · rw [h.2.1 m0 e q] at hpos
          omega
        · exact q
      have h47 := (h.1 m0).1
      have hep0 := h.2.2.2.2.1 m0
      by_cases hee : e = nd n 4
      · subst hee
        rcases (h.1 n).2.1 _ (Nat.le_refl _) hk with q | ⟨e2, q1, q2, -⟩
        · exact Nat.le_trans (z2 n hk) q
        · omega
      · obtain ⟨-, b1, b2⟩ := (h.1 n).2.2.2.2.1 hr
        obtain ⟨m, v1, v2, v3⟩ := b2 e (by omega) ⟨m0, hm0⟩
        have := z2 m v1
        omega
/-- a leader does what all keepers hold -/
theorem pI.done {E : pE} {ep : Nat} {nd : Nat → pN} {post : List pMsg} {rep : Nat → Nat → Nat} {c n a : Nat} {x' : pN} (h : pI E ep nd post rep c) (hk : eK E (nd n 4) n) (ha : ∀ m, eK E (nd n 4) m → a ≤ rep m (nd n 4)) (h4 : x' 4 = nd n 4) (h5 : x' 5 ≤ max c a) (h6 : x' 6 = nd n 6) (h7 : x' 7 = nd n 7) (h8 : x' 8 = nd n 8) (h9 : x' 9 = nd n 9) (h10 : x' 10 = nd n 10) (h11 : x' 11 = nd n 11) (h20 : ∀ m, x' (20 + m) = nd n (20 + m)) (h30 : ∀ m, x' (30 + m) = nd n (30 + m)) : pI E ep (va_up nd n x') post rep (max c a) := by
  obtain ⟨g1, g2, g3, g4, g5, g6, g7⟩ := h.1 n
  have hm := pMono.node (nd := nd) (rep := rep) (n := n) (x' := x') (by rw [h7]; exact Nat.le_refl _)
  refine h.step hm (by omega) (fun _ _ _ => rfl) (fun e he => h.2.1 n e (by omega)) ?_ (fun m hm' => Or.inl hm') ?_ (by rw [h4]; exact h.2.2.2.2.1 n)
  · unfold pIn
    rw [h4, h6, h7, h8, h9, h10, h11]
    refine ⟨g1, fun e he hk => (g2 e he hk).imp id (fun z => z.mono hm (Nat.le_refl _)), fun e he hk => (g3 e he hk).imp id (fun z => z.mono hm (Nat.le_refl _)), fun m hm' hx => ?_, fun hx => ⟨(g5 hx).1, (g5 hx).2.1, fun e' he hn => ((g5 hx).2.2 e' he hn).mono hm (Nat.le_refl _)⟩, h5, by omega⟩
    rw [h20] at hx
    rw [h30]
    exact (g4 m hm' hx).mono hm
  · rcases Nat.le_total a c with q | q
    · rw [Nat.max_eq_left q]
      exact h.2.2.2.1
    · rw [Nat.max_eq_right q]
      exact Or.inr ⟨nd n 4, ⟨n, hk⟩, ha⟩
end
section
/-! Methods of the JDK. -/
section JDK
variable {l : Launch} {G : mm_G} {M : mm_M} {sz : Nat}
theorem c_min {x y : Int32} : CT l G Y_Math_min ds_Math_min (rm 1) [.int x, .int y] M sz (fun r M' sz' => r = some (.int (if x ≤ y then x else y)) ∧ M' = M ∧ sz' = sz) := by
  refine CT.ofF (by decide +kernel) (Nat.le_of_ble_eq_true rfl) ?_
  refine rw_iload_n d_Math_min_0 rfl ?_
  refine rw_iload_n d_Math_min_1 rfl ?_
  refine rw_icmp_gt (tgt := 9) d_Math_min_2 (by decide) (fun q => ?_) (fun q => ?_)
  · refine rw_iload_n d_Math_min_9 rfl ?_
    refine rw_iret d_Math_min_10 rfl ⟨?_, rfl, rfl⟩
    rw [if_neg (fun z => absurd q (Int32.not_lt.mpr z))]
  · refine rw_iload_n d_Math_min_5 rfl ?_
    refine rw_goto (tgt := 10) d_Math_min_6 (by decide) ?_
    refine rw_iret d_Math_min_10 rfl ⟨?_, rfl, rfl⟩
    rw [if_pos (Int32.not_lt.mp q)]
theorem c_max {x y : Int32} : CT l G Y_Math_max ds_Math_max (rm 1) [.int x, .int y] M sz (fun r M' sz' => r = some (.int (if y ≤ x then x else y)) ∧ M' = M ∧ sz' = sz) := by
  refine CT.ofF (by decide +kernel) (Nat.le_of_ble_eq_true rfl) ?_
  refine rw_iload_n d_Math_max_0 rfl ?_
  refine rw_iload_n d_Math_max_1 rfl ?_
  refine rw_icmp_lt (tgt := 9) d_Math_max_2 (by decide) (fun q => ?_) (fun q => ?_)
  · refine rw_iload_n d_Math_max_9 rfl ?_
    refine rw_iret d_Math_max_10 rfl ⟨?_, rfl, rfl⟩
    rw [if_neg (fun z => absurd q (Int32.not_lt.mpr z))]
  · refine rw_iload_n d_Math_max_5 rfl ?_
    refine rw_goto (tgt := 10) d_Math_max_6 (by decide) ?_
    refine rw_iret d_Math_max_10 rfl ⟨?_, rfl, rfl⟩
    rw [if_pos (Int32.not_lt.mp q)]
theorem xor_neg (a b : Int32) (hb : 0 ≤ b) : (0 ≤ a ^^^ b) ↔ 0 ≤ a := by
  have e : ∀ x : Int32, (0 ≤ x) ↔ x.toBitVec.msb = false := fun x => by
    rw [Int32.le_iff_toInt_le]
    show (0 : Int) ≤ x.toBitVec.toInt ↔ _
    rw [BitVec.msb_eq_toInt]
    simp
  rw [e, e, Int32.toBitVec_xor, BitVec.msb_xor, (e b).mp hb]
  simp
theorem tmod_np {a b : Int} (h : a ≤ 0) : a.tmod b ≤ 0 := by
  have h1 := Int.neg_tmod a b
  have h2 := Int.tmod_nonneg b (show 0 ≤ -a by omega)
  omega
theorem rem_bd {x : Int32} {n : Nat} (hn : 0 < n) (h : n < 1000000) : -(n : Int) < (x - x / nI n * nI n).toInt ∧ (x - x / nI n * nI n).toInt < n ∧ (0 ≤ x.toInt → 0 ≤ (x - x / nI n * nI n).toInt) ∧ (x.toInt < 0 → (x - x / nI n * nI n).toInt ≤ 0) := by
  have hy : (nI n).toInt = n := nI_toInt (by omega)
  have e : (x - x / nI n * nI n).toInt = x.toInt.tmod n := by
    by_cases h1 : n = 1
    · subst h1
      have : x / nI 1 * nI 1 = x := by
        show x / 1 * 1 = x
        simp
      rw [this]
      simp
    · have h3 : nI n ≠ -1 := fun q => by
        have := congrArg Int32.toInt q
        rw [hy] at this
        have h5 : (-1 : Int32).toInt = -1 := by decide
        omega
      have hd : (x / nI n).toInt = x.toInt.tdiv n := by rw [Int32.toInt_div_of_ne_right _ _ h3, hy]
      have hx1 := x.le_toInt
      have hx2 := x.toInt_lt
      have hm : (n : Int) * x.toInt.tdiv n + x.toInt.tmod n = x.toInt := Int.mul_tdiv_add_tmod x.toInt n
      have hc : x.toInt.tdiv n * n = n * x.toInt.tdiv n := Int.mul_comm _ _
      have hl : -(n : Int) < x.toInt.tmod n := by
        have := Int.lt_tmod_of_pos x.toInt (show (0 : Int) < n by omega)
        omega
      have hu : x.toInt.tmod n < n := Int.tmod_lt_of_pos x.toInt (show (0 : Int) < n by omega)
      rw [Int32.toInt_sub, Int32.toInt_mul, hd, hy, hc]
      by_cases hz : 0 ≤ x.toInt
      · have t0 : 0 ≤ x.toInt.tmod n := Int.tmod_nonneg n hz
        rw [Int.bmod_eq_of_le (n := n * x.toInt.tdiv n) (by omega) (by omega), Int.bmod_eq_of_le (by omega) (by omega)]
        omega
      · have t0 : x.toInt.tmod n ≤ 0 := tmod_np (by omega)
        rw [Int.bmod_eq_of_le (n := n * x.toInt.tdiv n) (by omega) (by omega), Int.bmod_eq_of_le (by omega) (by omega)]
        omega
  rw [e]
  refine ⟨?_, Int.tmod_lt_of_pos x.toInt (show (0 : Int) < n by omega), fun z => Int.tmod_nonneg n z, fun z => tmod_np (by omega)⟩
  have := Int.lt_tmod_of_pos x.toInt (show (0 : Int) < n by omega)
  omega
theorem c_floorMod {x : Int32} {n : Nat} (hn : 0 < n) (h : n < 1000000) : CT l G Y_Math_floorMod ds_Math_floorMod (rm 1) [.int x, .int (nI n)] M sz (fun r M' sz' => (∃ p, p < n ∧ r = some (.int (nI p))) ∧ M' = M ∧ sz' = sz) := by
  refine CT.ofF (by decide +kernel) (Nat.le_of_ble_eq_true rfl) ?_
  obtain ⟨b1, b2, b3, b4⟩ := rem_bd (x := x) hn h
  have hne : ¬ nI n = 0 := nI_ne0 hn (by omega)
  have hn0 : 0 ≤ nI n := nI_pos' (by omega)
  have fin : ∀ z : Int32, 0 ≤ z.toInt → z.toInt < n → ∃ p, p < n ∧ some (Value.int z) = some (.int (nI p)) := fun z h1 h2 => ⟨z.toInt.toNat, by omega, by
    have : z = nI z.toInt.toNat := by
      rw [← Int32.toInt_inj, nI_toInt (by omega)]
      omega
    rw [← this]⟩
  refine rw_iload_n d_Math_floorMod_0 rfl ?_
  refine rw_iload_n d_Math_floorMod_1 rfl ?_
  refine rw_irem d_Math_floorMod_2 hne ?_
  refine rw_topi (fun z hz => ?_)
  rw [← hz] at b1 b2 b3 b4
  refine rw_istore_n d_Math_floorMod_3 (by decide) rfl ?_
  refine rw_iload_n d_Math_floorMod_4 rfl ?_
  refine rw_iload_n d_Math_floorMod_5 rfl ?_
  refine rw_ixor d_Math_floorMod_6 ?_
  refine rw_if_ge (tgt := 18) d_Math_floorMod_7 (by decide) (fun q => ?_) (fun q => ?_)
  · rw [xor_neg _ _ hn0, Int32.le_iff_toInt_le] at q
    have q1 : (0 : Int) ≤ x.toInt := by simpa using q
    refine rw_iload_n d_Math_floorMod_18 rfl ?_
    exact rw_iret d_Math_floorMod_19 rfl ⟨fin z (b3 q1) b2, rfl, rfl⟩
  · rw [xor_neg _ _ hn0, Int32.le_iff_toInt_le] at q
    have q1 : x.toInt < 0 := by simpa using q
    refine rw_iload_n d_Math_floorMod_10 rfl ?_
    refine rw_if_eq (tgt := 18) d_Math_floorMod_11 (by decide) (fun q2 => ?_) (fun q2 => ?_)
    · refine rw_iload_n d_Math_floorMod_18 rfl ?_
      exact rw_iret d_Math_floorMod_19 rfl ⟨fin z (by rw [q2]; decide) b2, rfl, rfl⟩
    · refine rw_iload_n d_Math_floorMod_14 rfl ?_
      refine rw_iload_n d_Math_floorMod_15 rfl ?_
      refine rw_iadd d_Math_floorMod_16 ?_
      have hz0 : z.toInt ≠ 0 := fun e => q2 (Int32.toInt_inj.mp e)
      have := b4 q1
      have hs : (z + nI n).toInt = z.toInt + n := by
        rw [Int32.toInt_add, nI_toInt (by omega), Int.bmod_eq_of_le (by omega) (by omega)]
      exact rw_iret d_Math_floorMod_17 rfl ⟨fin (z + nI n) (by omega) (by omega), rfl, rfl⟩
end JDK
end
section
/-! Copy: pictures and contracts of its leaves. -/
abbrev aI (n : Nat) (f : Nat → Int32) : va_E := .inl (0, n, .inl f)
abbrev aZ (n : Nat) (f : Nat → Int32) : va_E := .inl (1, n, .inl f)
abbrev aR (t n : Nat) (f : Nat → Option Nat) : va_E := .inl (t, n, .inr (.inr (.inr (.inr f))))
/-- the cell of a Copy at a: done d, end b, held h -/
abbrev cpO (a d b : Nat) (h : Int64) : va_E := .inr (1, [.int (nI d), .int (nI b), .long h, .ref (a + 1), .ref (a + 2), .ref (a + 3)])
/-- a Copy and its arrays -/
def CpR (M : mm_M) (a d b : Nat) (h : Int64) (v an : Nat → Int32) (lg : Nat → Option Nat) : Prop := M a = some (cpO a d b h) ∧ M (a + 1) = some (aI 40 v) ∧ M (a + 2) = some (aI 8 an) ∧ M (a + 3) = some (aR 3 8 lg)
section COPY
variable {l : Launch} {G : mm_G} {M : mm_M} {sz : Nat}
theorem c_reaches {a d b o : Nat} {h : Int64} (hM : M a = some (cpO a d b h)) (hb : b < 1000000) (ho : o < 1000000) : CT l G Y_Copy_reachesBackTo ds_Copy_reachesBackTo (rm 1) [.ref a, .int (nI o)] M sz (fun r M' sz' => r = some (.int (bI (decide (b ≤ o + 8)))) ∧ M' = M ∧ sz' = sz) := by
  refine CT.of (by decide) (Nat.le_of_ble_eq_true rfl) ?_
  refine rw_iload_n d_Copy_reachesBackTo_0 rfl ?_
  refine rw_aload_n d_Copy_reachesBackTo_1 rfl (by first | exact mm_ref_r _ | exact mm_ref_n | exact mm_ref_o _) ?_
  refine rw_get d_Copy_reachesBackTo_2 fF_Copy_35 hM rfl ?_
  refine rw_bipush (v := 8) d_Copy_reachesBackTo_5 (by decide) ?_
  refine rw_isub d_Copy_reachesBackTo_7 ?_
  refine rw_icmp_lt (tgt := 15) d_Copy_reachesBackTo_8 (by decide) (fun q => ?_) (fun q => ?_)
  · refine rw_iconst (v := 0) d_Copy_reachesBackTo_15 (by decide) ?_
    refine rw_zret d_Copy_reachesBackTo_16 rfl rfl ⟨?_, rfl, rfl⟩
    rw [nI_sub8, nI_iI, iI_lt (by omega) (by omega) (by omega) (by omega)] at q
    rw [show decide (b ≤ o + 8) = false from decide_eq_false (by omega)]
    rfl
  · refine rw_iconst (v := 1) d_Copy_reachesBackTo_11 (by decide) ?_
    refine rw_goto (tgt := 16) d_Copy_reachesBackTo_12 (by decide) ?_
    refine rw_zret d_Copy_reachesBackTo_16 rfl rfl ⟨?_, rfl, rfl⟩
    rw [nI_sub8, nI_iI, iI_lt (by omega) (by omega) (by omega) (by omega)] at q
    rw [show decide (b ≤ o + 8) = true from decide_eq_true (by omega)]
    rfl
theorem c_has {a d b k : Nat} {h : Int64} {hs : Nat → Bool} (hM : M a = some (cpO a d b h)) (hk : k < 40) (hh : hOk h hs) : CT l G Y_Copy_has ds_Copy_has (rm 1) [.ref a, .int (nI k)] M sz (fun r M' sz' => r = some (.int (bI (hs k))) ∧ M' = M ∧ sz' = sz) := by
  refine CT.of (by decide) (Nat.le_of_ble_eq_true rfl) ?_
  refine rw_aload_n d_Copy_has_0 rfl (by first | exact mm_ref_r _ | exact mm_ref_n | exact mm_ref_o _) ?_
  refine rw_get d_Copy_has_1 fF_Copy_24 hM rfl ?_
  refine rw_iload_n d_Copy_has_4 rfl ?_
  refine rw_lushr d_Copy_has_5 rfl ?_
  refine rw_lconst (v := 1) d_Copy_has_6 (by decide) ?_
  refine rw_land d_Copy_has_7 ?_
  refine rw_lconst (v := 0) d_Copy_has_8 (by decide) ?_
  refine rw_lcmp d_Copy_has_9 ?_
  refine rw_if_eq (tgt := 17) d_Copy_has_10 (by decide) (fun q => ?_) (fun q => ?_)
  · refine rw_iconst (v := 0) d_Copy_has_17 (by decide) ?_
    refine rw_zret d_Copy_has_18 rfl rfl ⟨?_, rfl, rfl⟩
    rw [lg_cmp_eq, hOk_has hk hh] at q
    rw [q]
    rfl
  · refine rw_iconst (v := 1) d_Copy_has_13 (by decide) ?_
    refine rw_goto (tgt := 18) d_Copy_has_14 (by decide) ?_
    refine rw_zret d_Copy_has_18 rfl rfl ⟨?_, rfl, rfl⟩
    rw [lg_cmp_eq, hOk_has hk hh] at q
    rw [show hs k = true by simpa using q]
    rfl
theorem c_remembers {a d b i : Nat} {h : Int64} (hM : M a = some (cpO a d b h)) (hd : d < 1000000) (hi : i < 1000000) : CT l G Y_Copy_remembers ds_Copy_remembers (rm 1) [.ref a, .int (nI i)] M sz (fun r M' sz' => r = some (.int (bI (decide (i < d) && decide (d ≤ i + 8)))) ∧ M' = M ∧ sz' = sz) := by
  refine CT.of (by decide) (Nat.le_of_ble_eq_true rfl) ?_
  refine rw_iload_n d_Copy_remembers_0 rfl ?_
  refine rw_if_lt_f (tgt := 27) d_Copy_remembers_1 (by decide) (nI_pos (by omega)) ?_
  refine rw_iload_n d_Copy_remembers_4 rfl ?_
  refine rw_aload_n d_Copy_remembers_5 rfl (by first | exact mm_ref_r _ | exact mm_ref_n | exact mm_ref_o _) ?_
  refine rw_get d_Copy_remembers_6 fF_Copy_28 hM rfl ?_
  refine rw_icmp_ge (tgt := 27) d_Copy_remembers_9 (by decide) (fun q => ?_) (fun q => ?_)
  · refine rw_iconst (v := 0) d_Copy_remembers_27 (by decide) ?_
    refine rw_zret d_Copy_remembers_28 rfl rfl ⟨?_, rfl, rfl⟩
    rw [nI_leI (by omega) (by omega)] at q
    rw [show decide (i < d) = false from decide_eq_false (by omega)]
    rfl
  · refine rw_iload_n d_Copy_remembers_12 rfl ?_
    refine rw_aload_n d_Copy_remembers_13 rfl (by first | exact mm_ref_r _ | exact mm_ref_n | exact mm_ref_o _) ?_
    refine rw_get d_Copy_remembers_14 fF_Copy_28 hM rfl ?_
    refine rw_bipush (v := 8) d_Copy_remembers_17 (by decide) ?_
    refine rw_isub d_Copy_remembers_19 ?_
    rw [nI_leI (by omega) (by omega)] at q
    refine rw_icmp_lt (tgt := 27) d_Copy_remembers_20 (by decide) (fun q2 => ?_) (fun q2 => ?_)
    · refine rw_iconst (v := 0) d_Copy_remembers_27 (by decide) ?_
      refine rw_zret d_Copy_remembers_28 rfl rfl ⟨?_, rfl, rfl⟩
      rw [nI_sub8, nI_iI, iI_lt (by omega) (by omega) (by omega) (by omega)] at q2
      rw [show decide (d ≤ i + 8) = false from decide_eq_false (by omega), Bool.and_false]
      rfl
    · refine rw_iconst (v := 1) d_Copy_remembers_23 (by decide) ?_
      refine rw_goto (tgt := 28) d_Copy_remembers_24 (by decide) ?_
      refine rw_zret d_Copy_remembers_28 rfl rfl ⟨?_, rfl, rfl⟩
      rw [nI_sub8, nI_iI, iI_lt (by omega) (by omega) (by omega) (by omega)] at q2
      rw [show decide (d ≤ i + 8) = true from decide_eq_true (by omega), show decide (i < d) = true from decide_eq_true (by omega)]
      rfl
/-- the cell of command i -/
abbrev cmO (i : Nat) (c : pCm) : va_E := .inr (0, [.int (nI i), .int (nI c.1), .int (nI c.2.1), .int c.2.2])
theorem c_append {a d b i w : Nat} {c : pCm} {h : Int64} {v an : Nat → Int32} {lg : Nat → Option Nat} (hC : CpR M a d b h v an lg) (hw : M w = some (cmO i c)) (hd : d < 1000000) (hb : b < 1000000) (hi : i < 1000000) :
    CT l G Y_Copy_append ds_Copy_append (rm 1) [.ref a, .ref w] M sz (fun r M' sz' => r = some (.int (bI (decide (i = b ∧ b < d + 8)))) ∧ sz' = sz ∧ (i = b ∧ b < d + 8 → CpR M' a d (b + 1) h v an (va_up lg (b % 8) (some w))) ∧ (¬ (i = b ∧ b < d + 8) → M' = M) ∧ ∀ q, q < a ∨ a + 4 ≤ q → M' q = M q) := by
  obtain ⟨h0, h1, h2, h3⟩ := hC
  refine CT.of (by decide) (Nat.le_of_ble_eq_true rfl) ?_
  refine rw_aload_n d_Copy_append_0 rfl (by first | exact mm_ref_r _ | exact mm_ref_n | exact mm_ref_o _) ?_
  refine rw_ifnull_f d_Copy_append_1 ?_
  refine rw_aload_n d_Copy_append_4 rfl (by first | exact mm_ref_r _ | exact mm_ref_n | exact mm_ref_o _) ?_
  refine rw_get d_Copy_append_5 fF_Copy_32 hw rfl ?_
  refine rw_aload_n d_Copy_append_8 rfl (by first | exact mm_ref_r _ | exact mm_ref_n | exact mm_ref_o _) ?_
  refine rw_get d_Copy_append_9 fF_Copy_35 h0 rfl ?_
  refine rw_icmp_ne (tgt := 29) d_Copy_append_12 (by decide) (fun q => ?_) (fun q => ?_)
  · refine rw_iconst (v := 0) d_Copy_append_29 (by decide) ?_
    rw [nI_eq (by omega) (by omega)] at q
    refine rw_zret d_Copy_append_30 rfl rfl ⟨?_, rfl, fun z => absurd z.1 q, fun _ => rfl, fun _ _ => rfl⟩
    rw [decide_eq_false (fun z => q z.1)]
    rfl
  · rw [nI_eq (by omega) (by omega)] at q
    refine rw_aload_n d_Copy_append_15 rfl (by first | exact mm_ref_r _ | exact mm_ref_n | exact mm_ref_o _) ?_
    refine rw_get d_Copy_append_16 fF_Copy_35 h0 rfl ?_
    refine rw_aload_n d_Copy_append_19 rfl (by first | exact mm_ref_r _ | exact mm_ref_n | exact mm_ref_o _) ?_
    refine rw_get d_Copy_append_20 fF_Copy_28 h0 rfl ?_
    refine rw_isub d_Copy_append_23 ?_
    refine rw_bipush (v := 8) d_Copy_append_24 (by decide) ?_
    rw [nI_subI]
    refine rw_icmp_lt (tgt := 31) d_Copy_append_26 (by decide) (fun q2 => ?_) (fun q2 => ?_)
    · rw [show (8 : Int32) = iI 8 from rfl, iI_lt (by omega) (by omega) (by omega) (by omega)] at q2
      refine rw_aload_n d_Copy_append_31 rfl (by first | exact mm_ref_r _ | exact mm_ref_n | exact mm_ref_o _) ?_
      refine rw_get d_Copy_append_32 fF_Copy_20 h0 rfl ?_
      refine rw_aload_n d_Copy_append_35 rfl (by first | exact mm_ref_r _ | exact mm_ref_n | exact mm_ref_o _) ?_
      refine rw_get d_Copy_append_36 fF_Copy_35 h0 rfl ?_
      refine rw_bipush (v := 8) d_Copy_append_39 (by decide) ?_
      refine rw_irem d_Copy_append_41 (by decide) ?_
      rw [nI_rem8 (by omega)]
      refine rw_aload_n d_Copy_append_42 rfl (by first | exact mm_ref_r _ | exact mm_ref_n | exact mm_ref_o _) ?_
      refine rw_aast d_Copy_append_43 h3 (by decide) hw rfl rfl (vp_in8 b) ?_
      rw [nI_c8]
      refine rw_aload_n d_Copy_append_44 rfl (by first | exact mm_ref_r _ | exact mm_ref_n | exact mm_ref_o _) ?_
      refine rw_dup d_Copy_append_45 rfl ?_
      refine rw_get d_Copy_append_46 fF_Copy_35 (mup_get (by omega) h0) rfl ?_
      refine rw_iconst (v := 1) d_Copy_append_49 (by decide) ?_
      refine rw_iadd d_Copy_append_50 ?_
      refine rw_put d_Copy_append_51 (fP_Copy_35 _) (mup_get (by omega) h0) (Nat.le_of_ble_eq_true rfl) (by first | rfl | assumption | decide) (by first | rfl | decide) ?_
      refine rw_iconst (v := 1) d_Copy_append_54 (by decide) ?_
      refine rw_zret d_Copy_append_55 rfl rfl ⟨?_, rfl, fun _ => ⟨?_, ?_, ?_, ?_⟩, fun z => absurd ⟨q, by omega⟩ z, fun x hx => ?_⟩
      · rw [decide_eq_true ⟨q, by omega⟩]
        rfl
      · rw [mup_self]
        show some (Sum.inr (1, [_, Value.int (nI b + 1), _, _, _, _])) = _
        rw [nI_1]
      · simp [mup, h1]
      · simp [mup, h2]
      · simp [mup]
      · rw [mup_ne _ _ (by omega), mup_ne _ _ (by omega)]
    · rw [show (8 : Int32) = iI 8 from rfl, iI_lt (by omega) (by omega) (by omega) (by omega)] at q2
      refine rw_iconst (v := 0) d_Copy_append_29 (by decide) ?_
      refine rw_zret d_Copy_append_30 rfl rfl ⟨?_, rfl, fun z => absurd z.2 (by omega), fun _ => rfl, fun _ _ => rfl⟩
      rw [decide_eq_false (fun z => by have := z.2; omega)]
      rfl
end COPY
end
section
/-! Copy.perform: a command done. -/
section PERF
variable {l : Launch} {G : mm_G} {M : mm_M} {sz : Nat}
/-- what perform leaves -/
def PfQ (M : mm_M) (sz a d b : Nat) (an : Nat → Int32) (lg : Nat → Option Nat) (c : pCm) (t : pT) : Option Value → mm_M → Nat → Prop := fun r M' sz' => r = some (.int (tA c t)) ∧ sz' = sz ∧ (∃ h' v', CpR M' a d b h' v' an lg ∧ hOk h' (tS c t).1 ∧ ∀ k, k < 40 → v' k = (tS c t).2 k) ∧ ∀ q, q < a ∨ a + 4 ≤ q → M' q = M q
/-- from the switch on -/
theorem perf_tail {a d b w i kd k : Nat} {x : Int32} {t : pT} {h : Int64} {v an : Nat → Int32} {lg : Nat → Option Nat} (h0 : M a = some (cpO a d b h)) (h1 : M (a + 1) = some (aI 40 v)) (h2 : M (a + 2) = some (aI 8 an)) (h3 : M (a + 3) = some (aR 3 8 lg)) (hw : M w = some (cmO i (kd, k, x))) (c1 : kd ≤ 4) (c2 : k < 40) (c3 : kd = 4 → ∃ j, j < 40 ∧ x = nI j) (hh : hOk h t.1) (hv : ∀ k, k < 40 → v k = t.2 k) :
    RW l G Y_Copy_perform (rm 1) (mm_Z G (rm 1) (PfQ M sz a d b an lg (kd, k, x) t)) 0 0 38 [(0, .ref a), (1, .ref w), (2, .int (nI k)), (3, .int x), (4, .long (bt k))] [.int (bI (t.1 k))] M sz := by
  have hk32 : vp_in (nI k) 40 := vp_in_nI c2 (by omega)
  have hkc : (nI k).toNatClampNeg = k := nI_c (by omega)
  have hua : ∀ (y : Int32) (j : Nat), j < 40 → upd v k y j = va_up t.2 k y j := fun y j hj => by
    by_cases q : j = k
    · simp [upd, va_up, q]
    · simp [upd, va_up, q, hv j hj]
  refine rw_istore d_Copy_perform_38 (by decide) rfl ?_
  refine rw_aload_n d_Copy_perform_40 rfl (by first | exact mm_ref_r _ | exact mm_ref_n | exact mm_ref_o _) ?_
  refine rw_get d_Copy_perform_41 fF_Copy_54 hw rfl ?_
  rcases (show kd = 0 ∨ kd = 1 ∨ kd = 2 ∨ kd = 3 ∨ kd = 4 by omega) with rfl | rfl | rfl | rfl | rfl
  · refine rw_stk (st' := [.int (nI 0)]) rfl ?_
    refine rw_tabIn (off := 36) (tgt := 80) d_Copy_perform_44 (by decide) (by decide) (by decide) (by decide) ?_
    refine rw_aload_n d_Copy_perform_80 rfl (by first | exact mm_ref_r _ | exact mm_ref_n | exact mm_ref_o _) ?_
    refine rw_dup d_Copy_perform_81 rfl ?_
    refine rw_get d_Copy_perform_82 fF_Copy_24 h0 rfl ?_
    refine rw_lload d_Copy_perform_85 rfl ?_
    refine rw_lor d_Copy_perform_87 ?_
    refine rw_put d_Copy_perform_88 (fP_Copy_24 _) h0 (Nat.le_of_ble_eq_true rfl) (by first | rfl | assumption | decide) (by first | rfl | decide) ?_
    refine rw_aload_n d_Copy_perform_91 rfl (by first | exact mm_ref_r _ | exact mm_ref_n | exact mm_ref_o _) ?_
    refine rw_get d_Copy_perform_92 fF_Copy_9 (mup_self _ _ _) rfl ?_
    refine rw_iload_n d_Copy_perform_95 rfl ?_
    refine rw_iload_n d_Copy_perform_96 rfl ?_
    refine rw_iast d_Copy_perform_97 (mup_get (by omega) h1) hk32 ?_
    rw [hkc]
    refine rw_iload d_Copy_perform_98 rfl ?_
    refine rw_iret d_Copy_perform_100 rfl ⟨rfl, rfl, ⟨h ||| bt k, upd v k x, ⟨?_, ?_, ?_, ?_⟩, hOk_set c2 hh, hua x⟩, fun q hq => ?_⟩
    · simp [mup]
    · simp [mup]
    · simp [mup, h2]
    · simp [mup, h3]
    · rw [mup_ne _ _ (by omega), mup_ne _ _ (by omega)]
  · refine rw_stk (st' := [.int (nI 1)]) rfl ?_
    refine rw_tabIn (off := 57) (tgt := 101) d_Copy_perform_44 (by decide) (by decide) (by decide) (by decide) ?_
    refine rw_aload_n d_Copy_perform_101 rfl (by first | exact mm_ref_r _ | exact mm_ref_n | exact mm_ref_o _) ?_
    refine rw_dup d_Copy_perform_102 rfl ?_
    refine rw_get d_Copy_perform_103 fF_Copy_24 h0 rfl ?_
    refine rw_lload d_Copy_perform_106 rfl ?_
    refine rw_ldc2 d_Copy_perform_108 kC_Copy_57 ?_
    refine rw_lxor d_Copy_perform_111 ?_
    refine rw_land d_Copy_perform_112 ?_
    refine rw_put d_Copy_perform_113 (fP_Copy_24 _) h0 (Nat.le_of_ble_eq_true rfl) (by first | rfl | assumption | decide) (by first | rfl | decide) ?_
    refine rw_aload_n d_Copy_perform_116 rfl (by first | exact mm_ref_r _ | exact mm_ref_n | exact mm_ref_o _) ?_
    refine rw_get d_Copy_perform_117 fF_Copy_9 (mup_self _ _ _) rfl ?_
    refine rw_iload_n d_Copy_perform_120 rfl ?_
    refine rw_iconst (v := 0) d_Copy_perform_121 (by decide) ?_
    refine rw_iast d_Copy_perform_122 (mup_get (by omega) h1) hk32 ?_
    rw [hkc]
    refine rw_iload d_Copy_perform_123 rfl ?_
    refine rw_iret d_Copy_perform_125 rfl ⟨rfl, rfl, ⟨h &&& (bt k ^^^ (-1)), upd v k 0, ⟨?_, ?_, ?_, ?_⟩, hOk_clear c2 hh, hua 0⟩, fun q hq => ?_⟩
    · simp [mup]
    · simp [mup]
    · simp [mup, h2]
    · simp [mup, h3]
    · rw [mup_ne _ _ (by omega), mup_ne _ _ (by omega)]
  · refine rw_stk (st' := [.int (nI 2)]) rfl ?_
    refine rw_tabIn (off := 166) (tgt := 210) d_Copy_perform_44 (by decide) (by decide) (by decide) (by decide) ?_
    refine rw_aload_n d_Copy_perform_210 rfl (by first | exact mm_ref_r _ | exact mm_ref_n | exact mm_ref_o _) ?_
    refine rw_get d_Copy_perform_211 fF_Copy_9 h0 rfl ?_
    refine rw_iload_n d_Copy_perform_214 rfl ?_
    refine rw_iald d_Copy_perform_215 h1 hk32 ?_
    rw [hkc]
    exact rw_iret d_Copy_perform_216 rfl ⟨by rw [hv k c2]; rfl, rfl, ⟨h, v, ⟨h0, h1, h2, h3⟩, hh, hv⟩, fun _ _ => rfl⟩
  · refine rw_stk (st' := [.int (nI 3)]) rfl ?_
    refine rw_tabIn (off := 82) (tgt := 126) d_Copy_perform_44 (by decide) (by decide) (by decide) (by decide) ?_
    refine rw_aload_n d_Copy_perform_126 rfl (by first | exact mm_ref_r _ | exact mm_ref_n | exact mm_ref_o _) ?_
    refine rw_dup d_Copy_perform_127 rfl ?_
    refine rw_get d_Copy_perform_128 fF_Copy_24 h0 rfl ?_
    refine rw_lload d_Copy_perform_131 rfl ?_
    refine rw_lor d_Copy_perform_133 ?_
    refine rw_put d_Copy_perform_134 (fP_Copy_24 _) h0 (Nat.le_of_ble_eq_true rfl) (by first | rfl | assumption | decide) (by first | rfl | decide) ?_
    refine rw_aload_n d_Copy_perform_137 rfl (by first | exact mm_ref_r _ | exact mm_ref_n | exact mm_ref_o _) ?_
    refine rw_get d_Copy_perform_138 fF_Copy_9 (mup_self _ _ _) rfl ?_
    refine rw_iload_n d_Copy_perform_141 rfl ?_
    refine rw_dup2 d_Copy_perform_142 rfl rfl ?_
    refine rw_iald d_Copy_perform_143 (mup_get (by omega) h1) hk32 ?_
    refine rw_iload_n d_Copy_perform_144 rfl ?_
    refine rw_iadd d_Copy_perform_145 ?_
    refine rw_iast d_Copy_perform_146 (mup_get (by omega) h1) hk32 ?_
    refine rw_aload_n d_Copy_perform_147 rfl (by first | exact mm_ref_r _ | exact mm_ref_n | exact mm_ref_o _) ?_
    refine rw_get d_Copy_perform_148 fF_Copy_9 (mup_get (by omega) (mup_self _ _ _)) rfl ?_
    refine rw_iload_n d_Copy_perform_151 rfl ?_
    refine rw_iald d_Copy_perform_152 (mup_self _ _ _) hk32 ?_
    rw [hkc]
    have hvk : v k = t.2 k := hv k c2
    refine rw_iret d_Copy_perform_153 rfl ⟨?_, rfl, ⟨h ||| bt k, upd v k (v k + x), ⟨?_, ?_, ?_, ?_⟩, hOk_set c2 hh, ?_⟩, fun q hq => ?_⟩
    · simp [upd, tA, hvk]
    · simp [mup]
    · simp [mup]
    · simp [mup, h2]
    · simp [mup, h3]
    · rw [hvk]
      exact hua (t.2 k + x)
    · rw [mup_ne _ _ (by omega), mup_ne _ _ (by omega)]
  · obtain ⟨j, hj, rfl⟩ := c3 rfl
    have hj32 : vp_in (nI j) 40 := vp_in_nI hj (by omega)
    have hjc : (nI j).toNatClampNeg = j := nI_c (by omega)
    refine rw_stk (st' := [.int (nI 4)]) rfl ?_
    refine rw_tabIn (off := 110) (tgt := 154) d_Copy_perform_44 (by decide) (by decide) (by decide) (by decide) ?_
    refine rw_iload_n d_Copy_perform_154 rfl ?_
    refine rw_iload_n d_Copy_perform_155 rfl ?_
    refine rw_icmp_eq (tgt := 207) d_Copy_perform_156 (by decide) (fun q => ?_) (fun q => ?_)
    · refine rw_iload d_Copy_perform_207 rfl ?_
      have e1 : tS (4, k, nI j) t = t := by simp [tS, q]
      refine rw_iret d_Copy_perform_209 rfl ⟨rfl, rfl, ⟨h, v, ⟨h0, h1, h2, h3⟩, ?_, ?_⟩, fun _ _ => rfl⟩
      · rw [e1]
        exact hh
      · rw [e1]
        exact hv
    · have hkj : k ≠ j := fun z => q (by rw [z])
      have e1 : tS (4, k, nI j) t = (va_up (va_up t.1 k false) j (t.1 k), va_up (va_up t.2 j (t.2 k)) k 0) := by simp [tS, q, hjc]
      refine rw_aload_n d_Copy_perform_159 rfl (by first | exact mm_ref_r _ | exact mm_ref_n | exact mm_ref_o _) ?_
      refine rw_aload_n d_Copy_perform_160 rfl (by first | exact mm_ref_r _ | exact mm_ref_n | exact mm_ref_o _) ?_
      refine rw_get d_Copy_perform_161 fF_Copy_24 h0 rfl ?_
      refine rw_lload d_Copy_perform_164 rfl ?_
      refine rw_ldc2 d_Copy_perform_166 kC_Copy_57 ?_
      refine rw_lxor d_Copy_perform_169 ?_
      refine rw_land d_Copy_perform_170 ?_
      refine rw_lconst (v := 1) d_Copy_perform_171 (by decide) ?_
      refine rw_iload_n d_Copy_perform_172 rfl ?_
      refine rw_lshl d_Copy_perform_173 rfl ?_
      refine rw_ldc2 d_Copy_perform_174 kC_Copy_57 ?_
      refine rw_lxor d_Copy_perform_177 ?_
      refine rw_land d_Copy_perform_178 ?_
      refine rw_iload d_Copy_perform_179 rfl ?_
      refine rw_i2l d_Copy_perform_181 rfl ?_
      refine rw_iload_n d_Copy_perform_182 rfl ?_
      refine rw_lshl d_Copy_perform_183 rfl ?_
      refine rw_lor d_Copy_perform_184 ?_
      refine rw_put d_Copy_perform_185 (fP_Copy_24 _) h0 (Nat.le_of_ble_eq_true rfl) (by first | rfl | assumption | decide) (by first | rfl | decide) ?_
      refine rw_aload_n d_Copy_perform_188 rfl (by first | exact mm_ref_r _ | exact mm_ref_n | exact mm_ref_o _) ?_
      refine rw_get d_Copy_perform_189 fF_Copy_9 (mup_self _ _ _) rfl ?_
      refine rw_iload_n d_Copy_perform_192 rfl ?_
      refine rw_aload_n d_Copy_perform_193 rfl (by first | exact mm_ref_r _ | exact mm_ref_n | exact mm_ref_o _) ?_
      refine rw_get d_Copy_perform_194 fF_Copy_9 (mup_self _ _ _) rfl ?_
      refine rw_iload_n d_Copy_perform_197 rfl ?_
      refine rw_iald d_Copy_perform_198 (mup_get (by omega) h1) hk32 ?_
      refine rw_iast d_Copy_perform_199 (mup_get (by omega) h1) hj32 ?_
      refine rw_aload_n d_Copy_perform_200 rfl (by first | exact mm_ref_r _ | exact mm_ref_n | exact mm_ref_o _) ?_
      refine rw_get d_Copy_perform_201 fF_Copy_9 (mup_get (by omega) (mup_self _ _ _)) rfl ?_
      refine rw_iload_n d_Copy_perform_204 rfl ?_
      refine rw_iconst (v := 0) d_Copy_perform_205 (by decide) ?_
      refine rw_iast d_Copy_perform_206 (mup_self _ _ _) hk32 ?_
      refine rw_iload d_Copy_perform_207 rfl ?_
      rw [hkc, hjc]
      have hb : (bI (t.1 k)).toInt64 <<< ((nI j).toInt64 &&& 63) = if t.1 k then bt j else 0 := by
        cases t.1 k
        · exact b0_bit j hj
        · exact b1_bit j hj
      refine rw_iret d_Copy_perform_209 rfl ⟨rfl, rfl, ⟨h &&& (bt k ^^^ (-1)) &&& (bt j ^^^ (-1)) ||| (bI (t.1 k)).toInt64 <<< ((nI j).toInt64 &&& 63), upd (upd v j (v k)) k 0, ⟨?_, ?_, ?_, ?_⟩, ?_, ?_⟩, fun q hq => ?_⟩
      · simp [mup]
        rfl
      · simp [mup]
      · simp [mup, h2]
      · simp [mup, h3]
      · rw [e1]
        exact hOk_move c2 hj hh (t.1 k) _ hb
      · rw [e1]
        intro z hz
        by_cases q1 : z = k
        · simp [upd, va_up, q1]
        · by_cases q2 : z = j
          · simp [upd, va_up, q2, hv k c2]
          · simp [upd, va_up, q1, q2, hv z hz]
      · rw [mup_ne _ _ (by omega), mup_ne _ _ (by omega), mup_ne _ _ (by omega)]
theorem c_perform {a d b w i : Nat} {c : pCm} {t : pT} {h : Int64} {v an : Nat → Int32} {lg : Nat → Option Nat} (hC : CpR M a d b h v an lg) (hw : M w = some (cmO i c)) (hc : cOk c) (hh : hOk h t.1) (hv : ∀ k, k < 40 → v k = t.2 k) :
    CT l G Y_Copy_perform ds_Copy_perform (rm 1) [.ref a, .ref w] M sz (PfQ M sz a d b an lg c t) := by
  obtain ⟨h0, h1, h2, h3⟩ := hC
  obtain ⟨kd, k, x⟩ := c
  obtain ⟨c1, c2, c3⟩ := hc
  simp only at c1 c2 c3
  refine CT.of (by decide) (Nat.le_of_ble_eq_true rfl) ?_
  refine rw_aload_n d_Copy_perform_0 rfl (by first | exact mm_ref_r _ | exact mm_ref_n | exact mm_ref_o _) ?_
  refine rw_ifnonnull_t (tgt := 6) d_Copy_perform_1 (by decide) ?_
  refine rw_aload_n d_Copy_perform_6 rfl (by first | exact mm_ref_r _ | exact mm_ref_n | exact mm_ref_o _) ?_
  refine rw_get d_Copy_perform_7 fF_Copy_48 hw rfl ?_
  refine rw_istore_n d_Copy_perform_10 (by decide) rfl ?_
  refine rw_aload_n d_Copy_perform_11 rfl (by first | exact mm_ref_r _ | exact mm_ref_n | exact mm_ref_o _) ?_
  refine rw_get d_Copy_perform_12 fF_Copy_51 hw rfl ?_
  refine rw_istore_n d_Copy_perform_15 (by decide) rfl ?_
  refine rw_lconst (v := 1) d_Copy_perform_16 (by decide) ?_
  refine rw_iload_n d_Copy_perform_17 rfl ?_
  refine rw_lshl d_Copy_perform_18 rfl ?_
  refine rw_stk (st' := [.long (bt k)]) rfl ?_
  refine rw_lstore d_Copy_perform_19 (by decide) rfl ?_
  refine rw_aload_n d_Copy_perform_21 rfl (by first | exact mm_ref_r _ | exact mm_ref_n | exact mm_ref_o _) ?_
  refine rw_get d_Copy_perform_22 fF_Copy_24 h0 rfl ?_
  refine rw_lload d_Copy_perform_25 rfl ?_
  refine rw_land d_Copy_perform_27 ?_
  refine rw_lconst (v := 0) d_Copy_perform_28 (by decide) ?_
  refine rw_lcmp d_Copy_perform_29 ?_
  have had : bI (t.1 k) = if h &&& bt k = 0 then 0 else 1 := by
    rw [← hh k c2]
    by_cases q : h &&& bt k = 0
    · rw [if_pos q, (hOk_and c2).mp q]
      rfl
    · rw [if_neg q]
      have := fun z => q ((hOk_and c2).mpr z)
      rw [show h.toBitVec.getLsbD k = true by simpa using this]
      rfl
  refine rw_lv (lv' := [(0, .ref a), (1, .ref w), (2, .int (nI k)), (3, .int x), (4, .long (bt k))]) (by intro q hq; simp at hq; rcases hq with rfl | rfl | rfl | rfl | rfl <;> rfl) ?_
  refine rw_if_eq (tgt := 37) d_Copy_perform_30 (by decide) (fun q => ?_) (fun q => ?_)
  · refine rw_iconst (v := 0) d_Copy_perform_37 (by decide) ?_
    rw [lg_cmp_eq] at q
    refine rw_stk (st' := [.int (bI (t.1 k))]) (by rw [had, if_pos q]) ?_
    exact perf_tail h0 h1 h2 h3 hw c1 c2 c3 hh hv
  · refine rw_iconst (v := 1) d_Copy_perform_33 (by decide) ?_
    refine rw_goto (tgt := 38) d_Copy_perform_34 (by decide) ?_
    rw [lg_cmp_eq] at q
    refine rw_stk (st' := [.int (bI (t.1 k))]) (by rw [had, if_neg q]) ?_
    exact perf_tail h0 h1 h2 h3 hw c1 c2 c3 hh hv
end PERF
end
section
/-! Copies by their numbers: done d, end b. Loops: doUpTo, copyFrom, empty, follow. -/
theorem nI_min {a b : Nat} (ha : a < 2147483648) (hb : b < 2147483648) : (if nI a ≤ nI b then nI a else nI b) = nI (min a b) := by
  by_cases q : a ≤ b
  · rw [if_pos ((nI_leI ha hb).mpr q), Nat.min_eq_left q]
  · rw [if_neg (fun z => q ((nI_leI ha hb).mp z)), Nat.min_eq_right (by omega)]
/-- the commands given so far stand in memory -/
def CmA (M : mm_M) (ca : Nat → Nat) (cm : Nat → pCm) (g : Nat) : Prop := ∀ i, i < g → cOk (cm i) ∧ M (ca i) = some (cmO i (cm i))
/-- nothing changed but n cells from a on -/
def Fr (M M' : mm_M) (a n : Nat) : Prop := ∀ q, q < a ∨ a + n ≤ q → M' q = M q
theorem Fr.rf {M : mm_M} {a n : Nat} : Fr M M a n := fun _ _ => rfl
theorem Fr.trans {M M' M2 : mm_M} {a n : Nat} (h : Fr M M' a n) (k : Fr M' M2 a n) : Fr M M2 a n := fun q hq => (k q hq).trans (h q hq)
theorem Fr.mup {M M' : mm_M} {a n x : Nat} {e : va_E} (h : Fr M M' a n) (h1 : a ≤ x) (h2 : x < a + n) : Fr M (mup M' x e) a n := fun q hq => by
  rw [mup_ne _ _ (by omega)]
  exact h q hq
/-- a copy: f = 0 any cells, 1 its log is right, 2 its table and answers too -/
def CpP (f : Nat) (M : mm_M) (ca : Nat → Nat) (cm : Nat → pCm) (g a d b : Nat) : Prop := ∃ h v an lg, CpR M a d b h v an lg ∧ d ≤ 512 ∧ b ≤ 512 ∧ (∀ j, j < 8 → lg j = none ∨ ∃ i, i < g ∧ lg j = some (ca i)) ∧
  (1 ≤ f → d ≤ b ∧ b ≤ d + 8 ∧ b ≤ g ∧ ∀ i, i < b → b ≤ i + 8 → lg (i % 8) = some (ca i)) ∧
  (2 ≤ f → hOk h (tab cm d).1 ∧ (∀ k, k < 40 → v k = (tab cm d).2 k) ∧ ∀ i, i < d → d ≤ i + 8 → an (i % 8) = tAns cm i)
theorem CpP.kept {f : Nat} {M M' : mm_M} {ca : Nat → Nat} {cm : Nat → pCm} {g a d b : Nat} (h : CpP f M ca cm g a d b) (hq : ∀ q, a ≤ q → q < a + 4 → M' q = M q) : CpP f M' ca cm g a d b := by
  obtain ⟨hh, v, an, lg, ⟨r0, r1, r2, r3⟩, hr⟩ := h
  exact ⟨hh, v, an, lg, ⟨by rw [hq a (by omega) (by omega)]; exact r0, by rw [hq _ (by omega) (by omega)]; exact r1, by rw [hq _ (by omega) (by omega)]; exact r2, by rw [hq _ (by omega) (by omega)]; exact r3⟩, hr⟩
theorem CpP.le {f f' : Nat} {M : mm_M} {ca : Nat → Nat} {cm : Nat → pCm} {g a d b : Nat} (h : CpP f M ca cm g a d b) (hf : f' ≤ f) : CpP f' M ca cm g a d b := by
  obtain ⟨hh, v, an, lg, hr, h1, h2, h3, h4, h5⟩ := h
  exact ⟨hh, v, an, lg, hr, h1, h2, h3, fun q => h4 (by omega), fun q => h5 (by omega)⟩
theorem CmA.apart {M : mm_M} {ca : Nat → Nat} {cm : Nat → pCm} {g a d b i : Nat} {h : Int64} {v an : Nat → Int32} {lg : Nat → Option Nat} (hA : CmA M ca cm g) (hC : CpR M a d b h v an lg) (hi : i < g) : ca i < a ∨ a + 4 ≤ ca i := by
  have e := (hA i hi).2
  obtain ⟨r0, r1, r2, r3⟩ := hC
  rcases Nat.lt_or_ge (ca i) a with q | q
  · exact Or.inl q
  · right
    rcases Nat.lt_or_ge (ca i) (a + 4) with q2 | q2
    · exfalso
      rcases (show ca i = a ∨ ca i = a + 1 ∨ ca i = a + 2 ∨ ca i = a + 3 by omega) with z | z | z | z
      · rw [z, r0] at e
        cases e
      · rw [z, r1] at e
        cases e
      · rw [z, r2] at e
        cases e
      · rw [z, r3] at e
        cases e
    · exact q2
theorem CmA.kept {M M' : mm_M} {ca : Nat → Nat} {cm : Nat → pCm} {g : Nat} (hA : CmA M ca cm g) (hq : ∀ i, i < g → M' (ca i) = M (ca i)) : CmA M' ca cm g := fun i hi => ⟨(hA i hi).1, by rw [hq i hi]; exact (hA i hi).2⟩
theorem CmA.fr {f : Nat} {M M' : mm_M} {ca : Nat → Nat} {cm : Nat → pCm} {g a d b : Nat} (hA : CmA M ca cm g) (hC : CpP f M ca cm g a d b) (hF : Fr M M' a 4) : CmA M' ca cm g := by
  obtain ⟨h, v, an, lg, hr, -⟩ := hC
  exact hA.kept (fun i hi => hF _ (hA.apart hr hi))
section COPYP
variable {l : Launch} {G : mm_G} {sz : Nat} {ca : Nat → Nat} {cm : Nat → pCm} {g : Nat}
def DuQ (M : mm_M) (sz : Nat) (ca : Nat → Nat) (cm : Nat → pCm) (g a d b lim : Nat) : Option Value → mm_M → Nat → Prop := fun r M' sz' => r = some (.int (bI (decide (d < min lim b)))) ∧ sz' = sz ∧ CpP 2 M' ca cm g a (max d (min lim b)) b ∧ Fr M M' a 4
theorem doUpTo_loop {M : mm_M} {a d b lim : Nat} (hA : CmA M ca cm g) (h0 : CpP 2 M ca cm g a d b) : ∀ (n k : Nat) (M1 : mm_M), n + k = max d (min lim b) → d ≤ k → CpP 2 M1 ca cm g a k b → Fr M M1 a 4 →
    RW l G Y_Copy_doUpTo (rm 2) (mm_Z G (rm 2) (DuQ M sz ca cm g a d b lim)) 0 0 14 [(0, .ref a), (2, .int (nI d)), (3, .int (nI (min lim b)))] [] M1 sz := by
  intro n
  induction n with
  | zero =>
    intro k M1 hn hk hC hF
    obtain ⟨h, v, an, lg, hr, b1, b2, -⟩ := id hC
    obtain ⟨r0, r1, r2, r3⟩ := hr
    have hml : min lim b ≤ b := Nat.min_le_right _ _
    refine rw_aload_n d_Copy_doUpTo_14 rfl (by first | exact mm_ref_r _ | exact mm_ref_n | exact mm_ref_o _) ?_
    refine rw_get d_Copy_doUpTo_15 fF_Copy_28 r0 rfl ?_
    refine rw_iload_n d_Copy_doUpTo_18 rfl ?_
    refine rw_icmp_ge_t (tgt := 63) d_Copy_doUpTo_19 (by decide) (nI_le (by omega) (by omega)) ?_
    refine rw_aload_n d_Copy_doUpTo_63 rfl (by first | exact mm_ref_r _ | exact mm_ref_n | exact mm_ref_o _) ?_
    refine rw_get d_Copy_doUpTo_64 fF_Copy_28 r0 rfl ?_
    refine rw_iload_n d_Copy_doUpTo_67 rfl ?_
    refine rw_icmp_le (tgt := 75) d_Copy_doUpTo_68 (by decide) (fun q => ?_) (fun q => ?_)
    · refine rw_iconst (v := 0) d_Copy_doUpTo_75 (by decide) ?_
      rw [nI_leI (by omega) (by omega)] at q
      refine rw_zret d_Copy_doUpTo_76 rfl rfl ⟨?_, rfl, ?_, hF⟩
      · rw [decide_eq_false (by omega)]
        rfl
      · rw [← hn, Nat.zero_add]
        exact hC
    · refine rw_iconst (v := 1) d_Copy_doUpTo_71 (by decide) ?_
      refine rw_goto (tgt := 76) d_Copy_doUpTo_72 (by decide) ?_
      rw [nI_leI (by omega) (by omega)] at q
      refine rw_zret d_Copy_doUpTo_76 rfl rfl ⟨?_, rfl, ?_, hF⟩
      · rw [decide_eq_true (by omega)]
        rfl
      · rw [← hn, Nat.zero_add]
        exact hC
  | succ n ih =>
    intro k M1 hn hk hC hF
    obtain ⟨h, v, an, lg, hr, b1, b2, b3, b4, b5⟩ := id hC
    obtain ⟨c1, c2, c3, c4⟩ := b4 (by omega)
    obtain ⟨t1, t2, t3⟩ := b5 (by omega)
    obtain ⟨r0, r1, r2, r3⟩ := id hr
    have hml : min lim b ≤ b := Nat.min_le_right _ _
    have hkb : k < b := by omega
    have hA1 : CmA M1 ca cm g := hA.fr h0 hF
    have hlk : lg (k % 8) = some (ca k) := c4 k hkb (by omega)
    refine rw_aload_n d_Copy_doUpTo_14 rfl (by first | exact mm_ref_r _ | exact mm_ref_n | exact mm_ref_o _) ?_
    refine rw_get d_Copy_doUpTo_15 fF_Copy_28 r0 rfl ?_
    refine rw_iload_n d_Copy_doUpTo_18 rfl ?_
    refine rw_icmp_ge_f (tgt := 63) d_Copy_doUpTo_19 (by decide) (nI_ge (by omega) (by omega)) ?_
    refine rw_aload_n d_Copy_doUpTo_22 rfl (by first | exact mm_ref_r _ | exact mm_ref_n | exact mm_ref_o _) ?_
    refine rw_get d_Copy_doUpTo_23 fF_Copy_15 r0 rfl ?_
    refine rw_aload_n d_Copy_doUpTo_26 rfl (by first | exact mm_ref_r _ | exact mm_ref_n | exact mm_ref_o _) ?_
    refine rw_get d_Copy_doUpTo_27 fF_Copy_28 r0 rfl ?_
    refine rw_bipush (v := 8) d_Copy_doUpTo_30 (by decide) ?_
    refine rw_irem d_Copy_doUpTo_32 (by decide) ?_
    rw [nI_rem8 (by omega)]
    refine rw_aload_n d_Copy_doUpTo_33 rfl (by first | exact mm_ref_r _ | exact mm_ref_n | exact mm_ref_o _) ?_
    refine rw_aload_n d_Copy_doUpTo_34 rfl (by first | exact mm_ref_r _ | exact mm_ref_n | exact mm_ref_o _) ?_
    refine rw_get d_Copy_doUpTo_35 fF_Copy_20 r0 rfl ?_
    refine rw_aload_n d_Copy_doUpTo_38 rfl (by first | exact mm_ref_r _ | exact mm_ref_n | exact mm_ref_o _) ?_
    refine rw_get d_Copy_doUpTo_39 fF_Copy_28 r0 rfl ?_
    refine rw_bipush (v := 8) d_Copy_doUpTo_42 (by decide) ?_
    refine rw_irem d_Copy_doUpTo_44 (by decide) ?_
    rw [nI_rem8 (by omega)]
    refine rw_aald d_Copy_doUpTo_45 r3 (by decide) rfl (vp_in8 k) ?_
    rw [nI_c8, hlk]
    refine rw_stk (st' := [.ref (ca k), .ref a, .int (nI (k % 8)), .ref (a + 2)]) rfl ?_
    refine rw_callV (kc := 0) (ks := 0) (rest := [.int (nI (k % 8)), .ref (a + 2)]) d_Copy_doUpTo_46 (c_perform hr (hA1 k (by omega)).2 (hA1 k (by omega)).1 t1 t2) mW_Copy_perform mL_Copy_44 mI_Copy_perform mE_Copy_perform ⟨by decide, by decide⟩ r0 rfl rfl rfl rfl (Nat.le_of_ble_eq_true rfl) (fun r M1 sz1 hq => ?_)
    obtain ⟨rfl, rfl, ⟨h', v', ⟨s0, s1, s2, s3⟩, s4, s5⟩, s6⟩ := hq
    refine rw_stk (st' := [.int (tA (cm k) (tab cm k)), .int (nI (k % 8)), .ref (a + 2)]) rfl ?_
    refine rw_iast d_Copy_doUpTo_49 s2 (vp_in8 k) ?_
    rw [nI_c8]
    refine rw_aload_n d_Copy_doUpTo_50 rfl (by first | exact mm_ref_r _ | exact mm_ref_n | exact mm_ref_o _) ?_
    refine rw_dup d_Copy_doUpTo_51 rfl ?_
    refine rw_get d_Copy_doUpTo_52 fF_Copy_28 (mup_get (by omega) s0) rfl ?_
    refine rw_iconst (v := 1) d_Copy_doUpTo_55 (by decide) ?_
    refine rw_iadd d_Copy_doUpTo_56 ?_
    refine rw_put d_Copy_doUpTo_57 (fP_Copy_28 _) (mup_get (by omega) s0) (Nat.le_of_ble_eq_true rfl) (by first | rfl | assumption | decide) (by first | rfl | decide) ?_
    refine rw_goto (tgt := 14) d_Copy_doUpTo_60 (by decide) ?_
    refine ih (k + 1) _ (by omega) (by omega) ⟨h', v', upd an (k % 8) (tA (cm k) (tab cm k)), lg, ⟨?_, ?_, ?_, ?_⟩, by omega, b2, b3, fun _ => ⟨by omega, by omega, c3, c4⟩, fun _ => ⟨s4, s5, ?_⟩⟩ ?_
    · rw [mup_self]
      show some (Sum.inr (1, [Value.int (nI k + 1), _, _, _, _, _])) = _
      rw [nI_1]
    · simp [mup, s1]
    · simp [mup]
    · simp [mup, s3]
    · intro i hi hi2
      by_cases q : i = k
      · subst q
        simp [upd, tAns]
      · have : i % 8 ≠ k % 8 := by omega
        simp only [upd, if_neg this]
        exact t3 i (by omega) (by omega)
    · exact Fr.mup (Fr.mup (fun q hq => (s6 q hq).trans (hF q hq)) (by omega) (by omega)) (by omega) (by omega)
theorem c_doUpTo {M : mm_M} {a d b lim : Nat} (hA : CmA M ca cm g) (hC : CpP 2 M ca cm g a d b) (hl : lim < 1000000) : CT l G Y_Copy_doUpTo ds_Copy_doUpTo (rm 2) [.ref a, .int (nI lim)] M sz (DuQ M sz ca cm g a d b lim) := by
  obtain ⟨h, v, an, lg, hr, b1, b2, b3, b4, b5⟩ := id hC
  obtain ⟨r0, r1, r2, r3⟩ := id hr
  refine CT.of (by decide) (Nat.le_of_ble_eq_true rfl) ?_
  refine rw_aload_n d_Copy_doUpTo_0 rfl (by first | exact mm_ref_r _ | exact mm_ref_n | exact mm_ref_o _) ?_
  refine rw_get d_Copy_doUpTo_1 fF_Copy_28 r0 rfl ?_
  refine rw_istore_n d_Copy_doUpTo_4 (by decide) rfl ?_
  refine rw_iload_n d_Copy_doUpTo_5 rfl ?_
  refine rw_aload_n d_Copy_doUpTo_6 rfl (by first | exact mm_ref_r _ | exact mm_ref_n | exact mm_ref_o _) ?_
  refine rw_get d_Copy_doUpTo_7 fF_Copy_35 r0 rfl ?_
  refine rw_callS (kc := 0) (ks := 0) (rest := []) d_Copy_doUpTo_10 (c_min (x := nI lim) (y := nI b)) mW_Math_min mL_Copy_38 mS_Math_min ⟨by decide, by decide⟩ rfl rfl (Nat.le_of_ble_eq_true rfl) (fun r M1 sz1 hq => ?_)
  obtain ⟨rfl, rfl, rfl⟩ := hq
  rw [nI_min (by omega) (by omega)]
  refine rw_stk (st' := [.int (nI (min lim b))]) rfl ?_
  refine rw_istore_n d_Copy_doUpTo_13 (by decide) rfl ?_
  refine rw_lv (lv' := [(0, .ref a), (2, .int (nI d)), (3, .int (nI (min lim b)))]) (by intro q hq; simp at hq; rcases hq with rfl | rfl | rfl <;> rfl) ?_
  exact doUpTo_loop hA hC (max d (min lim b) - d) d _ (by omega) (by omega) hC Fr.rf
end COPYP
end
section
/-! Copy: copyFrom, empty, append by numbers, follow. -/
theorem bI_or (a b : Bool) : bI a ||| bI b = bI (a || b) := by cases a <;> cases b <;> rfl
theorem nI_ok (n : Nat) (h : n < 1000000) : n < 2147483648 := by omega
section COPYQ
variable {l : Launch} {G : mm_G} {sz : Nat} {ca : Nat → Nat} {cm : Nat → pCm} {g : Nat}
def CfQ (M : mm_M) (sz : Nat) (ca : Nat → Nat) (cm : Nat → pCm) (g a d b f : Nat) (w : Bool) : Option Value → mm_M → Nat → Prop := fun r M' sz' => r = none ∧ sz' = sz ∧ CpP (if w then f else min f 1) M' ca cm g a d b ∧ Fr M M' a 4
theorem copyFrom_loop {M : mm_M} {a o d b f : Nat} {w : Bool} {ho : Int64} {vo ano : Nat → Int32} {lgo : Nat → Option Nat} (hA : CmA M ca cm g) (hO : CpR M o d b ho vo ano lgo) (hao : o + 4 ≤ a ∨ a + 4 ≤ o) (b1 : d ≤ 512) (b2 : b ≤ 512) (b3 : ∀ j, j < 8 → lgo j = none ∨ ∃ i, i < g ∧ lgo j = some (ca i))
    (b4 : 1 ≤ f → d ≤ b ∧ b ≤ d + 8 ∧ b ≤ g ∧ ∀ i, i < b → b ≤ i + 8 → lgo (i % 8) = some (ca i)) (b5 : 2 ≤ f → hOk ho (tab cm d).1 ∧ (∀ k, k < 40 → vo k = (tab cm d).2 k) ∧ ∀ i, i < d → d ≤ i + 8 → ano (i % 8) = tAns cm i) (hap : ∀ i, i < g → ca i < a ∨ a + 4 ≤ ca i) :
    ∀ (n i : Nat) (M1 : mm_M) (h : Int64) (v an : Nat → Int32) (lg : Nat → Option Nat), n + i = 8 → CpR M1 a d b h v an lg → (∀ j, j < i → lg j = lgo j) → Fr M M1 a 4 →
    RW l G Y_Copy_copyFrom (rm 1) (mm_Z G (rm 1) (CfQ M sz ca cm g a d b f w)) 0 0 18 [(0, .ref a), (1, .ref o), (2, .int (bI w)), (3, .int (nI i))] [] M1 sz := by
  intro n
  induction n with
  | zero =>
    intro i M1 h v an lg hn hC hlg hF
    obtain ⟨r0, r1, r2, r3⟩ := id hC
    have o0 := (hF o (by omega)).trans hO.1
    have o1 := (hF (o + 1) (by omega)).trans hO.2.1
    have o2 := (hF (o + 2) (by omega)).trans hO.2.2.1
    have hi : i = 8 := by omega
    subst hi
    have wf : ∀ j, j < 8 → lg j = none ∨ ∃ i, i < g ∧ lg j = some (ca i) := fun j hj => by rw [hlg j hj]; exact b3 j hj
    have lk : ∀ k, lg (k % 8) = lgo (k % 8) := fun k => hlg _ (Nat.mod_lt _ (by omega))
    refine rw_iload_n d_Copy_copyFrom_18 rfl ?_
    refine rw_bipush (v := 8) d_Copy_copyFrom_19 (by decide) ?_
    refine rw_icmp_ge_t (tgt := 42) d_Copy_copyFrom_21 (by decide) (by decide) ?_
    refine rw_iload_n d_Copy_copyFrom_42 rfl ?_
    cases w with
    | false =>
      refine rw_if_eq_t (tgt := 84) d_Copy_copyFrom_43 (by decide) (rfl) ?_
      refine rw_vret d_Copy_copyFrom_84 rfl ⟨rfl, rfl, ⟨h, v, an, lg, hC, b1, b2, wf, fun q => ?_, fun q => ?_⟩, hF⟩
      · obtain ⟨z1, z2, z3, z4⟩ := b4 (by simp at q; omega)
        exact ⟨z1, z2, z3, fun k h1 h2 => by rw [lk]; exact z4 k h1 h2⟩
      · simp at q
        omega
    | true =>
      refine rw_if_eq_f (tgt := 84) d_Copy_copyFrom_43 (by decide) (by decide) ?_
      refine rw_aload_n d_Copy_copyFrom_46 rfl (by first | exact mm_ref_r _ | exact mm_ref_n | exact mm_ref_o _) ?_
      refine rw_aload_n d_Copy_copyFrom_47 rfl (by first | exact mm_ref_r _ | exact mm_ref_n | exact mm_ref_o _) ?_
      refine rw_get d_Copy_copyFrom_48 fF_Copy_24 o0 rfl ?_
      refine rw_put d_Copy_copyFrom_51 (fP_Copy_24 _) r0 (Nat.le_of_ble_eq_true rfl) (by first | rfl | assumption | decide) (by first | rfl | decide) ?_
      refine rw_aload_n d_Copy_copyFrom_54 rfl (by first | exact mm_ref_r _ | exact mm_ref_n | exact mm_ref_o _) ?_
      refine rw_get d_Copy_copyFrom_55 fF_Copy_9 (mup_get (by omega) o0) rfl ?_
      refine rw_iconst (v := 0) d_Copy_copyFrom_58 (by decide) ?_
      refine rw_aload_n d_Copy_copyFrom_59 rfl (by first | exact mm_ref_r _ | exact mm_ref_n | exact mm_ref_o _) ?_
      refine rw_get d_Copy_copyFrom_60 fF_Copy_9 (mup_self _ _ _) rfl ?_
      refine rw_iconst (v := 0) d_Copy_copyFrom_63 (by decide) ?_
      refine rw_bipush (v := 40) d_Copy_copyFrom_64 (by decide) ?_
      refine rw_acopy d_Copy_copyFrom_66 mL_Copy_74 (mup_get (by omega) o1) (mup_get (by omega) r1) (by decide) (by decide) (by decide) (by decide) (by decide) (by decide) (Nat.le_of_ble_eq_true rfl) ?_
      refine rw_aload_n d_Copy_copyFrom_69 rfl (by first | exact mm_ref_r _ | exact mm_ref_n | exact mm_ref_o _) ?_
      refine rw_get d_Copy_copyFrom_70 fF_Copy_15 (mup_get (by omega) (mup_get (by omega) o0)) rfl ?_
      refine rw_iconst (v := 0) d_Copy_copyFrom_73 (by decide) ?_
      refine rw_aload_n d_Copy_copyFrom_74 rfl (by first | exact mm_ref_r _ | exact mm_ref_n | exact mm_ref_o _) ?_
      refine rw_get d_Copy_copyFrom_75 fF_Copy_15 (mup_get (by omega) (mup_self _ _ _)) rfl ?_
      refine rw_iconst (v := 0) d_Copy_copyFrom_78 (by decide) ?_
      refine rw_bipush (v := 8) d_Copy_copyFrom_79 (by decide) ?_
      refine rw_acopy d_Copy_copyFrom_81 mL_Copy_74 (mup_get (by omega) (mup_get (by omega) o2)) (mup_get (by omega) (mup_get (by omega) r2)) (by decide) (by decide) (by decide) (by decide) (by decide) (by decide) (Nat.le_of_ble_eq_true rfl) ?_
      refine rw_vret d_Copy_copyFrom_84 rfl ⟨rfl, rfl, ⟨ho, va_cpy vo v 0 0 40, va_cpy ano an 0 0 8, lg, ⟨?_, ?_, ?_, ?_⟩, b1, b2, wf, fun q => ?_, fun q => ?_⟩, ?_⟩
      · simp [mup]
      · simp [mup]
      · simp [mup]
      · simp [mup, r3]
      · obtain ⟨z1, z2, z3, z4⟩ := b4 (by simpa using q)
        exact ⟨z1, z2, z3, fun k h1 h2 => by rw [lk]; exact z4 k h1 h2⟩
      · obtain ⟨z1, z2, z3⟩ := b5 (by simpa using q)
        refine ⟨z1, fun k hk => ?_, fun k h1 h2 => ?_⟩
        · rw [← z2 k hk]
          simp [va_cpy, hk]
        · rw [← z3 k h1 h2]
          simp [va_cpy, Nat.mod_lt]
      · exact Fr.mup (Fr.mup (Fr.mup hF (by omega) (by omega)) (by omega) (by omega)) (by omega) (by omega)
  | succ n ih =>
    intro i M1 h v an lg hn hC hlg hF
    obtain ⟨r0, r1, r2, r3⟩ := id hC
    have o0 := (hF o (by omega)).trans hO.1
    have o3 := (hF (o + 3) (by omega)).trans hO.2.2.2
    have hin : vp_in (nI i) 8 := vp_in_nI (by omega) (by omega)
    have hic : (nI i).toNatClampNeg = i := nI_c (by omega)
    refine rw_iload_n d_Copy_copyFrom_18 rfl ?_
    refine rw_bipush (v := 8) d_Copy_copyFrom_19 (by decide) ?_
    refine rw_icmp_ge_f (tgt := 42) d_Copy_copyFrom_21 (by decide) (nI_ge (a := i) (b := 8) (by omega) (by omega)) ?_
    refine rw_aload_n d_Copy_copyFrom_24 rfl (by first | exact mm_ref_r _ | exact mm_ref_n | exact mm_ref_o _) ?_
    refine rw_get d_Copy_copyFrom_25 fF_Copy_20 r0 rfl ?_
    refine rw_iload_n d_Copy_copyFrom_28 rfl ?_
    refine rw_aload_n d_Copy_copyFrom_29 rfl (by first | exact mm_ref_r _ | exact mm_ref_n | exact mm_ref_o _) ?_
    refine rw_get d_Copy_copyFrom_30 fF_Copy_20 o0 rfl ?_
    refine rw_iload_n d_Copy_copyFrom_33 rfl ?_
    refine rw_aald d_Copy_copyFrom_34 o3 (by decide) rfl hin ?_
    rw [hic]
    have step : ∀ x : Option Nat, lgo i = x → RW l G Y_Copy_copyFrom (rm 1) (mm_Z G (rm 1) (CfQ M sz ca cm g a d b f w)) 0 0 36 [(0, .ref a), (1, .ref o), (2, .int (bI w)), (3, .int (nI i))] [] (mup M1 (a + 3) (aR 3 8 (va_up lg i x))) sz := by
      intro x hx
      refine rw_iinc d_Copy_copyFrom_36 (by decide) rfl rfl rfl ?_
      refine rw_lv (lv' := [(0, .ref a), (1, .ref o), (2, .int (bI w)), (3, .int (nI (i + 1)))]) (by rw [← nI_1]; intro q hq; simp at hq; rcases hq with rfl | rfl | rfl | rfl <;> rfl) ?_
      refine rw_goto (tgt := 18) d_Copy_copyFrom_39 (by decide) ?_
      refine ih (i + 1) _ h v an (va_up lg i x) (by omega) ⟨?_, ?_, ?_, ?_⟩ (fun j hj => ?_) (Fr.mup hF (by omega) (by omega))
      · simp [mup, r0]
      · simp [mup, r1]
      · simp [mup, r2]
      · simp [mup]
      · by_cases q : j = i
        · subst q
          rw [va_up_self, hx]
        · rw [va_up_ne _ _ q]
          exact hlg j (by omega)
    rcases b3 i (by omega) with z | ⟨k, hk, z⟩
    · rw [z]
      refine rw_aastN d_Copy_copyFrom_35 r3 (by decide) rfl hin ?_
      rw [hic]
      exact step none z
    · rw [z]
      refine rw_aast (v := ca k) d_Copy_copyFrom_35 r3 (by decide) ((hF _ (hap k hk)).trans (hA k hk).2) rfl rfl hin ?_
      rw [hic]
      exact step (some (ca k)) z
theorem c_copyFrom {M : mm_M} {a o d b f d0 b0 : Nat} {w : Bool} (hA : CmA M ca cm g) (hS : CpP 0 M ca cm g a d0 b0) (hO : CpP f M ca cm g o d b) (hao : o + 4 ≤ a ∨ a + 4 ≤ o) : CT l G Y_Copy_copyFrom ds_Copy_copyFrom (rm 1) [.ref a, .ref o, .int (bI w)] M sz (CfQ M sz ca cm g a d b f w) := by
  obtain ⟨ho, vo, ano, lgo, hOr, b1, b2, b3, b4, b5⟩ := hO
  obtain ⟨h, v, an, lg, hSr, c1, c2, c3, -, -⟩ := hS
  obtain ⟨r0, r1, r2, r3⟩ := id hSr
  obtain ⟨o0, o1, o2, o3⟩ := id hOr
  refine CT.of (by decide) (Nat.le_of_ble_eq_true rfl) ?_
  refine rw_aload_n d_Copy_copyFrom_0 rfl (by first | exact mm_ref_r _ | exact mm_ref_n | exact mm_ref_o _) ?_
  refine rw_aload_n d_Copy_copyFrom_1 rfl (by first | exact mm_ref_r _ | exact mm_ref_n | exact mm_ref_o _) ?_
  refine rw_get d_Copy_copyFrom_2 fF_Copy_28 o0 rfl ?_
  refine rw_put d_Copy_copyFrom_5 (fP_Copy_28 _) r0 (Nat.le_of_ble_eq_true rfl) (by first | rfl | assumption | decide) (by first | rfl | decide) ?_
  refine rw_aload_n d_Copy_copyFrom_8 rfl (by first | exact mm_ref_r _ | exact mm_ref_n | exact mm_ref_o _) ?_
  refine rw_aload_n d_Copy_copyFrom_9 rfl (by first | exact mm_ref_r _ | exact mm_ref_n | exact mm_ref_o _) ?_
  refine rw_get d_Copy_copyFrom_10 fF_Copy_35 (mup_get (by omega) o0) rfl ?_
  refine rw_put d_Copy_copyFrom_13 (fP_Copy_35 _) (mup_self _ _ _) (Nat.le_of_ble_eq_true rfl) (by first | rfl | assumption | decide) (by first | rfl | decide) ?_
  refine rw_iconst (v := 0) d_Copy_copyFrom_16 (by decide) ?_
  refine rw_istore_n d_Copy_copyFrom_17 (by decide) rfl ?_
  refine rw_lv (lv' := [(0, .ref a), (1, .ref o), (2, .int (bI w)), (3, .int (nI 0))]) (by intro q hq; simp at hq; rcases hq with rfl | rfl | rfl | rfl <;> rfl) ?_
  refine copyFrom_loop hA hOr hao b1 b2 b3 b4 b5 (fun i hi => hA.apart hSr hi) 8 0 _ h v an lg rfl ⟨?_, ?_, ?_, ?_⟩ (fun j hj => by omega) ?_
  · simp [mup]
  · simp [mup, r1]
  · simp [mup, r2]
  · simp [mup, r3]
  · exact Fr.mup (Fr.mup Fr.rf (by omega) (by omega)) (by omega) (by omega)
def EmQ (M : mm_M) (sz : Nat) (ca : Nat → Nat) (cm : Nat → pCm) (g a : Nat) : Option Value → mm_M → Nat → Prop := fun r M' sz' => r = none ∧ sz' = sz ∧ CpP 2 M' ca cm g a 0 0 ∧ Fr M M' a 4
theorem empty_loop {M : mm_M} {a : Nat} : ∀ (n i : Nat) (M1 : mm_M) (v an : Nat → Int32) (lg : Nat → Option Nat), n + i = 40 → CpR M1 a 0 0 0 v an lg → (∀ j, j < i → v j = 0) → (∀ j, j < 8 → lg j = none ∨ ∃ i, i < g ∧ lg j = some (ca i)) → Fr M M1 a 4 →
    RW l G Y_Copy_empty (rm 1) (mm_Z G (rm 1) (EmQ M sz ca cm g a)) 0 0 17 [(0, .ref a), (1, .int (nI i))] [] M1 sz := by
  intro n
  induction n with
  | zero =>
    intro i M1 v an lg hn hC hv wf hF
    have hi : i = 40 := by omega
    subst hi
    refine rw_iload_n d_Copy_empty_17 rfl ?_
    refine rw_bipush (v := 40) d_Copy_empty_18 (by decide) ?_
    refine rw_icmp_ge_t (tgt := 36) d_Copy_empty_20 (by decide) (by decide) ?_
    exact rw_vret d_Copy_empty_36 rfl ⟨rfl, rfl, ⟨0, v, an, lg, hC, by omega, by omega, wf, fun _ => ⟨by omega, by omega, by omega, fun i hi => by omega⟩, fun _ => ⟨fun k hk => by simp [tab], fun k hk => hv k hk, fun i hi => by omega⟩⟩, hF⟩
  | succ n ih =>
    intro i M1 v an lg hn hC hv wf hF
    obtain ⟨r0, r1, r2, r3⟩ := id hC
    have hin : vp_in (nI i) 40 := vp_in_nI (by omega) (by omega)
    have hic : (nI i).toNatClampNeg = i := nI_c (by omega)
    refine rw_iload_n d_Copy_empty_17 rfl ?_
    refine rw_bipush (v := 40) d_Copy_empty_18 (by decide) ?_
    refine rw_icmp_ge_f (tgt := 36) d_Copy_empty_20 (by decide) (nI_ge (a := i) (b := 40) (by omega) (by omega)) ?_
    refine rw_aload_n d_Copy_empty_23 rfl (by first | exact mm_ref_r _ | exact mm_ref_n | exact mm_ref_o _) ?_
    refine rw_get d_Copy_empty_24 fF_Copy_9 r0 rfl ?_
    refine rw_iload_n d_Copy_empty_27 rfl ?_
    refine rw_iconst (v := 0) d_Copy_empty_28 (by decide) ?_
    refine rw_iast d_Copy_empty_29 r1 hin ?_
    rw [hic]
    refine rw_iinc d_Copy_empty_30 (by decide) rfl rfl rfl ?_
    refine rw_lv (lv' := [(0, .ref a), (1, .int (nI (i + 1)))]) (by rw [← nI_1]; intro q hq; simp at hq; rcases hq with rfl | rfl <;> rfl) ?_
    refine rw_goto (tgt := 17) d_Copy_empty_33 (by decide) ?_
    refine ih (i + 1) _ (upd v i 0) an lg (by omega) ⟨?_, ?_, ?_, ?_⟩ (fun j hj => ?_) wf (Fr.mup hF (by omega) (by omega))
    · simp [mup, r0]
    · simp [mup]
    · simp [mup, r2]
    · simp [mup, r3]
    · by_cases q : j = i
      · simp [upd, q]
      · simp only [upd, if_neg q]
        exact hv j (by omega)
theorem c_empty {M : mm_M} {a d b : Nat} (hC : CpP 0 M ca cm g a d b) : CT l G Y_Copy_empty ds_Copy_empty (rm 1) [.ref a] M sz (EmQ M sz ca cm g a) := by
  obtain ⟨h, v, an, lg, hr, c1, c2, wf, -, -⟩ := hC
  obtain ⟨r0, r1, r2, r3⟩ := id hr
  refine CT.of (by decide) (Nat.le_of_ble_eq_true rfl) ?_
  refine rw_aload_n d_Copy_empty_0 rfl (by first | exact mm_ref_r _ | exact mm_ref_n | exact mm_ref_o _) ?_
  refine rw_iconst (v := 0) d_Copy_empty_1 (by decide) ?_
  refine rw_put d_Copy_empty_2 (fP_Copy_28 _) r0 (Nat.le_of_ble_eq_true rfl) (by first | rfl | assumption | decide) (by first | rfl | decide) ?_
  refine rw_aload_n d_Copy_empty_5 rfl (by first | exact mm_ref_r _ | exact mm_ref_n | exact mm_ref_o _) ?_
  refine rw_iconst (v := 0) d_Copy_empty_6 (by decide) ?_
  refine rw_put d_Copy_empty_7 (fP_Copy_35 _) (mup_self _ _ _) (Nat.le_of_ble_eq_true rfl) (by first | rfl | assumption | decide) (by first | rfl | decide) ?_
  refine rw_aload_n d_Copy_empty_10 rfl (by first | exact mm_ref_r _ | exact mm_ref_n | exact mm_ref_o _) ?_
  refine rw_lconst (v := 0) d_Copy_empty_11 (by decide) ?_
  refine rw_put d_Copy_empty_12 (fP_Copy_24 _) (mup_self _ _ _) (Nat.le_of_ble_eq_true rfl) (by first | rfl | assumption | decide) (by first | rfl | decide) ?_
  refine rw_iconst (v := 0) d_Copy_empty_15 (by decide) ?_
  refine rw_istore_n d_Copy_empty_16 (by decide) rfl ?_
  refine rw_lv (lv' := [(0, .ref a), (1, .int (nI 0))]) (by intro q hq; simp at hq; rcases hq with rfl | rfl <;> rfl) ?_
  refine empty_loop 40 0 _ v an lg rfl ⟨?_, ?_, ?_, ?_⟩ (fun j hj => by omega) wf (Fr.mup (Fr.mup (Fr.mup Fr.rf (by omega) (by omega)) (by omega) (by omega)) (by omega) (by omega))
  · rw [mup_self]
    rfl
  · simp [mup, r1]
  · simp [mup, r2]
  · simp [mup, r3]
end COPYQ
end
section
/-! Copy.append by numbers, Copy.follow. -/
section FOLLOW
variable {l : Launch} {G : mm_G} {sz : Nat} {ca : Nat → Nat} {cm : Nat → pCm} {g : Nat}
def ApQ (M : mm_M) (sz : Nat) (ca : Nat → Nat) (cm : Nat → pCm) (g a d b i : Nat) : Option Value → mm_M → Nat → Prop := fun r M' sz' => r = some (.int (bI (decide (i = b ∧ b < d + 8)))) ∧ sz' = sz ∧ CpP 2 M' ca cm g a d (if i = b ∧ b < d + 8 then b + 1 else b) ∧ Fr M M' a 4
theorem CT.post {l : Launch} {G : mm_G} {Y : mm_Y} {desc : String} {R : Room} {As : List Value} {M : mm_M} {sz : Nat} {QQ QQ' : Option Value → mm_M → Nat → Prop} (h : CT l G Y desc R As M sz QQ) (hq : ∀ r M' sz', QQ r M' sz' → QQ' r M' sz') : CT l G Y desc R As M sz QQ' := by
  unfold CT Met at h ⊢
  refine Jvm.Free.MetFree.mono h (fun _ _ z => z) (fun _ _ _ _ _ z => z) (fun a st o t _ hz => ?_)
  obtain ⟨⟨r, M', sz', h1, h2, h3⟩, h4⟩ := hz
  exact ⟨⟨r, M', sz', h1, hq _ _ _ h2, h3⟩, h4⟩
theorem c_appendP {M : mm_M} {a d b i : Nat} (hA : CmA M ca cm g) (hC : CpP 2 M ca cm g a d b) (hi : i < g) (hg : g ≤ 512) : CT l G Y_Copy_append ds_Copy_append (rm 1) [.ref a, .ref (ca i)] M sz (ApQ M sz ca cm g a d b i) := by
  obtain ⟨h, v, an, lg, hr, b1, b2, b3, b4, b5⟩ := id hC
  refine CT.post (c_append hr (hA i hi).2 (by omega) (by omega) (by omega)) (fun r M' sz' hq => ?_)
  obtain ⟨rfl, rfl, q1, q2, q3⟩ := hq
  refine ⟨rfl, rfl, ?_, q3⟩
  by_cases q : i = b ∧ b < d + 8
  · rw [if_pos q]
    obtain ⟨z1, z2, z3, z4⟩ := b4 (by omega)
    refine ⟨h, v, an, _, q1 q, b1, by omega, fun j hj => ?_, fun _ => ⟨by omega, by omega, by omega, fun k hk hk2 => ?_⟩, b5⟩
    · by_cases e : j = b % 8
      · subst e
        rw [va_up_self]
        exact Or.inr ⟨i, hi, rfl⟩
      · rw [va_up_ne _ _ e]
        exact b3 j hj
    · by_cases e : k = b
      · subst e
        rw [va_up_self, q.1]
      · rw [va_up_ne _ _ (by omega)]
        exact z4 k (by omega) (by omega)
  · rw [if_neg q, q2 q]
    exact hC
def FoQ (M : mm_M) (sz : Nat) (ca : Nat → Nat) (cm : Nat → pCm) (g a k n d b : Nat) (w : Bool) : Option Value → mm_M → Nat → Prop := fun r M' sz' => r = some (.int (bI (pFolC w k n d b))) ∧ sz' = sz ∧ CpP 2 M' ca cm g a (pFolD w k n d b) (pFolN w n b) ∧ Fr M M' a 4
theorem follow_loop {M : mm_M} {a o k n d b f : Nat} {w : Bool} (hA : CmA M ca cm g) (hS : CpP 2 M ca cm g a k n) (hO : CpP f M ca cm g o d b) (hf : 1 ≤ f) (hao : o + 4 ≤ a ∨ a + 4 ≤ o) (hg : g ≤ 512) (hre : b ≤ n + 8) :
    ∀ (m i ki : Nat) (M1 : mm_M) (c : Bool), m + i = max n b → n ≤ i → k ≤ ki → ki ≤ max k (min d i) → (i = n → ki = k) → CpP 2 M1 ca cm g a ki i → Fr M M1 a 4 → c = (decide (n < i) || decide (k < ki)) →
    RW l G Y_Copy_follow (rm 3) (mm_Z G (rm 3) (FoQ M sz ca cm g a k n d b w)) 0 0 31 [(0, .ref a), (1, .ref o), (3, .int (bI c)), (4, .int (nI i))] [] M1 sz := by
  obtain ⟨ho, vo, ano, lgo, hOr, b1, b2, b3, b4, -⟩ := id hO
  obtain ⟨z1, z2, z3, z4⟩ := b4 hf
  intro m
  induction m with
  | zero =>
    intro i ki M1 c hm hni hk hk2 hk3 hC hF hc
    have o0 := (hF o (by omega)).trans hOr.1
    have hA1 := hA.fr hS hF
    obtain ⟨h, v, an, lg, hr, e1, e2, -⟩ := id hC
    refine rw_iload d_Copy_follow_31 rfl ?_
    refine rw_aload_n d_Copy_follow_33 rfl (by first | exact mm_ref_r _ | exact mm_ref_n | exact mm_ref_o _) ?_
    refine rw_get d_Copy_follow_34 fF_Copy_35 o0 rfl ?_
    refine rw_icmp_ge_t (tgt := 74) d_Copy_follow_37 (by decide) (nI_le (by omega) (by omega)) ?_
    refine rw_aload_n d_Copy_follow_74 rfl (by first | exact mm_ref_r _ | exact mm_ref_n | exact mm_ref_o _) ?_
    refine rw_aload_n d_Copy_follow_75 rfl (by first | exact mm_ref_r _ | exact mm_ref_n | exact mm_ref_o _) ?_
    refine rw_get d_Copy_follow_76 fF_Copy_28 o0 rfl ?_
    refine rw_callV (kc := 0) (ks := 0) (rest := []) d_Copy_follow_79 (c_doUpTo hA1 hC (lim := d) (by omega)) mW_Copy_doUpTo mL_Copy_67 mI_Copy_doUpTo mE_Copy_doUpTo ⟨by decide, by decide⟩ hr.1 rfl rfl rfl rfl (Nat.le_of_ble_eq_true rfl) (fun r M1 sz1 hq => ?_)
    obtain ⟨rfl, rfl, q1, q2⟩ := hq
    refine rw_stk (st' := [.int (bI (decide (ki < min d i)))]) rfl ?_
    refine rw_iload_n d_Copy_follow_82 rfl ?_
    refine rw_ior d_Copy_follow_83 ?_
    rw [bI_or]
    refine rw_zret d_Copy_follow_84 rfl (narrow_bI _) ⟨?_, rfl, ?_, hF.trans q2⟩
    · congr 3
      unfold pFolC
      rw [if_neg (by omega), hc]
      by_cases y1 : n < b
      · simp [y1, show n < i by omega]
      · have hin : i = n := by omega
        have := hk3 hin
        simp [y1, hin, this, show max n b = n by omega]
    · have e3 : pFolD w k n d b = max ki (min d i) := by
        unfold pFolD
        rw [if_neg (by omega)]
        omega
      have e4 : pFolN w n b = i := by
        unfold pFolN
        rw [if_neg (by omega)]
        omega
      rw [e3, e4]
      exact q1
  | succ m ih =>
    intro i ki M1 c hm hni hk hk2 hk3 hC hF hc
    have o0 := (hF o (by omega)).trans hOr.1
    have hA1 := hA.fr hS hF
    obtain ⟨h, v, an, lg, hr, e1, e2, -⟩ := id hC
    refine rw_iload d_Copy_follow_31 rfl ?_
    refine rw_aload_n d_Copy_follow_33 rfl (by first | exact mm_ref_r _ | exact mm_ref_n | exact mm_ref_o _) ?_
    refine rw_get d_Copy_follow_34 fF_Copy_35 o0 rfl ?_
    refine rw_icmp_ge_f (tgt := 74) d_Copy_follow_37 (by decide) (nI_ge (by omega) (by omega)) ?_
    refine rw_iload_n d_Copy_follow_40 rfl ?_
    refine rw_aload_n d_Copy_follow_41 rfl (by first | exact mm_ref_r _ | exact mm_ref_n | exact mm_ref_o _) ?_
    refine rw_aload_n d_Copy_follow_42 rfl (by first | exact mm_ref_r _ | exact mm_ref_n | exact mm_ref_o _) ?_
    refine rw_get d_Copy_follow_43 fF_Copy_28 o0 rfl ?_
    refine rw_callV (kc := 0) (ks := 0) (rest := [.int (bI c)]) d_Copy_follow_46 (c_doUpTo hA1 hC (lim := d) (by omega)) mW_Copy_doUpTo mL_Copy_67 mI_Copy_doUpTo mE_Copy_doUpTo ⟨by decide, by decide⟩ hr.1 rfl rfl rfl rfl (Nat.le_of_ble_eq_true rfl) (fun r M1 sz1 hq => ?_)
    obtain ⟨rfl, rfl, q1, q2⟩ := hq
    refine rw_stk (st' := [.int (bI (decide (ki < min d i))), .int (bI c)]) rfl ?_
    refine rw_ior d_Copy_follow_49 ?_
    rw [bI_or]
    have hF2 := hF.trans q2
    have p0 := (hF2 o (by omega)).trans hOr.1
    have p3 := (hF2 (o + 3) (by omega)).trans hOr.2.2.2
    have hA2 := hA.fr hS hF2
    obtain ⟨h', v', an', lg', hr', e1', e2', -⟩ := id q1
    refine rw_istore_n d_Copy_follow_50 (by decide) rfl ?_
    refine rw_iload_n d_Copy_follow_51 rfl ?_
    refine rw_aload_n d_Copy_follow_52 rfl (by first | exact mm_ref_r _ | exact mm_ref_n | exact mm_ref_o _) ?_
    refine rw_aload_n d_Copy_follow_53 rfl (by first | exact mm_ref_r _ | exact mm_ref_n | exact mm_ref_o _) ?_
    refine rw_get d_Copy_follow_54 fF_Copy_20 p0 rfl ?_
    refine rw_iload d_Copy_follow_57 rfl ?_
    refine rw_bipush (v := 8) d_Copy_follow_59 (by decide) ?_
    refine rw_irem d_Copy_follow_61 (by decide) ?_
    rw [nI_rem8 (by omega)]
    refine rw_aald d_Copy_follow_62 p3 (by decide) rfl (vp_in8 i) ?_
    rw [nI_c8, z4 i (by omega) (by omega)]
    refine rw_stk (st' := [.ref (ca i), .ref a, .int (bI (c || decide (ki < min d i)))]) rfl ?_
    refine rw_callV (kc := 0) (ks := 0) (rest := [.int (bI (c || decide (ki < min d i)))]) d_Copy_follow_63 (c_appendP (i := i) hA2 q1 (by omega) hg) mW_Copy_append mL_Copy_70 mI_Copy_append mE_Copy_append ⟨by decide, by decide⟩ hr'.1 rfl rfl rfl rfl (Nat.le_of_ble_eq_true rfl) (fun r2 M2 sz2 hq2 => ?_)
    obtain ⟨rfl, rfl, q3, q4⟩ := hq2
    have hyes : i = i ∧ i < max ki (min d i) + 8 := ⟨rfl, by omega⟩
    rw [if_pos hyes] at q3
    rw [decide_eq_true hyes]
    refine rw_stk (st' := [.int (bI true), .int (bI (c || decide (ki < min d i)))]) rfl ?_
    refine rw_ior d_Copy_follow_66 ?_
    rw [bI_or, Bool.or_true]
    refine rw_istore_n d_Copy_follow_67 (by decide) rfl ?_
    refine rw_iinc d_Copy_follow_68 (by decide) rfl rfl rfl ?_
    refine rw_lv (lv' := [(0, .ref a), (1, .ref o), (3, .int (bI true)), (4, .int (nI (i + 1)))]) (by rw [← nI_1]; intro q hq; simp at hq; rcases hq with rfl | rfl | rfl | rfl <;> rfl) ?_
    refine rw_goto (tgt := 31) d_Copy_follow_71 (by decide) ?_
    exact ih (i + 1) (max ki (min d i)) _ true (by omega) (by omega) (by omega) (by omega) (by omega) q3 (hF2.trans q4) (by simp [show n < i + 1 by omega])
theorem c_follow {M : mm_M} {a o k n d b f : Nat} {w : Bool} (hA : CmA M ca cm g) (hS : CpP 2 M ca cm g a k n) (hO : CpP f M ca cm g o d b) (hf : 1 ≤ f) (hw : w = true → f = 2) (hao : o + 4 ≤ a ∨ a + 4 ≤ o) (hg : g ≤ 512) : CT l G Y_Copy_follow ds_Copy_follow (rm 3) [.ref a, .ref o, .int (bI w)] M sz (FoQ M sz ca cm g a k n d b w) := by
  obtain ⟨ho, vo, ano, lgo, hOr, b1, b2, b3, b4, b5⟩ := id hO
  obtain ⟨h, v, an, lg, hr, e1, e2, -⟩ := id hS
  refine CT.of (by decide) (Nat.le_of_ble_eq_true rfl) ?_
  refine rw_aload_n d_Copy_follow_0 rfl (by first | exact mm_ref_r _ | exact mm_ref_n | exact mm_ref_o _) ?_
  refine rw_aload_n d_Copy_follow_1 rfl (by first | exact mm_ref_r _ | exact mm_ref_n | exact mm_ref_o _) ?_
  refine rw_get d_Copy_follow_2 fF_Copy_35 hr.1 rfl ?_
  refine rw_callV (kc := 0) (ks := 0) (rest := []) d_Copy_follow_5 (c_reaches (o := n) hOr.1 (by omega) (by omega)) mW_Copy_reachesBackTo mL_Copy_59 mI_Copy_reachesBackTo mE_Copy_reachesBackTo ⟨by decide, by decide⟩ hOr.1 rfl rfl rfl rfl (Nat.le_of_ble_eq_true rfl) (fun r M1 sz1 hq => ?_)
  obtain ⟨rfl, rfl, rfl⟩ := hq
  refine rw_stk (st' := [.int (bI (decide (b ≤ n + 8)))]) rfl ?_
  by_cases q : b ≤ n + 8
  · rw [decide_eq_true q]
    refine rw_if_ne_t (tgt := 23) d_Copy_follow_8 (by decide) (by decide) ?_
    refine rw_iconst (v := 0) d_Copy_follow_23 (by decide) ?_
    refine rw_istore_n d_Copy_follow_24 (by decide) rfl ?_
    refine rw_aload_n d_Copy_follow_25 rfl (by first | exact mm_ref_r _ | exact mm_ref_n | exact mm_ref_o _) ?_
    refine rw_get d_Copy_follow_26 fF_Copy_35 hr.1 rfl ?_
    refine rw_istore d_Copy_follow_29 (by decide) rfl ?_
    refine rw_lv (lv' := [(0, .ref a), (1, .ref o), (3, .int (bI false)), (4, .int (nI n))]) (by intro q hq; simp at hq; rcases hq with rfl | rfl | rfl | rfl <;> rfl) ?_
    exact follow_loop hA hS hO hf hao hg q (max n b - n) n k _ false (by omega) (by omega) (by omega) (by omega) (fun _ => rfl) hS Fr.rf (by simp)
  · rw [decide_eq_false q]
    refine rw_if_ne_f (tgt := 23) d_Copy_follow_8 (by decide) (by decide) ?_
    refine rw_iload_n d_Copy_follow_11 rfl ?_
    cases w with
    | true =>
      refine rw_if_eq_f (tgt := 21) d_Copy_follow_12 (by decide) (by decide) ?_
      refine rw_aload_n d_Copy_follow_15 rfl (by first | exact mm_ref_r _ | exact mm_ref_n | exact mm_ref_o _) ?_
      refine rw_aload_n d_Copy_follow_16 rfl (by first | exact mm_ref_r _ | exact mm_ref_n | exact mm_ref_o _) ?_
      refine rw_iconst (v := 1) d_Copy_follow_17 (by decide) ?_
      refine rw_callV (kc := 0) (ks := 0) (rest := []) d_Copy_follow_18 (c_copyFrom (w := true) hA (hS.le (by omega)) hO hao) mW_Copy_copyFrom mL_Copy_63 mI_Copy_copyFrom mE_Copy_copyFrom ⟨by decide, by decide⟩ hr.1 rfl rfl rfl rfl (Nat.le_of_ble_eq_true rfl) (fun r2 M2 sz2 hq2 => ?_)
      obtain ⟨rfl, rfl, q1, q2⟩ := hq2
      refine rw_stk (st' := []) rfl ?_
      refine rw_iload_n d_Copy_follow_21 rfl ?_
      refine rw_zret d_Copy_follow_22 rfl rfl ⟨?_, rfl, ?_, q2⟩
      · unfold pFolC
        rw [if_pos (by omega)]
      · have e : n + 8 < b := by omega
        have := hw rfl
        subst this
        simp only [pFolD, pFolN, if_pos e]
        exact q1
    | false =>
      refine rw_if_eq_t (tgt := 21) d_Copy_follow_12 (by decide) (rfl) ?_
      refine rw_iload_n d_Copy_follow_21 rfl ?_
      refine rw_zret d_Copy_follow_22 rfl rfl ⟨?_, rfl, ?_, Fr.rf⟩
      · unfold pFolC
        rw [if_pos (by omega)]
      · have e : n + 8 < b := by omega
        simp only [pFolD, pFolN, if_pos e]
        exact hS
end FOLLOW
end
section
/-! Plan; bitCount. -/
section PLAN
variable {l : Launch} {G : mm_G} {M : mm_M} {sz : Nat}
theorem c_bitCount {x : Nat} (hx : x < 64) : CT l G Y_Integer_bitCount ds_Integer_bitCount (rm 1) [.int (nI x)] M sz (fun r M' sz' => r = some (.int (nI (pCount 6 x))) ∧ M' = M ∧ sz' = sz) := by
  refine CT.ofF (by decide +kernel) (Nat.le_of_ble_eq_true rfl) ?_
  refine rw_iload_n d_Integer_bitCount_0 rfl ?_
  refine rw_iload_n d_Integer_bitCount_1 rfl ?_
  refine rw_iconst (v := 1) d_Integer_bitCount_2 (by decide) ?_
  refine rw_iushr d_Integer_bitCount_3 rfl ?_
  refine rw_ldcw d_Integer_bitCount_4 kC_Integer_265 ?_
  refine rw_iand d_Integer_bitCount_7 ?_
  refine rw_isub d_Integer_bitCount_8 ?_
  refine rw_topi (fun y1 e1 => ?_)
  refine rw_istore_n d_Integer_bitCount_9 (by decide) rfl ?_
  refine rw_iload_n d_Integer_bitCount_10 rfl ?_
  refine rw_ldcw d_Integer_bitCount_11 kC_Integer_266 ?_
  refine rw_iand d_Integer_bitCount_14 ?_
  refine rw_iload_n d_Integer_bitCount_15 rfl ?_
  refine rw_iconst (v := 2) d_Integer_bitCount_16 (by decide) ?_
  refine rw_iushr d_Integer_bitCount_17 rfl ?_
  refine rw_ldcw d_Integer_bitCount_18 kC_Integer_266 ?_
  refine rw_iand d_Integer_bitCount_21 ?_
  refine rw_iadd d_Integer_bitCount_22 ?_
  refine rw_topi (fun y2 e2 => ?_)
  refine rw_istore_n d_Integer_bitCount_23 (by decide) rfl ?_
  refine rw_iload_n d_Integer_bitCount_24 rfl ?_
  refine rw_iload_n d_Integer_bitCount_25 rfl ?_
  refine rw_iconst (v := 4) d_Integer_bitCount_26 (by decide) ?_
  refine rw_iushr d_Integer_bitCount_27 rfl ?_
  refine rw_iadd d_Integer_bitCount_28 ?_
  refine rw_ldcw d_Integer_bitCount_29 kC_Integer_267 ?_
  refine rw_iand d_Integer_bitCount_32 ?_
  refine rw_topi (fun y3 e3 => ?_)
  refine rw_istore_n d_Integer_bitCount_33 (by decide) rfl ?_
  refine rw_iload_n d_Integer_bitCount_34 rfl ?_
  refine rw_iload_n d_Integer_bitCount_35 rfl ?_
  refine rw_bipush (v := 8) d_Integer_bitCount_36 (by decide) ?_
  refine rw_iushr d_Integer_bitCount_38 rfl ?_
  refine rw_iadd d_Integer_bitCount_39 ?_
  refine rw_topi (fun y4 e4 => ?_)
  refine rw_istore_n d_Integer_bitCount_40 (by decide) rfl ?_
  refine rw_iload_n d_Integer_bitCount_41 rfl ?_
  refine rw_iload_n d_Integer_bitCount_42 rfl ?_
  refine rw_bipush (v := 16) d_Integer_bitCount_43 (by decide) ?_
  refine rw_iushr d_Integer_bitCount_45 rfl ?_
  refine rw_iadd d_Integer_bitCount_46 ?_
  refine rw_topi (fun y5 e5 => ?_)
  refine rw_istore_n d_Integer_bitCount_47 (by decide) rfl ?_
  refine rw_iload_n d_Integer_bitCount_48 rfl ?_
  refine rw_bipush (v := 63) d_Integer_bitCount_49 (by decide) ?_
  refine rw_iand d_Integer_bitCount_51 ?_
  refine rw_iret d_Integer_bitCount_52 rfl ⟨?_, rfl, rfl⟩
  subst e5 e4 e3 e2 e1
  congr 2
  revert x
  decide +kernel
/-- the cell of a Plan -/
abbrev plO (N c : Nat) : va_E := .inr (2, [.int (nI N), .int (nI c)])
theorem all_val : ∀ N, N < 7 → (1 : Int32) <<< (nI N &&& 31) - 1 = nI (2 ^ N - 1) := by decide +kernel
theorem c_all {p N c : Nat} (hM : M p = some (plO N c)) (hN : N < 7) : CT l G Y_Plan_all ds_Plan_all (rm 1) [.ref p] M sz (fun r M' sz' => r = some (.int (nI (2 ^ N - 1))) ∧ M' = M ∧ sz' = sz) := by
  refine CT.of (by decide) (Nat.le_of_ble_eq_true rfl) ?_
  refine rw_iconst (v := 1) d_Plan_all_0 (by decide) ?_
  refine rw_aload_n d_Plan_all_1 rfl (by first | exact mm_ref_r _ | exact mm_ref_n | exact mm_ref_o _) ?_
  refine rw_get d_Plan_all_2 fF_Plan_9 hM rfl ?_
  refine rw_ishl d_Plan_all_5 ?_
  refine rw_iconst (v := 1) d_Plan_all_6 (by decide) ?_
  refine rw_isub d_Plan_all_7 ?_
  exact rw_iret d_Plan_all_8 rfl ⟨by rw [all_val N hN], rfl, rfl⟩
theorem c_quorum {p N c : Nat} (hM : M p = some (plO N c)) (hN : N < 7) (hc : c ≤ N) : CT l G Y_Plan_quorum ds_Plan_quorum (rm 1) [.ref p] M sz (fun r M' sz' => r = some (.int (nI (N - c + 1))) ∧ M' = M ∧ sz' = sz) := by
  refine CT.of (by decide) (Nat.le_of_ble_eq_true rfl) ?_
  refine rw_aload_n d_Plan_quorum_0 rfl (by first | exact mm_ref_r _ | exact mm_ref_n | exact mm_ref_o _) ?_
  refine rw_get d_Plan_quorum_1 fF_Plan_9 hM rfl ?_
  refine rw_aload_n d_Plan_quorum_4 rfl (by first | exact mm_ref_r _ | exact mm_ref_n | exact mm_ref_o _) ?_
  refine rw_get d_Plan_quorum_5 fF_Plan_15 hM rfl ?_
  refine rw_isub d_Plan_quorum_8 ?_
  refine rw_iconst (v := 1) d_Plan_quorum_9 (by decide) ?_
  refine rw_iadd d_Plan_quorum_10 ?_
  exact rw_iret d_Plan_quorum_11 rfl ⟨by rw [nI_sub hc, nI_1], rfl, rfl⟩
/-- nobody is -1 -/
def gI (b : Nat) : Int32 := if b = 99 then -1 else nI b
theorem bit_val : ∀ s, s < 64 → ∀ n, n < 7 → ((((nI s).toUInt32 >>> ((nI n).toUInt32 &&& Int32.toUInt32 31)).toInt32 &&& 1 = 0) ↔ ¬ s.testBit n = true) := by decide +kernel
theorem pGr_lt : ∀ N set, N ≤ 99 → pGr N set = 99 ∨ pGr N set < N := by
  intro N
  induction N with
  | zero => intro set _; exact Or.inl rfl
  | succ n ih =>
    intro set hn
    unfold pGr
    split
    · exact Or.inr (by omega)
    · exact (ih set (by omega)).imp id (fun z => by omega)
def GrQ (M : mm_M) (sz N set : Nat) : Option Value → mm_M → Nat → Prop := fun r M' sz' => r = some (.int (gI (pGr N set))) ∧ M' = M ∧ sz' = sz
theorem greatest_loop {p N c set : Nat} (hM : M p = some (plO N c)) (hN : N < 7) (hs : set < 64) : ∀ (m n : Nat), m + n = N → RW l G Y_Plan_greatest (rm 1) (mm_Z G (rm 1) (GrQ M sz N set)) 0 0 4 [(0, .ref p), (1, .int (nI set)), (2, .int (gI (pGr n set))), (3, .int (nI n))] [] M sz := by
  intro m
  induction m with
  | zero =>
    intro n hn
    have : n = N := by omega
    subst this
    refine rw_iload_n d_Plan_greatest_4 rfl ?_
    refine rw_aload_n d_Plan_greatest_5 rfl (by first | exact mm_ref_r _ | exact mm_ref_n | exact mm_ref_o _) ?_
    refine rw_get d_Plan_greatest_6 fF_Plan_9 hM rfl ?_
    refine rw_icmp_ge_t (tgt := 50) d_Plan_greatest_9 (by decide) (nI_le (by omega) (by omega)) ?_
    refine rw_iload_n d_Plan_greatest_50 rfl ?_
    exact rw_iret d_Plan_greatest_51 rfl ⟨rfl, rfl, rfl⟩
  | succ m ih =>
    intro n hn
    have tail : ∀ b, b = pGr (n + 1) set → RW l G Y_Plan_greatest (rm 1) (mm_Z G (rm 1) (GrQ M sz N set)) 0 0 44 [(0, .ref p), (1, .int (nI set)), (2, .int (gI b)), (3, .int (nI n))] [] M sz := by
      intro b hb
      subst hb
      refine rw_iinc d_Plan_greatest_44 (by decide) rfl rfl rfl ?_
      refine rw_lv (lv' := [(0, .ref p), (1, .int (nI set)), (2, .int (gI (pGr (n + 1) set))), (3, .int (nI (n + 1)))]) (by rw [← nI_1]; intro q hq; simp at hq; rcases hq with rfl | rfl | rfl | rfl <;> rfl) ?_
      refine rw_goto (tgt := 4) d_Plan_greatest_47 (by decide) ?_
      exact ih (n + 1) (by omega)
    have hg := pGr_lt n set (by omega)
    refine rw_iload_n d_Plan_greatest_4 rfl ?_
    refine rw_aload_n d_Plan_greatest_5 rfl (by first | exact mm_ref_r _ | exact mm_ref_n | exact mm_ref_o _) ?_
    refine rw_get d_Plan_greatest_6 fF_Plan_9 hM rfl ?_
    refine rw_icmp_ge_f (tgt := 50) d_Plan_greatest_9 (by decide) (nI_ge (by omega) (by omega)) ?_
    refine rw_iload_n d_Plan_greatest_12 rfl ?_
    refine rw_iload_n d_Plan_greatest_13 rfl ?_
    refine rw_iushr d_Plan_greatest_14 rfl ?_
    refine rw_iconst (v := 1) d_Plan_greatest_15 (by decide) ?_
    refine rw_iand d_Plan_greatest_16 ?_
    refine rw_if_eq (tgt := 44) d_Plan_greatest_17 (by decide) (fun q => ?_) (fun q => ?_)
    · rw [bit_val set hs n (by omega)] at q
      exact tail _ (by rw [pGr, if_neg (fun z => q z.1)])
    · rw [bit_val set hs n (by omega), Classical.not_not] at q
      have take : pGr (n + 1) set = n → RW l G Y_Plan_greatest (rm 1) (mm_Z G (rm 1) (GrQ M sz N set)) 0 0 42 [(0, .ref p), (1, .int (nI set)), (2, .int (gI (pGr n set))), (3, .int (nI n))] [] M sz := by
        intro e
        refine rw_iload_n d_Plan_greatest_42 rfl ?_
        refine rw_istore_n d_Plan_greatest_43 (by decide) rfl ?_
        refine rw_lv (lv' := [(0, .ref p), (1, .int (nI set)), (2, .int (gI n)), (3, .int (nI n))]) (by rw [gI, if_neg (by omega)]; intro q hq; simp at hq; rcases hq with rfl | rfl | rfl | rfl <;> rfl) ?_
        exact tail n e.symm
      refine rw_iload_n d_Plan_greatest_20 rfl ?_
      refine rw_iconst (v := (-1)) d_Plan_greatest_21 (by decide) ?_
      rcases hg with hg | hg
      · have e9 : gI (pGr n set) = -1 := by rw [hg]; rfl
        rw [e9]
        refine rw_icmp_eq_t (tgt := 42) d_Plan_greatest_22 (by decide) (rfl) ?_
        have := take (by rw [pGr, if_pos ⟨q, Or.inl hg⟩])
        rw [e9] at this
        exact this
      · have e9 : gI (pGr n set) = nI (pGr n set) := by rw [gI, if_neg (by omega)]
        rw [e9]
        rw [e9] at take
        refine rw_icmp_eq_f (tgt := 42) d_Plan_greatest_22 (by decide) (fun z => by have := congrArg Int32.toInt z; rw [nI_toInt (by omega)] at this; have h5 : (-1 : Int32).toInt = -1 := (by decide); omega) ?_
        refine rw_iload_n d_Plan_greatest_25 rfl ?_
        refine rw_bipush (v := 37) d_Plan_greatest_26 (by decide) ?_
        refine rw_imul d_Plan_greatest_28 ?_
        rw [show (37 : Int32) = nI 37 from rfl, nI_mul]
        refine rw_bipush (v := 11) d_Plan_greatest_29 (by decide) ?_
        refine rw_irem d_Plan_greatest_31 (by decide) ?_
        rw [show (11 : Int32) = nI 11 from rfl, nI_rem (by omega) (by omega) (by omega)]
        refine rw_iload_n d_Plan_greatest_32 rfl ?_
        refine rw_bipush (v := 37) d_Plan_greatest_33 (by decide) ?_
        refine rw_imul d_Plan_greatest_35 ?_
        rw [show (37 : Int32) = nI 37 from rfl, nI_mul]
        refine rw_bipush (v := 11) d_Plan_greatest_36 (by decide) ?_
        refine rw_irem d_Plan_greatest_38 (by decide) ?_
        rw [show (11 : Int32) = nI 11 from rfl, nI_rem (by omega) (by omega) (by omega)]
        refine rw_icmp_le (tgt := 44) d_Plan_greatest_39 (by decide) (fun q2 => ?_) (fun q2 => ?_)
        · rw [nI_leI (by omega) (by omega)] at q2
          have := tail (pGr n set) (by rw [pGr, if_neg (fun z => by rcases z.2 with y | y <;> omega)])
          rw [e9] at this
          exact this
        · rw [nI_leI (by omega) (by omega)] at q2
          exact take (by rw [pGr, if_pos ⟨q, Or.inr (by omega)⟩])
theorem c_greatest {p N c set : Nat} (hM : M p = some (plO N c)) (hN : N < 7) (hs : set < 64) : CT l G Y_Plan_greatest ds_Plan_greatest (rm 1) [.ref p, .int (nI set)] M sz (GrQ M sz N set) := by
  refine CT.of (by decide) (Nat.le_of_ble_eq_true rfl) ?_
  refine rw_iconst (v := (-1)) d_Plan_greatest_0 (by decide) ?_
  refine rw_istore_n d_Plan_greatest_1 (by decide) rfl ?_
  refine rw_iconst (v := 0) d_Plan_greatest_2 (by decide) ?_
  refine rw_istore_n d_Plan_greatest_3 (by decide) rfl ?_
  refine rw_lv (lv' := [(0, .ref p), (1, .int (nI set)), (2, .int (gI (pGr 0 set))), (3, .int (nI 0))]) (by intro q hq; simp at hq; rcases hq with rfl | rfl | rfl | rfl <;> rfl) ?_
  exact greatest_loop hM hN hs N 0 rfl
end PLAN
end
section
/-! Plan.keepers. -/
theorem kc_count : ∀ N, N < 7 → ∀ s, s < 64 → pCount 6 (s &&& (2 ^ N - 1)) = pCount N s := by decide +kernel
theorem and_lt64 : ∀ s, s < 64 → ∀ t, t < 64 → s &&& t < 64 ∧ nI s &&& nI t = nI (s &&& t) := by decide +kernel
theorem kc_and : ∀ s, s < 64 → ∀ c, c < 64 → nI s &&& (nI c ^^^ (-1)) = nI (s &&& (63 - c)) := by decide +kernel
theorem kc_or : ∀ c, c < 64 → ∀ g, g < 6 → nI c ||| ((1 : Int32) <<< (nI g &&& 31)) = nI (c ||| 2 ^ g) ∧ c ||| 2 ^ g < 64 := by decide +kernel
theorem kc_step : ∀ N, N < 7 → ∀ s, s < 64 → ∀ i, i < 3 → i < pCount N s → pCh N s i < 64 ∧ pGr N (s &&& (63 - pCh N s i)) < 6 := by decide +kernel
theorem pw_lt : ∀ N, N < 7 → 2 ^ N - 1 < 64 := by decide +kernel
section KEEPERS
variable {l : Launch} {G : mm_G} {M : mm_M} {sz : Nat}
def KeQ (M : mm_M) (sz N c set : Nat) : Option Value → mm_M → Nat → Prop := fun r M' sz' => r = some (.int (nI (pKeep N c set))) ∧ M' = M ∧ sz' = sz
theorem keepers_loop {p N c set : Nat} (hM : M p = some (plO N c)) (hN : N < 7) (hc : c ≤ 3) (hs : set < 64) (hk : ¬ pCount N set < c) : ∀ (m i : Nat), m + i = c → RW l G Y_Plan_keepers (rm 2) (mm_Z G (rm 2) (KeQ M sz N c set)) 0 0 22 [(0, .ref p), (1, .int (nI set)), (2, .int (nI (pCh N set i))), (3, .int (nI i))] [] M sz := by
  intro m
  induction m with
  | zero =>
    intro i hi
    have : i = c := by omega
    subst this
    refine rw_iload_n d_Plan_keepers_22 rfl ?_
    refine rw_aload_n d_Plan_keepers_23 rfl (by first | exact mm_ref_r _ | exact mm_ref_n | exact mm_ref_o _) ?_
    refine rw_get d_Plan_keepers_24 fF_Plan_15 hM rfl ?_
    refine rw_icmp_ge_t (tgt := 50) d_Plan_keepers_27 (by decide) (nI_le (by omega) (by omega)) ?_
    refine rw_iload_n d_Plan_keepers_50 rfl ?_
    exact rw_iret d_Plan_keepers_51 rfl ⟨by rw [pKeep, if_neg hk], rfl, rfl⟩
  | succ m ih =>
    intro i hi
    obtain ⟨k1, k2⟩ := kc_step N hN set hs i (by omega) (by omega)
    have k3 := kc_or _ k1 _ k2
    have k4 := (and_lt64 set hs (63 - pCh N set i) (by omega)).1
    refine rw_iload_n d_Plan_keepers_22 rfl ?_
    refine rw_aload_n d_Plan_keepers_23 rfl (by first | exact mm_ref_r _ | exact mm_ref_n | exact mm_ref_o _) ?_
    refine rw_get d_Plan_keepers_24 fF_Plan_15 hM rfl ?_
    refine rw_icmp_ge_f (tgt := 50) d_Plan_keepers_27 (by decide) (nI_ge (by omega) (by omega)) ?_
    refine rw_iload_n d_Plan_keepers_30 rfl ?_
    refine rw_iconst (v := 1) d_Plan_keepers_31 (by decide) ?_
    refine rw_aload_n d_Plan_keepers_32 rfl (by first | exact mm_ref_r _ | exact mm_ref_n | exact mm_ref_o _) ?_
    refine rw_iload_n d_Plan_keepers_33 rfl ?_
    refine rw_iload_n d_Plan_keepers_34 rfl ?_
    refine rw_iconst (v := (-1)) d_Plan_keepers_35 (by decide) ?_
    refine rw_ixor d_Plan_keepers_36 ?_
    refine rw_iand d_Plan_keepers_37 ?_
    rw [kc_and set hs _ k1]
    refine rw_callV (kc := 0) (ks := 0) (rest := [.int 1, .int (nI (pCh N set i))]) d_Plan_keepers_38 (c_greatest hM hN k4) mW_Plan_greatest mL_Plan_28 mI_Plan_greatest mE_Plan_greatest ⟨by decide, by decide⟩ hM rfl rfl rfl rfl (Nat.le_of_ble_eq_true rfl) (fun r M1 sz1 hq => ?_)
    obtain ⟨rfl, rfl, rfl⟩ := hq
    rw [gI, if_neg (by omega)]
    refine rw_stk (st' := [.int (nI (pGr N (set &&& (63 - pCh N set i)))), .int 1, .int (nI (pCh N set i))]) rfl ?_
    refine rw_ishl d_Plan_keepers_41 ?_
    refine rw_ior d_Plan_keepers_42 ?_
    rw [k3.1]
    refine rw_istore_n d_Plan_keepers_43 (by decide) rfl ?_
    refine rw_iinc d_Plan_keepers_44 (by decide) rfl rfl rfl ?_
    refine rw_lv (lv' := [(0, .ref p), (1, .int (nI set)), (2, .int (nI (pCh N set (i + 1)))), (3, .int (nI (i + 1)))]) (by rw [← nI_1]; intro q hq; simp at hq; rcases hq with rfl | rfl | rfl | rfl <;> rfl) ?_
    refine rw_goto (tgt := 22) d_Plan_keepers_47 (by decide) ?_
    exact ih (i + 1) (by omega)
theorem c_keepers {p N c set : Nat} (hM : M p = some (plO N c)) (hN : N < 7) (hc : c ≤ 3) (hs : set < 64) : CT l G Y_Plan_keepers ds_Plan_keepers (rm 2) [.ref p, .int (nI set)] M sz (KeQ M sz N c set) := by
  refine CT.of (by decide) (Nat.le_of_ble_eq_true rfl) ?_
  refine rw_iload_n d_Plan_keepers_0 rfl ?_
  refine rw_aload_n d_Plan_keepers_1 rfl (by first | exact mm_ref_r _ | exact mm_ref_n | exact mm_ref_o _) ?_
  refine rw_callV (kc := 0) (ks := 0) (rest := [.int (nI set)]) d_Plan_keepers_2 (c_all hM hN) mW_Plan_all mL_Plan_18 mI_Plan_all mE_Plan_all ⟨by decide, by decide⟩ hM rfl rfl rfl rfl (Nat.le_of_ble_eq_true rfl) (fun r M1 sz1 hq => ?_)
  obtain ⟨rfl, rfl, rfl⟩ := hq
  have k1 := and_lt64 set hs (2 ^ N - 1) (pw_lt N hN)
  refine rw_stk (st' := [.int (nI (2 ^ N - 1)), .int (nI set)]) rfl ?_
  refine rw_iand d_Plan_keepers_5 ?_
  rw [k1.2]
  refine rw_callS (kc := 0) (ks := 0) (rest := []) d_Plan_keepers_6 (c_bitCount k1.1) mW_Integer_bitCount mL_Plan_22 mS_Integer_bitCount ⟨by decide, by decide⟩ rfl rfl (Nat.le_of_ble_eq_true rfl) (fun r M1 sz1 hq => ?_)
  obtain ⟨rfl, rfl, rfl⟩ := hq
  rw [kc_count N hN set hs]
  refine rw_stk (st' := [.int (nI (pCount N set))]) rfl ?_
  refine rw_aload_n d_Plan_keepers_9 rfl (by first | exact mm_ref_r _ | exact mm_ref_n | exact mm_ref_o _) ?_
  refine rw_get d_Plan_keepers_10 fF_Plan_15 hM rfl ?_
  have hcl : pCount N set < 100 := by
    have : ∀ N, N < 7 → ∀ s, s < 64 → pCount N s < 100 := by decide +kernel
    exact this N hN set hs
  by_cases q : pCount N set < c
  · refine rw_icmp_ge_f (tgt := 18) d_Plan_keepers_13 (by decide) (nI_ge q (by omega)) ?_
    refine rw_iconst (v := 0) d_Plan_keepers_16 (by decide) ?_
    exact rw_iret d_Plan_keepers_17 rfl ⟨by rw [pKeep, if_pos q]; rfl, rfl, rfl⟩
  · refine rw_icmp_ge_t (tgt := 18) d_Plan_keepers_13 (by decide) (nI_le (by omega) (by omega)) ?_
    refine rw_iconst (v := 0) d_Plan_keepers_18 (by decide) ?_
    refine rw_istore_n d_Plan_keepers_19 (by decide) rfl ?_
    refine rw_iconst (v := 0) d_Plan_keepers_20 (by decide) ?_
    refine rw_istore_n d_Plan_keepers_21 (by decide) rfl ?_
    refine rw_lv (lv' := [(0, .ref p), (1, .int (nI set)), (2, .int (nI (pCh N set 0))), (3, .int (nI 0))]) (by intro q hq; simp at hq; rcases hq with rfl | rfl | rfl | rfl <;> rfl) ?_
    exact keepers_loop hM hN hc hs q c 0 rfl
theorem c_planInit {a N c : Nat} (hM : M a = some (.inr (2, [.int 0, .int 0]))) : CT l G Y_Plan_init ds_Plan_init (rm 1) [.ref a, .int (nI N), .int (nI c)] M sz (fun r M' sz' => r = none ∧ M' = mup (mup M a (.inr (2, [.int (nI N), .int 0]))) a (plO N c) ∧ sz' = sz) := by
  refine CT.of (by decide) (Nat.le_of_ble_eq_true rfl) ?_
  refine rw_aload_n d_Plan_init_0 rfl (by first | exact mm_ref_r _ | exact mm_ref_n | exact mm_ref_o _) ?_
  refine rw_objInit d_Plan_init_1 mL_Plan_3 mI_Object_init cO_init (by decide) (by decide) ?_
  refine rw_aload_n d_Plan_init_4 rfl (by first | exact mm_ref_r _ | exact mm_ref_n | exact mm_ref_o _) ?_
  refine rw_iload_n d_Plan_init_5 rfl ?_
  refine rw_put d_Plan_init_6 fQ_Plan_9 hM (Nat.le_of_ble_eq_true rfl) (by first | rfl | assumption | decide) (by first | rfl | decide) ?_
  refine rw_aload_n d_Plan_init_9 rfl (by first | exact mm_ref_r _ | exact mm_ref_n | exact mm_ref_o _) ?_
  refine rw_iload_n d_Plan_init_10 rfl ?_
  refine rw_put d_Plan_init_11 fQ_Plan_15 (mup_self _ _ _) (Nat.le_of_ble_eq_true rfl) (by first | rfl | assumption | decide) (by first | rfl | decide) ?_
  exact rw_vret d_Plan_init_14 rfl ⟨rfl, rfl, rfl⟩
end KEEPERS
end
section
/-! Constructors of Copy, Message, Memory, Reports, Post: cells come one behind another. -/
section CTORS
variable {l : Launch} {G : mm_G} {M : mm_M} {sz : Nat}
/-- a fresh copy -/
abbrev CpN (M : mm_M) (a : Nat) : Prop := CpR M a 0 0 0 (fun _ => 0) (fun _ => 0) (fun _ => none)
theorem CpN.p {M : mm_M} {a : Nat} (h : CpN M a) (ca : Nat → Nat) (cm : Nat → pCm) (g : Nat) : CpP 2 M ca cm g a 0 0 :=
  ⟨_, _, _, _, h, by omega, by omega, fun _ _ => Or.inl rfl, fun _ => ⟨by omega, by omega, by omega, fun i hi => by omega⟩, fun _ => ⟨fun k _ => by simp [tab], fun _ _ => rfl, fun i hi => by omega⟩⟩
theorem CpN.kept {M M' : mm_M} {a : Nat} (h : CpN M a) (hq : ∀ q, a ≤ q → q < a + 4 → M' q = M q) : CpN M' a :=
  ⟨(hq _ (by omega) (by omega)).trans h.1, (hq _ (by omega) (by omega)).trans h.2.1, (hq _ (by omega) (by omega)).trans h.2.2.1, (hq _ (by omega) (by omega)).trans h.2.2.2⟩
theorem c_copyInit {a : Nat} (hM : M a = some (.inr (1, [.int 0, .int 0, .long 0, .null, .null, .null]))) : CT l G Y_Copy_init ds_Copy_init (rmA 1 3 56) [.ref a] M (a + 1) (fun r M' sz' => r = none ∧ sz' = a + 4 ∧ CpN M' a ∧ ∀ q, q < a → M' q = M q) := by
  refine CT.of (by decide) (Nat.le_of_ble_eq_true rfl) ?_
  refine rw_fewer (kc' := 0 + 1 + 1 + 1) (ks' := 0 + 8 + 8 + 40) (by decide) (by decide) ?_
  refine rw_aload_n d_Copy_init_0 rfl (by first | exact mm_ref_r _ | exact mm_ref_n | exact mm_ref_o _) ?_
  refine rw_objInit d_Copy_init_1 mL_Copy_3 mI_Object_init cO_init (by decide) (by decide) ?_
  refine rw_aload_n d_Copy_init_4 rfl (by first | exact mm_ref_r _ | exact mm_ref_n | exact mm_ref_o _) ?_
  refine rw_bipush (v := 40) d_Copy_init_5 (by decide) ?_
  refine rw_newa (t := 0) (N := 40) (a0 := (40, .inl (fun _ => 0))) d_Copy_init_7 rfl (by decide) aC_int (by decide) (by decide) (by decide) (fun _ => rfl) ?_
  refine rw_put d_Copy_init_9 fQ_Copy_9 (mup_get (by omega) hM) (Nat.le_of_ble_eq_true rfl) (by first | rfl | assumption | decide) (by first | rfl | decide) ?_
  refine rw_aload_n d_Copy_init_12 rfl (by first | exact mm_ref_r _ | exact mm_ref_n | exact mm_ref_o _) ?_
  refine rw_bipush (v := 8) d_Copy_init_13 (by decide) ?_
  refine rw_newa (t := 0) (N := 8) (a0 := (8, .inl (fun _ => 0))) d_Copy_init_15 rfl (by decide) aC_int (by decide) (by decide) (by decide) (fun _ => rfl) ?_
  refine rw_put d_Copy_init_17 fQ_Copy_15 (mup_get (by omega) (mup_self _ _ _)) (Nat.le_of_ble_eq_true rfl) (by first | rfl | assumption | decide) (by first | rfl | decide) ?_
  refine rw_aload_n d_Copy_init_20 rfl (by first | exact mm_ref_r _ | exact mm_ref_n | exact mm_ref_o _) ?_
  refine rw_bipush (v := 8) d_Copy_init_21 (by decide) ?_
  refine rw_newq (t := 3) (N := 8) d_Copy_init_23 (by decide) rfl (fun s hK => hK.2.2.2.2.2.2.1.1) cL_Copy_18 (by decide) (by decide) (by decide) ?_
  refine rw_put d_Copy_init_26 fQ_Copy_20 (mup_get (by omega) (mup_self _ _ _)) (Nat.le_of_ble_eq_true rfl) (by first | rfl | assumption | decide) (by first | rfl | decide) ?_
  refine rw_vret d_Copy_init_29 rfl ⟨rfl, rfl, ⟨?_, ?_, ?_, ?_⟩, fun q hq => ?_⟩
  · rw [mup_self]
    rfl
  · simp [mup]
  · simp [mup]
  · simp [mup]
  · rw [mup_ne _ _ (by omega), mup_ne _ _ (by omega), mup_ne _ _ (by omega), mup_ne _ _ (by omega), mup_ne _ _ (by omega), mup_ne _ _ (by omega)]
/-- a fresh message: at a, its copy behind it -/
abbrev MsN (M : mm_M) (a : Nat) : Prop := M a = some (.inr (3, [.null, .int 0, .int 0, .int 0, .int 0, .int 0, .int 0, .int 0, .int 0, .null, .ref (a + 1)])) ∧ CpN M (a + 1)
theorem c_messageInit {a : Nat} (hM : M a = some (.inr (3, [.null, .int 0, .int 0, .int 0, .int 0, .int 0, .int 0, .int 0, .int 0, .null, .null]))) : CT l G Y_Message_init ds_Message_init (rmA 2 4 62) [.ref a] M (a + 1) (fun r M' sz' => r = none ∧ sz' = a + 5 ∧ MsN M' a ∧ ∀ q, q < a → M' q = M q) := by
  refine CT.of (by decide) (Nat.le_of_ble_eq_true rfl) ?_
  refine rw_aload_n d_Message_init_0 rfl (by first | exact mm_ref_r _ | exact mm_ref_n | exact mm_ref_o _) ?_
  refine rw_objInit d_Message_init_1 mL_Message_1 mI_Object_init cO_init (by decide) (by decide) ?_
  refine rw_aload_n d_Message_init_4 rfl (by first | exact mm_ref_r _ | exact mm_ref_n | exact mm_ref_o _) ?_
  refine rw_new (N := 6) (kc := 3) (ks := 56) d_Message_init_5 nN_Message_7 ?_
  refine rw_dup d_Message_init_8 rfl ?_
  refine rw_callIN (kc := 0) (ks := 0) (j := 1) (rest := [.ref (a + 1), .ref a]) d_Message_init_9 (c_copyInit (mup_self _ _ _)) mW_Copy_init rfl mI_Copy_init rfl rfl ⟨by decide, by decide⟩ rfl rfl (Nat.le_of_ble_eq_true rfl) (fun r M1 sz1 hq => ?_)
  obtain ⟨rfl, rfl, q1, q2⟩ := hq
  refine rw_stk (st' := [.ref (a + 1), .ref a]) rfl ?_
  refine rw_put d_Message_init_12 fQ_Message_10 ((q2 a (by omega)).trans (mup_get (by omega) hM)) (Nat.le_of_ble_eq_true rfl) (by first | rfl | assumption | decide) (by first | rfl | decide) ?_
  refine rw_vret d_Message_init_15 rfl ⟨rfl, rfl, ⟨?_, ?_⟩, fun q hq => ?_⟩
  · rw [mup_self]
    rfl
  · exact q1.kept (fun q h1 h2 => mup_ne _ _ (by omega))
  · rw [mup_ne _ _ (by omega), q2 q (by omega), mup_ne _ _ (by omega)]
abbrev MeN (M : mm_M) (a : Nat) : Prop := M a = some (.inr (7, [.int 0, .int 0, .int 0, .ref (a + 1)])) ∧ CpN M (a + 1)
theorem c_memoryInit {a : Nat} (hM : M a = some (.inr (7, [.int 0, .int 0, .int 0, .null]))) : CT l G Y_Memory_init ds_Memory_init (rmA 2 4 62) [.ref a] M (a + 1) (fun r M' sz' => r = none ∧ sz' = a + 5 ∧ MeN M' a ∧ ∀ q, q < a → M' q = M q) := by
  refine CT.of (by decide) (Nat.le_of_ble_eq_true rfl) ?_
  refine rw_aload_n d_Memory_init_0 rfl (by first | exact mm_ref_r _ | exact mm_ref_n | exact mm_ref_o _) ?_
  refine rw_objInit d_Memory_init_1 mL_Memory_1 mI_Object_init cO_init (by decide) (by decide) ?_
  refine rw_aload_n d_Memory_init_4 rfl (by first | exact mm_ref_r _ | exact mm_ref_n | exact mm_ref_o _) ?_
  refine rw_new (N := 6) (kc := 3) (ks := 56) d_Memory_init_5 nN_Memory_7 ?_
  refine rw_dup d_Memory_init_8 rfl ?_
  refine rw_callIN (kc := 0) (ks := 0) (j := 3) (rest := [.ref (a + 1), .ref a]) d_Memory_init_9 (c_copyInit (mup_self _ _ _)) mW_Copy_init rfl mI_Copy_init rfl rfl ⟨by decide, by decide⟩ rfl rfl (Nat.le_of_ble_eq_true rfl) (fun r M1 sz1 hq => ?_)
  obtain ⟨rfl, rfl, q1, q2⟩ := hq
  refine rw_stk (st' := [.ref (a + 1), .ref a]) rfl ?_
  refine rw_put d_Memory_init_12 fQ_Memory_10 ((q2 a (by omega)).trans (mup_get (by omega) hM)) (Nat.le_of_ble_eq_true rfl) (by first | rfl | assumption | decide) (by first | rfl | decide) ?_
  refine rw_vret d_Memory_init_15 rfl ⟨rfl, rfl, ⟨?_, ?_⟩, fun q hq => ?_⟩
  · rw [mup_self]
    rfl
  · exact q1.kept (fun q h1 h2 => mup_ne _ _ (by omega))
  · rw [mup_ne _ _ (by omega), q2 q (by omega), mup_ne _ _ (by omega)]
/-- reports at a: arrays behind it -/
def RpR (M : mm_M) (a N : Nat) (hd en dn : Nat → Int32) (rd : Int32) (ba : Int32) : Prop := M a = some (.inr (8, [.ref (a + 1), .ref (a + 2), .ref (a + 3), .int rd, .int ba])) ∧ M (a + 1) = some (aZ N hd) ∧ M (a + 2) = some (aI N en) ∧ M (a + 3) = some (aI N dn)
theorem c_reportsInit {a N : Nat} (hM : M a = some (.inr (8, [.null, .null, .null, .int 0, .int 0]))) (hN : N < 7) : CT l G Y_Reports_init ds_Reports_init (rmA 1 3 (3 * N)) [.ref a, .int (nI N)] M (a + 1) (fun r M' sz' => r = none ∧ sz' = a + 4 ∧ RpR M' a N (fun _ => 0) (fun _ => 0) (fun _ => 0) 0 0 ∧ ∀ q, q < a → M' q = M q) := by
  have n0 : ¬ nI N < 0 := nI_pos (by omega)
  have nc : (nI N).toNatClampNeg = N := nI_c (by omega)
  refine CT.of (by decide) (Nat.le_of_ble_eq_true rfl) ?_
  refine rw_fewer (kc' := 0 + 1 + 1 + 1) (ks' := 0 + N + N + N) (Nat.le_of_ble_eq_true rfl) (by show 0 + N + N + N ≤ 3 * N; omega) ?_
  refine rw_aload_n d_Reports_init_0 rfl (by first | exact mm_ref_r _ | exact mm_ref_n | exact mm_ref_o _) ?_
  refine rw_objInit d_Reports_init_1 mL_Reports_3 mI_Object_init cO_init (Nat.le_of_ble_eq_true rfl) (Nat.le_of_ble_eq_true rfl) ?_
  refine rw_aload_n d_Reports_init_4 rfl (by first | exact mm_ref_r _ | exact mm_ref_n | exact mm_ref_o _) ?_
  refine rw_iload_n d_Reports_init_5 rfl ?_
  refine rw_newa (t := 1) (N := N) (a0 := (N, .inl (fun _ => 0))) d_Reports_init_6 rfl (by decide) aC_boolean n0 nc (by simp [mm_ty, componentBytes]; omega) (fun _ => rfl) ?_
  refine rw_put d_Reports_init_8 fQ_Reports_9 (mup_get (by omega) hM) (Nat.le_of_ble_eq_true rfl) (by first | rfl | assumption | decide) (by first | rfl | decide) ?_
  refine rw_aload_n d_Reports_init_11 rfl (by first | exact mm_ref_r _ | exact mm_ref_n | exact mm_ref_o _) ?_
  refine rw_iload_n d_Reports_init_12 rfl ?_
  refine rw_newa (t := 0) (N := N) (a0 := (N, .inl (fun _ => 0))) d_Reports_init_13 rfl (by decide) aC_int n0 nc (by simp [mm_ty, componentBytes]; omega) (fun _ => rfl) ?_
  refine rw_put d_Reports_init_15 fQ_Reports_15 (mup_get (by omega) (mup_self _ _ _)) (Nat.le_of_ble_eq_true rfl) (by first | rfl | assumption | decide) (by first | rfl | decide) ?_
  refine rw_aload_n d_Reports_init_18 rfl (by first | exact mm_ref_r _ | exact mm_ref_n | exact mm_ref_o _) ?_
  refine rw_iload_n d_Reports_init_19 rfl ?_
  refine rw_newa (t := 0) (N := N) (a0 := (N, .inl (fun _ => 0))) d_Reports_init_20 rfl (by decide) aC_int n0 nc (by simp [mm_ty, componentBytes]; omega) (fun _ => rfl) ?_
  refine rw_put d_Reports_init_22 fQ_Reports_19 (mup_get (by omega) (mup_self _ _ _)) (Nat.le_of_ble_eq_true rfl) (by first | rfl | assumption | decide) (by first | rfl | decide) ?_
  refine rw_vret d_Reports_init_25 rfl ⟨rfl, rfl, ⟨?_, ?_, ?_, ?_⟩, fun q hq => ?_⟩
  · rw [mup_self]
    rfl
  · simp [mup]
  · simp [mup]
  · simp [mup]
  · rw [mup_ne _ _ (by omega), mup_ne _ _ (by omega), mup_ne _ _ (by omega), mup_ne _ _ (by omega), mup_ne _ _ (by omega), mup_ne _ _ (by omega)]
end CTORS
end
section
/-! Reports, by a node's numbers. -/
/-- sizes of a node's numbers -/
def pBd (x : pN) : Prop := (∀ j, x j ≤ 1000000) ∧ ∀ j, (j = 0 ∨ j = 1 ∨ j = 2 ∨ j = 3 ∨ j = 10 ∨ (20 ≤ j ∧ j < 30)) → x j ≤ 1
def RpP (M : mm_M) (a N : Nat) (x : pN) : Prop := ∃ hd en dn, RpR M a N hd en dn (nI (x 10)) (nI (x 11)) ∧ ∀ m, m < N → hd m = nI (x (20 + m)) ∧ en m = nI (x (30 + m)) ∧ dn m = nI (x (40 + m))
theorem RpP.kept {M M' : mm_M} {a N : Nat} {x : pN} (h : RpP M a N x) (hq : ∀ q, a ≤ q → q < a + 4 → M' q = M q) : RpP M' a N x := by
  obtain ⟨hd, en, dn, ⟨r0, r1, r2, r3⟩, h2⟩ := h
  exact ⟨hd, en, dn, ⟨(hq _ (by omega) (by omega)).trans r0, (hq _ (by omega) (by omega)).trans r1, (hq _ (by omega) (by omega)).trans r2, (hq _ (by omega) (by omega)).trans r3⟩, h2⟩
theorem RpP.same {M : mm_M} {a N : Nat} {x y : pN} (h : RpP M a N x) (h1 : y 10 = x 10) (h2 : y 11 = x 11) (h3 : ∀ m, m < N → y (20 + m) = x (20 + m) ∧ y (30 + m) = x (30 + m) ∧ y (40 + m) = x (40 + m)) : RpP M a N y := by
  obtain ⟨hd, en, dn, hr, h4⟩ := h
  refine ⟨hd, en, dn, by rw [h1, h2]; exact hr, fun m hm => ?_⟩
  obtain ⟨a1, a2, a3⟩ := h3 m hm
  rw [a1, a2, a3]
  exact h4 m hm
section REPORTS
variable {l : Launch} {G : mm_G} {M : mm_M} {sz : Nat}
def RpQ (M : mm_M) (sz a N : Nat) (x : pN) : Option Value → mm_M → Nat → Prop := fun r M' sz' => r = none ∧ sz' = sz ∧ RpP M' a N x ∧ Fr M M' a 4
theorem clear_loop {a N : Nat} {x : pN} {en dn : Nat → Int32} (hN : N < 7) (h3 : ∀ m, m < N → en m = nI (x (30 + m)) ∧ dn m = nI (x (40 + m))) : ∀ (k n : Nat) (M1 : mm_M) (hd : Nat → Int32) (rd ba : Int32), k + n = N → RpR M1 a N hd en dn rd ba → (∀ m, m < n → hd m = 0) → Fr M M1 a 4 →
    RW l G Y_Reports_clear (rm 1) (mm_Z G (rm 1) (RpQ M sz a N (pClear x))) 0 0 2 [(0, .ref a), (1, .int (nI n))] [] M1 sz := by
  intro k
  induction k with
  | zero =>
    intro n M1 hd rd ba hn hr hz hF
    obtain ⟨r0, r1, r2, r3⟩ := id hr
    refine rw_iload_n d_Reports_clear_2 rfl ?_
    refine rw_aload_n d_Reports_clear_3 rfl (by first | exact mm_ref_r _ | exact mm_ref_n | exact mm_ref_o _) ?_
    refine rw_get d_Reports_clear_4 fF_Reports_9 r0 rfl ?_
    refine rw_alen d_Reports_clear_7 r1 (by decide) rfl ?_
    refine rw_icmp_ge_t (tgt := 24) d_Reports_clear_8 (by decide) (nI_le (a := N) (b := n) (by omega) (by omega)) ?_
    refine rw_aload_n d_Reports_clear_24 rfl (by first | exact mm_ref_r _ | exact mm_ref_n | exact mm_ref_o _) ?_
    refine rw_iconst (v := 0) d_Reports_clear_25 (by decide) ?_
    refine rw_put d_Reports_clear_26 (fP_Reports_22 _) r0 (Nat.le_of_ble_eq_true rfl) (by first | rfl | assumption | decide) (by first | rfl | decide) ?_
    refine rw_aload_n d_Reports_clear_29 rfl (by first | exact mm_ref_r _ | exact mm_ref_n | exact mm_ref_o _) ?_
    refine rw_iconst (v := 0) d_Reports_clear_30 (by decide) ?_
    refine rw_put d_Reports_clear_31 (fP_Reports_26 _) (mup_self _ _ _) (Nat.le_of_ble_eq_true rfl) (by first | rfl | assumption | decide) (by first | rfl | decide) ?_
    refine rw_vret d_Reports_clear_34 rfl ⟨rfl, rfl, ⟨hd, en, dn, ⟨?_, ?_, ?_, ?_⟩, fun m hm => ⟨?_, ?_, ?_⟩⟩, Fr.mup (Fr.mup hF (by omega) (by omega)) (by omega) (by omega)⟩
    · rw [mup_self]
      rfl
    · simp [mup, r1]
    · simp [mup, r2]
    · simp [mup, r3]
    · rw [hz m (by omega), pClear, if_pos (by omega)]
      rfl
    · rw [(h3 m hm).1, pClear, if_neg (by omega)]
    · rw [(h3 m hm).2, pClear, if_neg (by omega)]
  | succ k ih =>
    intro n M1 hd rd ba hn hr hz hF
    obtain ⟨r0, r1, r2, r3⟩ := id hr
    have hin : vp_in (nI n) N := vp_in_nI (by omega) (by omega)
    have hic : (nI n).toNatClampNeg = n := nI_c (by omega)
    refine rw_iload_n d_Reports_clear_2 rfl ?_
    refine rw_aload_n d_Reports_clear_3 rfl (by first | exact mm_ref_r _ | exact mm_ref_n | exact mm_ref_o _) ?_
    refine rw_get d_Reports_clear_4 fF_Reports_9 r0 rfl ?_
    refine rw_alen d_Reports_clear_7 r1 (by decide) rfl ?_
    refine rw_icmp_ge_f (tgt := 24) d_Reports_clear_8 (by decide) (nI_ge (a := n) (b := N) (by omega) (by omega)) ?_
    refine rw_aload_n d_Reports_clear_11 rfl (by first | exact mm_ref_r _ | exact mm_ref_n | exact mm_ref_o _) ?_
    refine rw_get d_Reports_clear_12 fF_Reports_9 r0 rfl ?_
    refine rw_iload_n d_Reports_clear_15 rfl ?_
    refine rw_iconst (v := 0) d_Reports_clear_16 (by decide) ?_
    refine rw_zast d_Reports_clear_17 r1 hin (by first | rfl | assumption | decide) ?_
    rw [hic]
    refine rw_iinc d_Reports_clear_18 (by decide) rfl rfl rfl ?_
    refine rw_lv (lv' := [(0, .ref a), (1, .int (nI (n + 1)))]) (by rw [← nI_1]; intro q hq; simp at hq; rcases hq with rfl | rfl <;> rfl) ?_
    refine rw_goto (tgt := 2) d_Reports_clear_21 (by decide) ?_
    refine ih (n + 1) _ (upd hd n 0) rd ba (by omega) ⟨?_, ?_, ?_, ?_⟩ (fun m hm => ?_) (Fr.mup hF (by omega) (by omega))
    · simp [mup, r0]
    · simp [mup]
    · simp [mup, r2]
    · simp [mup, r3]
    · by_cases q : m = n
      · simp [upd, q]
      · simp only [upd, if_neg q]
        exact hz m (by omega)
theorem c_clear {a N : Nat} {x : pN} (hN : N < 7) (hR : RpP M a N x) : CT l G Y_Reports_clear ds_Reports_clear (rm 1) [.ref a] M sz (RpQ M sz a N (pClear x)) := by
  obtain ⟨hd, en, dn, hr, h2⟩ := hR
  refine CT.of (by decide) (Nat.le_of_ble_eq_true rfl) ?_
  refine rw_iconst (v := 0) d_Reports_clear_0 (by decide) ?_
  refine rw_istore_n d_Reports_clear_1 (by decide) rfl ?_
  refine rw_lv (lv' := [(0, .ref a), (1, .int (nI 0))]) (by intro q hq; simp at hq; rcases hq with rfl | rfl <;> rfl) ?_
  exact clear_loop hN (fun m hm => (h2 m hm).2) N 0 M hd _ _ (by omega) hr (fun m hm => by omega) Fr.rf
theorem c_note {a N n b d : Nat} {x : pN} (hN : N < 7) (hn : n < N) (hR : RpP M a N x) : CT l G Y_Reports_note ds_Reports_note (rm 1) [.ref a, .int (nI n), .int (nI b), .int (nI d)] M sz (RpQ M sz a N (pNote x n b d)) := by
  obtain ⟨hd, en, dn, ⟨r0, r1, r2, r3⟩, h2⟩ := hR
  have hin : vp_in (nI n) N := vp_in_nI hn (by omega)
  have hic : (nI n).toNatClampNeg = n := nI_c (by omega)
  refine CT.of (by decide) (Nat.le_of_ble_eq_true rfl) ?_
  refine rw_iload_n d_Reports_note_0 rfl ?_
  refine rw_if_lt_f (tgt := 34) d_Reports_note_1 (by decide) (nI_pos (by omega)) ?_
  refine rw_iload_n d_Reports_note_4 rfl ?_
  refine rw_aload_n d_Reports_note_5 rfl (by first | exact mm_ref_r _ | exact mm_ref_n | exact mm_ref_o _) ?_
  refine rw_get d_Reports_note_6 fF_Reports_9 r0 rfl ?_
  refine rw_alen d_Reports_note_9 r1 (by decide) rfl ?_
  refine rw_icmp_ge_f (tgt := 34) d_Reports_note_10 (by decide) (nI_ge (a := n) (b := N) (by omega) (by omega)) ?_
  refine rw_aload_n d_Reports_note_13 rfl (by first | exact mm_ref_r _ | exact mm_ref_n | exact mm_ref_o _) ?_
  refine rw_get d_Reports_note_14 fF_Reports_9 r0 rfl ?_
  refine rw_iload_n d_Reports_note_17 rfl ?_
  refine rw_iconst (v := 1) d_Reports_note_18 (by decide) ?_
  refine rw_zast d_Reports_note_19 r1 hin (by first | rfl | assumption | decide) ?_
  refine rw_aload_n d_Reports_note_20 rfl (by first | exact mm_ref_r _ | exact mm_ref_n | exact mm_ref_o _) ?_
  refine rw_get d_Reports_note_21 fF_Reports_15 (mup_get (by omega) r0) rfl ?_
  refine rw_iload_n d_Reports_note_24 rfl ?_
  refine rw_iload_n d_Reports_note_25 rfl ?_
  refine rw_iast d_Reports_note_26 (mup_get (by omega) r2) hin ?_
  refine rw_aload_n d_Reports_note_27 rfl (by first | exact mm_ref_r _ | exact mm_ref_n | exact mm_ref_o _) ?_
  refine rw_get d_Reports_note_28 fF_Reports_19 (mup_get (by omega) (mup_get (by omega) r0)) rfl ?_
  refine rw_iload_n d_Reports_note_31 rfl ?_
  refine rw_iload_n d_Reports_note_32 rfl ?_
  refine rw_iast d_Reports_note_33 (mup_get (by omega) (mup_get (by omega) r3)) hin ?_
  rw [hic]
  refine rw_vret d_Reports_note_34 rfl ⟨rfl, rfl, ⟨upd hd n 1, upd en n (nI b), upd dn n (nI d), ⟨?_, ?_, ?_, ?_⟩, fun m hm => ?_⟩, Fr.mup (Fr.mup (Fr.mup Fr.rf (by omega) (by omega)) (by omega) (by omega)) (by omega) (by omega)⟩
  · rw [show pNote x n b d 10 = x 10 by rw [pNote, if_neg (by omega), if_neg (by omega), if_neg (by omega)], show pNote x n b d 11 = x 11 by rw [pNote, if_neg (by omega), if_neg (by omega), if_neg (by omega)]]
    simp [mup, r0]
  · simp [mup]
  · simp [mup]
  · simp [mup]
  · obtain ⟨a1, a2, a3⟩ := h2 m hm
    by_cases q : m = n
    · subst q
      refine ⟨?_, ?_, ?_⟩
      · rw [pNote, if_pos rfl]
        simp [upd]
        rfl
      · rw [pNote, if_neg (by omega), if_pos rfl]
        simp [upd]
      · rw [pNote, if_neg (by omega), if_neg (by omega), if_pos rfl]
        simp [upd]
    · refine ⟨?_, ?_, ?_⟩
      · rw [pNote, if_neg (by omega), if_neg (by omega), if_neg (by omega)]
        simp [upd, q, a1]
      · rw [pNote, if_neg (by omega), if_neg (by omega), if_neg (by omega)]
        simp [upd, q, a2]
      · rw [pNote, if_neg (by omega), if_neg (by omega), if_neg (by omega)]
        simp [upd, q, a3]
def NuQ (M : mm_M) (sz v : Nat) : Option Value → mm_M → Nat → Prop := fun r M' sz' => r = some (.int (nI v)) ∧ M' = M ∧ sz' = sz
theorem pSize_le (x : pN) : ∀ N, pSize N x ≤ N := by
  intro N
  induction N with
  | zero => exact Nat.le_refl _
  | succ n ih =>
    unfold pSize
    split <;> omega
theorem size_loop {a N : Nat} {x : pN} (hN : N < 7) (hR : RpP M a N x) (hb : pBd x) : ∀ (k n : Nat), k + n = N → RW l G Y_Reports_size (rm 1) (mm_Z G (rm 1) (NuQ M sz (pSize N x))) 0 0 4 [(0, .ref a), (1, .int (nI (pSize n x))), (2, .int (nI n))] [] M sz := by
  obtain ⟨hd, en, dn, ⟨r0, r1, r2, r3⟩, h2⟩ := hR
  intro k
  induction k with
  | zero =>
    intro n hn
    have : n = N := by omega
    subst this
    refine rw_iload_n d_Reports_size_4 rfl ?_
    refine rw_aload_n d_Reports_size_5 rfl (by first | exact mm_ref_r _ | exact mm_ref_n | exact mm_ref_o _) ?_
    refine rw_get d_Reports_size_6 fF_Reports_9 r0 rfl ?_
    refine rw_alen d_Reports_size_9 r1 (by decide) rfl ?_
    refine rw_icmp_ge_t (tgt := 31) d_Reports_size_10 (by decide) (nI_le (a := n) (b := n) (by omega) (by omega)) ?_
    refine rw_iload_n d_Reports_size_31 rfl ?_
    exact rw_iret d_Reports_size_32 rfl ⟨rfl, rfl, rfl⟩
  | succ k ih =>
    intro n hn
    have hin : vp_in (nI n) N := vp_in_nI (by omega) (by omega)
    have hic : (nI n).toNatClampNeg = n := nI_c (by omega)
    have hx1 := hb.2 (20 + n) (by omega)
    refine rw_iload_n d_Reports_size_4 rfl ?_
    refine rw_aload_n d_Reports_size_5 rfl (by first | exact mm_ref_r _ | exact mm_ref_n | exact mm_ref_o _) ?_
    refine rw_get d_Reports_size_6 fF_Reports_9 r0 rfl ?_
    refine rw_alen d_Reports_size_9 r1 (by decide) rfl ?_
    refine rw_icmp_ge_f (tgt := 31) d_Reports_size_10 (by decide) (nI_ge (a := n) (b := N) (by omega) (by omega)) ?_
    refine rw_aload_n d_Reports_size_13 rfl (by first | exact mm_ref_r _ | exact mm_ref_n | exact mm_ref_o _) ?_
    refine rw_get d_Reports_size_14 fF_Reports_9 r0 rfl ?_
    refine rw_iload_n d_Reports_size_17 rfl ?_
    refine rw_zald d_Reports_size_18 r1 hin ?_
    rw [hic, (h2 n (by omega)).1]
    rcases (show x (20 + n) = 0 ∨ x (20 + n) = 1 by omega) with q | q
    · rw [q]
      refine rw_if_eq_t (tgt := 25) d_Reports_size_19 (by decide) (rfl) ?_
      refine rw_iinc d_Reports_size_25 (by decide) rfl rfl rfl ?_
      refine rw_lv (lv' := [(0, .ref a), (1, .int (nI (pSize (n + 1) x))), (2, .int (nI (n + 1)))]) (by rw [← nI_1, show pSize (n + 1) x = pSize n x by simp [pSize, q]]; intro q hq; simp at hq; rcases hq with rfl | rfl | rfl <;> rfl) ?_
      refine rw_goto (tgt := 4) d_Reports_size_28 (by decide) ?_
      exact ih (n + 1) (by omega)
    · rw [q]
      refine rw_if_eq_f (tgt := 25) d_Reports_size_19 (by decide) (by decide) ?_
      refine rw_iinc d_Reports_size_22 (by decide) rfl rfl rfl ?_
      refine rw_iinc d_Reports_size_25 (by decide) rfl rfl rfl ?_
      refine rw_lv (lv' := [(0, .ref a), (1, .int (nI (pSize (n + 1) x))), (2, .int (nI (n + 1)))]) (by rw [← nI_1, show pSize (n + 1) x = pSize n x + 1 by simp [pSize, q], ← nI_1]; intro q hq; simp at hq; rcases hq with rfl | rfl | rfl <;> rfl) ?_
      refine rw_goto (tgt := 4) d_Reports_size_28 (by decide) ?_
      exact ih (n + 1) (by omega)
theorem c_size {a N : Nat} {x : pN} (hN : N < 7) (hR : RpP M a N x) (hb : pBd x) : CT l G Y_Reports_size ds_Reports_size (rm 1) [.ref a] M sz (NuQ M sz (pSize N x)) := by
  refine CT.of (by decide) (Nat.le_of_ble_eq_true rfl) ?_
  refine rw_iconst (v := 0) d_Reports_size_0 (by decide) ?_
  refine rw_istore_n d_Reports_size_1 (by decide) rfl ?_
  refine rw_iconst (v := 0) d_Reports_size_2 (by decide) ?_
  refine rw_istore_n d_Reports_size_3 (by decide) rfl ?_
  refine rw_lv (lv' := [(0, .ref a), (1, .int (nI (pSize 0 x))), (2, .int (nI 0))]) (by intro q hq; simp at hq; rcases hq with rfl | rfl | rfl <;> rfl) ?_
  exact size_loop hN hR hb N 0 (by omega)
theorem pFar_lt (x : pN) {self : Nat} : ∀ N, pFar N x self = self ∨ pFar N x self < N := by
  intro N
  induction N with
  | zero => exact Or.inl rfl
  | succ n ih =>
    unfold pFar
    split
    · exact Or.inr (by omega)
    · exact ih.imp id (fun z => by omega)
theorem far_loop {a N self : Nat} {x : pN} (hN : N < 7) (hs : self < N) (hR : RpP M a N x) (hb : pBd x) : ∀ (k n : Nat), k + n = N → RW l G Y_Reports_furthest (rm 1) (mm_Z G (rm 1) (NuQ M sz (pFar N x self))) 0 0 4 [(0, .ref a), (2, .int (nI (pFar n x self))), (3, .int (nI n))] [] M sz := by
  obtain ⟨hd, en, dn, ⟨r0, r1, r2, r3⟩, h2⟩ := hR
  intro k
  induction k with
  | zero =>
    intro n hn
    have : n = N := by omega
    subst this
    refine rw_iload_n d_Reports_furthest_4 rfl ?_
    refine rw_aload_n d_Reports_furthest_5 rfl (by first | exact mm_ref_r _ | exact mm_ref_n | exact mm_ref_o _) ?_
    refine rw_get d_Reports_furthest_6 fF_Reports_9 r0 rfl ?_
    refine rw_alen d_Reports_furthest_9 r1 (by decide) rfl ?_
    refine rw_icmp_ge_t (tgt := 45) d_Reports_furthest_10 (by decide) (nI_le (a := n) (b := n) (by omega) (by omega)) ?_
    refine rw_iload_n d_Reports_furthest_45 rfl ?_
    exact rw_iret d_Reports_furthest_46 rfl ⟨rfl, rfl, rfl⟩
  | succ k ih =>
    intro n hn
    have hin : vp_in (nI n) N := vp_in_nI (by omega) (by omega)
    have hic : (nI n).toNatClampNeg = n := nI_c (by omega)
    have hx1 := hb.2 (20 + n) (by omega)
    have hbn : pFar n x self < N := by rcases pFar_lt x (self := self) n with z | z <;> omega
    have hin2 : vp_in (nI (pFar n x self)) N := vp_in_nI hbn (by omega)
    have hic2 : (nI (pFar n x self)).toNatClampNeg = pFar n x self := nI_c (by omega)
    have b1 := hb.1 (30 + n)
    have b2 := hb.1 (30 + pFar n x self)
    have skip : pFar (n + 1) x self = pFar n x self → RW l G Y_Reports_furthest (rm 1) (mm_Z G (rm 1) (NuQ M sz (pFar N x self))) 0 0 39 [(0, .ref a), (2, .int (nI (pFar n x self))), (3, .int (nI n))] [] M sz := by
      intro e
      refine rw_iinc d_Reports_furthest_39 (by decide) rfl rfl rfl ?_
      refine rw_lv (lv' := [(0, .ref a), (2, .int (nI (pFar (n + 1) x self))), (3, .int (nI (n + 1)))]) (by rw [← nI_1, e]; intro q hq; simp at hq; rcases hq with rfl | rfl | rfl <;> rfl) ?_
      refine rw_goto (tgt := 4) d_Reports_furthest_42 (by decide) ?_
      exact ih (n + 1) (by omega)
    refine rw_iload_n d_Reports_furthest_4 rfl ?_
    refine rw_aload_n d_Reports_furthest_5 rfl (by first | exact mm_ref_r _ | exact mm_ref_n | exact mm_ref_o _) ?_
    refine rw_get d_Reports_furthest_6 fF_Reports_9 r0 rfl ?_
    refine rw_alen d_Reports_furthest_9 r1 (by decide) rfl ?_
    refine rw_icmp_ge_f (tgt := 45) d_Reports_furthest_10 (by decide) (nI_ge (a := n) (b := N) (by omega) (by omega)) ?_
    refine rw_aload_n d_Reports_furthest_13 rfl (by first | exact mm_ref_r _ | exact mm_ref_n | exact mm_ref_o _) ?_
    refine rw_get d_Reports_furthest_14 fF_Reports_9 r0 rfl ?_
    refine rw_iload_n d_Reports_furthest_17 rfl ?_
    refine rw_zald d_Reports_furthest_18 r1 hin ?_
    rw [hic, (h2 n (by omega)).1]
    rcases (show x (20 + n) = 0 ∨ x (20 + n) = 1 by omega) with q | q
    · rw [q]
      refine rw_if_eq_t (tgt := 39) d_Reports_furthest_19 (by decide) (rfl) ?_
      exact skip (by simp [pFar, q])
    · rw [q]
      refine rw_if_eq_f (tgt := 39) d_Reports_furthest_19 (by decide) (by decide) ?_
      refine rw_aload_n d_Reports_furthest_22 rfl (by first | exact mm_ref_r _ | exact mm_ref_n | exact mm_ref_o _) ?_
      refine rw_get d_Reports_furthest_23 fF_Reports_15 r0 rfl ?_
      refine rw_iload_n d_Reports_furthest_26 rfl ?_
      refine rw_iald d_Reports_furthest_27 r2 hin ?_
      refine rw_aload_n d_Reports_furthest_28 rfl (by first | exact mm_ref_r _ | exact mm_ref_n | exact mm_ref_o _) ?_
      refine rw_get d_Reports_furthest_29 fF_Reports_15 r0 rfl ?_
      refine rw_iload_n d_Reports_furthest_32 rfl ?_
      refine rw_iald d_Reports_furthest_33 r2 hin2 ?_
      rw [hic, hic2, (h2 n (by omega)).2.1, (h2 _ hbn).2.1]
      refine rw_icmp_le (tgt := 39) d_Reports_furthest_34 (by decide) (fun q2 => ?_) (fun q2 => ?_)
      · rw [nI_leI (by omega) (by omega)] at q2
        exact skip (by rw [pFar, if_neg (fun z => by omega)])
      · rw [nI_leI (by omega) (by omega)] at q2
        refine rw_iload_n d_Reports_furthest_37 rfl ?_
        refine rw_istore_n d_Reports_furthest_38 (by decide) rfl ?_
        refine rw_iinc d_Reports_furthest_39 (by decide) rfl rfl rfl ?_
        refine rw_lv (lv' := [(0, .ref a), (2, .int (nI (pFar (n + 1) x self))), (3, .int (nI (n + 1)))]) (by rw [← nI_1, show pFar (n + 1) x self = n by rw [pFar, if_pos ⟨q, by omega⟩]]; intro q hq; simp at hq; rcases hq with rfl | rfl | rfl <;> rfl) ?_
        refine rw_goto (tgt := 4) d_Reports_furthest_42 (by decide) ?_
        exact ih (n + 1) (by omega)
theorem c_furthest {a N self : Nat} {x : pN} (hN : N < 7) (hs : self < N) (hR : RpP M a N x) (hb : pBd x) : CT l G Y_Reports_furthest ds_Reports_furthest (rm 1) [.ref a, .int (nI self)] M sz (NuQ M sz (pFar N x self)) := by
  refine CT.of (by decide) (Nat.le_of_ble_eq_true rfl) ?_
  refine rw_iload_n d_Reports_furthest_0 rfl ?_
  refine rw_istore_n d_Reports_furthest_1 (by decide) rfl ?_
  refine rw_iconst (v := 0) d_Reports_furthest_2 (by decide) ?_
  refine rw_istore_n d_Reports_furthest_3 (by decide) rfl ?_
  refine rw_lv (lv' := [(0, .ref a), (2, .int (nI (pFar 0 x self))), (3, .int (nI 0))]) (by intro q hq; simp at hq; rcases hq with rfl | rfl | rfl <;> rfl) ?_
  exact far_loop hN hs hR hb N 0 (by omega)
theorem pAgr_le (mask : Nat) (x : pN) : ∀ N, pAgr mask N x ≤ 512 := by
  intro N
  induction N with
  | zero => exact Nat.le_refl _
  | succ n ih =>
    unfold pAgr
    split
    · omega
    · exact ih
theorem agr_loop {a N mask : Nat} {x : pN} (hN : N < 7) (hk : mask < 64) (hR : RpP M a N x) (hb : pBd x) : ∀ (k n : Nat), k + n = N → RW l G Y_Reports_agreed (rm 2) (mm_Z G (rm 2) (NuQ M sz (pAgr mask N x))) 0 0 6 [(0, .ref a), (1, .int (nI mask)), (2, .int (nI (pAgr mask n x))), (3, .int (nI n))] [] M sz := by
  obtain ⟨hd, en, dn, ⟨r0, r1, r2, r3⟩, h2⟩ := hR
  intro k
  induction k with
  | zero =>
    intro n hn
    have : n = N := by omega
    subst this
    refine rw_iload_n d_Reports_agreed_6 rfl ?_
    refine rw_aload_n d_Reports_agreed_7 rfl (by first | exact mm_ref_r _ | exact mm_ref_n | exact mm_ref_o _) ?_
    refine rw_get d_Reports_agreed_8 fF_Reports_9 r0 rfl ?_
    refine rw_alen d_Reports_agreed_11 r1 (by decide) rfl ?_
    refine rw_icmp_ge_t (tgt := 53) d_Reports_agreed_12 (by decide) (nI_le (a := n) (b := n) (by omega) (by omega)) ?_
    refine rw_iload_n d_Reports_agreed_53 rfl ?_
    exact rw_iret d_Reports_agreed_54 rfl ⟨rfl, rfl, rfl⟩
  | succ k ih =>
    intro n hn
    have hin : vp_in (nI n) N := vp_in_nI (by omega) (by omega)
    have hic : (nI n).toNatClampNeg = n := nI_c (by omega)
    have hx1 := hb.2 (20 + n) (by omega)
    have b1 := hb.1 (30 + n)
    have b2 := pAgr_le mask x n
    refine rw_iload_n d_Reports_agreed_6 rfl ?_
    refine rw_aload_n d_Reports_agreed_7 rfl (by first | exact mm_ref_r _ | exact mm_ref_n | exact mm_ref_o _) ?_
    refine rw_get d_Reports_agreed_8 fF_Reports_9 r0 rfl ?_
    refine rw_alen d_Reports_agreed_11 r1 (by decide) rfl ?_
    refine rw_icmp_ge_f (tgt := 53) d_Reports_agreed_12 (by decide) (nI_ge (a := n) (b := N) (by omega) (by omega)) ?_
    refine rw_iload_n d_Reports_agreed_15 rfl ?_
    refine rw_iload_n d_Reports_agreed_16 rfl ?_
    refine rw_iushr d_Reports_agreed_17 rfl ?_
    refine rw_iconst (v := 1) d_Reports_agreed_18 (by decide) ?_
    refine rw_iand d_Reports_agreed_19 ?_
    refine rw_if_eq (tgt := 47) d_Reports_agreed_20 (by decide) (fun q => ?_) (fun q => ?_)
    · rw [bit_val mask hk n (by omega)] at q
      refine rw_iinc d_Reports_agreed_47 (by decide) rfl rfl rfl ?_
      refine rw_lv (lv' := [(0, .ref a), (1, .int (nI mask)), (2, .int (nI (pAgr mask (n + 1) x))), (3, .int (nI (n + 1)))]) (by rw [← nI_1, show pAgr mask (n + 1) x = pAgr mask n x by simp [pAgr, q]]; intro q hq; simp at hq; rcases hq with rfl | rfl | rfl | rfl <;> rfl) ?_
      refine rw_goto (tgt := 6) d_Reports_agreed_50 (by decide) ?_
      exact ih (n + 1) (by omega)
    · rw [bit_val mask hk n (by omega), Classical.not_not] at q
      refine rw_iload_n d_Reports_agreed_23 rfl ?_
      refine rw_aload_n d_Reports_agreed_24 rfl (by first | exact mm_ref_r _ | exact mm_ref_n | exact mm_ref_o _) ?_
      refine rw_get d_Reports_agreed_25 fF_Reports_9 r0 rfl ?_
      refine rw_iload_n d_Reports_agreed_28 rfl ?_
      refine rw_zald d_Reports_agreed_29 r1 hin ?_
      rw [hic, (h2 n (by omega)).1]
      have join : ∀ v, v = (if x (20 + n) = 1 then x (30 + n) else 0) → RW l G Y_Reports_agreed (rm 2) (mm_Z G (rm 2) (NuQ M sz (pAgr mask N x))) 0 0 43 [(0, .ref a), (1, .int (nI mask)), (2, .int (nI (pAgr mask n x))), (3, .int (nI n))] [.int (nI v), .int (nI (pAgr mask n x))] M sz := by
        intro v hv
        have hvb : v < 2147483648 := by rw [hv]; split <;> omega
        refine rw_callS (kc := 0) (ks := 0) (rest := []) d_Reports_agreed_43 (c_min (x := nI (pAgr mask n x)) (y := nI v)) mW_Math_min mL_Reports_30 mS_Math_min ⟨by decide, by decide⟩ rfl rfl (Nat.le_of_ble_eq_true rfl) (fun r M1 sz1 hq => ?_)
        obtain ⟨rfl, rfl, rfl⟩ := hq
        rw [nI_min (by omega) hvb]
        refine rw_stk (st' := [.int (nI (min (pAgr mask n x) v))]) rfl ?_
        refine rw_istore_n d_Reports_agreed_46 (by decide) rfl ?_
        refine rw_iinc d_Reports_agreed_47 (by decide) rfl rfl rfl ?_
        refine rw_lv (lv' := [(0, .ref a), (1, .int (nI mask)), (2, .int (nI (pAgr mask (n + 1) x))), (3, .int (nI (n + 1)))]) (by rw [← nI_1, show pAgr mask (n + 1) x = min (pAgr mask n x) v by rw [hv]; simp [pAgr, q]]; intro q hq; simp at hq; rcases hq with rfl | rfl | rfl | rfl <;> rfl) ?_
        refine rw_goto (tgt := 6) d_Reports_agreed_50 (by decide) ?_
        exact ih (n + 1) (by omega)
      rcases (show x (20 + n) = 0 ∨ x (20 + n) = 1 by omega) with q1 | q1
      · rw [q1]
        refine rw_if_eq_t (tgt := 42) d_Reports_agreed_30 (by decide) (rfl) ?_
        refine rw_iconst (v := 0) d_Reports_agreed_42 (by decide) ?_
        exact join 0 (by rw [if_neg (by omega)])
      · rw [q1]
        refine rw_if_eq_f (tgt := 42) d_Reports_agreed_30 (by decide) (by decide) ?_
        refine rw_aload_n d_Reports_agreed_33 rfl (by first | exact mm_ref_r _ | exact mm_ref_n | exact mm_ref_o _) ?_
        refine rw_get d_Reports_agreed_34 fF_Reports_15 r0 rfl ?_
        refine rw_iload_n d_Reports_agreed_37 rfl ?_
        refine rw_iald d_Reports_agreed_38 r2 hin ?_
        refine rw_goto (tgt := 43) d_Reports_agreed_39 (by decide) ?_
        rw [hic, (h2 n (by omega)).2.1]
        exact join (x (30 + n)) (by rw [if_pos q1])
theorem c_agreed {a N mask : Nat} {x : pN} (hN : N < 7) (hk : mask < 64) (hR : RpP M a N x) (hb : pBd x) : CT l G Y_Reports_agreed ds_Reports_agreed (rm 2) [.ref a, .int (nI mask)] M sz (NuQ M sz (pAgr mask N x)) := by
  refine CT.of (by decide) (Nat.le_of_ble_eq_true rfl) ?_
  refine rw_sipush (v := 512) d_Reports_agreed_0 (by decide) ?_
  refine rw_istore_n d_Reports_agreed_3 (by decide) rfl ?_
  refine rw_iconst (v := 0) d_Reports_agreed_4 (by decide) ?_
  refine rw_istore_n d_Reports_agreed_5 (by decide) rfl ?_
  refine rw_lv (lv' := [(0, .ref a), (1, .int (nI mask)), (2, .int (nI (pAgr mask 0 x))), (3, .int (nI 0))]) (by intro q hq; simp at hq; rcases hq with rfl | rfl | rfl | rfl <;> rfl) ?_
  exact agr_loop hN hk hR hb N 0 (by omega)
end REPORTS
end
section
/-! Memory. -/
section MEMORY
variable {l : Launch} {G : mm_G} {sz : Nat} {ca : Nat → Nat} {cm : Nat → pCm} {g : Nat}
abbrev meO (a : Nat) (e k l : Int32) : va_E := .inr (7, [.int e, .int k, .int l, .ref (a + 1)])
/-- a memory at a: epoch ep, done d, end b -/
def MeP (M : mm_M) (ca : Nat → Nat) (cm : Nat → pCm) (g : Nat) (E : pE) (a ep d b : Nat) : Prop := M a = some (meO a (nI ep) (nI (eM E ep)) (gI (eL E ep))) ∧ CpP 2 M ca cm g (a + 1) d b
theorem MeP.kept {M M' : mm_M} {E : pE} {a ep d b : Nat} (h : MeP M ca cm g E a ep d b) (hq : ∀ q, a ≤ q → q < a + 5 → M' q = M q) : MeP M' ca cm g E a ep d b := ⟨(hq _ (by omega) (by omega)).trans h.1, h.2.kept (fun q h1 h2 => hq q (by omega) (by omega))⟩
theorem c_enter {M : mm_M} {a : Nat} {e k z e' k' z' : Int32} (hM : M a = some (meO a e k z)) : CT l G Y_Memory_enter ds_Memory_enter (rm 1) [.ref a, .int e', .int k', .int z'] M sz (fun r M' sz' => r = none ∧ sz' = sz ∧ M' a = some (meO a e' k' z') ∧ ∀ q, q ≠ a → M' q = M q) := by
  refine CT.of (by decide) (Nat.le_of_ble_eq_true rfl) ?_
  refine rw_aload_n d_Memory_enter_0 rfl (by first | exact mm_ref_r _ | exact mm_ref_n | exact mm_ref_o _) ?_
  refine rw_iload_n d_Memory_enter_1 rfl ?_
  refine rw_put d_Memory_enter_2 (fP_Memory_16 _) hM (Nat.le_of_ble_eq_true rfl) (by first | rfl | assumption | decide) (by first | rfl | decide) ?_
  refine rw_aload_n d_Memory_enter_5 rfl (by first | exact mm_ref_r _ | exact mm_ref_n | exact mm_ref_o _) ?_
  refine rw_iload_n d_Memory_enter_6 rfl ?_
  refine rw_put d_Memory_enter_7 (fP_Memory_20 _) (mup_self _ _ _) (Nat.le_of_ble_eq_true rfl) (by first | rfl | assumption | decide) (by first | rfl | decide) ?_
  refine rw_aload_n d_Memory_enter_10 rfl (by first | exact mm_ref_r _ | exact mm_ref_n | exact mm_ref_o _) ?_
  refine rw_iload_n d_Memory_enter_11 rfl ?_
  refine rw_put d_Memory_enter_12 (fP_Memory_23 _) (mup_self _ _ _) (Nat.le_of_ble_eq_true rfl) (by first | rfl | assumption | decide) (by first | rfl | decide) ?_
  refine rw_vret d_Memory_enter_15 rfl ⟨rfl, rfl, ?_, fun q hq => ?_⟩
  · rw [mup_self]
    rfl
  · rw [mup_ne _ _ hq, mup_ne _ _ hq, mup_ne _ _ hq]
theorem c_keeps {M : mm_M} {a n mask : Nat} {e z : Int32} (hM : M a = some (meO a e (nI mask) z)) (hm : mask < 64) (hn : n < 7) : CT l G Y_Memory_keeps ds_Memory_keeps (rm 1) [.ref a, .int (nI n)] M sz (fun r M' sz' => r = some (.int (bI (mask.testBit n))) ∧ M' = M ∧ sz' = sz) := by
  refine CT.of (by decide) (Nat.le_of_ble_eq_true rfl) ?_
  refine rw_aload_n d_Memory_keeps_0 rfl (by first | exact mm_ref_r _ | exact mm_ref_n | exact mm_ref_o _) ?_
  refine rw_get d_Memory_keeps_1 fF_Memory_20 hM rfl ?_
  refine rw_iload_n d_Memory_keeps_4 rfl ?_
  refine rw_iushr d_Memory_keeps_5 rfl ?_
  refine rw_iconst (v := 1) d_Memory_keeps_6 (by decide) ?_
  refine rw_iand d_Memory_keeps_7 ?_
  refine rw_if_eq (tgt := 15) d_Memory_keeps_8 (by decide) (fun q => ?_) (fun q => ?_)
  · rw [bit_val mask hm n hn] at q
    refine rw_iconst (v := 0) d_Memory_keeps_15 (by decide) ?_
    refine rw_zret d_Memory_keeps_16 rfl rfl ⟨?_, rfl, rfl⟩
    rw [show mask.testBit n = false by simpa using q]
    rfl
  · rw [bit_val mask hm n hn, Classical.not_not] at q
    refine rw_iconst (v := 1) d_Memory_keeps_11 (by decide) ?_
    refine rw_goto (tgt := 16) d_Memory_keeps_12 (by decide) ?_
    refine rw_zret d_Memory_keeps_16 rfl rfl ⟨?_, rfl, rfl⟩
    rw [q]
    rfl
theorem c_become {M : mm_M} {E : pE} {a o ep d b d0 b0 : Nat} {e k z : Int32} (hA : CmA M ca cm g) (hS : M a = some (meO a e k z)) (hS2 : CpP 0 M ca cm g (a + 1) d0 b0) (hO : MeP M ca cm g E o ep d b) (hao : o + 5 ≤ a ∨ a + 5 ≤ o) (hca : ∀ i, i < g → ca i ≠ a) :
    CT l G Y_Memory_become ds_Memory_become (rm 2) [.ref a, .ref o] M sz (fun r M' sz' => r = none ∧ sz' = sz ∧ MeP M' ca cm g E a ep d b ∧ Fr M M' a 5) := by
  refine CT.of (by decide) (Nat.le_of_ble_eq_true rfl) ?_
  refine rw_aload_n d_Memory_become_0 rfl (by first | exact mm_ref_r _ | exact mm_ref_n | exact mm_ref_o _) ?_
  refine rw_aload_n d_Memory_become_1 rfl (by first | exact mm_ref_r _ | exact mm_ref_n | exact mm_ref_o _) ?_
  refine rw_get d_Memory_become_2 fF_Memory_16 hO.1 rfl ?_
  refine rw_aload_n d_Memory_become_5 rfl (by first | exact mm_ref_r _ | exact mm_ref_n | exact mm_ref_o _) ?_
  refine rw_get d_Memory_become_6 fF_Memory_20 hO.1 rfl ?_
  refine rw_aload_n d_Memory_become_9 rfl (by first | exact mm_ref_r _ | exact mm_ref_n | exact mm_ref_o _) ?_
  refine rw_get d_Memory_become_10 fF_Memory_23 hO.1 rfl ?_
  refine rw_callV (kc := 0) (ks := 0) (rest := []) d_Memory_become_13 (c_enter hS) mW_Memory_enter mL_Memory_26 mI_Memory_enter mE_Memory_enter ⟨by decide, by decide⟩ hS rfl rfl rfl rfl (Nat.le_of_ble_eq_true rfl) (fun r M1 sz1 hq => ?_)
  obtain ⟨rfl, rfl, q1, q2⟩ := hq
  refine rw_stk (st' := []) rfl ?_
  refine rw_aload_n d_Memory_become_16 rfl (by first | exact mm_ref_r _ | exact mm_ref_n | exact mm_ref_o _) ?_
  refine rw_get d_Memory_become_17 fF_Memory_10 q1 rfl ?_
  refine rw_aload_n d_Memory_become_20 rfl (by first | exact mm_ref_r _ | exact mm_ref_n | exact mm_ref_o _) ?_
  refine rw_get d_Memory_become_21 fF_Memory_10 ((q2 _ (by omega)).trans hO.1) rfl ?_
  refine rw_iconst (v := 1) d_Memory_become_24 (by decide) ?_
  refine rw_callV (kc := 0) (ks := 0) (rest := []) d_Memory_become_25 (c_copyFrom (w := true) (f := 2) (hA.kept (fun i hi => q2 _ (hca i hi))) (hS2.kept (fun q h1 h2 => q2 q (by omega))) (hO.2.kept (fun q h1 h2 => q2 q (by omega))) (by omega)) mW_Copy_copyFrom mL_Memory_30 mI_Copy_copyFrom mE_Copy_copyFrom ⟨by decide, by decide⟩ (hS2.kept (M' := M1) (fun q h1 h2 => q2 q (by omega))).choose_spec.choose_spec.choose_spec.choose_spec.1.1 rfl rfl rfl rfl (Nat.le_of_ble_eq_true rfl) (fun r2 M2 sz2 hq2 => ?_)
  obtain ⟨rfl, rfl, q3, q4⟩ := hq2
  refine rw_stk (st' := []) rfl ?_
  refine rw_vret d_Memory_become_28 rfl ⟨rfl, rfl, ⟨(q4 a (by omega)).trans q1, q3⟩, fun q hq => ?_⟩
  rw [q4 q (by omega), q2 q (by omega)]
end MEMORY
end
section
/-! The post: 65 messages, an order of 64, how many are under way. -/
abbrev msO (q : Nat) (kv : Value) (f t e s en dn nu an : Int32) (cv : Value) : va_E := .inr (3, [kv, .int f, .int t, .int e, .int s, .int en, .int dn, .int nu, .int an, cv, .ref (q + 1)])
/-- a message's cells, whatever they hold -/
def MsW (M : mm_M) (ca : Nat → Nat) (cm : Nat → pCm) (g q : Nat) : Prop := ∃ kv f t e s en dn nu an cv d b, M q = some (msO q kv f t e s en dn nu an cv) ∧ (cv = .null ∨ ∃ i, i < g ∧ cv = .ref (ca i)) ∧ CpP 0 M ca cm g (q + 1) d b
/-- its head is set: kind, from, to, epoch -/
def MsH (G : mm_G) (M : mm_M) (ca : Nat → Nat) (cm : Nat → pCm) (g q k f t e : Nat) : Prop := ∃ s en dn nu an cv d b, M q = some (msO q (.ref (gad G k)) (gI f) (gI t) (nI e) s en dn nu an cv) ∧ (cv = .null ∨ ∃ i, i < g ∧ cv = .ref (ca i)) ∧ CpP 0 M ca cm g (q + 1) d b
/-- it holds the message m -/
def MsP (G : mm_G) (M : mm_M) (ca : Nat → Nat) (cm : Nat → pCm) (g : Nat) (E : pE) (q : Nat) (m : pMsg) : Prop := ∃ s en dn nu an cv d b, M q = some (msO q (.ref (gad G m.1)) (gI m.2.1) (gI m.2.2.1) (nI m.2.2.2.1) s en dn nu an cv) ∧ (cv = .null ∨ ∃ i, i < g ∧ cv = .ref (ca i)) ∧ CpP 0 M ca cm g (q + 1) d b ∧
  (m.1 = 0 → s = nI (E.2.2 m.2.2.2.1)) ∧ (m.1 = 2 → m.2.2.2.2.1 < g ∧ cv = .ref (ca m.2.2.2.2.1)) ∧ (m.1 = 3 → nu = nI m.2.2.2.2.1 ∧ an = tAns cm m.2.2.2.2.1) ∧ (m.1 = 5 → en = nI m.2.2.2.2.1 ∧ dn = nI m.2.2.2.2.2) ∧
  (m.1 = 7 → CpP 1 M ca cm g (q + 1) m.2.2.2.2.2 m.2.2.2.2.1) ∧ (m.1 = 8 → CpP 2 M ca cm g (q + 1) m.2.2.2.2.2 m.2.2.2.2.1)
theorem MsW.kept {M M' : mm_M} {ca : Nat → Nat} {cm : Nat → pCm} {g q : Nat} (h : MsW M ca cm g q) (hq : ∀ x, q ≤ x → x < q + 5 → M' x = M x) : MsW M' ca cm g q := by
  obtain ⟨kv, f, t, e, s, en, dn, nu, an, cv, d, b, h1, h2, h3⟩ := h
  exact ⟨kv, f, t, e, s, en, dn, nu, an, cv, d, b, (hq _ (by omega) (by omega)).trans h1, h2, h3.kept (fun x y1 y2 => hq x (by omega) (by omega))⟩
theorem MsH.kept {G : mm_G} {M M' : mm_M} {ca : Nat → Nat} {cm : Nat → pCm} {g q k f t e : Nat} (h : MsH G M ca cm g q k f t e) (hq : ∀ x, q ≤ x → x < q + 5 → M' x = M x) : MsH G M' ca cm g q k f t e := by
  obtain ⟨s, en, dn, nu, an, cv, d, b, h1, h2, h3⟩ := h
  exact ⟨s, en, dn, nu, an, cv, d, b, (hq _ (by omega) (by omega)).trans h1, h2, h3.kept (fun x y1 y2 => hq x (by omega) (by omega))⟩
theorem MsP.kept {G : mm_G} {M M' : mm_M} {ca : Nat → Nat} {cm : Nat → pCm} {g : Nat} {E : pE} {q : Nat} {m : pMsg} (h : MsP G M ca cm g E q m) (hq : ∀ x, q ≤ x → x < q + 5 → M' x = M x) : MsP G M' ca cm g E q m := by
  obtain ⟨s, en, dn, nu, an, cv, d, b, h1, h2, h3, h4, h5, h6, h7, h8, h9⟩ := h
  have hc : ∀ x, q + 1 ≤ x → x < q + 1 + 4 → M' x = M x := fun x y1 y2 => hq x (by omega) (by omega)
  exact ⟨s, en, dn, nu, an, cv, d, b, (hq _ (by omega) (by omega)).trans h1, h2, h3.kept hc, h4, h5, h6, h7, fun z => (h8 z).kept hc, fun z => (h9 z).kept hc⟩
theorem MsP.w {G : mm_G} {M : mm_M} {ca : Nat → Nat} {cm : Nat → pCm} {g : Nat} {E : pE} {q : Nat} {m : pMsg} (h : MsP G M ca cm g E q m) : MsW M ca cm g q := by
  obtain ⟨s, en, dn, nu, an, cv, d, b, h1, h2, h3, -⟩ := h
  exact ⟨_, _, _, _, s, en, dn, nu, an, cv, d, b, h1, h2, h3⟩
theorem MsN.w {M : mm_M} {ca : Nat → Nat} {cm : Nat → pCm} {g q : Nat} (h : MsN M q) : MsW M ca cm g q := ⟨_, _, _, _, _, _, _, _, _, _, 0, 0, h.1, Or.inl rfl, (h.2.p ca cm g).le (by omega)⟩
def PsP (G : mm_G) (M : mm_M) (ca : Nat → Nat) (cm : Nat → pCm) (g : Nat) (E : pE) (p : Nat) (post : List pMsg) : Prop := ∃ (sl : Nat → Option Nat) (f : Nat → Int32) (ord : Nat → Nat), M p = some (.inr (4, [.ref (p + 1), .ref (p + 2), .int (nI post.length)])) ∧ M (p + 1) = some (aR 4 65 sl) ∧ M (p + 2) = some (aI 64 f) ∧
  (∀ i, i < 65 → sl i = some (p + 3 + 5 * i)) ∧ (∀ i, i < 64 → f i = nI (ord i) ∧ ord i < 64) ∧ (∀ i j, i < 64 → j < 64 → ord i = ord j → i = j) ∧ post.length ≤ 64 ∧ (∀ i, i < 65 → MsW M ca cm g (p + 3 + 5 * i)) ∧ ∀ i m, post[i]? = some m → MsP G M ca cm g E (p + 3 + 5 * (ord i)) m
theorem PsP.kept {G : mm_G} {M M' : mm_M} {ca : Nat → Nat} {cm : Nat → pCm} {g : Nat} {E : pE} {p : Nat} {post : List pMsg} (h : PsP G M ca cm g E p post) (hq : ∀ x, p ≤ x → x < p + 328 → M' x = M x) : PsP G M' ca cm g E p post := by
  obtain ⟨sl, f, ord, h1, h2, h3, h4, h5, h6, h7, h8, h9⟩ := h
  refine ⟨sl, f, ord, (hq _ (by omega) (by omega)).trans h1, (hq _ (by omega) (by omega)).trans h2, (hq _ (by omega) (by omega)).trans h3, h4, h5, h6, h7, fun i hi => (h8 i hi).kept (fun x y1 y2 => hq x (by omega) (by omega)), fun i m hm => ?_⟩
  have hl : i < post.length := (List.getElem?_eq_some_iff.mp hm).1
  have := (h5 i (by omega)).2
  exact (h9 i m hm).kept (fun x y1 y2 => hq x (by omega) (by omega))
/-- which place comes to place z where place i is taken out of L -/
def pSrc (i L z : Nat) : Nat := if z < i then z else if z < L - 1 then z + 1 else if z = L - 1 then i else z
theorem pSrc_inj {i L z w : Nat} (hi : i < L) (h : pSrc i L z = pSrc i L w) : z = w := by
  unfold pSrc at h
  (repeat' split at h) <;> omega
theorem pSrc_lt {i L z : Nat} (hi : i < L) (hL : L ≤ 64) (hz : z < 64) : pSrc i L z < 64 := by
  unfold pSrc
  (repeat' split) <;> omega
section POST
variable {l : Launch} {G : mm_G} {sz : Nat} {ca : Nat → Nat} {cm : Nat → pCm} {g : Nat} {E : pE}
def SeQ (G : mm_G) (M : mm_M) (sz : Nat) (ca : Nat → Nat) (cm : Nat → pCm) (g : Nat) (E : pE) (p : Nat) (post : List pMsg) (k f t e : Nat) : Option Value → mm_M → Nat → Prop := fun r M' sz' => sz' = sz ∧ Fr M M' p 328 ∧ ∃ j : Nat, j < 65 ∧ r = some (.ref (p + 3 + 5 * j)) ∧ MsH G M' ca cm g (p + 3 + 5 * j) k f t e ∧ ∀ M2 m, Fr M' M2 (p + 3 + 5 * j) 5 → MsP G M2 ca cm g E (p + 3 + 5 * j) m → PsP G M2 ca cm g E p (pSend post [m])
/-- the head's four stores -/
theorem send_tail {M M1 : mm_M} {p j k f t e : Nat} {post : List pMsg} {lv0 : Value} (hj : j < 65) (hW : MsW M1 ca cm g (p + 3 + 5 * j)) (hF : Fr M M1 p 328) (hcont : ∀ M2 m, Fr M1 M2 (p + 3 + 5 * j) 5 → MsP G M2 ca cm g E (p + 3 + 5 * j) m → PsP G M2 ca cm g E p (pSend post [m])) :
    RW l G Y_Post_send (rm 1) (mm_Z G (rm 1) (SeQ G M sz ca cm g E p post k f t e)) 0 0 44 [(0, .ref p), (1, .ref (gad G k)), (2, .int (gI f)), (3, .int (gI t)), (4, .int (nI e)), (5, .ref (p + 3 + 5 * j))] [] M1 sz := by
  obtain ⟨kv, f0, t0, e0, s, en, dn, nu, an, cv, d, b, h1, h2, h3⟩ := hW
  refine rw_aload d_Post_send_44 rfl (by first | exact mm_ref_r _ | exact mm_ref_n | exact mm_ref_o _) ?_
  refine rw_aload_n d_Post_send_46 rfl (by first | exact mm_ref_r _ | exact mm_ref_n | exact mm_ref_o _) ?_
  refine rw_put d_Post_send_47 (fP_Post_26 _) h1 (Nat.le_of_ble_eq_true rfl) (by first | rfl | assumption | decide) (by first | rfl | decide) ?_
  refine rw_aload d_Post_send_50 rfl (by first | exact mm_ref_r _ | exact mm_ref_n | exact mm_ref_o _) ?_
  refine rw_iload_n d_Post_send_52 rfl ?_
  refine rw_put d_Post_send_53 (fP_Post_30 _) (mup_self _ _ _) (Nat.le_of_ble_eq_true rfl) (by first | rfl | assumption | decide) (by first | rfl | decide) ?_
  refine rw_aload d_Post_send_56 rfl (by first | exact mm_ref_r _ | exact mm_ref_n | exact mm_ref_o _) ?_
  refine rw_iload_n d_Post_send_58 rfl ?_
  refine rw_put d_Post_send_59 (fP_Post_33 _) (mup_self _ _ _) (Nat.le_of_ble_eq_true rfl) (by first | rfl | assumption | decide) (by first | rfl | decide) ?_
  refine rw_aload d_Post_send_62 rfl (by first | exact mm_ref_r _ | exact mm_ref_n | exact mm_ref_o _) ?_
  refine rw_iload d_Post_send_64 rfl ?_
  refine rw_put d_Post_send_66 (fP_Post_36 _) (mup_self _ _ _) (Nat.le_of_ble_eq_true rfl) (by first | rfl | assumption | decide) (by first | rfl | decide) ?_
  refine rw_aload d_Post_send_69 rfl (by first | exact mm_ref_r _ | exact mm_ref_n | exact mm_ref_o _) ?_
  refine rw_aret d_Post_send_71 rfl (mm_ref_r _) ⟨rfl, ?_, j, hj, rfl, ⟨s, en, dn, nu, an, cv, d, b, ?_, h2, ?_⟩, fun M2 m y1 y2 => ?_⟩
  · exact Fr.mup (Fr.mup (Fr.mup (Fr.mup hF (by omega) (by omega)) (by omega) (by omega)) (by omega) (by omega)) (by omega) (by omega)
  · rw [mup_self]
    rfl
  · exact h3.kept (fun q y1 y2 => by rw [mup_ne _ _ (by omega), mup_ne _ _ (by omega), mup_ne _ _ (by omega), mup_ne _ _ (by omega)])
  · refine hcont M2 m (fun q hq => ?_) y2
    rw [y1 q hq, mup_ne _ _ (by omega), mup_ne _ _ (by omega), mup_ne _ _ (by omega), mup_ne _ _ (by omega)]
theorem c_send {M : mm_M} {p k f t e : Nat} {post : List pMsg} (hP : PsP G M ca cm g E p post) : CT l G Y_Post_send ds_Post_send (rm 1) [.ref p, .ref (gad G k), .int (gI f), .int (gI t), .int (nI e)] M sz (SeQ G M sz ca cm g E p post k f t e) := by
  obtain ⟨sl, fo, ord, h1, h2, h3, h4, h5, h6, h7, h8, h9⟩ := hP
  refine CT.of (by decide) (Nat.le_of_ble_eq_true rfl) ?_
  refine rw_aload_n d_Post_send_0 rfl (by first | exact mm_ref_r _ | exact mm_ref_n | exact mm_ref_o _) ?_
  refine rw_get d_Post_send_1 fF_Post_11 h1 rfl ?_
  refine rw_bipush (v := 64) d_Post_send_4 (by decide) ?_
  refine rw_aald d_Post_send_6 h2 (by decide) rfl (vp_in_nI (n := 64) (by omega) (by omega)) ?_
  rw [show (64 : Int32).toNatClampNeg = 64 from rfl, h4 64 (by omega)]
  refine rw_stk (st' := [.ref (p + 3 + 5 * 64)]) rfl ?_
  refine rw_astore d_Post_send_7 (by decide) (by first | exact mm_ref_r _ | exact mm_ref_n | exact mm_ref_o _) rfl ?_
  refine rw_aload_n d_Post_send_9 rfl (by first | exact mm_ref_r _ | exact mm_ref_n | exact mm_ref_o _) ?_
  refine rw_get d_Post_send_10 fF_Post_22 h1 rfl ?_
  refine rw_bipush (v := 64) d_Post_send_13 (by decide) ?_
  by_cases q : 64 ≤ post.length
  · refine rw_icmp_ge_t (tgt := 44) d_Post_send_15 (by decide) (nI_le (a := 64) q (by omega)) ?_
    refine rw_lv (lv' := [(0, .ref p), (1, .ref (gad G k)), (2, .int (gI f)), (3, .int (gI t)), (4, .int (nI e)), (5, .ref (p + 3 + 5 * 64))]) (by intro q hq; simp at hq; rcases hq with rfl | rfl | rfl | rfl | rfl | rfl <;> rfl) ?_
    refine send_tail (lv0 := .null) (by omega) (h8 64 (by omega)) Fr.rf (fun M2 m y1 y2 => ?_)
    have e : pSend post [m] = post := by
      unfold pSend
      rw [List.take_append_of_le_length (by omega), List.take_of_length_le (by omega)]
    rw [e]
    refine ⟨sl, fo, ord, (y1 _ (by omega)).trans h1, (y1 _ (by omega)).trans h2, (y1 _ (by omega)).trans h3, h4, h5, h6, h7, fun i hi => ?_, fun i m' hm => ?_⟩
    · by_cases z : i = 64
      · subst z
        exact y2.w
      · exact (h8 i hi).kept (fun x z1 z2 => y1 x (by omega))
    · have hl : i < post.length := (List.getElem?_eq_some_iff.mp hm).1
      have := (h5 i (by omega)).2
      exact (h9 i m' hm).kept (fun x z1 z2 => y1 x (by omega))
  · have hl : post.length < 64 := by omega
    have ho := h5 post.length hl
    refine rw_icmp_ge_f (tgt := 44) d_Post_send_15 (by decide) (nI_ge (b := 64) hl (by omega)) ?_
    refine rw_aload_n d_Post_send_18 rfl (by first | exact mm_ref_r _ | exact mm_ref_n | exact mm_ref_o _) ?_
    refine rw_get d_Post_send_19 fF_Post_11 h1 rfl ?_
    refine rw_aload_n d_Post_send_22 rfl (by first | exact mm_ref_r _ | exact mm_ref_n | exact mm_ref_o _) ?_
    refine rw_get d_Post_send_23 fF_Post_17 h1 rfl ?_
    refine rw_aload_n d_Post_send_26 rfl (by first | exact mm_ref_r _ | exact mm_ref_n | exact mm_ref_o _) ?_
    refine rw_get d_Post_send_27 fF_Post_22 h1 rfl ?_
    refine rw_iald d_Post_send_30 h3 (vp_in_nI hl (by omega)) ?_
    rw [nI_c (by omega), ho.1]
    refine rw_aald d_Post_send_31 h2 (by decide) rfl (vp_in_nI (by omega) (by omega)) ?_
    rw [nI_c (by omega), h4 _ (by omega)]
    refine rw_stk (st' := [.ref (p + 3 + 5 * (ord post.length))]) rfl ?_
    refine rw_astore d_Post_send_32 (by decide) (by first | exact mm_ref_r _ | exact mm_ref_n | exact mm_ref_o _) rfl ?_
    refine rw_aload_n d_Post_send_34 rfl (by first | exact mm_ref_r _ | exact mm_ref_n | exact mm_ref_o _) ?_
    refine rw_dup d_Post_send_35 rfl ?_
    refine rw_get d_Post_send_36 fF_Post_22 h1 rfl ?_
    refine rw_iconst (v := 1) d_Post_send_39 (by decide) ?_
    refine rw_iadd d_Post_send_40 ?_
    refine rw_put d_Post_send_41 (fP_Post_22 _) h1 (Nat.le_of_ble_eq_true rfl) (by first | rfl | assumption | decide) (by first | rfl | decide) ?_
    refine rw_lv (lv' := [(0, .ref p), (1, .ref (gad G k)), (2, .int (gI f)), (3, .int (gI t)), (4, .int (nI e)), (5, .ref (p + 3 + 5 * (ord post.length)))]) (by intro q hq; simp at hq; rcases hq with rfl | rfl | rfl | rfl | rfl | rfl <;> rfl) ?_
    refine send_tail (lv0 := .null) (by omega) ((h8 _ (by omega)).kept (fun x z1 z2 => mup_ne _ _ (by omega))) (Fr.mup Fr.rf (by omega) (by omega)) (fun M2 m y1 y2 => ?_)
    have e : pSend post [m] = post ++ [m] := by
      unfold pSend
      rw [List.take_of_length_le (by simp; omega)]
    rw [e]
    refine ⟨sl, fo, ord, ?_, (y1 _ (by omega)).trans ((mup_ne _ _ (by omega)).trans h2), (y1 _ (by omega)).trans ((mup_ne _ _ (by omega)).trans h3), h4, h5, h6, by simp; omega, fun i hi => ?_, fun i m' hm => ?_⟩
    · rw [y1 _ (by omega), mup_self, List.length_append]
      show some (Sum.inr (4, [_, _, Value.int (nI post.length + 1)])) = _
      rw [nI_1]
      rfl
    · by_cases z : i = ord post.length
      · subst z
        exact y2.w
      · exact (h8 i hi).kept (fun x z1 z2 => (y1 x (by omega)).trans (mup_ne _ _ (by omega)))
    · have hl2 : i < (post ++ [m]).length := (List.getElem?_eq_some_iff.mp hm).1
      rw [List.length_append] at hl2
      simp only [List.length_cons, List.length_nil] at hl2
      by_cases z : i = post.length
      · subst z
        rw [List.getElem?_append_right (by omega), Nat.sub_self] at hm
        cases hm
        exact y2
      · rw [List.getElem?_append_left (by omega)] at hm
        have hne : ord i ≠ ord post.length := fun w => z (h6 i post.length (by omega) (by omega) w)
        have := (h5 i (by omega)).2
        exact (h9 i m' hm).kept (fun x z1 z2 => (y1 x (by omega)).trans (mup_ne _ _ (by omega)))
theorem c_look {M : mm_M} {p i : Nat} {post : List pMsg} {m : pMsg} (hP : PsP G M ca cm g E p post) (hm : post[i]? = some m) : CT l G Y_Post_look ds_Post_look (rm 1) [.ref p, .int (nI i)] M sz (fun r M' sz' => M' = M ∧ sz' = sz ∧ ∃ j : Nat, j < 64 ∧ r = some (.ref (p + 3 + 5 * j)) ∧ MsP G M ca cm g E (p + 3 + 5 * j) m) := by
  obtain ⟨sl, fo, ord, h1, h2, h3, h4, h5, h6, h7, h8, h9⟩ := hP
  have hl : i < post.length := (List.getElem?_eq_some_iff.mp hm).1
  have ho := h5 i (by omega)
  refine CT.of (by decide) (Nat.le_of_ble_eq_true rfl) ?_
  refine rw_iload_n d_Post_look_0 rfl ?_
  refine rw_if_lt_f (tgt := 26) d_Post_look_1 (by decide) (nI_pos (by omega)) ?_
  refine rw_iload_n d_Post_look_4 rfl ?_
  refine rw_aload_n d_Post_look_5 rfl (by first | exact mm_ref_r _ | exact mm_ref_n | exact mm_ref_o _) ?_
  refine rw_get d_Post_look_6 fF_Post_22 h1 rfl ?_
  refine rw_icmp_ge_f (tgt := 26) d_Post_look_9 (by decide) (nI_ge hl (by omega)) ?_
  refine rw_aload_n d_Post_look_12 rfl (by first | exact mm_ref_r _ | exact mm_ref_n | exact mm_ref_o _) ?_
  refine rw_get d_Post_look_13 fF_Post_11 h1 rfl ?_
  refine rw_aload_n d_Post_look_16 rfl (by first | exact mm_ref_r _ | exact mm_ref_n | exact mm_ref_o _) ?_
  refine rw_get d_Post_look_17 fF_Post_17 h1 rfl ?_
  refine rw_iload_n d_Post_look_20 rfl ?_
  refine rw_iald d_Post_look_21 h3 (vp_in_nI (by omega) (by omega)) ?_
  rw [nI_c (by omega), ho.1]
  refine rw_aald d_Post_look_22 h2 (by decide) rfl (vp_in_nI (by omega) (by omega)) ?_
  rw [nI_c (by omega), h4 _ (by omega)]
  refine rw_stk (st' := [.ref (p + 3 + 5 * (ord i))]) rfl ?_
  refine rw_goto (tgt := 33) d_Post_look_23 (by decide) ?_
  exact rw_aret d_Post_look_33 rfl (mm_ref_r _) ⟨rfl, rfl, ord i, ho.2, rfl, h9 i m hm⟩
theorem c_remove {M : mm_M} {p i : Nat} {post : List pMsg} (hP : PsP G M ca cm g E p post) (hl : i < post.length) : CT l G Y_Post_remove ds_Post_remove (rm 1) [.ref p, .int (nI i)] M sz (fun r M' sz' => r = none ∧ sz' = sz ∧ PsP G M' ca cm g E p (post.eraseIdx i) ∧ Fr M M' p 328) := by
  obtain ⟨sl, fo, ord, h1, h2, h3, h4, h5, h6, h7, h8, h9⟩ := hP
  refine CT.of (by decide) (Nat.le_of_ble_eq_true rfl) ?_
  refine rw_iload_n d_Post_remove_0 rfl ?_
  refine rw_if_lt_f (tgt := 12) d_Post_remove_1 (by decide) (nI_pos (by omega)) ?_
  refine rw_iload_n d_Post_remove_4 rfl ?_
  refine rw_aload_n d_Post_remove_5 rfl (by first | exact mm_ref_r _ | exact mm_ref_n | exact mm_ref_o _) ?_
  refine rw_get d_Post_remove_6 fF_Post_22 h1 rfl ?_
  refine rw_icmp_lt_t (tgt := 13) d_Post_remove_9 (by decide) (nI_lt hl (by omega)) ?_
  refine rw_aload_n d_Post_remove_13 rfl (by first | exact mm_ref_r _ | exact mm_ref_n | exact mm_ref_o _) ?_
  refine rw_get d_Post_remove_14 fF_Post_17 h1 rfl ?_
  refine rw_iload_n d_Post_remove_17 rfl ?_
  refine rw_iald d_Post_remove_18 h3 (vp_in_nI (by omega) (by omega)) ?_
  rw [nI_c (by omega), (h5 i (by omega)).1]
  refine rw_istore_n d_Post_remove_19 (by decide) rfl ?_
  refine rw_aload_n d_Post_remove_20 rfl (by first | exact mm_ref_r _ | exact mm_ref_n | exact mm_ref_o _) ?_
  refine rw_dup d_Post_remove_21 rfl ?_
  refine rw_get d_Post_remove_22 fF_Post_22 h1 rfl ?_
  refine rw_iconst (v := 1) d_Post_remove_25 (by decide) ?_
  refine rw_isub d_Post_remove_26 ?_
  rw [show nI post.length - 1 = nI (post.length - 1) from nI_sub (b := 1) (by omega)]
  refine rw_put d_Post_remove_27 (fP_Post_22 _) h1 (Nat.le_of_ble_eq_true rfl) (by first | rfl | assumption | decide) (by first | rfl | decide) ?_
  refine rw_aload_n d_Post_remove_30 rfl (by first | exact mm_ref_r _ | exact mm_ref_n | exact mm_ref_o _) ?_
  refine rw_get d_Post_remove_31 fF_Post_17 (mup_self _ _ _) rfl ?_
  refine rw_iload_n d_Post_remove_34 rfl ?_
  refine rw_iconst (v := 1) d_Post_remove_35 (by decide) ?_
  refine rw_iadd d_Post_remove_36 ?_
  rw [nI_1]
  refine rw_aload_n d_Post_remove_37 rfl (by first | exact mm_ref_r _ | exact mm_ref_n | exact mm_ref_o _) ?_
  refine rw_get d_Post_remove_38 fF_Post_17 (mup_self _ _ _) rfl ?_
  refine rw_iload_n d_Post_remove_41 rfl ?_
  refine rw_aload_n d_Post_remove_42 rfl (by first | exact mm_ref_r _ | exact mm_ref_n | exact mm_ref_o _) ?_
  refine rw_get d_Post_remove_43 fF_Post_22 (mup_self _ _ _) rfl ?_
  refine rw_iload_n d_Post_remove_46 rfl ?_
  refine rw_isub d_Post_remove_47 ?_
  rw [nI_sub (show i ≤ post.length - 1 by omega)]
  refine rw_acopy d_Post_remove_48 mL_Post_39 (mup_get (by omega) h3) (mup_get (by omega) h3) (nI_pos (by omega)) (nI_pos (by omega)) (nI_pos (by omega)) (by rw [nI_c (by omega), nI_c (by omega)]; omega) (by rw [nI_c (by omega), nI_c (by omega)]; omega) (by decide) (Nat.le_of_ble_eq_true rfl) ?_
  rw [nI_c (by omega), nI_c (by omega), nI_c (by omega)]
  refine rw_aload_n d_Post_remove_51 rfl (by first | exact mm_ref_r _ | exact mm_ref_n | exact mm_ref_o _) ?_
  refine rw_get d_Post_remove_52 fF_Post_17 (mup_get (by omega) (mup_self _ _ _)) rfl ?_
  refine rw_aload_n d_Post_remove_55 rfl (by first | exact mm_ref_r _ | exact mm_ref_n | exact mm_ref_o _) ?_
  refine rw_get d_Post_remove_56 fF_Post_22 (mup_get (by omega) (mup_self _ _ _)) rfl ?_
  refine rw_iload_n d_Post_remove_59 rfl ?_
  refine rw_iast d_Post_remove_60 (mup_self _ _ _) (vp_in_nI (by omega) (by omega)) ?_
  rw [nI_c (by omega)]
  have hlen : (post.eraseIdx i).length = post.length - 1 := by rw [List.length_eraseIdx, if_pos hl]
  refine rw_vret d_Post_remove_61 rfl ⟨rfl, rfl, ⟨sl, _, fun z => ord (pSrc i post.length z), ?_, ?_, mup_self _ _ _, h4, fun z hz => ?_, fun z w hz hw hzw => ?_, by omega, fun z hz => (h8 z hz).kept (fun x y1 y2 => ?_), fun z m hm => ?_⟩, ?_⟩
  · rw [mup_ne _ _ (by omega), mup_ne _ _ (by omega), mup_self, hlen]
    rfl
  · rw [mup_ne _ _ (by omega), mup_ne _ _ (by omega), mup_ne _ _ (by omega)]
    exact h2
  · simp only [upd, va_cpy, pSrc]
    by_cases y1 : z < i
    · rw [if_neg (by omega), if_neg (by omega), if_pos y1]
      exact h5 z hz
    · rw [if_neg y1]
      by_cases y2 : z < post.length - 1
      · rw [if_neg (by omega), if_pos (by omega), if_pos y2, show i + 1 + (z - i) = z + 1 by omega]
        exact h5 (z + 1) (by omega)
      · rw [if_neg y2]
        by_cases y3 : z = post.length - 1
        · rw [if_pos y3, if_pos y3]
          exact ⟨rfl, (h5 i (by omega)).2⟩
        · rw [if_neg y3, if_neg (by omega), if_neg y3]
          exact h5 z hz
  · exact pSrc_inj hl (h6 _ _ (pSrc_lt hl h7 hz) (pSrc_lt hl h7 hw) hzw)
  · rw [mup_ne _ _ (by omega), mup_ne _ _ (by omega), mup_ne _ _ (by omega)]
  · have hzl : z < (post.eraseIdx i).length := (List.getElem?_eq_some_iff.mp hm).1
    have hk : ∀ o, o < 64 → ∀ m, MsP G M ca cm g E (p + 3 + 5 * o) m → MsP G (mup (mup (mup M p (.inr (4, [.ref (p + 1), .ref (p + 2), .int (nI (post.length - 1))]))) (p + 2) (.inl (0, 64, .inl (va_cpy fo fo (i + 1) i (post.length - 1 - i))))) (p + 2) (.inl (0, 64, .inl (upd (va_cpy fo fo (i + 1) i (post.length - 1 - i)) (post.length - 1) (nI (ord i)))))) ca cm g E (p + 3 + 5 * o) m := fun o ho m hm => hm.kept (fun x y1 y2 => by rw [mup_ne _ _ (by omega), mup_ne _ _ (by omega), mup_ne _ _ (by omega)])
    rw [List.getElem?_eraseIdx] at hm
    show MsP G _ ca cm g E (p + 3 + 5 * ord (pSrc i post.length z)) m
    by_cases y1 : z < i
    · rw [if_pos y1] at hm
      rw [show pSrc i post.length z = z by rw [pSrc, if_pos y1]]
      exact hk _ (h5 z (by omega)).2 m (h9 z m hm)
    · rw [if_neg y1] at hm
      rw [show pSrc i post.length z = z + 1 by rw [pSrc, if_neg y1, if_pos (by omega)]]
      exact hk _ (h5 (z + 1) (by omega)).2 m (h9 (z + 1) m hm)
  · exact Fr.mup (Fr.mup (Fr.mup Fr.rf (by omega) (by omega)) (by omega) (by omega)) (by omega) (by omega)
end POST
end
section
/-! Commands lie apart from the post; sends one behind another; the keeper of maps. -/
theorem PsP.apart {G : mm_G} {M : mm_M} {ca : Nat → Nat} {cm : Nat → pCm} {g : Nat} {E : pE} {p i : Nat} {post : List pMsg} (hP : PsP G M ca cm g E p post) (hA : CmA M ca cm g) (hi : i < g) : ca i < p ∨ p + 328 ≤ ca i := by
  have e := (hA i hi).2
  obtain ⟨sl, f, ord, h1, h2, h3, h4, h5, h6, h7, h8, h9⟩ := hP
  rcases Nat.lt_or_ge (ca i) p with q | q
  · exact Or.inl q
  · right
    rcases Nat.lt_or_ge (ca i) (p + 328) with q2 | q2
    · exfalso
      rcases (show ca i = p ∨ ca i = p + 1 ∨ ca i = p + 2 ∨ p + 3 ≤ ca i by omega) with z | z | z | z
      · rw [z, h1] at e
        cases e
      · rw [z, h2] at e
        cases e
      · rw [z, h3] at e
        cases e
      · obtain ⟨kv, f, t, e0, s, en, dn, nu, an, cv, d, b, w1, w2, ⟨hh, v, a2, lg, ⟨r0, r1, r2, r3⟩, -⟩⟩ := h8 ((ca i - p - 3) / 5) (by omega)
        have hx : ca i = p + 3 + 5 * ((ca i - p - 3) / 5) + (ca i - p - 3) % 5 := by omega
        have hr : (ca i - p - 3) % 5 < 5 := Nat.mod_lt _ (by omega)
        generalize (ca i - p - 3) / 5 = j at *
        generalize (ca i - p - 3) % 5 = r at *
        rcases (show r = 0 ∨ r = 1 ∨ r = 2 ∨ r = 3 ∨ r = 4 by omega) with rfl | rfl | rfl | rfl | rfl
        · rw [hx, show p + 3 + 5 * j + 0 = p + 3 + 5 * j from rfl, w1] at e
          cases e
        · rw [hx, r0] at e
          cases e
        · rw [hx, show p + 3 + 5 * j + 2 = p + 3 + 5 * j + 1 + 1 from rfl, r1] at e
          cases e
        · rw [hx, show p + 3 + 5 * j + 3 = p + 3 + 5 * j + 1 + 2 from rfl, r2] at e
          cases e
        · rw [hx, show p + 3 + 5 * j + 4 = p + 3 + 5 * j + 1 + 3 from rfl, r3] at e
          cases e
    · exact q2
theorem CmA.post {G : mm_G} {M M' : mm_M} {ca : Nat → Nat} {cm : Nat → pCm} {g : Nat} {E : pE} {p : Nat} {post : List pMsg} (hA : CmA M ca cm g) (hP : PsP G M ca cm g E p post) (hF : Fr M M' p 328) : CmA M' ca cm g := hA.kept (fun _ hi => hF _ (hP.apart hA hi))
theorem pSend_app (post a b : List pMsg) : pSend (pSend post a) b = pSend post (a ++ b) := by
  unfold pSend
  rw [← List.append_assoc, List.take_append, List.take_append (l₁ := post ++ a), List.take_take, Nat.min_self, List.length_take]
  congr 2
  omega
theorem pSend_nil {post : List pMsg} (h : post.length ≤ 64) : pSend post [] = post := by
  unfold pSend
  rw [List.append_nil, List.take_of_length_le h]
theorem PsP.len {G : mm_G} {M : mm_M} {ca : Nat → Nat} {cm : Nat → pCm} {g : Nat} {E : pE} {p : Nat} {post : List pMsg} (hP : PsP G M ca cm g E p post) : post.length ≤ 64 := by
  obtain ⟨sl, f, ord, h1, h2, h3, h4, h5, h6, h7, h8, h9⟩ := hP
  exact h7
/-- the maps that proclaim sends, to the nodes below n -/
def pProc (ep : Nat) (hd : Nat → Nat) : Nat → List pMsg
  | 0 => []
  | n + 1 => pProc ep hd n ++ (if hd n < ep then [(0, 99, n, ep, 0, 0)] else [])
section KEEPER
variable {l : Launch} {G : mm_G} {sz : Nat} {ca : Nat → Nat} {cm : Nat → pCm} {g : Nat} {E : pE}
def KpP (M : mm_M) (E : pE) (k pl p ep : Nat) (hd : Nat → Nat) : Prop := ∃ f, M k = some (.inr (5, [.ref pl, .ref p, .ref (k + 1), .int (nI ep), .int (nI (E.2.2 ep)), .int (gI (eL E ep))])) ∧ M (k + 1) = some (aI (eN E) f) ∧ ∀ n, n < eN E → f n = nI (hd n)
theorem KpP.kept {M M' : mm_M} {k pl p ep : Nat} {hd : Nat → Nat} (h : KpP M E k pl p ep hd) (hq : ∀ q, k ≤ q → q < k + 2 → M' q = M q) : KpP M' E k pl p ep hd := by
  obtain ⟨f, h1, h2, h3⟩ := h
  exact ⟨f, (hq _ (by omega) (by omega)).trans h1, (hq _ (by omega) (by omega)).trans h2, h3⟩
/-- what sends alone leave -/
def SnQ (G : mm_G) (M : mm_M) (sz : Nat) (ca : Nat → Nat) (cm : Nat → pCm) (g : Nat) (E : pE) (p : Nat) (post : List pMsg) : Option Value → mm_M → Nat → Prop := fun r M' sz' => r = none ∧ sz' = sz ∧ PsP G M' ca cm g E p post ∧ Fr M M' p 328
theorem proclaim_loop {M : mm_M} {k pl p ep : Nat} {hd : Nat → Nat} {post : List pMsg} (hN : eN E < 7) (hep : ep < 1000000) (hhd : ∀ n, n < eN E → hd n < 1000000) (hpl : M pl = some (plO (eN E) (eC E))) (hpp : pl < p) (hkp : p + 328 ≤ k) (hK : KpP M E k pl p ep hd) :
    ∀ (m n : Nat) (M1 : mm_M), m + n = eN E → PsP G M1 ca cm g E p (pSend post (pProc ep hd n)) → Fr M M1 p 328 →
    RW l G Y_MapKeeper_proclaim (rm 2) (mm_Z G (rm 2) (SnQ G M sz ca cm g E p (pSend post (pProc ep hd (eN E))))) 0 0 2 [(0, .ref k), (1, .int (nI n))] [] M1 sz := by
  intro m
  induction m with
  | zero =>
    intro n M1 hn hP hF
    have hn2 : n = eN E := by omega
    obtain ⟨f, k0, k1, k2⟩ := hK.kept (M' := M1) (fun q h1 h2 => hF q (by omega))
    have hpl1 := (hF pl (by omega)).trans hpl
    rw [hn2] at hP ⊢
    refine rw_iload_n d_MapKeeper_proclaim_2 rfl ?_
    refine rw_aload_n d_MapKeeper_proclaim_3 rfl (by first | exact mm_ref_r _ | exact mm_ref_n | exact mm_ref_o _) ?_
    refine rw_get d_MapKeeper_proclaim_4 fF_MapKeeper_15 k0 rfl ?_
    refine rw_get d_MapKeeper_proclaim_7 fF_MapKeeper_39 hpl1 rfl ?_
    refine rw_icmp_ge_t (tgt := 55) d_MapKeeper_proclaim_10 (by decide) (nI_le (a := eN E) (b := eN E) (by omega) (by omega)) ?_
    exact rw_vret d_MapKeeper_proclaim_55 rfl ⟨rfl, rfl, hP, hF⟩
  | succ m ih =>
    intro n M1 hn hP hF
    obtain ⟨f, k0, k1, k2⟩ := hK.kept (M' := M1) (fun q h1 h2 => hF q (by omega))
    have hpl1 := (hF pl (by omega)).trans hpl
    have hhn := hhd n (by omega)
    refine rw_iload_n d_MapKeeper_proclaim_2 rfl ?_
    refine rw_aload_n d_MapKeeper_proclaim_3 rfl (by first | exact mm_ref_r _ | exact mm_ref_n | exact mm_ref_o _) ?_
    refine rw_get d_MapKeeper_proclaim_4 fF_MapKeeper_15 k0 rfl ?_
    refine rw_get d_MapKeeper_proclaim_7 fF_MapKeeper_39 hpl1 rfl ?_
    refine rw_icmp_ge_f (tgt := 55) d_MapKeeper_proclaim_10 (by decide) (nI_ge (a := n) (b := eN E) (by omega) (by omega)) ?_
    refine rw_aload_n d_MapKeeper_proclaim_13 rfl (by first | exact mm_ref_r _ | exact mm_ref_n | exact mm_ref_o _) ?_
    refine rw_get d_MapKeeper_proclaim_14 fF_MapKeeper_42 k0 rfl ?_
    refine rw_iload_n d_MapKeeper_proclaim_17 rfl ?_
    refine rw_iald d_MapKeeper_proclaim_18 k1 (vp_in_nI (n := n) (by omega) (by omega)) ?_
    refine rw_aload_n d_MapKeeper_proclaim_19 rfl (by first | exact mm_ref_r _ | exact mm_ref_n | exact mm_ref_o _) ?_
    refine rw_get d_MapKeeper_proclaim_20 fF_MapKeeper_9 k0 rfl ?_
    rw [nI_c (by omega), k2 n (by omega)]
    by_cases q : hd n < ep
    · refine rw_icmp_ge_f (tgt := 49) d_MapKeeper_proclaim_23 (by decide) (nI_ge q (by omega)) ?_
      refine rw_aload_n d_MapKeeper_proclaim_26 rfl (by first | exact mm_ref_r _ | exact mm_ref_n | exact mm_ref_o _) ?_
      refine rw_get d_MapKeeper_proclaim_27 fF_MapKeeper_19 k0 rfl ?_
      refine rw_kind (i := 0) (by decide) fS_MapKeeper_49 d_MapKeeper_proclaim_30 ?_
      refine rw_iconst (v := (-1)) d_MapKeeper_proclaim_33 (by decide) ?_
      refine rw_iload_n d_MapKeeper_proclaim_34 rfl ?_
      refine rw_aload_n d_MapKeeper_proclaim_35 rfl (by first | exact mm_ref_r _ | exact mm_ref_n | exact mm_ref_o _) ?_
      refine rw_get d_MapKeeper_proclaim_36 fF_MapKeeper_9 k0 rfl ?_
      refine rw_stk (st' := [.int (nI ep), .int (gI n), .int (gI 99), .ref (gad G 0), .ref p]) (by rw [gI, if_neg (by omega)]; rfl) ?_
      refine rw_callV (kc := 0) (ks := 0) (rest := []) d_MapKeeper_proclaim_39 (c_send (k := 0) (f := 99) (t := n) (e := ep) hP) mW_Post_send mL_MapKeeper_55 mI_Post_send mE_Post_send ⟨by decide, by decide⟩ hP.choose_spec.choose_spec.choose_spec.1 rfl rfl rfl rfl (Nat.le_of_ble_eq_true rfl) (fun r M2 sz2 hq => ?_)
      obtain ⟨rfl, q1, j, hj, rfl, ⟨s, en, dn, nu, an, cv, d, b, w1, w2, w3⟩, q2⟩ := hq
      refine rw_stk (st' := [.ref (p + 3 + 5 * j)]) rfl ?_
      refine rw_aload_n d_MapKeeper_proclaim_42 rfl (by first | exact mm_ref_r _ | exact mm_ref_n | exact mm_ref_o _) ?_
      refine rw_get d_MapKeeper_proclaim_43 fF_MapKeeper_29 ((q1 k (by omega)).trans k0) rfl ?_
      refine rw_put d_MapKeeper_proclaim_46 (fP_MapKeeper_61 _) w1 (Nat.le_of_ble_eq_true rfl) (by first | rfl | assumption | decide) (by first | rfl | decide) ?_
      have hF3 := Fr.mup (x := p + 3 + 5 * j) (e := .inr (3, [.ref (gad G 0), .int (gI 99), .int (gI n), .int (nI ep), .int (nI (E.2.2 ep)), .int en, .int dn, .int nu, .int an, cv, .ref (p + 3 + 5 * j + 1)])) (hF.trans q1) (by omega) (by omega)
      have hP3 := q2 (mup M2 (p + 3 + 5 * j) (.inr (3, [.ref (gad G 0), .int (gI 99), .int (gI n), .int (nI ep), .int (nI (E.2.2 ep)), .int en, .int dn, .int nu, .int an, cv, .ref (p + 3 + 5 * j + 1)]))) (0, 99, n, ep, 0, 0) (Fr.mup Fr.rf (by omega) (by omega)) ⟨nI (E.2.2 ep), en, dn, nu, an, cv, d, b, mup_self _ _ _, w2, w3.kept (fun x y1 y2 => mup_ne _ _ (by omega)), fun _ => rfl, (fun z => by cases z), (fun z => by cases z), (fun z => by cases z), (fun z => by cases z), (fun z => by cases z)⟩
      rw [pSend_app] at hP3
      have e1 : pProc ep hd (n + 1) = pProc ep hd n ++ [(0, 99, n, ep, 0, 0)] := by rw [pProc, if_pos q]
      rw [← e1] at hP3
      refine rw_iinc d_MapKeeper_proclaim_49 (by decide) rfl rfl rfl ?_
      refine rw_lv (lv' := [(0, .ref k), (1, .int (nI (n + 1)))]) (by rw [← nI_1]; intro q hq; simp at hq; rcases hq with rfl | rfl <;> rfl) ?_
      refine rw_goto (tgt := 2) d_MapKeeper_proclaim_52 (by decide) ?_
      exact ih (n + 1) _ (by omega) hP3 hF3
    · refine rw_icmp_ge_t (tgt := 49) d_MapKeeper_proclaim_23 (by decide) (nI_le (by omega) (by omega)) ?_
      refine rw_iinc d_MapKeeper_proclaim_49 (by decide) rfl rfl rfl ?_
      refine rw_lv (lv' := [(0, .ref k), (1, .int (nI (n + 1)))]) (by rw [← nI_1]; intro q hq; simp at hq; rcases hq with rfl | rfl <;> rfl) ?_
      refine rw_goto (tgt := 2) d_MapKeeper_proclaim_52 (by decide) ?_
      have e1 : pProc ep hd (n + 1) = pProc ep hd n := by rw [pProc, if_neg q, List.append_nil]
      exact ih (n + 1) _ (by omega) (by rw [e1]; exact hP) hF
theorem c_proclaim {M : mm_M} {k pl p ep : Nat} {hd : Nat → Nat} {post : List pMsg} (hN : eN E < 7) (hep : ep < 1000000) (hhd : ∀ n, n < eN E → hd n < 1000000) (hpl : M pl = some (plO (eN E) (eC E))) (hpp : pl < p) (hkp : p + 328 ≤ k) (hK : KpP M E k pl p ep hd) (hP : PsP G M ca cm g E p post) :
    CT l G Y_MapKeeper_proclaim ds_MapKeeper_proclaim (rm 2) [.ref k] M sz (SnQ G M sz ca cm g E p (pSend post (pProc ep hd (eN E)))) := by
  refine CT.of (by decide) (Nat.le_of_ble_eq_true rfl) ?_
  refine rw_iconst (v := 0) d_MapKeeper_proclaim_0 (by decide) ?_
  refine rw_istore_n d_MapKeeper_proclaim_1 (by decide) rfl ?_
  refine rw_lv (lv' := [(0, .ref k), (1, .int (nI 0))]) (by intro q hq; simp at hq; rcases hq with rfl | rfl <;> rfl) ?_
  exact proclaim_loop hN hep hhd hpl hpp hkp hK (eN E) 0 M (by omega) (by rw [pProc, pSend_nil hP.len]; exact hP) Fr.rf
theorem c_kHear {M : mm_M} {k pl p ep q f e : Nat} {hd : Nat → Nat} {kv : Value} {t s en dn nu an : Int32} {cv : Value} (hN : eN E < 7) (hf : f < eN E) (he : e < 1000000) (hhd : ∀ n, n < eN E → hd n < 1000000) (hpl : M pl = some (plO (eN E) (eC E))) (hK : KpP M E k pl p ep hd) (hm : M q = some (msO q kv (gI f) t (nI e) s en dn nu an cv)) :
    CT l G Y_MapKeeper_hear ds_MapKeeper_hear (rm 2) [.ref k, .ref q] M sz (fun r M' sz' => r = none ∧ sz' = sz ∧ KpP M' E k pl p ep (va_up hd f (max (hd f) e)) ∧ ∀ x, x ≠ k + 1 → M' x = M x) := by
  obtain ⟨fa, k0, k1, k2⟩ := id hK
  have hhf := hhd f hf
  have egf : gI f = nI f := by rw [gI, if_neg (by omega)]
  rw [egf] at hm
  refine CT.of (by decide) (Nat.le_of_ble_eq_true rfl) ?_
  refine rw_aload_n d_MapKeeper_hear_0 rfl (by first | exact mm_ref_r _ | exact mm_ref_n | exact mm_ref_o _) ?_
  refine rw_get d_MapKeeper_hear_1 fF_MapKeeper_64 hm rfl ?_
  refine rw_if_lt_f (tgt := 46) d_MapKeeper_hear_4 (by decide) (nI_pos (by omega)) ?_
  refine rw_aload_n d_MapKeeper_hear_7 rfl (by first | exact mm_ref_r _ | exact mm_ref_n | exact mm_ref_o _) ?_
  refine rw_get d_MapKeeper_hear_8 fF_MapKeeper_64 hm rfl ?_
  refine rw_aload_n d_MapKeeper_hear_11 rfl (by first | exact mm_ref_r _ | exact mm_ref_n | exact mm_ref_o _) ?_
  refine rw_get d_MapKeeper_hear_12 fF_MapKeeper_15 k0 rfl ?_
  refine rw_get d_MapKeeper_hear_15 fF_MapKeeper_39 hpl rfl ?_
  refine rw_icmp_ge_f (tgt := 46) d_MapKeeper_hear_18 (by decide) (nI_ge (a := f) (b := eN E) (by omega) (by omega)) ?_
  refine rw_aload_n d_MapKeeper_hear_21 rfl (by first | exact mm_ref_r _ | exact mm_ref_n | exact mm_ref_o _) ?_
  refine rw_get d_MapKeeper_hear_22 fF_MapKeeper_42 k0 rfl ?_
  refine rw_aload_n d_MapKeeper_hear_25 rfl (by first | exact mm_ref_r _ | exact mm_ref_n | exact mm_ref_o _) ?_
  refine rw_get d_MapKeeper_hear_26 fF_MapKeeper_64 hm rfl ?_
  refine rw_aload_n d_MapKeeper_hear_29 rfl (by first | exact mm_ref_r _ | exact mm_ref_n | exact mm_ref_o _) ?_
  refine rw_get d_MapKeeper_hear_30 fF_MapKeeper_42 k0 rfl ?_
  refine rw_aload_n d_MapKeeper_hear_33 rfl (by first | exact mm_ref_r _ | exact mm_ref_n | exact mm_ref_o _) ?_
  refine rw_get d_MapKeeper_hear_34 fF_MapKeeper_64 hm rfl ?_
  refine rw_iald d_MapKeeper_hear_37 k1 (vp_in_nI (n := f) (by omega) (by omega)) ?_
  refine rw_aload_n d_MapKeeper_hear_38 rfl (by first | exact mm_ref_r _ | exact mm_ref_n | exact mm_ref_o _) ?_
  refine rw_get d_MapKeeper_hear_39 fF_MapKeeper_67 hm rfl ?_
  rw [nI_c (by omega), k2 f hf]
  refine rw_callS (kc := 0) (ks := 0) (rest := [.int (nI f), .ref (k + 1)]) d_MapKeeper_hear_42 (c_max (x := nI (hd f)) (y := nI e)) mW_Math_max mL_MapKeeper_68 mS_Math_max ⟨by decide, by decide⟩ rfl rfl (Nat.le_of_ble_eq_true rfl) (fun r M1 sz1 hq => ?_)
  obtain ⟨rfl, rfl, rfl⟩ := hq
  have emx : (if nI e ≤ nI (hd f) then nI (hd f) else nI e) = nI (max (hd f) e) := by
    by_cases z : e ≤ hd f
    · rw [if_pos ((nI_leI (by omega) (by omega)).mpr z), Nat.max_eq_left z]
    · rw [if_neg (fun w => z ((nI_leI (by omega) (by omega)).mp w)), Nat.max_eq_right (by omega)]
  rw [emx]
  refine rw_stk (st' := [.int (nI (max (hd f) e)), .int (nI f), .ref (k + 1)]) rfl ?_
  refine rw_iast d_MapKeeper_hear_45 k1 (vp_in_nI (n := f) (by omega) (by omega)) ?_
  rw [nI_c (by omega)]
  refine rw_vret d_MapKeeper_hear_46 rfl ⟨rfl, rfl, ⟨_, (mup_ne _ _ (by omega)).trans k0, mup_self _ _ _, fun n hn => ?_⟩, fun x hx => mup_ne _ _ hx⟩
  by_cases z : n = f
  · simp [upd, va_up, z]
  · simp [upd, va_up, z, k2 n hn]
theorem c_renew {M : mm_M} {k pl p ep : Nat} {hd : Nat → Nat} {w : Int32} (hN : eN E < 7) (hC : eC E ≤ 3) (hep : ep < 1000000) (hpl : M pl = some (plO (eN E) (eC E))) (hpk : pl ≠ k) (hK : KpP M E k pl p ep hd) (hw : w &&& nI (2 ^ eN E - 1) = nI (E.2.2 (ep + 1))) (hs : E.2.2 (ep + 1) < 64) (hm : eM E (ep + 1) < 64) :
    CT l G Y_MapKeeper_renew ds_MapKeeper_renew (rm 3) [.ref k, .int w] M sz (fun r M' sz' => r = none ∧ sz' = sz ∧ KpP M' E k pl p (ep + 1) hd ∧ ∀ x, x ≠ k → M' x = M x) := by
  obtain ⟨fa, k0, k1, k2⟩ := id hK
  refine CT.of (by decide) (Nat.le_of_ble_eq_true rfl) ?_
  refine rw_aload_n d_MapKeeper_renew_0 rfl (by first | exact mm_ref_r _ | exact mm_ref_n | exact mm_ref_o _) ?_
  refine rw_dup d_MapKeeper_renew_1 rfl ?_
  refine rw_get d_MapKeeper_renew_2 fF_MapKeeper_9 k0 rfl ?_
  refine rw_iconst (v := 1) d_MapKeeper_renew_5 (by decide) ?_
  refine rw_iadd d_MapKeeper_renew_6 ?_
  refine rw_put d_MapKeeper_renew_7 (fP_MapKeeper_9 _) k0 (Nat.le_of_ble_eq_true rfl) (by first | rfl | assumption | decide) (by first | rfl | decide) ?_
  have hp1 : (mup M k (.inr (5, [.ref pl, .ref p, .ref (k + 1), .int (nI ep + 1), .int (nI (E.2.2 ep)), .int (gI (eL E ep))]))) pl = some (plO (eN E) (eC E)) := (mup_ne _ _ hpk).trans hpl
  refine rw_aload_n d_MapKeeper_renew_10 rfl (by first | exact mm_ref_r _ | exact mm_ref_n | exact mm_ref_o _) ?_
  refine rw_iload_n d_MapKeeper_renew_11 rfl ?_
  refine rw_aload_n d_MapKeeper_renew_12 rfl (by first | exact mm_ref_r _ | exact mm_ref_n | exact mm_ref_o _) ?_
  refine rw_get d_MapKeeper_renew_13 fF_MapKeeper_15 (mup_self _ _ _) rfl ?_
  refine rw_callV (kc := 0) (ks := 0) (rest := [.int w, .ref k]) d_MapKeeper_renew_16 (c_all hp1 hN) mW_Plan_all mL_MapKeeper_23 mI_Plan_all mE_Plan_all ⟨by decide, by decide⟩ hp1 rfl rfl rfl rfl (Nat.le_of_ble_eq_true rfl) (fun r M1 sz1 hq => ?_)
  obtain ⟨rfl, rfl, rfl⟩ := hq
  refine rw_stk (st' := [.int (nI (2 ^ eN E - 1)), .int w, .ref k]) rfl ?_
  refine rw_iand d_MapKeeper_renew_19 ?_
  rw [hw]
  refine rw_put d_MapKeeper_renew_20 (fP_MapKeeper_29 _) (mup_self _ _ _) (Nat.le_of_ble_eq_true rfl) (by first | rfl | assumption | decide) (by first | rfl | decide) ?_
  have hp2 : (mup (mup M k (.inr (5, [.ref pl, .ref p, .ref (k + 1), .int (nI ep + 1), .int (nI (E.2.2 ep)), .int (gI (eL E ep))]))) k (.inr (5, [.ref pl, .ref p, .ref (k + 1), .int (nI ep + 1), .int (nI (E.2.2 (ep + 1))), .int (gI (eL E ep))]))) pl = some (plO (eN E) (eC E)) := (mup_ne _ _ hpk).trans hp1
  refine rw_aload_n d_MapKeeper_renew_23 rfl (by first | exact mm_ref_r _ | exact mm_ref_n | exact mm_ref_o _) ?_
  refine rw_aload_n d_MapKeeper_renew_24 rfl (by first | exact mm_ref_r _ | exact mm_ref_n | exact mm_ref_o _) ?_
  refine rw_get d_MapKeeper_renew_25 fF_MapKeeper_15 (mup_self _ _ _) rfl ?_
  refine rw_aload_n d_MapKeeper_renew_28 rfl (by first | exact mm_ref_r _ | exact mm_ref_n | exact mm_ref_o _) ?_
  refine rw_get d_MapKeeper_renew_29 fF_MapKeeper_15 (mup_self _ _ _) rfl ?_
  refine rw_aload_n d_MapKeeper_renew_32 rfl (by first | exact mm_ref_r _ | exact mm_ref_n | exact mm_ref_o _) ?_
  refine rw_get d_MapKeeper_renew_33 fF_MapKeeper_29 (mup_self _ _ _) rfl ?_
  refine rw_callV (kc := 0) (ks := 0) (rest := [.ref pl, .ref k]) d_MapKeeper_renew_36 (c_keepers hp2 hN hC hs) mW_Plan_keepers mL_MapKeeper_46 mI_Plan_keepers mE_Plan_keepers ⟨by decide, by decide⟩ hp2 rfl rfl rfl rfl (Nat.le_of_ble_eq_true rfl) (fun r2 M2 sz2 hq2 => ?_)
  obtain ⟨rfl, rfl, rfl⟩ := hq2
  refine rw_stk (st' := [.int (nI (eM E (ep + 1))), .ref pl, .ref k]) rfl ?_
  refine rw_callV (kc := 0) (ks := 0) (rest := [.ref k]) d_MapKeeper_renew_39 (c_greatest hp2 hN hm) mW_Plan_greatest mL_MapKeeper_32 mI_Plan_greatest mE_Plan_greatest ⟨by decide, by decide⟩ hp2 rfl rfl rfl rfl (Nat.le_of_ble_eq_true rfl) (fun r3 M3 sz3 hq3 => ?_)
  obtain ⟨rfl, rfl, rfl⟩ := hq3
  refine rw_stk (st' := [.int (gI (eL E (ep + 1))), .ref k]) rfl ?_
  refine rw_put d_MapKeeper_renew_42 (fP_MapKeeper_36 _) (mup_self _ _ _) (Nat.le_of_ble_eq_true rfl) (by first | rfl | assumption | decide) (by first | rfl | decide) ?_
  refine rw_vret d_MapKeeper_renew_45 rfl ⟨rfl, rfl, ⟨fa, ?_, ?_, k2⟩, fun x hx => ?_⟩
  · rw [mup_self, ← nI_1]
    rfl
  · rw [mup_ne _ _ (by omega), mup_ne _ _ (by omega), mup_ne _ _ (by omega)]
    exact k1
  · rw [mup_ne _ _ hx, mup_ne _ _ hx, mup_ne _ _ hx]
end KEEPER
end
section
/-! The desk. -/
theorem tab_up {cm : Nat → pCm} {c : pCm} {g : Nat} : ∀ d, d ≤ g → tab (va_up cm g c) d = tab cm d := by
  intro d
  induction d with
  | zero => intro _; rfl
  | succ n ih =>
    intro h
    rw [tab, tab, ih (by omega), va_up_ne _ _ (by omega)]
theorem tAns_up {cm : Nat → pCm} {c : pCm} {g i : Nat} (h : i < g) : tAns (va_up cm g c) i = tAns cm i := by
  unfold tAns
  rw [tab_up i (by omega), va_up_ne _ _ (by omega)]
def DkP (M : mm_M) (ca : Nat → Nat) (cm : Nat → pCm) (k p gv td : Nat) (ar : Nat → Nat) : Prop := ∃ cs arr an, M k = some (.inr (6, [.ref p, .ref (k + 1), .ref (k + 2), .ref (k + 3), .int (nI gv), .int (nI td)])) ∧ M (k + 1) = some (aR 3 8 cs) ∧ M (k + 2) = some (aZ 8 arr) ∧ M (k + 3) = some (aI 512 an) ∧
  td ≤ gv ∧ gv ≤ td + 8 ∧ gv ≤ 512 ∧ (∀ i, td ≤ i → i < gv → cs (i % 8) = some (ca i)) ∧ (∀ j, j < 8 → arr j = nI (ar j) ∧ ar j ≤ 1) ∧ ∀ i, i < gv → i < td ∨ ar (i % 8) = 1 → an i = tAns cm i
theorem DkP.kept {M M' : mm_M} {ca : Nat → Nat} {cm : Nat → pCm} {k p gv td : Nat} {ar : Nat → Nat} (h : DkP M ca cm k p gv td ar) (hq : ∀ q, k ≤ q → q < k + 4 → M' q = M q) : DkP M' ca cm k p gv td ar := by
  obtain ⟨cs, arr, an, h0, h1, h2, h3, hr⟩ := h
  exact ⟨cs, arr, an, (hq _ (by omega) (by omega)).trans h0, (hq _ (by omega) (by omega)).trans h1, (hq _ (by omega) (by omega)).trans h2, (hq _ (by omega) (by omega)).trans h3, hr⟩
def pReq1 (ld ep i : Nat) : List pMsg := if ld = 99 then [] else [(2, 99, ld, ep, i, 0)]
def pReqs (ld ep : Nat) (ar : Nat → Nat) (td : Nat) : Nat → List pMsg
  | 0 => []
  | n + 1 => pReqs ld ep ar td n ++ (if ar ((td + n) % 8) = 1 then [] else pReq1 ld ep (td + n))
section DESK
variable {l : Launch} {G : mm_G} {sz : Nat} {ca : Nat → Nat} {cm : Nat → pCm} {g : Nat} {E : pE}
theorem c_open {M : mm_M} {k p gv td : Nat} {ar : Nat → Nat} (hD : DkP M ca cm k p gv td ar) : CT l G Y_Desk_open ds_Desk_open (rm 1) [.ref k] M sz (NuQ M sz (gv - td)) := by
  obtain ⟨cs, arr, an, h0, h1, h2, h3, b1, b2, b3, b4, b5, b6⟩ := hD
  refine CT.of (by decide) (Nat.le_of_ble_eq_true rfl) ?_
  refine rw_aload_n d_Desk_open_0 rfl (by first | exact mm_ref_r _ | exact mm_ref_n | exact mm_ref_o _) ?_
  refine rw_get d_Desk_open_1 fF_Desk_29 h0 rfl ?_
  refine rw_aload_n d_Desk_open_4 rfl (by first | exact mm_ref_r _ | exact mm_ref_n | exact mm_ref_o _) ?_
  refine rw_get d_Desk_open_5 fF_Desk_33 h0 rfl ?_
  refine rw_isub d_Desk_open_8 ?_
  exact rw_iret d_Desk_open_9 rfl ⟨by rw [nI_sub b1], rfl, rfl⟩
theorem c_isFull {M : mm_M} {k p gv td : Nat} {ar : Nat → Nat} (hD : DkP M ca cm k p gv td ar) : CT l G Y_Desk_isFull ds_Desk_isFull (rm 2) [.ref k] M sz (fun r M' sz' => r = some (.int (bI (decide (8 ≤ gv - td ∨ 512 ≤ gv)))) ∧ M' = M ∧ sz' = sz) := by
  obtain ⟨cs, arr, an, h0, h1, h2, h3, b1, b2, b3, b4, b5, b6⟩ := id hD
  refine CT.of (by decide) (Nat.le_of_ble_eq_true rfl) ?_
  refine rw_aload_n d_Desk_isFull_0 rfl (by first | exact mm_ref_r _ | exact mm_ref_n | exact mm_ref_o _) ?_
  refine rw_callV (kc := 0) (ks := 0) (rest := []) d_Desk_isFull_1 (c_open hD) mW_Desk_open mL_Desk_36 mI_Desk_open mE_Desk_open ⟨by decide, by decide⟩ h0 rfl rfl rfl rfl (Nat.le_of_ble_eq_true rfl) (fun r M1 sz1 hq => ?_)
  obtain ⟨rfl, rfl, rfl⟩ := hq
  refine rw_stk (st' := [.int (nI (gv - td))]) rfl ?_
  refine rw_bipush (v := 8) d_Desk_isFull_4 (by decide) ?_
  by_cases q : 8 ≤ gv - td
  · refine rw_icmp_ge_t (tgt := 19) d_Desk_isFull_6 (by decide) (nI_le (a := 8) q (by omega)) ?_
    refine rw_iconst (v := 1) d_Desk_isFull_19 (by decide) ?_
    refine rw_goto (tgt := 24) d_Desk_isFull_20 (by decide) ?_
    exact rw_zret d_Desk_isFull_24 rfl rfl ⟨by rw [decide_eq_true (Or.inl q)]; rfl, rfl, rfl⟩
  · refine rw_icmp_ge_f (tgt := 19) d_Desk_isFull_6 (by decide) (nI_ge (b := 8) (by omega) (by omega)) ?_
    refine rw_aload_n d_Desk_isFull_9 rfl (by first | exact mm_ref_r _ | exact mm_ref_n | exact mm_ref_o _) ?_
    refine rw_get d_Desk_isFull_10 fF_Desk_29 h0 rfl ?_
    refine rw_sipush (v := 512) d_Desk_isFull_13 (by decide) ?_
    by_cases q2 : 512 ≤ gv
    · refine rw_icmp_lt_f (tgt := 23) d_Desk_isFull_16 (by decide) (nI_nlt (b := 512) q2 (by omega)) ?_
      refine rw_iconst (v := 1) d_Desk_isFull_19 (by decide) ?_
      refine rw_goto (tgt := 24) d_Desk_isFull_20 (by decide) ?_
      exact rw_zret d_Desk_isFull_24 rfl rfl ⟨by rw [decide_eq_true (Or.inr q2)]; rfl, rfl, rfl⟩
    · refine rw_icmp_lt_t (tgt := 23) d_Desk_isFull_16 (by decide) (nI_lt (b := 512) (by omega) (by omega)) ?_
      refine rw_iconst (v := 0) d_Desk_isFull_23 (by decide) ?_
      exact rw_zret d_Desk_isFull_24 rfl rfl ⟨by rw [decide_eq_false (by omega)]; rfl, rfl, rfl⟩
theorem c_commandInit {M : mm_M} {a i kd k : Nat} {v : Int32} (hM : M a = some (.inr (0, [.int 0, .int 0, .int 0, .int 0]))) : CT l G Y_Command_init ds_Command_init (rm 1) [.ref a, .int (nI i), .int (nI kd), .int (nI k), .int v] M sz (fun r M' sz' => r = none ∧ sz' = sz ∧ M' a = some (cmO i (kd, k, v)) ∧ ∀ q, q ≠ a → M' q = M q) := by
  refine CT.of (by decide) (Nat.le_of_ble_eq_true rfl) ?_
  refine rw_aload_n d_Command_init_0 rfl (by first | exact mm_ref_r _ | exact mm_ref_n | exact mm_ref_o _) ?_
  refine rw_objInit d_Command_init_1 mL_Command_1 mI_Object_init cO_init (by decide) (by decide) ?_
  refine rw_aload_n d_Command_init_4 rfl (by first | exact mm_ref_r _ | exact mm_ref_n | exact mm_ref_o _) ?_
  refine rw_iload_n d_Command_init_5 rfl ?_
  refine rw_put d_Command_init_6 fQ_Command_7 hM (Nat.le_of_ble_eq_true rfl) (by first | rfl | assumption | decide) (by first | rfl | decide) ?_
  refine rw_aload_n d_Command_init_9 rfl (by first | exact mm_ref_r _ | exact mm_ref_n | exact mm_ref_o _) ?_
  refine rw_iload_n d_Command_init_10 rfl ?_
  refine rw_put d_Command_init_11 fQ_Command_13 (mup_self _ _ _) (Nat.le_of_ble_eq_true rfl) (by first | rfl | assumption | decide) (by first | rfl | decide) ?_
  refine rw_aload_n d_Command_init_14 rfl (by first | exact mm_ref_r _ | exact mm_ref_n | exact mm_ref_o _) ?_
  refine rw_iload_n d_Command_init_15 rfl ?_
  refine rw_put d_Command_init_16 fQ_Command_16 (mup_self _ _ _) (Nat.le_of_ble_eq_true rfl) (by first | rfl | assumption | decide) (by first | rfl | decide) ?_
  refine rw_aload_n d_Command_init_19 rfl (by first | exact mm_ref_r _ | exact mm_ref_n | exact mm_ref_o _) ?_
  refine rw_iload d_Command_init_20 rfl ?_
  refine rw_put d_Command_init_22 fQ_Command_19 (mup_self _ _ _) (Nat.le_of_ble_eq_true rfl) (by first | rfl | assumption | decide) (by first | rfl | decide) ?_
  refine rw_vret d_Command_init_25 rfl ⟨rfl, rfl, ?_, fun q hq => ?_⟩
  · rw [mup_self]
    rfl
  · rw [mup_ne _ _ hq, mup_ne _ _ hq, mup_ne _ _ hq, mup_ne _ _ hq]
theorem c_accept {M : mm_M} {k p gv td kd x : Nat} {v : Int32} {ar : Nat → Nat} (hD : DkP M ca cm k p gv td ar) (hf : gv < td + 8) (hf2 : gv < 512) (hsz : k + 4 ≤ sz) : CT l G Y_Desk_accept ds_Desk_accept (rmA 2 1 4) [.ref k, .int (nI kd), .int (nI x), .int v] M sz
    (fun r M' sz' => r = some (.ref sz) ∧ sz' = sz + 1 ∧ M' sz = some (cmO gv (kd, x, v)) ∧ DkP M' (va_up ca gv sz) (va_up cm gv (kd, x, v)) k p (gv + 1) td (va_up ar (gv % 8) 0) ∧ ∀ q, q < sz → q < k ∨ k + 4 ≤ q → M' q = M q) := by
  obtain ⟨cs, arr, an, h0, h1, h2, h3, b1, b2, b3, b4, b5, b6⟩ := id hD
  refine CT.of (by decide) (Nat.le_of_ble_eq_true rfl) ?_
  refine rw_new (N := 4) (kc := 0) (ks := 0) d_Desk_accept_0 nN_Desk_9 ?_
  refine rw_dup d_Desk_accept_3 rfl ?_
  refine rw_aload_n d_Desk_accept_4 rfl (by first | exact mm_ref_r _ | exact mm_ref_n | exact mm_ref_o _) ?_
  refine rw_get d_Desk_accept_5 fF_Desk_29 (mup_get (by omega) h0) rfl ?_
  refine rw_iload_n d_Desk_accept_8 rfl ?_
  refine rw_iload_n d_Desk_accept_9 rfl ?_
  refine rw_iload_n d_Desk_accept_10 rfl ?_
  refine rw_callI (kc := 0) (ks := 0) (rest := [.ref sz]) d_Desk_accept_11 (c_commandInit (i := gv) (kd := kd) (k := x) (v := v) (mup_self _ _ _)) mW_Command_init mL_Desk_40 mI_Command_init rfl rfl ⟨by decide, by decide⟩ rfl rfl (Nat.le_of_ble_eq_true rfl) (fun r M1 sz1 hq => ?_)
  obtain ⟨rfl, rfl, q1, q2⟩ := hq
  have e : ∀ y, y < sz → M1 y = M y := fun y hy => (q2 y (by omega)).trans (mup_ne _ _ (by omega))
  refine rw_stk (st' := [.ref sz]) rfl ?_
  refine rw_astore d_Desk_accept_14 (by decide) (by first | exact mm_ref_r _ | exact mm_ref_n | exact mm_ref_o _) rfl ?_
  refine rw_aload_n d_Desk_accept_16 rfl (by first | exact mm_ref_r _ | exact mm_ref_n | exact mm_ref_o _) ?_
  refine rw_get d_Desk_accept_17 fF_Desk_11 ((e k (by omega)).trans h0) rfl ?_
  refine rw_aload_n d_Desk_accept_20 rfl (by first | exact mm_ref_r _ | exact mm_ref_n | exact mm_ref_o _) ?_
  refine rw_get d_Desk_accept_21 fF_Desk_29 ((e k (by omega)).trans h0) rfl ?_
  refine rw_bipush (v := 8) d_Desk_accept_24 (by decide) ?_
  refine rw_irem d_Desk_accept_26 (by decide) ?_
  rw [nI_rem8 (by omega)]
  refine rw_aload d_Desk_accept_27 rfl (by first | exact mm_ref_r _ | exact mm_ref_n | exact mm_ref_o _) ?_
  refine rw_aast d_Desk_accept_29 ((e (k + 1) (by omega)).trans h1) (by decide) q1 rfl rfl (vp_in8 gv) ?_
  rw [nI_c8]
  refine rw_aload_n d_Desk_accept_30 rfl (by first | exact mm_ref_r _ | exact mm_ref_n | exact mm_ref_o _) ?_
  refine rw_get d_Desk_accept_31 fF_Desk_17 (mup_get (by omega) ((e k (by omega)).trans h0)) rfl ?_
  refine rw_aload_n d_Desk_accept_34 rfl (by first | exact mm_ref_r _ | exact mm_ref_n | exact mm_ref_o _) ?_
  refine rw_get d_Desk_accept_35 fF_Desk_29 (mup_get (by omega) ((e k (by omega)).trans h0)) rfl ?_
  refine rw_bipush (v := 8) d_Desk_accept_38 (by decide) ?_
  refine rw_irem d_Desk_accept_40 (by decide) ?_
  rw [nI_rem8 (by omega)]
  refine rw_iconst (v := 0) d_Desk_accept_41 (by decide) ?_
  refine rw_zast d_Desk_accept_42 (mup_get (by omega) ((e (k + 2) (by omega)).trans h2)) (vp_in8 gv) (by first | rfl | assumption | decide) ?_
  rw [nI_c8]
  refine rw_aload_n d_Desk_accept_43 rfl (by first | exact mm_ref_r _ | exact mm_ref_n | exact mm_ref_o _) ?_
  refine rw_dup d_Desk_accept_44 rfl ?_
  refine rw_get d_Desk_accept_45 fF_Desk_29 (mup_get (by omega) (mup_get (by omega) ((e k (by omega)).trans h0))) rfl ?_
  refine rw_iconst (v := 1) d_Desk_accept_48 (by decide) ?_
  refine rw_iadd d_Desk_accept_49 ?_
  refine rw_put d_Desk_accept_50 (fP_Desk_29 _) (mup_get (by omega) (mup_get (by omega) ((e k (by omega)).trans h0))) (Nat.le_of_ble_eq_true rfl) (by first | rfl | assumption | decide) (by first | rfl | decide) ?_
  refine rw_aload d_Desk_accept_53 rfl (by first | exact mm_ref_r _ | exact mm_ref_n | exact mm_ref_o _) ?_
  refine rw_aret d_Desk_accept_55 rfl (mm_ref_r _) ⟨rfl, rfl, ?_, ⟨va_up cs (gv % 8) (some sz), upd arr (gv % 8) 0, an, ?_, ?_, ?_, ?_, by omega, by omega, by omega, fun i i1 i2 => ?_, fun j hj => ?_, fun i i1 i2 => ?_⟩, fun q y1 y2 => ?_⟩
  · rw [mup_ne _ _ (by omega), mup_ne _ _ (by omega), mup_ne _ _ (by omega)]
    exact q1
  · rw [mup_self]
    show some (Sum.inr (6, [_, _, _, _, Value.int (nI gv + 1), _])) = _
    rw [nI_1]
  · rw [mup_ne _ _ (by omega), mup_ne _ _ (by omega), mup_self]
  · rw [mup_ne _ _ (by omega), mup_self]
  · rw [mup_ne _ _ (by omega), mup_ne _ _ (by omega), mup_ne _ _ (by omega)]
    exact (e (k + 3) (by omega)).trans h3
  · by_cases z : i = gv
    · subst z
      rw [va_up_self, va_up_self]
    · rw [va_up_ne _ _ (by omega), va_up_ne _ _ z]
      exact b4 i i1 (by omega)
  · by_cases z : j = gv % 8
    · rw [z, va_up_self]
      simp [upd]
      rfl
    · rw [va_up_ne _ _ z]
      simp [upd, z, b5 j hj]
  · by_cases z : i = gv
    · subst z
      rcases i2 with i2 | i2
      · omega
      · rw [va_up_self] at i2
        cases i2
    · rw [tAns_up (by omega)]
      refine b6 i (by omega) (i2.imp id (fun w => ?_))
      by_cases z2 : i % 8 = gv % 8
      · rw [z2, va_up_self] at w
        cases w
      · rw [va_up_ne _ _ z2] at w
        exact w
  · rw [mup_ne _ _ (by omega), mup_ne _ _ (by omega), mup_ne _ _ (by omega)]
    exact e q y1
theorem c_request {M : mm_M} {k p ld ep i : Nat} {post : List pMsg} {gv td : Nat} {ar : Nat → Nat} (hD : DkP M ca cm k p gv td ar) (hP : PsP G M ca cm g E p post) (hi : i < g) (hA : CmA M ca cm g) (hl : ld = 99 ∨ ld < 7) : CT l G Y_Desk_request ds_Desk_request (rm 2) [.ref k, .ref (ca i), .int (gI ld), .int (nI ep)] M sz (SnQ G M sz ca cm g E p (pSend post (pReq1 ld ep i))) := by
  obtain ⟨cs, arr, an, h0, -⟩ := id hD
  refine CT.of (by decide) (Nat.le_of_ble_eq_true rfl) ?_
  refine rw_iload_n d_Desk_request_0 rfl ?_
  refine rw_iconst (v := (-1)) d_Desk_request_1 (by decide) ?_
  rcases hl with rfl | hl
  · refine rw_icmp_eq_t (tgt := 22) d_Desk_request_2 (by decide) (rfl) ?_
    exact rw_vret d_Desk_request_22 rfl ⟨rfl, rfl, by rw [pReq1, if_pos rfl, pSend_nil hP.len]; exact hP, Fr.rf⟩
  · have e9 : gI ld = nI ld := by rw [gI, if_neg (by omega)]
    have ne9 : ¬ gI ld = -1 := fun z => by
      rw [e9] at z
      have := congrArg Int32.toInt z
      rw [nI_toInt (by omega)] at this
      have h5 : (-1 : Int32).toInt = -1 := by decide
      omega
    refine rw_icmp_eq_f (tgt := 22) d_Desk_request_2 (by decide) (ne9) ?_
    refine rw_aload_n d_Desk_request_5 rfl (by first | exact mm_ref_r _ | exact mm_ref_n | exact mm_ref_o _) ?_
    refine rw_get d_Desk_request_6 fF_Desk_25 h0 rfl ?_
    refine rw_kind (i := 2) (by decide) fS_Desk_43 d_Desk_request_9 ?_
    refine rw_iconst (v := (-1)) d_Desk_request_12 (by decide) ?_
    refine rw_iload_n d_Desk_request_13 rfl ?_
    refine rw_iload_n d_Desk_request_14 rfl ?_
    refine rw_stk (st' := [.int (nI ep), .int (gI ld), .int (gI 99), .ref (gad G 2), .ref p]) rfl ?_
    refine rw_callV (kc := 0) (ks := 0) (rest := []) d_Desk_request_15 (c_send (k := 2) (f := 99) (t := ld) (e := ep) hP) mW_Post_send mL_Desk_49 mI_Post_send mE_Post_send ⟨by decide, by decide⟩ hP.choose_spec.choose_spec.choose_spec.1 rfl rfl rfl rfl (Nat.le_of_ble_eq_true rfl) (fun r M2 sz2 hq => ?_)
    obtain ⟨rfl, q1, j, hj, rfl, ⟨s, en, dn, nu, a2, cv, d, b, w1, w2, w3⟩, q2⟩ := hq
    refine rw_stk (st' := [.ref (p + 3 + 5 * j)]) rfl ?_
    refine rw_aload_n d_Desk_request_18 rfl (by first | exact mm_ref_r _ | exact mm_ref_n | exact mm_ref_o _) ?_
    refine rw_put d_Desk_request_19 (fP_Desk_55 _) w1 (Nat.le_of_ble_eq_true rfl) (by first | rfl | assumption | decide) (by first | rfl | decide) ?_
    refine rw_vret d_Desk_request_22 rfl ⟨rfl, rfl, ?_, Fr.mup q1 (by omega) (by omega)⟩
    have e1 : pReq1 ld ep i = [(2, 99, ld, ep, i, 0)] := by rw [pReq1, if_neg (by omega)]
    rw [e1]
    exact q2 _ (2, 99, ld, ep, i, 0) (Fr.mup Fr.rf (by omega) (by omega)) ⟨s, en, dn, nu, a2, .ref (ca i), d, b, mup_self _ _ _, Or.inr ⟨i, hi, rfl⟩, w3.kept (fun x y1 y2 => mup_ne _ _ (by omega)), (fun z => by cases z), fun _ => ⟨hi, rfl⟩, (fun z => by cases z), (fun z => by cases z), (fun z => by cases z), (fun z => by cases z)⟩
theorem requestAll_loop {M : mm_M} {k p ld ep : Nat} {post : List pMsg} {gv td : Nat} {ar : Nat → Nat} (hD : DkP M ca cm k p gv td ar) (hP0 : PsP G M ca cm g E p post) (hA : CmA M ca cm g) (hg : gv = g) (hkp : p + 328 ≤ k) (hl : ld = 99 ∨ ld < 7) :
    ∀ (m n : Nat) (M1 : mm_M), m + n = gv - td → PsP G M1 ca cm g E p (pSend post (pReqs ld ep ar td n)) → Fr M M1 p 328 →
    RW l G Y_Desk_requestAll (rm 3) (mm_Z G (rm 3) (SnQ G M sz ca cm g E p (pSend post (pReqs ld ep ar td (gv - td))))) 0 0 5 [(0, .ref k), (1, .int (gI ld)), (2, .int (nI ep)), (3, .int (nI (td + n)))] [] M1 sz := by
  intro m
  induction m with
  | zero =>
    intro n M1 hn hP hF
    obtain ⟨cs, arr, an, h0, h1, h2, h3, b1, b2, b3, b4, b5, b6⟩ := hD.kept (M' := M1) (fun q y1 y2 => hF q (by omega))
    refine rw_iload_n d_Desk_requestAll_5 rfl ?_
    refine rw_aload_n d_Desk_requestAll_6 rfl (by first | exact mm_ref_r _ | exact mm_ref_n | exact mm_ref_o _) ?_
    refine rw_get d_Desk_requestAll_7 fF_Desk_29 h0 rfl ?_
    refine rw_icmp_ge_t (tgt := 46) d_Desk_requestAll_10 (by decide) (nI_le (by omega) (by omega)) ?_
    have : n = gv - td := by omega
    subst this
    exact rw_vret d_Desk_requestAll_46 rfl ⟨rfl, rfl, hP, hF⟩
  | succ m ih =>
    intro n M1 hn hP hF
    obtain ⟨cs, arr, an, h0, h1, h2, h3, b1, b2, b3, b4, b5, b6⟩ := hD.kept (M' := M1) (fun q y1 y2 => hF q (by omega))
    have hA1 := hA.post hP0 hF
    have hb := b5 ((td + n) % 8) (Nat.mod_lt _ (by omega))
    refine rw_iload_n d_Desk_requestAll_5 rfl ?_
    refine rw_aload_n d_Desk_requestAll_6 rfl (by first | exact mm_ref_r _ | exact mm_ref_n | exact mm_ref_o _) ?_
    refine rw_get d_Desk_requestAll_7 fF_Desk_29 h0 rfl ?_
    refine rw_icmp_ge_f (tgt := 46) d_Desk_requestAll_10 (by decide) (nI_ge (by omega) (by omega)) ?_
    refine rw_aload_n d_Desk_requestAll_13 rfl (by first | exact mm_ref_r _ | exact mm_ref_n | exact mm_ref_o _) ?_
    refine rw_get d_Desk_requestAll_14 fF_Desk_17 h0 rfl ?_
    refine rw_iload_n d_Desk_requestAll_17 rfl ?_
    refine rw_bipush (v := 8) d_Desk_requestAll_18 (by decide) ?_
    refine rw_irem d_Desk_requestAll_20 (by decide) ?_
    rw [nI_rem8 (by omega)]
    refine rw_zald d_Desk_requestAll_21 h2 (vp_in8 _) ?_
    rw [nI_c8, hb.1]
    have next : ∀ M2 : mm_M, PsP G M2 ca cm g E p (pSend post (pReqs ld ep ar td (n + 1))) → Fr M M2 p 328 → RW l G Y_Desk_requestAll (rm 3) (mm_Z G (rm 3) (SnQ G M sz ca cm g E p (pSend post (pReqs ld ep ar td (gv - td))))) 0 0 40 [(0, .ref k), (1, .int (gI ld)), (2, .int (nI ep)), (3, .int (nI (td + n)))] [] M2 sz := by
      intro M2 hP2 hF2
      refine rw_iinc d_Desk_requestAll_40 (by decide) rfl rfl rfl ?_
      refine rw_lv (lv' := [(0, .ref k), (1, .int (gI ld)), (2, .int (nI ep)), (3, .int (nI (td + (n + 1))))]) (by rw [← Nat.add_assoc, ← nI_1]; intro q hq; simp at hq; rcases hq with rfl | rfl | rfl | rfl <;> rfl) ?_
      refine rw_goto (tgt := 5) d_Desk_requestAll_43 (by decide) ?_
      exact ih (n + 1) M2 (by omega) hP2 hF2
    rcases (show ar ((td + n) % 8) = 0 ∨ ar ((td + n) % 8) = 1 by omega) with q | q
    · rw [q]
      refine rw_if_ne_f (tgt := 40) d_Desk_requestAll_22 (by decide) (by decide) ?_
      refine rw_aload_n d_Desk_requestAll_25 rfl (by first | exact mm_ref_r _ | exact mm_ref_n | exact mm_ref_o _) ?_
      refine rw_aload_n d_Desk_requestAll_26 rfl (by first | exact mm_ref_r _ | exact mm_ref_n | exact mm_ref_o _) ?_
      refine rw_get d_Desk_requestAll_27 fF_Desk_11 h0 rfl ?_
      refine rw_iload_n d_Desk_requestAll_30 rfl ?_
      refine rw_bipush (v := 8) d_Desk_requestAll_31 (by decide) ?_
      refine rw_irem d_Desk_requestAll_33 (by decide) ?_
      rw [nI_rem8 (by omega)]
      refine rw_aald d_Desk_requestAll_34 h1 (by decide) rfl (vp_in8 _) ?_
      rw [nI_c8, b4 (td + n) (by omega) (by omega)]
      refine rw_stk (st' := [.ref (ca (td + n)), .ref k]) rfl ?_
      refine rw_iload_n d_Desk_requestAll_35 rfl ?_
      refine rw_iload_n d_Desk_requestAll_36 rfl ?_
      refine rw_callV (kc := 0) (ks := 0) (rest := []) d_Desk_requestAll_37 (c_request (ld := ld) (ep := ep) (i := td + n) (hD.kept (M' := M1) (fun q y1 y2 => hF q (by omega))) hP (by omega) hA1 hl) mW_Desk_request mL_Desk_61 mI_Desk_request mE_Desk_request ⟨by decide, by decide⟩ h0 rfl rfl rfl rfl (Nat.le_of_ble_eq_true rfl) (fun r M2 sz2 hq => ?_)
      obtain ⟨rfl, rfl, q1, q2⟩ := hq
      refine rw_stk (st' := []) rfl ?_
      refine next M2 ?_ (hF.trans q2)
      rw [pSend_app] at q1
      rw [pReqs, if_neg (by omega)]
      exact q1
    · rw [q]
      refine rw_if_ne_t (tgt := 40) d_Desk_requestAll_22 (by decide) (by decide) ?_
      refine next M1 ?_ hF
      rw [pReqs, if_pos q, List.append_nil]
      exact hP
theorem c_requestAll {M : mm_M} {k p ld ep : Nat} {post : List pMsg} {gv td : Nat} {ar : Nat → Nat} (hD : DkP M ca cm k p gv td ar) (hP : PsP G M ca cm g E p post) (hA : CmA M ca cm g) (hg : gv = g) (hkp : p + 328 ≤ k) (hl : ld = 99 ∨ ld < 7) : CT l G Y_Desk_requestAll ds_Desk_requestAll (rm 3) [.ref k, .int (gI ld), .int (nI ep)] M sz (SnQ G M sz ca cm g E p (pSend post (pReqs ld ep ar td (gv - td)))) := by
  obtain ⟨cs, arr, an, h0, -⟩ := id hD
  refine CT.of (by decide) (Nat.le_of_ble_eq_true rfl) ?_
  refine rw_aload_n d_Desk_requestAll_0 rfl (by first | exact mm_ref_r _ | exact mm_ref_n | exact mm_ref_o _) ?_
  refine rw_get d_Desk_requestAll_1 fF_Desk_33 h0 rfl ?_
  refine rw_istore_n d_Desk_requestAll_4 (by decide) rfl ?_
  refine rw_lv (lv' := [(0, .ref k), (1, .int (gI ld)), (2, .int (nI ep)), (3, .int (nI (td + 0)))]) (by intro q hq; simp at hq; rcases hq with rfl | rfl | rfl | rfl <;> rfl) ?_
  exact requestAll_loop hD hP hA hg hkp hl (gv - td) 0 M (by omega) (by rw [pReqs, pSend_nil hP.len]; exact hP) Fr.rf
theorem c_dHear {M : mm_M} {k p q x : Nat} {gv td : Nat} {ar : Nat → Nat} {kv : Value} {f t e s en dn : Int32} {cv : Value} (hD : DkP M ca cm k p gv td ar) (hx : x < 1000000) (hm : M q = some (msO q kv f t e s en dn (nI x) (tAns cm x) cv)) : CT l G Y_Desk_hear ds_Desk_hear (rm 1) [.ref k, .ref q] M sz (fun r M' sz' => r = none ∧ sz' = sz ∧ DkP M' ca cm k p gv td (if td ≤ x ∧ x < gv then va_up ar (x % 8) 1 else ar) ∧ Fr M M' k 4) := by
  obtain ⟨cs, arr, an, h0, h1, h2, h3, b1, b2, b3, b4, b5, b6⟩ := id hD
  have hqk : q ≠ k + 3 := fun z => by rw [z, h3] at hm; cases hm
  refine CT.of (by decide) (Nat.le_of_ble_eq_true rfl) ?_
  refine rw_aload_n d_Desk_hear_0 rfl (by first | exact mm_ref_r _ | exact mm_ref_n | exact mm_ref_o _) ?_
  refine rw_get d_Desk_hear_1 fF_Desk_65 hm rfl ?_
  refine rw_istore_n d_Desk_hear_4 (by decide) rfl ?_
  refine rw_iload_n d_Desk_hear_5 rfl ?_
  refine rw_aload_n d_Desk_hear_6 rfl (by first | exact mm_ref_r _ | exact mm_ref_n | exact mm_ref_o _) ?_
  refine rw_get d_Desk_hear_7 fF_Desk_33 h0 rfl ?_
  by_cases c1 : td ≤ x
  · refine rw_icmp_lt_f (tgt := 41) d_Desk_hear_10 (by decide) (nI_nlt c1 (by omega)) ?_
    refine rw_iload_n d_Desk_hear_13 rfl ?_
    refine rw_aload_n d_Desk_hear_14 rfl (by first | exact mm_ref_r _ | exact mm_ref_n | exact mm_ref_o _) ?_
    refine rw_get d_Desk_hear_15 fF_Desk_29 h0 rfl ?_
    by_cases c2 : x < gv
    · refine rw_icmp_ge_f (tgt := 41) d_Desk_hear_18 (by decide) (nI_ge c2 (by omega)) ?_
      refine rw_aload_n d_Desk_hear_21 rfl (by first | exact mm_ref_r _ | exact mm_ref_n | exact mm_ref_o _) ?_
      refine rw_get d_Desk_hear_22 fF_Desk_21 h0 rfl ?_
      refine rw_iload_n d_Desk_hear_25 rfl ?_
      refine rw_aload_n d_Desk_hear_26 rfl (by first | exact mm_ref_r _ | exact mm_ref_n | exact mm_ref_o _) ?_
      refine rw_get d_Desk_hear_27 fF_Desk_68 hm rfl ?_
      refine rw_iast d_Desk_hear_30 h3 (vp_in_nI (by omega) (by omega)) ?_
      rw [nI_c (by omega)]
      refine rw_aload_n d_Desk_hear_31 rfl (by first | exact mm_ref_r _ | exact mm_ref_n | exact mm_ref_o _) ?_
      refine rw_get d_Desk_hear_32 fF_Desk_17 (mup_get (by omega) h0) rfl ?_
      refine rw_iload_n d_Desk_hear_35 rfl ?_
      refine rw_bipush (v := 8) d_Desk_hear_36 (by decide) ?_
      refine rw_irem d_Desk_hear_38 (by decide) ?_
      rw [nI_rem8 (by omega)]
      refine rw_iconst (v := 1) d_Desk_hear_39 (by decide) ?_
      refine rw_zast d_Desk_hear_40 (mup_get (by omega) h2) (vp_in8 _) (by first | rfl | assumption | decide) ?_
      rw [nI_c8]
      rw [if_pos ⟨c1, c2⟩]
      refine rw_vret d_Desk_hear_41 rfl ⟨rfl, rfl, ⟨cs, upd arr (x % 8) 1, upd an x (tAns cm x), ?_, ?_, mup_self _ _ _, (mup_ne _ _ (by omega)).trans (mup_self _ _ _), b1, b2, b3, b4, fun j hj => ?_, fun i i1 i2 => ?_⟩, Fr.mup (Fr.mup Fr.rf (by omega) (by omega)) (by omega) (by omega)⟩
      · rw [mup_ne _ _ (by omega), mup_ne _ _ (by omega)]
        exact h0
      · rw [mup_ne _ _ (by omega), mup_ne _ _ (by omega)]
        exact h1
      · by_cases z : j = x % 8
        · rw [z, va_up_self]
          simp [upd]
          rfl
        · rw [va_up_ne _ _ z]
          simp [upd, z, b5 j hj]
      · by_cases z : i = x
        · simp [upd, z]
        · simp only [upd, if_neg z]
          refine b6 i i1 ?_
          rcases i2 with i2 | i2
          · exact Or.inl i2
          · by_cases z2 : i % 8 = x % 8
            · left
              omega
            · rw [va_up_ne _ _ z2] at i2
              exact Or.inr i2
    · refine rw_icmp_ge_t (tgt := 41) d_Desk_hear_18 (by decide) (nI_le (by omega) (by omega)) ?_
      rw [if_neg (fun z => c2 z.2)]
      exact rw_vret d_Desk_hear_41 rfl ⟨rfl, rfl, hD, Fr.rf⟩
  · refine rw_icmp_lt_t (tgt := 41) d_Desk_hear_10 (by decide) (nI_lt (by omega) (by omega)) ?_
    rw [if_neg (fun z => c1 z.1)]
    exact rw_vret d_Desk_hear_41 rfl ⟨rfl, rfl, hD, Fr.rf⟩
def HaQ (M : mm_M) (sz gv td : Nat) (ar : Nat → Nat) : Option Value → mm_M → Nat → Prop := fun r M' sz' => (∃ c : Bool, r = some (.int (bI c)) ∧ (c = true ↔ ∀ i, td ≤ i → i < gv → ar (i % 8) = 1)) ∧ M' = M ∧ sz' = sz
theorem hasAll_loop {M : mm_M} {k p gv td : Nat} {ar : Nat → Nat} (hD : DkP M ca cm k p gv td ar) : ∀ (m n : Nat), m + n = gv - td → (∀ i, i < n → ar ((td + i) % 8) = 1) → RW l G Y_Desk_hasAllAnswers (rm 1) (mm_Z G (rm 1) (HaQ M sz gv td ar)) 0 0 5 [(0, .ref k), (1, .int (nI (td + n)))] [] M sz := by
  obtain ⟨cs, arr, an, h0, h1, h2, h3, b1, b2, b3, b4, b5, b6⟩ := id hD
  intro m
  induction m with
  | zero =>
    intro n hn hall
    refine rw_iload_n d_Desk_hasAllAnswers_5 rfl ?_
    refine rw_aload_n d_Desk_hasAllAnswers_6 rfl (by first | exact mm_ref_r _ | exact mm_ref_n | exact mm_ref_o _) ?_
    refine rw_get d_Desk_hasAllAnswers_7 fF_Desk_29 h0 rfl ?_
    refine rw_icmp_ge_t (tgt := 33) d_Desk_hasAllAnswers_10 (by decide) (nI_le (by omega) (by omega)) ?_
    refine rw_iconst (v := 1) d_Desk_hasAllAnswers_33 (by decide) ?_
    refine rw_zret d_Desk_hasAllAnswers_34 rfl rfl ⟨⟨true, rfl, fun _ i i1 i2 => ?_, fun _ => rfl⟩, rfl, rfl⟩
    have := hall (i - td) (by omega)
    rw [show td + (i - td) = i by omega] at this
    exact this
  | succ m ih =>
    intro n hn hall
    have hb := b5 ((td + n) % 8) (Nat.mod_lt _ (by omega))
    refine rw_iload_n d_Desk_hasAllAnswers_5 rfl ?_
    refine rw_aload_n d_Desk_hasAllAnswers_6 rfl (by first | exact mm_ref_r _ | exact mm_ref_n | exact mm_ref_o _) ?_
    refine rw_get d_Desk_hasAllAnswers_7 fF_Desk_29 h0 rfl ?_
    refine rw_icmp_ge_f (tgt := 33) d_Desk_hasAllAnswers_10 (by decide) (nI_ge (by omega) (by omega)) ?_
    refine rw_aload_n d_Desk_hasAllAnswers_13 rfl (by first | exact mm_ref_r _ | exact mm_ref_n | exact mm_ref_o _) ?_
    refine rw_get d_Desk_hasAllAnswers_14 fF_Desk_17 h0 rfl ?_
    refine rw_iload_n d_Desk_hasAllAnswers_17 rfl ?_
    refine rw_bipush (v := 8) d_Desk_hasAllAnswers_18 (by decide) ?_
    refine rw_irem d_Desk_hasAllAnswers_20 (by decide) ?_
    rw [nI_rem8 (by omega)]
    refine rw_zald d_Desk_hasAllAnswers_21 h2 (vp_in8 _) ?_
    rw [nI_c8, hb.1]
    rcases (show ar ((td + n) % 8) = 0 ∨ ar ((td + n) % 8) = 1 by omega) with q | q
    · rw [q]
      refine rw_if_ne_f (tgt := 27) d_Desk_hasAllAnswers_22 (by decide) (by decide) ?_
      refine rw_iconst (v := 0) d_Desk_hasAllAnswers_25 (by decide) ?_
      refine rw_zret d_Desk_hasAllAnswers_26 rfl rfl ⟨⟨false, rfl, (fun z => by cases z), fun z => ?_⟩, rfl, rfl⟩
      have := z (td + n) (by omega) (by omega)
      omega
    · rw [q]
      refine rw_if_ne_t (tgt := 27) d_Desk_hasAllAnswers_22 (by decide) (by decide) ?_
      refine rw_iinc d_Desk_hasAllAnswers_27 (by decide) rfl rfl rfl ?_
      refine rw_lv (lv' := [(0, .ref k), (1, .int (nI (td + (n + 1))))]) (by rw [← Nat.add_assoc, ← nI_1]; intro q hq; simp at hq; rcases hq with rfl | rfl <;> rfl) ?_
      refine rw_goto (tgt := 5) d_Desk_hasAllAnswers_30 (by decide) ?_
      refine ih (n + 1) (by omega) (fun i hi => ?_)
      by_cases z : i = n
      · rw [z]
        exact q
      · exact hall i (by omega)
theorem c_hasAll {M : mm_M} {k p gv td : Nat} {ar : Nat → Nat} (hD : DkP M ca cm k p gv td ar) : CT l G Y_Desk_hasAllAnswers ds_Desk_hasAllAnswers (rm 1) [.ref k] M sz (HaQ M sz gv td ar) := by
  obtain ⟨cs, arr, an, h0, -⟩ := id hD
  refine CT.of (by decide) (Nat.le_of_ble_eq_true rfl) ?_
  refine rw_aload_n d_Desk_hasAllAnswers_0 rfl (by first | exact mm_ref_r _ | exact mm_ref_n | exact mm_ref_o _) ?_
  refine rw_get d_Desk_hasAllAnswers_1 fF_Desk_33 h0 rfl ?_
  refine rw_istore_n d_Desk_hasAllAnswers_4 (by decide) rfl ?_
  refine rw_lv (lv' := [(0, .ref k), (1, .int (nI (td + 0)))]) (by intro q hq; simp at hq; rcases hq with rfl | rfl <;> rfl) ?_
  exact hasAll_loop hD (gv - td) 0 (by omega) (fun i hi => by omega)
theorem c_tell {M : mm_M} {k p gv td : Nat} {ar : Nat → Nat} (hD : DkP M ca cm k p gv td ar) (hall : ∀ i, td ≤ i → i < gv → ar (i % 8) = 1) : CT l G Y_Desk_tellAnswers ds_Desk_tellAnswers (rm 1) [.ref k] M sz (fun r M' sz' => r = none ∧ sz' = sz ∧ DkP M' ca cm k p gv gv ar ∧ ∀ q, q ≠ k → M' q = M q) := by
  obtain ⟨cs, arr, an, h0, h1, h2, h3, b1, b2, b3, b4, b5, b6⟩ := id hD
  refine CT.of (by decide) (Nat.le_of_ble_eq_true rfl) ?_
  refine rw_aload_n d_Desk_tellAnswers_0 rfl (by first | exact mm_ref_r _ | exact mm_ref_n | exact mm_ref_o _) ?_
  refine rw_aload_n d_Desk_tellAnswers_1 rfl (by first | exact mm_ref_r _ | exact mm_ref_n | exact mm_ref_o _) ?_
  refine rw_get d_Desk_tellAnswers_2 fF_Desk_29 h0 rfl ?_
  refine rw_put d_Desk_tellAnswers_5 (fP_Desk_33 _) h0 (Nat.le_of_ble_eq_true rfl) (by first | rfl | assumption | decide) (by first | rfl | decide) ?_
  refine rw_vret d_Desk_tellAnswers_8 rfl ⟨rfl, rfl, ⟨cs, arr, an, ?_, ?_, ?_, ?_, by omega, by omega, b3, fun i i1 i2 => by omega, b5, fun i i1 _ => b6 i i1 ?_⟩, fun q hq => mup_ne _ _ hq⟩
  · rw [mup_self]
    rfl
  · rw [mup_ne _ _ (by omega)]
    exact h1
  · rw [mup_ne _ _ (by omega)]
    exact h2
  · rw [mup_ne _ _ (by omega)]
    exact h3
  · rcases Nat.lt_or_ge i td with z | z
    · exact Or.inl z
    · exact Or.inr (hall i z i1)
end DESK
end
section
/-! Node: pictures; flush, fail, hearMap, tellAnswer, hearCommand. -/
abbrev ndO (a n pl p : Nat) (x : pN) : va_E := .inr (9, [.int (nI n), .ref pl, .ref p, .ref (a + 1), .ref (a + 6), .ref (a + 11), .int (nI (x 0)), .int (nI (x 1)), .int (nI (x 2)), .int (nI (x 3))])
def NdP (M : mm_M) (ca : Nat → Nat) (cm : Nat → pCm) (g : Nat) (E : pE) (pl p a n : Nat) (x : pN) : Prop := M a = some (ndO a n pl p x) ∧ MeP M ca cm g E (a + 1) (x 4) (x 5) (x 6) ∧ MeP M ca cm g E (a + 6) (x 7) (x 8) (x 9) ∧ RpP M (a + 11) (eN E) x ∧ pBd x
theorem NdP.kept {M M' : mm_M} {ca : Nat → Nat} {cm : Nat → pCm} {g : Nat} {E : pE} {pl p a n : Nat} {x : pN} (h : NdP M ca cm g E pl p a n x) (hq : ∀ q, a ≤ q → q < a + 15 → M' q = M q) : NdP M' ca cm g E pl p a n x :=
  ⟨(hq _ (by omega) (by omega)).trans h.1, h.2.1.kept (fun q y1 y2 => hq q (by omega) (by omega)), h.2.2.1.kept (fun q y1 y2 => hq q (by omega) (by omega)), h.2.2.2.1.kept (fun q y1 y2 => hq q (by omega) (by omega)), h.2.2.2.2⟩
theorem MeP.apart {M : mm_M} {ca : Nat → Nat} {cm : Nat → pCm} {g : Nat} {E : pE} {a ep d b i : Nat} (h : MeP M ca cm g E a ep d b) (hA : CmA M ca cm g) (hi : i < g) : ca i < a ∨ a + 5 ≤ ca i := by
  obtain ⟨h1, hh, v, an, lg, hr, -⟩ := h
  have e := (hA i hi).2
  rcases hA.apart hr hi with z | z
  · by_cases q : ca i = a
    · rw [q, h1] at e
      cases e
    · omega
  · omega
theorem NdP.apart {M : mm_M} {ca : Nat → Nat} {cm : Nat → pCm} {g : Nat} {E : pE} {pl p a n i : Nat} {x : pN} (h : NdP M ca cm g E pl p a n x) (hA : CmA M ca cm g) (hi : i < g) : ca i < a ∨ a + 15 ≤ ca i := by
  obtain ⟨h1, h2, h3, ⟨hd, en, dn, ⟨r0, r1, r2, r3⟩, -⟩, -⟩ := h
  have e := (hA i hi).2
  have z1 := h2.apart hA hi
  have z2 := h3.apart hA hi
  have q0 : ca i ≠ a := fun q => by rw [q, h1] at e; cases e
  have q1 : ca i ≠ a + 11 := fun q => by rw [q, r0] at e; cases e
  have q2 : ca i ≠ a + 11 + 1 := fun q => by rw [q, r1] at e; cases e
  have q3 : ca i ≠ a + 11 + 2 := fun q => by rw [q, r2] at e; cases e
  have q4 : ca i ≠ a + 11 + 3 := fun q => by rw [q, r3] at e; cases e
  omega
/-- what a node lives in: post, commands, plan -/
def SyP (G : mm_G) (M : mm_M) (ca : Nat → Nat) (cm : Nat → pCm) (g : Nat) (E : pE) (pl p : Nat) (post : List pMsg) : Prop := PsP G M ca cm g E p post ∧ CmA M ca cm g ∧ M pl = some (plO (eN E) (eC E)) ∧ pl < p ∧ eN E < 7 ∧ eC E ≤ eN E ∧ eC E ≤ 3 ∧ g ≤ 512 ∧ (∀ e, eM E e < 64) ∧ ∀ e, E.2.2 e < 64
theorem SyP.sent {G : mm_G} {M M' : mm_M} {ca : Nat → Nat} {cm : Nat → pCm} {g : Nat} {E : pE} {pl p : Nat} {post post' : List pMsg} (h : SyP G M ca cm g E pl p post) (hP : PsP G M' ca cm g E p post') (hF : Fr M M' p 328) : SyP G M' ca cm g E pl p post' :=
  ⟨hP, h.2.1.post h.1 hF, (hF _ (by have := h.2.2.2.1; omega)).trans h.2.2.1, h.2.2.2⟩
theorem SyP.node {G : mm_G} {M M' : mm_M} {ca : Nat → Nat} {cm : Nat → pCm} {g : Nat} {E : pE} {pl p a n : Nat} {x : pN} {post : List pMsg} (h : SyP G M ca cm g E pl p post) (hn : NdP M ca cm g E pl p a n x) (hpa : p + 328 ≤ a) (hF : Fr M M' a 15) : SyP G M' ca cm g E pl p post :=
  ⟨h.1.kept (fun q y1 y2 => hF q (by omega)), h.2.1.kept (fun i hi => hF _ (hn.apart h.2.1 hi)), (hF _ (by have := h.2.2.2.1; omega)).trans h.2.2.1, h.2.2.2⟩
theorem eL_lt (E : pE) (e : Nat) (h : eN E < 7) : eL E e = 99 ∨ eL E e < eN E := pGr_lt _ _ (by omega)
/-- nothing changed but the post and the node -/
def Fr2 (M M' : mm_M) (p a : Nat) : Prop := ∀ q, q < p ∨ p + 328 ≤ q → q < a ∨ a + 15 ≤ q → M' q = M q
theorem Fr2.of1 {M M' : mm_M} {p a : Nat} (h : Fr M M' a 15) : Fr2 M M' p a := fun q _ y => h q y
theorem Fr2.of0 {M M' : mm_M} {p a : Nat} (h : Fr M M' p 328) : Fr2 M M' p a := fun q y _ => h q y
theorem Fr2.trans {M M' M2 : mm_M} {p a : Nat} (h : Fr2 M M' p a) (k : Fr2 M' M2 p a) : Fr2 M M2 p a := fun q y z => (k q y z).trans (h q y z)
theorem Fr.wider {M M' : mm_M} {a n b m : Nat} (h : Fr M M' a n) (h1 : b ≤ a) (h2 : a + n ≤ b + m) : Fr M M' b m := fun q hq => h q (by omega)
def NdQ (G : mm_G) (M : mm_M) (sz : Nat) (ca : Nat → Nat) (cm : Nat → pCm) (g : Nat) (E : pE) (pl p a n : Nat) (x : pN) (post : List pMsg) : Option Value → mm_M → Nat → Prop := fun r M' sz' => r = none ∧ sz' = sz ∧ NdP M' ca cm g E pl p a n x ∧ SyP G M' ca cm g E pl p post ∧ Fr2 M M' p a
theorem pBd.flush {x : pN} (h : pBd x) : pBd (pFlush x) := by
  refine ⟨fun j => ?_, fun j hj => ?_⟩
  · unfold pFlush
    split
    · simp only
      (repeat' split) <;> first | exact h.1 _ | omega
    · exact h.1 j
  · unfold pFlush
    split
    · simp only
      (repeat' split) <;> first | omega | exact h.2 j hj
    · exact h.2 j hj
theorem pBd.clear {x : pN} (h : pBd x) : pBd (pClear x) := by
  refine ⟨fun j => ?_, fun j hj => ?_⟩
  · unfold pClear
    split
    · omega
    · exact h.1 j
  · unfold pClear
    split
    · omega
    · exact h.2 j hj
theorem pBd.flag {x : pN} (h : pBd x) {f v : Nat} (hv : v ≤ 1) : pBd (pu x f v) := by
  refine ⟨fun j => ?_, fun j hj => ?_⟩
  · unfold pu
    split
    · omega
    · exact h.1 j
  · unfold pu
    split
    · omega
    · exact h.2 j hj
section NODE1
variable {l : Launch} {G : mm_G} {sz : Nat} {ca : Nat → Nat} {cm : Nat → pCm} {g : Nat} {E : pE} {pl p a n : Nat} {x : pN} {post : List pMsg}
theorem CpP.obj {f : Nat} {M : mm_M} {ca : Nat → Nat} {cm : Nat → pCm} {g a d b : Nat} (h : CpP f M ca cm g a d b) : ∃ hh, M a = some (cpO a d b hh) := by
  obtain ⟨hh, v, an, lg, hr, -⟩ := h
  exact ⟨hh, hr.1⟩
theorem c_flush {M : mm_M} (hN : NdP M ca cm g E pl p a n x) (hS : SyP G M ca cm g E pl p post) (hpa : p + 328 ≤ a) : CT l G Y_Node_flush ds_Node_flush (rm 3) [.ref a] M sz (NdQ G M sz ca cm g E pl p a n (pFlush x) post) := by
  obtain ⟨h0, h1, h2, h3, h4⟩ := id hN
  have hb := h4.2 1 (by omega)
  refine CT.of (by decide) (Nat.le_of_ble_eq_true rfl) ?_
  refine rw_aload_n d_Node_flush_0 rfl (by first | exact mm_ref_r _ | exact mm_ref_n | exact mm_ref_o _) ?_
  refine rw_get d_Node_flush_1 fF_Node_76 h0 rfl ?_
  rcases (show x 1 = 0 ∨ x 1 = 1 by omega) with q | q
  · rw [q]
    refine rw_if_eq_t (tgt := 23) d_Node_flush_4 (by decide) (rfl) ?_
    have e : pFlush x = x := by rw [pFlush, if_neg (by omega)]
    rw [e]
    exact rw_vret d_Node_flush_23 rfl ⟨rfl, rfl, hN, hS, fun _ _ _ => rfl⟩
  · rw [q]
    refine rw_if_eq_f (tgt := 23) d_Node_flush_4 (by decide) (by decide) ?_
    refine rw_aload_n d_Node_flush_7 rfl (by first | exact mm_ref_r _ | exact mm_ref_n | exact mm_ref_o _) ?_
    refine rw_get d_Node_flush_8 fF_Node_18 h0 rfl ?_
    refine rw_aload_n d_Node_flush_11 rfl (by first | exact mm_ref_r _ | exact mm_ref_n | exact mm_ref_o _) ?_
    refine rw_get d_Node_flush_12 fF_Node_12 h0 rfl ?_
    have hne : ∀ i, i < g → ca i ≠ a + 6 := fun i hi => by
      have := h2.apart hS.2.1 hi
      omega
    refine rw_callV (kc := 0) (ks := 0) (rest := []) d_Node_flush_15 (c_become hS.2.1 h2.1 (h2.2.le (by omega)) h1 (by omega) hne) mW_Memory_become mL_Node_66 mI_Memory_become mE_Memory_become ⟨by decide, by decide⟩ h2.1 rfl rfl rfl rfl (Nat.le_of_ble_eq_true rfl) (fun r M1 sz1 hq => ?_)
    obtain ⟨rfl, rfl, q1, q2⟩ := hq
    have k0 := (q2 a (by omega)).trans h0
    refine rw_stk (st' := []) rfl ?_
    refine rw_aload_n d_Node_flush_18 rfl (by first | exact mm_ref_r _ | exact mm_ref_n | exact mm_ref_o _) ?_
    refine rw_iconst (v := 0) d_Node_flush_19 (by decide) ?_
    refine rw_put d_Node_flush_20 (fP_Node_76 _) k0 (Nat.le_of_ble_eq_true rfl) (by first | rfl | assumption | decide) (by first | rfl | decide) ?_
    have e : pFlush x = fun j => if j = 7 then x 4 else if j = 8 then x 5 else if j = 9 then x 6 else if j = 1 then 0 else x j := by rw [pFlush, if_pos q]
    have hF : Fr M (mup M1 a (.inr (9, [.int (nI n), .ref pl, .ref p, .ref (a + 1), .ref (a + 6), .ref (a + 11), .int (nI (x 0)), .int 0, .int (nI (x 2)), .int (nI (x 3))]))) a 15 := Fr.mup (q2.wider (by omega) (by omega)) (by omega) (by omega)
    refine rw_vret d_Node_flush_23 rfl ⟨rfl, rfl, ⟨?_, ?_, ?_, ?_, h4.flush⟩, hS.node hN hpa hF, Fr2.of1 hF⟩
    · rw [mup_self, e]
      rfl
    · rw [e]
      exact (h1.kept (fun y y1 y2 => q2 y (by omega))).kept (fun y y1 y2 => mup_ne _ _ (by omega))
    · rw [e]
      exact q1.kept (fun y y1 y2 => mup_ne _ _ (by omega))
    · rw [e]
      exact ((h3.kept (M' := M1) (fun y y1 y2 => q2 y (by omega))).kept (fun y y1 y2 => mup_ne _ _ (by omega))).same (by simp) (by simp) (fun m hm => ⟨by rw [if_neg (by omega), if_neg (by omega), if_neg (by omega), if_neg (by omega)], by rw [if_neg (by omega), if_neg (by omega), if_neg (by omega), if_neg (by omega)], by rw [if_neg (by omega), if_neg (by omega), if_neg (by omega), if_neg (by omega)]⟩)
/-- one flag of the node's own object is set -/
theorem NdP.flag {M : mm_M} (h : NdP M ca cm g E pl p a n x) {f v : Nat} (hf : f < 4) (hv : v ≤ 1) {e : va_E} (he : e = ndO a n pl p (pu x f v)) : NdP (mup M a e) ca cm g E pl p a n (pu x f v) := by
  obtain ⟨h0, h1, h2, h3, h4⟩ := h
  have hh : ∀ j, 4 ≤ j → pu x f v j = x j := fun j hj => pu_ne x v (by omega)
  refine ⟨by rw [mup_self, he], ?_, ?_, ?_, h4.flag hv⟩
  · rw [hh 4 (by omega), hh 5 (by omega), hh 6 (by omega)]
    exact h1.kept (fun y y1 y2 => mup_ne _ _ (by omega))
  · rw [hh 7 (by omega), hh 8 (by omega), hh 9 (by omega)]
    exact h2.kept (fun y y1 y2 => mup_ne _ _ (by omega))
  · exact (h3.kept (fun y y1 y2 => mup_ne _ _ (by omega))).same (hh 10 (by omega)) (hh 11 (by omega)) (fun m hm => ⟨hh _ (by omega), hh _ (by omega), hh _ (by omega)⟩)
theorem NdP.eqv {M : mm_M} {y : pN} (h : NdP M ca cm g E pl p a n x) (e : y = x) : NdP M ca cm g E pl p a n y := e ▸ h
/-- a node sends the answer of command i -/
theorem c_tellAnswer {M : mm_M} {i : Nat} (hN : NdP M ca cm g E pl p a n x) (hS : SyP G M ca cm g E pl p post) (hpa : p + 328 ≤ a) (hn : n < eN E) (hi : i < x 5) (hi2 : x 5 ≤ i + 8) : CT l G Y_Node_tellAnswer ds_Node_tellAnswer (rm 3) [.ref a, .int (nI i)] M sz (NdQ G M sz ca cm g E pl p a n x (pSend post [pAns n x i])) := by
  obtain ⟨h0, h1, h2, h3, h4⟩ := id hN
  obtain ⟨hP, hA, hpl, hlt, hN7, -⟩ := id hS
  obtain ⟨hh, v, an, lg, ⟨r0, r1, r2, r3⟩, c1, c2, c3, c4, c5⟩ := id h1.2
  have egn : nI n = gI n := by rw [gI, if_neg (by omega)]
  refine CT.of (by decide) (Nat.le_of_ble_eq_true rfl) ?_
  refine rw_aload_n d_Node_tellAnswer_0 rfl (by first | exact mm_ref_r _ | exact mm_ref_n | exact mm_ref_o _) ?_
  refine rw_get d_Node_tellAnswer_1 fF_Node_33 h0 rfl ?_
  refine rw_kind (i := 3) (by decide) fS_Node_185 d_Node_tellAnswer_4 ?_
  refine rw_aload_n d_Node_tellAnswer_7 rfl (by first | exact mm_ref_r _ | exact mm_ref_n | exact mm_ref_o _) ?_
  refine rw_get d_Node_tellAnswer_8 fF_Node_25 h0 rfl ?_
  refine rw_iconst (v := (-1)) d_Node_tellAnswer_11 (by decide) ?_
  refine rw_aload_n d_Node_tellAnswer_12 rfl (by first | exact mm_ref_r _ | exact mm_ref_n | exact mm_ref_o _) ?_
  refine rw_get d_Node_tellAnswer_13 fF_Node_12 h0 rfl ?_
  refine rw_get d_Node_tellAnswer_16 fF_Node_103 h1.1 rfl ?_
  refine rw_stk (st' := [.int (nI (x 4)), .int (gI 99), .int (gI n), .ref (gad G 3), .ref p]) (by rw [← egn]; rfl) ?_
  refine rw_callV (kc := 0) (ks := 0) (rest := []) d_Node_tellAnswer_19 (c_send (k := 3) (f := n) (t := 99) (e := x 4) hP) mW_Post_send mL_Node_136 mI_Post_send mE_Post_send ⟨by decide, by decide⟩ hP.choose_spec.choose_spec.choose_spec.1 rfl rfl rfl rfl (Nat.le_of_ble_eq_true rfl) (fun r M2 sz2 hq => ?_)
  obtain ⟨rfl, q1, j, hj, rfl, ⟨s, en, dn, nu, a2, cv, d, b, w1, w2, w3⟩, q2⟩ := hq
  refine rw_stk (st' := [.ref (p + 3 + 5 * j)]) rfl ?_
  refine rw_astore_n d_Node_tellAnswer_22 (by decide) (by first | exact mm_ref_r _ | exact mm_ref_n | exact mm_ref_o _) rfl ?_
  refine rw_aload_n d_Node_tellAnswer_23 rfl (by first | exact mm_ref_r _ | exact mm_ref_n | exact mm_ref_o _) ?_
  refine rw_iload_n d_Node_tellAnswer_24 rfl ?_
  refine rw_put d_Node_tellAnswer_25 (fP_Node_188 _) w1 (Nat.le_of_ble_eq_true rfl) (by first | rfl | assumption | decide) (by first | rfl | decide) ?_
  refine rw_aload_n d_Node_tellAnswer_28 rfl (by first | exact mm_ref_r _ | exact mm_ref_n | exact mm_ref_o _) ?_
  refine rw_aload_n d_Node_tellAnswer_29 rfl (by first | exact mm_ref_r _ | exact mm_ref_n | exact mm_ref_o _) ?_
  refine rw_get d_Node_tellAnswer_30 fF_Node_12 (mup_get (by omega) ((q1 a (by omega)).trans h0)) rfl ?_
  refine rw_get d_Node_tellAnswer_33 fF_Node_146 (mup_get (by omega) ((q1 (a + 1) (by omega)).trans h1.1)) rfl ?_
  refine rw_get d_Node_tellAnswer_36 fF_Node_189 (mup_get (by omega) ((q1 (a + 1 + 1) (by omega)).trans r0)) rfl ?_
  refine rw_iload_n d_Node_tellAnswer_39 rfl ?_
  refine rw_bipush (v := 8) d_Node_tellAnswer_40 (by decide) ?_
  refine rw_irem d_Node_tellAnswer_42 (by decide) ?_
  rw [nI_rem8 (by omega)]
  refine rw_iald d_Node_tellAnswer_43 (mup_get (by omega) ((q1 (a + 1 + 1 + 2) (by omega)).trans r2)) (vp_in8 _) ?_
  rw [nI_c8, (c5 (by omega)).2.2 i hi hi2]
  refine rw_put d_Node_tellAnswer_44 (fP_Node_192 _) (mup_self _ _ _) (Nat.le_of_ble_eq_true rfl) (by first | rfl | assumption | decide) (by first | rfl | decide) ?_
  have hF : ∀ e1 e2, Fr M (mup (mup M2 (p + 3 + 5 * j) e1) (p + 3 + 5 * j) e2) p 328 := fun e1 e2 => Fr.mup (Fr.mup q1 (by omega) (by omega)) (by omega) (by omega)
  refine rw_vret d_Node_tellAnswer_47 rfl ⟨rfl, rfl, hN.kept (fun y y1 y2 => hF _ _ y (by omega)), hS.sent ?_ (hF _ _), Fr2.of0 (hF _ _)⟩
  exact q2 _ (3, n, 99, x 4, i, 0) (Fr.mup (Fr.mup Fr.rf (by omega) (by omega)) (by omega) (by omega)) ⟨s, en, dn, nI i, tAns cm i, cv, d, b, by rw [mup_self]; rfl, w2, (w3.kept (fun y y1 y2 => mup_ne _ _ (by omega))).kept (fun y y1 y2 => mup_ne _ _ (by omega)), (fun z => by cases z), (fun z => by cases z), fun _ => ⟨rfl, rfl⟩, (fun z => by cases z), (fun z => by cases z), (fun z => by cases z)⟩
end NODE1
end
section
/-! Node: fail, hearMap, hearCommand; plain sends. -/
theorem SeQ.plain {G : mm_G} {M M' : mm_M} {sz sz' : Nat} {ca : Nat → Nat} {cm : Nat → pCm} {g : Nat} {E : pE} {p : Nat} {post : List pMsg} {k f t e : Nat} {r : Option Value} (h : SeQ G M sz ca cm g E p post k f t e r M' sz') (hk : k = 1 ∨ k = 4 ∨ k = 6 ∨ k = 9) : PsP G M' ca cm g E p (pSend post [(k, f, t, e, 0, 0)]) := by
  obtain ⟨-, -, j, hj, -, ⟨s, en, dn, nu, a2, cv, d, b, w1, w2, w3⟩, q2⟩ := h
  refine q2 M' (k, f, t, e, 0, 0) Fr.rf ⟨s, en, dn, nu, a2, cv, d, b, w1, w2, w3, fun z => ?_, fun z => ?_, fun z => ?_, fun z => ?_, fun z => ?_, fun z => ?_⟩ <;> (simp only at z; omega)
section NODE2
variable {l : Launch} {G : mm_G} {sz : Nat} {ca : Nat → Nat} {cm : Nat → pCm} {g : Nat} {E : pE} {pl p a n : Nat} {x : pN} {post : List pMsg}
theorem c_fail {M : mm_M} {kept : Bool} (hN : NdP M ca cm g E pl p a n x) (hS : SyP G M ca cm g E pl p post) (hpa : p + 328 ≤ a) : CT l G Y_Node_fail ds_Node_fail (rm 4) [.ref a, .int (bI kept)] M sz (NdQ G M sz ca cm g E pl p a n (pFail kept x) post) := by
  obtain ⟨h0, h1, h2, h3, h4⟩ := id hN
  have hN1 : NdP (mup M a (.inr (9, [.int (nI n), .ref pl, .ref p, .ref (a + 1), .ref (a + 6), .ref (a + 11), .int 0, .int (nI (x 1)), .int (nI (x 2)), .int (nI (x 3))]))) ca cm g E pl p a n (pu x 0 0) := hN.flag (by omega) (by omega) rfl
  have hF1 : Fr M (mup M a (.inr (9, [.int (nI n), .ref pl, .ref p, .ref (a + 1), .ref (a + 6), .ref (a + 11), .int 0, .int (nI (x 1)), .int (nI (x 2)), .int (nI (x 3))]))) a 15 := Fr.mup Fr.rf (by omega) (by omega)
  have hS1 := hS.node hN hpa hF1
  refine CT.of (by decide) (Nat.le_of_ble_eq_true rfl) ?_
  refine rw_aload_n d_Node_fail_0 rfl (by first | exact mm_ref_r _ | exact mm_ref_n | exact mm_ref_o _) ?_
  refine rw_iconst (v := 0) d_Node_fail_1 (by decide) ?_
  refine rw_put d_Node_fail_2 (fP_Node_21 _) h0 (Nat.le_of_ble_eq_true rfl) (by first | rfl | assumption | decide) (by first | rfl | decide) ?_
  refine rw_iload_n d_Node_fail_5 rfl ?_
  cases kept with
  | true =>
    refine rw_if_eq_f (tgt := 14) d_Node_fail_6 (by decide) (by decide) ?_
    refine rw_aload_n d_Node_fail_9 rfl (by first | exact mm_ref_r _ | exact mm_ref_n | exact mm_ref_o _) ?_
    refine rw_callV (kc := 0) (ks := 0) (rest := []) d_Node_fail_10 (c_flush hN1 hS1 hpa) mW_Node_flush mL_Node_70 mI_Node_flush mE_Node_flush ⟨by decide, by decide⟩ (mup_self _ _ _) rfl rfl rfl rfl (Nat.le_of_ble_eq_true rfl) (fun r M1 sz1 hq => ?_)
    obtain ⟨rfl, rfl, q1, q2, q3⟩ := hq
    refine rw_stk (st' := []) rfl ?_
    exact rw_vret d_Node_fail_13 rfl ⟨rfl, rfl, q1, q2, (Fr2.of1 hF1).trans q3⟩
  | false =>
    obtain ⟨k0, k1, k2, k3, k4⟩ := id hN1
    have hne : ∀ i, i < g → ca i ≠ a + 1 := fun i hi => by
      have := k1.apart hS1.2.1 hi
      omega
    refine rw_if_eq_t (tgt := 14) d_Node_fail_6 (by decide) (rfl) ?_
    refine rw_aload_n d_Node_fail_14 rfl (by first | exact mm_ref_r _ | exact mm_ref_n | exact mm_ref_o _) ?_
    refine rw_get d_Node_fail_15 fF_Node_12 (mup_self _ _ _) rfl ?_
    refine rw_aload_n d_Node_fail_18 rfl (by first | exact mm_ref_r _ | exact mm_ref_n | exact mm_ref_o _) ?_
    refine rw_get d_Node_fail_19 fF_Node_18 (mup_self _ _ _) rfl ?_
    refine rw_callV (kc := 0) (ks := 0) (rest := []) d_Node_fail_22 (c_become hS1.2.1 k1.1 (k1.2.le (by omega)) k2 (by omega) hne) mW_Memory_become mL_Node_66 mI_Memory_become mE_Memory_become ⟨by decide, by decide⟩ k1.1 rfl rfl rfl rfl (Nat.le_of_ble_eq_true rfl) (fun r M1 sz1 hq => ?_)
    obtain ⟨rfl, rfl, q1, q2⟩ := hq
    refine rw_stk (st' := []) rfl ?_
    have j0 := (q2 a (by omega)).trans k0
    have j3 := k3.kept (M' := M1) (fun y y1 y2 => q2 y (by omega))
    refine rw_aload_n d_Node_fail_25 rfl (by first | exact mm_ref_r _ | exact mm_ref_n | exact mm_ref_o _) ?_
    refine rw_get d_Node_fail_26 fF_Node_47 j0 rfl ?_
    refine rw_callV (kc := 0) (ks := 0) (rest := []) d_Node_fail_29 (c_clear hS.2.2.2.2.1 j3) mW_Reports_clear mL_Node_73 mI_Reports_clear mE_Reports_clear ⟨by decide, by decide⟩ (j3.choose_spec.choose_spec.choose_spec.1.1) rfl rfl rfl rfl (Nat.le_of_ble_eq_true rfl) (fun r2 M2 sz2 hq2 => ?_)
    obtain ⟨rfl, rfl, q3, q4⟩ := hq2
    refine rw_stk (st' := []) rfl ?_
    have i0 := (q4 a (by omega)).trans j0
    refine rw_aload_n d_Node_fail_32 rfl (by first | exact mm_ref_r _ | exact mm_ref_n | exact mm_ref_o _) ?_
    refine rw_iconst (v := 0) d_Node_fail_33 (by decide) ?_
    refine rw_put d_Node_fail_34 (fP_Node_76 _) i0 (Nat.le_of_ble_eq_true rfl) (by first | rfl | assumption | decide) (by first | rfl | decide) ?_
    refine rw_aload_n d_Node_fail_37 rfl (by first | exact mm_ref_r _ | exact mm_ref_n | exact mm_ref_o _) ?_
    refine rw_iconst (v := 0) d_Node_fail_38 (by decide) ?_
    refine rw_put d_Node_fail_39 (fP_Node_79 _) (mup_self _ _ _) (Nat.le_of_ble_eq_true rfl) (by first | rfl | assumption | decide) (by first | rfl | decide) ?_
    refine rw_aload_n d_Node_fail_42 rfl (by first | exact mm_ref_r _ | exact mm_ref_n | exact mm_ref_o _) ?_
    refine rw_iconst (v := 0) d_Node_fail_43 (by decide) ?_
    refine rw_put d_Node_fail_44 (fP_Node_82 _) (mup_self _ _ _) (Nat.le_of_ble_eq_true rfl) (by first | rfl | assumption | decide) (by first | rfl | decide) ?_
    have hF : ∀ e1 e2 e3, Fr M (mup (mup (mup M2 a e1) a e2) a e3) a 15 := fun e1 e2 e3 => Fr.mup (Fr.mup (Fr.mup (hF1.trans ((q2.wider (by omega) (by omega)).trans (q4.wider (by omega) (by omega)))) (by omega) (by omega)) (by omega) (by omega)) (by omega) (by omega)
    have ef : pFail false x = pClear (fun j => if j = 0 then 0 else if j = 4 then x 7 else if j = 5 then x 8 else if j = 6 then x 9 else if j = 1 ∨ j = 2 ∨ j = 3 then 0 else x j) := rfl
    have e4 : ∀ j, 4 ≤ j → j < 10 → pFail false x j = (if j = 4 then x 7 else if j = 5 then x 8 else if j = 6 then x 9 else x j) := fun j h1 h2 => by
      rw [ef]
      simp only [pClear]
      rw [if_neg (by omega), if_neg (by omega)]
      by_cases z : j = 4
      · rw [if_pos z, if_pos z]
      · rw [if_neg z, if_neg z]
        by_cases z2 : j = 5
        · rw [if_pos z2, if_pos z2]
        · rw [if_neg z2, if_neg z2]
          by_cases z3 : j = 6
          · rw [if_pos z3, if_pos z3]
          · rw [if_neg z3, if_neg z3, if_neg (by omega)]
    have ehi : ∀ j, 10 ≤ j → pFail false x j = pClear (pu x 0 0) j := fun j h1 => by
      rw [ef]
      simp only [pClear, pu]
      by_cases z : (20 ≤ j ∧ j < 30) ∨ j = 10 ∨ j = 11
      · rw [if_pos z, if_pos z]
      · rw [if_neg z, if_neg z, if_neg (by omega), if_neg (by omega), if_neg (by omega), if_neg (by omega), if_neg (by omega), if_neg (by omega)]
    refine rw_vret d_Node_fail_47 rfl ⟨rfl, rfl, ⟨?_, ?_, ?_, ?_, ?_⟩, hS.node hN hpa (hF _ _ _), Fr2.of1 (hF _ _ _)⟩
    · rw [mup_self]
      rfl
    · rw [e4 4 (by omega) (by omega), e4 5 (by omega) (by omega), e4 6 (by omega) (by omega)]
      exact q1.kept (fun y y1 y2 => by rw [mup_ne _ _ (by omega), mup_ne _ _ (by omega), mup_ne _ _ (by omega), q4 y (by omega)])
    · rw [e4 7 (by omega) (by omega), e4 8 (by omega) (by omega), e4 9 (by omega) (by omega)]
      exact k2.kept (fun y y1 y2 => by rw [mup_ne _ _ (by omega), mup_ne _ _ (by omega), mup_ne _ _ (by omega), q4 y (by omega), q2 y (by omega)])
    · exact (q3.kept (fun y y1 y2 => by rw [mup_ne _ _ (by omega), mup_ne _ _ (by omega), mup_ne _ _ (by omega)])).same (ehi 10 (by omega)) (ehi 11 (by omega)) (fun m hm => ⟨ehi _ (by omega), ehi _ (by omega), ehi _ (by omega)⟩)
    · rw [ef]
      refine pBd.clear ⟨fun j => ?_, fun j hj => ?_⟩
      · simp only
        (repeat' split) <;> first | omega | exact h4.1 _
      · simp only
        (repeat' split) <;> first | omega | exact h4.2 j hj
end NODE2
end
section
/-! Node.hearMap. -/
section NODE2
variable {l : Launch} {G : mm_G} {sz : Nat} {ca : Nat → Nat} {cm : Nat → pCm} {g : Nat} {E : pE} {pl p a n : Nat} {x : pN} {post : List pMsg}
theorem c_hearMap {M : mm_M} {q e : Nat} {kv : Value} {f t en dn nu an : Int32} {cv : Value} (hN : NdP M ca cm g E pl p a n x) (hS : SyP G M ca cm g E pl p post) (hpa : p + 328 ≤ a) (hq1 : p ≤ q) (hq2 : q < p + 328) (he : e ≤ 1000000) (hm : M q = some (msO q kv f t (nI e) (nI (E.2.2 e)) en dn nu an cv)) :
    CT l G Y_Node_hearMap ds_Node_hearMap (rm 4) [.ref a, .ref q] M sz (NdQ G M sz ca cm g E pl p a n (pHearMap e x) post) := by
  obtain ⟨h0, h1, h2, h3, h4⟩ := id hN
  have b4 := h4.1 4
  have hN1 : NdP (mup M a (.inr (9, [.int (nI n), .ref pl, .ref p, .ref (a + 1), .ref (a + 6), .ref (a + 11), .int (nI (x 0)), .int (nI (x 1)), .int 1, .int (nI (x 3))]))) ca cm g E pl p a n (pu x 2 1) := hN.flag (by omega) (by omega) rfl
  have hF1 : Fr M (mup M a (.inr (9, [.int (nI n), .ref pl, .ref p, .ref (a + 1), .ref (a + 6), .ref (a + 11), .int (nI (x 0)), .int (nI (x 1)), .int 1, .int (nI (x 3))]))) a 15 := Fr.mup Fr.rf (by omega) (by omega)
  have hS1 := hS.node hN hpa hF1
  obtain ⟨-, -, hpl1, hlt, hN7, -, hC3, -, hM64, hE64⟩ := id hS1
  obtain ⟨k0, k1, k2, k3, k4⟩ := id hN1
  have hm1 := (hF1 q (by omega)).trans hm
  refine CT.of (by decide) (Nat.le_of_ble_eq_true rfl) ?_
  refine rw_aload_n d_Node_hearMap_0 rfl (by first | exact mm_ref_r _ | exact mm_ref_n | exact mm_ref_o _) ?_
  refine rw_iconst (v := 1) d_Node_hearMap_1 (by decide) ?_
  refine rw_put d_Node_hearMap_2 (fP_Node_79 _) h0 (Nat.le_of_ble_eq_true rfl) (by first | rfl | assumption | decide) (by first | rfl | decide) ?_
  refine rw_aload_n d_Node_hearMap_5 rfl (by first | exact mm_ref_r _ | exact mm_ref_n | exact mm_ref_o _) ?_
  refine rw_get d_Node_hearMap_6 fF_Node_100 hm1 rfl ?_
  refine rw_aload_n d_Node_hearMap_9 rfl (by first | exact mm_ref_r _ | exact mm_ref_n | exact mm_ref_o _) ?_
  refine rw_get d_Node_hearMap_10 fF_Node_12 (mup_self _ _ _) rfl ?_
  refine rw_get d_Node_hearMap_13 fF_Node_103 k1.1 rfl ?_
  rw [show pu x 2 1 4 = x 4 from rfl]
  by_cases c : x 4 < e
  · refine rw_icmp_le_f (tgt := 68) d_Node_hearMap_16 (by decide) (nI_ge c (by omega)) ?_
    refine rw_aload_n d_Node_hearMap_19 rfl (by first | exact mm_ref_r _ | exact mm_ref_n | exact mm_ref_o _) ?_
    refine rw_get d_Node_hearMap_20 fF_Node_29 (mup_self _ _ _) rfl ?_
    refine rw_aload_n d_Node_hearMap_23 rfl (by first | exact mm_ref_r _ | exact mm_ref_n | exact mm_ref_o _) ?_
    refine rw_get d_Node_hearMap_24 fF_Node_160 hm1 rfl ?_
    refine rw_callV (kc := 0) (ks := 0) (rest := []) d_Node_hearMap_27 (c_keepers hpl1 hN7 hC3 (hE64 e)) mW_Plan_keepers mL_Node_55 mI_Plan_keepers mE_Plan_keepers ⟨by decide, by decide⟩ hpl1 rfl rfl rfl rfl (Nat.le_of_ble_eq_true rfl) (fun r M1 sz1 hq => ?_)
    obtain ⟨rfl, rfl, rfl⟩ := hq
    refine rw_stk (st' := [.int (nI (eM E e))]) rfl ?_
    refine rw_istore_n d_Node_hearMap_30 (by decide) rfl ?_
    refine rw_aload_n d_Node_hearMap_31 rfl (by first | exact mm_ref_r _ | exact mm_ref_n | exact mm_ref_o _) ?_
    refine rw_get d_Node_hearMap_32 fF_Node_12 (mup_self _ _ _) rfl ?_
    refine rw_aload_n d_Node_hearMap_35 rfl (by first | exact mm_ref_r _ | exact mm_ref_n | exact mm_ref_o _) ?_
    refine rw_get d_Node_hearMap_36 fF_Node_100 hm1 rfl ?_
    refine rw_iload_n d_Node_hearMap_39 rfl ?_
    refine rw_aload_n d_Node_hearMap_40 rfl (by first | exact mm_ref_r _ | exact mm_ref_n | exact mm_ref_o _) ?_
    refine rw_get d_Node_hearMap_41 fF_Node_29 (mup_self _ _ _) rfl ?_
    refine rw_iload_n d_Node_hearMap_44 rfl ?_
    refine rw_callV (kc := 0) (ks := 0) (rest := [.int (nI (eM E e)), .int (nI e), .ref (a + 1)]) d_Node_hearMap_45 (c_greatest hpl1 hN7 (hM64 e)) mW_Plan_greatest mL_Node_59 mI_Plan_greatest mE_Plan_greatest ⟨by decide, by decide⟩ hpl1 rfl rfl rfl rfl (Nat.le_of_ble_eq_true rfl) (fun r M1 sz1 hq => ?_)
    obtain ⟨rfl, rfl, rfl⟩ := hq
    refine rw_stk (st' := [.int (gI (eL E e)), .int (nI (eM E e)), .int (nI e), .ref (a + 1)]) rfl ?_
    refine rw_callV (kc := 0) (ks := 0) (rest := []) d_Node_hearMap_48 (c_enter k1.1) mW_Memory_enter mL_Node_62 mI_Memory_enter mE_Memory_enter ⟨by decide, by decide⟩ k1.1 rfl rfl rfl rfl (Nat.le_of_ble_eq_true rfl) (fun r2 M2 sz2 hq2 => ?_)
    obtain ⟨rfl, rfl, q1, q2⟩ := hq2
    refine rw_stk (st' := []) rfl ?_
    have j0 := (q2 a (by omega)).trans k0
    have j3 := k3.kept (M' := M2) (fun y y1 y2 => q2 y (by omega))
    refine rw_aload_n d_Node_hearMap_51 rfl (by first | exact mm_ref_r _ | exact mm_ref_n | exact mm_ref_o _) ?_
    refine rw_get d_Node_hearMap_52 fF_Node_47 j0 rfl ?_
    refine rw_callV (kc := 0) (ks := 0) (rest := []) d_Node_hearMap_55 (c_clear hN7 j3) mW_Reports_clear mL_Node_73 mI_Reports_clear mE_Reports_clear ⟨by decide, by decide⟩ (j3.choose_spec.choose_spec.choose_spec.1.1) rfl rfl rfl rfl (Nat.le_of_ble_eq_true rfl) (fun r3 M3 sz3 hq3 => ?_)
    obtain ⟨rfl, rfl, q3, q4⟩ := hq3
    refine rw_stk (st' := []) rfl ?_
    have i0 := (q4 a (by omega)).trans j0
    refine rw_aload_n d_Node_hearMap_58 rfl (by first | exact mm_ref_r _ | exact mm_ref_n | exact mm_ref_o _) ?_
    refine rw_iconst (v := 1) d_Node_hearMap_59 (by decide) ?_
    refine rw_put d_Node_hearMap_60 (fP_Node_76 _) i0 (Nat.le_of_ble_eq_true rfl) (by first | rfl | assumption | decide) (by first | rfl | decide) ?_
    refine rw_aload_n d_Node_hearMap_63 rfl (by first | exact mm_ref_r _ | exact mm_ref_n | exact mm_ref_o _) ?_
    refine rw_iconst (v := 1) d_Node_hearMap_64 (by decide) ?_
    refine rw_put d_Node_hearMap_65 (fP_Node_82 _) (mup_self _ _ _) (Nat.le_of_ble_eq_true rfl) (by first | rfl | assumption | decide) (by first | rfl | decide) ?_
    have hF2 : Fr M M3 a 15 := hF1.trans (fun y hy => (q4 y (by omega)).trans (q2 y (by omega)))
    have hF : ∀ e1 e2, Fr M (mup (mup M3 a e1) a e2) a 15 := fun e1 e2 => Fr.mup (Fr.mup hF2 (by omega) (by omega)) (by omega) (by omega)
    have ee : pHearMap e x = pClear (fun j => if j = 2 ∨ j = 1 ∨ j = 3 then 1 else if j = 4 then e else x j) := by rw [pHearMap, if_pos c]
    have e5 : ∀ j, 5 ≤ j → j < 10 → pHearMap e x j = x j := fun j h1 h2 => by
      rw [ee]
      simp only [pClear]
      rw [if_neg (by omega), if_neg (by omega), if_neg (by omega)]
    have ehi : ∀ j, 10 ≤ j → pHearMap e x j = pClear (pu x 2 1) j := fun j h1 => by
      rw [ee]
      simp only [pClear, pu]
      by_cases z : (20 ≤ j ∧ j < 30) ∨ j = 10 ∨ j = 11
      · rw [if_pos z, if_pos z]
      · rw [if_neg z, if_neg z, if_neg (by omega), if_neg (by omega), if_neg (by omega)]
    refine rw_vret d_Node_hearMap_68 rfl ⟨rfl, rfl, ⟨?_, ⟨?_, ?_⟩, ?_, ?_, ?_⟩, hS.node hN hpa (hF _ _), Fr2.of1 (hF _ _)⟩
    · rw [mup_self, ee]
      rfl
    · rw [mup_ne _ _ (by omega), mup_ne _ _ (by omega), q4 _ (by omega), show pHearMap e x 4 = e by rw [ee]; rfl]
      exact q1
    · rw [e5 5 (by omega) (by omega), e5 6 (by omega) (by omega)]
      exact k1.2.kept (fun y y1 y2 => by rw [mup_ne _ _ (by omega), mup_ne _ _ (by omega), q4 y (by omega), q2 y (by omega)])
    · rw [e5 7 (by omega) (by omega), e5 8 (by omega) (by omega), e5 9 (by omega) (by omega)]
      exact k2.kept (fun y y1 y2 => by rw [mup_ne _ _ (by omega), mup_ne _ _ (by omega), q4 y (by omega), q2 y (by omega)])
    · exact (q3.kept (fun y y1 y2 => by rw [mup_ne _ _ (by omega), mup_ne _ _ (by omega)])).same (ehi 10 (by omega)) (ehi 11 (by omega)) (fun m hm => ⟨ehi _ (by omega), ehi _ (by omega), ehi _ (by omega)⟩)
    · rw [ee]
      refine pBd.clear ⟨fun j => ?_, fun j hj => ?_⟩
      · simp only
        (repeat' split) <;> first | omega | exact h4.1 _
      · simp only
        (repeat' split) <;> first | omega | exact h4.2 j hj
  · refine rw_icmp_le_t (tgt := 68) d_Node_hearMap_16 (by decide) (nI_le (by omega) (by omega)) ?_
    have ee : pHearMap e x = pu x 2 1 := by rw [pHearMap, if_neg c]
    rw [ee]
    exact rw_vret d_Node_hearMap_68 rfl ⟨rfl, rfl, hN1, hS1, Fr2.of1 hF1⟩
end NODE2
end
section
/-! Node.hearCommand. -/
section NODE2
variable {l : Launch} {G : mm_G} {sz : Nat} {ca : Nat → Nat} {cm : Nat → pCm} {g : Nat} {E : pE} {pl p a n : Nat} {x : pN} {post : List pMsg}
def pHearC (E : pE) (n : Nat) (x : pN) (i : Nat) : pN × List pMsg := if eL E (x 4) = n ∧ x 10 = 1 then (if pRemembers x i then (x, [pAns n x i]) else (pAppend x i, [])) else (x, [])
theorem c_hearCommand {M : mm_M} {i : Nat} (hN : NdP M ca cm g E pl p a n x) (hS : SyP G M ca cm g E pl p post) (hpa : p + 328 ≤ a) (hn : n < eN E) (hi : i < g) : CT l G Y_Node_hearCommand ds_Node_hearCommand (rm 4) [.ref a, .ref (ca i)] M sz (NdQ G M sz ca cm g E pl p a n (pHearC E n x i).1 (pSend post (pHearC E n x i).2)) := by
  obtain ⟨h0, h1, h2, h3, h4⟩ := id hN
  obtain ⟨hP, hA, hpl, hlt, hN7, -, -, hg, -, -⟩ := id hS
  obtain ⟨hd, en, dn, ⟨r0, r1, r2, r3⟩, r4⟩ := id h3
  obtain ⟨hh, hc0⟩ := h1.2.obj
  have hw := (hA i hi).2
  have b10 := h4.2 10 (by omega)
  have b1 := h4.2 1 (by omega)
  refine CT.of (by decide) (Nat.le_of_ble_eq_true rfl) ?_
  refine rw_aload_n d_Node_hearCommand_0 rfl (by first | exact mm_ref_r _ | exact mm_ref_n | exact mm_ref_o _) ?_
  refine rw_ifnull_f d_Node_hearCommand_1 ?_
  refine rw_aload_n d_Node_hearCommand_4 rfl (by first | exact mm_ref_r _ | exact mm_ref_n | exact mm_ref_o _) ?_
  refine rw_get d_Node_hearCommand_5 fF_Node_12 h0 rfl ?_
  refine rw_get d_Node_hearCommand_8 fF_Node_163 h1.1 rfl ?_
  refine rw_aload_n d_Node_hearCommand_11 rfl (by first | exact mm_ref_r _ | exact mm_ref_n | exact mm_ref_o _) ?_
  refine rw_get d_Node_hearCommand_12 fF_Node_25 h0 rfl ?_
  have hl := eL_lt E (x 4) hN7
  have hcmp : (gI (eL E (x 4)) = nI n) ↔ eL E (x 4) = n := by
    rcases hl with z | z
    · rw [z]
      constructor
      · intro w
        have := congrArg Int32.toInt w
        rw [nI_toInt (by omega)] at this
        have h5 : (gI 99).toInt = -1 := by decide
        omega
      · intro w
        omega
    · rw [gI, if_neg (by omega), nI_eq (by omega) (by omega)]
  by_cases c1 : eL E (x 4) = n
  · refine rw_icmp_ne_f (tgt := 28) d_Node_hearCommand_15 (by decide) (hcmp.mpr c1) ?_
    refine rw_aload_n d_Node_hearCommand_18 rfl (by first | exact mm_ref_r _ | exact mm_ref_n | exact mm_ref_o _) ?_
    refine rw_get d_Node_hearCommand_19 fF_Node_47 h0 rfl ?_
    refine rw_get d_Node_hearCommand_22 fF_Node_166 r0 rfl ?_
    rcases (show x 10 = 0 ∨ x 10 = 1 by omega) with c2 | c2
    · rw [c2]
      refine rw_if_ne_f (tgt := 29) d_Node_hearCommand_25 (by decide) (by decide) ?_
      have e : pHearC E n x i = (x, []) := by rw [pHearC, if_neg (fun z => by omega)]
      rw [e]
      exact rw_vret d_Node_hearCommand_28 rfl ⟨rfl, rfl, hN, by rw [pSend_nil hP.len]; exact hS, fun _ _ _ => rfl⟩
    · rw [c2]
      refine rw_if_ne_t (tgt := 29) d_Node_hearCommand_25 (by decide) (by decide) ?_
      refine rw_aload_n d_Node_hearCommand_29 rfl (by first | exact mm_ref_r _ | exact mm_ref_n | exact mm_ref_o _) ?_
      refine rw_get d_Node_hearCommand_30 fF_Node_12 h0 rfl ?_
      refine rw_get d_Node_hearCommand_33 fF_Node_146 h1.1 rfl ?_
      refine rw_aload_n d_Node_hearCommand_36 rfl (by first | exact mm_ref_r _ | exact mm_ref_n | exact mm_ref_o _) ?_
      refine rw_get d_Node_hearCommand_37 fF_Node_169 hw rfl ?_
      have hcp := h1.2
      obtain ⟨-, -, -, -, -, c512, e512, -, c4, -⟩ := id hcp
      refine rw_callV (kc := 0) (ks := 0) (rest := []) d_Node_hearCommand_40 (c_remembers (i := i) hc0 (by omega) (by omega)) mW_Copy_remembers mL_Node_174 mI_Copy_remembers mE_Copy_remembers ⟨by decide, by decide⟩ hc0 rfl rfl rfl rfl (Nat.le_of_ble_eq_true rfl) (fun r M1 sz1 hq => ?_)
      obtain ⟨rfl, rfl, rfl⟩ := hq
      refine rw_stk (st' := [.int (bI (pRemembers x i))]) rfl ?_
      cases c3 : pRemembers x i with
      | true =>
        refine rw_if_eq_f (tgt := 57) d_Node_hearCommand_43 (by decide) (by decide) ?_
        refine rw_aload_n d_Node_hearCommand_46 rfl (by first | exact mm_ref_r _ | exact mm_ref_n | exact mm_ref_o _) ?_
        refine rw_aload_n d_Node_hearCommand_47 rfl (by first | exact mm_ref_r _ | exact mm_ref_n | exact mm_ref_o _) ?_
        refine rw_get d_Node_hearCommand_48 fF_Node_169 hw rfl ?_
        have c3' : i < x 5 ∧ x 5 ≤ i + 8 := by simpa [pRemembers] using c3
        refine rw_callV (kc := 0) (ks := 0) (rest := []) d_Node_hearCommand_51 (c_tellAnswer (i := i) hN hS hpa hn c3'.1 c3'.2) mW_Node_tellAnswer mL_Node_178 mI_Node_tellAnswer mE_Node_tellAnswer ⟨by decide, by decide⟩ h0 rfl rfl rfl rfl (Nat.le_of_ble_eq_true rfl) (fun r2 M2 sz2 hq2 => ?_)
        obtain ⟨rfl, rfl, q1, q2, q3⟩ := hq2
        refine rw_stk (st' := []) rfl ?_
        refine rw_goto (tgt := 77) d_Node_hearCommand_54 (by decide) ?_
        have e : pHearC E n x i = (x, [pAns n x i]) := by rw [pHearC, if_pos ⟨c1, c2⟩, c3]; rfl
        rw [e]
        exact rw_vret d_Node_hearCommand_77 rfl ⟨rfl, rfl, q1, q2, q3⟩
      | false =>
        refine rw_if_eq_t (tgt := 57) d_Node_hearCommand_43 (by decide) (rfl) ?_
        refine rw_aload_n d_Node_hearCommand_57 rfl (by first | exact mm_ref_r _ | exact mm_ref_n | exact mm_ref_o _) ?_
        refine rw_dup d_Node_hearCommand_58 rfl ?_
        refine rw_get d_Node_hearCommand_59 fF_Node_76 h0 rfl ?_
        refine rw_aload_n d_Node_hearCommand_62 rfl (by first | exact mm_ref_r _ | exact mm_ref_n | exact mm_ref_o _) ?_
        refine rw_get d_Node_hearCommand_63 fF_Node_12 h0 rfl ?_
        refine rw_get d_Node_hearCommand_66 fF_Node_146 h1.1 rfl ?_
        refine rw_aload_n d_Node_hearCommand_69 rfl (by first | exact mm_ref_r _ | exact mm_ref_n | exact mm_ref_o _) ?_
        refine rw_callV (kc := 0) (ks := 0) (rest := [.int (nI (x 1)), .ref a]) d_Node_hearCommand_70 (c_appendP (i := i) hA hcp hi hg) mW_Copy_append mL_Node_181 mI_Copy_append mE_Copy_append ⟨by decide, by decide⟩ hc0 rfl rfl rfl rfl (Nat.le_of_ble_eq_true rfl) (fun r2 M2 sz2 hq2 => ?_)
        obtain ⟨rfl, rfl, q1, q2⟩ := hq2
        refine rw_stk (st' := [.int (bI (decide (i = x 6 ∧ x 6 < x 5 + 8))), .int (nI (x 1)), .ref a]) rfl ?_
        refine rw_ior d_Node_hearCommand_73 ?_
        have e1v : pAppend x i 1 = if i = x 6 ∧ x 6 < x 5 + 8 then 1 else x 1 := by
          unfold pAppend
          split <;> rfl
        have eor : nI (x 1) ||| bI (decide (i = x 6 ∧ x 6 < x 5 + 8)) = nI (pAppend x i 1) := by
          rw [e1v]
          rcases (show x 1 = 0 ∨ x 1 = 1 by omega) with z | z
          · by_cases w : i = x 6 ∧ x 6 < x 5 + 8
            · rw [if_pos w, decide_eq_true w, z]
              rfl
            · rw [if_neg w, decide_eq_false w, z]
              rfl
          · by_cases w : i = x 6 ∧ x 6 < x 5 + 8
            · rw [if_pos w, decide_eq_true w, z]
              rfl
            · rw [if_neg w, decide_eq_false w, z]
              rfl
        rw [eor]
        have hbz : pAppend x i 1 ≤ 1 := by
          rw [e1v]
          split
          · exact Nat.le_refl _
          · exact b1
        have hnb : narrow .boolean (.int (nI (pAppend x i 1))) = .int (nI (pAppend x i 1)) := by
          rcases (show pAppend x i 1 = 0 ∨ pAppend x i 1 = 1 by omega) with z | z
          · rw [z]
            rfl
          · rw [z]
            rfl
        have hfb : fits .boolean (.int (nI (pAppend x i 1))) = true := by
          rcases (show pAppend x i 1 = 0 ∨ pAppend x i 1 = 1 by omega) with z | z
          · rw [z]
            rfl
          · rw [z]
            rfl
        refine rw_put d_Node_hearCommand_74 (fP_Node_76 _) ((q2 a (by omega)).trans h0) (Nat.le_of_ble_eq_true rfl) (by first | rfl | assumption | decide) (by first | rfl | assumption | decide) ?_
        have hF : ∀ e1, Fr M1 (mup M2 a e1) a 15 := fun e1 => Fr.mup (q2.wider (by omega) (by omega)) (by omega) (by omega)
        have e : pHearC E n x i = (pAppend x i, []) := by rw [pHearC, if_pos ⟨c1, c2⟩, c3]; rfl
        rw [show (pHearC E n x i).1 = pAppend x i by rw [e], show (pHearC E n x i).2 = [] by rw [e]]
        have es : ∀ j, j ≠ 1 → j ≠ 6 → pAppend x i j = x j := fun j j1 j2 => by
          unfold pAppend
          split
          · simp only
            rw [if_neg j2, if_neg j1]
          · rfl
        have e6 : pAppend x i 6 = if i = x 6 ∧ x 6 < x 5 + 8 then x 6 + 1 else x 6 := by
          unfold pAppend
          split <;> rfl
        have hS2 := hS.node hN hpa (hF (.inr (9, [.int (nI n), .ref pl, .ref p, .ref (a + 1), .ref (a + 6), .ref (a + 11), .int (nI (x 0)), .int (nI (pAppend x i 1)), .int (nI (x 2)), .int (nI (x 3))])))
        refine rw_vret d_Node_hearCommand_77 rfl ⟨rfl, rfl, ⟨?_, ⟨?_, ?_⟩, ?_, ?_, ?_⟩, by rw [pSend_nil hP.len]; exact hS2, Fr2.of1 (hF _)⟩
        · rw [mup_self]
          simp only [ndO]
          rw [es 0 (by omega) (by omega), es 2 (by omega) (by omega), es 3 (by omega) (by omega)]
          rfl
        · rw [mup_ne _ _ (by omega), q2 _ (by omega), es 4 (by omega) (by omega)]
          exact h1.1
        · rw [es 5 (by omega) (by omega), e6]
          exact q1.kept (fun y y1 y2 => mup_ne _ _ (by omega))
        · rw [es 7 (by omega) (by omega), es 8 (by omega) (by omega), es 9 (by omega) (by omega)]
          exact h2.kept (fun y y1 y2 => by rw [mup_ne _ _ (by omega), q2 y (by omega)])
        · exact (h3.kept (fun y y1 y2 => by rw [mup_ne _ _ (by omega), q2 y (by omega)])).same (es 10 (by omega) (by omega)) (es 11 (by omega) (by omega)) (fun m hm => ⟨es _ (by omega) (by omega), es _ (by omega) (by omega), es _ (by omega) (by omega)⟩)
        · refine ⟨fun j => ?_, fun j hj => ?_⟩
          · by_cases z1 : j = 1
            · rw [z1]; omega
            · by_cases z2 : j = 6
              · rw [z2, e6]
                split <;> omega
              · rw [es j z1 z2]
                exact h4.1 j
          · by_cases z1 : j = 1
            · rw [z1]; omega
            · rw [es j z1 (by omega)]
              exact h4.2 j hj
  · refine rw_icmp_ne_t (tgt := 28) d_Node_hearCommand_15 (by decide) (fun z => c1 (hcmp.mp z)) ?_
    have e : pHearC E n x i = (x, []) := by rw [pHearC, if_neg (fun z => c1 z.1)]
    rw [e]
    exact rw_vret d_Node_hearCommand_28 rfl ⟨rfl, rfl, hN, by rw [pSend_nil hP.len]; exact hS, fun _ _ _ => rfl⟩
end NODE2
end
section
/-! Node.hear: the kind's switch, and what each kind does. -/
theorem lwK_goodIn {ws : List Cond} (h : ∀ w ∈ ws, w ∈ lwK) : GoodIn lwK ws := by
  intro w hw
  refine ⟨h w hw, ?_⟩
  have h2 := (List.mem_filter.mp (h w hw)).2
  unfold mm_keep at h2
  rw [Bool.or_eq_true] at h2
  rcases h2 with h2 | h2
  · exact Or.inl h2
  · right
    cases w <;> simp at h2
    exact ⟨_, rfl⟩
theorem iS_Enum : Cond.initialized "java/lang/Enum" ∈ lwK := by decide +kernel
theorem sM_ordinal : Cond.sameMethod "VersionGroup$Kind" "java/lang/Enum" "ordinal" "()I" ∈ lwK := by decide +kernel
section ORD
variable {l : Launch} {G : mm_G} {Y : mm_Y} {R : Room} {Z : mm_Zt} {kc ks pc : Nat} {lv : List (Nat × Value)} {st : List Value} {M : mm_M} {sz : Nat}
theorem rw_acmpK_t {i j : Nat} {off : Int} {tgt : Nat} (hi : i < 10) (hj : j < 10) (hij : i ≠ j) (hd : decode Y.2.1 pc = .ok (.if_acmp .ne off, 3)) (ht : (pc : Int) + off = (tgt : Int)) (k : RW l G Y R Z kc ks tgt lv st M sz) : RW l G Y R Z kc ks pc lv (.ref (gad G j) :: .ref (gad G i) :: st) M sz := by
  intro p e s m args below meth c C H locs ls cells slots hR hL hl h1 h2
  have hK := C.2.2.2.2.2.2.2.2
  have hne : gad G i ≠ gad G j := fun z => hij (hK.2.1.2 i j hi hj z)
  exact rw_acmp_ne_t hd ht hne k p e s m args below meth c C H locs ls cells slots hR hL hl h1 h2
theorem rw_getOrd {i idx : Nat} (hi : i < 10) (hw : Cond.fieldLink Y.1 idx "java/lang/Enum" "ordinal" "I" ∈ lwK) (hd : decode Y.2.1 pc = .ok (.getfield idx, 3)) (k : RW l G Y R Z kc ks (pc + 3) lv (.int (nI i) :: st) M sz) : RW l G Y R Z kc ks pc lv (.ref (gad G i) :: st) M sz := by
  intro p e s m args below meth c C H locs ls cells slots hR hL hl h1 h2
  obtain ⟨hx, hb, -, -, -, hown, hmn, hts, hK⟩ := id C
  obtain ⟨cf, kk, fi, f, cell, z1, z2, z3, z4, z5, z6⟩ := (hK.2.1.1 i hi).2.2 _ (List.mem_singleton.mpr rfl)
  have ev : (Value.int ((([0, 1, 2, 3, 4, 5, 6, 7, 8, 9] : List Int32)).getD i 0)) = .int (nI i) := by
    have : ∀ i, i < 10 → (Value.int ((([0, 1, 2, 3, 4, 5, 6, 7, 8, 9] : List Int32)).getD i 0)) = .int (nI i) := by decide +kernel
    exact this i hi
  exact W.getf (v := .int (nI i)) hx hb hown (hts _ hw) z1 z2 (by rw [hR.2.2.1 _ (Nat.not_le.mp z6)]; exact z3) z4 (by rw [z5]; exact congrArg some ev) rfl rfl hd (k p e s m args below meth c C H locs ls cells slots hR hL hl h1 h2)
theorem c_ordinal {i : Nat} (hi : i < 10) : CT l G Y_Enum_ordinal ds_Enum_ordinal (rm 1) [.ref (gad G i)] M sz (NuQ M sz i) := by
  refine CT.of (by decide) (Nat.le_of_ble_eq_true rfl) ?_
  refine rw_aload_n d_Enum_ordinal_0 rfl (by first | exact mm_ref_r _ | exact mm_ref_n | exact mm_ref_o _) ?_
  refine rw_getOrd hi fS_Enum_7 d_Enum_ordinal_1 ?_
  exact rw_iret d_Enum_ordinal_4 rfl ⟨rfl, rfl, rfl⟩
theorem rw_ordinal {i idx : Nat} {rest : List Value} (hi : i < 10) (hd : decode Y.2.1 pc = .ok (.invokevirtual idx, 3)) (hlk : Cond.methodLink Y.1 idx ⟨"VersionGroup$Kind", "ordinal", "()I"⟩ ∈ lwK) (hRm : 2 ≤ R.frames ∧ 55 ≤ R.locals) (hsm : (rest.map fun v => v.category).sum ≤ 8) (kk : RW l G Y R Z kc ks (pc + 3) lv (.int (nI i) :: rest) M sz) : RW l G Y R Z kc ks pc lv (.ref (gad G i) :: rest) M sz := by
  intro p e s m args below meth c C H locs ls cells slots hR hL hl h1 h2
  obtain ⟨hx, hb, -, hml, -, hown, hmn, hts, hK⟩ := id C
  have hgood : GoodIn lwK (va_wsU Y.1 idx "VersionGroup$Kind" "java/lang/Enum" ⟨"VersionGroup$Kind", "ordinal", "()I"⟩ ⟨"java/lang/Enum", "ordinal", "()I"⟩ (Cond.code (mm_y Y_Enum_ordinal ds_Enum_ordinal) Y_Enum_ordinal.2.1 Y_Enum_ordinal.2.2.1 Y_Enum_ordinal.2.2.2.1 :: lwK)) := by
    apply lwK_goodIn
    intro w hw
    unfold va_wsU at hw
    rcases List.mem_append.mp hw with q | q
    · simp only [List.mem_cons, List.not_mem_nil, or_false] at q
      rcases q with rfl | rfl | rfl | rfl | rfl
      · exact hlk
      · exact sM_ordinal
      · exact mE_Kind_ordinal
      · exact mI_Enum_ordinal
      · exact iS_Enum
    · rcases List.mem_cons.mp q with rfl | q
      · exact mW_Enum_ordinal.1
      · exact q
  have cw := va_cwU (R := R) (s := s) (args := args) (rm := rm 1) (mc := 0) (ms := 0) 0 hts hgood rfl rfl rfl rfl ⟨by decide, by decide, by decide +kernel⟩ ⟨hRm.1, by show 8 + (1 + 11) + 35 * 1 ≤ R.locals; have := hRm.2; omega⟩
  have hrun := va_runU (l := l) (e := e) (below := below) (meth := meth) (H := H) (locs := locs) (cells := cells) (slots := slots) (b := gad G i) (As := []) (rest := rest) (g := F0 m pc ls (.ref (gad G i) :: rest)) ⟨hx, hb, hml, hown, hts⟩ (c_ordinal (l := l) (G := G) (M := M) (sz := sz) hi) cw ⟨mm_blind, by
      obtain ⟨cell, y1, y2, y3, y4⟩ := (hK.2.1.1 i hi).2.1
      exact ⟨cell, by rw [hR.2.2.1 _ (Nat.not_le.mp y4)]; exact y1, y2, y3⟩, fun U hU hWm => ⟨rfl, hK.warm hWm, by rw [hU]; exact hR⟩⟩ rfl rfl hl.1 rfl (lv_room hsm) hd ⟨by omega, by omega⟩
  refine rw_run (kc := kc) (ks := ks) C hL hl h1 h2 hrun (fun r M' sz' hq => ?_)
  obtain ⟨rfl, rfl, rfl⟩ := hq
  exact kk
end ORD
end
section
/-! Node.hear. -/
section HEAR
variable {l : Launch} {G : mm_G} {sz : Nat} {ca : Nat → Nat} {cm : Nat → pCm} {g : Nat} {E : pE} {pl p a n : Nat} {x : pN} {post : List pMsg}
/-- locals of hear -/
abbrev hrL (a q : Nat) : List (Nat × Value) := [(0, .ref a), (1, .ref q)]
theorem NdP.two {M : mm_M} (h : NdP M ca cm g E pl p a n x) {e : va_E} {y : pN} (hy : pBd y) (he : e = ndO a n pl p y) (h4 : ∀ j, 4 ≤ j → y j = x j) : NdP (mup M a e) ca cm g E pl p a n y := by
  obtain ⟨h0, h1, h2, h3, -⟩ := h
  refine ⟨by rw [mup_self, he], ?_, ?_, ?_, hy⟩
  · rw [h4 4 (by omega), h4 5 (by omega), h4 6 (by omega)]
    exact h1.kept (fun y y1 y2 => mup_ne _ _ (by omega))
  · rw [h4 7 (by omega), h4 8 (by omega), h4 9 (by omega)]
    exact h2.kept (fun y y1 y2 => mup_ne _ _ (by omega))
  · exact (h3.kept (fun y y1 y2 => mup_ne _ _ (by omega))).same (h4 10 (by omega)) (h4 11 (by omega)) (fun m hm => ⟨h4 _ (by omega), h4 _ (by omega), h4 _ (by omega)⟩)
set_option maxRecDepth 100000 in
/-- FETCH: the whole copy goes back -/
theorem hear_fetch {M : mm_M} {q f : Nat} {kv : Value} {t e s en dn nu an : Int32} {cv : Value} (hN : NdP M ca cm g E pl p a n x) (hS : SyP G M ca cm g E pl p post) (hpa : p + 328 ≤ a) (hn : n < eN E) (hm : M q = some (msO q kv (gI f) t e s en dn nu an cv)) :
    RW l G Y_Node_hear (rm 5) (mm_Z G (rm 5) (NdQ G M sz ca cm g E pl p a n (pu x 3 1) (pSend post [(8, n, f, x 4, x 6, x 5)]))) 0 0 125 (hrL a q) [] M sz := by
  obtain ⟨h0, h1, h2, h3, h4⟩ := id hN
  obtain ⟨hP, hA, hpl, hlt, hN7, -⟩ := id hS
  have egn : nI n = gI n := by rw [gI, if_neg (by omega)]
  obtain ⟨hh, hc0⟩ := h1.2.obj
  refine rw_aload_n d_Node_hear_125 rfl (by first | exact mm_ref_r _ | exact mm_ref_n | exact mm_ref_o _) ?_
  refine rw_get d_Node_hear_126 fF_Node_33 h0 rfl ?_
  refine rw_kind (i := 8) (by decide) fS_Node_133 d_Node_hear_129 ?_
  refine rw_aload_n d_Node_hear_132 rfl (by first | exact mm_ref_r _ | exact mm_ref_n | exact mm_ref_o _) ?_
  refine rw_get d_Node_hear_133 fF_Node_25 h0 rfl ?_
  refine rw_aload_n d_Node_hear_136 rfl (by first | exact mm_ref_r _ | exact mm_ref_n | exact mm_ref_o _) ?_
  refine rw_get d_Node_hear_137 fF_Node_121 hm rfl ?_
  refine rw_aload_n d_Node_hear_140 rfl (by first | exact mm_ref_r _ | exact mm_ref_n | exact mm_ref_o _) ?_
  refine rw_get d_Node_hear_141 fF_Node_12 h0 rfl ?_
  refine rw_get d_Node_hear_144 fF_Node_103 h1.1 rfl ?_
  refine rw_stk (st' := [.int (nI (x 4)), .int (gI f), .int (gI n), .ref (gad G 8), .ref p]) (by rw [← egn]) ?_
  refine rw_callV (kc := 0) (ks := 0) (rest := []) d_Node_hear_147 (c_send (k := 8) (f := n) (t := f) (e := x 4) hP) mW_Post_send mL_Node_136 mI_Post_send mE_Post_send ⟨by decide, by decide⟩ hP.choose_spec.choose_spec.choose_spec.1 rfl rfl rfl rfl (Nat.le_of_ble_eq_true rfl) (fun r M2 sz2 hq => ?_)
  obtain ⟨rfl, q1, j, hj, rfl, ⟨s', en', dn', nu', a2, cv', d, b, w1, w2, w3⟩, q2⟩ := hq
  have hN2 := hN.kept (M' := M2) (fun y y1 y2 => q1 y (by omega))
  have hA2 := hA.post hP q1
  refine rw_stk (st' := [.ref (p + 3 + 5 * j)]) rfl ?_
  refine rw_get d_Node_hear_150 fF_Node_142 w1 rfl ?_
  refine rw_aload_n d_Node_hear_153 rfl (by first | exact mm_ref_r _ | exact mm_ref_n | exact mm_ref_o _) ?_
  refine rw_get d_Node_hear_154 fF_Node_12 hN2.1 rfl ?_
  refine rw_get d_Node_hear_157 fF_Node_146 hN2.2.1.1 rfl ?_
  refine rw_iconst (v := 1) d_Node_hear_160 (by decide) ?_
  obtain ⟨hh2, hw2⟩ := w3.obj
  refine rw_callV (kc := 0) (ks := 0) (rest := []) d_Node_hear_161 (c_copyFrom (w := true) (f := 2) hA2 w3 hN2.2.1.2 (by omega)) mW_Copy_copyFrom mL_Node_147 mI_Copy_copyFrom mE_Copy_copyFrom ⟨by decide, by decide⟩ hw2 rfl rfl rfl rfl (Nat.le_of_ble_eq_true rfl) (fun r M3 sz3 hq => ?_)
  obtain ⟨rfl, rfl, q3, q4⟩ := hq
  refine rw_stk (st' := []) rfl ?_
  have hF3 : Fr M M3 p 328 := q1.trans (q4.wider (by omega) (by omega))
  have hN3 := hN.kept (M' := M3) (fun y y1 y2 => hF3 y (by omega))
  have hP3 := q2 M3 (8, n, f, x 4, x 6, x 5) (q4.wider (by omega) (by omega)) ⟨s', en', dn', nu', a2, cv', x 5, x 6, (q4 _ (by omega)).trans w1, w2, q3.le (by omega), (fun z => by cases z), (fun z => by cases z), (fun z => by cases z), (fun z => by cases z), (fun z => by cases z), fun _ => q3⟩
  have hS3 := hS.sent hP3 hF3
  refine rw_aload_n d_Node_hear_164 rfl (by first | exact mm_ref_r _ | exact mm_ref_n | exact mm_ref_o _) ?_
  refine rw_iconst (v := 1) d_Node_hear_165 (by decide) ?_
  refine rw_put d_Node_hear_166 (fP_Node_82 _) hN3.1 (Nat.le_of_ble_eq_true rfl) (by first | rfl | assumption | decide) (by first | rfl | assumption | decide) ?_
  refine rw_goto (tgt := 241) d_Node_hear_169 (by decide) ?_
  have hF4 : ∀ e1, Fr M3 (mup M3 a e1) a 15 := fun e1 => Fr.mup Fr.rf (by omega) (by omega)
  exact rw_vret d_Node_hear_241 rfl ⟨rfl, rfl, hN3.flag (f := 3) (v := 1) (by omega) (by omega) rfl, hS3.node hN3 hpa (hF4 _), (Fr2.of0 hF3).trans (Fr2.of1 (hF4 _))⟩
set_option maxRecDepth 100000 in
/-- ENTRIES and WHOLE: the log is followed -/
theorem hear_follow {M : mm_M} {q k d b f : Nat} {w : Bool} {fr t e s en dn nu an : Int32} {cv : Value} (hN : NdP M ca cm g E pl p a n x) (hS : SyP G M ca cm g E pl p post) (hpa : p + 328 ≤ a) (hq1 : p ≤ q) (hq2 : q + 5 ≤ p + 328) (hk : k < 10) (hw : w = decide (k = 8)) (hf : 1 ≤ f) (hf2 : w = true → f = 2) (hm : M q = some (msO q (.ref (gad G k)) fr t e s en dn nu an cv)) (hO : CpP f M ca cm g (q + 1) d b) :
    RW l G Y_Node_hear (rm 5) (mm_Z G (rm 5) (NdQ G M sz ca cm g E pl p a n (pFollow w d b x) post)) 0 0 172 (hrL a q) [] M sz := by
  obtain ⟨h0, h1, h2, h3, h4⟩ := id hN
  obtain ⟨hP, hA, hpl, hlt, hN7, -, -, hg, -, -⟩ := id hS
  obtain ⟨hh, hc0⟩ := h1.2.obj
  have b1 := h4.2 1 (by omega)
  refine rw_aload_n d_Node_hear_172 rfl (by first | exact mm_ref_r _ | exact mm_ref_n | exact mm_ref_o _) ?_
  refine rw_dup d_Node_hear_173 rfl ?_
  refine rw_get d_Node_hear_174 fF_Node_76 h0 rfl ?_
  refine rw_aload_n d_Node_hear_177 rfl (by first | exact mm_ref_r _ | exact mm_ref_n | exact mm_ref_o _) ?_
  refine rw_get d_Node_hear_178 fF_Node_12 h0 rfl ?_
  refine rw_get d_Node_hear_181 fF_Node_146 h1.1 rfl ?_
  refine rw_aload_n d_Node_hear_184 rfl (by first | exact mm_ref_r _ | exact mm_ref_n | exact mm_ref_o _) ?_
  refine rw_get d_Node_hear_185 fF_Node_142 hm rfl ?_
  refine rw_aload_n d_Node_hear_188 rfl (by first | exact mm_ref_r _ | exact mm_ref_n | exact mm_ref_o _) ?_
  refine rw_get d_Node_hear_189 fF_Node_85 hm rfl ?_
  refine rw_kind (i := 8) (by decide) fS_Node_133 d_Node_hear_192 ?_
  have join : RW l G Y_Node_hear (rm 5) (mm_Z G (rm 5) (NdQ G M sz ca cm g E pl p a n (pFollow w d b x) post)) 0 0 203 (hrL a q) [.int (bI w), .ref (q + 1), .ref (a + 1 + 1), .int (nI (x 1)), .ref a] M sz := by
    refine rw_callV (kc := 0) (ks := 0) (rest := [.int (nI (x 1)), .ref a]) d_Node_hear_203 (c_follow (w := w) hA h1.2 hO hf hf2 (by omega) hg) mW_Copy_follow mL_Node_153 mI_Copy_follow mE_Copy_follow ⟨by decide, by decide⟩ hc0 rfl rfl rfl rfl (Nat.le_of_ble_eq_true rfl) (fun r M2 sz2 hq => ?_)
    obtain ⟨rfl, rfl, y1, y2⟩ := hq
    refine rw_stk (st' := [.int (bI (pFolC w (x 5) (x 6) d b)), .int (nI (x 1)), .ref a]) rfl ?_
    refine rw_ior d_Node_hear_206 ?_
    have e1v : pFollow w d b x 1 = if pFolC w (x 5) (x 6) d b then 1 else x 1 := rfl
    have eor : nI (x 1) ||| bI (pFolC w (x 5) (x 6) d b) = nI (pFollow w d b x 1) := by
      rw [e1v]
      rcases (show x 1 = 0 ∨ x 1 = 1 by omega) with z | z <;> cases pFolC w (x 5) (x 6) d b <;> rw [z] <;> rfl
    rw [eor]
    have hbz : pFollow w d b x 1 ≤ 1 := by
      rw [e1v]
      split
      · exact Nat.le_refl _
      · exact b1
    have hz01 : pFollow w d b x 1 = 0 ∨ pFollow w d b x 1 = 1 := by omega
    have hnb : narrow .boolean (.int (nI (pFollow w d b x 1))) = .int (nI (pFollow w d b x 1)) := by
      rcases hz01 with z | z <;> rw [z] <;> rfl
    have hfb : fits .boolean (.int (nI (pFollow w d b x 1))) = true := by
      rcases hz01 with z | z <;> rw [z] <;> rfl
    refine rw_put d_Node_hear_207 (fP_Node_76 _) ((y2 a (by omega)).trans h0) (Nat.le_of_ble_eq_true rfl) (by first | rfl | assumption | decide) (by first | rfl | assumption | decide) ?_
    refine rw_aload_n d_Node_hear_210 rfl (by first | exact mm_ref_r _ | exact mm_ref_n | exact mm_ref_o _) ?_
    refine rw_iconst (v := 1) d_Node_hear_211 (by decide) ?_
    refine rw_put d_Node_hear_212 (fP_Node_82 _) (mup_self _ _ _) (Nat.le_of_ble_eq_true rfl) (by first | rfl | assumption | decide) (by first | rfl | assumption | decide) ?_
    refine rw_goto (tgt := 241) d_Node_hear_215 (by decide) ?_
    have hF : ∀ e1 e2, Fr M (mup (mup M2 a e1) a e2) a 15 := fun e1 e2 => Fr.mup (Fr.mup (y2.wider (by omega) (by omega)) (by omega) (by omega)) (by omega) (by omega)
    have es : ∀ j, j ≠ 1 → j ≠ 3 → j ≠ 5 → j ≠ 6 → pFollow w d b x j = x j := fun j j1 j2 j3 j4 => by
      unfold pFollow
      rw [if_neg j3, if_neg j4, if_neg j1, if_neg j2]
    obtain ⟨-, -, -, -, -, z512, z512b, -⟩ := id y1
    refine rw_vret d_Node_hear_241 rfl ⟨rfl, rfl, ⟨?_, ⟨?_, ?_⟩, ?_, ?_, ?_⟩, hS.node hN hpa (hF _ _), Fr2.of1 (hF _ _)⟩
    · rw [mup_self]
      simp only [ndO]
      rw [es 0 (by omega) (by omega) (by omega) (by omega), es 2 (by omega) (by omega) (by omega) (by omega)]
      rfl
    · rw [mup_ne _ _ (by omega), mup_ne _ _ (by omega), y2 _ (by omega), es 4 (by omega) (by omega) (by omega) (by omega)]
      exact h1.1
    · exact y1.kept (fun y y1 y2 => by rw [mup_ne _ _ (by omega), mup_ne _ _ (by omega)])
    · rw [es 7 (by omega) (by omega) (by omega) (by omega), es 8 (by omega) (by omega) (by omega) (by omega), es 9 (by omega) (by omega) (by omega) (by omega)]
      exact h2.kept (fun y z1 z2 => by rw [mup_ne _ _ (by omega), mup_ne _ _ (by omega), y2 y (by omega)])
    · exact (h3.kept (fun y z1 z2 => by rw [mup_ne _ _ (by omega), mup_ne _ _ (by omega), y2 y (by omega)])).same (es 10 (by omega) (by omega) (by omega) (by omega)) (es 11 (by omega) (by omega) (by omega) (by omega)) (fun m hm => ⟨es _ (by omega) (by omega) (by omega) (by omega), es _ (by omega) (by omega) (by omega) (by omega), es _ (by omega) (by omega) (by omega) (by omega)⟩)
    · refine ⟨fun j => ?_, fun j hj => ?_⟩
      · unfold pFollow
        (repeat' split) <;> first | omega | exact h4.1 _
      · unfold pFollow
        (repeat' split) <;> first | omega | exact h4.2 j hj
  by_cases c : k = 8
  · subst c
    refine rw_acmp_ne_f (tgt := 202) d_Node_hear_195 (by decide) ?_
    refine rw_iconst (v := 1) d_Node_hear_198 (by decide) ?_
    refine rw_goto (tgt := 203) d_Node_hear_199 (by decide) ?_
    rw [decide_eq_true rfl] at hw
    subst hw
    exact join
  · refine rw_acmpK_t (tgt := 202) hk (by decide) c d_Node_hear_195 (by decide) ?_
    refine rw_iconst (v := 0) d_Node_hear_202 (by decide) ?_
    rw [decide_eq_false c] at hw
    subst hw
    exact join
set_option maxRecDepth 100000 in
/-- DROP: nothing is kept -/
theorem hear_drop {M : mm_M} {q : Nat} (hN : NdP M ca cm g E pl p a n x) (hS : SyP G M ca cm g E pl p post) (hpa : p + 328 ≤ a) :
    RW l G Y_Node_hear (rm 5) (mm_Z G (rm 5) (NdQ G M sz ca cm g E pl p a n (fun j => if j = 5 ∨ j = 6 then 0 else if j = 1 ∨ j = 3 then 1 else x j) post)) 0 0 218 (hrL a q) [] M sz := by
  obtain ⟨h0, h1, h2, h3, h4⟩ := id hN
  obtain ⟨hh, hc0⟩ := h1.2.obj
  refine rw_aload_n d_Node_hear_218 rfl (by first | exact mm_ref_r _ | exact mm_ref_n | exact mm_ref_o _) ?_
  refine rw_get d_Node_hear_219 fF_Node_12 h0 rfl ?_
  refine rw_get d_Node_hear_222 fF_Node_146 h1.1 rfl ?_
  refine rw_callV (kc := 0) (ks := 0) (rest := []) d_Node_hear_225 (c_empty (h1.2.le (by omega))) mW_Copy_empty mL_Node_157 mI_Copy_empty mE_Copy_empty ⟨by decide, by decide⟩ hc0 rfl rfl rfl rfl (Nat.le_of_ble_eq_true rfl) (fun r M2 sz2 hq => ?_)
  obtain ⟨rfl, rfl, y1, y2⟩ := hq
  refine rw_stk (st' := []) rfl ?_
  refine rw_aload_n d_Node_hear_228 rfl (by first | exact mm_ref_r _ | exact mm_ref_n | exact mm_ref_o _) ?_
  refine rw_iconst (v := 1) d_Node_hear_229 (by decide) ?_
  refine rw_put d_Node_hear_230 (fP_Node_76 _) ((y2 a (by omega)).trans h0) (Nat.le_of_ble_eq_true rfl) (by first | rfl | assumption | decide) (by first | rfl | assumption | decide) ?_
  refine rw_aload_n d_Node_hear_233 rfl (by first | exact mm_ref_r _ | exact mm_ref_n | exact mm_ref_o _) ?_
  refine rw_iconst (v := 1) d_Node_hear_234 (by decide) ?_
  refine rw_put d_Node_hear_235 (fP_Node_82 _) (mup_self _ _ _) (Nat.le_of_ble_eq_true rfl) (by first | rfl | assumption | decide) (by first | rfl | assumption | decide) ?_
  refine rw_goto (tgt := 241) d_Node_hear_238 (by decide) ?_
  have hF : ∀ e1 e2, Fr M (mup (mup M2 a e1) a e2) a 15 := fun e1 e2 => Fr.mup (Fr.mup (y2.wider (by omega) (by omega)) (by omega) (by omega)) (by omega) (by omega)
  have es : ∀ j, j ≠ 1 → j ≠ 3 → j ≠ 5 → j ≠ 6 → (fun j => if j = 5 ∨ j = 6 then 0 else if j = 1 ∨ j = 3 then 1 else x j) j = x j := fun j j1 j2 j3 j4 => by
    simp only
    rw [if_neg (by omega), if_neg (by omega)]
  refine rw_vret d_Node_hear_241 rfl ⟨rfl, rfl, ⟨?_, ⟨?_, ?_⟩, ?_, ?_, ?_⟩, hS.node hN hpa (hF _ _), Fr2.of1 (hF _ _)⟩
  · rw [mup_self]
    rfl
  · rw [mup_ne _ _ (by omega), mup_ne _ _ (by omega), y2 _ (by omega)]
    exact h1.1
  · exact y1.kept (fun y y1 y2 => by rw [mup_ne _ _ (by omega), mup_ne _ _ (by omega)])
  · exact h2.kept (fun y z1 z2 => by rw [mup_ne _ _ (by omega), mup_ne _ _ (by omega), y2 y (by omega)])
  · exact (h3.kept (fun y z1 z2 => by rw [mup_ne _ _ (by omega), mup_ne _ _ (by omega), y2 y (by omega)])).same rfl rfl (fun m hm => ⟨es _ (by omega) (by omega) (by omega) (by omega), es _ (by omega) (by omega) (by omega) (by omega), es _ (by omega) (by omega) (by omega) (by omega)⟩)
  · refine ⟨fun j => ?_, fun j hj => ?_⟩
    · simp only
      (repeat' split) <;> first | omega | exact h4.1 _
    · simp only
      (repeat' split) <;> first | omega | exact h4.2 j hj
end HEAR
end
section
/-! Node.hear: any message. -/
/-- a message that can be under way -/
def mOk (E : pE) (m : pMsg) : Prop := m.1 < 10 ∧ m.2.2.2.1 < 1000000 ∧ (m.1 = 1 ∨ m.1 = 5 ∨ m.1 = 6 → m.2.1 < eN E) ∧ (m.1 ≠ 1 → m.1 ≠ 3 → m.2.2.1 < eN E) ∧ m.2.2.2.2.1 ≤ 512 ∧ m.2.2.2.2.2 ≤ 512
section HEARM
variable {l : Launch} {G : mm_G} {sz : Nat} {ca : Nat → Nat} {cm : Nat → pCm} {g : Nat} {E : pE} {pl p a n : Nat} {x : pN} {post : List pMsg}
set_option maxRecDepth 100000 in
theorem c_hear {M : mm_M} {j : Nat} {m : pMsg} (hN : NdP M ca cm g E pl p a n x) (hS : SyP G M ca cm g E pl p post) (hpa : p + 328 ≤ a) (hn : n < eN E) (hj : j < 64) (hm : MsP G M ca cm g E (p + 3 + 5 * j) m) (hok : mOk E m) (h1k : m.1 ≠ 1) (h3k : m.1 ≠ 3) :
    CT l G Y_Node_hear ds_Node_hear (rm 5) [.ref a, .ref (p + 3 + 5 * j)] M sz (NdQ G M sz ca cm g E pl p a n (pHear E n x m).1 (pSend post (pHear E n x m).2)) := by
  obtain ⟨h0, h1, h2, h3, h4⟩ := id hN
  obtain ⟨hP, hA, hpl, hlt, hN7, -, -, hg, -, -⟩ := id hS
  obtain ⟨k, f, t, e, u, v⟩ := m
  obtain ⟨o1, o2, o3, o4, o5, o6⟩ := hok
  simp only at o1 o2 o3 o4 o5 o6 h1k h3k
  obtain ⟨s, en, dn, nu, an, cv, d0, b0, w1, w2, w3, w4, w5, w6, w7, w8, w9⟩ := id hm
  simp only at w1 w4 w5 w6 w7 w8 w9
  have b4 := h4.1 4
  refine CT.of (by decide) (Nat.le_of_ble_eq_true rfl) ?_
  refine rw_aload_n d_Node_hear_0 rfl (by first | exact mm_ref_r _ | exact mm_ref_n | exact mm_ref_o _) ?_
  refine rw_get d_Node_hear_1 fF_Node_85 w1 rfl ?_
  refine rw_kind (i := 0) (by decide) fS_Node_91 d_Node_hear_4 ?_
  by_cases c0 : k = 0
  · subst c0
    refine rw_acmp_ne_f (tgt := 16) d_Node_hear_7 (by decide) ?_
    refine rw_aload_n d_Node_hear_10 rfl (by first | exact mm_ref_r _ | exact mm_ref_n | exact mm_ref_o _) ?_
    refine rw_aload_n d_Node_hear_11 rfl (by first | exact mm_ref_r _ | exact mm_ref_n | exact mm_ref_o _) ?_
    have ws := w4 rfl
    rw [ws] at w1
    refine rw_callV (kc := 0) (ks := 0) (rest := []) d_Node_hear_12 (c_hearMap hN hS hpa (by omega) (by omega) (by omega) w1) mW_Node_hearMap mL_Node_96 mI_Node_hearMap mE_Node_hearMap ⟨by decide, by decide⟩ h0 rfl rfl rfl rfl (Nat.le_of_ble_eq_true rfl) (fun r M1 sz1 hq => ?_)
    obtain ⟨rfl, rfl, q1, q2, q3⟩ := hq
    refine rw_stk (st' := []) rfl ?_
    have ep : pHear E n x (0, f, t, e, u, v) = (pHearMap e x, []) := by simp [pHear]
    rw [ep]
    exact rw_vret d_Node_hear_15 rfl ⟨rfl, rfl, q1, by rw [pSend_nil hP.len]; exact q2, q3⟩
  · refine rw_acmpK_t (tgt := 16) o1 (by decide) c0 d_Node_hear_7 (by decide) ?_
    refine rw_aload_n d_Node_hear_16 rfl (by first | exact mm_ref_r _ | exact mm_ref_n | exact mm_ref_o _) ?_
    refine rw_get d_Node_hear_17 fF_Node_100 w1 rfl ?_
    refine rw_aload_n d_Node_hear_20 rfl (by first | exact mm_ref_r _ | exact mm_ref_n | exact mm_ref_o _) ?_
    refine rw_get d_Node_hear_21 fF_Node_12 h0 rfl ?_
    refine rw_get d_Node_hear_24 fF_Node_103 h1.1 rfl ?_
    have quiet : (pHear E n x (k, f, t, e, u, v) = (x, [])) → RW l G Y_Node_hear (rm 5) (mm_Z G (rm 5) (NdQ G M sz ca cm g E pl p a n (pHear E n x (k, f, t, e, u, v)).1 (pSend post (pHear E n x (k, f, t, e, u, v)).2))) 0 0 30 (hrL a (p + 3 + 5 * j)) [] M sz := by
      intro ep
      rw [ep]
      exact rw_vret d_Node_hear_30 rfl ⟨rfl, rfl, hN, by rw [pSend_nil hP.len]; exact hS, fun _ _ _ => rfl⟩
    by_cases c1 : e = x 4
    · refine rw_icmp_eq_t (tgt := 31) d_Node_hear_27 (by decide) (by rw [c1]) ?_
      refine rw_swm fS_Node_104 d_Node_hear_31 ?_
      refine rw_aload_n d_Node_hear_34 rfl (by first | exact mm_ref_r _ | exact mm_ref_n | exact mm_ref_o _) ?_
      refine rw_get d_Node_hear_35 fF_Node_85 w1 rfl ?_
      refine rw_ordinal o1 d_Node_hear_38 mL_Node_110 ⟨by decide, by decide⟩ (Nat.le_of_ble_eq_true rfl) ?_
      refine rw_swld d_Node_hear_41 (vp_in_nI (by omega) (by omega)) (v := .int (([0, 0, 1, 0, 2, 3, 4, 5, 6, 7] : List Int32).getD k 0)) (by rw [nI_c (by omega)]; rfl) ?_
      subst c1
      rcases (show k = 2 ∨ k = 4 ∨ k = 5 ∨ k = 6 ∨ k = 7 ∨ k = 8 ∨ k = 9 by omega) with rfl | rfl | rfl | rfl | rfl | rfl | rfl
      · refine rw_stk (st' := [.int 1]) rfl ?_
        refine rw_tabIn (off := 42) (tgt := 84) d_Node_hear_42 (by decide) (by decide) (by decide) (by decide) ?_
        obtain ⟨y1, y2⟩ := w5 rfl
        subst y2
        refine rw_aload_n d_Node_hear_84 rfl (by first | exact mm_ref_r _ | exact mm_ref_n | exact mm_ref_o _) ?_
        refine rw_aload_n d_Node_hear_85 rfl (by first | exact mm_ref_r _ | exact mm_ref_n | exact mm_ref_o _) ?_
        refine rw_get d_Node_hear_86 fF_Node_113 w1 rfl ?_
        refine rw_callV (kc := 0) (ks := 0) (rest := []) d_Node_hear_89 (c_hearCommand (i := u) hN hS hpa hn y1) mW_Node_hearCommand mL_Node_117 mI_Node_hearCommand mE_Node_hearCommand ⟨by decide, by decide⟩ h0 rfl rfl rfl rfl (Nat.le_of_ble_eq_true rfl) (fun r M1 sz1 hq => ?_)
        obtain ⟨rfl, rfl, q1, q2, q3⟩ := hq
        refine rw_stk (st' := []) rfl ?_
        refine rw_goto (tgt := 241) d_Node_hear_92 (by decide) ?_
        have ep : pHear E n x (2, f, t, x 4, u, v) = pHearC E n x u := by simp [pHear, pHearC]
        rw [ep]
        exact rw_vret d_Node_hear_241 rfl ⟨rfl, rfl, q1, q2, q3⟩
      · refine rw_stk (st' := [.int 2]) rfl ?_
        refine rw_tabIn (off := 53) (tgt := 95) d_Node_hear_42 (by decide) (by decide) (by decide) (by decide) ?_
        refine rw_aload_n d_Node_hear_95 rfl (by first | exact mm_ref_r _ | exact mm_ref_n | exact mm_ref_o _) ?_
        refine rw_iconst (v := 1) d_Node_hear_96 (by decide) ?_
        refine rw_put d_Node_hear_97 (fP_Node_82 _) h0 (Nat.le_of_ble_eq_true rfl) (by first | rfl | assumption | decide) (by first | rfl | assumption | decide) ?_
        refine rw_goto (tgt := 241) d_Node_hear_100 (by decide) ?_
        have ep : pHear E n x (4, f, t, x 4, u, v) = (pu x 3 1, []) := by simp [pHear]
        rw [ep]
        have hF4 : ∀ e1, Fr M (mup M a e1) a 15 := fun e1 => Fr.mup Fr.rf (by omega) (by omega)
        exact rw_vret d_Node_hear_241 rfl ⟨rfl, rfl, hN.flag (f := 3) (v := 1) (by omega) (by omega) rfl, by rw [pSend_nil hP.len]; exact hS.node hN hpa (hF4 _), Fr2.of1 (hF4 _)⟩
      · refine rw_stk (st' := [.int 3]) rfl ?_
        refine rw_tabIn (off := 61) (tgt := 103) d_Node_hear_42 (by decide) (by decide) (by decide) (by decide) ?_
        obtain ⟨y1, y2⟩ := w7 rfl
        subst y1 y2
        have hf := o3 (by omega)
        have egf : gI f = nI f := by rw [gI, if_neg (by omega)]
        rw [egf] at w1
        refine rw_aload_n d_Node_hear_103 rfl (by first | exact mm_ref_r _ | exact mm_ref_n | exact mm_ref_o _) ?_
        refine rw_get d_Node_hear_104 fF_Node_47 h0 rfl ?_
        refine rw_aload_n d_Node_hear_107 rfl (by first | exact mm_ref_r _ | exact mm_ref_n | exact mm_ref_o _) ?_
        refine rw_get d_Node_hear_108 fF_Node_121 w1 rfl ?_
        refine rw_aload_n d_Node_hear_111 rfl (by first | exact mm_ref_r _ | exact mm_ref_n | exact mm_ref_o _) ?_
        refine rw_get d_Node_hear_112 fF_Node_124 w1 rfl ?_
        refine rw_aload_n d_Node_hear_115 rfl (by first | exact mm_ref_r _ | exact mm_ref_n | exact mm_ref_o _) ?_
        refine rw_get d_Node_hear_116 fF_Node_127 w1 rfl ?_
        refine rw_callV (kc := 0) (ks := 0) (rest := []) d_Node_hear_119 (c_note (n := f) (b := u) (d := v) hN7 hf h3) mW_Reports_note mL_Node_130 mI_Reports_note mE_Reports_note ⟨by decide, by decide⟩ h3.choose_spec.choose_spec.choose_spec.1.1 rfl rfl rfl rfl (Nat.le_of_ble_eq_true rfl) (fun r M1 sz1 hq => ?_)
        obtain ⟨rfl, rfl, q1, q2⟩ := hq
        refine rw_stk (st' := []) rfl ?_
        refine rw_goto (tgt := 241) d_Node_hear_122 (by decide) ?_
        have ep : pHear E n x (5, f, t, x 4, u, v) = (pNote x f u v, []) := by
          simp [pHear]
          rfl
        rw [show (pHear E n x (5, f, t, x 4, u, v)).1 = pNote x f u v by rw [ep], show (pHear E n x (5, f, t, x 4, u, v)).2 = [] by rw [ep]]
        have lo : ∀ j, j < 20 → pNote x f u v j = x j := fun j hj => by
          unfold pNote
          rw [if_neg (by omega), if_neg (by omega), if_neg (by omega)]
        have hF4 : Fr M M1 a 15 := q2.wider (by omega) (by omega)
        refine rw_vret d_Node_hear_241 rfl ⟨rfl, rfl, ⟨?_, ?_, ?_, q1, ?_⟩, by rw [pSend_nil hP.len]; exact hS.node hN hpa hF4, Fr2.of1 hF4⟩
        · rw [q2 _ (by omega), h0]
          simp only [ndO]
          rw [lo 0 (by omega), lo 1 (by omega), lo 2 (by omega), lo 3 (by omega)]
        · rw [lo 4 (by omega), lo 5 (by omega), lo 6 (by omega)]
          exact h1.kept (fun y z1 z2 => q2 y (by omega))
        · rw [lo 7 (by omega), lo 8 (by omega), lo 9 (by omega)]
          exact h2.kept (fun y z1 z2 => q2 y (by omega))
        · refine ⟨fun j => ?_, fun j hj => ?_⟩
          · unfold pNote
            (repeat' split) <;> first | omega | exact h4.1 _
          · unfold pNote
            (repeat' split) <;> first | omega | exact h4.2 j hj
      · refine rw_stk (st' := [.int 4]) rfl ?_
        refine rw_tabIn (off := 83) (tgt := 125) d_Node_hear_42 (by decide) (by decide) (by decide) (by decide) ?_
        have ep : pHear E n x (6, f, t, x 4, u, v) = (pu x 3 1, [(8, n, f, x 4, x 6, x 5)]) := by simp [pHear]
        rw [ep]
        exact hear_fetch hN hS hpa hn w1
      · refine rw_stk (st' := [.int 5]) rfl ?_
        refine rw_tabIn (off := 130) (tgt := 172) d_Node_hear_42 (by decide) (by decide) (by decide) (by decide) ?_
        have ep : pHear E n x (7, f, t, x 4, u, v) = (pFollow false v u x, []) := by simp [pHear]
        rw [ep]
        show RW l G Y_Node_hear (rm 5) (mm_Z G (rm 5) (NdQ G M sz ca cm g E pl p a n (pFollow false v u x) (pSend post []))) 0 0 172 _ _ M sz
        rw [pSend_nil hP.len]
        exact hear_follow (k := 7) (w := false) (f := 1) hN hS hpa (by omega) (by omega) (by omega) rfl (by omega) (fun z => by cases z) w1 (w8 rfl)
      · refine rw_stk (st' := [.int 6]) rfl ?_
        refine rw_tabIn (off := 130) (tgt := 172) d_Node_hear_42 (by decide) (by decide) (by decide) (by decide) ?_
        have ep : pHear E n x (8, f, t, x 4, u, v) = (pFollow true v u x, []) := by simp [pHear]
        rw [ep]
        show RW l G Y_Node_hear (rm 5) (mm_Z G (rm 5) (NdQ G M sz ca cm g E pl p a n (pFollow true v u x) (pSend post []))) 0 0 172 _ _ M sz
        rw [pSend_nil hP.len]
        exact hear_follow (k := 8) (w := true) (f := 2) hN hS hpa (by omega) (by omega) (by omega) rfl (by omega) (fun _ => rfl) w1 (w9 rfl)
      · refine rw_stk (st' := [.int 7]) rfl ?_
        refine rw_tabIn (off := 176) (tgt := 218) d_Node_hear_42 (by decide) (by decide) (by decide) (by decide) ?_
        have ep : pHear E n x (9, f, t, x 4, u, v) = ((fun j => if j = 5 ∨ j = 6 then 0 else if j = 1 ∨ j = 3 then 1 else x j), []) := by simp [pHear]
        rw [ep]
        show RW l G Y_Node_hear (rm 5) (mm_Z G (rm 5) (NdQ G M sz ca cm g E pl p a n (fun j => if j = 5 ∨ j = 6 then 0 else if j = 1 ∨ j = 3 then 1 else x j) (pSend post []))) 0 0 218 _ _ M sz
        rw [pSend_nil hP.len]
        exact hear_drop hN hS hpa
    · refine rw_icmp_eq_f (tgt := 31) d_Node_hear_27 (by decide) (fun z => c1 ((nI_eq (by omega) (by omega)).mp z)) ?_
      exact quiet (by simp [pHear, c0, c1])
end HEARM
end
section
/-! Node: prepare, sendCopy, guide. -/
section LEAD1
variable {l : Launch} {G : mm_G} {sz : Nat} {ca : Nat → Nat} {cm : Nat → pCm} {g : Nat} {E : pE} {pl p a n : Nat} {x : pN} {post : List pMsg}
theorem c_prepare {M : mm_M} (hN : NdP M ca cm g E pl p a n x) (hS : SyP G M ca cm g E pl p post) (hpa : p + 328 ≤ a) (hn : n < eN E) (hr : x 10 ≠ 1) : CT l G Y_Node_prepare ds_Node_prepare (rm 2) [.ref a] M sz (NdQ G M sz ca cm g E pl p a n (pPrep E n x).1 (pSend post (pPrep E n x).2)) := by
  obtain ⟨h0, h1, h2, h3, h4⟩ := id hN
  obtain ⟨hP, hA, hpl, hlt, hN7, hCN, -, hg, -, -⟩ := id hS
  obtain ⟨hd, en, dn, hrr, h3b⟩ := id h3
  obtain ⟨hh, hc0⟩ := h1.2.obj
  have hsz := pSize_le x (eN E)
  have egn : nI n = gI n := by rw [gI, if_neg (by omega)]
  have b6 := h4.1 6
  refine CT.of (by decide) (Nat.le_of_ble_eq_true rfl) ?_
  refine rw_aload_n d_Node_prepare_0 rfl (by first | exact mm_ref_r _ | exact mm_ref_n | exact mm_ref_o _) ?_
  refine rw_get d_Node_prepare_1 fF_Node_47 h0 rfl ?_
  refine rw_callV (kc := 0) (ks := 0) (rest := []) d_Node_prepare_4 (c_size hN7 h3 h4) mW_Reports_size mL_Node_215 mI_Reports_size mE_Reports_size ⟨by decide, by decide⟩ hrr.1 rfl rfl rfl rfl (Nat.le_of_ble_eq_true rfl) (fun r M1 sz1 hq => ?_)
  obtain ⟨rfl, rfl, rfl⟩ := hq
  refine rw_stk (st' := [.int (nI (pSize (eN E) x))]) rfl ?_
  refine rw_aload_n d_Node_prepare_7 rfl (by first | exact mm_ref_r _ | exact mm_ref_n | exact mm_ref_o _) ?_
  refine rw_get d_Node_prepare_8 fF_Node_29 h0 rfl ?_
  refine rw_callV (kc := 0) (ks := 0) (rest := [.int (nI (pSize (eN E) x))]) d_Node_prepare_11 (c_quorum hpl hN7 hCN) mW_Plan_quorum mL_Node_218 mI_Plan_quorum mE_Plan_quorum ⟨by decide, by decide⟩ hpl rfl rfl rfl rfl (Nat.le_of_ble_eq_true rfl) (fun r M1 sz1 hq => ?_)
  obtain ⟨rfl, rfl, rfl⟩ := hq
  refine rw_stk (st' := [.int (nI (eN E - eC E + 1)), .int (nI (pSize (eN E) x))]) rfl ?_
  by_cases c1 : pSize (eN E) x < eQ E
  · refine rw_icmp_ge_f (tgt := 18) d_Node_prepare_14 (by decide) (nI_ge c1 (by omega)) ?_
    have ep : pPrep E n x = (x, []) := by rw [pPrep, if_neg hr, if_pos c1]
    rw [ep]
    exact rw_vret d_Node_prepare_17 rfl ⟨rfl, rfl, hN, by rw [pSend_nil hP.len]; exact hS, fun _ _ _ => rfl⟩
  · refine rw_icmp_ge_t (tgt := 18) d_Node_prepare_14 (by decide) (nI_le (Nat.not_lt.mp c1) (by omega)) ?_
    refine rw_aload_n d_Node_prepare_18 rfl (by first | exact mm_ref_r _ | exact mm_ref_n | exact mm_ref_o _) ?_
    refine rw_get d_Node_prepare_19 fF_Node_47 h0 rfl ?_
    refine rw_aload_n d_Node_prepare_22 rfl (by first | exact mm_ref_r _ | exact mm_ref_n | exact mm_ref_o _) ?_
    refine rw_get d_Node_prepare_23 fF_Node_25 h0 rfl ?_
    refine rw_callV (kc := 0) (ks := 0) (rest := []) d_Node_prepare_26 (c_furthest hN7 hn h3 h4) mW_Reports_furthest mL_Node_221 mI_Reports_furthest mE_Reports_furthest ⟨by decide, by decide⟩ hrr.1 rfl rfl rfl rfl (Nat.le_of_ble_eq_true rfl) (fun r M1 sz1 hq => ?_)
    obtain ⟨rfl, rfl, rfl⟩ := hq
    refine rw_stk (st' := [.int (nI (pFar (eN E) x n))]) rfl ?_
    have hfar : pFar (eN E) x n < eN E := by rcases pFar_lt x (self := n) (eN E) with z | z <;> omega
    refine rw_istore_n d_Node_prepare_29 (by decide) rfl ?_
    refine rw_iload_n d_Node_prepare_30 rfl ?_
    refine rw_aload_n d_Node_prepare_31 rfl (by first | exact mm_ref_r _ | exact mm_ref_n | exact mm_ref_o _) ?_
    refine rw_get d_Node_prepare_32 fF_Node_25 h0 rfl ?_
    by_cases c2 : pFar (eN E) x n = n
    · refine rw_icmp_ne_f (tgt := 66) d_Node_prepare_35 (by decide) (by rw [c2]) ?_
      refine rw_aload_n d_Node_prepare_38 rfl (by first | exact mm_ref_r _ | exact mm_ref_n | exact mm_ref_o _) ?_
      refine rw_get d_Node_prepare_39 fF_Node_47 h0 rfl ?_
      refine rw_iconst (v := 1) d_Node_prepare_42 (by decide) ?_
      refine rw_put d_Node_prepare_43 (fP_Node_166 _) hrr.1 (Nat.le_of_ble_eq_true rfl) (by first | rfl | assumption | decide) (by first | rfl | assumption | decide) ?_
      refine rw_aload_n d_Node_prepare_46 rfl (by first | exact mm_ref_r _ | exact mm_ref_n | exact mm_ref_o _) ?_
      refine rw_get d_Node_prepare_47 fF_Node_47 (mup_get (by omega) h0) rfl ?_
      refine rw_aload_n d_Node_prepare_50 rfl (by first | exact mm_ref_r _ | exact mm_ref_n | exact mm_ref_o _) ?_
      refine rw_get d_Node_prepare_51 fF_Node_12 (mup_get (by omega) h0) rfl ?_
      refine rw_get d_Node_prepare_54 fF_Node_146 (mup_get (by omega) h1.1) rfl ?_
      refine rw_get d_Node_prepare_57 fF_Node_204 (mup_get (by omega) hc0) rfl ?_
      refine rw_put d_Node_prepare_60 (fP_Node_224 _) (mup_self _ _ _) (Nat.le_of_ble_eq_true rfl) (by first | rfl | assumption | decide) (by first | rfl | assumption | decide) ?_
      refine rw_goto (tgt := 89) d_Node_prepare_63 (by decide) ?_
      have ep : pPrep E n x = ((fun j => if j = 10 then 1 else if j = 11 then x 6 else x j), []) := by rw [pPrep, if_neg hr, if_neg c1, if_pos c2]
      rw [ep]
      have hF : ∀ e1 e2, Fr M1 (mup (mup M1 (a + 11) e1) (a + 11) e2) a 15 := fun e1 e2 => Fr.mup (Fr.mup Fr.rf (by omega) (by omega)) (by omega) (by omega)
      obtain ⟨r0, r1, r2, r3⟩ := hrr
      refine rw_vret d_Node_prepare_89 rfl ⟨rfl, rfl, ⟨?_, ?_, ?_, ⟨hd, en, dn, ⟨?_, ?_, ?_, ?_⟩, fun m hm => ?_⟩, ?_⟩, by rw [pSend_nil hP.len]; exact hS.node hN hpa (hF _ _), Fr2.of1 (hF _ _)⟩
      · rw [mup_ne _ _ (by omega), mup_ne _ _ (by omega)]
        exact h0
      · exact h1.kept (fun y z1 z2 => by rw [mup_ne _ _ (by omega), mup_ne _ _ (by omega)])
      · exact h2.kept (fun y z1 z2 => by rw [mup_ne _ _ (by omega), mup_ne _ _ (by omega)])
      · rw [mup_self]
        rfl
      · rw [mup_ne _ _ (by omega), mup_ne _ _ (by omega)]
        exact r1
      · rw [mup_ne _ _ (by omega), mup_ne _ _ (by omega)]
        exact r2
      · rw [mup_ne _ _ (by omega), mup_ne _ _ (by omega)]
        exact r3
      · simp only
        rw [if_neg (show ¬ 20 + m = 10 by omega), if_neg (show ¬ 20 + m = 11 by omega), if_neg (show ¬ 30 + m = 10 by omega), if_neg (show ¬ 30 + m = 11 by omega), if_neg (show ¬ 40 + m = 10 by omega), if_neg (show ¬ 40 + m = 11 by omega)]
        exact h3b m hm
      · refine ⟨fun j => ?_, fun j hj => ?_⟩
        · simp only
          (repeat' split) <;> first | omega | exact h4.1 _
        · simp only
          (repeat' split) <;> first | omega | exact h4.2 j hj
    · refine rw_icmp_ne_t (tgt := 66) d_Node_prepare_35 (by decide) (fun z => c2 ((nI_eq (by omega) (by omega)).mp z)) ?_
      refine rw_aload_n d_Node_prepare_66 rfl (by first | exact mm_ref_r _ | exact mm_ref_n | exact mm_ref_o _) ?_
      refine rw_get d_Node_prepare_67 fF_Node_33 h0 rfl ?_
      refine rw_kind (i := 6) (by decide) fS_Node_227 d_Node_prepare_70 ?_
      refine rw_aload_n d_Node_prepare_73 rfl (by first | exact mm_ref_r _ | exact mm_ref_n | exact mm_ref_o _) ?_
      refine rw_get d_Node_prepare_74 fF_Node_25 h0 rfl ?_
      refine rw_iload_n d_Node_prepare_77 rfl ?_
      refine rw_aload_n d_Node_prepare_78 rfl (by first | exact mm_ref_r _ | exact mm_ref_n | exact mm_ref_o _) ?_
      refine rw_get d_Node_prepare_79 fF_Node_12 h0 rfl ?_
      refine rw_get d_Node_prepare_82 fF_Node_103 h1.1 rfl ?_
      have egf : nI (pFar (eN E) x n) = gI (pFar (eN E) x n) := by rw [gI, if_neg (by omega)]
      refine rw_stk (st' := [.int (nI (x 4)), .int (gI (pFar (eN E) x n)), .int (gI n), .ref (gad G 6), .ref p]) (by rw [← egn, ← egf]) ?_
      refine rw_callV (kc := 0) (ks := 0) (rest := []) d_Node_prepare_85 (c_send (k := 6) (f := n) (t := pFar (eN E) x n) (e := x 4) hP) mW_Post_send mL_Node_136 mI_Post_send mE_Post_send ⟨by decide, by decide⟩ hP.choose_spec.choose_spec.choose_spec.1 rfl rfl rfl rfl (Nat.le_of_ble_eq_true rfl) (fun r M2 sz2 hq => ?_)
      have hpl2 := hq.plain (by omega)
      obtain ⟨rfl, q1, j, hj, rfl, -⟩ := hq
      refine rw_stk (st' := [.ref (p + 3 + 5 * j)]) rfl ?_
      refine rw_pop d_Node_prepare_88 rfl ?_
      have ep : pPrep E n x = (x, [(6, n, pFar (eN E) x n, x 4, 0, 0)]) := by rw [pPrep, if_neg hr, if_neg c1, if_neg c2]
      rw [ep]
      exact rw_vret d_Node_prepare_89 rfl ⟨rfl, rfl, hN.kept (fun y z1 z2 => q1 y (by omega)), hS.sent hpl2 q1, Fr2.of0 q1⟩
theorem c_sendCopy {M : mm_M} {m : Nat} (hN : NdP M ca cm g E pl p a n x) (hS : SyP G M ca cm g E pl p post) (hpa : p + 328 ≤ a) (hn : n < eN E) (hm : m < eN E) (h30 : x (30 + m) < 1000000) : CT l G Y_Node_sendCopy ds_Node_sendCopy (rm 2) [.ref a, .int (nI m)] M sz (NdQ G M sz ca cm g E pl p a n x (pSend post [(if x (30 + m) + 8 < x 6 then 8 else 7, n, m, x 4, x 6, x 5)])) := by
  obtain ⟨h0, h1, h2, h3, h4⟩ := id hN
  obtain ⟨hP, hA, hpl, hlt, hN7, hCN, -, hg, -, -⟩ := id hS
  obtain ⟨hd, en, dn, ⟨r0, r1, r2, r3⟩, h3b⟩ := id h3
  obtain ⟨hh, hc0⟩ := h1.2.obj
  have egn : nI n = gI n := by rw [gI, if_neg (by omega)]
  have egm : nI m = gI m := by rw [gI, if_neg (by omega)]
  have b6 := h4.1 6
  have b30 := h4.1 (30 + m)
  obtain ⟨-, -, -, -, -, x5b, x6b, -⟩ := id h1.2
  refine CT.of (by decide) (Nat.le_of_ble_eq_true rfl) ?_
  refine rw_aload_n d_Node_sendCopy_0 rfl (by first | exact mm_ref_r _ | exact mm_ref_n | exact mm_ref_o _) ?_
  refine rw_get d_Node_sendCopy_1 fF_Node_12 h0 rfl ?_
  refine rw_get d_Node_sendCopy_4 fF_Node_146 h1.1 rfl ?_
  refine rw_aload_n d_Node_sendCopy_7 rfl (by first | exact mm_ref_r _ | exact mm_ref_n | exact mm_ref_o _) ?_
  refine rw_get d_Node_sendCopy_8 fF_Node_47 h0 rfl ?_
  refine rw_get d_Node_sendCopy_11 fF_Node_248 r0 rfl ?_
  refine rw_iload_n d_Node_sendCopy_14 rfl ?_
  refine rw_iald d_Node_sendCopy_15 r2 (vp_in_nI hm (by omega)) ?_
  rw [nI_c (by omega), (h3b m hm).2.1]
  refine rw_callV (kc := 0) (ks := 0) (rest := []) d_Node_sendCopy_16 (c_reaches (o := x (30 + m)) hc0 (by omega) (by omega)) mW_Copy_reachesBackTo mL_Node_260 mI_Copy_reachesBackTo mE_Copy_reachesBackTo ⟨by decide, by decide⟩ hc0 rfl rfl rfl rfl (Nat.le_of_ble_eq_true rfl) (fun r M1 sz1 hq => ?_)
  obtain ⟨rfl, rfl, rfl⟩ := hq
  refine rw_stk (st' := [.int (bI (decide (x 6 ≤ x (30 + m) + 8)))]) rfl ?_
  have tail : ∀ (w : Bool) (k : Nat), k < 10 → w = decide (k = 8) → (k = 7 ∨ k = 8) → k = (if x (30 + m) + 8 < x 6 then 8 else 7) → RW l G Y_Node_sendCopy (rm 2) (mm_Z G (rm 2) (NdQ G M1 sz1 ca cm g E pl p a n x (pSend post [(if x (30 + m) + 8 < x 6 then 8 else 7, n, m, x 4, x 6, x 5)]))) 0 0 41 [(0, .ref a), (1, .int (nI m)), (2, .int (bI w))] [.ref (gad G k)] M1 sz1 := by
    intro w k hk hw hk78 hkk
    refine rw_astore_n d_Node_sendCopy_41 (by decide) (by first | exact mm_ref_r _ | exact mm_ref_n | exact mm_ref_o _) rfl ?_
    refine rw_aload_n d_Node_sendCopy_42 rfl (by first | exact mm_ref_r _ | exact mm_ref_n | exact mm_ref_o _) ?_
    refine rw_get d_Node_sendCopy_43 fF_Node_33 h0 rfl ?_
    refine rw_aload_n d_Node_sendCopy_46 rfl (by first | exact mm_ref_r _ | exact mm_ref_n | exact mm_ref_o _) ?_
    refine rw_aload_n d_Node_sendCopy_47 rfl (by first | exact mm_ref_r _ | exact mm_ref_n | exact mm_ref_o _) ?_
    refine rw_get d_Node_sendCopy_48 fF_Node_25 h0 rfl ?_
    refine rw_iload_n d_Node_sendCopy_51 rfl ?_
    refine rw_aload_n d_Node_sendCopy_52 rfl (by first | exact mm_ref_r _ | exact mm_ref_n | exact mm_ref_o _) ?_
    refine rw_get d_Node_sendCopy_53 fF_Node_12 h0 rfl ?_
    refine rw_get d_Node_sendCopy_56 fF_Node_103 h1.1 rfl ?_
    refine rw_stk (st' := [.int (nI (x 4)), .int (gI m), .int (gI n), .ref (gad G k), .ref p]) (by rw [← egn, ← egm]) ?_
    refine rw_callV (kc := 0) (ks := 0) (rest := []) d_Node_sendCopy_59 (c_send (k := k) (f := n) (t := m) (e := x 4) hP) mW_Post_send mL_Node_136 mI_Post_send mE_Post_send ⟨by decide, by decide⟩ hP.choose_spec.choose_spec.choose_spec.1 rfl rfl rfl rfl (Nat.le_of_ble_eq_true rfl) (fun r M2 sz2 hq => ?_)
    obtain ⟨rfl, q1, j, hj, rfl, ⟨s', en', dn', nu', a2, cv', d, b, w1, w2, w3⟩, q2⟩ := hq
    have hN2 := hN.kept (M' := M2) (fun y y1 y2 => q1 y (by omega))
    have hA2 := hA.post hP q1
    refine rw_stk (st' := [.ref (p + 3 + 5 * j)]) rfl ?_
    refine rw_get d_Node_sendCopy_62 fF_Node_142 w1 rfl ?_
    refine rw_aload_n d_Node_sendCopy_65 rfl (by first | exact mm_ref_r _ | exact mm_ref_n | exact mm_ref_o _) ?_
    refine rw_get d_Node_sendCopy_66 fF_Node_12 hN2.1 rfl ?_
    refine rw_get d_Node_sendCopy_69 fF_Node_146 hN2.2.1.1 rfl ?_
    refine rw_iload_n d_Node_sendCopy_72 rfl ?_
    obtain ⟨hh2, hw2⟩ := w3.obj
    refine rw_callV (kc := 0) (ks := 0) (rest := []) d_Node_sendCopy_73 (c_copyFrom (w := w) (f := 2) hA2 w3 hN2.2.1.2 (by omega)) mW_Copy_copyFrom mL_Node_147 mI_Copy_copyFrom mE_Copy_copyFrom ⟨by decide, by decide⟩ hw2 rfl rfl rfl rfl (Nat.le_of_ble_eq_true rfl) (fun r M3 sz3 hq => ?_)
    obtain ⟨rfl, rfl, q3, q4⟩ := hq
    refine rw_stk (st' := []) rfl ?_
    have hF3 : Fr M1 M3 p 328 := q1.trans (q4.wider (by omega) (by omega))
    have hP3 := q2 M3 (k, n, m, x 4, x 6, x 5) (q4.wider (by omega) (by omega)) ⟨s', en', dn', nu', a2, cv', x 5, x 6, (q4 _ (by omega)).trans w1, w2, q3.le (by omega), (fun z => by simp only at z; omega), (fun z => by simp only at z; omega), (fun z => by simp only at z; omega), (fun z => by simp only at z; omega), (fun z => q3.le (by split <;> omega)), (fun z => by simp only at z; subst z; rw [hw] at q3; exact q3)⟩
    rw [hkk] at hP3
    exact rw_vret d_Node_sendCopy_76 rfl ⟨rfl, rfl, hN.kept (fun y y1 y2 => hF3 y (by omega)), hS.sent hP3 hF3, Fr2.of0 hF3⟩
  by_cases c : x 6 ≤ x (30 + m) + 8
  · rw [decide_eq_true c]
    refine rw_if_ne_t (tgt := 26) d_Node_sendCopy_19 (by decide) (by decide) ?_
    refine rw_iconst (v := 0) d_Node_sendCopy_26 (by decide) ?_
    refine rw_istore_n d_Node_sendCopy_27 (by decide) rfl ?_
    refine rw_iload_n d_Node_sendCopy_28 rfl ?_
    refine rw_if_eq_t (tgt := 38) d_Node_sendCopy_29 (by decide) (rfl) ?_
    refine rw_kind (i := 7) (by decide) fS_Node_263 d_Node_sendCopy_38 ?_
    refine rw_lv (lv' := [(0, .ref a), (1, .int (nI m)), (2, .int (bI false))]) (by intro q hq; simp at hq; rcases hq with rfl | rfl | rfl <;> rfl) ?_
    exact tail false 7 (by omega) rfl (by omega) (by rw [if_neg (by omega)])
  · rw [decide_eq_false c]
    refine rw_if_ne_f (tgt := 26) d_Node_sendCopy_19 (by decide) (by decide) ?_
    refine rw_iconst (v := 1) d_Node_sendCopy_22 (by decide) ?_
    refine rw_goto (tgt := 27) d_Node_sendCopy_23 (by decide) ?_
    refine rw_istore_n d_Node_sendCopy_27 (by decide) rfl ?_
    refine rw_iload_n d_Node_sendCopy_28 rfl ?_
    refine rw_if_eq_f (tgt := 38) d_Node_sendCopy_29 (by decide) (by decide) ?_
    refine rw_kind (i := 8) (by decide) fS_Node_133 d_Node_sendCopy_32 ?_
    refine rw_goto (tgt := 41) d_Node_sendCopy_35 (by decide) ?_
    refine rw_lv (lv' := [(0, .ref a), (1, .int (nI m)), (2, .int (bI true))]) (by intro q hq; simp at hq; rcases hq with rfl | rfl | rfl <;> rfl) ?_
    exact tail true 8 (by omega) rfl (by omega) (by rw [if_pos (by omega)])
end LEAD1
end
section
/-! Node.guide. -/
section LEAD2
variable {l : Launch} {G : mm_G} {sz : Nat} {ca : Nat → Nat} {cm : Nat → pCm} {g : Nat} {E : pE} {pl p a n : Nat} {x : pN} {post : List pMsg}
set_option maxRecDepth 100000 in
theorem c_guide {M : mm_M} {m : Nat} (hN : NdP M ca cm g E pl p a n x) (hS : SyP G M ca cm g E pl p post) (hpa : p + 328 ≤ a) (hn : n < eN E) (hm : m < eN E) (h30 : x (30 + m) < 1000000) : CT l G Y_Node_guide ds_Node_guide (rm 3) [.ref a, .int (nI m)] M sz (NdQ G M sz ca cm g E pl p a n x (pSend post (pGuide E n x m))) := by
  obtain ⟨h0, h1, h2, h3, h4⟩ := id hN
  obtain ⟨hP, hA, hpl, hlt, hN7, hCN, -, hg, hM64, -⟩ := id hS
  obtain ⟨hd, en, dn, hrr, h3b⟩ := id h3
  obtain ⟨r0, r1, r2, r3⟩ := id hrr
  obtain ⟨hh, hc0⟩ := h1.2.obj
  have egn : nI n = gI n := by rw [gI, if_neg (by omega)]
  have egm : nI m = gI m := by rw [gI, if_neg (by omega)]
  have b20 := h4.2 (20 + m) (by omega)
  have b10 := h4.2 10 (by omega)
  have b40 := h4.1 (40 + m)
  have b11 := h4.1 11
  obtain ⟨-, -, -, -, -, x5b, x6b, -⟩ := id h1.2
  have him := vp_in_nI hm (show eN E < 2147483648 by omega)
  refine CT.of (by decide) (Nat.le_of_ble_eq_true rfl) ?_
  refine rw_aload_n d_Node_guide_0 rfl (by first | exact mm_ref_r _ | exact mm_ref_n | exact mm_ref_o _) ?_
  refine rw_get d_Node_guide_1 fF_Node_47 h0 rfl ?_
  refine rw_get d_Node_guide_4 fF_Node_238 r0 rfl ?_
  refine rw_iload_n d_Node_guide_7 rfl ?_
  refine rw_zald d_Node_guide_8 r1 him ?_
  rw [nI_c (by omega), (h3b m hm).1]
  rcases (show x (20 + m) = 0 ∨ x (20 + m) = 1 by omega) with c0 | c0
  · rw [c0]
    refine rw_if_ne_f (tgt := 38) d_Node_guide_9 (by decide) (by decide) ?_
    refine rw_aload_n d_Node_guide_12 rfl (by first | exact mm_ref_r _ | exact mm_ref_n | exact mm_ref_o _) ?_
    refine rw_get d_Node_guide_13 fF_Node_33 h0 rfl ?_
    refine rw_kind (i := 4) (by decide) fS_Node_242 d_Node_guide_16 ?_
    refine rw_aload_n d_Node_guide_19 rfl (by first | exact mm_ref_r _ | exact mm_ref_n | exact mm_ref_o _) ?_
    refine rw_get d_Node_guide_20 fF_Node_25 h0 rfl ?_
    refine rw_iload_n d_Node_guide_23 rfl ?_
    refine rw_aload_n d_Node_guide_24 rfl (by first | exact mm_ref_r _ | exact mm_ref_n | exact mm_ref_o _) ?_
    refine rw_get d_Node_guide_25 fF_Node_12 h0 rfl ?_
    refine rw_get d_Node_guide_28 fF_Node_103 h1.1 rfl ?_
    refine rw_stk (st' := [.int (nI (x 4)), .int (gI m), .int (gI n), .ref (gad G 4), .ref p]) (by rw [← egn, ← egm]) ?_
    refine rw_callV (kc := 0) (ks := 0) (rest := []) d_Node_guide_31 (c_send (k := 4) (f := n) (t := m) (e := x 4) hP) mW_Post_send mL_Node_136 mI_Post_send mE_Post_send ⟨by decide, by decide⟩ hP.choose_spec.choose_spec.choose_spec.1 rfl rfl rfl rfl (Nat.le_of_ble_eq_true rfl) (fun r M2 sz2 hq => ?_)
    have hpl2 := hq.plain (by omega)
    obtain ⟨rfl, q1, j, hj, rfl, -⟩ := hq
    refine rw_stk (st' := [.ref (p + 3 + 5 * j)]) rfl ?_
    refine rw_pop d_Node_guide_34 rfl ?_
    refine rw_goto (tgt := 180) d_Node_guide_35 (by decide) ?_
    have ep : pGuide E n x m = [(4, n, m, x 4, 0, 0)] := by rw [pGuide, if_pos (by omega)]
    rw [ep]
    exact rw_vret d_Node_guide_180 rfl ⟨rfl, rfl, hN.kept (fun y z1 z2 => q1 y (by omega)), hS.sent hpl2 q1, Fr2.of0 q1⟩
  · rw [c0]
    refine rw_if_ne_t (tgt := 38) d_Node_guide_9 (by decide) (by decide) ?_
    have none_ : pGuide E n x m = [] → RW l G Y_Node_guide (rm 3) (mm_Z G (rm 3) (NdQ G M sz ca cm g E pl p a n x (pSend post (pGuide E n x m)))) 0 0 180 [(0, .ref a), (1, .int (nI m))] [] M sz := by
      intro ep
      rw [ep, pSend_nil hP.len]
      exact rw_vret d_Node_guide_180 rfl ⟨rfl, rfl, hN, hS, fun _ _ _ => rfl⟩
    refine rw_aload_n d_Node_guide_38 rfl (by first | exact mm_ref_r _ | exact mm_ref_n | exact mm_ref_o _) ?_
    refine rw_get d_Node_guide_39 fF_Node_47 h0 rfl ?_
    refine rw_get d_Node_guide_42 fF_Node_166 r0 rfl ?_
    rcases (show x 10 = 0 ∨ x 10 = 1 by omega) with c1 | c1
    · rw [c1]
      refine rw_if_eq_t (tgt := 111) d_Node_guide_45 (by decide) (rfl) ?_
      refine rw_aload_n d_Node_guide_111 rfl (by first | exact mm_ref_r _ | exact mm_ref_n | exact mm_ref_o _) ?_
      refine rw_get d_Node_guide_112 fF_Node_47 h0 rfl ?_
      refine rw_get d_Node_guide_115 fF_Node_166 r0 rfl ?_
      rw [c1]
      refine rw_if_eq_t (tgt := 180) d_Node_guide_118 (by decide) (rfl) ?_
      exact none_ (by rw [pGuide, if_neg (by omega), if_neg (fun z => by omega), if_neg (fun z => by omega)])
    · rw [c1]
      refine rw_if_eq_f (tgt := 111) d_Node_guide_45 (by decide) (by decide) ?_
      refine rw_aload_n d_Node_guide_48 rfl (by first | exact mm_ref_r _ | exact mm_ref_n | exact mm_ref_o _) ?_
      refine rw_get d_Node_guide_49 fF_Node_12 h0 rfl ?_
      refine rw_iload_n d_Node_guide_52 rfl ?_
      refine rw_callV (kc := 0) (ks := 0) (rest := []) d_Node_guide_53 (c_keeps h1.1 (hM64 _) (show m < 7 by omega)) mW_Memory_keeps mL_Node_245 mI_Memory_keeps mE_Memory_keeps ⟨by decide, by decide⟩ h1.1 rfl rfl rfl rfl (Nat.le_of_ble_eq_true rfl) (fun r M1 sz1 hq => ?_)
      obtain ⟨rfl, rfl, rfl⟩ := hq
      refine rw_stk (st' := [.int (bI ((eM E (x 4)).testBit m))]) rfl ?_
      cases c2 : (eM E (x 4)).testBit m with
      | true =>
        refine rw_if_eq_f (tgt := 111) d_Node_guide_56 (by decide) (by decide) ?_
        refine rw_aload_n d_Node_guide_59 rfl (by first | exact mm_ref_r _ | exact mm_ref_n | exact mm_ref_o _) ?_
        refine rw_get d_Node_guide_60 fF_Node_47 h0 rfl ?_
        refine rw_get d_Node_guide_63 fF_Node_248 r0 rfl ?_
        refine rw_iload_n d_Node_guide_66 rfl ?_
        refine rw_iald d_Node_guide_67 r2 him ?_
        refine rw_aload_n d_Node_guide_68 rfl (by first | exact mm_ref_r _ | exact mm_ref_n | exact mm_ref_o _) ?_
        refine rw_get d_Node_guide_69 fF_Node_12 h0 rfl ?_
        refine rw_get d_Node_guide_72 fF_Node_146 h1.1 rfl ?_
        refine rw_get d_Node_guide_75 fF_Node_204 hc0 rfl ?_
        rw [nI_c (by omega), (h3b m hm).2.1]
        have doit : (x (30 + m) < x 6 ∨ x (40 + m) < x 5) → RW l G Y_Node_guide (rm 3) (mm_Z G (rm 3) (NdQ G M1 sz1 ca cm g E pl p a n x (pSend post (pGuide E n x m)))) 0 0 103 [(0, .ref a), (1, .int (nI m))] [] M1 sz1 := by
          intro cc
          refine rw_aload_n d_Node_guide_103 rfl (by first | exact mm_ref_r _ | exact mm_ref_n | exact mm_ref_o _) ?_
          refine rw_iload_n d_Node_guide_104 rfl ?_
          refine rw_callV (kc := 0) (ks := 0) (rest := []) d_Node_guide_105 (c_sendCopy hN hS hpa hn hm h30) mW_Node_sendCopy mL_Node_254 mI_Node_sendCopy mE_Node_sendCopy ⟨by decide, by decide⟩ h0 rfl rfl rfl rfl (Nat.le_of_ble_eq_true rfl) (fun r M2 sz2 hq => ?_)
          obtain ⟨rfl, rfl, q1, q2, q3⟩ := hq
          refine rw_stk (st' := []) rfl ?_
          refine rw_goto (tgt := 180) d_Node_guide_108 (by decide) ?_
          have ep : pGuide E n x m = [(if x (30 + m) + 8 < x 6 then 8 else 7, n, m, x 4, x 6, x 5)] := by rw [pGuide, if_neg (by omega), if_pos ⟨c1, c2⟩, if_pos cc]
          rw [ep]
          exact rw_vret d_Node_guide_180 rfl ⟨rfl, rfl, q1, q2, q3⟩
        by_cases c3 : x (30 + m) < x 6
        · refine rw_icmp_lt_t (tgt := 103) d_Node_guide_78 (by decide) (nI_lt c3 (by omega)) ?_
          exact doit (Or.inl c3)
        · refine rw_icmp_lt_f (tgt := 103) d_Node_guide_78 (by decide) (nI_nlt (by omega) (by omega)) ?_
          refine rw_aload_n d_Node_guide_81 rfl (by first | exact mm_ref_r _ | exact mm_ref_n | exact mm_ref_o _) ?_
          refine rw_get d_Node_guide_82 fF_Node_47 h0 rfl ?_
          refine rw_get d_Node_guide_85 fF_Node_251 r0 rfl ?_
          refine rw_iload_n d_Node_guide_88 rfl ?_
          refine rw_iald d_Node_guide_89 r3 him ?_
          refine rw_aload_n d_Node_guide_90 rfl (by first | exact mm_ref_r _ | exact mm_ref_n | exact mm_ref_o _) ?_
          refine rw_get d_Node_guide_91 fF_Node_12 h0 rfl ?_
          refine rw_get d_Node_guide_94 fF_Node_146 h1.1 rfl ?_
          refine rw_get d_Node_guide_97 fF_Node_205 hc0 rfl ?_
          rw [nI_c (by omega), (h3b m hm).2.2]
          by_cases c4 : x (40 + m) < x 5
          · refine rw_icmp_ge_f (tgt := 180) d_Node_guide_100 (by decide) (nI_ge c4 (by omega)) ?_
            exact doit (Or.inr c4)
          · refine rw_icmp_ge_t (tgt := 180) d_Node_guide_100 (by decide) (nI_le (by omega) (by omega)) ?_
            exact none_ (by rw [pGuide, if_neg (by omega), if_pos ⟨c1, c2⟩, if_neg (by omega)])
      | false =>
        refine rw_if_eq_t (tgt := 111) d_Node_guide_56 (by decide) (rfl) ?_
        refine rw_aload_n d_Node_guide_111 rfl (by first | exact mm_ref_r _ | exact mm_ref_n | exact mm_ref_o _) ?_
        refine rw_get d_Node_guide_112 fF_Node_47 h0 rfl ?_
        refine rw_get d_Node_guide_115 fF_Node_166 r0 rfl ?_
        rw [c1]
        refine rw_if_eq_f (tgt := 180) d_Node_guide_118 (by decide) (by decide) ?_
        refine rw_aload_n d_Node_guide_121 rfl (by first | exact mm_ref_r _ | exact mm_ref_n | exact mm_ref_o _) ?_
        refine rw_get d_Node_guide_122 fF_Node_47 h0 rfl ?_
        refine rw_get d_Node_guide_125 fF_Node_248 r0 rfl ?_
        refine rw_iload_n d_Node_guide_128 rfl ?_
        refine rw_iald d_Node_guide_129 r2 him ?_
        rw [nI_c (by omega), (h3b m hm).2.1]
        have hnk : ¬ (x 10 = 1 ∧ eKb E (x 4) m = true) := fun z => by have w := z.2.symm.trans c2; cases w
        by_cases c3 : x (30 + m) = 0
        · refine rw_if_le_t (tgt := 180) d_Node_guide_130 (by decide) (by rw [c3]; decide) ?_
          exact none_ (by rw [pGuide, if_neg (by omega), if_neg hnk, if_neg (fun z => by omega)])
        · refine rw_if_le_f (tgt := 180) d_Node_guide_130 (by decide) (nI_nle (by omega) (by omega)) ?_
          refine rw_aload_n d_Node_guide_133 rfl (by first | exact mm_ref_r _ | exact mm_ref_n | exact mm_ref_o _) ?_
          refine rw_get d_Node_guide_134 fF_Node_47 h0 rfl ?_
          refine rw_aload_n d_Node_guide_137 rfl (by first | exact mm_ref_r _ | exact mm_ref_n | exact mm_ref_o _) ?_
          refine rw_get d_Node_guide_138 fF_Node_12 h0 rfl ?_
          refine rw_get d_Node_guide_141 fF_Node_230 h1.1 rfl ?_
          refine rw_callV (kc := 0) (ks := 0) (rest := []) d_Node_guide_144 (c_agreed hN7 (hM64 (x 4)) h3 h4) mW_Reports_agreed mL_Node_232 mI_Reports_agreed mE_Reports_agreed ⟨by decide, by decide⟩ r0 rfl rfl rfl rfl (Nat.le_of_ble_eq_true rfl) (fun r M2 sz2 hq => ?_)
          obtain ⟨rfl, rfl, rfl⟩ := hq
          have hag := pAgr_le (eM E (x 4)) x (eN E)
          refine rw_stk (st' := [.int (nI (pAgr (eM E (x 4)) (eN E) x))]) rfl ?_
          refine rw_aload_n d_Node_guide_147 rfl (by first | exact mm_ref_r _ | exact mm_ref_n | exact mm_ref_o _) ?_
          refine rw_get d_Node_guide_148 fF_Node_47 h0 rfl ?_
          refine rw_get d_Node_guide_151 fF_Node_224 r0 rfl ?_
          by_cases c4 : x 11 ≤ pAgr (eM E (x 4)) (eN E) x
          · refine rw_icmp_lt_f (tgt := 180) d_Node_guide_154 (by decide) (nI_nlt c4 (by omega)) ?_
            refine rw_aload_n d_Node_guide_157 rfl (by first | exact mm_ref_r _ | exact mm_ref_n | exact mm_ref_o _) ?_
            refine rw_get d_Node_guide_158 fF_Node_33 h0 rfl ?_
            refine rw_kind (i := 9) (by decide) fS_Node_257 d_Node_guide_161 ?_
            refine rw_aload_n d_Node_guide_164 rfl (by first | exact mm_ref_r _ | exact mm_ref_n | exact mm_ref_o _) ?_
            refine rw_get d_Node_guide_165 fF_Node_25 h0 rfl ?_
            refine rw_iload_n d_Node_guide_168 rfl ?_
            refine rw_aload_n d_Node_guide_169 rfl (by first | exact mm_ref_r _ | exact mm_ref_n | exact mm_ref_o _) ?_
            refine rw_get d_Node_guide_170 fF_Node_12 h0 rfl ?_
            refine rw_get d_Node_guide_173 fF_Node_103 h1.1 rfl ?_
            refine rw_stk (st' := [.int (nI (x 4)), .int (gI m), .int (gI n), .ref (gad G 9), .ref p]) (by rw [← egn, ← egm]) ?_
            refine rw_callV (kc := 0) (ks := 0) (rest := []) d_Node_guide_176 (c_send (k := 9) (f := n) (t := m) (e := x 4) hP) mW_Post_send mL_Node_136 mI_Post_send mE_Post_send ⟨by decide, by decide⟩ hP.choose_spec.choose_spec.choose_spec.1 rfl rfl rfl rfl (Nat.le_of_ble_eq_true rfl) (fun r M3 sz3 hq => ?_)
            have hpl2 := hq.plain (by omega)
            obtain ⟨rfl, q1, j, hj, rfl, -⟩ := hq
            refine rw_stk (st' := [.ref (p + 3 + 5 * j)]) rfl ?_
            refine rw_pop d_Node_guide_179 rfl ?_
            have ep : pGuide E n x m = [(9, n, m, x 4, 0, 0)] := by rw [pGuide, if_neg (by omega), if_neg hnk, if_pos ⟨c1, by omega, c4⟩]
            rw [ep]
            exact rw_vret d_Node_guide_180 rfl ⟨rfl, rfl, hN.kept (fun y z1 z2 => q1 y (by omega)), hS.sent hpl2 q1, Fr2.of0 q1⟩
          · refine rw_icmp_lt_t (tgt := 180) d_Node_guide_154 (by decide) (nI_lt (by omega) (by omega)) ?_
            exact none_ (by rw [pGuide, if_neg (by omega), if_neg hnk, if_neg (fun z => c4 z.2.2)])
end LEAD2
end
section
/-! Node: doWhatIsAgreed, lead. -/
section LEAD3
variable {l : Launch} {G : mm_G} {sz : Nat} {ca : Nat → Nat} {cm : Nat → pCm} {g : Nat} {E : pE} {pl p a n : Nat} {x : pN} {post : List pMsg}
theorem agreed_loop {M : mm_M} {y : pN} (hpa : p + 328 ≤ a) (hn : n < eN E) (h4y : y 4 = x 4) (hy5 : x 5 ≤ y 5) (hy8 : y 5 ≤ x 5 + 8) (hb5 : y 5 ≤ 512) : ∀ (m k : Nat) (M1 : mm_M), m + k = y 5 - x 5 → NdP M1 ca cm g E pl p a n y → SyP G M1 ca cm g E pl p (pSend post ((List.range k).map (fun i => pAns n x (x 5 + i)))) → Fr2 M M1 p a →
    RW l G Y_Node_doWhatIsAgreed (rm 4) (mm_Z G (rm 4) (NdQ G M sz ca cm g E pl p a n y (pSend post ((List.range (y 5 - x 5)).map (fun i => pAns n x (x 5 + i)))))) 0 0 46 [(0, .ref a), (2, .int (nI (x 5 + k)))] [] M1 sz := by
  intro m
  induction m with
  | zero =>
    intro k M1 hk hN hS hF
    obtain ⟨h0, h1, h2, h3, h4⟩ := id hN
    obtain ⟨hh, hc0⟩ := h1.2.obj
    have : k = y 5 - x 5 := by omega
    subst this
    refine rw_iload_n d_Node_doWhatIsAgreed_46 rfl ?_
    refine rw_aload_n d_Node_doWhatIsAgreed_47 rfl (by first | exact mm_ref_r _ | exact mm_ref_n | exact mm_ref_o _) ?_
    refine rw_get d_Node_doWhatIsAgreed_48 fF_Node_12 h0 rfl ?_
    refine rw_get d_Node_doWhatIsAgreed_51 fF_Node_146 h1.1 rfl ?_
    refine rw_get d_Node_doWhatIsAgreed_54 fF_Node_205 hc0 rfl ?_
    refine rw_icmp_ge_t (tgt := 71) d_Node_doWhatIsAgreed_57 (by decide) (nI_le (by omega) (by omega)) ?_
    exact rw_vret d_Node_doWhatIsAgreed_71 rfl ⟨rfl, rfl, hN, hS, hF⟩
  | succ m ih =>
    intro k M1 hk hN hS hF
    obtain ⟨h0, h1, h2, h3, h4⟩ := id hN
    obtain ⟨hh, hc0⟩ := h1.2.obj
    refine rw_iload_n d_Node_doWhatIsAgreed_46 rfl ?_
    refine rw_aload_n d_Node_doWhatIsAgreed_47 rfl (by first | exact mm_ref_r _ | exact mm_ref_n | exact mm_ref_o _) ?_
    refine rw_get d_Node_doWhatIsAgreed_48 fF_Node_12 h0 rfl ?_
    refine rw_get d_Node_doWhatIsAgreed_51 fF_Node_146 h1.1 rfl ?_
    refine rw_get d_Node_doWhatIsAgreed_54 fF_Node_205 hc0 rfl ?_
    refine rw_icmp_ge_f (tgt := 71) d_Node_doWhatIsAgreed_57 (by decide) (nI_ge (by omega) (by omega)) ?_
    refine rw_aload_n d_Node_doWhatIsAgreed_60 rfl (by first | exact mm_ref_r _ | exact mm_ref_n | exact mm_ref_o _) ?_
    refine rw_iload_n d_Node_doWhatIsAgreed_61 rfl ?_
    refine rw_callV (kc := 0) (ks := 0) (rest := []) d_Node_doWhatIsAgreed_62 (c_tellAnswer (i := x 5 + k) hN hS hpa hn (by omega) (by omega)) mW_Node_tellAnswer mL_Node_178 mI_Node_tellAnswer mE_Node_tellAnswer ⟨by decide, by decide⟩ h0 rfl rfl rfl rfl (Nat.le_of_ble_eq_true rfl) (fun r M2 sz2 hq => ?_)
    obtain ⟨rfl, rfl, q1, q2, q3⟩ := hq
    refine rw_stk (st' := []) rfl ?_
    refine rw_iinc d_Node_doWhatIsAgreed_65 (by decide) rfl rfl rfl ?_
    refine rw_lv (lv' := [(0, .ref a), (2, .int (nI (x 5 + (k + 1))))]) (by rw [← Nat.add_assoc, ← nI_1]; intro q hq; simp at hq; rcases hq with rfl | rfl <;> rfl) ?_
    refine rw_goto (tgt := 46) d_Node_doWhatIsAgreed_68 (by decide) ?_
    refine ih (k + 1) M2 (by omega) q1 ?_ (hF.trans q3)
    rw [pSend_app] at q2
    have e : (List.range (k + 1)).map (fun i => pAns n x (x 5 + i)) = (List.range k).map (fun i => pAns n x (x 5 + i)) ++ [pAns n y (x 5 + k)] := by
      rw [List.range_succ, List.map_append]
      simp [pAns, h4y]
    rw [e]
    exact q2
theorem c_agreedDo {M : mm_M} (hN : NdP M ca cm g E pl p a n x) (hS : SyP G M ca cm g E pl p post) (hpa : p + 328 ≤ a) (hn : n < eN E) (hr : x 10 = 1) : CT l G Y_Node_doWhatIsAgreed ds_Node_doWhatIsAgreed (rm 4) [.ref a] M sz (NdQ G M sz ca cm g E pl p a n (pDo E n x).1 (pSend post (pDo E n x).2)) := by
  obtain ⟨h0, h1, h2, h3, h4⟩ := id hN
  obtain ⟨hP, hA, hpl, hlt, hN7, hCN, -, hg, hM64, -⟩ := id hS
  obtain ⟨hd, en, dn, hrr, h3b⟩ := id h3
  obtain ⟨hh, hc0⟩ := h1.2.obj
  have b1 := h4.2 1 (by omega)
  have hag := pAgr_le (eM E (x 4)) x (eN E)
  obtain ⟨hv9, vv9, av9, lv9, hr9, x5b, x6b, wf9, c4, c59⟩ := id h1.2
  obtain ⟨c4a, c4b, -⟩ := c4 (by omega)
  refine CT.of (by decide) (Nat.le_of_ble_eq_true rfl) ?_
  refine rw_aload_n d_Node_doWhatIsAgreed_0 rfl (by first | exact mm_ref_r _ | exact mm_ref_n | exact mm_ref_o _) ?_
  refine rw_get d_Node_doWhatIsAgreed_1 fF_Node_12 h0 rfl ?_
  refine rw_get d_Node_doWhatIsAgreed_4 fF_Node_146 h1.1 rfl ?_
  refine rw_get d_Node_doWhatIsAgreed_7 fF_Node_205 hc0 rfl ?_
  refine rw_istore_n d_Node_doWhatIsAgreed_10 (by decide) rfl ?_
  refine rw_aload_n d_Node_doWhatIsAgreed_11 rfl (by first | exact mm_ref_r _ | exact mm_ref_n | exact mm_ref_o _) ?_
  refine rw_dup d_Node_doWhatIsAgreed_12 rfl ?_
  refine rw_get d_Node_doWhatIsAgreed_13 fF_Node_76 h0 rfl ?_
  refine rw_aload_n d_Node_doWhatIsAgreed_16 rfl (by first | exact mm_ref_r _ | exact mm_ref_n | exact mm_ref_o _) ?_
  refine rw_get d_Node_doWhatIsAgreed_17 fF_Node_12 h0 rfl ?_
  refine rw_get d_Node_doWhatIsAgreed_20 fF_Node_146 h1.1 rfl ?_
  refine rw_aload_n d_Node_doWhatIsAgreed_23 rfl (by first | exact mm_ref_r _ | exact mm_ref_n | exact mm_ref_o _) ?_
  refine rw_get d_Node_doWhatIsAgreed_24 fF_Node_47 h0 rfl ?_
  refine rw_aload_n d_Node_doWhatIsAgreed_27 rfl (by first | exact mm_ref_r _ | exact mm_ref_n | exact mm_ref_o _) ?_
  refine rw_get d_Node_doWhatIsAgreed_28 fF_Node_12 h0 rfl ?_
  refine rw_get d_Node_doWhatIsAgreed_31 fF_Node_230 h1.1 rfl ?_
  refine rw_callV (kc := 0) (ks := 0) (rest := [.ref (a + 1 + 1), .int (nI (x 1)), .ref a]) d_Node_doWhatIsAgreed_34 (c_agreed hN7 (hM64 (x 4)) h3 h4) mW_Reports_agreed mL_Node_232 mI_Reports_agreed mE_Reports_agreed ⟨by decide, by decide⟩ hrr.1 rfl rfl rfl rfl (Nat.le_of_ble_eq_true rfl) (fun r M1 sz1 hq => ?_)
  obtain ⟨rfl, rfl, rfl⟩ := hq
  refine rw_stk (st' := [.int (nI (pAgreed E x)), .ref (a + 1 + 1), .int (nI (x 1)), .ref a]) rfl ?_
  refine rw_callV (kc := 0) (ks := 0) (rest := [.int (nI (x 1)), .ref a]) d_Node_doWhatIsAgreed_37 (c_doUpTo (lim := pAgreed E x) hA h1.2 (Nat.lt_of_le_of_lt hag (by omega))) mW_Copy_doUpTo mL_Node_235 mI_Copy_doUpTo mE_Copy_doUpTo ⟨by decide, by decide⟩ hc0 rfl rfl rfl rfl (Nat.le_of_ble_eq_true rfl) (fun r M2 sz2 hq => ?_)
  obtain ⟨rfl, rfl, q1, q2⟩ := hq
  refine rw_stk (st' := [.int (bI (decide (x 5 < min (pAgreed E x) (x 6)))), .int (nI (x 1)), .ref a]) rfl ?_
  refine rw_ior d_Node_doWhatIsAgreed_40 ?_
  have ey : pDo E n x = ((fun j => if j = 5 then max (x 5) (min (pAgreed E x) (x 6)) else if j = 1 then (if x 5 < min (pAgreed E x) (x 6) then 1 else x 1) else x j), (List.range (max (x 5) (min (pAgreed E x) (x 6)) - x 5)).map (fun i => pAns n x (x 5 + i))) := by rw [pDo, if_pos hr]
  generalize hy : (fun j => if j = 5 then max (x 5) (min (pAgreed E x) (x 6)) else if j = 1 then (if x 5 < min (pAgreed E x) (x 6) then 1 else x 1) else x j) = y at ey
  have y5 : y 5 = max (x 5) (min (pAgreed E x) (x 6)) := by rw [← hy]; rfl
  have y1 : y 1 = if x 5 < min (pAgreed E x) (x 6) then 1 else x 1 := by rw [← hy]; rfl
  have ys : ∀ j, j ≠ 5 → j ≠ 1 → y j = x j := fun j j1 j2 => by
    rw [← hy]
    simp only
    rw [if_neg j1, if_neg j2]
  have eor : nI (x 1) ||| bI (decide (x 5 < min (pAgreed E x) (x 6))) = nI (y 1) := by
    rw [y1]
    rcases (show x 1 = 0 ∨ x 1 = 1 by omega) with z | z
    · by_cases w : x 5 < min (pAgreed E x) (x 6)
      · rw [if_pos w, decide_eq_true w, z]
        rfl
      · rw [if_neg w, decide_eq_false w, z]
        rfl
    · by_cases w : x 5 < min (pAgreed E x) (x 6)
      · rw [if_pos w, decide_eq_true w, z]
        rfl
      · rw [if_neg w, decide_eq_false w, z]
        rfl
  rw [eor]
  have hz01 : y 1 = 0 ∨ y 1 = 1 := by
    rw [y1]
    split <;> omega
  have hnb : narrow .boolean (.int (nI (y 1))) = .int (nI (y 1)) := by
    rcases hz01 with z | z <;> rw [z] <;> rfl
  have hfb : fits .boolean (.int (nI (y 1))) = true := by
    rcases hz01 with z | z <;> rw [z] <;> rfl
  refine rw_put d_Node_doWhatIsAgreed_41 (fP_Node_76 _) ((q2 a (by omega)).trans h0) (Nat.le_of_ble_eq_true rfl) (by first | rfl | assumption | decide) (by first | rfl | assumption | decide) ?_
  refine rw_iload_n d_Node_doWhatIsAgreed_44 rfl ?_
  refine rw_istore_n d_Node_doWhatIsAgreed_45 (by decide) rfl ?_
  refine rw_lv (lv' := [(0, .ref a), (2, .int (nI (x 5 + 0)))]) (by intro q hq; simp at hq; rcases hq with rfl | rfl <;> rfl) ?_
  have hF : ∀ e1, Fr M1 (mup M2 a e1) a 15 := fun e1 => Fr.mup (q2.wider (by omega) (by omega)) (by omega) (by omega)
  rw [show (pDo E n x).1 = y by rw [ey], show (pDo E n x).2 = (List.range (y 5 - x 5)).map (fun i => pAns n x (x 5 + i)) by rw [ey, y5]]
  have hmin : min (pAgreed E x) (x 6) ≤ x 6 := Nat.min_le_right _ _
  refine agreed_loop hpa hn (ys 4 (by omega) (by omega)) (by omega) (by omega) (by omega) (y 5 - x 5) 0 _ (by omega) ⟨?_, ⟨?_, ?_⟩, ?_, ?_, ?_⟩ ?_ (Fr2.of1 (hF _))
  · rw [mup_self]
    simp only [ndO]
    rw [ys 0 (by omega) (by omega), ys 2 (by omega) (by omega), ys 3 (by omega) (by omega)]
    rfl
  · rw [mup_ne _ _ (by omega), q2 _ (by omega), ys 4 (by omega) (by omega)]
    exact h1.1
  · rw [y5, ys 6 (by omega) (by omega)]
    exact q1.kept (fun z z1 z2 => mup_ne _ _ (by omega))
  · rw [ys 7 (by omega) (by omega), ys 8 (by omega) (by omega), ys 9 (by omega) (by omega)]
    exact h2.kept (fun z z1 z2 => by rw [mup_ne _ _ (by omega), q2 z (by omega)])
  · exact (h3.kept (fun z z1 z2 => by rw [mup_ne _ _ (by omega), q2 z (by omega)])).same (ys 10 (by omega) (by omega)) (ys 11 (by omega) (by omega)) (fun m hm => ⟨ys _ (by omega) (by omega), ys _ (by omega) (by omega), ys _ (by omega) (by omega)⟩)
  · refine ⟨fun j => ?_, fun j hj => ?_⟩
    · by_cases z1 : j = 5
      · rw [z1]; omega
      · by_cases z2 : j = 1
        · rw [z2]; omega
        · rw [ys j z1 z2]
          exact h4.1 j
    · by_cases z2 : j = 1
      · rw [z2]; omega
      · rw [ys j (by omega) z2]
        exact h4.2 j hj
  · rw [List.range_zero, List.map_nil, pSend_nil hP.len]
    exact hS.node hN hpa (hF _)
end LEAD3
end
section
/-! Node: lead, work. -/
theorem pPrep_hi (E : pE) (n : Nat) (x : pN) (j : Nat) (h : j ≠ 10) (h2 : j ≠ 11) : (pPrep E n x).1 j = x j := by
  unfold pPrep
  split
  · rfl
  · split
    · rfl
    · split
      · simp only
        rw [if_neg h, if_neg h2]
      · rfl
theorem pDo_hi (E : pE) (n : Nat) (x : pN) (j : Nat) (h : j ≠ 5) (h2 : j ≠ 1) : (pDo E n x).1 j = x j := by
  unfold pDo
  split
  · simp only
    rw [if_neg h, if_neg h2]
  · rfl
section LEAD4
variable {l : Launch} {G : mm_G} {sz : Nat} {ca : Nat → Nat} {cm : Nat → pCm} {g : Nat} {E : pE} {pl p a n : Nat} {x : pN} {post : List pMsg}
def pGuides (E : pE) (n : Nat) (x : pN) (k : Nat) : List pMsg := (List.range k).flatMap (fun m => if m = n then [] else pGuide E n x m)
theorem pGuides_succ (E : pE) (n : Nat) (x : pN) (k : Nat) : pGuides E n x (k + 1) = pGuides E n x k ++ (if k = n then [] else pGuide E n x k) := by
  unfold pGuides
  rw [List.range_succ, List.flatMap_append]
  simp
theorem lead_loop {M : mm_M} (hpa : p + 328 ≤ a) (hn : n < eN E) (h30 : ∀ m, m < eN E → x (30 + m) < 1000000) : ∀ (m k : Nat) (M1 : mm_M), m + k = eN E → NdP M1 ca cm g E pl p a n x → SyP G M1 ca cm g E pl p (pSend post (pGuides E n x k)) → Fr2 M M1 p a →
    RW l G Y_Node_lead (rm 5) (mm_Z G (rm 5) (NdQ G M sz ca cm g E pl p a n x (pSend post (pGuides E n x (eN E))))) 0 0 61 [(0, .ref a), (1, .int (nI k))] [] M1 sz := by
  intro m
  induction m with
  | zero =>
    intro k M1 hk hN hS hF
    obtain ⟨h0, h1, h2, h3, h4⟩ := id hN
    have hpl := hS.2.2.1
    have hN7 := hS.2.2.2.2.1
    have : k = eN E := by omega
    rw [this] at hS ⊢
    refine rw_iload_n d_Node_lead_61 rfl ?_
    refine rw_aload_n d_Node_lead_62 rfl (by first | exact mm_ref_r _ | exact mm_ref_n | exact mm_ref_o _) ?_
    refine rw_get d_Node_lead_63 fF_Node_29 h0 rfl ?_
    refine rw_get d_Node_lead_66 fF_Node_39 hpl rfl ?_
    refine rw_icmp_ge_t (tgt := 91) d_Node_lead_69 (by decide) (nI_le (a := eN E) (b := eN E) (by omega) (by omega)) ?_
    exact rw_vret d_Node_lead_91 rfl ⟨rfl, rfl, hN, hS, hF⟩
  | succ m ih =>
    intro k M1 hk hN hS hF
    obtain ⟨h0, h1, h2, h3, h4⟩ := id hN
    have hpl := hS.2.2.1
    have hN7 := hS.2.2.2.2.1
    have next : ∀ M2 : mm_M, NdP M2 ca cm g E pl p a n x → SyP G M2 ca cm g E pl p (pSend post (pGuides E n x (k + 1))) → Fr2 M M2 p a → RW l G Y_Node_lead (rm 5) (mm_Z G (rm 5) (NdQ G M sz ca cm g E pl p a n x (pSend post (pGuides E n x (eN E))))) 0 0 85 [(0, .ref a), (1, .int (nI k))] [] M2 sz := by
      intro M2 y1 y2 y3
      refine rw_iinc d_Node_lead_85 (by decide) rfl rfl rfl ?_
      refine rw_lv (lv' := [(0, .ref a), (1, .int (nI (k + 1)))]) (by rw [← nI_1]; intro q hq; simp at hq; rcases hq with rfl | rfl <;> rfl) ?_
      refine rw_goto (tgt := 61) d_Node_lead_88 (by decide) ?_
      exact ih (k + 1) M2 (by omega) y1 y2 y3
    refine rw_iload_n d_Node_lead_61 rfl ?_
    refine rw_aload_n d_Node_lead_62 rfl (by first | exact mm_ref_r _ | exact mm_ref_n | exact mm_ref_o _) ?_
    refine rw_get d_Node_lead_63 fF_Node_29 h0 rfl ?_
    refine rw_get d_Node_lead_66 fF_Node_39 hpl rfl ?_
    refine rw_icmp_ge_f (tgt := 91) d_Node_lead_69 (by decide) (nI_ge (a := k) (b := eN E) (by omega) (by omega)) ?_
    refine rw_iload_n d_Node_lead_72 rfl ?_
    refine rw_aload_n d_Node_lead_73 rfl (by first | exact mm_ref_r _ | exact mm_ref_n | exact mm_ref_o _) ?_
    refine rw_get d_Node_lead_74 fF_Node_25 h0 rfl ?_
    by_cases c : k = n
    · refine rw_icmp_eq_t (tgt := 85) d_Node_lead_77 (by decide) (by rw [c]) ?_
      exact next M1 hN (by rw [pGuides_succ, if_pos c, List.append_nil]; exact hS) hF
    · refine rw_icmp_eq_f (tgt := 85) d_Node_lead_77 (by decide) (fun z => c ((nI_eq (by omega) (by omega)).mp z)) ?_
      refine rw_aload_n d_Node_lead_80 rfl (by first | exact mm_ref_r _ | exact mm_ref_n | exact mm_ref_o _) ?_
      refine rw_iload_n d_Node_lead_81 rfl ?_
      refine rw_callV (kc := 0) (ks := 0) (rest := []) d_Node_lead_82 (c_guide (m := k) hN hS hpa hn (by omega) (h30 k (by omega))) mW_Node_guide mL_Node_212 mI_Node_guide mE_Node_guide ⟨by decide, by decide⟩ h0 rfl rfl rfl rfl (Nat.le_of_ble_eq_true rfl) (fun r M2 sz2 hq => ?_)
      obtain ⟨rfl, rfl, q1, q2, q3⟩ := hq
      refine rw_stk (st' := []) rfl ?_
      refine next M2 q1 ?_ (hF.trans q3)
      rw [pSend_app] at q2
      rw [pGuides_succ, if_neg c]
      exact q2
theorem c_lead {M : mm_M} (hN : NdP M ca cm g E pl p a n x) (hS : SyP G M ca cm g E pl p post) (hpa : p + 328 ≤ a) (hn : n < eN E) (h30 : ∀ m, m < eN E → x (30 + m) < 1000000) : CT l G Y_Node_lead ds_Node_lead (rm 5) [.ref a] M sz (NdQ G M sz ca cm g E pl p a n (pLead E n x).1 (pSend post (pLead E n x).2)) := by
  obtain ⟨h0, h1, h2, h3, h4⟩ := id hN
  obtain ⟨hP, hA, hpl, hlt, hN7, hCN, -, hg, hM64, -⟩ := id hS
  obtain ⟨hh, hc0⟩ := h1.2.obj
  obtain ⟨hv9, vv9, av9, lv9, hr9, x5b, x6b, wf9, c4, c59⟩ := id h1.2
  refine CT.of (by decide) (Nat.le_of_ble_eq_true rfl) ?_
  refine rw_aload_n d_Node_lead_0 rfl (by first | exact mm_ref_r _ | exact mm_ref_n | exact mm_ref_o _) ?_
  refine rw_get d_Node_lead_1 fF_Node_47 h0 rfl ?_
  refine rw_aload_n d_Node_lead_4 rfl (by first | exact mm_ref_r _ | exact mm_ref_n | exact mm_ref_o _) ?_
  refine rw_get d_Node_lead_5 fF_Node_25 h0 rfl ?_
  refine rw_aload_n d_Node_lead_8 rfl (by first | exact mm_ref_r _ | exact mm_ref_n | exact mm_ref_o _) ?_
  refine rw_get d_Node_lead_9 fF_Node_12 h0 rfl ?_
  refine rw_get d_Node_lead_12 fF_Node_146 h1.1 rfl ?_
  refine rw_get d_Node_lead_15 fF_Node_204 hc0 rfl ?_
  refine rw_aload_n d_Node_lead_18 rfl (by first | exact mm_ref_r _ | exact mm_ref_n | exact mm_ref_o _) ?_
  refine rw_get d_Node_lead_19 fF_Node_12 h0 rfl ?_
  refine rw_get d_Node_lead_22 fF_Node_146 h1.1 rfl ?_
  refine rw_get d_Node_lead_25 fF_Node_205 hc0 rfl ?_
  refine rw_callV (kc := 0) (ks := 0) (rest := []) d_Node_lead_28 (c_note (n := n) (b := x 6) (d := x 5) hN7 hn h3) mW_Reports_note mL_Node_130 mI_Reports_note mE_Reports_note ⟨by decide, by decide⟩ h3.choose_spec.choose_spec.choose_spec.1.1 rfl rfl rfl rfl (Nat.le_of_ble_eq_true rfl) (fun r M1 sz1 hq => ?_)
  obtain ⟨rfl, rfl, q1, q2⟩ := hq
  refine rw_stk (st' := []) rfl ?_
  have lo : ∀ j, j < 20 → pNote x n (x 6) (x 5) j = x j := fun j hj => by
    unfold pNote
    rw [if_neg (by omega), if_neg (by omega), if_neg (by omega)]
  have hF1 : Fr M M1 a 15 := q2.wider (by omega) (by omega)
  have hN1 : NdP M1 ca cm g E pl p a n (pNote x n (x 6) (x 5)) := by
    refine ⟨?_, ?_, ?_, q1, ?_⟩
    · rw [q2 _ (by omega), h0]
      simp only [ndO]
      rw [lo 0 (by omega), lo 1 (by omega), lo 2 (by omega), lo 3 (by omega)]
    · rw [lo 4 (by omega), lo 5 (by omega), lo 6 (by omega)]
      exact h1.kept (fun y z1 z2 => q2 y (by omega))
    · rw [lo 7 (by omega), lo 8 (by omega), lo 9 (by omega)]
      exact h2.kept (fun y z1 z2 => q2 y (by omega))
    · refine ⟨fun j => ?_, fun j hj => ?_⟩
      · unfold pNote
        (repeat' split) <;> first | omega | exact h4.1 _
      · unfold pNote
        (repeat' split) <;> first | omega | exact h4.2 j hj
  have hS1 := hS.node hN hpa hF1
  have h30n : ∀ m, m < eN E → pNote x n (x 6) (x 5) (30 + m) < 1000000 := fun m hm => by
    unfold pNote
    have := h30 m hm
    (repeat' split) <;> omega
  have e10 : pNote x n (x 6) (x 5) 10 = x 10 := lo 10 (by omega)
  have hlead : pLead E n x = ((pDo E n (pPrep E n (pNote x n (x 6) (x 5))).1).1, (pPrep E n (pNote x n (x 6) (x 5))).2 ++ (pDo E n (pPrep E n (pNote x n (x 6) (x 5))).1).2 ++ pGuides E n (pDo E n (pPrep E n (pNote x n (x 6) (x 5))).1).1 (eN E)) := rfl
  rw [hlead]
  generalize pNote x n (x 6) (x 5) = x1 at hN1 h30n e10 ⊢
  have stepC : ∀ (M2 : mm_M) (y : pN) (ms : List pMsg), NdP M2 ca cm g E pl p a n y → SyP G M2 ca cm g E pl p (pSend post ms) → Fr2 M M2 p a → (∀ m, m < eN E → y (30 + m) < 1000000) → RW l G Y_Node_lead (rm 5) (mm_Z G (rm 5) (NdQ G M sz1 ca cm g E pl p a n y (pSend post (ms ++ pGuides E n y (eN E))))) 0 0 59 [(0, .ref a)] [] M2 sz1 := by
    intro M2 y ms y1 y2 y3 y4
    refine rw_iconst (v := 0) d_Node_lead_59 (by decide) ?_
    refine rw_istore_n d_Node_lead_60 (by decide) rfl ?_
    refine rw_lv (lv' := [(0, .ref a), (1, .int (nI 0))]) (by intro q hq; simp at hq; rcases hq with rfl | rfl <;> rfl) ?_
    have := lead_loop (l := l) (sz := sz1) (M := M) (post := pSend post ms) hpa hn y4 (eN E) 0 M2 (by omega) y1 (by rw [show pGuides E n y 0 = [] from rfl, pSend_nil y2.1.len]; exact y2) y3
    rw [pSend_app] at this
    exact this
  have stepB : ∀ (M2 : mm_M) (y : pN) (ms : List pMsg), NdP M2 ca cm g E pl p a n y → SyP G M2 ca cm g E pl p (pSend post ms) → Fr2 M M2 p a → (∀ m, m < eN E → y (30 + m) < 1000000) → RW l G Y_Node_lead (rm 5) (mm_Z G (rm 5) (NdQ G M sz1 ca cm g E pl p a n (pDo E n y).1 (pSend post (ms ++ (pDo E n y).2 ++ pGuides E n (pDo E n y).1 (eN E))))) 0 0 45 [(0, .ref a)] [] M2 sz1 := by
    intro M2 y ms y1 y2 y3 y4
    obtain ⟨k0, k1, k2, k3, k4⟩ := id y1
    obtain ⟨hd2, en2, dn2, ⟨r0, r1, r2, r3⟩, k3b⟩ := id k3
    have hb := k4.2 10 (by omega)
    refine rw_aload_n d_Node_lead_45 rfl (by first | exact mm_ref_r _ | exact mm_ref_n | exact mm_ref_o _) ?_
    refine rw_get d_Node_lead_46 fF_Node_47 k0 rfl ?_
    refine rw_get d_Node_lead_49 fF_Node_166 r0 rfl ?_
    rcases (show y 10 = 0 ∨ y 10 = 1 by omega) with c | c
    · rw [c]
      refine rw_if_eq_t (tgt := 59) d_Node_lead_52 (by decide) (rfl) ?_
      have ep : pDo E n y = (y, []) := by rw [pDo, if_neg (by omega)]
      rw [show (pDo E n y).1 = y by rw [ep], show (pDo E n y).2 = [] by rw [ep], List.append_nil]
      exact stepC M2 y ms y1 y2 y3 y4
    · rw [c]
      refine rw_if_eq_f (tgt := 59) d_Node_lead_52 (by decide) (by decide) ?_
      refine rw_aload_n d_Node_lead_55 rfl (by first | exact mm_ref_r _ | exact mm_ref_n | exact mm_ref_o _) ?_
      refine rw_callV (kc := 0) (ks := 0) (rest := []) d_Node_lead_56 (c_agreedDo y1 y2 hpa hn c) mW_Node_doWhatIsAgreed mL_Node_209 mI_Node_doWhatIsAgreed mE_Node_doWhatIsAgreed ⟨by decide, by decide⟩ k0 rfl rfl rfl rfl (Nat.le_of_ble_eq_true rfl) (fun r M3 sz3 hq => ?_)
      obtain ⟨rfl, rfl, z1, z2, z3⟩ := hq
      refine rw_stk (st' := []) rfl ?_
      rw [pSend_app] at z2
      exact stepC M3 _ _ z1 z2 (y3.trans z3) (fun m hm => by rw [pDo_hi _ _ _ _ (by omega) (by omega)]; exact y4 m hm)
  obtain ⟨k0, k1, k2, k3, k4⟩ := id hN1
  obtain ⟨hd2, en2, dn2, ⟨r0, r1, r2, r3⟩, k3b⟩ := id k3
  have hb := k4.2 10 (by omega)
  refine rw_aload_n d_Node_lead_31 rfl (by first | exact mm_ref_r _ | exact mm_ref_n | exact mm_ref_o _) ?_
  refine rw_get d_Node_lead_32 fF_Node_47 k0 rfl ?_
  refine rw_get d_Node_lead_35 fF_Node_166 r0 rfl ?_
  rcases (show x1 10 = 0 ∨ x1 10 = 1 by omega) with c | c
  · rw [c]
    refine rw_if_ne_f (tgt := 45) d_Node_lead_38 (by decide) (by decide) ?_
    refine rw_aload_n d_Node_lead_41 rfl (by first | exact mm_ref_r _ | exact mm_ref_n | exact mm_ref_o _) ?_
    refine rw_callV (kc := 0) (ks := 0) (rest := []) d_Node_lead_42 (c_prepare hN1 hS1 hpa hn (by omega)) mW_Node_prepare mL_Node_206 mI_Node_prepare mE_Node_prepare ⟨by decide, by decide⟩ k0 rfl rfl rfl rfl (Nat.le_of_ble_eq_true rfl) (fun r M3 sz3 hq => ?_)
    obtain ⟨rfl, rfl, z1, z2, z3⟩ := hq
    refine rw_stk (st' := []) rfl ?_
    exact stepB M3 _ _ z1 z2 ((Fr2.of1 hF1).trans z3) (fun m hm => by rw [pPrep_hi _ _ _ _ (by omega) (by omega)]; exact h30n m hm)
  · rw [c]
    refine rw_if_ne_t (tgt := 45) d_Node_lead_38 (by decide) (by decide) ?_
    have ep : pPrep E n x1 = (x1, []) := by rw [pPrep, if_pos c]
    have := stepB M1 x1 [] hN1 (by rw [pSend_nil hP.len]; exact hS1) (Fr2.of1 hF1) h30n
    rw [List.nil_append] at this
    rw [ep]
    exact this
end LEAD4
end
section
/-! Node.work. -/
section WORK
variable {l : Launch} {G : mm_G} {sz : Nat} {ca : Nat → Nat} {cm : Nat → pCm} {g : Nat} {E : pE} {pl p a n : Nat} {x : pN} {post : List pMsg}
theorem gI_eq {E : pE} {e n : Nat} (hN7 : eN E < 7) (hn : n < eN E) : (gI (eL E e) = nI n) ↔ eL E e = n := by
  rcases eL_lt E e hN7 with z | z
  · rw [z]
    constructor
    · intro w
      have := congrArg Int32.toInt w
      rw [nI_toInt (by omega)] at this
      have h5 : (gI 99).toInt = -1 := by decide
      omega
    · intro w
      omega
  · rw [gI, if_neg (by omega), nI_eq (by omega) (by omega)]
theorem gI_m1 {E : pE} {e : Nat} (hN7 : eN E < 7) : (gI (eL E e) = -1) ↔ eL E e = 99 := by
  rcases eL_lt E e hN7 with z | z
  · rw [z]
    exact ⟨fun _ => rfl, fun _ => rfl⟩
  · rw [gI, if_neg (by omega)]
    constructor
    · intro w
      have := congrArg Int32.toInt w
      rw [nI_toInt (by omega)] at this
      have h5 : (-1 : Int32).toInt = -1 := by decide
      omega
    · intro w
      omega
set_option maxRecDepth 100000 in
/-- from pc 47 on: lead, or report; then nothing is owed any more -/
theorem work_tail {M M1 : mm_M} {h : List pMsg} (hN : NdP M1 ca cm g E pl p a n x) (hS : SyP G M1 ca cm g E pl p (pSend post h)) (hF : Fr2 M M1 p a) (hpa : p + 328 ≤ a) (hn : n < eN E) (h30 : ∀ m, m < eN E → x (30 + m) < 1000000) :
    RW l G Y_Node_work (rm 6) (mm_Z G (rm 6) (NdQ G M sz ca cm g E pl p a n (if eL E (x 4) = n then pu (pLead E n x).1 3 0 else pu x 3 0) (pSend post (h ++ (if eL E (x 4) = n then (pLead E n x).2 else if x 3 = 1 ∧ eL E (x 4) ≠ 99 then [((5, n, eL E (x 4), x 4, x 6, x 5) : pMsg)] else []))))) 0 0 47 [(0, .ref a)] [] M1 sz := by
  obtain ⟨h0, h1, h2, h3, h4⟩ := id hN
  obtain ⟨hP, hA, hpl, hlt, hN7, hCN, -, hg, hM64, -⟩ := id hS
  obtain ⟨hh, hc0⟩ := h1.2.obj
  have b3 := h4.2 3 (by omega)
  have egn : nI n = gI n := by rw [gI, if_neg (by omega)]
  have fin : ∀ (M2 : mm_M) (y : pN) (ms : List pMsg) , NdP M2 ca cm g E pl p a n y → SyP G M2 ca cm g E pl p (pSend post ms) → Fr2 M M2 p a → ∀ lv, lv.lookup 0 = some (.ref a) → RW l G Y_Node_work (rm 6) (mm_Z G (rm 6) (NdQ G M sz ca cm g E pl p a n (pu y 3 0) (pSend post ms))) 0 0 143 lv [] M2 sz := by
    intro M2 y ms y1 y2 y3 lv hlv
    refine rw_lv (lv' := [(0, .ref a)]) (by intro q hq; simp at hq; rcases hq with rfl; exact hlv) ?_
    refine rw_aload_n d_Node_work_143 rfl (by first | exact mm_ref_r _ | exact mm_ref_n | exact mm_ref_o _) ?_
    refine rw_iconst (v := 0) d_Node_work_144 (by decide) ?_
    refine rw_put d_Node_work_145 (fP_Node_82 _) y1.1 (Nat.le_of_ble_eq_true rfl) (by first | rfl | assumption | decide) (by first | rfl | assumption | decide) ?_
    have hF4 : ∀ e1, Fr M2 (mup M2 a e1) a 15 := fun e1 => Fr.mup Fr.rf (by omega) (by omega)
    exact rw_vret d_Node_work_148 rfl ⟨rfl, rfl, y1.flag (f := 3) (v := 0) (by omega) (by omega) rfl, y2.node y1 hpa (hF4 _), y3.trans (Fr2.of1 (hF4 _))⟩
  refine rw_aload_n d_Node_work_47 rfl (by first | exact mm_ref_r _ | exact mm_ref_n | exact mm_ref_o _) ?_
  refine rw_get d_Node_work_48 fF_Node_12 h0 rfl ?_
  refine rw_get d_Node_work_51 fF_Node_163 h1.1 rfl ?_
  refine rw_aload_n d_Node_work_54 rfl (by first | exact mm_ref_r _ | exact mm_ref_n | exact mm_ref_o _) ?_
  refine rw_get d_Node_work_55 fF_Node_25 h0 rfl ?_
  by_cases c : eL E (x 4) = n
  · rw [if_pos c, if_pos c]
    refine rw_icmp_ne_f (tgt := 68) d_Node_work_58 (by decide) ((gI_eq hN7 hn).mpr c) ?_
    refine rw_aload_n d_Node_work_61 rfl (by first | exact mm_ref_r _ | exact mm_ref_n | exact mm_ref_o _) ?_
    refine rw_callV (kc := 0) (ks := 0) (rest := []) d_Node_work_62 (c_lead hN hS hpa hn h30) mW_Node_lead mL_Node_198 mI_Node_lead mE_Node_lead ⟨by decide, by decide⟩ h0 rfl rfl rfl rfl (Nat.le_of_ble_eq_true rfl) (fun r M2 sz2 hq => ?_)
    obtain ⟨rfl, rfl, q1, q2, q3⟩ := hq
    refine rw_stk (st' := []) rfl ?_
    refine rw_goto (tgt := 143) d_Node_work_65 (by decide) ?_
    rw [pSend_app] at q2
    exact fin M2 _ _ q1 q2 (hF.trans q3) _ rfl
  · rw [if_neg c, if_neg c]
    refine rw_icmp_ne_t (tgt := 68) d_Node_work_58 (by decide) (fun z => c ((gI_eq hN7 hn).mp z)) ?_
    refine rw_aload_n d_Node_work_68 rfl (by first | exact mm_ref_r _ | exact mm_ref_n | exact mm_ref_o _) ?_
    refine rw_get d_Node_work_69 fF_Node_82 h0 rfl ?_
    rcases (show x 3 = 0 ∨ x 3 = 1 by omega) with c3 | c3
    · rw [c3]
      refine rw_if_eq_t (tgt := 143) d_Node_work_72 (by decide) (rfl) ?_
      rw [if_neg (fun z => by omega), List.append_nil]
      exact fin M1 x h hN hS hF _ rfl
    · rw [c3]
      refine rw_if_eq_f (tgt := 143) d_Node_work_72 (by decide) (by decide) ?_
      refine rw_aload_n d_Node_work_75 rfl (by first | exact mm_ref_r _ | exact mm_ref_n | exact mm_ref_o _) ?_
      refine rw_get d_Node_work_76 fF_Node_12 h0 rfl ?_
      refine rw_get d_Node_work_79 fF_Node_163 h1.1 rfl ?_
      refine rw_iconst (v := (-1)) d_Node_work_82 (by decide) ?_
      by_cases c9 : eL E (x 4) = 99
      · refine rw_icmp_eq_t (tgt := 143) d_Node_work_83 (by decide) ((gI_m1 hN7).mpr c9) ?_
        rw [if_neg (fun z => z.2 c9), List.append_nil]
        exact fin M1 x h hN hS hF _ rfl
      · refine rw_icmp_eq_f (tgt := 143) d_Node_work_83 (by decide) (fun z => c9 ((gI_m1 hN7).mp z)) ?_
        rw [if_pos ⟨rfl, c9⟩]
        refine rw_aload_n d_Node_work_86 rfl (by first | exact mm_ref_r _ | exact mm_ref_n | exact mm_ref_o _) ?_
        refine rw_get d_Node_work_87 fF_Node_33 h0 rfl ?_
        refine rw_kind (i := 5) (by decide) fS_Node_201 d_Node_work_90 ?_
        refine rw_aload_n d_Node_work_93 rfl (by first | exact mm_ref_r _ | exact mm_ref_n | exact mm_ref_o _) ?_
        refine rw_get d_Node_work_94 fF_Node_25 h0 rfl ?_
        refine rw_aload_n d_Node_work_97 rfl (by first | exact mm_ref_r _ | exact mm_ref_n | exact mm_ref_o _) ?_
        refine rw_get d_Node_work_98 fF_Node_12 h0 rfl ?_
        refine rw_get d_Node_work_101 fF_Node_163 h1.1 rfl ?_
        refine rw_aload_n d_Node_work_104 rfl (by first | exact mm_ref_r _ | exact mm_ref_n | exact mm_ref_o _) ?_
        refine rw_get d_Node_work_105 fF_Node_12 h0 rfl ?_
        refine rw_get d_Node_work_108 fF_Node_103 h1.1 rfl ?_
        refine rw_stk (st' := [.int (nI (x 4)), .int (gI (eL E (x 4))), .int (gI n), .ref (gad G 5), .ref p]) (by rw [← egn]) ?_
        refine rw_callV (kc := 0) (ks := 0) (rest := []) d_Node_work_111 (c_send (k := 5) (f := n) (t := eL E (x 4)) (e := x 4) hP) mW_Post_send mL_Node_136 mI_Post_send mE_Post_send ⟨by decide, by decide⟩ hP.choose_spec.choose_spec.choose_spec.1 rfl rfl rfl rfl (Nat.le_of_ble_eq_true rfl) (fun r M2 sz2 hq => ?_)
        obtain ⟨rfl, q1, j, hj, rfl, ⟨s', en', dn', nu', a2, cv', d, b, w1, w2, w3⟩, q2⟩ := hq
        have hN2 := hN.kept (M' := M2) (fun y y1 y2 => q1 y (by omega))
        obtain ⟨hh2, hc2⟩ := hN2.2.1.2.obj
        refine rw_stk (st' := [.ref (p + 3 + 5 * j)]) rfl ?_
        refine rw_astore_n d_Node_work_114 (by decide) (by first | exact mm_ref_r _ | exact mm_ref_n | exact mm_ref_o _) rfl ?_
        refine rw_aload_n d_Node_work_115 rfl (by first | exact mm_ref_r _ | exact mm_ref_n | exact mm_ref_o _) ?_
        refine rw_aload_n d_Node_work_116 rfl (by first | exact mm_ref_r _ | exact mm_ref_n | exact mm_ref_o _) ?_
        refine rw_get d_Node_work_117 fF_Node_12 hN2.1 rfl ?_
        refine rw_get d_Node_work_120 fF_Node_146 hN2.2.1.1 rfl ?_
        refine rw_get d_Node_work_123 fF_Node_204 hc2 rfl ?_
        refine rw_put d_Node_work_126 (fP_Node_124 _) w1 (Nat.le_of_ble_eq_true rfl) (by first | rfl | assumption | decide) (by first | rfl | assumption | decide) ?_
        refine rw_aload_n d_Node_work_129 rfl (by first | exact mm_ref_r _ | exact mm_ref_n | exact mm_ref_o _) ?_
        refine rw_aload_n d_Node_work_130 rfl (by first | exact mm_ref_r _ | exact mm_ref_n | exact mm_ref_o _) ?_
        refine rw_get d_Node_work_131 fF_Node_12 (mup_get (by omega) hN2.1) rfl ?_
        refine rw_get d_Node_work_134 fF_Node_146 (mup_get (by omega) hN2.2.1.1) rfl ?_
        refine rw_get d_Node_work_137 fF_Node_205 (mup_get (by omega) hc2) rfl ?_
        refine rw_put d_Node_work_140 (fP_Node_127 _) (mup_self _ _ _) (Nat.le_of_ble_eq_true rfl) (by first | rfl | assumption | decide) (by first | rfl | assumption | decide) ?_
        have hFp : ∀ e1 e2, Fr M1 (mup (mup M2 (p + 3 + 5 * j) e1) (p + 3 + 5 * j) e2) p 328 := fun e1 e2 => Fr.mup (Fr.mup q1 (by omega) (by omega)) (by omega) (by omega)
        have hP3 := q2 (mup (mup M2 (p + 3 + 5 * j) (.inr (3, [.ref (gad G 5), .int (gI n), .int (gI (eL E (x 4))), .int (nI (x 4)), .int s', .int (nI (x 6)), .int dn', .int nu', .int a2, cv', .ref (p + 3 + 5 * j + 1)]))) (p + 3 + 5 * j) (.inr (3, [.ref (gad G 5), .int (gI n), .int (gI (eL E (x 4))), .int (nI (x 4)), .int s', .int (nI (x 6)), .int (nI (x 5)), .int nu', .int a2, cv', .ref (p + 3 + 5 * j + 1)]))) (5, n, eL E (x 4), x 4, x 6, x 5) (Fr.mup (Fr.mup Fr.rf (by omega) (by omega)) (by omega) (by omega)) ⟨s', nI (x 6), nI (x 5), nu', a2, cv', d, b, mup_self _ _ _, w2, (w3.kept (fun y y1 y2 => mup_ne _ _ (by omega))).kept (fun y y1 y2 => mup_ne _ _ (by omega)), (fun z => by cases z), (fun z => by cases z), (fun z => by cases z), fun _ => ⟨rfl, rfl⟩, (fun z => by cases z), (fun z => by cases z)⟩
        rw [pSend_app] at hP3
        exact fin _ x _ (hN.kept (fun y z1 z2 => hFp _ _ y (by omega))) (hS.sent hP3 (hFp _ _)) (hF.trans (Fr2.of0 (hFp _ _))) _ rfl
set_option maxRecDepth 100000 in
theorem c_work {M : mm_M} (hN : NdP M ca cm g E pl p a n x) (hS : SyP G M ca cm g E pl p post) (hpa : p + 328 ≤ a) (hn : n < eN E) (h30 : ∀ m, m < eN E → x (30 + m) < 1000000) : CT l G Y_Node_work ds_Node_work (rm 6) [.ref a] M sz (NdQ G M sz ca cm g E pl p a n (pWork E n x).1 (pSend post (pWork E n x).2)) := by
  obtain ⟨h0, h1, h2, h3, h4⟩ := id hN
  obtain ⟨hP, hA, hpl, hlt, hN7, hCN, -, hg, hM64, -⟩ := id hS
  have b0 := h4.2 0 (by omega)
  have egn : nI n = gI n := by rw [gI, if_neg (by omega)]
  refine CT.of (by decide) (Nat.le_of_ble_eq_true rfl) ?_
  refine rw_aload_n d_Node_work_0 rfl (by first | exact mm_ref_r _ | exact mm_ref_n | exact mm_ref_o _) ?_
  refine rw_get d_Node_work_1 fF_Node_21 h0 rfl ?_
  rcases (show x 0 = 0 ∨ x 0 = 1 by omega) with c0 | c0
  · rw [c0]
    refine rw_if_ne_f (tgt := 8) d_Node_work_4 (by decide) (by decide) ?_
    have ep : pWork E n x = (x, []) := by rw [pWork, if_pos (by omega)]
    rw [ep]
    exact rw_vret d_Node_work_7 rfl ⟨rfl, rfl, hN, by rw [pSend_nil hP.len]; exact hS, fun _ _ _ => rfl⟩
  · rw [c0]
    refine rw_if_ne_t (tgt := 8) d_Node_work_4 (by decide) (by decide) ?_
    refine rw_aload_n d_Node_work_8 rfl (by first | exact mm_ref_r _ | exact mm_ref_n | exact mm_ref_o _) ?_
    refine rw_callV (kc := 0) (ks := 0) (rest := []) d_Node_work_9 (c_flush hN hS hpa) mW_Node_flush mL_Node_70 mI_Node_flush mE_Node_flush ⟨by decide, by decide⟩ h0 rfl rfl rfl rfl (Nat.le_of_ble_eq_true rfl) (fun r M1 sz1 hq => ?_)
    obtain ⟨rfl, rfl, q1, q2, q3⟩ := hq
    refine rw_stk (st' := []) rfl ?_
    have ep : pWork E n x = (if eL E ((if pFlush x 2 = 1 then pu (pFlush x) 2 0 else pFlush x) 4) = n then (pu (pLead E n (if pFlush x 2 = 1 then pu (pFlush x) 2 0 else pFlush x)).1 3 0, (if pFlush x 2 = 1 then [((1, n, 99, pFlush x 4, 0, 0) : pMsg)] else []) ++ (pLead E n (if pFlush x 2 = 1 then pu (pFlush x) 2 0 else pFlush x)).2) else (pu (if pFlush x 2 = 1 then pu (pFlush x) 2 0 else pFlush x) 3 0, (if pFlush x 2 = 1 then [((1, n, 99, pFlush x 4, 0, 0) : pMsg)] else []) ++ (if (if pFlush x 2 = 1 then pu (pFlush x) 2 0 else pFlush x) 3 = 1 ∧ eL E ((if pFlush x 2 = 1 then pu (pFlush x) 2 0 else pFlush x) 4) ≠ 99 then [((5, n, eL E ((if pFlush x 2 = 1 then pu (pFlush x) 2 0 else pFlush x) 4), (if pFlush x 2 = 1 then pu (pFlush x) 2 0 else pFlush x) 4, (if pFlush x 2 = 1 then pu (pFlush x) 2 0 else pFlush x) 6, (if pFlush x 2 = 1 then pu (pFlush x) 2 0 else pFlush x) 5) : pMsg)] else []))) := by
      rw [pWork, if_neg (by omega)]
    have h30f : ∀ m, m < eN E → pFlush x (30 + m) < 1000000 := fun m hm => by
      have := h30 m hm
      unfold pFlush
      split
      · simp only
        rw [if_neg (by omega), if_neg (by omega), if_neg (by omega), if_neg (by omega)]
        exact this
      · exact this
    obtain ⟨k0, k1, k2, k3, k4⟩ := id q1
    have b2 := k4.2 2 (by omega)
    generalize pFlush x = x1 at *
    refine rw_aload_n d_Node_work_12 rfl (by first | exact mm_ref_r _ | exact mm_ref_n | exact mm_ref_o _) ?_
    refine rw_get d_Node_work_13 fF_Node_79 k0 rfl ?_
    rcases (show x1 2 = 0 ∨ x1 2 = 1 by omega) with c2 | c2
    · rw [c2]
      refine rw_if_eq_t (tgt := 47) d_Node_work_16 (by decide) (rfl) ?_
      have hne : ¬ x1 2 = 1 := by omega
      simp only [if_neg hne, List.nil_append] at ep
      have e1 : (pWork E n x).1 = (if eL E (x1 4) = n then pu (pLead E n x1).1 3 0 else pu x1 3 0) := by
        rw [ep]
        split <;> rfl
      have e2 : (pWork E n x).2 = (if eL E (x1 4) = n then (pLead E n x1).2 else if x1 3 = 1 ∧ eL E (x1 4) ≠ 99 then [((5, n, eL E (x1 4), x1 4, x1 6, x1 5) : pMsg)] else []) := by
        rw [ep]
        split <;> rfl
      rw [e1, e2]
      have := work_tail (l := l) (sz := sz1) (M := M) (h := []) (post := post) q1 (by rw [pSend_nil hP.len]; exact q2) q3 hpa hn h30f
      rw [List.nil_append] at this
      exact this
    · rw [c2]
      refine rw_if_eq_f (tgt := 47) d_Node_work_16 (by decide) (by decide) ?_
      refine rw_aload_n d_Node_work_19 rfl (by first | exact mm_ref_r _ | exact mm_ref_n | exact mm_ref_o _) ?_
      refine rw_get d_Node_work_20 fF_Node_33 k0 rfl ?_
      refine rw_kind (i := 1) (by decide) fS_Node_195 d_Node_work_23 ?_
      refine rw_aload_n d_Node_work_26 rfl (by first | exact mm_ref_r _ | exact mm_ref_n | exact mm_ref_o _) ?_
      refine rw_get d_Node_work_27 fF_Node_25 k0 rfl ?_
      refine rw_iconst (v := (-1)) d_Node_work_30 (by decide) ?_
      refine rw_aload_n d_Node_work_31 rfl (by first | exact mm_ref_r _ | exact mm_ref_n | exact mm_ref_o _) ?_
      refine rw_get d_Node_work_32 fF_Node_12 k0 rfl ?_
      refine rw_get d_Node_work_35 fF_Node_103 k1.1 rfl ?_
      refine rw_stk (st' := [.int (nI (x1 4)), .int (gI 99), .int (gI n), .ref (gad G 1), .ref p]) (by rw [← egn]; rfl) ?_
      refine rw_callV (kc := 0) (ks := 0) (rest := []) d_Node_work_38 (c_send (k := 1) (f := n) (t := 99) (e := x1 4) q2.1) mW_Post_send mL_Node_136 mI_Post_send mE_Post_send ⟨by decide, by decide⟩ q2.1.choose_spec.choose_spec.choose_spec.1 rfl rfl rfl rfl (Nat.le_of_ble_eq_true rfl) (fun r M2 sz2 hq => ?_)
      have hpl2 := hq.plain (by omega)
      obtain ⟨rfl, y1, j, hj, rfl, -⟩ := hq
      have hN2 := q1.kept (M' := M2) (fun y z1 z2 => y1 y (by omega))
      have hS2 := q2.sent hpl2 y1
      refine rw_stk (st' := [.ref (p + 3 + 5 * j)]) rfl ?_
      refine rw_pop d_Node_work_41 rfl ?_
      refine rw_aload_n d_Node_work_42 rfl (by first | exact mm_ref_r _ | exact mm_ref_n | exact mm_ref_o _) ?_
      refine rw_iconst (v := 0) d_Node_work_43 (by decide) ?_
      refine rw_put d_Node_work_44 (fP_Node_79 _) hN2.1 (Nat.le_of_ble_eq_true rfl) (by first | rfl | assumption | decide) (by first | rfl | assumption | decide) ?_
      have hF4 : ∀ e1, Fr M2 (mup M2 a e1) a 15 := fun e1 => Fr.mup Fr.rf (by omega) (by omega)
      simp only [if_pos c2] at ep
      have e1 : (pWork E n x).1 = (if eL E (pu x1 2 0 4) = n then pu (pLead E n (pu x1 2 0)).1 3 0 else pu (pu x1 2 0) 3 0) := by
        rw [ep]
        split <;> rfl
      have e2 : (pWork E n x).2 = [((1, n, 99, x1 4, 0, 0) : pMsg)] ++ (if eL E (pu x1 2 0 4) = n then (pLead E n (pu x1 2 0)).2 else if pu x1 2 0 3 = 1 ∧ eL E (pu x1 2 0 4) ≠ 99 then [((5, n, eL E (pu x1 2 0 4), pu x1 2 0 4, pu x1 2 0 6, pu x1 2 0 5) : pMsg)] else []) := by
        rw [ep]
        split <;> rfl
      rw [e1, e2]
      exact work_tail (h := [((1, n, 99, x1 4, 0, 0) : pMsg)]) (hN2.flag (f := 2) (v := 0) (by omega) (by omega) rfl) (hS2.node hN2 hpa (hF4 _)) (q3.trans ((Fr2.of0 y1).trans (Fr2.of1 (hF4 _)))) hpa hn (fun m hm => by rw [pu_ne _ _ (by omega)]; exact h30f m hm)
end WORK
end
section
/-! VersionGroup: the whole picture; a message arrives. -/
abbrev vgO (v : Nat) (y : pN) : va_E := .inr (10, [.ref (v + 2), .ref (v + 330), .ref (v + 332), .ref (v + 336), .int (nI (y 3))])
/-- globals y: 0 epoch, 1 given, 2 told, 3 calm, 20+n heard of n, 40+j arrived -/
def VgP (G : mm_G) (M : mm_M) (ca : Nat → Nat) (cm : Nat → pCm) (g : Nat) (E : pE) (v : Nat) (nd : Nat → pN) (post : List pMsg) (y : pN) : Prop :=
  M v = some (vgO v y) ∧ (∃ f, M (v + 336) = some (aR 5 (eN E) f) ∧ ∀ n, n < eN E → f n = some (v + 337 + 15 * n)) ∧ SyP G M ca cm g E (v + 1) (v + 2) post ∧ KpP M E (v + 330) (v + 1) (v + 2) (y 0) (fun n => y (20 + n)) ∧ DkP M ca cm (v + 332) (v + 2) (y 1) (y 2) (fun j => y (40 + j)) ∧ y 1 = g ∧
  (∀ n, n < eN E → NdP M ca cm g E (v + 1) (v + 2) (v + 337 + 15 * n) n (nd n)) ∧ y 0 < 1000000 ∧ (∀ n, n < eN E → y (20 + n) < 1000000) ∧ y 3 ≤ 1 ∧ 3 ≤ eN E
/-- a message arrives -/
def pArr (E : pE) (nd : Nat → pN) (post : List pMsg) (y : pN) (m : pMsg) : (Nat → pN) × List pMsg × pN :=
  if m.1 = 1 then (nd, post, pu y (20 + m.2.1) (max (y (20 + m.2.1)) m.2.2.2.1))
  else if m.1 = 3 then (nd, post, if y 2 ≤ m.2.2.2.2.1 ∧ m.2.2.2.2.1 < y 1 then pu y (40 + m.2.2.2.2.1 % 8) 1 else y)
  else if nd m.2.2.1 0 = 1 then (va_up nd m.2.2.1 (pHear E m.2.2.1 (nd m.2.2.1) m).1, pSend post (pHear E m.2.2.1 (nd m.2.2.1) m).2, y)
  else (nd, post, y)
theorem KpP.ext {M : mm_M} {E : pE} {k pl p ep : Nat} {hd hd' : Nat → Nat} (h : KpP M E k pl p ep hd) (e : ∀ n, n < eN E → hd' n = hd n) : KpP M E k pl p ep hd' := by
  obtain ⟨f, h1, h2, h3⟩ := h
  exact ⟨f, h1, h2, fun n hn => by rw [e n hn]; exact h3 n hn⟩
theorem DkP.ext {M : mm_M} {ca : Nat → Nat} {cm : Nat → pCm} {k p gv td : Nat} {ar ar' : Nat → Nat} (h : DkP M ca cm k p gv td ar) (e : ∀ j, j < 8 → ar' j = ar j) : DkP M ca cm k p gv td ar' := by
  obtain ⟨cs, arr, an, h0, h1, h2, h3, b1, b2, b3, b4, b5, b6⟩ := h
  exact ⟨cs, arr, an, h0, h1, h2, h3, b1, b2, b3, b4, fun j hj => by rw [e j hj]; exact b5 j hj, fun i i1 i2 => b6 i i1 (i2.imp id (fun z => by rw [← e _ (Nat.mod_lt _ (by omega))]; exact z))⟩
theorem SyP.out {G : mm_G} {M M' : mm_M} {ca : Nat → Nat} {cm : Nat → pCm} {g : Nat} {E : pE} {pl p z n : Nat} {post : List pMsg} (h : SyP G M ca cm g E pl p post) (hz : p + 328 ≤ z) (ha : ∀ i, i < g → ca i < z ∨ z + n ≤ ca i) (hF : Fr M M' z n) : SyP G M' ca cm g E pl p post :=
  ⟨h.1.kept (fun q y1 y2 => hF q (by omega)), h.2.1.kept (fun i hi => hF _ (ha i hi)), (hF _ (by have := h.2.2.2.1; omega)).trans h.2.2.1, h.2.2.2⟩
theorem KpP.apart {M : mm_M} {E : pE} {ca : Nat → Nat} {cm : Nat → pCm} {g : Nat} {k pl p ep i : Nat} {hd : Nat → Nat} (h : KpP M E k pl p ep hd) (hA : CmA M ca cm g) (hi : i < g) : ca i < k ∨ k + 2 ≤ ca i := by
  obtain ⟨f, h1, h2, h3⟩ := h
  have e := (hA i hi).2
  have q0 : ca i ≠ k := fun q => by rw [q, h1] at e; cases e
  have q1 : ca i ≠ k + 1 := fun q => by rw [q, h2] at e; cases e
  omega
theorem DkP.apart {M : mm_M} {ca : Nat → Nat} {cm : Nat → pCm} {g : Nat} {k p gv td i : Nat} {ar : Nat → Nat} (h : DkP M ca cm k p gv td ar) (hA : CmA M ca cm g) (hi : i < g) : ca i < k ∨ k + 4 ≤ ca i := by
  obtain ⟨cs, arr, an, h0, h1, h2, h3, -⟩ := h
  have e := (hA i hi).2
  have q0 : ca i ≠ k := fun q => by rw [q, h0] at e; cases e
  have q1 : ca i ≠ k + 1 := fun q => by rw [q, h1] at e; cases e
  have q2 : ca i ≠ k + 2 := fun q => by rw [q, h2] at e; cases e
  have q3 : ca i ≠ k + 3 := fun q => by rw [q, h3] at e; cases e
  omega
section VG
variable {l : Launch} {G : mm_G} {sz : Nat} {ca : Nat → Nat} {cm : Nat → pCm} {g : Nat} {E : pE} {v : Nat} {nd : Nat → pN} {post : List pMsg} {y : pN}
/-- all cells of the object -/
abbrev vgN (E : pE) : Nat := 337 + 15 * eN E
/-- a node and the post changed -/
theorem VgP.node {M M' : mm_M} {n : Nat} {x' : pN} {post' : List pMsg} (h : VgP G M ca cm g E v nd post y) (hn : n < eN E) (hN : NdP M' ca cm g E (v + 1) (v + 2) (v + 337 + 15 * n) n x') (hS : SyP G M' ca cm g E (v + 1) (v + 2) post') (hF : Fr2 M M' (v + 2) (v + 337 + 15 * n)) : VgP G M' ca cm g E v (va_up nd n x') post' y := by
  obtain ⟨h0, ⟨f, h1, h1b⟩, h2, h3, h4, h5, h6, h7, h8, h9⟩ := h
  refine ⟨(hF _ (by omega) (by omega)).trans h0, ⟨f, (hF _ (by omega) (by omega)).trans h1, h1b⟩, hS, h3.kept (fun q y1 y2 => hF q (by omega) (by omega)), h4.kept (fun q y1 y2 => hF q (by omega) (by omega)), h5, fun m hm => ?_, h7, h8, h9⟩
  by_cases z : m = n
  · subst z
    rw [va_up_self]
    exact hN
  · rw [va_up_ne _ _ z]
    exact (h6 m hm).kept (fun q y1 y2 => hF q (by omega) (by omega))
theorem Fr2.vg {M M' : mm_M} {n : Nat} (hn : n < eN E) (hF : Fr2 M M' (v + 2) (v + 337 + 15 * n)) : Fr M M' v (vgN E) := fun q hq => hF q (by simp only [vgN] at hq; omega) (by simp only [vgN] at hq; omega)
theorem c_isNode {M : mm_M} {k : Int32} (h : VgP G M ca cm g E v nd post y) : CT l G Y_VG_isNode ds_VG_isNode (rm 1) [.ref v, .int k] M sz (fun r M' sz' => (∃ c : Bool, r = some (.int (bI c)) ∧ (c = true ↔ ∃ n, n < eN E ∧ k = nI n)) ∧ M' = M ∧ sz' = sz) := by
  obtain ⟨h0, ⟨f, h1, h1b⟩, h2, -⟩ := id h
  have hN7 := h2.2.2.2.2.1
  refine CT.of (by decide) (Nat.le_of_ble_eq_true rfl) ?_
  refine rw_iload_n d_VG_isNode_0 rfl ?_
  refine rw_if_lt (tgt := 17) d_VG_isNode_1 (by decide) (fun q => ?_) (fun q => ?_)
  · refine rw_iconst (v := 0) d_VG_isNode_17 (by decide) ?_
    refine rw_zret d_VG_isNode_18 rfl rfl ⟨⟨false, rfl, (fun z => by cases z), fun ⟨n, hn, z⟩ => ?_⟩, rfl, rfl⟩
    rw [z] at q
    exact absurd q (nI_pos (by omega))
  · refine rw_iload_n d_VG_isNode_4 rfl ?_
    refine rw_aload_n d_VG_isNode_5 rfl (by first | exact mm_ref_r _ | exact mm_ref_n | exact mm_ref_o _) ?_
    refine rw_get d_VG_isNode_6 fF_VG_54 h0 rfl ?_
    refine rw_alen d_VG_isNode_9 h1 (by decide) rfl ?_
    obtain ⟨n, hn, rfl⟩ := nI_of q
    by_cases c : n < eN E
    · refine rw_icmp_ge_f (tgt := 17) d_VG_isNode_10 (by decide) (nI_ge (a := n) (b := eN E) c (by omega)) ?_
      refine rw_iconst (v := 1) d_VG_isNode_13 (by decide) ?_
      refine rw_goto (tgt := 18) d_VG_isNode_14 (by decide) ?_
      exact rw_zret d_VG_isNode_18 rfl rfl ⟨⟨true, rfl, fun _ => ⟨n, c, rfl⟩, fun _ => rfl⟩, rfl, rfl⟩
    · refine rw_icmp_ge_t (tgt := 17) d_VG_isNode_10 (by decide) (nI_le (a := eN E) (b := n) (by omega) hn) ?_
      refine rw_iconst (v := 0) d_VG_isNode_17 (by decide) ?_
      refine rw_zret d_VG_isNode_18 rfl rfl ⟨⟨false, rfl, (fun z => by cases z), fun ⟨n2, hn2, z⟩ => ?_⟩, rfl, rfl⟩
      rw [nI_eq hn (by omega)] at z
      omega
def VgQ (G : mm_G) (M : mm_M) (sz : Nat) (ca : Nat → Nat) (cm : Nat → pCm) (g : Nat) (E : pE) (v : Nat) (s : (Nat → pN) × List pMsg × pN) : Option Value → mm_M → Nat → Prop := fun r M' sz' => r = none ∧ sz' = sz ∧ VgP G M' ca cm g E v s.1 s.2.1 s.2.2 ∧ Fr M M' v (vgN E)
set_option maxRecDepth 100000 in
theorem c_arrive {M : mm_M} {j : Nat} {m : pMsg} (h : VgP G M ca cm g E v nd post y) (hj : j < 64) (hm : MsP G M ca cm g E (v + 2 + 3 + 5 * j) m) (hok : mOk E m) : CT l G Y_VG_arrive ds_VG_arrive (rm 6) [.ref v, .ref (v + 2 + 3 + 5 * j)] M sz (VgQ G M sz ca cm g E v (pArr E nd post y m)) := by
  obtain ⟨h0, ⟨f, h1, h1b⟩, h2, h3, h4, h5, h6, h7, h8, h9, h10⟩ := id h
  obtain ⟨hP, hA, hpl, hlt, hN7, hCN, -, hg, hM64, -⟩ := id h2
  obtain ⟨k, fr, t, e, u, w⟩ := m
  obtain ⟨o1, o2, o3, o4, o5, o6⟩ := id hok
  simp only at o1 o2 o3 o4 o5 o6
  obtain ⟨s, en, dn, nu, an, cv, d0, b0, w1, w2, w3, w4, w5, w6, w7, w8, w9⟩ := id hm
  simp only at w1 w4 w5 w6 w7 w8 w9
  obtain ⟨fk, k0, k1, k2⟩ := id h3
  obtain ⟨cs, arr, an2, d1, d2, d3, d4, e1, e2, e3, e4, e5, e6⟩ := id h4
  refine CT.of (by decide) (Nat.le_of_ble_eq_true rfl) ?_
  refine rw_aload_n d_VG_arrive_0 rfl (by first | exact mm_ref_r _ | exact mm_ref_n | exact mm_ref_o _) ?_
  refine rw_get d_VG_arrive_1 fF_VG_195 w1 rfl ?_
  refine rw_kind (i := 1) (by decide) fS_VG_201 d_VG_arrive_4 ?_
  by_cases c1 : k = 1
  · subst c1
    have hfr := o3 (by omega)
    refine rw_acmp_ne_f (tgt := 21) d_VG_arrive_7 (by decide) ?_
    refine rw_aload_n d_VG_arrive_10 rfl (by first | exact mm_ref_r _ | exact mm_ref_n | exact mm_ref_o _) ?_
    refine rw_get d_VG_arrive_11 fF_VG_35 h0 rfl ?_
    refine rw_aload_n d_VG_arrive_14 rfl (by first | exact mm_ref_r _ | exact mm_ref_n | exact mm_ref_o _) ?_
    refine rw_callV (kc := 0) (ks := 0) (rest := []) d_VG_arrive_15 (c_kHear hN7 hfr o2 h8 hpl h3 w1) mW_MapKeeper_hear mL_VG_206 mI_MapKeeper_hear mE_MapKeeper_hear ⟨by decide, by decide⟩ k0 rfl rfl rfl rfl (Nat.le_of_ble_eq_true rfl) (fun r M1 sz1 hq => ?_)
    obtain ⟨rfl, rfl, q1, q2⟩ := hq
    refine rw_stk (st' := []) rfl ?_
    refine rw_goto (tgt := 81) d_VG_arrive_18 (by decide) ?_
    have hF : Fr M M1 (v + 330) 2 := fun q hq => q2 q (by omega)
    have ep : pArr E nd post y (1, fr, t, e, u, w) = (nd, post, pu y (20 + fr) (max (y (20 + fr)) e)) := by simp [pArr]
    rw [ep]
    have ey : ∀ z, z ≠ 20 + fr → pu y (20 + fr) (max (y (20 + fr)) e) z = y z := fun z hz => pu_ne _ _ hz
    have hb := h8 fr hfr
    refine rw_vret d_VG_arrive_81 rfl ⟨rfl, rfl, ⟨?_, ⟨f, (q2 _ (by omega)).trans h1, h1b⟩, h2.out (by omega) (fun i hi => h3.apart hA hi) hF, ?_, ?_, ?_, fun m hm => (h6 m hm).kept (fun q y1 y2 => q2 q (by omega)), ?_, fun m hm => ?_, ?_, h10⟩, hF.wider (by omega) (by simp only [vgN]; omega)⟩
    · rw [q2 _ (by omega), h0]
      simp only [vgO]
      rw [ey 3 (by omega)]
    · simp only
      rw [ey 0 (by omega)]
      refine q1.ext (fun m hm => ?_)
      by_cases z : m = fr
      · rw [z, va_up_self, pu_self]
      · rw [va_up_ne _ _ z, ey _ (by omega)]
    · simp only
      rw [ey 1 (by omega), ey 2 (by omega)]
      exact (h4.kept (fun q y1 y2 => q2 q (by omega))).ext (fun m hm => ey _ (by omega))
    · simp only
      rw [ey 1 (by omega)]
      exact h5
    · simp only
      rw [ey 0 (by omega)]
      exact h7
    · by_cases z : m = fr
      · simp only
        rw [z, pu_self]
        omega
      · simp only
        rw [ey _ (by omega)]
        exact h8 m hm
    · simp only
      rw [ey 3 (by omega)]
      exact h9
  · refine rw_acmpK_t (tgt := 21) o1 (by decide) c1 d_VG_arrive_7 (by decide) ?_
    refine rw_aload_n d_VG_arrive_21 rfl (by first | exact mm_ref_r _ | exact mm_ref_n | exact mm_ref_o _) ?_
    refine rw_get d_VG_arrive_22 fF_VG_195 w1 rfl ?_
    refine rw_kind (i := 3) (by decide) fS_VG_209 d_VG_arrive_25 ?_
    by_cases c3 : k = 3
    · subst c3
      obtain ⟨rfl, rfl⟩ := w6 rfl
      refine rw_acmp_ne_f (tgt := 42) d_VG_arrive_28 (by decide) ?_
      refine rw_aload_n d_VG_arrive_31 rfl (by first | exact mm_ref_r _ | exact mm_ref_n | exact mm_ref_o _) ?_
      refine rw_get d_VG_arrive_32 fF_VG_44 h0 rfl ?_
      refine rw_aload_n d_VG_arrive_35 rfl (by first | exact mm_ref_r _ | exact mm_ref_n | exact mm_ref_o _) ?_
      refine rw_callV (kc := 0) (ks := 0) (rest := []) d_VG_arrive_36 (c_dHear (x := u) h4 (by omega) w1) mW_Desk_hear mL_VG_212 mI_Desk_hear mE_Desk_hear ⟨by decide, by decide⟩ d1 rfl rfl rfl rfl (Nat.le_of_ble_eq_true rfl) (fun r M1 sz1 hq => ?_)
      obtain ⟨rfl, rfl, q1, q2⟩ := hq
      refine rw_stk (st' := []) rfl ?_
      refine rw_goto (tgt := 81) d_VG_arrive_39 (by decide) ?_
      have ep : pArr E nd post y (3, fr, t, e, u, w) = (nd, post, if y 2 ≤ u ∧ u < y 1 then pu y (40 + u % 8) 1 else y) := by simp [pArr]
      rw [ep]
      have hm8 : u % 8 < 8 := Nat.mod_lt _ (by omega)
      have ey : ∀ z, z < 40 → (if y 2 ≤ u ∧ u < y 1 then pu y (40 + u % 8) 1 else y) z = y z := fun z hz => by
        split
        · exact pu_ne _ _ (by omega)
        · rfl
      refine rw_vret d_VG_arrive_81 rfl ⟨rfl, rfl, ⟨?_, ⟨f, (q2 _ (by omega)).trans h1, h1b⟩, h2.out (by omega) (fun i hi => h4.apart hA hi) q2, ?_, ?_, ?_, fun m hm => (h6 m hm).kept (fun q y1 y2 => q2 q (by omega)), ?_, fun m hm => ?_, ?_, h10⟩, q2.wider (by omega) (by simp only [vgN]; omega)⟩
      · rw [q2 _ (by omega), h0]
        simp only [vgO]
        rw [ey 3 (by omega)]
      · simp only
        rw [ey 0 (by omega)]
        exact (h3.kept (fun q y1 y2 => q2 q (by omega))).ext (fun m hm => ey _ (by omega))
      · simp only
        rw [ey 1 (by omega), ey 2 (by omega)]
        refine q1.ext (fun m hm => ?_)
        split
        · by_cases z : m = u % 8
          · rw [z, va_up_self, pu_self]
          · rw [va_up_ne _ _ z, pu_ne _ _ (by omega)]
        · rfl
      · simp only
        rw [ey 1 (by omega)]
        exact h5
      · simp only
        rw [ey 0 (by omega)]
        exact h7
      · simp only
        rw [ey _ (by omega)]
        exact h8 m hm
      · simp only
        rw [ey 3 (by omega)]
        exact h9
    · refine rw_acmpK_t (tgt := 42) o1 (by decide) c3 d_VG_arrive_28 (by decide) ?_
      have ht := o4 c1 c3
      have egt : gI t = nI t := by rw [gI, if_neg (by omega)]
      rw [egt] at w1
      have hit := vp_in_nI ht (show eN E < 2147483648 by omega)
      have hNt := h6 t ht
      have b0 := hNt.2.2.2.2.2 0 (by omega)
      refine rw_aload_n d_VG_arrive_42 rfl (by first | exact mm_ref_r _ | exact mm_ref_n | exact mm_ref_o _) ?_
      refine rw_aload_n d_VG_arrive_43 rfl (by first | exact mm_ref_r _ | exact mm_ref_n | exact mm_ref_o _) ?_
      refine rw_get d_VG_arrive_44 fF_VG_213 w1 rfl ?_
      refine rw_callV (kc := 0) (ks := 0) (rest := []) d_VG_arrive_47 (c_isNode (k := nI t) h) mW_VG_isNode mL_VG_102 mI_VG_isNode mE_VG_isNode ⟨by decide, by decide⟩ h0 rfl rfl rfl rfl (Nat.le_of_ble_eq_true rfl) (fun r M1 sz1 hq => ?_)
      obtain ⟨⟨c, rfl, hc⟩, rfl, rfl⟩ := hq
      have hct : c = true := hc.mpr ⟨t, ht, rfl⟩
      subst hct
      refine rw_stk (st' := [.int (bI true)]) rfl ?_
      refine rw_if_eq_f (tgt := 81) d_VG_arrive_50 (by decide) (by decide) ?_
      refine rw_aload_n d_VG_arrive_53 rfl (by first | exact mm_ref_r _ | exact mm_ref_n | exact mm_ref_o _) ?_
      refine rw_get d_VG_arrive_54 fF_VG_54 h0 rfl ?_
      refine rw_aload_n d_VG_arrive_57 rfl (by first | exact mm_ref_r _ | exact mm_ref_n | exact mm_ref_o _) ?_
      refine rw_get d_VG_arrive_58 fF_VG_213 w1 rfl ?_
      refine rw_aald d_VG_arrive_61 h1 (by decide) rfl hit ?_
      rw [nI_c (by omega), h1b t ht]
      refine rw_stk (st' := [.ref (v + 337 + 15 * t)]) rfl ?_
      refine rw_get d_VG_arrive_62 fF_VG_105 hNt.1 rfl ?_
      rcases (show nd t 0 = 0 ∨ nd t 0 = 1 by omega) with c5 | c5
      · rw [c5]
        refine rw_if_eq_t (tgt := 81) d_VG_arrive_65 (by decide) (rfl) ?_
        have ep : pArr E nd post y (k, fr, t, e, u, w) = (nd, post, y) := by simp [pArr, c1, c3, c5]
        rw [ep]
        exact rw_vret d_VG_arrive_81 rfl ⟨rfl, rfl, h, Fr.rf⟩
      · rw [c5]
        refine rw_if_eq_f (tgt := 81) d_VG_arrive_65 (by decide) (by decide) ?_
        refine rw_aload_n d_VG_arrive_68 rfl (by first | exact mm_ref_r _ | exact mm_ref_n | exact mm_ref_o _) ?_
        refine rw_get d_VG_arrive_69 fF_VG_54 h0 rfl ?_
        refine rw_aload_n d_VG_arrive_72 rfl (by first | exact mm_ref_r _ | exact mm_ref_n | exact mm_ref_o _) ?_
        refine rw_get d_VG_arrive_73 fF_VG_213 w1 rfl ?_
        refine rw_aald d_VG_arrive_76 h1 (by decide) rfl hit ?_
        rw [nI_c (by omega), h1b t ht]
        refine rw_stk (st' := [.ref (v + 337 + 15 * t)]) rfl ?_
        refine rw_aload_n d_VG_arrive_77 rfl (by first | exact mm_ref_r _ | exact mm_ref_n | exact mm_ref_o _) ?_
        refine rw_callV (kc := 0) (ks := 0) (rest := []) d_VG_arrive_78 (c_hear hNt h2 (by omega) ht hj hm hok c1 c3) mW_Node_hear mL_VG_216 mI_Node_hear mE_Node_hear ⟨by decide, by decide⟩ hNt.1 rfl rfl rfl rfl (Nat.le_of_ble_eq_true rfl) (fun r M2 sz2 hq => ?_)
        obtain ⟨rfl, rfl, q1, q2, q3⟩ := hq
        refine rw_stk (st' := []) rfl ?_
        have ep : pArr E nd post y (k, fr, t, e, u, w) = (va_up nd t (pHear E t (nd t) (k, fr, t, e, u, w)).1, pSend post (pHear E t (nd t) (k, fr, t, e, u, w)).2, y) := by simp [pArr, c1, c3, c5]
        rw [ep]
        exact rw_vret d_VG_arrive_81 rfl ⟨rfl, rfl, h.node ht q1 q2 q3, Fr2.vg ht q3⟩
end VG
end
section
/-! VersionGroup: bring, drop, bringAll, passOneTick. -/
abbrev pSt : Type := (Nat → pN) × List pMsg × pN
/-- the works of the nodes below k -/
def pWk (E : pE) (nd : Nat → pN) : Nat → List pMsg
  | 0 => []
  | k + 1 => pWk E nd k ++ (pWork E k (nd k)).2
def pWn (E : pE) (nd : Nat → pN) (k : Nat) : Nat → pN := fun n => if n < k then (pWork E n (nd n)).1 else nd n
def pTick (E : pE) (s : pSt) : pSt := (pWn E s.1 (eN E), pSend (pSend (pSend s.2.1 (pProc (s.2.2 0) (fun n => s.2.2 (20 + n)) (eN E))) (pReqs (eL E (s.2.2 0)) (s.2.2 0) (fun j => s.2.2 (40 + j)) (s.2.2 2) (s.2.2 1 - s.2.2 2))) (pWk E s.1 (eN E)), s.2.2)
/-- a message arrives and is taken away -/
def pGo (E : pE) (s : pSt) (i : Nat) (m : pMsg) : pSt := ((pArr E s.1 s.2.1 s.2.2 m).1, (pArr E s.1 s.2.1 s.2.2 m).2.1.eraseIdx i, (pArr E s.1 s.2.1 s.2.2 m).2.2)
def pBA (E : pE) : Nat → pSt → pSt
  | 0, s => s
  | f + 1, s => match s.2.1 with
    | [] => s
    | m :: _ => pBA E f (pGo E s 0 m)
/-- J holds the machine's words, and stays -/
def Jc (E : pE) (J : pSt → Prop) : Prop := (∀ s, J s → (∀ m ∈ s.2.1, mOk E m) ∧ ∀ n, n < eN E → ∀ m, m < eN E → s.1 n (30 + m) < 1000000) ∧ (∀ (s : pSt) (i : Nat) (m : pMsg), J s → s.2.1[i]? = some m → J (pArr E s.1 s.2.1 s.2.2 m)) ∧ (∀ (s : pSt) (i : Nat), J s → J (s.1, s.2.1.eraseIdx i, s.2.2)) ∧ ∀ s, J s → J (pTick E s)
theorem pSend_len {post a : List pMsg} (h : post.length ≤ 64) : post.length ≤ (pSend post a).length := by
  unfold pSend
  rw [List.length_take, List.length_append]
  omega
theorem pArr_len {E : pE} {nd : Nat → pN} {post : List pMsg} {y : pN} {m : pMsg} (h : post.length ≤ 64) : post.length ≤ (pArr E nd post y m).2.1.length := by
  unfold pArr
  split
  · exact Nat.le_refl _
  · split
    · exact Nat.le_refl _
    · split
      · exact pSend_len h
      · exact Nat.le_refl _
section BRING
variable {l : Launch} {G : mm_G} {sz : Nat} {ca : Nat → Nat} {cm : Nat → pCm} {g : Nat} {E : pE} {v : Nat} {J : pSt → Prop}
theorem VgP.sent {M M' : mm_M} {nd : Nat → pN} {post post' : List pMsg} {y : pN} (h : VgP G M ca cm g E v nd post y) (hP : PsP G M' ca cm g E (v + 2) post') (hF : Fr M M' (v + 2) 328) : VgP G M' ca cm g E v nd post' y := by
  obtain ⟨h0, ⟨f, h1, h1b⟩, h2, h3, h4, h5, h6, h7⟩ := h
  exact ⟨(hF _ (by omega)).trans h0, ⟨f, (hF _ (by omega)).trans h1, h1b⟩, h2.sent hP hF, h3.kept (fun q y1 y2 => hF q (by omega)), h4.kept (fun q y1 y2 => hF q (by omega)), h5, fun n hn => (h6 n hn).kept (fun q y1 y2 => hF q (by omega)), h7⟩
theorem VgP.len {M : mm_M} {nd : Nat → pN} {post : List pMsg} {y : pN} (h : VgP G M ca cm g E v nd post y) : post.length ≤ 64 := h.2.2.1.1.len
theorem VgP.post {M : mm_M} {nd : Nat → pN} {post : List pMsg} {y : pN} (h : VgP G M ca cm g E v nd post y) : M (v + 2) = some (.inr (4, [.ref (v + 2 + 1), .ref (v + 2 + 2), .int (nI post.length)])) := by
  obtain ⟨sl, f, ord, z, -⟩ := h.2.2.1.1
  exact z
/-- what a call leaves of which J alone is known -/
def VjQ (G : mm_G) (M : mm_M) (sz : Nat) (ca : Nat → Nat) (cm : Nat → pCm) (g : Nat) (E : pE) (v : Nat) (J : pSt → Prop) : Option Value → mm_M → Nat → Prop := fun r M' sz' => r = none ∧ sz' = sz ∧ (∃ s : pSt, J s ∧ VgP G M' ca cm g E v s.1 s.2.1 s.2.2) ∧ Fr M M' v (vgN E)
theorem Fr.vg {M M' : mm_M} (h : Fr M M' (v + 2) 328) : Fr M M' v (vgN E) := h.wider (by omega) (by simp only [vgN]; omega)
set_option maxRecDepth 100000 in
theorem bring_loop {M : mm_M} {i t : Nat} (hJ : Jc E J) (ht : t < 100) : ∀ (m k : Nat) (M1 : mm_M) (s : pSt), m + k = t → J s → VgP G M1 ca cm g E v s.1 s.2.1 s.2.2 → i < s.2.1.length → Fr M M1 v (vgN E) →
    RW l G Y_VG_bring (rm 7) (mm_Z G (rm 7) (VjQ G M sz ca cm g E v J)) 0 0 26 [(0, .ref v), (2, .int (nI t)), (3, .int (nI i)), (4, .int (nI k))] [] M1 sz := by
  intro m
  induction m with
  | zero =>
    intro k M1 s hk hs h hi hF
    refine rw_iload d_VG_bring_26 rfl ?_
    refine rw_iload_n d_VG_bring_28 rfl ?_
    refine rw_icmp_ge_t (tgt := 50) d_VG_bring_29 (by decide) (nI_le (by omega) (by omega)) ?_
    refine rw_aload_n d_VG_bring_50 rfl (by first | exact mm_ref_r _ | exact mm_ref_n | exact mm_ref_o _) ?_
    refine rw_get d_VG_bring_51 fF_VG_24 h.1 rfl ?_
    refine rw_iload_n d_VG_bring_54 rfl ?_
    refine rw_callV (kc := 0) (ks := 0) (rest := []) d_VG_bring_55 (c_remove h.2.2.1.1 hi) mW_Post_remove mL_VG_191 mI_Post_remove mE_Post_remove ⟨by decide, by decide⟩ h.post rfl rfl rfl rfl (Nat.le_of_ble_eq_true rfl) (fun r M2 sz2 hq => ?_)
    obtain ⟨rfl, rfl, q1, q2⟩ := hq
    refine rw_stk (st' := []) rfl ?_
    exact rw_vret d_VG_bring_58 rfl ⟨rfl, rfl, ⟨(s.1, s.2.1.eraseIdx i, s.2.2), hJ.2.2.1 s i hs, h.sent q1 q2⟩, hF.trans (Fr.vg q2)⟩
  | succ m ih =>
    intro k M1 s hk hs h hi hF
    have hm : s.2.1[i]? = some s.2.1[i] := List.getElem?_eq_getElem hi
    refine rw_iload d_VG_bring_26 rfl ?_
    refine rw_iload_n d_VG_bring_28 rfl ?_
    refine rw_icmp_ge_f (tgt := 50) d_VG_bring_29 (by decide) (nI_ge (by omega) (by omega)) ?_
    refine rw_aload_n d_VG_bring_32 rfl (by first | exact mm_ref_r _ | exact mm_ref_n | exact mm_ref_o _) ?_
    refine rw_aload_n d_VG_bring_33 rfl (by first | exact mm_ref_r _ | exact mm_ref_n | exact mm_ref_o _) ?_
    refine rw_get d_VG_bring_34 fF_VG_24 h.1 rfl ?_
    refine rw_iload_n d_VG_bring_37 rfl ?_
    refine rw_callV (kc := 0) (ks := 0) (rest := [.ref v]) d_VG_bring_38 (c_look h.2.2.1.1 hm) mW_Post_look mL_VG_183 mI_Post_look mE_Post_look ⟨by decide, by decide⟩ h.post rfl rfl rfl rfl (Nat.le_of_ble_eq_true rfl) (fun r M2 sz2 hq => ?_)
    obtain ⟨rfl, rfl, j, hj, rfl, q1⟩ := hq
    refine rw_stk (st' := [.ref (v + 2 + 3 + 5 * j), .ref v]) rfl ?_
    refine rw_callV (kc := 0) (ks := 0) (rest := []) d_VG_bring_41 (c_arrive h hj q1 ((hJ.1 s hs).1 _ (List.getElem_mem hi))) mW_VG_arrive mL_VG_187 mI_VG_arrive mE_VG_arrive ⟨by decide, by decide⟩ h.1 rfl rfl rfl rfl (Nat.le_of_ble_eq_true rfl) (fun r M3 sz3 hq => ?_)
    obtain ⟨rfl, rfl, q3, q4⟩ := hq
    refine rw_stk (st' := []) rfl ?_
    refine rw_iinc d_VG_bring_44 (by decide) rfl rfl rfl ?_
    refine rw_lv (lv' := [(0, .ref v), (2, .int (nI t)), (3, .int (nI i)), (4, .int (nI (k + 1)))]) (by rw [← nI_1]; intro q hq; simp at hq; rcases hq with rfl | rfl | rfl | rfl <;> rfl) ?_
    refine rw_goto (tgt := 26) d_VG_bring_47 (by decide) ?_
    exact ih (k + 1) M3 (pArr E s.1 s.2.1 s.2.2 s.2.1[i]) (by omega) (hJ.2.1 s i _ hs hm) q3 (Nat.lt_of_lt_of_le hi (pArr_len h.len)) (hF.trans q4)
set_option maxRecDepth 100000 in
theorem c_bring {M : mm_M} {s : pSt} {k : Int32} {t : Nat} (hJ : Jc E J) (ht : t < 100) (hs : J s) (h : VgP G M ca cm g E v s.1 s.2.1 s.2.2) : CT l G Y_VG_bring ds_VG_bring (rm 7) [.ref v, .int k, .int (nI t)] M sz (VjQ G M sz ca cm g E v J) := by
  have hl := h.len
  refine CT.of (by decide) (Nat.le_of_ble_eq_true rfl) ?_
  refine rw_aload_n d_VG_bring_0 rfl (by first | exact mm_ref_r _ | exact mm_ref_n | exact mm_ref_o _) ?_
  refine rw_get d_VG_bring_1 fF_VG_24 h.1 rfl ?_
  refine rw_get d_VG_bring_4 fF_VG_125 h.post rfl ?_
  by_cases c : s.2.1.length = 0
  · rw [c]
    refine rw_if_ne_f (tgt := 11) d_VG_bring_7 (by decide) (by decide) ?_
    exact rw_vret d_VG_bring_10 rfl ⟨rfl, rfl, ⟨s, hs, h⟩, Fr.rf⟩
  · refine rw_if_ne_t (tgt := 11) d_VG_bring_7 (by decide) (nI_ne0 (by omega) (by omega)) ?_
    refine rw_iload_n d_VG_bring_11 rfl ?_
    refine rw_aload_n d_VG_bring_12 rfl (by first | exact mm_ref_r _ | exact mm_ref_n | exact mm_ref_o _) ?_
    refine rw_get d_VG_bring_13 fF_VG_24 h.1 rfl ?_
    refine rw_get d_VG_bring_16 fF_VG_125 h.post rfl ?_
    refine rw_callS (kc := 0) (ks := 0) (rest := []) d_VG_bring_19 (c_floorMod (x := k) (n := s.2.1.length) (by omega) (by omega)) mW_Math_floorMod mL_VG_180 mS_Math_floorMod ⟨by decide, by decide⟩ rfl rfl (Nat.le_of_ble_eq_true rfl) (fun r M1 sz1 hq => ?_)
    obtain ⟨⟨i, hi, rfl⟩, rfl, rfl⟩ := hq
    refine rw_stk (st' := [.int (nI i)]) rfl ?_
    refine rw_istore_n d_VG_bring_22 (by decide) rfl ?_
    refine rw_iconst (v := 0) d_VG_bring_23 (by decide) ?_
    refine rw_istore d_VG_bring_24 (by decide) rfl ?_
    refine rw_lv (lv' := [(0, .ref v), (2, .int (nI t)), (3, .int (nI i)), (4, .int (nI 0))]) (by intro q hq; simp at hq; rcases hq with rfl | rfl | rfl | rfl <;> rfl) ?_
    exact bring_loop hJ ht t 0 _ s (by omega) hs h hi Fr.rf
theorem c_drop {M : mm_M} {s : pSt} {k : Int32} (hJ : Jc E J) (hs : J s) (h : VgP G M ca cm g E v s.1 s.2.1 s.2.2) : CT l G Y_VG_drop ds_VG_drop (rm 2) [.ref v, .int k] M sz (VjQ G M sz ca cm g E v J) := by
  have hl := h.len
  refine CT.of (by decide) (Nat.le_of_ble_eq_true rfl) ?_
  refine rw_aload_n d_VG_drop_0 rfl (by first | exact mm_ref_r _ | exact mm_ref_n | exact mm_ref_o _) ?_
  refine rw_get d_VG_drop_1 fF_VG_24 h.1 rfl ?_
  refine rw_get d_VG_drop_4 fF_VG_125 h.post rfl ?_
  by_cases c : s.2.1.length = 0
  · rw [c]
    refine rw_if_le_t (tgt := 28) d_VG_drop_7 (by decide) (by decide) ?_
    exact rw_vret d_VG_drop_28 rfl ⟨rfl, rfl, ⟨s, hs, h⟩, Fr.rf⟩
  · refine rw_if_le_f (tgt := 28) d_VG_drop_7 (by decide) (nI_nle (by omega) (by omega)) ?_
    refine rw_aload_n d_VG_drop_10 rfl (by first | exact mm_ref_r _ | exact mm_ref_n | exact mm_ref_o _) ?_
    refine rw_get d_VG_drop_11 fF_VG_24 h.1 rfl ?_
    refine rw_iload_n d_VG_drop_14 rfl ?_
    refine rw_aload_n d_VG_drop_15 rfl (by first | exact mm_ref_r _ | exact mm_ref_n | exact mm_ref_o _) ?_
    refine rw_get d_VG_drop_16 fF_VG_24 h.1 rfl ?_
    refine rw_get d_VG_drop_19 fF_VG_125 h.post rfl ?_
    refine rw_callS (kc := 0) (ks := 0) (rest := [.ref (v + 2)]) d_VG_drop_22 (c_floorMod (x := k) (n := s.2.1.length) (by omega) (by omega)) mW_Math_floorMod mL_VG_180 mS_Math_floorMod ⟨by decide, by decide⟩ rfl rfl (Nat.le_of_ble_eq_true rfl) (fun r M1 sz1 hq => ?_)
    obtain ⟨⟨i, hi, rfl⟩, rfl, rfl⟩ := hq
    refine rw_stk (st' := [.int (nI i), .ref (v + 2)]) rfl ?_
    refine rw_callV (kc := 0) (ks := 0) (rest := []) d_VG_drop_25 (c_remove h.2.2.1.1 hi) mW_Post_remove mL_VG_191 mI_Post_remove mE_Post_remove ⟨by decide, by decide⟩ h.post rfl rfl rfl rfl (Nat.le_of_ble_eq_true rfl) (fun r M2 sz2 hq => ?_)
    obtain ⟨rfl, rfl, q1, q2⟩ := hq
    refine rw_stk (st' := []) rfl ?_
    exact rw_vret d_VG_drop_28 rfl ⟨rfl, rfl, ⟨(s.1, s.2.1.eraseIdx i, s.2.2), hJ.2.2.1 s i hs, h.sent q1 q2⟩, Fr.vg q2⟩
theorem Jc.go {s : pSt} {i : Nat} {m : pMsg} (hJ : Jc E J) (hs : J s) (hm : s.2.1[i]? = some m) : J (pGo E s i m) := hJ.2.2.1 _ i (hJ.2.1 s i m hs hm)
theorem Jc.all (hJ : Jc E J) : ∀ (f : Nat) (s : pSt), J s → J (pBA E f s) := by
  intro f
  induction f with
  | zero => intro s hs; exact hs
  | succ f ih =>
    intro s hs
    unfold pBA
    split
    · exact hs
    · rename_i m r hr
      exact ih _ (hJ.go hs (by rw [hr]; rfl))
set_option maxRecDepth 100000 in
theorem bringAll_loop {M : mm_M} {S : pSt} (hJ : Jc E J) : ∀ (f i : Nat) (M1 : mm_M) (s : pSt), f + i = 1000000 → J s → VgP G M1 ca cm g E v s.1 s.2.1 s.2.2 → Fr M M1 v (vgN E) → pBA E f s = S →
    RW l G Y_VG_bringAll (rm 7) (mm_Z G (rm 7) (VgQ G M sz ca cm g E v S)) 0 0 2 [(0, .ref v), (1, .int (nI i))] [] M1 sz := by
  intro f
  induction f with
  | zero =>
    intro i M1 s hi hs h hF he
    refine rw_iload_n d_VG_bringAll_2 rfl ?_
    refine rw_ldc d_VG_bringAll_3 kC_VG_194 ?_
    refine rw_icmp_ge_t (tgt := 44) d_VG_bringAll_5 (by decide) (nI_le (a := 1000000) (by omega) (by omega)) ?_
    rw [pBA] at he
    subst he
    exact rw_vret d_VG_bringAll_44 rfl ⟨rfl, rfl, h, hF⟩
  | succ f ih =>
    intro i M1 s hi hs h hF he
    have hl := h.len
    refine rw_iload_n d_VG_bringAll_2 rfl ?_
    refine rw_ldc d_VG_bringAll_3 kC_VG_194 ?_
    refine rw_icmp_ge_f (tgt := 44) d_VG_bringAll_5 (by decide) (nI_ge (b := 1000000) (by omega) (by omega)) ?_
    refine rw_aload_n d_VG_bringAll_8 rfl (by first | exact mm_ref_r _ | exact mm_ref_n | exact mm_ref_o _) ?_
    refine rw_get d_VG_bringAll_9 fF_VG_24 h.1 rfl ?_
    refine rw_get d_VG_bringAll_12 fF_VG_125 h.post rfl ?_
    match hp : s.2.1 with
    | [] =>
      refine rw_if_le_t (tgt := 44) d_VG_bringAll_15 (by decide) (by decide) ?_
      unfold pBA at he
      rw [hp] at he
      simp only at he
      subst he
      exact rw_vret d_VG_bringAll_44 rfl ⟨rfl, rfl, h, hF⟩
    | m :: r =>
      have hm : s.2.1[0]? = some m := by rw [hp]; rfl
      have hlen : (m :: r).length ≤ 64 := by rw [← hp]; exact hl
      refine rw_if_le_f (tgt := 44) d_VG_bringAll_15 (by decide) (nI_nle (by simp) (by omega)) ?_
      refine rw_aload_n d_VG_bringAll_18 rfl (by first | exact mm_ref_r _ | exact mm_ref_n | exact mm_ref_o _) ?_
      refine rw_aload_n d_VG_bringAll_19 rfl (by first | exact mm_ref_r _ | exact mm_ref_n | exact mm_ref_o _) ?_
      refine rw_get d_VG_bringAll_20 fF_VG_24 h.1 rfl ?_
      refine rw_iconst (v := 0) d_VG_bringAll_23 (by decide) ?_
      refine rw_callV (kc := 0) (ks := 0) (rest := [.ref v]) d_VG_bringAll_24 (c_look (i := 0) h.2.2.1.1 hm) mW_Post_look mL_VG_183 mI_Post_look mE_Post_look ⟨by decide, by decide⟩ h.post rfl rfl rfl rfl (Nat.le_of_ble_eq_true rfl) (fun r2 M2 sz2 hq => ?_)
      obtain ⟨rfl, rfl, j, hj, rfl, q1⟩ := hq
      refine rw_stk (st' := [.ref (v + 2 + 3 + 5 * j), .ref v]) rfl ?_
      have hmem : m ∈ s.2.1 := by
        rw [hp]
        exact List.mem_cons_self
      refine rw_callV (kc := 0) (ks := 0) (rest := []) d_VG_bringAll_27 (c_arrive h hj q1 ((hJ.1 s hs).1 m hmem)) mW_VG_arrive mL_VG_187 mI_VG_arrive mE_VG_arrive ⟨by decide, by decide⟩ h.1 rfl rfl rfl rfl (Nat.le_of_ble_eq_true rfl) (fun r3 M3 sz3 hq => ?_)
      obtain ⟨rfl, rfl, q3, q4⟩ := hq
      refine rw_stk (st' := []) rfl ?_
      have hl3 : 0 < (pArr E s.1 s.2.1 s.2.2 m).2.1.length := Nat.lt_of_lt_of_le (by rw [hp]; simp) (pArr_len h.len)
      refine rw_aload_n d_VG_bringAll_30 rfl (by first | exact mm_ref_r _ | exact mm_ref_n | exact mm_ref_o _) ?_
      refine rw_get d_VG_bringAll_31 fF_VG_24 q3.1 rfl ?_
      refine rw_iconst (v := 0) d_VG_bringAll_34 (by decide) ?_
      refine rw_callV (kc := 0) (ks := 0) (rest := []) d_VG_bringAll_35 (c_remove (i := 0) q3.2.2.1.1 hl3) mW_Post_remove mL_VG_191 mI_Post_remove mE_Post_remove ⟨by decide, by decide⟩ q3.post rfl rfl rfl rfl (Nat.le_of_ble_eq_true rfl) (fun r4 M4 sz4 hq => ?_)
      obtain ⟨rfl, rfl, q5, q6⟩ := hq
      refine rw_stk (st' := []) rfl ?_
      refine rw_iinc d_VG_bringAll_38 (by decide) rfl rfl rfl ?_
      refine rw_lv (lv' := [(0, .ref v), (1, .int (nI (i + 1)))]) (by rw [← nI_1]; intro q hq; simp at hq; rcases hq with rfl | rfl <;> rfl) ?_
      refine rw_goto (tgt := 2) d_VG_bringAll_41 (by decide) ?_
      refine ih (i + 1) M4 (pGo E s 0 m) (by omega) (hJ.go hs hm) (q3.sent q5 q6) (hF.trans (q4.trans (Fr.vg q6))) ?_
      unfold pBA at he
      rw [hp] at he
      exact he
theorem c_bringAll {M : mm_M} {s : pSt} (hJ : Jc E J) (hs : J s) (h : VgP G M ca cm g E v s.1 s.2.1 s.2.2) : CT l G Y_VG_bringAll ds_VG_bringAll (rm 7) [.ref v] M sz (VgQ G M sz ca cm g E v (pBA E 1000000 s)) := by
  refine CT.of (by decide) (Nat.le_of_ble_eq_true rfl) ?_
  refine rw_iconst (v := 0) d_VG_bringAll_0 (by decide) ?_
  refine rw_istore_n d_VG_bringAll_1 (by decide) rfl ?_
  refine rw_lv (lv' := [(0, .ref v), (1, .int (nI 0))]) (by intro q hq; simp at hq; rcases hq with rfl | rfl <;> rfl) ?_
  exact bringAll_loop hJ 1000000 0 M s (by omega) hs h Fr.rf rfl
end BRING
end
section
/-! VersionGroup: passOneTick, tick, deliver, lose, twice, stir. -/
section TICK
variable {l : Launch} {G : mm_G} {sz : Nat} {ca : Nat → Nat} {cm : Nat → pCm} {g : Nat} {E : pE} {v : Nat} {J : pSt → Prop}
theorem pWn_succ (E : pE) (nd : Nat → pN) (k : Nat) : pWn E nd (k + 1) = va_up (pWn E nd k) k (pWork E k (nd k)).1 := by
  funext n
  by_cases z : n = k
  · subst z
    rw [va_up_self, pWn, if_pos (by omega)]
  · rw [va_up_ne _ _ z]
    unfold pWn
    by_cases w : n < k
    · rw [if_pos w, if_pos (by omega)]
    · rw [if_neg w, if_neg (by omega)]
set_option maxRecDepth 100000 in
theorem tick_loop {M : mm_M} {nd : Nat → pN} {post : List pMsg} {y : pN} (h30 : ∀ n, n < eN E → ∀ m, m < eN E → nd n (30 + m) < 1000000) : ∀ (m k : Nat) (M1 : mm_M), m + k = eN E → VgP G M1 ca cm g E v (pWn E nd k) (pSend post (pWk E nd k)) y → Fr M M1 v (vgN E) →
    RW l G Y_VG_passOneTick (rm 7) (mm_Z G (rm 7) (VgQ G M sz ca cm g E v (pWn E nd (eN E), pSend post (pWk E nd (eN E)), y))) 0 0 30 [(0, .ref v), (1, .int (nI k))] [] M1 sz := by
  intro m
  induction m with
  | zero =>
    intro k M1 hk h hF
    obtain ⟨h0, ⟨f, h1, h1b⟩, h2, -⟩ := id h
    have hN7 := h2.2.2.2.2.1
    have : k = eN E := by omega
    rw [this] at h ⊢
    refine rw_iload_n d_VG_passOneTick_30 rfl ?_
    refine rw_aload_n d_VG_passOneTick_31 rfl (by first | exact mm_ref_r _ | exact mm_ref_n | exact mm_ref_o _) ?_
    refine rw_get d_VG_passOneTick_32 fF_VG_54 h0 rfl ?_
    refine rw_alen d_VG_passOneTick_35 h1 (by decide) rfl ?_
    refine rw_icmp_ge_t (tgt := 54) d_VG_passOneTick_36 (by decide) (nI_le (a := eN E) (b := eN E) (by omega) (by omega)) ?_
    exact rw_vret d_VG_passOneTick_54 rfl ⟨rfl, rfl, h, hF⟩
  | succ m ih =>
    intro k M1 hk h hF
    obtain ⟨h0, ⟨f, h1, h1b⟩, h2, h3, h4, h5, h6, h7⟩ := id h
    have hN7 := h2.2.2.2.2.1
    have hkN : k < eN E := by omega
    have hNk := h6 k hkN
    have e0 : pWn E nd k k = nd k := by rw [pWn, if_neg (by omega)]
    rw [e0] at hNk
    refine rw_iload_n d_VG_passOneTick_30 rfl ?_
    refine rw_aload_n d_VG_passOneTick_31 rfl (by first | exact mm_ref_r _ | exact mm_ref_n | exact mm_ref_o _) ?_
    refine rw_get d_VG_passOneTick_32 fF_VG_54 h0 rfl ?_
    refine rw_alen d_VG_passOneTick_35 h1 (by decide) rfl ?_
    refine rw_icmp_ge_f (tgt := 54) d_VG_passOneTick_36 (by decide) (nI_ge (a := k) (b := eN E) hkN (by omega)) ?_
    refine rw_aload_n d_VG_passOneTick_39 rfl (by first | exact mm_ref_r _ | exact mm_ref_n | exact mm_ref_o _) ?_
    refine rw_get d_VG_passOneTick_40 fF_VG_54 h0 rfl ?_
    refine rw_iload_n d_VG_passOneTick_43 rfl ?_
    refine rw_aald d_VG_passOneTick_44 h1 (by decide) rfl (vp_in_nI hkN (by omega)) ?_
    rw [nI_c (by omega), h1b k hkN]
    refine rw_stk (st' := [.ref (v + 337 + 15 * k)]) rfl ?_
    refine rw_callV (kc := 0) (ks := 0) (rest := []) d_VG_passOneTick_45 (c_work hNk h2 (by omega) hkN (h30 k hkN)) mW_Node_work mL_VG_177 mI_Node_work mE_Node_work ⟨by decide, by decide⟩ hNk.1 rfl rfl rfl rfl (Nat.le_of_ble_eq_true rfl) (fun r M2 sz2 hq => ?_)
    obtain ⟨rfl, rfl, q1, q2, q3⟩ := hq
    refine rw_stk (st' := []) rfl ?_
    refine rw_iinc d_VG_passOneTick_48 (by decide) rfl rfl rfl ?_
    refine rw_lv (lv' := [(0, .ref v), (1, .int (nI (k + 1)))]) (by rw [← nI_1]; intro q hq; simp at hq; rcases hq with rfl | rfl <;> rfl) ?_
    refine rw_goto (tgt := 30) d_VG_passOneTick_51 (by decide) ?_
    refine ih (k + 1) M2 (by omega) ?_ (hF.trans (Fr2.vg hkN q3))
    have := h.node hkN q1 q2 q3
    rw [pSend_app] at this
    rw [pWn_succ]
    exact this
set_option maxRecDepth 100000 in
theorem c_passOneTick {M : mm_M} {s : pSt} (h : VgP G M ca cm g E v s.1 s.2.1 s.2.2) (h30 : ∀ n, n < eN E → ∀ m, m < eN E → s.1 n (30 + m) < 1000000) : CT l G Y_VG_passOneTick ds_VG_passOneTick (rm 7) [.ref v] M sz (VgQ G M sz ca cm g E v (pTick E s)) := by
  obtain ⟨h0, ⟨f, h1, h1b⟩, h2, h3, h4, h5, h6, h7, h8, -⟩ := id h
  obtain ⟨fk, k0, k1, k2⟩ := id h3
  have hN7 := h2.2.2.2.2.1
  refine CT.of (by decide) (Nat.le_of_ble_eq_true rfl) ?_
  refine rw_aload_n d_VG_passOneTick_0 rfl (by first | exact mm_ref_r _ | exact mm_ref_n | exact mm_ref_o _) ?_
  refine rw_get d_VG_passOneTick_1 fF_VG_35 h0 rfl ?_
  refine rw_callV (kc := 0) (ks := 0) (rest := []) d_VG_passOneTick_4 (c_proclaim hN7 h7 h8 h2.2.2.1 (by omega) (by omega) h3 h2.1) mW_MapKeeper_proclaim mL_VG_115 mI_MapKeeper_proclaim mE_MapKeeper_proclaim ⟨by decide, by decide⟩ k0 rfl rfl rfl rfl (Nat.le_of_ble_eq_true rfl) (fun r M1 sz1 hq => ?_)
  obtain ⟨rfl, rfl, q1, q2⟩ := hq
  have g1 := h.sent q1 q2
  obtain ⟨cs, arr, an, d0, -⟩ := id g1.2.2.2.2.1
  refine rw_stk (st' := []) rfl ?_
  refine rw_aload_n d_VG_passOneTick_7 rfl (by first | exact mm_ref_r _ | exact mm_ref_n | exact mm_ref_o _) ?_
  refine rw_get d_VG_passOneTick_8 fF_VG_44 g1.1 rfl ?_
  refine rw_aload_n d_VG_passOneTick_11 rfl (by first | exact mm_ref_r _ | exact mm_ref_n | exact mm_ref_o _) ?_
  refine rw_get d_VG_passOneTick_12 fF_VG_35 g1.1 rfl ?_
  refine rw_get d_VG_passOneTick_15 fF_VG_76 ((q2 _ (by omega)).trans k0) rfl ?_
  refine rw_aload_n d_VG_passOneTick_18 rfl (by first | exact mm_ref_r _ | exact mm_ref_n | exact mm_ref_o _) ?_
  refine rw_get d_VG_passOneTick_19 fF_VG_35 g1.1 rfl ?_
  refine rw_get d_VG_passOneTick_22 fF_VG_79 ((q2 _ (by omega)).trans k0) rfl ?_
  have hl : eL E (s.2.2 0) = 99 ∨ eL E (s.2.2 0) < 7 := (eL_lt E _ hN7).imp id (fun z => by omega)
  refine rw_callV (kc := 0) (ks := 0) (rest := []) d_VG_passOneTick_25 (c_requestAll (ld := eL E (s.2.2 0)) (ep := s.2.2 0) g1.2.2.2.2.1 g1.2.2.1.1 g1.2.2.1.2.1 h5 (by omega) hl) mW_Desk_requestAll mL_VG_174 mI_Desk_requestAll mE_Desk_requestAll ⟨by decide, by decide⟩ d0 rfl rfl rfl rfl (Nat.le_of_ble_eq_true rfl) (fun r M2 sz2 hq => ?_)
  obtain ⟨rfl, rfl, q3, q4⟩ := hq
  have g2 := g1.sent q3 q4
  refine rw_stk (st' := []) rfl ?_
  refine rw_iconst (v := 0) d_VG_passOneTick_28 (by decide) ?_
  refine rw_istore_n d_VG_passOneTick_29 (by decide) rfl ?_
  refine rw_lv (lv' := [(0, .ref v), (1, .int (nI 0))]) (by intro q hq; simp at hq; rcases hq with rfl | rfl <;> rfl) ?_
  have e0 : pWn E s.1 0 = s.1 := by
    funext n
    rw [pWn, if_neg (by omega)]
  exact tick_loop h30 (eN E) 0 M2 (by omega) (by rw [e0, show pWk E s.1 0 = [] from rfl, pSend_nil g2.len]; exact g2) ((Fr.vg q2).trans (Fr.vg q4))
theorem VgP.calm {M : mm_M} {nd : Nat → pN} {post : List pMsg} {y : pN} {c : Nat} {e : va_E} (h : VgP G M ca cm g E v nd post y) (hc : c ≤ 1) (he : e = vgO v (pu y 3 c)) : VgP G (mup M v e) ca cm g E v nd post (pu y 3 c) := by
  obtain ⟨h0, ⟨f, h1, h1b⟩, h2, h3, h4, h5, h6, h7, h8, h9, h10⟩ := h
  have hne : ∀ i, i < g → ca i ≠ v := fun i hi q => by
    have e := (h2.2.1 i hi).2
    rw [q, h0] at e
    cases e
  have ey : ∀ z, z ≠ 3 → pu y 3 c z = y z := fun z hz => pu_ne _ _ hz
  refine ⟨by rw [mup_self, he], ⟨f, (mup_ne _ _ (by omega)).trans h1, h1b⟩, ⟨h2.1.kept (fun q y1 y2 => mup_ne _ _ (by omega)), h2.2.1.kept (fun i hi => mup_ne _ _ (hne i hi)), (mup_ne _ _ (by omega)).trans h2.2.2.1, h2.2.2.2⟩, ?_, ?_, ?_, fun n hn => (h6 n hn).kept (fun q y1 y2 => mup_ne _ _ (by omega)), ?_, fun n hn => ?_, ?_, h10⟩
  · rw [ey 0 (by omega)]
    exact (h3.kept (fun q y1 y2 => mup_ne _ _ (by omega))).ext (fun m hm => ey _ (by omega))
  · rw [ey 1 (by omega), ey 2 (by omega)]
    exact (h4.kept (fun q y1 y2 => mup_ne _ _ (by omega))).ext (fun m hm => ey _ (by omega))
  · rw [ey 1 (by omega)]
    exact h5
  · rw [ey 0 (by omega)]
    exact h7
  · rw [ey _ (by omega)]
    exact h8 n hn
  · rw [pu_self]
    exact hc
theorem fr_at0 {M : mm_M} {e : va_E} : Fr M (mup M v e) v (vgN E) := fun q hq => mup_ne _ _ (by simp only [vgN] at hq; omega)
set_option maxRecDepth 100000 in
theorem c_deliver {M : mm_M} {s : pSt} {k : Int32} (hJ : Jc E J) (hs : J (s.1, s.2.1, pu s.2.2 3 0)) (h : VgP G M ca cm g E v s.1 s.2.1 s.2.2) : CT l G Y_VG_deliver ds_VG_deliver (rm 8) [.ref v, .int k] M sz (VjQ G M sz ca cm g E v J) := by
  have g1 : VgP G (mup M v (.inr (10, [.ref (v + 2), .ref (v + 330), .ref (v + 332), .ref (v + 336), .int 0]))) ca cm g E v s.1 s.2.1 (pu s.2.2 3 0) := h.calm (c := 0) (by omega) rfl
  refine CT.of (by decide) (Nat.le_of_ble_eq_true rfl) ?_
  refine rw_aload_n d_VG_deliver_0 rfl (by first | exact mm_ref_r _ | exact mm_ref_n | exact mm_ref_o _) ?_
  refine rw_iconst (v := 0) d_VG_deliver_1 (by decide) ?_
  refine rw_put d_VG_deliver_2 (fP_VG_68 _) h.1 (Nat.le_of_ble_eq_true rfl) (by first | rfl | assumption | decide) (by first | rfl | assumption | decide) ?_
  refine rw_aload_n d_VG_deliver_5 rfl (by first | exact mm_ref_r _ | exact mm_ref_n | exact mm_ref_o _) ?_
  refine rw_iload_n d_VG_deliver_6 rfl ?_
  refine rw_iconst (v := 1) d_VG_deliver_7 (by decide) ?_
  refine rw_callV (kc := 0) (ks := 0) (rest := []) d_VG_deliver_8 (c_bring (k := k) (t := 1) (s := (s.1, s.2.1, pu s.2.2 3 0)) hJ (by omega) hs g1) mW_VG_bring mL_VG_91 mI_VG_bring mE_VG_bring ⟨by decide, by decide⟩ (mup_self _ _ _) rfl rfl rfl rfl (Nat.le_of_ble_eq_true rfl) (fun r M1 sz1 hq => ?_)
  obtain ⟨rfl, rfl, q1, q2⟩ := hq
  refine rw_stk (st' := []) rfl ?_
  exact rw_vret d_VG_deliver_11 rfl ⟨rfl, rfl, q1, (fr_at0 (E := E)).trans q2⟩
set_option maxRecDepth 100000 in
theorem c_twice {M : mm_M} {s : pSt} {k : Int32} (hJ : Jc E J) (hs : J (s.1, s.2.1, pu s.2.2 3 0)) (h : VgP G M ca cm g E v s.1 s.2.1 s.2.2) : CT l G Y_VG_twice ds_VG_twice (rm 8) [.ref v, .int k] M sz (VjQ G M sz ca cm g E v J) := by
  have g1 : VgP G (mup M v (.inr (10, [.ref (v + 2), .ref (v + 330), .ref (v + 332), .ref (v + 336), .int 0]))) ca cm g E v s.1 s.2.1 (pu s.2.2 3 0) := h.calm (c := 0) (by omega) rfl
  refine CT.of (by decide) (Nat.le_of_ble_eq_true rfl) ?_
  refine rw_aload_n d_VG_twice_0 rfl (by first | exact mm_ref_r _ | exact mm_ref_n | exact mm_ref_o _) ?_
  refine rw_iconst (v := 0) d_VG_twice_1 (by decide) ?_
  refine rw_put d_VG_twice_2 (fP_VG_68 _) h.1 (Nat.le_of_ble_eq_true rfl) (by first | rfl | assumption | decide) (by first | rfl | assumption | decide) ?_
  refine rw_aload_n d_VG_twice_5 rfl (by first | exact mm_ref_r _ | exact mm_ref_n | exact mm_ref_o _) ?_
  refine rw_iload_n d_VG_twice_6 rfl ?_
  refine rw_iconst (v := 2) d_VG_twice_7 (by decide) ?_
  refine rw_callV (kc := 0) (ks := 0) (rest := []) d_VG_twice_8 (c_bring (k := k) (t := 2) (s := (s.1, s.2.1, pu s.2.2 3 0)) hJ (by omega) hs g1) mW_VG_bring mL_VG_91 mI_VG_bring mE_VG_bring ⟨by decide, by decide⟩ (mup_self _ _ _) rfl rfl rfl rfl (Nat.le_of_ble_eq_true rfl) (fun r M1 sz1 hq => ?_)
  obtain ⟨rfl, rfl, q1, q2⟩ := hq
  refine rw_stk (st' := []) rfl ?_
  exact rw_vret d_VG_twice_11 rfl ⟨rfl, rfl, q1, (fr_at0 (E := E)).trans q2⟩
set_option maxRecDepth 100000 in
theorem c_lose {M : mm_M} {s : pSt} {k : Int32} (hJ : Jc E J) (hs : J (s.1, s.2.1, pu s.2.2 3 0)) (h : VgP G M ca cm g E v s.1 s.2.1 s.2.2) : CT l G Y_VG_lose ds_VG_lose (rm 8) [.ref v, .int k] M sz (VjQ G M sz ca cm g E v J) := by
  have g1 : VgP G (mup M v (.inr (10, [.ref (v + 2), .ref (v + 330), .ref (v + 332), .ref (v + 336), .int 0]))) ca cm g E v s.1 s.2.1 (pu s.2.2 3 0) := h.calm (c := 0) (by omega) rfl
  refine CT.of (by decide) (Nat.le_of_ble_eq_true rfl) ?_
  refine rw_aload_n d_VG_lose_0 rfl (by first | exact mm_ref_r _ | exact mm_ref_n | exact mm_ref_o _) ?_
  refine rw_iconst (v := 0) d_VG_lose_1 (by decide) ?_
  refine rw_put d_VG_lose_2 (fP_VG_68 _) h.1 (Nat.le_of_ble_eq_true rfl) (by first | rfl | assumption | decide) (by first | rfl | assumption | decide) ?_
  refine rw_aload_n d_VG_lose_5 rfl (by first | exact mm_ref_r _ | exact mm_ref_n | exact mm_ref_o _) ?_
  refine rw_iload_n d_VG_lose_6 rfl ?_
  refine rw_callV (kc := 0) (ks := 0) (rest := []) d_VG_lose_7 (c_drop (k := k) (s := (s.1, s.2.1, pu s.2.2 3 0)) hJ hs g1) mW_VG_drop mL_VG_94 mI_VG_drop mE_VG_drop ⟨by decide, by decide⟩ (mup_self _ _ _) rfl rfl rfl rfl (Nat.le_of_ble_eq_true rfl) (fun r M1 sz1 hq => ?_)
  obtain ⟨rfl, rfl, q1, q2⟩ := hq
  refine rw_stk (st' := []) rfl ?_
  exact rw_vret d_VG_lose_10 rfl ⟨rfl, rfl, q1, (fr_at0 (E := E)).trans q2⟩
end TICK
end
