-- ===== PART A: goes FIRST, ahead of the names: the tables' words, and 'selects' of the private methods out of them =====
/-- a private method of a class that the tables say can be made, by its rows of tables_1 -/
def lw_okq (q : MethodName × Nat) : Prop := (q.1.cls ≠ "java/lang/invoke/MethodHandle" ∧ q.1.cls ≠ "java/lang/invoke/VarHandle") ∧ Cond.instantiable q.1.cls q.2 ∈ tables_1 ∧ Cond.privateMethod q.1 ∈ tables_1 ∧ Cond.instanceMethod q.1 ∈ tables_1
theorem lw_p0 : lw_okq (⟨"java/util/ArrayList", "add", "(Ljava/lang/Object;[Ljava/lang/Object;I)V"⟩, 3) := ⟨⟨by decide +kernel, by decide +kernel⟩, List.mem_of_getElem? (i := 27) (by decide +kernel), List.mem_of_getElem? (i := 174) (by decide +kernel), List.mem_of_getElem? (i := 175) (by decide +kernel)⟩
theorem lw_p1 : lw_okq (⟨"java/util/ArrayList", "grow", "()[Ljava/lang/Object;"⟩, 3) := ⟨⟨by decide +kernel, by decide +kernel⟩, List.mem_of_getElem? (i := 27) (by decide +kernel), List.mem_of_getElem? (i := 178) (by decide +kernel), List.mem_of_getElem? (i := 179) (by decide +kernel)⟩
theorem lw_p2 : lw_okq (⟨"java/util/ArrayList", "grow", "(I)[Ljava/lang/Object;"⟩, 3) := ⟨⟨by decide +kernel, by decide +kernel⟩, List.mem_of_getElem? (i := 27) (by decide +kernel), List.mem_of_getElem? (i := 182) (by decide +kernel), List.mem_of_getElem? (i := 183) (by decide +kernel)⟩
theorem lw_p3 : lw_okq (⟨"TroubleMemory", "find", "(I)LTroubleMemory$Code;"⟩, 6) := ⟨⟨by decide +kernel, by decide +kernel⟩, List.mem_of_getElem? (i := 19) (by decide +kernel), List.mem_of_getElem? (i := 229) (by decide +kernel), List.mem_of_getElem? (i := 230) (by decide +kernel)⟩
theorem lw_p4 : lw_okq (⟨"TroubleMemory", "isOn", "(I)Z"⟩, 6) := ⟨⟨by decide +kernel, by decide +kernel⟩, List.mem_of_getElem? (i := 19) (by decide +kernel), List.mem_of_getElem? (i := 251) (by decide +kernel), List.mem_of_getElem? (i := 252) (by decide +kernel)⟩
theorem lw_p5 : lw_okq (⟨"TroubleMemory", "judge", "(LTroubleMemory$Code;)V"⟩, 6) := ⟨⟨by decide +kernel, by decide +kernel⟩, List.mem_of_getElem? (i := 19) (by decide +kernel), List.mem_of_getElem? (i := 261) (by decide +kernel), List.mem_of_getElem? (i := 262) (by decide +kernel)⟩
theorem lw_p6 : lw_okq (⟨"TroubleMemory", "takeSnapshot", "(LTroubleMemory$Code;)LTroubleMemory$Snapshot;"⟩, 6) := ⟨⟨by decide +kernel, by decide +kernel⟩, List.mem_of_getElem? (i := 19) (by decide +kernel), List.mem_of_getElem? (i := 284) (by decide +kernel), List.mem_of_getElem? (i := 285) (by decide +kernel)⟩
theorem lw_p7 : lw_okq (⟨"TroubleMemory", "countCodesWith", "(I)I"⟩, 6) := ⟨⟨by decide +kernel, by decide +kernel⟩, List.mem_of_getElem? (i := 19) (by decide +kernel), List.mem_of_getElem? (i := 290) (by decide +kernel), List.mem_of_getElem? (i := 291) (by decide +kernel)⟩
theorem lw_p8 : lw_okq (⟨"TroubleMemory$Memory", "displaceFor", "(LTroubleMemory$Code;)Z"⟩, 3) := ⟨⟨by decide +kernel, by decide +kernel⟩, List.mem_of_getElem? (i := 53) (by decide +kernel), List.mem_of_getElem? (i := 321) (by decide +kernel), List.mem_of_getElem? (i := 322) (by decide +kernel)⟩
theorem lw_p9 : lw_okq (⟨"java/util/ArrayList", "fastRemove", "([Ljava/lang/Object;I)V"⟩, 3) := ⟨⟨by decide +kernel, by decide +kernel⟩, List.mem_of_getElem? (i := 27) (by decide +kernel), List.mem_of_getElem? (i := 345) (by decide +kernel), List.mem_of_getElem? (i := 346) (by decide +kernel)⟩
theorem lw_p10 : lw_okq (⟨"TroubleMemory", "endCycle", "(LTroubleMemory$Code;Z)V"⟩, 6) := ⟨⟨by decide +kernel, by decide +kernel⟩, List.mem_of_getElem? (i := 19) (by decide +kernel), List.mem_of_getElem? (i := 377) (by decide +kernel), List.mem_of_getElem? (i := 378) (by decide +kernel)⟩
theorem lw_p11 : lw_okq (⟨"TroubleMemoryModel", "freshen", "(I)V"⟩, 26) := ⟨⟨by decide +kernel, by decide +kernel⟩, List.mem_of_getElem? (i := 484) (by decide +kernel), List.mem_of_getElem? (i := 576) (by decide +kernel), List.mem_of_getElem? (i := 577) (by decide +kernel)⟩
theorem lw_p12 : lw_okq (⟨"TroubleMemoryModel", "set", "(IIZ)V"⟩, 26) := ⟨⟨by decide +kernel, by decide +kernel⟩, List.mem_of_getElem? (i := 484) (by decide +kernel), List.mem_of_getElem? (i := 580) (by decide +kernel), List.mem_of_getElem? (i := 581) (by decide +kernel)⟩
theorem lw_p13 : lw_okq (⟨"TroubleMemoryModel", "keep", "(I)V"⟩, 26) := ⟨⟨by decide +kernel, by decide +kernel⟩, List.mem_of_getElem? (i := 484) (by decide +kernel), List.mem_of_getElem? (i := 584) (by decide +kernel), List.mem_of_getElem? (i := 585) (by decide +kernel)⟩
theorem lw_p14 : lw_okq (⟨"TroubleMemoryModel", "is", "(II)Z"⟩, 26) := ⟨⟨by decide +kernel, by decide +kernel⟩, List.mem_of_getElem? (i := 484) (by decide +kernel), List.mem_of_getElem? (i := 588) (by decide +kernel), List.mem_of_getElem? (i := 589) (by decide +kernel)⟩
theorem lw_p15 : lw_okq (⟨"TroubleMemoryModel", "none", "(I)Z"⟩, 26) := ⟨⟨by decide +kernel, by decide +kernel⟩, List.mem_of_getElem? (i := 484) (by decide +kernel), List.mem_of_getElem? (i := 596) (by decide +kernel), List.mem_of_getElem? (i := 597) (by decide +kernel)⟩
def lw_privs_1 : List (MethodName × Nat) := [(⟨"java/util/ArrayList", "add", "(Ljava/lang/Object;[Ljava/lang/Object;I)V"⟩, 3), (⟨"java/util/ArrayList", "grow", "()[Ljava/lang/Object;"⟩, 3), (⟨"java/util/ArrayList", "grow", "(I)[Ljava/lang/Object;"⟩, 3), (⟨"TroubleMemory", "find", "(I)LTroubleMemory$Code;"⟩, 6), (⟨"TroubleMemory", "isOn", "(I)Z"⟩, 6), (⟨"TroubleMemory", "judge", "(LTroubleMemory$Code;)V"⟩, 6), (⟨"TroubleMemory", "takeSnapshot", "(LTroubleMemory$Code;)LTroubleMemory$Snapshot;"⟩, 6), (⟨"TroubleMemory", "countCodesWith", "(I)I"⟩, 6), (⟨"TroubleMemory$Memory", "displaceFor", "(LTroubleMemory$Code;)Z"⟩, 3), (⟨"java/util/ArrayList", "fastRemove", "([Ljava/lang/Object;I)V"⟩, 3), (⟨"TroubleMemory", "endCycle", "(LTroubleMemory$Code;Z)V"⟩, 6), (⟨"TroubleMemoryModel", "freshen", "(I)V"⟩, 26), (⟨"TroubleMemoryModel", "set", "(IIZ)V"⟩, 26), (⟨"TroubleMemoryModel", "keep", "(I)V"⟩, 26), (⟨"TroubleMemoryModel", "is", "(II)Z"⟩, 26), (⟨"TroubleMemoryModel", "none", "(I)Z"⟩, 26)]
theorem lw_r1 : ∀ q ∈ lw_privs_1, lw_okq q := List.forall_mem_cons.mpr ⟨lw_p0, List.forall_mem_cons.mpr ⟨lw_p1, List.forall_mem_cons.mpr ⟨lw_p2, List.forall_mem_cons.mpr ⟨lw_p3, List.forall_mem_cons.mpr ⟨lw_p4, List.forall_mem_cons.mpr ⟨lw_p5, List.forall_mem_cons.mpr ⟨lw_p6, List.forall_mem_cons.mpr ⟨lw_p7, List.forall_mem_cons.mpr ⟨lw_p8, List.forall_mem_cons.mpr ⟨lw_p9, List.forall_mem_cons.mpr ⟨lw_p10, List.forall_mem_cons.mpr ⟨lw_p11, List.forall_mem_cons.mpr ⟨lw_p12, List.forall_mem_cons.mpr ⟨lw_p13, List.forall_mem_cons.mpr ⟨lw_p14, List.forall_mem_cons.mpr ⟨lw_p15, fun _ h => absurd h List.not_mem_nil⟩⟩⟩⟩⟩⟩⟩⟩⟩⟩⟩⟩⟩⟩⟩⟩
theorem lw_p16 : lw_okq (⟨"TroubleMemoryModel", "statusOf", "(I)I"⟩, 26) := ⟨⟨by decide +kernel, by decide +kernel⟩, List.mem_of_getElem? (i := 484) (by decide +kernel), List.mem_of_getElem? (i := 600) (by decide +kernel), List.mem_of_getElem? (i := 601) (by decide +kernel)⟩
theorem lw_p17 : lw_okq (⟨"TroubleMemoryModel", "fails", "(I)V"⟩, 26) := ⟨⟨by decide +kernel, by decide +kernel⟩, List.mem_of_getElem? (i := 484) (by decide +kernel), List.mem_of_getElem? (i := 604) (by decide +kernel), List.mem_of_getElem? (i := 605) (by decide +kernel)⟩
theorem lw_p18 : lw_okq (⟨"TroubleMemoryModel", "hidden", "(I)Z"⟩, 26) := ⟨⟨by decide +kernel, by decide +kernel⟩, List.mem_of_getElem? (i := 484) (by decide +kernel), List.mem_of_getElem? (i := 608) (by decide +kernel), List.mem_of_getElem? (i := 609) (by decide +kernel)⟩
theorem lw_p19 : lw_okq (⟨"TroubleMemoryModel", "store", "(I)V"⟩, 26) := ⟨⟨by decide +kernel, by decide +kernel⟩, List.mem_of_getElem? (i := 484) (by decide +kernel), List.mem_of_getElem? (i := 612) (by decide +kernel), List.mem_of_getElem? (i := 613) (by decide +kernel)⟩
theorem lw_p20 : lw_okq (⟨"TroubleMemoryModel", "shoot", "(II)V"⟩, 26) := ⟨⟨by decide +kernel, by decide +kernel⟩, List.mem_of_getElem? (i := 484) (by decide +kernel), List.mem_of_getElem? (i := 616) (by decide +kernel), List.mem_of_getElem? (i := 617) (by decide +kernel)⟩
theorem lw_p21 : lw_okq (⟨"TroubleMemoryModel", "many", "(I)I"⟩, 26) := ⟨⟨by decide +kernel, by decide +kernel⟩, List.mem_of_getElem? (i := 484) (by decide +kernel), List.mem_of_getElem? (i := 620) (by decide +kernel), List.mem_of_getElem? (i := 621) (by decide +kernel)⟩
theorem lw_p22 : lw_okq (⟨"TroubleMemoryModel", "entries", "()I"⟩, 26) := ⟨⟨by decide +kernel, by decide +kernel⟩, List.mem_of_getElem? (i := 484) (by decide +kernel), List.mem_of_getElem? (i := 624) (by decide +kernel), List.mem_of_getElem? (i := 625) (by decide +kernel)⟩
theorem lw_p23 : lw_okq (⟨"TroubleMemoryModel", "goes", "(I)I"⟩, 26) := ⟨⟨by decide +kernel, by decide +kernel⟩, List.mem_of_getElem? (i := 484) (by decide +kernel), List.mem_of_getElem? (i := 628) (by decide +kernel), List.mem_of_getElem? (i := 629) (by decide +kernel)⟩
def lw_privs_2 : List (MethodName × Nat) := [(⟨"TroubleMemoryModel", "statusOf", "(I)I"⟩, 26), (⟨"TroubleMemoryModel", "fails", "(I)V"⟩, 26), (⟨"TroubleMemoryModel", "hidden", "(I)Z"⟩, 26), (⟨"TroubleMemoryModel", "store", "(I)V"⟩, 26), (⟨"TroubleMemoryModel", "shoot", "(II)V"⟩, 26), (⟨"TroubleMemoryModel", "many", "(I)I"⟩, 26), (⟨"TroubleMemoryModel", "entries", "()I"⟩, 26), (⟨"TroubleMemoryModel", "goes", "(I)I"⟩, 26)]
theorem lw_r2 : ∀ q ∈ lw_privs_2, lw_okq q := List.forall_mem_cons.mpr ⟨lw_p16, List.forall_mem_cons.mpr ⟨lw_p17, List.forall_mem_cons.mpr ⟨lw_p18, List.forall_mem_cons.mpr ⟨lw_p19, List.forall_mem_cons.mpr ⟨lw_p20, List.forall_mem_cons.mpr ⟨lw_p21, List.forall_mem_cons.mpr ⟨lw_p22, List.forall_mem_cons.mpr ⟨lw_p23, fun _ h => absurd h List.not_mem_nil⟩⟩⟩⟩⟩⟩⟩⟩
def lw_privs : List (MethodName × Nat) := lw_privs_1 ++ (lw_privs_2)
def lw_tbl : List Cond := k2_sels lw_privs ++ tables_1
theorem lw_privs_ok : ∀ q ∈ lw_privs, lw_okq q := by
  show ∀ q ∈ lw_privs_1 ++ (lw_privs_2), lw_okq q
  exact List.forall_mem_append.mpr ⟨lw_r1, lw_r2⟩
/-! NAMES: classes, fields, words; by program (wip/whole/gen/names.py) -/
def R_TM : String := "TroubleMemory"
def F_TM : u_T := fun k => match k with
  | 0 => ("TroubleMemory", "codes", "Ljava/util/ArrayList;", true)
  | 1 => ("TroubleMemory", "memory", "LTroubleMemory$Memory;", true)
  | 2 => ("TroubleMemory", "conditions", "I", false)
  | 3 => ("TroubleMemory", "powered", "Z", false)
  | 4 => ("TroubleMemory", "cycles", "I", false)
  | _ => ("TroubleMemory", "events", "I", false)
def t_TM : Nat → FieldType := fun k => match k with
  | 0 => .object "java/util/ArrayList"
  | 1 => .object "TroubleMemory$Memory"
  | 2 => .int
  | 3 => .boolean
  | 4 => .int
  | _ => .int
theorem n_TM : ∀ a, a < 6 → ∀ b, b < 6 → a ≠ b → (F_TM a).2.1 ≠ (F_TM b).2.1 := by decide +kernel
theorem t_TM_ok : ∀ k, k < 6 → parseFieldDescriptor (F_TM k).2.2.1 = some (t_TM k) := by decide +kernel
def R_Mem : String := "TroubleMemory$Memory"
def F_Mem : u_T := fun k => match k with
  | 0 => ("TroubleMemory$Memory", "room", "I", true)
  | 1 => ("TroubleMemory$Memory", "entries", "Ljava/util/ArrayList;", true)
  | _ => ("TroubleMemory$Memory", "displacedCodes", "Ljava/util/ArrayList;", true)
def t_Mem : Nat → FieldType := fun k => match k with
  | 0 => .int
  | 1 => .object "java/util/ArrayList"
  | _ => .object "java/util/ArrayList"
theorem n_Mem : ∀ a, a < 3 → ∀ b, b < 3 → a ≠ b → (F_Mem a).2.1 ≠ (F_Mem b).2.1 := by decide +kernel
theorem t_Mem_ok : ∀ k, k < 3 → parseFieldDescriptor (F_Mem k).2.2.1 = some (t_Mem k) := by decide +kernel
def R_Cd : String := "TroubleMemory$Code"
def F_Cd : u_T := fun k => match k with
  | 0 => ("TroubleMemory$Code", "number", "I", true)
  | 1 => ("TroubleMemory$Code", "priority", "I", true)
  | 2 => ("TroubleMemory$Code", "up", "I", true)
  | 3 => ("TroubleMemory$Code", "down", "I", true)
  | 4 => ("TroubleMemory$Code", "now", "LTroubleMemory$Standing;", true)
  | 5 => ("TroubleMemory$Code", "kept", "LTroubleMemory$Standing;", true)
  | 6 => ("TroubleMemory$Code", "counter", "I", false)
  | 7 => ("TroubleMemory$Code", "parent", "LTroubleMemory$Code;", false)
  | _ => ("TroubleMemory$Code", "entry", "LTroubleMemory$Entry;", false)
def t_Cd : Nat → FieldType := fun k => match k with
  | 0 => .int
  | 1 => .int
  | 2 => .int
  | 3 => .int
  | 4 => .object "TroubleMemory$Standing"
  | 5 => .object "TroubleMemory$Standing"
  | 6 => .int
  | 7 => .object "TroubleMemory$Code"
  | _ => .object "TroubleMemory$Entry"
theorem n_Cd : ∀ a, a < 9 → ∀ b, b < 9 → a ≠ b → (F_Cd a).2.1 ≠ (F_Cd b).2.1 := by decide +kernel
theorem t_Cd_ok : ∀ k, k < 9 → parseFieldDescriptor (F_Cd k).2.2.1 = some (t_Cd k) := by decide +kernel
def R_Sg : String := "TroubleMemory$Standing"
def F_Sg : u_T := fun k => match k with
  | 0 => ("TroubleMemory$Standing", "status", "I", false)
  | 1 => ("TroubleMemory$Standing", "trips", "I", false)
  | 2 => ("TroubleMemory$Standing", "age", "I", false)
  | _ => ("TroubleMemory$Standing", "good", "I", false)
def t_Sg : Nat → FieldType := fun k => match k with
  | 0 => .int
  | 1 => .int
  | 2 => .int
  | _ => .int
theorem n_Sg : ∀ a, a < 4 → ∀ b, b < 4 → a ≠ b → (F_Sg a).2.1 ≠ (F_Sg b).2.1 := by decide +kernel
theorem t_Sg_ok : ∀ k, k < 4 → parseFieldDescriptor (F_Sg k).2.2.1 = some (t_Sg k) := by decide +kernel
def R_En : String := "TroubleMemory$Entry"
def F_En : u_T := fun k => match k with
  | 0 => ("TroubleMemory$Entry", "owner", "LTroubleMemory$Code;", true)
  | 1 => ("TroubleMemory$Entry", "first", "LTroubleMemory$Snapshot;", true)
  | 2 => ("TroubleMemory$Entry", "last", "LTroubleMemory$Snapshot;", false)
  | _ => ("TroubleMemory$Entry", "happened", "I", false)
def t_En : Nat → FieldType := fun k => match k with
  | 0 => .object "TroubleMemory$Code"
  | 1 => .object "TroubleMemory$Snapshot"
  | 2 => .object "TroubleMemory$Snapshot"
  | _ => .int
theorem n_En : ∀ a, a < 4 → ∀ b, b < 4 → a ≠ b → (F_En a).2.1 ≠ (F_En b).2.1 := by decide +kernel
theorem t_En_ok : ∀ k, k < 4 → parseFieldDescriptor (F_En k).2.2.1 = some (t_En k) := by decide +kernel
def R_Sn : String := "TroubleMemory$Snapshot"
def F_Sn : u_T := fun k => match k with
  | 0 => ("TroubleMemory$Snapshot", "cycles", "I", true)
  | 1 => ("TroubleMemory$Snapshot", "events", "I", true)
  | 2 => ("TroubleMemory$Snapshot", "failedCodes", "I", true)
  | _ => ("TroubleMemory$Snapshot", "up", "I", true)
def t_Sn : Nat → FieldType := fun k => match k with
  | 0 => .int
  | 1 => .int
  | 2 => .int
  | _ => .int
theorem n_Sn : ∀ a, a < 4 → ∀ b, b < 4 → a ≠ b → (F_Sn a).2.1 ≠ (F_Sn b).2.1 := by decide +kernel
theorem t_Sn_ok : ∀ k, k < 4 → parseFieldDescriptor (F_Sn k).2.2.1 = some (t_Sn k) := by decide +kernel
def R_AL : String := "java/util/ArrayList"
def F_AL : u_T := fun k => match k with
  | 0 => ("java/util/ArrayList", "elementData", "[Ljava/lang/Object;", false)
  | 1 => ("java/util/ArrayList", "size", "I", false)
  | _ => ("java/util/AbstractList", "modCount", "I", false)
def t_AL : Nat → FieldType := fun k => match k with
  | 0 => .array (.object "java/lang/Object")
  | 1 => .int
  | _ => .int
theorem n_AL : ∀ a, a < 3 → ∀ b, b < 3 → a ≠ b → (F_AL a).2.1 ≠ (F_AL b).2.1 := by decide +kernel
theorem t_AL_ok : ∀ k, k < 3 → parseFieldDescriptor (F_AL k).2.2.1 = some (t_AL k) := by decide +kernel
def R_Rf : String := "TroubleMemoryModel"
def F_Rf : u_T := fun k => match k with
  | 0 => ("TroubleMemoryModel", "code", "I", false)
  | 1 => ("TroubleMemoryModel", "room", "I", true)
  | 2 => ("TroubleMemoryModel", "codes", "I", false)
  | 3 => ("TroubleMemoryModel", "priority", "[I", true)
  | 4 => ("TroubleMemoryModel", "up", "[I", true)
  | 5 => ("TroubleMemoryModel", "down", "[I", true)
  | 6 => ("TroubleMemoryModel", "parent", "[I", true)
  | 7 => ("TroubleMemoryModel", "counter", "[I", true)
  | 8 => ("TroubleMemoryModel", "bit", "[Z", true)
  | 9 => ("TroubleMemoryModel", "trips", "[I", true)
  | 10 => ("TroubleMemoryModel", "age", "[I", true)
  | 11 => ("TroubleMemoryModel", "good", "[I", true)
  | 12 => ("TroubleMemoryModel", "keptBit", "[Z", true)
  | 13 => ("TroubleMemoryModel", "keptTrips", "[I", true)
  | 14 => ("TroubleMemoryModel", "keptAge", "[I", true)
  | 15 => ("TroubleMemoryModel", "keptGood", "[I", true)
  | 16 => ("TroubleMemoryModel", "stored", "[I", true)
  | 17 => ("TroubleMemoryModel", "happened", "[I", true)
  | 18 => ("TroubleMemoryModel", "snapshot", "[I", true)
  | 19 => ("TroubleMemoryModel", "last", "I", false)
  | 20 => ("TroubleMemoryModel", "gone", "I", false)
  | 21 => ("TroubleMemoryModel", "displaced", "[I", true)
  | 22 => ("TroubleMemoryModel", "offCondition", "[Z", true)
  | 23 => ("TroubleMemoryModel", "cut", "Z", false)
  | 24 => ("TroubleMemoryModel", "cycles", "I", false)
  | _ => ("TroubleMemoryModel", "events", "I", false)
def t_Rf : Nat → FieldType := fun k => match k with
  | 0 => .int
  | 1 => .int
  | 2 => .int
  | 3 => .array .int
  | 4 => .array .int
  | 5 => .array .int
  | 6 => .array .int
  | 7 => .array .int
  | 8 => .array .boolean
  | 9 => .array .int
  | 10 => .array .int
  | 11 => .array .int
  | 12 => .array .boolean
  | 13 => .array .int
  | 14 => .array .int
  | 15 => .array .int
  | 16 => .array .int
  | 17 => .array .int
  | 18 => .array .int
  | 19 => .int
  | 20 => .int
  | 21 => .array .int
  | 22 => .array .boolean
  | 23 => .boolean
  | 24 => .int
  | _ => .int
theorem n_Rf : ∀ a, a < 26 → ∀ b, b < 26 → a ≠ b → (F_Rf a).2.1 ≠ (F_Rf b).2.1 := by decide +kernel
theorem t_Rf_ok : ∀ k, k < 26 → parseFieldDescriptor (F_Rf k).2.2.1 = some (t_Rf k) := by decide +kernel
abbrev px_cl : List vw_C := [(R_TM, F_TM, 6), (R_Mem, F_Mem, 3), (R_Cd, F_Cd, 9), (R_Sg, F_Sg, 4), (R_En, F_En, 4), (R_Sn, F_Sn, 4), (R_AL, F_AL, 3), (R_Rf, F_Rf, 26)]
def px_ty : Nat → Nat → FieldType := fun c => match c with
  | 0 => t_TM
  | 1 => t_Mem
  | 2 => t_Cd
  | 3 => t_Sg
  | 4 => t_En
  | 5 => t_Sn
  | 6 => t_AL
  | _ => t_Rf
abbrev px_tys (dA : Nat → ClassId) : List (ClassId × FieldType) := [(dA 0, .int), (dA 1, .boolean), (dA 2, .object "java/lang/Object")]
abbrev px_SL : List (String × String × String) := [("java/util/ArrayList", "DEFAULTCAPACITY_EMPTY_ELEMENTDATA", "[Ljava/lang/Object;")]
def px_NW : List Cond := [(Jvm.Cond.methodLinkNest "TroubleMemory$Code" (11 : Nat) ({ cls := "TroubleMemory$Standing", name := "<init>", desc := "()V" } : Jvm.MethodName) "TroubleMemory"), (Jvm.Cond.castable "TroubleMemory$Code" "TroubleMemory$Code"), (Jvm.Cond.castable "TroubleMemory$Entry" "TroubleMemory$Entry"), (Jvm.Cond.declares ({ cls := "java/lang/Object", name := "getClass", desc := "()Ljava/lang/Class;" } : Jvm.MethodName)), (Jvm.Cond.castable "TroubleMemory" "java/lang/Object"), (Jvm.Cond.castable "TroubleMemory$Memory" "java/lang/Object"), (Jvm.Cond.castable "TroubleMemoryModel" "java/lang/Object"), (Jvm.Cond.castable "TroubleMemory$Code" "java/lang/Object"), (Jvm.Cond.castable "TroubleMemory$Standing" "java/lang/Object"), (Jvm.Cond.castable "TroubleMemory$Snapshot" "java/lang/Object"), (Jvm.Cond.castable "TroubleMemory$Entry" "java/lang/Object")]
def px_TB : List Cond := lw_tbl.filter goodWord
theorem px_tb1 {w : Cond} (i : Nat) (h : tables_1_1[i]? = some w) (hg : goodWord w = true) : w ∈ px_TB := by
  have h1 : w ∈ tables_1 := List.mem_append_left _ (List.mem_of_getElem? h)
  exact List.mem_filter.mpr ⟨List.mem_append_right _ h1, hg⟩
theorem px_tb2 {w : Cond} (i : Nat) (h : tables_1_2[i]? = some w) (hg : goodWord w = true) : w ∈ px_TB := by
  have h1 : w ∈ tables_1 := List.mem_append_right _ (List.mem_append_left _ (List.mem_of_getElem? h))
  exact List.mem_filter.mpr ⟨List.mem_append_right _ h1, hg⟩
theorem px_tb3 {w : Cond} (i : Nat) (h : tables_1_3[i]? = some w) (hg : goodWord w = true) : w ∈ px_TB := by
  have h1 : w ∈ tables_1 := List.mem_append_right _ (List.mem_append_right _ (List.mem_of_getElem? h))
  exact List.mem_filter.mpr ⟨List.mem_append_right _ h1, hg⟩
theorem px_tbs {w : Cond} (i : Nat) (h : (k2_sels lw_privs)[i]? = some w) (hg : goodWord w = true) : w ∈ px_TB := List.mem_filter.mpr ⟨List.mem_append_left _ (List.mem_of_getElem? h), hg⟩
theorem px_nw {w : Cond} (i : Nat) (h : px_NW[i]? = some w) : w ∈ px_NW := List.mem_of_getElem? h
