section
-- ===== PART A: goes FIRST, ahead of the names: the tables' words, and 'selects' of the private methods out of them =====
/-- a private method of a class that the tables say can be made, by its rows of tables_1 -/
def lw_okq (q : MethodName × Nat) : Prop := (q.1.cls ≠ "java/lang/invoke/MethodHandle" ∧ q.1.cls ≠ "java/lang/invoke/VarHandle") ∧ Cond.instantiable q.1.cls q.2 ∈ tables_1 ∧ Cond.privateMethod q.1 ∈ tables_1 ∧ Cond.instanceMethod q.1 ∈ tables_1
theorem lw_p0 : lw_okq (⟨"java/util/ArrayList", "add", "(Ljava/lang/Object;[Ljava/lang/Object;I)V"⟩, 3) := ⟨⟨by decide +kernel, by decide +kernel⟩, List.mem_of_getElem? (i := 27) (by decide +kernel), List.mem_of_getElem? (i := 174) (by decide +kernel), List.mem_of_getElem? (i := 175) (by decide +kernel)⟩
theorem lw_p1 : lw_okq (⟨"java/util/ArrayList", "grow", "()[Ljava/lang/Object;"⟩, 3) := ⟨⟨by decide +kernel, by decide +kernel⟩, List.mem_of_getElem? (i := 27) (by decide +kernel), List.mem_of_getElem? (i := 178) (by decide +kernel), List.mem_of_getElem? (i := 179) (by decide +kernel)⟩
theorem lw_p2 : lw_okq (⟨"java/util/ArrayList", "grow", "(I)[Ljava/lang/Object;"⟩, 3) := ⟨⟨by decide +kernel, by decide +kernel⟩, List.mem_of_getElem? (i := 27) (by decide +kernel), List.mem_of_getElem? (i := 182) (by decide +kernel), List.mem_of_getElem? (i := 183) (by decide +kernel)⟩
theorem lw_p3 : lw_okq (⟨"TroubleMemory", "find", "(I)LTroubleMemory$Code;"⟩, 6) := ⟨⟨by decide +kernel, by decide +kernel⟩, List.mem_of_getElem? (i := 19) (by decide +kernel), List.mem_of_getElem? (i := 229) (by decide +kernel), List.mem_of_getElem? (i := 230) (by decide +kernel)⟩
theorem lw_p4 : lw_okq (⟨"TroubleMemory", "isOn", "(I)Z"⟩, 6) := ⟨⟨by decide +kernel, by decide +kernel⟩, List.mem_of_getElem? (i := 19) (by decide +kernel), List.mem_of_getElem? (i := 251) (by decide +kernel), List.mem_of_getElem? (i := 252) (by decide +kernel)⟩
theorem lw_p5 : lw_okq (⟨"TroubleMemory", "judge", "(LTroubleMemory$Code;)V"⟩, 6) := ⟨⟨by decide +kernel, by decide +kernel⟩, List.mem_of_getElem? (i := 19) (by decide +kernel), List.mem_of_getElem? (i := 261) (by decide +kernel), List.mem_of_getElem? (i := 262) (by decide +kernel)⟩
theorem lw_p6 : lw_okq (⟨"TroubleMemory", "takeSnapshot", "(LTroubleMemory$Code;)LTroubleMemory$Snapshot;"⟩, 6) := ⟨⟨by decide +kernel, by decide +kernel⟩, List.mem_of_getElem? (i := 19) (by decide +kernel), List.mem_of_getElem? (i := 284) (by decide +kernel), List.mem_of_getElem? (i := 285) (by decide +kernel)⟩
theorem lw_p7 : lw_okq (⟨"TroubleMemory", "countCodesWith", "(I)I"⟩, 6) := ⟨⟨by decide +kernel, by decide +kernel⟩, List.mem_of_getElem? (i := 19) (by decide +kernel), List.mem_of_getElem? (i := 290) (by decide +kernel), List.mem_of_getElem? (i := 291) (by decide +kernel)⟩
theorem lw_p8 : lw_okq (⟨"TroubleMemory$Memory", "displaceFor", "(LTroubleMemory$Code;)Z"⟩, 3) := ⟨⟨by decide +kernel, by decide +kernel⟩, List.mem_of_getElem? (i := 53) (by decide +kernel), List.mem_of_getElem? (i := 321) (by decide +kernel), List.mem_of_getElem? (i := 322) (by decide +kernel)⟩
theorem lw_p9 : lw_okq (⟨"java/util/ArrayList", "fastRemove", "([Ljava/lang/Object;I)V"⟩, 3) := ⟨⟨by decide +kernel, by decide +kernel⟩, List.mem_of_getElem? (i := 27) (by decide +kernel), List.mem_of_getElem? (i := 345) (by decide +kernel), List.mem_of_getElem? (i := 346) (by decide +kernel)⟩
theorem lw_p10 : lw_okq (⟨"TroubleMemory", "endCycle", "(LTroubleMemory$Code;Z)V"⟩, 6) := ⟨⟨by decide +kernel, by decide +kernel⟩, List.mem_of_getElem? (i := 19) (by decide +kernel), List.mem_of_getElem? (i := 377) (by decide +kernel), List.mem_of_getElem? (i := 378) (by decide +kernel)⟩
theorem lw_p11 : lw_okq (⟨"TroubleMemoryModel", "freshen", "(I)V"⟩, 26) := ⟨⟨by decide +kernel, by decide +kernel⟩, List.mem_of_getElem? (i := 484) (by decide +kernel), List.mem_of_getElem? (i := 576) (by decide +kernel), List.mem_of_getElem? (i := 577) (by decide +kernel)⟩
theorem lw_p12 : lw_okq (⟨"TroubleMemoryModel", "set", "(IIZ)V"⟩, 26) := ⟨⟨by decide +kernel, by decide +kernel⟩, List.mem_of_getElem? (i := 484) (by decide +kernel), List.mem_of_getElem? (i := 580) (by decide +kernel), List.mem_of_getElem? (i := 581) (by decide +kernel)⟩
theorem lw_p13 : lw_okq (⟨"TroubleMemoryModel", "keep", "(I)V"⟩, 26) := ⟨⟨by decide +kernel, by decide +kernel⟩, List.mem_of_getElem? (i := 484) (by decide +kernel), List.mem_of_getElem? (i := 584) (by decide +kernel), List.mem_of_getElem? (i := 585) (by decide +kernel)⟩
theorem lw_p14 : lw_okq (⟨"TroubleMemoryModel", "is", "(II)Z"⟩, 26) := ⟨⟨by decide +kernel, by decide +kernel⟩, List.mem_of_getElem? (i := 484) (by decide +kernel), List.mem_of_getElem? (i := 588) (by decide +kernel), List.mem_of_getElem? (i := 589) (by decide +kernel)⟩
theorem lw_p15 : lw_okq (⟨"TroubleMemoryModel", "none", "(I)Z"⟩, 26) := ⟨⟨by decide +kernel, by decide +kernel⟩, List.mem_of_getElem? (i := 484) (by decide +kernel), List.mem_of_getElem? (i := 596) (by decide +kernel), List.mem_of_getElem? (i := 597) (by decide +kernel)⟩
def lw_privs_1 : List (MethodName × Nat) := [(⟨"java/util/ArrayList", "add", "(Ljava/lang/Object;[Ljava/lang/Object;I)V"⟩, 3), (⟨"java/util/ArrayList", "grow", "()[Ljava/lang/Object;"⟩, 3), (⟨"java/util/ArrayList", "grow", "(I)[Ljava/lang/Object;"⟩, 3), (⟨"TroubleMemory", "find", "(I)LTroubleMemory$Code;"⟩, 6), (⟨"TroubleMemory", "isOn", "(I)Z"⟩, 6), (⟨"TroubleMemory", "judge", "(LTroubleMemory$Code;)V"⟩, 6), (⟨"TroubleMemory", "takeSnapshot", "(LTroubleMemory$Code;)LTroubleMemory$Snapshot;"⟩, 6), (⟨"TroubleMemory", "countCodesWith", "(I)I"⟩, 6), (⟨"TroubleMemory$Memory", "displaceFor", "(LTroubleMemory$Code;)Z"⟩, 3), (⟨"java/util/ArrayList", "fastRemove", "([Ljava/lang/Object;I)V"⟩, 3), (⟨"TroubleMemory", "endCycle", "(LTroubleMemory$Code;Z)V"⟩, 6), (⟨"TroubleMemoryModel", "freshen", "(I)V"⟩, 26), (⟨"TroubleMemoryModel", "set", "(IIZ)V"⟩, 26), (⟨"TroubleMemoryModel", "keep", "(I)V"⟩, 26), (⟨"TroubleMemoryModel", "is", "(II)Z"⟩, 26), (⟨"TroubleMemoryModel", "none", "(I)Z"⟩, 26)]
theorem lw_r1 : ∀ q ∈ lw_privs_1, lw_okq q := List.forall_mem_cons.mpr ⟨lw_p0, List.forall_mem_cons.mpr ⟨lw_p1, List.forall_mem_cons.mpr ⟨lw_p2, List.forall_mem_cons.mpr ⟨lw_p3, List.forall_mem_cons.mpr ⟨lw_p4, List.forall_mem_cons.mpr ⟨lw_p5, List.forall_mem_cons.mpr ⟨lw_p6, List.forall_mem_cons.mpr ⟨lw_p7, List.forall_mem_cons.mpr ⟨lw_p8, List.forall_mem_cons.mpr ⟨lw_p9, List.forall_mem_cons.mpr ⟨lw_p10, List.forall_mem_cons.mpr ⟨lw_p11, List.forall_mem_cons.mpr ⟨lw_p12, List.forall_mem_cons.mpr ⟨lw_p13, List.forall_mem_cons.mpr ⟨lw_p14, List.forall_mem_cons.mpr ⟨lw_p15, fun _ h => absurd h List.not_mem_nil⟩⟩⟩⟩⟩⟩⟩⟩⟩⟩⟩⟩⟩⟩⟩⟩
theorem lw_p16 : lw_okq (⟨"TroubleMemoryModel", "statusOf", "(I)I"⟩, 26) := ⟨⟨by decide +kernel, by decide +kernel⟩, List.mem_of_getElem? (i := 484) (by decide +kernel), List.mem_of_getElem? (i := 600) (by decide +kernel), List.mem_of_getElem? (i := 601) (by decide +kernel)⟩
theorem lw_p17 : lw_okq (⟨"TroubleMemoryModel", "fails", "(I)V"⟩, 26) := ⟨⟨by decide +kernel, by decide +kernel⟩, List.mem_of_getElem? (i := 484) (by decide +kernel), List.mem_of_getElem? (i := 604) (by decide +kernel), List.mem_of_getElem? (i := 605) (by decide +kernel)⟩
theorem lw_p18 : lw_okq (⟨"TroubleMemoryModel", "hidden", "(I)Z"⟩, 26) := ⟨⟨by decide +kernel, by decide +kernel⟩, List.mem_of_getElem? (i := 484) (by decide +kernel), List.mem_of_getElem? (i := 608) (by decide +kernel), List.mem_of_getElem? (i := 609) (by decide +kernel)⟩
theorem lw_p19 : lw_okq (⟨"TroubleMemoryModel", "store", "(I)V"⟩, 26) := ⟨⟨by decide +kernel, by decide +kernel⟩, List.mem_of_getElem? (i := 484) (by decide +kernel), List.mem_of_getElem? (i := 612) (by decide +kernel), List.mem_of_getElem? (i := 613) (by decide +kernel)⟩
theorem lw_p20 : lw_okq (⟨"TroubleMemoryModel", "shoot", "(II)V"⟩, 26) := ⟨⟨by decide +kernel, by decide +kernel⟩, List.mem_of_getElem? (i := 484) (by decide +kernel), List.mem_of_getElem? (i := 616) (by decide +kernel), List.mem_of_getElem? (i := 617) (by decide +kernel)⟩
theorem lw_p21 : lw_okq (⟨"TroubleMemoryModel", "many", "(I)I"⟩, 26) := ⟨⟨by decide +kernel, by decide +kernel⟩, List.mem_of_getElem? (i := 484) (by decide +kernel), List.mem_of_getElem? (i := 620) (by decide +kernel), List.mem_of_getElem? (i := 621) (by decide +kernel)⟩
theorem lw_p22 : lw_okq (⟨"TroubleMemoryModel", "entries", "()I"⟩, 26) := ⟨⟨by decide +kernel, by decide +kernel⟩, List.mem_of_getElem? (i := 484) (by decide +kernel), List.mem_of_getElem? (i := 624) (by decide +kernel), List.mem_of_getElem? (i := 625) (by decide +kernel)⟩
theorem lw_p23 : lw_okq (⟨"TroubleMemoryModel", "goes", "(I)I"⟩, 26) := ⟨⟨by decide +kernel, by decide +kernel⟩, List.mem_of_getElem? (i := 484) (by decide +kernel), List.mem_of_getElem? (i := 628) (by decide +kernel), List.mem_of_getElem? (i := 629) (by decide +kernel)⟩
def lw_privs_2 : List (MethodName × Nat) := [(⟨"TroubleMemoryModel", "statusOf", "(I)I"⟩, 26), (⟨"TroubleMemoryModel", "fails", "(I)V"⟩, 26), (⟨"TroubleMemoryModel", "hidden", "(I)Z"⟩, 26), (⟨"TroubleMemoryModel", "store", "(I)V"⟩, 26), (⟨"TroubleMemoryModel", "shoot", "(II)V"⟩, 26), (⟨"TroubleMemoryModel", "many", "(I)I"⟩, 26), (⟨"TroubleMemoryModel", "entries", "()I"⟩, 26), (⟨"TroubleMemoryModel", "goes", "(I)I"⟩, 26)]
theorem lw_r2 : ∀ q ∈ lw_privs_2, lw_okq q := List.forall_mem_cons.mpr ⟨lw_p16, List.forall_mem_cons.mpr ⟨lw_p17, List.forall_mem_cons.mpr ⟨lw_p18, List.forall_mem_cons.mpr ⟨lw_p19, List.forall_mem_cons.mpr ⟨lw_p20, List.forall_mem_cons.mpr ⟨lw_p21, List.forall_mem_cons.mpr ⟨lw_p22, List.forall_mem_cons.mpr ⟨lw_p23, fun _ h => absurd h List.not_mem_nil⟩⟩⟩⟩⟩⟩⟩⟩
def lw_privs : List (MethodName × Nat) := lw_privs_1 ++ (lw_privs_2)
def lw_tbl : List Cond := k2_sels lw_privs ++ tables_1
theorem lw_privs_ok : ∀ q ∈ lw_privs, lw_okq q := by
  show ∀ q ∈ lw_privs_1 ++ (lw_privs_2), lw_okq q
  exact List.forall_mem_append.mpr ⟨lw_r1, lw_r2⟩
/-! NAMES: classes, fields, words; by program (wip/whole/gen/names.py) -/
def R_TM : String := "TroubleMemory"
def F_TM : u_T := fun k => match k with
  | 0 => ("TroubleMemory", "codes", "Ljava/util/ArrayList;", true)
  | 1 => ("TroubleMemory", "memory", "LTroubleMemory$Memory;", true)
  | 2 => ("TroubleMemory", "conditions", "I", false)
  | 3 => ("TroubleMemory", "powered", "Z", false)
  | 4 => ("TroubleMemory", "cycles", "I", false)
  | _ => ("TroubleMemory", "events", "I", false)
def t_TM : Nat → FieldType := fun k => match k with
  | 0 => .object "java/util/ArrayList"
  | 1 => .object "TroubleMemory$Memory"
  | 2 => .int
  | 3 => .boolean
  | 4 => .int
  | _ => .int
theorem n_TM : ∀ a, a < 6 → ∀ b, b < 6 → a ≠ b → (F_TM a).2.1 ≠ (F_TM b).2.1 := by decide +kernel
theorem t_TM_ok : ∀ k, k < 6 → parseFieldDescriptor (F_TM k).2.2.1 = some (t_TM k) := by decide +kernel
def R_Mem : String := "TroubleMemory$Memory"
def F_Mem : u_T := fun k => match k with
  | 0 => ("TroubleMemory$Memory", "room", "I", true)
  | 1 => ("TroubleMemory$Memory", "entries", "Ljava/util/ArrayList;", true)
  | _ => ("TroubleMemory$Memory", "displacedCodes", "Ljava/util/ArrayList;", true)
def t_Mem : Nat → FieldType := fun k => match k with
  | 0 => .int
  | 1 => .object "java/util/ArrayList"
  | _ => .object "java/util/ArrayList"
theorem n_Mem : ∀ a, a < 3 → ∀ b, b < 3 → a ≠ b → (F_Mem a).2.1 ≠ (F_Mem b).2.1 := by decide +kernel
theorem t_Mem_ok : ∀ k, k < 3 → parseFieldDescriptor (F_Mem k).2.2.1 = some (t_Mem k) := by decide +kernel
def R_Cd : String := "TroubleMemory$Code"
def F_Cd : u_T := fun k => match k with
  | 0 => ("TroubleMemory$Code", "number", "I", true)
  | 1 => ("TroubleMemory$Code", "priority", "I", true)
  | 2 => ("TroubleMemory$Code", "up", "I", true)
  | 3 => ("TroubleMemory$Code", "down", "I", true)
  | 4 => ("TroubleMemory$Code", "now", "LTroubleMemory$Standing;", true)
  | 5 => ("TroubleMemory$Code", "kept", "LTroubleMemory$Standing;", true)
  | 6 => ("TroubleMemory$Code", "counter", "I", false)
  | 7 => ("TroubleMemory$Code", "parent", "LTroubleMemory$Code;", false)
  | _ => ("TroubleMemory$Code", "entry", "LTroubleMemory$Entry;", false)
def t_Cd : Nat → FieldType := fun k => match k with
  | 0 => .int
  | 1 => .int
  | 2 => .int
  | 3 => .int
  | 4 => .object "TroubleMemory$Standing"
  | 5 => .object "TroubleMemory$Standing"
  | 6 => .int
  | 7 => .object "TroubleMemory$Code"
  | _ => .object "TroubleMemory$Entry"
theorem n_Cd : ∀ a, a < 9 → ∀ b, b < 9 → a ≠ b → (F_Cd a).2.1 ≠ (F_Cd b).2.1 := by decide +kernel
theorem t_Cd_ok : ∀ k, k < 9 → parseFieldDescriptor (F_Cd k).2.2.1 = some (t_Cd k) := by decide +kernel
def R_Sg : String := "TroubleMemory$Standing"
def F_Sg : u_T := fun k => match k with
  | 0 => ("TroubleMemory$Standing", "status", "I", false)
  | 1 => ("TroubleMemory$Standing", "trips", "I", false)
  | 2 => ("TroubleMemory$Standing", "age", "I", false)
  | _ => ("TroubleMemory$Standing", "good", "I", false)
def t_Sg : Nat → FieldType := fun k => match k with
  | 0 => .int
  | 1 => .int
  | 2 => .int
  | _ => .int
theorem n_Sg : ∀ a, a < 4 → ∀ b, b < 4 → a ≠ b → (F_Sg a).2.1 ≠ (F_Sg b).2.1 := by decide +kernel
theorem t_Sg_ok : ∀ k, k < 4 → parseFieldDescriptor (F_Sg k).2.2.1 = some (t_Sg k) := by decide +kernel
def R_En : String := "TroubleMemory$Entry"
def F_En : u_T := fun k => match k with
  | 0 => ("TroubleMemory$Entry", "owner", "LTroubleMemory$Code;", true)
  | 1 => ("TroubleMemory$Entry", "first", "LTroubleMemory$Snapshot;", true)
  | 2 => ("TroubleMemory$Entry", "last", "LTroubleMemory$Snapshot;", false)
  | _ => ("TroubleMemory$Entry", "happened", "I", false)
def t_En : Nat → FieldType := fun k => match k with
  | 0 => .object "TroubleMemory$Code"
  | 1 => .object "TroubleMemory$Snapshot"
  | 2 => .object "TroubleMemory$Snapshot"
  | _ => .int
theorem n_En : ∀ a, a < 4 → ∀ b, b < 4 → a ≠ b → (F_En a).2.1 ≠ (F_En b).2.1 := by decide +kernel
theorem t_En_ok : ∀ k, k < 4 → parseFieldDescriptor (F_En k).2.2.1 = some (t_En k) := by decide +kernel
def R_Sn : String := "TroubleMemory$Snapshot"
def F_Sn : u_T := fun k => match k with
  | 0 => ("TroubleMemory$Snapshot", "cycles", "I", true)
  | 1 => ("TroubleMemory$Snapshot", "events", "I", true)
  | 2 => ("TroubleMemory$Snapshot", "failedCodes", "I", true)
  | _ => ("TroubleMemory$Snapshot", "up", "I", true)
def t_Sn : Nat → FieldType := fun k => match k with
  | 0 => .int
  | 1 => .int
  | 2 => .int
  | _ => .int
theorem n_Sn : ∀ a, a < 4 → ∀ b, b < 4 → a ≠ b → (F_Sn a).2.1 ≠ (F_Sn b).2.1 := by decide +kernel
theorem t_Sn_ok : ∀ k, k < 4 → parseFieldDescriptor (F_Sn k).2.2.1 = some (t_Sn k) := by decide +kernel
def R_AL : String := "java/util/ArrayList"
def F_AL : u_T := fun k => match k with
  | 0 => ("java/util/ArrayList", "elementData", "[Ljava/lang/Object;", false)
  | 1 => ("java/util/ArrayList", "size", "I", false)
  | _ => ("java/util/AbstractList", "modCount", "I", false)
def t_AL : Nat → FieldType := fun k => match k with
  | 0 => .array (.object "java/lang/Object")
  | 1 => .int
  | _ => .int
theorem n_AL : ∀ a, a < 3 → ∀ b, b < 3 → a ≠ b → (F_AL a).2.1 ≠ (F_AL b).2.1 := by decide +kernel
theorem t_AL_ok : ∀ k, k < 3 → parseFieldDescriptor (F_AL k).2.2.1 = some (t_AL k) := by decide +kernel
def R_Rf : String := "TroubleMemoryModel"
def F_Rf : u_T := fun k => match k with
  | 0 => ("TroubleMemoryModel", "code", "I", false)
  | 1 => ("TroubleMemoryModel", "room", "I", true)
  | 2 => ("TroubleMemoryModel", "codes", "I", false)
  | 3 => ("TroubleMemoryModel", "priority", "[I", true)
  | 4 => ("TroubleMemoryModel", "up", "[I", true)
  | 5 => ("TroubleMemoryModel", "down", "[I", true)
  | 6 => ("TroubleMemoryModel", "parent", "[I", true)
  | 7 => ("TroubleMemoryModel", "counter", "[I", true)
  | 8 => ("TroubleMemoryModel", "bit", "[Z", true)
  | 9 => ("TroubleMemoryModel", "trips", "[I", true)
  | 10 => ("TroubleMemoryModel", "age", "[I", true)
  | 11 => ("TroubleMemoryModel", "good", "[I", true)
  | 12 => ("TroubleMemoryModel", "keptBit", "[Z", true)
  | 13 => ("TroubleMemoryModel", "keptTrips", "[I", true)
  | 14 => ("TroubleMemoryModel", "keptAge", "[I", true)
  | 15 => ("TroubleMemoryModel", "keptGood", "[I", true)
  | 16 => ("TroubleMemoryModel", "stored", "[I", true)
  | 17 => ("TroubleMemoryModel", "happened", "[I", true)
  | 18 => ("TroubleMemoryModel", "snapshot", "[I", true)
  | 19 => ("TroubleMemoryModel", "last", "I", false)
  | 20 => ("TroubleMemoryModel", "gone", "I", false)
  | 21 => ("TroubleMemoryModel", "displaced", "[I", true)
  | 22 => ("TroubleMemoryModel", "offCondition", "[Z", true)
  | 23 => ("TroubleMemoryModel", "cut", "Z", false)
  | 24 => ("TroubleMemoryModel", "cycles", "I", false)
  | _ => ("TroubleMemoryModel", "events", "I", false)
def t_Rf : Nat → FieldType := fun k => match k with
  | 0 => .int
  | 1 => .int
  | 2 => .int
  | 3 => .array .int
  | 4 => .array .int
  | 5 => .array .int
  | 6 => .array .int
  | 7 => .array .int
  | 8 => .array .boolean
  | 9 => .array .int
  | 10 => .array .int
  | 11 => .array .int
  | 12 => .array .boolean
  | 13 => .array .int
  | 14 => .array .int
  | 15 => .array .int
  | 16 => .array .int
  | 17 => .array .int
  | 18 => .array .int
  | 19 => .int
  | 20 => .int
  | 21 => .array .int
  | 22 => .array .boolean
  | 23 => .boolean
  | 24 => .int
  | _ => .int
theorem n_Rf : ∀ a, a < 26 → ∀ b, b < 26 → a ≠ b → (F_Rf a).2.1 ≠ (F_Rf b).2.1 := by decide +kernel
theorem t_Rf_ok : ∀ k, k < 26 → parseFieldDescriptor (F_Rf k).2.2.1 = some (t_Rf k) := by decide +kernel
abbrev px_cl : List vw_C := [(R_TM, F_TM, 6), (R_Mem, F_Mem, 3), (R_Cd, F_Cd, 9), (R_Sg, F_Sg, 4), (R_En, F_En, 4), (R_Sn, F_Sn, 4), (R_AL, F_AL, 3), (R_Rf, F_Rf, 26)]
def px_ty : Nat → Nat → FieldType := fun c => match c with
  | 0 => t_TM
  | 1 => t_Mem
  | 2 => t_Cd
  | 3 => t_Sg
  | 4 => t_En
  | 5 => t_Sn
  | 6 => t_AL
  | _ => t_Rf
abbrev px_tys (dA : Nat → ClassId) : List (ClassId × FieldType) := [(dA 0, .int), (dA 1, .boolean), (dA 2, .object "java/lang/Object")]
abbrev px_SL : List (String × String × String) := [("java/util/ArrayList", "DEFAULTCAPACITY_EMPTY_ELEMENTDATA", "[Ljava/lang/Object;")]
def px_NW : List Cond := [(Jvm.Cond.methodLinkNest "TroubleMemory$Code" (11 : Nat) ({ cls := "TroubleMemory$Standing", name := "<init>", desc := "()V" } : Jvm.MethodName) "TroubleMemory"), (Jvm.Cond.castable "TroubleMemory$Code" "TroubleMemory$Code"), (Jvm.Cond.castable "TroubleMemory$Entry" "TroubleMemory$Entry"), (Jvm.Cond.declares ({ cls := "java/lang/Object", name := "getClass", desc := "()Ljava/lang/Class;" } : Jvm.MethodName)), (Jvm.Cond.castable "TroubleMemory" "java/lang/Object"), (Jvm.Cond.castable "TroubleMemory$Memory" "java/lang/Object"), (Jvm.Cond.castable "TroubleMemoryModel" "java/lang/Object"), (Jvm.Cond.castable "TroubleMemory$Code" "java/lang/Object"), (Jvm.Cond.castable "TroubleMemory$Standing" "java/lang/Object"), (Jvm.Cond.castable "TroubleMemory$Snapshot" "java/lang/Object"), (Jvm.Cond.castable "TroubleMemory$Entry" "java/lang/Object")]
def px_TB : List Cond := lw_tbl.filter goodWord
theorem px_tb1 {w : Cond} (i : Nat) (h : tables_1_1[i]? = some w) (hg : goodWord w = true) : w ∈ px_TB := by
  have h1 : w ∈ tables_1 := List.mem_append_left _ (List.mem_of_getElem? h)
  exact List.mem_filter.mpr ⟨List.mem_append_right _ h1, hg⟩
theorem px_tb2 {w : Cond} (i : Nat) (h : tables_1_2[i]? = some w) (hg : goodWord w = true) : w ∈ px_TB := by
  have h1 : w ∈ tables_1 := List.mem_append_right _ (List.mem_append_left _ (List.mem_of_getElem? h))
  exact List.mem_filter.mpr ⟨List.mem_append_right _ h1, hg⟩
theorem px_tb3 {w : Cond} (i : Nat) (h : tables_1_3[i]? = some w) (hg : goodWord w = true) : w ∈ px_TB := by
  have h1 : w ∈ tables_1 := List.mem_append_right _ (List.mem_append_right _ (List.mem_of_getElem? h))
  exact List.mem_filter.mpr ⟨List.mem_append_right _ h1, hg⟩
theorem px_tbs {w : Cond} (i : Nat) (h : (k2_sels lw_privs)[i]? = some w) (hg : goodWord w = true) : w ∈ px_TB := List.mem_filter.mpr ⟨List.mem_append_left _ (List.mem_of_getElem? h), hg⟩
theorem px_nw {w : Cond} (i : Nat) (h : px_NW[i]? = some w) : w ∈ px_NW := List.mem_of_getElem? h
end
section
/-! THE SMALL MACHINE. A method is a record: name, bytes, locals, return type, rows (pc, instruction, next pc, targets, constant). 'px' is the least predicate closed under the rules px_Cl; px_sound: what px says, the machine does. Everything behind this part is said with px alone. -/
abbrev px_Rw : Type := Nat × Jvm.ClassFile.Instr × Nat × List Nat × Int32
abbrev px_M : Type := MethodName × ByteArray × Nat × Option FieldType × List px_Rw
abbrev px_y (M : px_M) : MethodName := M.1
abbrev px_b (M : px_M) : ByteArray := M.2.1
abbrev px_L (M : px_M) : Nat := M.2.2.1
abbrev px_t (M : px_M) : Option FieldType := M.2.2.2.1
abbrev px_I (M : px_M) : List px_Rw := M.2.2.2.2
def px_row : List px_Rw → Nat → Option (Jvm.ClassFile.Instr × Nat × List Nat × Int32)
  | [], _ => none
  | q :: t, pc => bif Nat.beq q.1 pc then some q.2 else px_row t pc
def px_at (M : px_M) (pc : Nat) : Option (Jvm.ClassFile.Instr × Nat × List Nat × Int32) := px_row (px_I M) pc
def px_len : Jvm.ClassFile.Instr → Nat
  | .bipush _ => 2
  | .aload _ => 2
  | .astore _ => 2
  | .iload _ => 2
  | .istore _ => 2
  | .ldc _ => 2
  | .newarray _ => 2
  | .sipush _ => 3
  | .iinc _ _ => 3
  | .goto _ => 3
  | .ifCond _ _ => 3
  | .if_icmp _ _ => 3
  | .if_acmp _ _ => 3
  | .ifnull _ => 3
  | .ifnonnull _ => 3
  | .getfield _ => 3
  | .putfield _ => 3
  | .getstatic _ => 3
  | .new _ => 3
  | .anewarray _ => 3
  | .checkcast _ => 3
  | .invokevirtual _ => 3
  | .invokespecial _ => 3
  | .invokestatic _ => 3
  | .ldc_w _ => 3
  | _ => 1
def px_sw : Jvm.ClassFile.Instr → Bool
  | .tableswitch _ _ _ _ => true
  | .lookupswitch _ _ => true
  | _ => false
def px_tg (pc : Nat) (off : Int) (tg : List Nat) : Bool := match tg with
  | [t] => decide ((pc : Int) + off = (t : Int))
  | _ => false
def px_k (q : px_Rw) : Bool := match q.2.1 with
  | .iconst n => decide (Int32.ofInt n = q.2.2.2.2)
  | .bipush n => decide ((Int8.ofInt n).toInt32 = q.2.2.2.2)
  | .sipush n => decide ((Int16.ofInt n).toInt32 = q.2.2.2.2)
  | .iinc _ n => decide (Int32.ofInt n = q.2.2.2.2)
  | .goto off => px_tg q.1 off q.2.2.2.1
  | .ifCond _ off => px_tg q.1 off q.2.2.2.1
  | .if_icmp _ off => px_tg q.1 off q.2.2.2.1
  | .if_acmp _ off => px_tg q.1 off q.2.2.2.1
  | .ifnull off => px_tg q.1 off q.2.2.2.1
  | .ifnonnull off => px_tg q.1 off q.2.2.2.1
  | _ => true
def px_chk (q : px_Rw) : Bool := (px_sw q.2.1 || Nat.beq q.2.2.1 (q.1 + px_len q.2.1)) && px_k q
def px_okb (b : ByteArray) (q : px_Rw) : Bool := decide (decode b q.1 = .ok (q.2.1, q.2.2.1 - q.1)) && px_chk q
def px_okM (M : px_M) : Prop := (px_I M).all (px_okb (px_b M)) = true
theorem px_allapp {a b : List px_Rw} {f : px_Rw → Bool} (h1 : a.all f = true) (h2 : b.all f = true) : (a ++ b).all f = true := by rw [List.all_append, h1, h2]; rfl
theorem px_row_mem : ∀ (l : List px_Rw) (pc : Nat) (r : Jvm.ClassFile.Instr × Nat × List Nat × Int32), px_row l pc = some r → (pc, r) ∈ l
  | [], _, _, h => by simp [px_row] at h
  | q :: t, pc, r, h => by
    unfold px_row at h
    cases hb : Nat.beq q.1 pc with
    | true =>
      rw [hb] at h
      have e : q.1 = pc := Nat.eq_of_beq_eq_true hb
      have e2 : q.2 = r := Option.some.inj h
      subst e; subst e2
      exact List.mem_cons_self
    | false =>
      rw [hb] at h
      exact List.mem_cons_of_mem _ (px_row_mem t pc r h)
section PXD
variable {M : px_M} {pc nx : Nat} {i : Jvm.ClassFile.Instr} {tg : List Nat} {k : Int32}
theorem px_dec (hM : px_okM M) (h : px_at M pc = some (i, nx, tg, k)) : decode (px_b M) pc = .ok (i, nx - pc) ∧ px_chk (pc, i, nx, tg, k) = true := by
  have h1 := Bool.and_eq_true_iff.mp (List.all_eq_true.mp hM _ (px_row_mem _ _ _ h))
  exact ⟨of_decide_eq_true h1.1, h1.2⟩
theorem px_hd (n : Nat) (hM : px_okM M) (h : px_at M pc = some (i, nx, tg, k)) (hs : px_sw i = false) (hn : px_len i = n) : decode (px_b M) pc = .ok (i, n) ∧ nx = pc + n := by
  obtain ⟨hd, hc⟩ := px_dec hM h
  have h1 := (Bool.and_eq_true_iff.mp hc).1
  have h2 : Nat.beq nx (pc + px_len i) = true := by
    rcases Bool.or_eq_true_iff.mp h1 with h3 | h3
    · exact absurd (hs.symm.trans h3) (by decide)
    · exact h3
  have e : nx = pc + n := by rw [← hn]; exact Nat.eq_of_beq_eq_true h2
  subst e
  rw [Nat.add_sub_cancel_left] at hd
  exact ⟨hd, rfl⟩
theorem px_kk (hM : px_okM M) (h : px_at M pc = some (i, nx, tg, k)) : px_k (pc, i, nx, tg, k) = true := (Bool.and_eq_true_iff.mp (px_dec hM h).2).2
theorem px_tg1 {off : Int} (h : px_tg pc off tg = true) : ∃ t : Nat, tg = [t] ∧ (pc : Int) + off = (t : Int) := by
  unfold px_tg at h
  split at h
  · exact ⟨_, rfl, of_decide_eq_true h⟩
  · cases h
end PXD
/-- locals -/
def px_get : List (Nat × Value) → Nat → Option Value
  | [], _ => none
  | q :: t, i => bif Nat.beq q.1 i then some q.2 else px_get t i
theorem px_get_mem : ∀ (l : List (Nat × Value)) (i : Nat) (v : Value), px_get l i = some v → (i, v) ∈ l
  | [], _, _, h => by simp [px_get] at h
  | q :: t, i, v, h => by
    unfold px_get at h
    cases hb : Nat.beq q.1 i with
    | true =>
      rw [hb] at h
      have e : q.1 = i := Nat.eq_of_beq_eq_true hb
      have e2 : q.2 = v := Option.some.inj h
      subst e; subst e2
      exact List.mem_cons_self
    | false =>
      rw [hb] at h
      exact List.mem_cons_of_mem _ (px_get_mem t i v h)
theorem px_has {la : Array Slot} {n i : Nat} {v : Value} {lv : List (Nat × Value)} (h : lv_has la n lv) (hg : px_get lv i = some v) : la[i]? = some (.val v) := h.2.2 (i, v) (px_get_mem _ _ _ hg)
def px_put (lv : List (Nat × Value)) (i : Nat) (v : Value) : List (Nat × Value) := (i, v) :: lv.filter (fun q => !(q.1 == i) && !(q.1 + 1 == i && q.2.category == 2))
/-- stack shapes -/
def px_ii : List Value → Option (Int32 × Int32 × List Value)
  | .int y :: .int x :: r => some (x, y, r)
  | _ => none
def px_i1 : List Value → Option (Int32 × List Value)
  | .int x :: r => some (x, r)
  | _ => none
def px_v1 : List Value → Option (Value × List Value)
  | .int x :: r => some (.int x, r)
  | .ref x :: r => some (.ref x, r)
  | .null :: r => some (.null, r)
  | _ => none
def px_r1 : List Value → Option (Value × List Value)
  | .ref x :: r => some (.ref x, r)
  | .null :: r => some (.null, r)
  | _ => none
theorem px_ii_eq {st r : List Value} {x y : Int32} (h : px_ii st = some (x, y, r)) : st = .int y :: .int x :: r := by
  unfold px_ii at h
  split at h
  · cases h; rfl
  · cases h
theorem px_i1_eq {st r : List Value} {x : Int32} (h : px_i1 st = some (x, r)) : st = .int x :: r := by
  unfold px_i1 at h
  split at h
  · cases h; rfl
  · cases h
theorem px_v1_eq {st r : List Value} {v : Value} (h : px_v1 st = some (v, r)) : st = v :: r ∧ v.category = 1 := by
  unfold px_v1 at h
  split at h
  · cases h; exact ⟨rfl, rfl⟩
  · cases h; exact ⟨rfl, rfl⟩
  · cases h; exact ⟨rfl, rfl⟩
  · cases h
theorem px_r1_eq {st r : List Value} {v : Value} (h : px_r1 st = some (v, r)) : st = v :: r ∧ (v = .null ∨ ∃ a, v = .ref a) := by
  unfold px_r1 at h
  split at h
  · cases h; exact ⟨rfl, Or.inr ⟨_, rfl⟩⟩
  · cases h; exact ⟨rfl, Or.inl rfl⟩
  · cases h
def px_loadI (lv : List (Nat × Value)) (st : List Value) (n : Nat) : Option (List (Nat × Value) × List Value) := match px_get lv n with
  | some (.int x) => some (lv, .int x :: st)
  | _ => none
def px_loadA (lv : List (Nat × Value)) (st : List Value) (n : Nat) : Option (List (Nat × Value) × List Value) := match px_get lv n with
  | some (.ref x) => some (lv, .ref x :: st)
  | some .null => some (lv, .null :: st)
  | _ => none
def px_storeI (L : Nat) (lv : List (Nat × Value)) (st : List Value) (n : Nat) : Option (List (Nat × Value) × List Value) := match st with
  | .int x :: r => bif Nat.blt n L then some (px_put lv n (.int x), r) else none
  | _ => none
def px_storeA (L : Nat) (lv : List (Nat × Value)) (st : List Value) (n : Nat) : Option (List (Nat × Value) × List Value) := match st with
  | .ref x :: r => bif Nat.blt n L then some (px_put lv n (.ref x), r) else none
  | .null :: r => bif Nat.blt n L then some (px_put lv n .null, r) else none
  | _ => none
def px_incI (L : Nat) (lv : List (Nat × Value)) (st : List Value) (n : Nat) (k : Int32) : Option (List (Nat × Value) × List Value) := match px_get lv n with
  | some (.int x) => bif Nat.blt n L then some (px_put lv n (.int (x + k)), st) else none
  | _ => none
def px_bin (f : Int32 → Int32 → Int32) (lv : List (Nat × Value)) (st : List Value) : Option (List (Nat × Value) × List Value) := match px_ii st with
  | some (x, y, r) => some (lv, .int (f x y) :: r)
  | none => none
def px_dup (lv : List (Nat × Value)) (st : List Value) : Option (List (Nat × Value) × List Value) := match px_v1 st with
  | some (v, r) => some (lv, v :: v :: r)
  | none => none
def px_pop (lv : List (Nat × Value)) (st : List Value) : Option (List (Nat × Value) × List Value) := match px_v1 st with
  | some (_, r) => some (lv, r)
  | none => none
def px_dx1 (lv : List (Nat × Value)) (st : List Value) : Option (List (Nat × Value) × List Value) := match px_v1 st with
  | some (v, r) => (match px_v1 r with
    | some (w, r2) => some (lv, v :: w :: v :: r2)
    | none => none)
  | none => none
def px_dup2 (lv : List (Nat × Value)) (st : List Value) : Option (List (Nat × Value) × List Value) := match px_v1 st with
  | some (v, r) => (match px_v1 r with
    | some (w, r2) => some (lv, v :: w :: v :: w :: r2)
    | none => none)
  | none => none
def px_neg (lv : List (Nat × Value)) (st : List Value) : Option (List (Nat × Value) × List Value) := match px_i1 st with
  | some (x, r) => some (lv, .int (-x) :: r)
  | none => none
/-- the instructions that touch locals and operands alone -/
def px_step (L : Nat) (i : Jvm.ClassFile.Instr) (k : Int32) (lv : List (Nat × Value)) (st : List Value) : Option (List (Nat × Value) × List Value) := match i with
  | .iconst _ => some (lv, .int k :: st)
  | .bipush _ => some (lv, .int k :: st)
  | .sipush _ => some (lv, .int k :: st)
  | .aconst_null => some (lv, .null :: st)
  | .iload_n n => px_loadI lv st n.val
  | .iload n => px_loadI lv st n
  | .aload_n n => px_loadA lv st n.val
  | .aload n => px_loadA lv st n
  | .istore_n n => px_storeI L lv st n.val
  | .istore n => px_storeI L lv st n
  | .astore_n n => px_storeA L lv st n.val
  | .astore n => px_storeA L lv st n
  | .iinc n _ => px_incI L lv st n k
  | .iadd => px_bin (fun x y => x + y) lv st
  | .isub => px_bin (fun x y => x - y) lv st
  | .imul => px_bin (fun x y => x * y) lv st
  | .iand => px_bin (fun x y => x &&& y) lv st
  | .ior => px_bin (fun x y => x ||| y) lv st
  | .ixor => px_bin (fun x y => x ^^^ y) lv st
  | .ishl => px_bin (fun x y => x <<< (y &&& 31)) lv st
  | .ishr => px_bin (fun x y => x >>> (y &&& 31)) lv st
  | .iushr => px_bin (fun x y => (x.toUInt32 >>> (y.toUInt32 &&& Int32.toUInt32 31)).toInt32) lv st
  | .ineg => px_neg lv st
  | .dup => px_dup lv st
  | .pop => px_pop lv st
  | .dup_x1 => px_dx1 lv st
  | .dup2 => px_dup2 lv st
  | _ => none
section PXE
variable {lv lv' : List (Nat × Value)} {st st' : List Value} {L n : Nat} {k : Int32}
theorem px_bin_eq {f : Int32 → Int32 → Int32} (h : px_bin f lv st = some (lv', st')) : ∃ (x y : Int32) (r : List Value), st = .int y :: .int x :: r ∧ lv' = lv ∧ st' = .int (f x y) :: r := by
  unfold px_bin at h
  split at h
  · next x y r e => cases h; exact ⟨x, y, r, px_ii_eq e, rfl, rfl⟩
  · cases h
theorem px_neg_eq (h : px_neg lv st = some (lv', st')) : ∃ (x : Int32) (r : List Value), st = .int x :: r ∧ lv' = lv ∧ st' = .int (-x) :: r := by
  unfold px_neg at h
  split at h
  · next x r e => cases h; exact ⟨x, r, px_i1_eq e, rfl, rfl⟩
  · cases h
theorem px_loadI_eq (h : px_loadI lv st n = some (lv', st')) : ∃ x : Int32, px_get lv n = some (.int x) ∧ lv' = lv ∧ st' = .int x :: st := by
  unfold px_loadI at h
  split at h
  · next x e => cases h; exact ⟨x, e, rfl, rfl⟩
  · cases h
theorem px_loadA_eq (h : px_loadA lv st n = some (lv', st')) : (∃ x : Nat, px_get lv n = some (.ref x) ∧ lv' = lv ∧ st' = .ref x :: st) ∨ (px_get lv n = some .null ∧ lv' = lv ∧ st' = .null :: st) := by
  unfold px_loadA at h
  split at h
  · next x e => cases h; exact Or.inl ⟨x, e, rfl, rfl⟩
  · next e => cases h; exact Or.inr ⟨e, rfl, rfl⟩
  · cases h
theorem px_blt {a b : Nat} {α : Type} {x y : α} (h : (bif Nat.blt a b then some x else none) = some y) : a < b ∧ x = y := by
  cases hb : Nat.blt a b with
  | true =>
    rw [hb] at h
    exact ⟨Nat.le_of_ble_eq_true hb, Option.some.inj h⟩
  | false =>
    rw [hb] at h
    cases h
theorem px_storeI_eq (h : px_storeI L lv st n = some (lv', st')) : ∃ (x : Int32) (r : List Value), st = .int x :: r ∧ n < L ∧ lv' = px_put lv n (.int x) ∧ st' = r := by
  unfold px_storeI at h
  split at h
  · next x r =>
    obtain ⟨h1, h2⟩ := px_blt h
    cases h2
    exact ⟨x, _, rfl, h1, rfl, rfl⟩
  · cases h
theorem px_storeA_eq (h : px_storeA L lv st n = some (lv', st')) : (∃ (x : Nat) (r : List Value), st = .ref x :: r ∧ n < L ∧ lv' = px_put lv n (.ref x) ∧ st' = r) ∨ (∃ r : List Value, st = .null :: r ∧ n < L ∧ lv' = px_put lv n .null ∧ st' = r) := by
  unfold px_storeA at h
  split at h
  · next x r =>
    obtain ⟨h1, h2⟩ := px_blt h
    cases h2
    exact Or.inl ⟨x, _, rfl, h1, rfl, rfl⟩
  · next r =>
    obtain ⟨h1, h2⟩ := px_blt h
    cases h2
    exact Or.inr ⟨_, rfl, h1, rfl, rfl⟩
  · cases h
theorem px_incI_eq (h : px_incI L lv st n k = some (lv', st')) : ∃ x : Int32, px_get lv n = some (.int x) ∧ n < L ∧ lv' = px_put lv n (.int (x + k)) ∧ st' = st := by
  unfold px_incI at h
  split at h
  · next x e =>
    obtain ⟨h1, h2⟩ := px_blt h
    cases h2
    exact ⟨x, e, h1, rfl, rfl⟩
  · cases h
theorem px_dup_eq (h : px_dup lv st = some (lv', st')) : ∃ (v : Value) (r : List Value), st = v :: r ∧ v.category = 1 ∧ lv' = lv ∧ st' = v :: v :: r := by
  unfold px_dup at h
  split at h
  · next v r e => cases h; exact ⟨v, r, (px_v1_eq e).1, (px_v1_eq e).2, rfl, rfl⟩
  · cases h
theorem px_pop_eq (h : px_pop lv st = some (lv', st')) : ∃ (v : Value) (r : List Value), st = v :: r ∧ v.category = 1 ∧ lv' = lv ∧ st' = r := by
  unfold px_pop at h
  split at h
  · next v r e => cases h; exact ⟨v, _, (px_v1_eq e).1, (px_v1_eq e).2, rfl, rfl⟩
  · cases h
theorem px_dx1_eq (h : px_dx1 lv st = some (lv', st')) : ∃ (v w : Value) (r : List Value), st = v :: w :: r ∧ v.category = 1 ∧ w.category = 1 ∧ lv' = lv ∧ st' = v :: w :: v :: r := by
  unfold px_dx1 at h
  split at h
  · next v r e =>
    split at h
    · next w r2 e2 =>
      cases h
      obtain ⟨h1, h2⟩ := px_v1_eq e
      obtain ⟨h3, h4⟩ := px_v1_eq e2
      exact ⟨v, w, r2, by rw [h1, h3], h2, h4, rfl, rfl⟩
    · cases h
  · cases h
theorem px_dup2_eq (h : px_dup2 lv st = some (lv', st')) : ∃ (v w : Value) (r : List Value), st = v :: w :: r ∧ v.category = 1 ∧ w.category = 1 ∧ lv' = lv ∧ st' = v :: w :: v :: w :: r := by
  unfold px_dup2 at h
  split at h
  · next v r e =>
    split at h
    · next w r2 e2 =>
      cases h
      obtain ⟨h1, h2⟩ := px_v1_eq e
      obtain ⟨h3, h4⟩ := px_v1_eq e2
      exact ⟨v, w, r2, by rw [h1, h3], h2, h4, rfl, rfl⟩
    · cases h
  · cases h
theorem px_idx {la : Array Slot} {x : Value} (h : lv_has la L lv) (hg : px_get lv n = some x) : ∃ j : Nat, lv[j]? = some (n, x) := List.getElem?_of_mem (px_get_mem _ _ _ hg)
end PXE
section PXS
variable {p : Program} {l : Launch} {e : Env} {R : Room} {s : State} {m : MethodId} {args : Array Value} {below : List Frame} {meth : Method} {c : Code} {H : Heap} {locs : List Loc} {cells slots : Nat} {Z : State → Prop}
variable {M : px_M} {pc nx : Nat} {i : Jvm.ClassFile.Instr} {tg : List Nat} {k : Int32} {la : Array Slot} {lv lv' : List (Nat × Value)} {st st' : List Value}
set_option maxHeartbeats 4000000 in
theorem px_simple (hx : p.tables.exec = Jvm.exec) (hb : c.code = px_b M) (hM : px_okM M) (ha : px_at M pc = some (i, nx, tg, k)) (hs : px_step (px_L M) i k lv st = some (lv', st')) (hl : lv_has la (px_L M) lv)
    (kk : ∀ la', lv_has la' (px_L M) lv' → W p l e R s m args below meth c H locs cells slots Z (F0 m nx la' st')) : W p l e R s m args below meth c H locs cells slots Z (F0 m pc la st) := by
  have hkk := px_kk hM ha
  cases i
  case iconst n =>
    obtain ⟨hd, rfl⟩ := px_hd 1 hM ha rfl rfl
    cases hs
    exact lv_iconst hx hb hd (of_decide_eq_true hkk) (kk la hl)
  case bipush n =>
    obtain ⟨hd, rfl⟩ := px_hd 2 hM ha rfl rfl
    cases hs
    exact lv_bipush hx hb hd (of_decide_eq_true hkk) (kk la hl)
  case sipush n =>
    obtain ⟨hd, rfl⟩ := px_hd 3 hM ha rfl rfl
    cases hs
    exact lv_sipush hx hb hd (of_decide_eq_true hkk) (kk la hl)
  case aconst_null =>
    obtain ⟨hd, rfl⟩ := px_hd 1 hM ha rfl rfl
    cases hs
    exact lv_null hx hb hd (kk la hl)
  case iload_n n =>
    obtain ⟨hd, rfl⟩ := px_hd 1 hM ha rfl rfl
    obtain ⟨x, hg, rfl, rfl⟩ := px_loadI_eq hs
    exact lv_iload_n hx hb hd rfl (px_has hl hg) (kk la hl)
  case iload n =>
    obtain ⟨hd, rfl⟩ := px_hd 2 hM ha rfl rfl
    obtain ⟨x, hg, rfl, rfl⟩ := px_loadI_eq hs
    exact lv_iload hx hb hd (px_has hl hg) (kk la hl)
  case aload_n n =>
    obtain ⟨hd, rfl⟩ := px_hd 1 hM ha rfl rfl
    rcases px_loadA_eq hs with ⟨x, hg, rfl, rfl⟩ | ⟨hg, rfl, rfl⟩
    · exact lv_aload_n hx hb hd rfl (px_has hl hg) (kk la hl)
    · exact lv_aload_nN hx hb hd rfl (px_has hl hg) (kk la hl)
  case aload n =>
    obtain ⟨hd, rfl⟩ := px_hd 2 hM ha rfl rfl
    rcases px_loadA_eq hs with ⟨x, hg, rfl, rfl⟩ | ⟨hg, rfl, rfl⟩
    · exact lv_aload hx hb hd (px_has hl hg) (kk la hl)
    · exact lv_aloadN hx hb hd (px_has hl hg) (kk la hl)
  case istore_n n =>
    obtain ⟨hd, rfl⟩ := px_hd 1 hM ha rfl rfl
    obtain ⟨x, r, rfl, hn, rfl, rfl⟩ := px_storeI_eq hs
    exact lv_istore_n hx hb hd rfl hl hn rfl kk
  case istore n =>
    obtain ⟨hd, rfl⟩ := px_hd 2 hM ha rfl rfl
    obtain ⟨x, r, rfl, hn, rfl, rfl⟩ := px_storeI_eq hs
    exact lv_istore hx hb hd hl hn rfl kk
  case astore_n n =>
    obtain ⟨hd, rfl⟩ := px_hd 1 hM ha rfl rfl
    rcases px_storeA_eq hs with ⟨x, r, rfl, hn, rfl, rfl⟩ | ⟨r, rfl, hn, rfl, rfl⟩
    · exact lv_astore_n hx hb hd rfl hl hn rfl kk
    · exact lv_astore_nN hx hb hd rfl hl hn rfl kk
  case astore n =>
    obtain ⟨hd, rfl⟩ := px_hd 2 hM ha rfl rfl
    rcases px_storeA_eq hs with ⟨x, r, rfl, hn, rfl, rfl⟩ | ⟨r, rfl, hn, rfl, rfl⟩
    · exact lv_astore hx hb hd hl hn rfl kk
    · exact lv_astoreN hx hb hd hl hn rfl kk
  case iinc n z =>
    obtain ⟨hd, rfl⟩ := px_hd 3 hM ha rfl rfl
    obtain ⟨x, hg, hn, rfl, rfl⟩ := px_incI_eq hs
    obtain ⟨j, hj⟩ := px_idx hl hg
    have hz : Int32.ofInt z = k := of_decide_eq_true hkk
    subst hz
    exact lv_iinc hx hb hd hl hj rfl hn rfl kk
  case iadd =>
    obtain ⟨hd, rfl⟩ := px_hd 1 hM ha rfl rfl
    obtain ⟨x, y, r, rfl, rfl, rfl⟩ := px_bin_eq hs
    exact lv_iadd hx hb hd (kk la hl)
  case isub =>
    obtain ⟨hd, rfl⟩ := px_hd 1 hM ha rfl rfl
    obtain ⟨x, y, r, rfl, rfl, rfl⟩ := px_bin_eq hs
    exact lv_isub hx hb hd (kk la hl)
  case imul =>
    obtain ⟨hd, rfl⟩ := px_hd 1 hM ha rfl rfl
    obtain ⟨x, y, r, rfl, rfl, rfl⟩ := px_bin_eq hs
    exact lv_imul hx hb hd (kk la hl)
  case iand =>
    obtain ⟨hd, rfl⟩ := px_hd 1 hM ha rfl rfl
    obtain ⟨x, y, r, rfl, rfl, rfl⟩ := px_bin_eq hs
    exact lv_iand hx hb hd (kk la hl)
  case ior =>
    obtain ⟨hd, rfl⟩ := px_hd 1 hM ha rfl rfl
    obtain ⟨x, y, r, rfl, rfl, rfl⟩ := px_bin_eq hs
    exact lv_ior hx hb hd (kk la hl)
  case ixor =>
    obtain ⟨hd, rfl⟩ := px_hd 1 hM ha rfl rfl
    obtain ⟨x, y, r, rfl, rfl, rfl⟩ := px_bin_eq hs
    exact lv_ixor hx hb hd (kk la hl)
  case ishl =>
    obtain ⟨hd, rfl⟩ := px_hd 1 hM ha rfl rfl
    obtain ⟨x, y, r, rfl, rfl, rfl⟩ := px_bin_eq hs
    exact lv_ishl hx hb hd (kk la hl)
  case ishr =>
    obtain ⟨hd, rfl⟩ := px_hd 1 hM ha rfl rfl
    obtain ⟨x, y, r, rfl, rfl, rfl⟩ := px_bin_eq hs
    exact lv_ishr hx hb hd (kk la hl)
  case iushr =>
    obtain ⟨hd, rfl⟩ := px_hd 1 hM ha rfl rfl
    obtain ⟨x, y, r, rfl, rfl, rfl⟩ := px_bin_eq hs
    exact lv_iushr hx hb hd rfl (kk la hl)
  case ineg =>
    obtain ⟨hd, rfl⟩ := px_hd 1 hM ha rfl rfl
    obtain ⟨x, r, rfl, rfl, rfl⟩ := px_neg_eq hs
    exact lv_ineg hx hb hd (kk la hl)
  case dup =>
    obtain ⟨hd, rfl⟩ := px_hd 1 hM ha rfl rfl
    obtain ⟨v, r, rfl, hv, rfl, rfl⟩ := px_dup_eq hs
    exact lv_dup hx hb hd hv (kk la hl)
  case pop =>
    obtain ⟨hd, rfl⟩ := px_hd 1 hM ha rfl rfl
    obtain ⟨v, r, rfl, hv, rfl, rfl⟩ := px_pop_eq hs
    exact lv_pop hx hb hd hv (kk la hl)
  case dup_x1 =>
    obtain ⟨hd, rfl⟩ := px_hd 1 hM ha rfl rfl
    obtain ⟨v, w, r, rfl, hv, hw, rfl, rfl⟩ := px_dx1_eq hs
    exact lv_dup_x1 hx hb hd hv hw (kk la hl)
  case dup2 =>
    obtain ⟨hd, rfl⟩ := px_hd 1 hM ha rfl rfl
    obtain ⟨v, w, r, rfl, hv, hw, rfl, rfl⟩ := px_dup2_eq hs
    exact lv_dup2_11 hx hb hd hv hw (kk la hl)
  all_goals (simp [px_step] at hs)
end PXS
end
section
/-! THE WORDS, a row each -/
/-- words that are carried in the state, not in the tables -/
def px_nwk : Cond → Bool
  | .fieldLinkNest _ _ _ _ _ _ => true
  | .methodLinkNest _ _ _ _ => true
  | .castable _ _ => true
  | .declares _ => true
  | _ => false
theorem w_0 : (Jvm.Cond.initialized "TroubleMemoryLaw") ∈ px_TB := px_tb1 0 (by decide +kernel) rfl
theorem w_1 : (Jvm.Cond.initialized "TroubleMemory") ∈ px_TB := px_tb1 1 (by decide +kernel) rfl
theorem w_2 : (Jvm.Cond.initialized "java/util/AbstractCollection") ∈ px_TB := px_tb1 2 (by decide +kernel) rfl
theorem w_3 : (Jvm.Cond.initialized "java/util/AbstractList") ∈ px_TB := px_tb1 3 (by decide +kernel) rfl
theorem w_4 : (Jvm.Cond.initialized "java/util/ArrayList") ∈ px_TB := px_tb1 4 (by decide +kernel) rfl
theorem w_5 : (Jvm.Cond.initialized "TroubleMemory$Memory") ∈ px_TB := px_tb1 5 (by decide +kernel) rfl
theorem w_6 : (Jvm.Cond.initialized "TroubleMemoryModel") ∈ px_TB := px_tb1 6 (by decide +kernel) rfl
theorem w_7 : (Jvm.Cond.initialized "TroubleMemory$Code") ∈ px_TB := px_tb1 7 (by decide +kernel) rfl
theorem w_8 : (Jvm.Cond.initialized "TroubleMemory$Standing") ∈ px_TB := px_tb1 8 (by decide +kernel) rfl
theorem w_9 : (Jvm.Cond.initialized "jdk/internal/util/ArraysSupport") ∈ px_TB := px_tb1 9 (by decide +kernel) rfl
theorem w_10 : (Jvm.Cond.initialized "java/lang/Math") ∈ px_TB := px_tb1 10 (by decide +kernel) rfl
theorem w_11 : (Jvm.Cond.initialized "java/util/Arrays") ∈ px_TB := px_tb1 11 (by decide +kernel) rfl
theorem w_12 : (Jvm.Cond.initialized "java/lang/System") ∈ px_TB := px_tb1 12 (by decide +kernel) rfl
theorem w_13 : (Jvm.Cond.initialized "java/util/Objects") ∈ px_TB := px_tb1 13 (by decide +kernel) rfl
theorem w_14 : (Jvm.Cond.initialized "jdk/internal/util/Preconditions") ∈ px_TB := px_tb1 14 (by decide +kernel) rfl
theorem w_15 : (Jvm.Cond.initialized "TroubleMemory$Snapshot") ∈ px_TB := px_tb1 15 (by decide +kernel) rfl
theorem w_16 : (Jvm.Cond.initialized "TroubleMemory$Entry") ∈ px_TB := px_tb1 16 (by decide +kernel) rfl
theorem w_17 : (Jvm.Cond.initialized "java/lang/Integer") ∈ px_TB := px_tb1 17 (by decide +kernel) rfl
theorem w_18 : (Jvm.Cond.classLink "TroubleMemoryLaw" (7 : Nat) "TroubleMemory") ∈ px_TB := px_tb1 18 (by decide +kernel) rfl
theorem w_19 : (Jvm.Cond.instantiable "TroubleMemory" (6 : Nat)) ∈ px_TB := px_tb1 19 (by decide +kernel) rfl
theorem w_20 : (Jvm.Cond.methodLink "TroubleMemoryLaw" (15 : Nat) ({ cls := "TroubleMemory", name := "<init>", desc := "(I)V" } : Jvm.MethodName)) ∈ px_TB := px_tb1 20 (by decide +kernel) rfl
theorem w_21 : (Jvm.Cond.instanceMethod ({ cls := "TroubleMemory", name := "<init>", desc := "(I)V" } : Jvm.MethodName)) ∈ px_TB := px_tb1 21 (by decide +kernel) rfl
theorem w_22 : (Jvm.Cond.code ({ cls := "TroubleMemory", name := "<init>", desc := "(I)V" } : Jvm.MethodName) prog_1_method_1_code (2 : Nat) (Option.none : Option Jvm.ClassFile.FieldType)) ∈ px_TB := px_tb1 22 rfl rfl
theorem w_23 : (Jvm.Cond.methodLink "TroubleMemory" (3 : Nat) ({ cls := "java/lang/Object", name := "<init>", desc := "()V" } : Jvm.MethodName)) ∈ px_TB := px_tb1 23 (by decide +kernel) rfl
theorem w_24 : (Jvm.Cond.instanceMethod ({ cls := "java/lang/Object", name := "<init>", desc := "()V" } : Jvm.MethodName)) ∈ px_TB := px_tb1 24 (by decide +kernel) rfl
theorem w_25 : (Jvm.Cond.code ({ cls := "java/lang/Object", name := "<init>", desc := "()V" } : Jvm.MethodName) object_method_1_code (1 : Nat) (Option.none : Option Jvm.ClassFile.FieldType)) ∈ px_TB := px_tb1 25 rfl rfl
theorem w_26 : (Jvm.Cond.classLink "TroubleMemory" (9 : Nat) "java/util/ArrayList") ∈ px_TB := px_tb1 26 (by decide +kernel) rfl
theorem w_27 : (Jvm.Cond.instantiable "java/util/ArrayList" (3 : Nat)) ∈ px_TB := px_tb1 27 (by decide +kernel) rfl
theorem w_28 : (Jvm.Cond.methodLink "TroubleMemory" (11 : Nat) ({ cls := "java/util/ArrayList", name := "<init>", desc := "()V" } : Jvm.MethodName)) ∈ px_TB := px_tb1 28 (by decide +kernel) rfl
theorem w_29 : (Jvm.Cond.instanceMethod ({ cls := "java/util/ArrayList", name := "<init>", desc := "()V" } : Jvm.MethodName)) ∈ px_TB := px_tb1 29 (by decide +kernel) rfl
theorem w_30 : (Jvm.Cond.code ({ cls := "java/util/ArrayList", name := "<init>", desc := "()V" } : Jvm.MethodName) prog_17_method_2_code (1 : Nat) (Option.none : Option Jvm.ClassFile.FieldType)) ∈ px_TB := px_tb1 30 rfl rfl
theorem w_31 : (Jvm.Cond.methodLink "java/util/ArrayList" (1 : Nat) ({ cls := "java/util/AbstractList", name := "<init>", desc := "()V" } : Jvm.MethodName)) ∈ px_TB := px_tb1 31 (by decide +kernel) rfl
theorem w_32 : (Jvm.Cond.instanceMethod ({ cls := "java/util/AbstractList", name := "<init>", desc := "()V" } : Jvm.MethodName)) ∈ px_TB := px_tb1 32 (by decide +kernel) rfl
theorem w_33 : (Jvm.Cond.code ({ cls := "java/util/AbstractList", name := "<init>", desc := "()V" } : Jvm.MethodName) prog_16_method_1_code (1 : Nat) (Option.none : Option Jvm.ClassFile.FieldType)) ∈ px_TB := px_tb1 33 rfl rfl
theorem w_34 : (Jvm.Cond.methodLink "java/util/AbstractList" (1 : Nat) ({ cls := "java/util/AbstractCollection", name := "<init>", desc := "()V" } : Jvm.MethodName)) ∈ px_TB := px_tb1 34 (by decide +kernel) rfl
theorem w_35 : (Jvm.Cond.instanceMethod ({ cls := "java/util/AbstractCollection", name := "<init>", desc := "()V" } : Jvm.MethodName)) ∈ px_TB := px_tb1 35 (by decide +kernel) rfl
theorem w_36 : (Jvm.Cond.code ({ cls := "java/util/AbstractCollection", name := "<init>", desc := "()V" } : Jvm.MethodName) prog_15_method_1_code (1 : Nat) (Option.none : Option Jvm.ClassFile.FieldType)) ∈ px_TB := px_tb1 36 rfl rfl
theorem w_37 : (Jvm.Cond.methodLink "java/util/AbstractCollection" (1 : Nat) ({ cls := "java/lang/Object", name := "<init>", desc := "()V" } : Jvm.MethodName)) ∈ px_TB := px_tb1 37 (by decide +kernel) rfl
theorem w_38 : (Jvm.Cond.fieldLink "java/util/ArrayList" (39 : Nat) "java/util/ArrayList" "DEFAULTCAPACITY_EMPTY_ELEMENTDATA" "[Ljava/lang/Object;") ∈ px_TB := px_tb1 38 (by decide +kernel) rfl
theorem w_40 : (Jvm.Cond.fieldLink "java/util/ArrayList" (9 : Nat) "java/util/ArrayList" "elementData" "[Ljava/lang/Object;") ∈ px_TB := px_tb1 40 (by decide +kernel) rfl
theorem w_41 : (Jvm.Cond.fieldLink "java/util/ArrayList" (48 : Nat) "java/util/ArrayList" "size" "I") ∈ px_TB := px_tb1 41 (by decide +kernel) rfl
theorem w_42 : (Jvm.Cond.fieldLink "java/util/AbstractList" (7 : Nat) "java/util/AbstractList" "modCount" "I") ∈ px_TB := px_tb1 42 (by decide +kernel) rfl
theorem w_43 : (Jvm.Cond.fieldLink "java/util/ArrayList" (63 : Nat) "java/util/ArrayList" "modCount" "I") ∈ px_TB := px_tb1 43 (by decide +kernel) rfl
theorem w_44 : (Jvm.Cond.sameField "java/util/ArrayList" "java/util/AbstractList" "modCount" "I") ∈ px_TB := px_tb1 44 (by decide +kernel) rfl
theorem w_45 : (Jvm.Cond.lays "java/util/ArrayList" "java/util/ArrayList" "elementData" "[Ljava/lang/Object;") ∈ px_TB := px_tb1 45 (by decide +kernel) rfl
theorem w_46 : (Jvm.Cond.soleField "java/util/ArrayList" "elementData") ∈ px_TB := px_tb1 46 (by decide +kernel) rfl
theorem w_47 : (Jvm.Cond.lays "java/util/ArrayList" "java/util/ArrayList" "size" "I") ∈ px_TB := px_tb1 47 (by decide +kernel) rfl
theorem w_48 : (Jvm.Cond.soleField "java/util/ArrayList" "size") ∈ px_TB := px_tb1 48 (by decide +kernel) rfl
theorem w_49 : (Jvm.Cond.lays "java/util/ArrayList" "java/util/AbstractList" "modCount" "I") ∈ px_TB := px_tb1 49 (by decide +kernel) rfl
theorem w_50 : (Jvm.Cond.soleField "java/util/AbstractList" "modCount") ∈ px_TB := px_tb1 50 (by decide +kernel) rfl
theorem w_51 : (Jvm.Cond.superclass "java/util/ArrayList" "java/util/AbstractList") ∈ px_TB := px_tb1 51 (by decide +kernel) rfl
theorem w_52 : (Jvm.Cond.classLink "TroubleMemory" (30 : Nat) "TroubleMemory$Memory") ∈ px_TB := px_tb1 52 (by decide +kernel) rfl
theorem w_53 : (Jvm.Cond.instantiable "TroubleMemory$Memory" (3 : Nat)) ∈ px_TB := px_tb1 53 (by decide +kernel) rfl
theorem w_54 : (Jvm.Cond.constant "TroubleMemory" (32 : Nat) (65536 : Int32)) ∈ px_TB := px_tb1 54 (by decide +kernel) rfl
theorem w_55 : (Jvm.Cond.methodLink "TroubleMemory" (33 : Nat) ({ cls := "TroubleMemory", name := "isWithin", desc := "(III)Z" } : Jvm.MethodName)) ∈ px_TB := px_tb1 55 (by decide +kernel) rfl
theorem w_56 : (Jvm.Cond.static ({ cls := "TroubleMemory", name := "isWithin", desc := "(III)Z" } : Jvm.MethodName)) ∈ px_TB := px_tb1 56 (by decide +kernel) rfl
theorem w_57 : (Jvm.Cond.code ({ cls := "TroubleMemory", name := "isWithin", desc := "(III)Z" } : Jvm.MethodName) prog_1_method_16_code (3 : Nat) (Option.some Jvm.ClassFile.FieldType.boolean)) ∈ px_TB := px_tb1 57 rfl rfl
theorem w_58 : (Jvm.Cond.methodLink "TroubleMemory" (37 : Nat) ({ cls := "TroubleMemory$Memory", name := "<init>", desc := "(I)V" } : Jvm.MethodName)) ∈ px_TB := px_tb1 58 (by decide +kernel) rfl
theorem w_59 : (Jvm.Cond.instanceMethod ({ cls := "TroubleMemory$Memory", name := "<init>", desc := "(I)V" } : Jvm.MethodName)) ∈ px_TB := px_tb1 59 (by decide +kernel) rfl
theorem w_60 : (Jvm.Cond.code ({ cls := "TroubleMemory$Memory", name := "<init>", desc := "(I)V" } : Jvm.MethodName) prog_4_method_1_code (2 : Nat) (Option.none : Option Jvm.ClassFile.FieldType)) ∈ px_TB := px_tb1 60 rfl rfl
theorem w_61 : (Jvm.Cond.methodLink "TroubleMemory$Memory" (3 : Nat) ({ cls := "java/lang/Object", name := "<init>", desc := "()V" } : Jvm.MethodName)) ∈ px_TB := px_tb1 61 (by decide +kernel) rfl
theorem w_62 : (Jvm.Cond.classLink "TroubleMemory$Memory" (9 : Nat) "java/util/ArrayList") ∈ px_TB := px_tb1 62 (by decide +kernel) rfl
theorem w_63 : (Jvm.Cond.methodLink "TroubleMemory$Memory" (11 : Nat) ({ cls := "java/util/ArrayList", name := "<init>", desc := "()V" } : Jvm.MethodName)) ∈ px_TB := px_tb1 63 (by decide +kernel) rfl
theorem w_64 : (Jvm.Cond.fieldLink "TroubleMemory$Memory" (21 : Nat) "TroubleMemory$Memory" "room" "I") ∈ px_TB := px_tb1 64 (by decide +kernel) rfl
theorem w_65 : (Jvm.Cond.fieldLink "TroubleMemory$Memory" (12 : Nat) "TroubleMemory$Memory" "entries" "Ljava/util/ArrayList;") ∈ px_TB := px_tb1 65 (by decide +kernel) rfl
theorem w_66 : (Jvm.Cond.fieldLink "TroubleMemory" (152 : Nat) "TroubleMemory$Memory" "entries" "Ljava/util/ArrayList;") ∈ px_TB := px_tb1 66 (by decide +kernel) rfl
theorem w_67 : (Jvm.Cond.fieldLink "TroubleMemory$Memory" (18 : Nat) "TroubleMemory$Memory" "displacedCodes" "Ljava/util/ArrayList;") ∈ px_TB := px_tb1 67 (by decide +kernel) rfl
theorem w_68 : (Jvm.Cond.fieldLink "TroubleMemory" (167 : Nat) "TroubleMemory$Memory" "displacedCodes" "Ljava/util/ArrayList;") ∈ px_TB := px_tb1 68 (by decide +kernel) rfl
theorem w_69 : (Jvm.Cond.laysFinal "TroubleMemory$Memory" "TroubleMemory$Memory" "room" "I") ∈ px_TB := px_tb1 69 (by decide +kernel) rfl
theorem w_70 : (Jvm.Cond.soleField "TroubleMemory$Memory" "room") ∈ px_TB := px_tb1 70 (by decide +kernel) rfl
theorem w_71 : (Jvm.Cond.laysFinal "TroubleMemory$Memory" "TroubleMemory$Memory" "entries" "Ljava/util/ArrayList;") ∈ px_TB := px_tb1 71 (by decide +kernel) rfl
theorem w_72 : (Jvm.Cond.soleField "TroubleMemory$Memory" "entries") ∈ px_TB := px_tb1 72 (by decide +kernel) rfl
theorem w_73 : (Jvm.Cond.laysFinal "TroubleMemory$Memory" "TroubleMemory$Memory" "displacedCodes" "Ljava/util/ArrayList;") ∈ px_TB := px_tb1 73 (by decide +kernel) rfl
theorem w_74 : (Jvm.Cond.soleField "TroubleMemory$Memory" "displacedCodes") ∈ px_TB := px_tb1 74 (by decide +kernel) rfl
theorem w_75 : (Jvm.Cond.superclass "TroubleMemory$Memory" "java/lang/Object") ∈ px_TB := px_tb1 75 (by decide +kernel) rfl
theorem w_76 : (Jvm.Cond.fieldLink "TroubleMemory" (12 : Nat) "TroubleMemory" "codes" "Ljava/util/ArrayList;") ∈ px_TB := px_tb1 76 (by decide +kernel) rfl
theorem w_77 : (Jvm.Cond.fieldLink "TroubleMemory" (40 : Nat) "TroubleMemory" "memory" "LTroubleMemory$Memory;") ∈ px_TB := px_tb1 77 (by decide +kernel) rfl
theorem w_78 : (Jvm.Cond.fieldLink "TroubleMemory" (16 : Nat) "TroubleMemory" "conditions" "I") ∈ px_TB := px_tb1 78 (by decide +kernel) rfl
theorem w_79 : (Jvm.Cond.fieldLink "TroubleMemory" (20 : Nat) "TroubleMemory" "powered" "Z") ∈ px_TB := px_tb1 79 (by decide +kernel) rfl
theorem w_80 : (Jvm.Cond.fieldLink "TroubleMemory" (24 : Nat) "TroubleMemory" "cycles" "I") ∈ px_TB := px_tb1 80 (by decide +kernel) rfl
theorem w_81 : (Jvm.Cond.fieldLink "TroubleMemory" (27 : Nat) "TroubleMemory" "events" "I") ∈ px_TB := px_tb1 81 (by decide +kernel) rfl
theorem w_82 : (Jvm.Cond.laysFinal "TroubleMemory" "TroubleMemory" "codes" "Ljava/util/ArrayList;") ∈ px_TB := px_tb1 82 (by decide +kernel) rfl
theorem w_83 : (Jvm.Cond.soleField "TroubleMemory" "codes") ∈ px_TB := px_tb1 83 (by decide +kernel) rfl
theorem w_84 : (Jvm.Cond.laysFinal "TroubleMemory" "TroubleMemory" "memory" "LTroubleMemory$Memory;") ∈ px_TB := px_tb1 84 (by decide +kernel) rfl
theorem w_85 : (Jvm.Cond.soleField "TroubleMemory" "memory") ∈ px_TB := px_tb1 85 (by decide +kernel) rfl
theorem w_86 : (Jvm.Cond.lays "TroubleMemory" "TroubleMemory" "conditions" "I") ∈ px_TB := px_tb1 86 (by decide +kernel) rfl
theorem w_87 : (Jvm.Cond.soleField "TroubleMemory" "conditions") ∈ px_TB := px_tb1 87 (by decide +kernel) rfl
theorem w_88 : (Jvm.Cond.lays "TroubleMemory" "TroubleMemory" "powered" "Z") ∈ px_TB := px_tb1 88 (by decide +kernel) rfl
theorem w_89 : (Jvm.Cond.soleField "TroubleMemory" "powered") ∈ px_TB := px_tb1 89 (by decide +kernel) rfl
theorem w_90 : (Jvm.Cond.lays "TroubleMemory" "TroubleMemory" "cycles" "I") ∈ px_TB := px_tb1 90 (by decide +kernel) rfl
theorem w_91 : (Jvm.Cond.soleField "TroubleMemory" "cycles") ∈ px_TB := px_tb1 91 (by decide +kernel) rfl
theorem w_92 : (Jvm.Cond.lays "TroubleMemory" "TroubleMemory" "events" "I") ∈ px_TB := px_tb1 92 (by decide +kernel) rfl
theorem w_93 : (Jvm.Cond.soleField "TroubleMemory" "events") ∈ px_TB := px_tb1 93 (by decide +kernel) rfl
theorem w_94 : (Jvm.Cond.superclass "TroubleMemory" "java/lang/Object") ∈ px_TB := px_tb1 94 (by decide +kernel) rfl
theorem w_95 : (Jvm.Cond.methodLink "TroubleMemoryLaw" (21 : Nat) ({ cls := "TroubleMemory", name := "code", desc := "(III)I" } : Jvm.MethodName)) ∈ px_TB := px_tb1 95 (by decide +kernel) rfl
theorem w_96 : (Jvm.Cond.instanceMethod ({ cls := "TroubleMemory", name := "code", desc := "(III)I" } : Jvm.MethodName)) ∈ px_TB := px_tb1 96 (by decide +kernel) rfl
theorem w_97 : (Jvm.Cond.selects "TroubleMemory" ({ cls := "TroubleMemory", name := "code", desc := "(III)I" } : Jvm.MethodName) ({ cls := "TroubleMemory", name := "code", desc := "(III)I" } : Jvm.MethodName)) ∈ px_TB := px_tb1 97 (by decide +kernel) rfl
theorem w_98 : (Jvm.Cond.code ({ cls := "TroubleMemory", name := "code", desc := "(III)I" } : Jvm.MethodName) prog_1_method_2_code (5 : Nat) (Option.some Jvm.ClassFile.FieldType.int)) ∈ px_TB := px_tb1 98 rfl rfl
theorem w_99 : (Jvm.Cond.methodLink "TroubleMemory" (44 : Nat) ({ cls := "java/util/ArrayList", name := "size", desc := "()I" } : Jvm.MethodName)) ∈ px_TB := px_tb1 99 (by decide +kernel) rfl
theorem w_100 : (Jvm.Cond.instanceMethod ({ cls := "java/util/ArrayList", name := "size", desc := "()I" } : Jvm.MethodName)) ∈ px_TB := px_tb1 100 (by decide +kernel) rfl
theorem w_101 : (Jvm.Cond.selects "java/util/ArrayList" ({ cls := "java/util/ArrayList", name := "size", desc := "()I" } : Jvm.MethodName) ({ cls := "java/util/ArrayList", name := "size", desc := "()I" } : Jvm.MethodName)) ∈ px_TB := px_tb1 101 (by decide +kernel) rfl
theorem w_102 : (Jvm.Cond.code ({ cls := "java/util/ArrayList", name := "size", desc := "()I" } : Jvm.MethodName) prog_17_method_8_code (1 : Nat) (Option.some Jvm.ClassFile.FieldType.int)) ∈ px_TB := px_tb1 102 rfl rfl
theorem w_103 : (Jvm.Cond.classLink "TroubleMemory" (48 : Nat) "TroubleMemory$Code") ∈ px_TB := px_tb1 103 (by decide +kernel) rfl
theorem w_104 : (Jvm.Cond.instantiable "TroubleMemory$Code" (9 : Nat)) ∈ px_TB := px_tb1 104 (by decide +kernel) rfl
theorem w_105 : (Jvm.Cond.methodLink "TroubleMemory" (50 : Nat) ({ cls := "TroubleMemory$Code", name := "<init>", desc := "(IIII)V" } : Jvm.MethodName)) ∈ px_TB := px_tb1 105 (by decide +kernel) rfl
theorem w_106 : (Jvm.Cond.instanceMethod ({ cls := "TroubleMemory$Code", name := "<init>", desc := "(IIII)V" } : Jvm.MethodName)) ∈ px_TB := px_tb1 106 (by decide +kernel) rfl
theorem w_107 : (Jvm.Cond.code ({ cls := "TroubleMemory$Code", name := "<init>", desc := "(IIII)V" } : Jvm.MethodName) prog_2_method_1_code (5 : Nat) (Option.none : Option Jvm.ClassFile.FieldType)) ∈ px_TB := px_tb1 107 rfl rfl
theorem w_108 : (Jvm.Cond.methodLink "TroubleMemory$Code" (3 : Nat) ({ cls := "java/lang/Object", name := "<init>", desc := "()V" } : Jvm.MethodName)) ∈ px_TB := px_tb1 108 (by decide +kernel) rfl
theorem w_109 : (Jvm.Cond.classLink "TroubleMemory$Code" (9 : Nat) "TroubleMemory$Standing") ∈ px_TB := px_tb1 109 (by decide +kernel) rfl
theorem w_110 : (Jvm.Cond.instantiable "TroubleMemory$Standing" (4 : Nat)) ∈ px_TB := px_tb1 110 (by decide +kernel) rfl
theorem w_111 : (Jvm.Cond.methodLinkNest "TroubleMemory$Code" (11 : Nat) ({ cls := "TroubleMemory$Standing", name := "<init>", desc := "()V" } : Jvm.MethodName) "TroubleMemory") ∈ px_NW := px_nw 0 (by decide +kernel)
theorem w_112 : (Jvm.Cond.instanceMethod ({ cls := "TroubleMemory$Standing", name := "<init>", desc := "()V" } : Jvm.MethodName)) ∈ px_TB := px_tb1 112 (by decide +kernel) rfl
theorem w_113 : (Jvm.Cond.code ({ cls := "TroubleMemory$Standing", name := "<init>", desc := "()V" } : Jvm.MethodName) prog_6_method_1_code (1 : Nat) (Option.none : Option Jvm.ClassFile.FieldType)) ∈ px_TB := px_tb1 113 rfl rfl
theorem w_114 : (Jvm.Cond.methodLink "TroubleMemory$Standing" (3 : Nat) ({ cls := "java/lang/Object", name := "<init>", desc := "()V" } : Jvm.MethodName)) ∈ px_TB := px_tb1 114 (by decide +kernel) rfl
theorem w_115 : (Jvm.Cond.fieldLink "TroubleMemory$Standing" (9 : Nat) "TroubleMemory$Standing" "status" "I") ∈ px_TB := px_tb1 115 (by decide +kernel) rfl
theorem w_116 : (Jvm.Cond.fieldLink "TroubleMemory" (83 : Nat) "TroubleMemory$Standing" "status" "I") ∈ px_TB := px_tb1 116 (by decide +kernel) rfl
theorem w_117 : (Jvm.Cond.fieldLink "TroubleMemory$Standing" (15 : Nat) "TroubleMemory$Standing" "trips" "I") ∈ px_TB := px_tb1 117 (by decide +kernel) rfl
theorem w_118 : (Jvm.Cond.fieldLink "TroubleMemory$Standing" (18 : Nat) "TroubleMemory$Standing" "age" "I") ∈ px_TB := px_tb1 118 (by decide +kernel) rfl
theorem w_119 : (Jvm.Cond.fieldLink "TroubleMemory" (170 : Nat) "TroubleMemory$Standing" "age" "I") ∈ px_TB := px_tb1 119 (by decide +kernel) rfl
theorem w_120 : (Jvm.Cond.fieldLink "TroubleMemory$Standing" (21 : Nat) "TroubleMemory$Standing" "good" "I") ∈ px_TB := px_tb1 120 (by decide +kernel) rfl
theorem w_121 : (Jvm.Cond.lays "TroubleMemory$Standing" "TroubleMemory$Standing" "status" "I") ∈ px_TB := px_tb1 121 (by decide +kernel) rfl
theorem w_122 : (Jvm.Cond.soleField "TroubleMemory$Standing" "status") ∈ px_TB := px_tb1 122 (by decide +kernel) rfl
theorem w_123 : (Jvm.Cond.lays "TroubleMemory$Standing" "TroubleMemory$Standing" "trips" "I") ∈ px_TB := px_tb1 123 (by decide +kernel) rfl
theorem w_124 : (Jvm.Cond.soleField "TroubleMemory$Standing" "trips") ∈ px_TB := px_tb1 124 (by decide +kernel) rfl
theorem w_125 : (Jvm.Cond.lays "TroubleMemory$Standing" "TroubleMemory$Standing" "age" "I") ∈ px_TB := px_tb1 125 (by decide +kernel) rfl
theorem w_126 : (Jvm.Cond.soleField "TroubleMemory$Standing" "age") ∈ px_TB := px_tb1 126 (by decide +kernel) rfl
theorem w_127 : (Jvm.Cond.lays "TroubleMemory$Standing" "TroubleMemory$Standing" "good" "I") ∈ px_TB := px_tb1 127 (by decide +kernel) rfl
theorem w_128 : (Jvm.Cond.soleField "TroubleMemory$Standing" "good") ∈ px_TB := px_tb1 128 (by decide +kernel) rfl
theorem w_129 : (Jvm.Cond.superclass "TroubleMemory$Standing" "java/lang/Object") ∈ px_TB := px_tb1 129 (by decide +kernel) rfl
theorem w_130 : (Jvm.Cond.fieldLink "TroubleMemory$Code" (33 : Nat) "TroubleMemory$Code" "number" "I") ∈ px_TB := px_tb1 130 (by decide +kernel) rfl
theorem w_131 : (Jvm.Cond.fieldLink "TroubleMemory" (57 : Nat) "TroubleMemory$Code" "number" "I") ∈ px_TB := px_tb1 131 (by decide +kernel) rfl
theorem w_132 : (Jvm.Cond.fieldLink "TroubleMemory$Code" (36 : Nat) "TroubleMemory$Code" "priority" "I") ∈ px_TB := px_tb1 132 (by decide +kernel) rfl
theorem w_133 : (Jvm.Cond.fieldLink "TroubleMemory$Entry" (32 : Nat) "TroubleMemory$Code" "priority" "I") ∈ px_TB := px_tb1 133 (by decide +kernel) rfl
theorem w_134 : (Jvm.Cond.fieldLink "TroubleMemory" (161 : Nat) "TroubleMemory$Code" "priority" "I") ∈ px_TB := px_tb1 134 (by decide +kernel) rfl
theorem w_135 : (Jvm.Cond.fieldLink "TroubleMemory$Code" (39 : Nat) "TroubleMemory$Code" "up" "I") ∈ px_TB := px_tb1 135 (by decide +kernel) rfl
theorem w_136 : (Jvm.Cond.fieldLink "TroubleMemory" (194 : Nat) "TroubleMemory$Code" "up" "I") ∈ px_TB := px_tb1 136 (by decide +kernel) rfl
theorem w_137 : (Jvm.Cond.fieldLink "TroubleMemory$Code" (42 : Nat) "TroubleMemory$Code" "down" "I") ∈ px_TB := px_tb1 137 (by decide +kernel) rfl
theorem w_138 : (Jvm.Cond.fieldLink "TroubleMemory$Code" (12 : Nat) "TroubleMemory$Code" "now" "LTroubleMemory$Standing;") ∈ px_TB := px_tb1 138 (by decide +kernel) rfl
theorem w_139 : (Jvm.Cond.fieldLink "TroubleMemory$Entry" (37 : Nat) "TroubleMemory$Code" "now" "LTroubleMemory$Standing;") ∈ px_TB := px_tb1 139 (by decide +kernel) rfl
theorem w_140 : (Jvm.Cond.fieldLink "TroubleMemory" (79 : Nat) "TroubleMemory$Code" "now" "LTroubleMemory$Standing;") ∈ px_TB := px_tb1 140 (by decide +kernel) rfl
theorem w_141 : (Jvm.Cond.fieldLink "TroubleMemory$Code" (18 : Nat) "TroubleMemory$Code" "kept" "LTroubleMemory$Standing;") ∈ px_TB := px_tb1 141 (by decide +kernel) rfl
theorem w_142 : (Jvm.Cond.fieldLink "TroubleMemory" (99 : Nat) "TroubleMemory$Code" "kept" "LTroubleMemory$Standing;") ∈ px_TB := px_tb1 142 (by decide +kernel) rfl
theorem w_143 : (Jvm.Cond.fieldLink "TroubleMemory$Code" (21 : Nat) "TroubleMemory$Code" "counter" "I") ∈ px_TB := px_tb1 143 (by decide +kernel) rfl
theorem w_144 : (Jvm.Cond.fieldLink "TroubleMemory" (164 : Nat) "TroubleMemory$Code" "counter" "I") ∈ px_TB := px_tb1 144 (by decide +kernel) rfl
theorem w_145 : (Jvm.Cond.fieldLink "TroubleMemory$Code" (25 : Nat) "TroubleMemory$Code" "parent" "LTroubleMemory$Code;") ∈ px_TB := px_tb1 145 (by decide +kernel) rfl
theorem w_146 : (Jvm.Cond.fieldLink "TroubleMemory" (137 : Nat) "TroubleMemory$Code" "parent" "LTroubleMemory$Code;") ∈ px_TB := px_tb1 146 (by decide +kernel) rfl
theorem w_147 : (Jvm.Cond.fieldLink "TroubleMemory$Code" (29 : Nat) "TroubleMemory$Code" "entry" "LTroubleMemory$Entry;") ∈ px_TB := px_tb1 147 (by decide +kernel) rfl
theorem w_148 : (Jvm.Cond.fieldLink "TroubleMemory$Memory" (25 : Nat) "TroubleMemory$Code" "entry" "LTroubleMemory$Entry;") ∈ px_TB := px_tb1 148 (by decide +kernel) rfl
theorem w_149 : (Jvm.Cond.fieldLink "TroubleMemory" (106 : Nat) "TroubleMemory$Code" "entry" "LTroubleMemory$Entry;") ∈ px_TB := px_tb1 149 (by decide +kernel) rfl
theorem w_150 : (Jvm.Cond.laysFinal "TroubleMemory$Code" "TroubleMemory$Code" "number" "I") ∈ px_TB := px_tb1 150 (by decide +kernel) rfl
theorem w_151 : (Jvm.Cond.soleField "TroubleMemory$Code" "number") ∈ px_TB := px_tb1 151 (by decide +kernel) rfl
theorem w_152 : (Jvm.Cond.laysFinal "TroubleMemory$Code" "TroubleMemory$Code" "priority" "I") ∈ px_TB := px_tb1 152 (by decide +kernel) rfl
theorem w_153 : (Jvm.Cond.soleField "TroubleMemory$Code" "priority") ∈ px_TB := px_tb1 153 (by decide +kernel) rfl
theorem w_154 : (Jvm.Cond.laysFinal "TroubleMemory$Code" "TroubleMemory$Code" "up" "I") ∈ px_TB := px_tb1 154 (by decide +kernel) rfl
theorem w_155 : (Jvm.Cond.soleField "TroubleMemory$Code" "up") ∈ px_TB := px_tb1 155 (by decide +kernel) rfl
theorem w_156 : (Jvm.Cond.laysFinal "TroubleMemory$Code" "TroubleMemory$Code" "down" "I") ∈ px_TB := px_tb1 156 (by decide +kernel) rfl
theorem w_157 : (Jvm.Cond.soleField "TroubleMemory$Code" "down") ∈ px_TB := px_tb1 157 (by decide +kernel) rfl
theorem w_158 : (Jvm.Cond.laysFinal "TroubleMemory$Code" "TroubleMemory$Code" "now" "LTroubleMemory$Standing;") ∈ px_TB := px_tb1 158 (by decide +kernel) rfl
theorem w_159 : (Jvm.Cond.soleField "TroubleMemory$Code" "now") ∈ px_TB := px_tb1 159 (by decide +kernel) rfl
theorem w_160 : (Jvm.Cond.laysFinal "TroubleMemory$Code" "TroubleMemory$Code" "kept" "LTroubleMemory$Standing;") ∈ px_TB := px_tb1 160 (by decide +kernel) rfl
theorem w_161 : (Jvm.Cond.soleField "TroubleMemory$Code" "kept") ∈ px_TB := px_tb1 161 (by decide +kernel) rfl
theorem w_162 : (Jvm.Cond.lays "TroubleMemory$Code" "TroubleMemory$Code" "counter" "I") ∈ px_TB := px_tb1 162 (by decide +kernel) rfl
theorem w_163 : (Jvm.Cond.soleField "TroubleMemory$Code" "counter") ∈ px_TB := px_tb1 163 (by decide +kernel) rfl
theorem w_164 : (Jvm.Cond.lays "TroubleMemory$Code" "TroubleMemory$Code" "parent" "LTroubleMemory$Code;") ∈ px_TB := px_tb1 164 (by decide +kernel) rfl
theorem w_165 : (Jvm.Cond.soleField "TroubleMemory$Code" "parent") ∈ px_TB := px_tb1 165 (by decide +kernel) rfl
theorem w_166 : (Jvm.Cond.lays "TroubleMemory$Code" "TroubleMemory$Code" "entry" "LTroubleMemory$Entry;") ∈ px_TB := px_tb1 166 (by decide +kernel) rfl
theorem w_167 : (Jvm.Cond.soleField "TroubleMemory$Code" "entry") ∈ px_TB := px_tb1 167 (by decide +kernel) rfl
theorem w_168 : (Jvm.Cond.superclass "TroubleMemory$Code" "java/lang/Object") ∈ px_TB := px_tb1 168 (by decide +kernel) rfl
theorem w_169 : (Jvm.Cond.methodLink "TroubleMemory" (53 : Nat) ({ cls := "java/util/ArrayList", name := "add", desc := "(Ljava/lang/Object;)Z" } : Jvm.MethodName)) ∈ px_TB := px_tb1 169 (by decide +kernel) rfl
theorem w_170 : (Jvm.Cond.instanceMethod ({ cls := "java/util/ArrayList", name := "add", desc := "(Ljava/lang/Object;)Z" } : Jvm.MethodName)) ∈ px_TB := px_tb1 170 (by decide +kernel) rfl
theorem w_171 : (Jvm.Cond.selects "java/util/ArrayList" ({ cls := "java/util/ArrayList", name := "add", desc := "(Ljava/lang/Object;)Z" } : Jvm.MethodName) ({ cls := "java/util/ArrayList", name := "add", desc := "(Ljava/lang/Object;)Z" } : Jvm.MethodName)) ∈ px_TB := px_tb1 171 (by decide +kernel) rfl
theorem w_172 : (Jvm.Cond.code ({ cls := "java/util/ArrayList", name := "add", desc := "(Ljava/lang/Object;)Z" } : Jvm.MethodName) prog_17_method_25_code (2 : Nat) (Option.some Jvm.ClassFile.FieldType.boolean)) ∈ px_TB := px_tb1 172 rfl rfl
theorem w_173 : (Jvm.Cond.methodLink "java/util/ArrayList" (131 : Nat) ({ cls := "java/util/ArrayList", name := "add", desc := "(Ljava/lang/Object;[Ljava/lang/Object;I)V" } : Jvm.MethodName)) ∈ px_TB := px_tb1 173 (by decide +kernel) rfl
theorem w_175 : (Jvm.Cond.instanceMethod ({ cls := "java/util/ArrayList", name := "add", desc := "(Ljava/lang/Object;[Ljava/lang/Object;I)V" } : Jvm.MethodName)) ∈ px_TB := px_tb1 175 (by decide +kernel) rfl
theorem w_176 : (Jvm.Cond.code ({ cls := "java/util/ArrayList", name := "add", desc := "(Ljava/lang/Object;[Ljava/lang/Object;I)V" } : Jvm.MethodName) prog_17_method_24_code (4 : Nat) (Option.none : Option Jvm.ClassFile.FieldType)) ∈ px_TB := px_tb1 176 rfl rfl
theorem w_177 : (Jvm.Cond.methodLink "java/util/ArrayList" (129 : Nat) ({ cls := "java/util/ArrayList", name := "grow", desc := "()[Ljava/lang/Object;" } : Jvm.MethodName)) ∈ px_TB := px_tb1 177 (by decide +kernel) rfl
theorem w_179 : (Jvm.Cond.instanceMethod ({ cls := "java/util/ArrayList", name := "grow", desc := "()[Ljava/lang/Object;" } : Jvm.MethodName)) ∈ px_TB := px_tb1 179 (by decide +kernel) rfl
theorem w_180 : (Jvm.Cond.code ({ cls := "java/util/ArrayList", name := "grow", desc := "()[Ljava/lang/Object;" } : Jvm.MethodName) prog_17_method_7_code (1 : Nat) (Option.some (Jvm.ClassFile.FieldType.array (Jvm.ClassFile.FieldType.object "java/lang/Object")))) ∈ px_TB := px_tb1 180 rfl rfl
theorem w_181 : (Jvm.Cond.methodLink "java/util/ArrayList" (69 : Nat) ({ cls := "java/util/ArrayList", name := "grow", desc := "(I)[Ljava/lang/Object;" } : Jvm.MethodName)) ∈ px_TB := px_tb1 181 (by decide +kernel) rfl
theorem w_183 : (Jvm.Cond.instanceMethod ({ cls := "java/util/ArrayList", name := "grow", desc := "(I)[Ljava/lang/Object;" } : Jvm.MethodName)) ∈ px_TB := px_tb1 183 (by decide +kernel) rfl
theorem w_184 : (Jvm.Cond.code ({ cls := "java/util/ArrayList", name := "grow", desc := "(I)[Ljava/lang/Object;" } : Jvm.MethodName) prog_17_method_6_code (4 : Nat) (Option.some (Jvm.ClassFile.FieldType.array (Jvm.ClassFile.FieldType.object "java/lang/Object")))) ∈ px_TB := px_tb1 184 rfl rfl
theorem w_185 : (Jvm.Cond.methodLink "java/util/ArrayList" (73 : Nat) ({ cls := "jdk/internal/util/ArraysSupport", name := "newLength", desc := "(III)I" } : Jvm.MethodName)) ∈ px_TB := px_tb1 185 (by decide +kernel) rfl
theorem w_186 : (Jvm.Cond.static ({ cls := "jdk/internal/util/ArraysSupport", name := "newLength", desc := "(III)I" } : Jvm.MethodName)) ∈ px_TB := px_tb1 186 (by decide +kernel) rfl
theorem w_187 : (Jvm.Cond.code ({ cls := "jdk/internal/util/ArraysSupport", name := "newLength", desc := "(III)I" } : Jvm.MethodName) prog_24_method_27_code (4 : Nat) (Option.some Jvm.ClassFile.FieldType.int)) ∈ px_TB := px_tb1 187 rfl rfl
theorem w_188 : (Jvm.Cond.methodLink "jdk/internal/util/ArraysSupport" (194 : Nat) ({ cls := "java/lang/Math", name := "max", desc := "(II)I" } : Jvm.MethodName)) ∈ px_TB := px_tb1 188 (by decide +kernel) rfl
theorem w_189 : (Jvm.Cond.static ({ cls := "java/lang/Math", name := "max", desc := "(II)I" } : Jvm.MethodName)) ∈ px_TB := px_tb1 189 (by decide +kernel) rfl
theorem w_190 : (Jvm.Cond.code ({ cls := "java/lang/Math", name := "max", desc := "(II)I" } : Jvm.MethodName) prog_13_method_65_code (2 : Nat) (Option.some Jvm.ClassFile.FieldType.int)) ∈ px_TB := px_tb1 190 rfl rfl
theorem w_191 : (Jvm.Cond.constant "jdk/internal/util/ArraysSupport" (200 : Nat) (2147483639 : Int32)) ∈ px_TB := px_tb1 191 (by decide +kernel) rfl
theorem w_192 : (Jvm.Cond.methodLink "jdk/internal/util/ArraysSupport" (201 : Nat) ({ cls := "jdk/internal/util/ArraysSupport", name := "hugeLength", desc := "(II)I" } : Jvm.MethodName)) ∈ px_TB := px_tb1 192 (by decide +kernel) rfl
theorem w_193 : (Jvm.Cond.static ({ cls := "jdk/internal/util/ArraysSupport", name := "hugeLength", desc := "(II)I" } : Jvm.MethodName)) ∈ px_TB := px_tb1 193 (by decide +kernel) rfl
theorem w_194 : (Jvm.Cond.code ({ cls := "jdk/internal/util/ArraysSupport", name := "hugeLength", desc := "(II)I" } : Jvm.MethodName) prog_24_method_28_code (3 : Nat) (Option.some Jvm.ClassFile.FieldType.int)) ∈ px_TB := px_tb1 194 rfl rfl
theorem w_195 : (Jvm.Cond.methodLink "java/util/ArrayList" (66 : Nat) ({ cls := "java/util/Arrays", name := "copyOf", desc := "([Ljava/lang/Object;I)[Ljava/lang/Object;" } : Jvm.MethodName)) ∈ px_TB := px_tb1 195 (by decide +kernel) rfl
theorem w_196 : (Jvm.Cond.static ({ cls := "java/util/Arrays", name := "copyOf", desc := "([Ljava/lang/Object;I)[Ljava/lang/Object;" } : Jvm.MethodName)) ∈ px_TB := px_tb1 196 (by decide +kernel) rfl
theorem w_197 : (Jvm.Cond.code ({ cls := "java/util/Arrays", name := "copyOf", desc := "([Ljava/lang/Object;I)[Ljava/lang/Object;" } : Jvm.MethodName) prog_18_method_119_code (2 : Nat) (Option.some (Jvm.ClassFile.FieldType.array (Jvm.ClassFile.FieldType.object "java/lang/Object")))) ∈ px_TB := px_tb1 197 rfl rfl
theorem w_198 : (Jvm.Cond.methodLink "java/util/Arrays" (86 : Nat) ({ cls := "java/lang/Object", name := "getClass", desc := "()Ljava/lang/Class;" } : Jvm.MethodName)) ∈ px_TB := px_tb1 198 (by decide +kernel) rfl
theorem w_199 : (Jvm.Cond.instanceMethod ({ cls := "java/lang/Object", name := "getClass", desc := "()Ljava/lang/Class;" } : Jvm.MethodName)) ∈ px_TB := px_tb1 199 (by decide +kernel) rfl
theorem w_200 : (Jvm.Cond.sameMethod "java/lang/Object" "java/lang/Object" "getClass" "()Ljava/lang/Class;") ∈ px_TB := px_tb1 200 (by decide +kernel) rfl
theorem w_201 : (Jvm.Cond.selects "TroubleMemory" ({ cls := "java/lang/Object", name := "getClass", desc := "()Ljava/lang/Class;" } : Jvm.MethodName) ({ cls := "java/lang/Object", name := "getClass", desc := "()Ljava/lang/Class;" } : Jvm.MethodName)) ∈ px_TB := px_tb1 201 (by decide +kernel) rfl
theorem w_202 : (Jvm.Cond.selects "TroubleMemory$Code" ({ cls := "java/lang/Object", name := "getClass", desc := "()Ljava/lang/Class;" } : Jvm.MethodName) ({ cls := "java/lang/Object", name := "getClass", desc := "()Ljava/lang/Class;" } : Jvm.MethodName)) ∈ px_TB := px_tb1 202 (by decide +kernel) rfl
theorem w_203 : (Jvm.Cond.selects "TroubleMemory$Entry" ({ cls := "java/lang/Object", name := "getClass", desc := "()Ljava/lang/Class;" } : Jvm.MethodName) ({ cls := "java/lang/Object", name := "getClass", desc := "()Ljava/lang/Class;" } : Jvm.MethodName)) ∈ px_TB := px_tb1 203 (by decide +kernel) rfl
theorem w_204 : (Jvm.Cond.selects "TroubleMemory$Memory" ({ cls := "java/lang/Object", name := "getClass", desc := "()Ljava/lang/Class;" } : Jvm.MethodName) ({ cls := "java/lang/Object", name := "getClass", desc := "()Ljava/lang/Class;" } : Jvm.MethodName)) ∈ px_TB := px_tb1 204 (by decide +kernel) rfl
theorem w_205 : (Jvm.Cond.selects "TroubleMemory$Snapshot" ({ cls := "java/lang/Object", name := "getClass", desc := "()Ljava/lang/Class;" } : Jvm.MethodName) ({ cls := "java/lang/Object", name := "getClass", desc := "()Ljava/lang/Class;" } : Jvm.MethodName)) ∈ px_TB := px_tb1 205 (by decide +kernel) rfl
theorem w_206 : (Jvm.Cond.selects "TroubleMemory$Standing" ({ cls := "java/lang/Object", name := "getClass", desc := "()Ljava/lang/Class;" } : Jvm.MethodName) ({ cls := "java/lang/Object", name := "getClass", desc := "()Ljava/lang/Class;" } : Jvm.MethodName)) ∈ px_TB := px_tb1 206 (by decide +kernel) rfl
theorem w_207 : (Jvm.Cond.selects "TroubleMemoryModel" ({ cls := "java/lang/Object", name := "getClass", desc := "()Ljava/lang/Class;" } : Jvm.MethodName) ({ cls := "java/lang/Object", name := "getClass", desc := "()Ljava/lang/Class;" } : Jvm.MethodName)) ∈ px_TB := px_tb1 207 (by decide +kernel) rfl
theorem w_208 : (Jvm.Cond.selects "java/util/ArrayList" ({ cls := "java/lang/Object", name := "getClass", desc := "()Ljava/lang/Class;" } : Jvm.MethodName) ({ cls := "java/lang/Object", name := "getClass", desc := "()Ljava/lang/Class;" } : Jvm.MethodName)) ∈ px_TB := px_tb1 208 (by decide +kernel) rfl
theorem w_209 : (Jvm.Cond.native ({ cls := "java/lang/Object", name := "getClass", desc := "()Ljava/lang/Class;" } : Jvm.MethodName)) ∈ px_TB := px_tb1 209 (by decide +kernel) rfl
theorem w_210 : (Jvm.Cond.methodLink "java/util/Arrays" (300 : Nat) ({ cls := "java/util/Arrays", name := "copyOf", desc := "([Ljava/lang/Object;ILjava/lang/Class;)[Ljava/lang/Object;" } : Jvm.MethodName)) ∈ px_TB := px_tb1 210 (by decide +kernel) rfl
theorem w_211 : (Jvm.Cond.static ({ cls := "java/util/Arrays", name := "copyOf", desc := "([Ljava/lang/Object;ILjava/lang/Class;)[Ljava/lang/Object;" } : Jvm.MethodName)) ∈ px_TB := px_tb1 211 (by decide +kernel) rfl
theorem w_212 : (Jvm.Cond.code ({ cls := "java/util/Arrays", name := "copyOf", desc := "([Ljava/lang/Object;ILjava/lang/Class;)[Ljava/lang/Object;" } : Jvm.MethodName) prog_18_method_120_code (4 : Nat) (Option.some (Jvm.ClassFile.FieldType.array (Jvm.ClassFile.FieldType.object "java/lang/Object")))) ∈ px_TB := px_tb1 212 rfl rfl
theorem w_213 : (Jvm.Cond.classLink "java/util/Arrays" (110 : Nat) "[Ljava/lang/Object;") ∈ px_TB := px_tb1 213 (by decide +kernel) rfl
theorem w_215 : (Jvm.Cond.classLink "java/util/Arrays" (2 : Nat) "java/lang/Object") ∈ px_TB := px_tb1 215 (by decide +kernel) rfl
theorem w_216 : (Jvm.Cond.methodLink "java/util/Arrays" (304 : Nat) ({ cls := "java/lang/Math", name := "min", desc := "(II)I" } : Jvm.MethodName)) ∈ px_TB := px_tb1 216 (by decide +kernel) rfl
theorem w_217 : (Jvm.Cond.static ({ cls := "java/lang/Math", name := "min", desc := "(II)I" } : Jvm.MethodName)) ∈ px_TB := px_tb1 217 (by decide +kernel) rfl
theorem w_218 : (Jvm.Cond.code ({ cls := "java/lang/Math", name := "min", desc := "(II)I" } : Jvm.MethodName) prog_13_method_69_code (2 : Nat) (Option.some Jvm.ClassFile.FieldType.int)) ∈ px_TB := px_tb1 218 rfl rfl
theorem w_219 : (Jvm.Cond.methodLink "java/util/Arrays" (150 : Nat) ({ cls := "java/lang/System", name := "arraycopy", desc := "(Ljava/lang/Object;ILjava/lang/Object;II)V" } : Jvm.MethodName)) ∈ px_TB := px_tb1 219 (by decide +kernel) rfl
theorem w_220 : (Jvm.Cond.static ({ cls := "java/lang/System", name := "arraycopy", desc := "(Ljava/lang/Object;ILjava/lang/Object;II)V" } : Jvm.MethodName)) ∈ px_TB := px_tb1 220 (by decide +kernel) rfl
theorem w_221 : (Jvm.Cond.native ({ cls := "java/lang/System", name := "arraycopy", desc := "(Ljava/lang/Object;ILjava/lang/Object;II)V" } : Jvm.MethodName)) ∈ px_TB := px_tb1 221 (by decide +kernel) rfl
theorem w_222 : (Jvm.Cond.methodLink "java/util/ArrayList" (79 : Nat) ({ cls := "java/lang/Math", name := "max", desc := "(II)I" } : Jvm.MethodName)) ∈ px_TB := px_tb1 222 (by decide +kernel) rfl
theorem w_223 : (Jvm.Cond.classLink "java/util/ArrayList" (7 : Nat) "java/lang/Object") ∈ px_TB := px_tb1 223 (by decide +kernel) rfl
theorem w_224 : (Jvm.Cond.methodLink "TroubleMemoryLaw" (26 : Nat) ({ cls := "TroubleMemory", name := "event", desc := "(IZ)I" } : Jvm.MethodName)) ∈ px_TB := px_tb1 224 (by decide +kernel) rfl
theorem w_225 : (Jvm.Cond.instanceMethod ({ cls := "TroubleMemory", name := "event", desc := "(IZ)I" } : Jvm.MethodName)) ∈ px_TB := px_tb1 225 (by decide +kernel) rfl
theorem w_226 : (Jvm.Cond.selects "TroubleMemory" ({ cls := "TroubleMemory", name := "event", desc := "(IZ)I" } : Jvm.MethodName) ({ cls := "TroubleMemory", name := "event", desc := "(IZ)I" } : Jvm.MethodName)) ∈ px_TB := px_tb1 226 (by decide +kernel) rfl
theorem w_227 : (Jvm.Cond.code ({ cls := "TroubleMemory", name := "event", desc := "(IZ)I" } : Jvm.MethodName) prog_1_method_3_code (4 : Nat) (Option.some Jvm.ClassFile.FieldType.int)) ∈ px_TB := px_tb1 227 rfl rfl
theorem w_228 : (Jvm.Cond.methodLink "TroubleMemory" (60 : Nat) ({ cls := "TroubleMemory", name := "find", desc := "(I)LTroubleMemory$Code;" } : Jvm.MethodName)) ∈ px_TB := px_tb1 228 (by decide +kernel) rfl
theorem w_230 : (Jvm.Cond.instanceMethod ({ cls := "TroubleMemory", name := "find", desc := "(I)LTroubleMemory$Code;" } : Jvm.MethodName)) ∈ px_TB := px_tb1 230 (by decide +kernel) rfl
theorem w_231 : (Jvm.Cond.code ({ cls := "TroubleMemory", name := "find", desc := "(I)LTroubleMemory$Code;" } : Jvm.MethodName) prog_1_method_17_code (2 : Nat) (Option.some (Jvm.ClassFile.FieldType.object "TroubleMemory$Code"))) ∈ px_TB := px_tb1 231 rfl rfl
theorem w_232 : (Jvm.Cond.methodLink "TroubleMemory" (88 : Nat) ({ cls := "java/util/ArrayList", name := "get", desc := "(I)Ljava/lang/Object;" } : Jvm.MethodName)) ∈ px_TB := px_tb1 232 (by decide +kernel) rfl
theorem w_233 : (Jvm.Cond.instanceMethod ({ cls := "java/util/ArrayList", name := "get", desc := "(I)Ljava/lang/Object;" } : Jvm.MethodName)) ∈ px_TB := px_tb1 233 (by decide +kernel) rfl
theorem w_234 : (Jvm.Cond.selects "java/util/ArrayList" ({ cls := "java/util/ArrayList", name := "get", desc := "(I)Ljava/lang/Object;" } : Jvm.MethodName) ({ cls := "java/util/ArrayList", name := "get", desc := "(I)Ljava/lang/Object;" } : Jvm.MethodName)) ∈ px_TB := px_tb1 234 (by decide +kernel) rfl
theorem w_235 : (Jvm.Cond.code ({ cls := "java/util/ArrayList", name := "get", desc := "(I)Ljava/lang/Object;" } : Jvm.MethodName) prog_17_method_20_code (2 : Nat) (Option.some (Jvm.ClassFile.FieldType.object "java/lang/Object"))) ∈ px_TB := px_tb1 235 rfl rfl
theorem w_236 : (Jvm.Cond.methodLink "java/util/ArrayList" (118 : Nat) ({ cls := "java/util/Objects", name := "checkIndex", desc := "(II)I" } : Jvm.MethodName)) ∈ px_TB := px_tb1 236 (by decide +kernel) rfl
theorem w_237 : (Jvm.Cond.static ({ cls := "java/util/Objects", name := "checkIndex", desc := "(II)I" } : Jvm.MethodName)) ∈ px_TB := px_tb1 237 (by decide +kernel) rfl
theorem w_238 : (Jvm.Cond.code ({ cls := "java/util/Objects", name := "checkIndex", desc := "(II)I" } : Jvm.MethodName) prog_21_method_17_code (2 : Nat) (Option.some Jvm.ClassFile.FieldType.int)) ∈ px_TB := px_tb1 238 rfl rfl
theorem w_239 : (Jvm.Cond.methodLink "java/util/Objects" (105 : Nat) ({ cls := "jdk/internal/util/Preconditions", name := "checkIndex", desc := "(IILjava/util/function/BiFunction;)I" } : Jvm.MethodName)) ∈ px_TB := px_tb1 239 (by decide +kernel) rfl
theorem w_240 : (Jvm.Cond.static ({ cls := "jdk/internal/util/Preconditions", name := "checkIndex", desc := "(IILjava/util/function/BiFunction;)I" } : Jvm.MethodName)) ∈ px_TB := px_tb2 0 (by decide +kernel) rfl
theorem w_241 : (Jvm.Cond.code ({ cls := "jdk/internal/util/Preconditions", name := "checkIndex", desc := "(IILjava/util/function/BiFunction;)I" } : Jvm.MethodName) prog_25_method_11_code (3 : Nat) (Option.some Jvm.ClassFile.FieldType.int)) ∈ px_TB := px_tb2 1 rfl rfl
theorem w_242 : (Jvm.Cond.methodLink "java/util/ArrayList" (123 : Nat) ({ cls := "java/util/ArrayList", name := "elementData", desc := "(I)Ljava/lang/Object;" } : Jvm.MethodName)) ∈ px_TB := px_tb2 2 (by decide +kernel) rfl
theorem w_243 : (Jvm.Cond.instanceMethod ({ cls := "java/util/ArrayList", name := "elementData", desc := "(I)Ljava/lang/Object;" } : Jvm.MethodName)) ∈ px_TB := px_tb2 3 (by decide +kernel) rfl
theorem w_244 : (Jvm.Cond.selects "java/util/ArrayList" ({ cls := "java/util/ArrayList", name := "elementData", desc := "(I)Ljava/lang/Object;" } : Jvm.MethodName) ({ cls := "java/util/ArrayList", name := "elementData", desc := "(I)Ljava/lang/Object;" } : Jvm.MethodName)) ∈ px_TB := px_tb2 4 (by decide +kernel) rfl
theorem w_245 : (Jvm.Cond.code ({ cls := "java/util/ArrayList", name := "elementData", desc := "(I)Ljava/lang/Object;" } : Jvm.MethodName) prog_17_method_18_code (2 : Nat) (Option.some (Jvm.ClassFile.FieldType.object "java/lang/Object"))) ∈ px_TB := px_tb2 5 rfl rfl
theorem w_246 : (Jvm.Cond.methodLink "TroubleMemory" (64 : Nat) ({ cls := "TroubleMemory$Code", name := "condition", desc := "()I" } : Jvm.MethodName)) ∈ px_TB := px_tb2 6 (by decide +kernel) rfl
theorem w_247 : (Jvm.Cond.instanceMethod ({ cls := "TroubleMemory$Code", name := "condition", desc := "()I" } : Jvm.MethodName)) ∈ px_TB := px_tb2 7 (by decide +kernel) rfl
theorem w_248 : (Jvm.Cond.selects "TroubleMemory$Code" ({ cls := "TroubleMemory$Code", name := "condition", desc := "()I" } : Jvm.MethodName) ({ cls := "TroubleMemory$Code", name := "condition", desc := "()I" } : Jvm.MethodName)) ∈ px_TB := px_tb2 8 (by decide +kernel) rfl
theorem w_249 : (Jvm.Cond.code ({ cls := "TroubleMemory$Code", name := "condition", desc := "()I" } : Jvm.MethodName) prog_2_method_3_code (1 : Nat) (Option.some Jvm.ClassFile.FieldType.int)) ∈ px_TB := px_tb2 9 rfl rfl
theorem w_250 : (Jvm.Cond.methodLink "TroubleMemory" (67 : Nat) ({ cls := "TroubleMemory", name := "isOn", desc := "(I)Z" } : Jvm.MethodName)) ∈ px_TB := px_tb2 10 (by decide +kernel) rfl
theorem w_252 : (Jvm.Cond.instanceMethod ({ cls := "TroubleMemory", name := "isOn", desc := "(I)Z" } : Jvm.MethodName)) ∈ px_TB := px_tb2 12 (by decide +kernel) rfl
theorem w_253 : (Jvm.Cond.code ({ cls := "TroubleMemory", name := "isOn", desc := "(I)Z" } : Jvm.MethodName) prog_1_method_18_code (2 : Nat) (Option.some Jvm.ClassFile.FieldType.boolean)) ∈ px_TB := px_tb2 13 rfl rfl
theorem w_254 : (Jvm.Cond.methodLink "TroubleMemory" (71 : Nat) ({ cls := "TroubleMemory$Code", name := "count", desc := "(Z)V" } : Jvm.MethodName)) ∈ px_TB := px_tb2 14 (by decide +kernel) rfl
theorem w_255 : (Jvm.Cond.instanceMethod ({ cls := "TroubleMemory$Code", name := "count", desc := "(Z)V" } : Jvm.MethodName)) ∈ px_TB := px_tb2 15 (by decide +kernel) rfl
theorem w_256 : (Jvm.Cond.selects "TroubleMemory$Code" ({ cls := "TroubleMemory$Code", name := "count", desc := "(Z)V" } : Jvm.MethodName) ({ cls := "TroubleMemory$Code", name := "count", desc := "(Z)V" } : Jvm.MethodName)) ∈ px_TB := px_tb2 16 (by decide +kernel) rfl
theorem w_257 : (Jvm.Cond.code ({ cls := "TroubleMemory$Code", name := "count", desc := "(Z)V" } : Jvm.MethodName) prog_2_method_4_code (2 : Nat) (Option.none : Option Jvm.ClassFile.FieldType)) ∈ px_TB := px_tb2 17 rfl rfl
theorem w_258 : (Jvm.Cond.methodLink "TroubleMemory$Code" (45 : Nat) ({ cls := "java/lang/Math", name := "max", desc := "(II)I" } : Jvm.MethodName)) ∈ px_TB := px_tb2 18 (by decide +kernel) rfl
theorem w_259 : (Jvm.Cond.methodLink "TroubleMemory$Code" (51 : Nat) ({ cls := "java/lang/Math", name := "min", desc := "(II)I" } : Jvm.MethodName)) ∈ px_TB := px_tb2 19 (by decide +kernel) rfl
theorem w_260 : (Jvm.Cond.methodLink "TroubleMemory" (75 : Nat) ({ cls := "TroubleMemory", name := "judge", desc := "(LTroubleMemory$Code;)V" } : Jvm.MethodName)) ∈ px_TB := px_tb2 20 (by decide +kernel) rfl
theorem w_262 : (Jvm.Cond.instanceMethod ({ cls := "TroubleMemory", name := "judge", desc := "(LTroubleMemory$Code;)V" } : Jvm.MethodName)) ∈ px_TB := px_tb2 22 (by decide +kernel) rfl
theorem w_263 : (Jvm.Cond.code ({ cls := "TroubleMemory", name := "judge", desc := "(LTroubleMemory$Code;)V" } : Jvm.MethodName) prog_1_method_20_code (3 : Nat) (Option.none : Option Jvm.ClassFile.FieldType)) ∈ px_TB := px_tb2 23 rfl rfl
theorem w_264 : (Jvm.Cond.methodLink "TroubleMemory" (176 : Nat) ({ cls := "TroubleMemory$Standing", name := "pass", desc := "()V" } : Jvm.MethodName)) ∈ px_TB := px_tb2 24 (by decide +kernel) rfl
theorem w_265 : (Jvm.Cond.instanceMethod ({ cls := "TroubleMemory$Standing", name := "pass", desc := "()V" } : Jvm.MethodName)) ∈ px_TB := px_tb2 25 (by decide +kernel) rfl
theorem w_266 : (Jvm.Cond.selects "TroubleMemory$Standing" ({ cls := "TroubleMemory$Standing", name := "pass", desc := "()V" } : Jvm.MethodName) ({ cls := "TroubleMemory$Standing", name := "pass", desc := "()V" } : Jvm.MethodName)) ∈ px_TB := px_tb2 26 (by decide +kernel) rfl
theorem w_267 : (Jvm.Cond.code ({ cls := "TroubleMemory$Standing", name := "pass", desc := "()V" } : Jvm.MethodName) prog_6_method_5_code (1 : Nat) (Option.none : Option Jvm.ClassFile.FieldType)) ∈ px_TB := px_tb2 27 rfl rfl
theorem w_268 : (Jvm.Cond.methodLink "TroubleMemory" (173 : Nat) ({ cls := "TroubleMemory$Standing", name := "has", desc := "(I)Z" } : Jvm.MethodName)) ∈ px_TB := px_tb2 28 (by decide +kernel) rfl
theorem w_269 : (Jvm.Cond.instanceMethod ({ cls := "TroubleMemory$Standing", name := "has", desc := "(I)Z" } : Jvm.MethodName)) ∈ px_TB := px_tb2 29 (by decide +kernel) rfl
theorem w_270 : (Jvm.Cond.selects "TroubleMemory$Standing" ({ cls := "TroubleMemory$Standing", name := "has", desc := "(I)Z" } : Jvm.MethodName) ({ cls := "TroubleMemory$Standing", name := "has", desc := "(I)Z" } : Jvm.MethodName)) ∈ px_TB := px_tb2 30 (by decide +kernel) rfl
theorem w_271 : (Jvm.Cond.code ({ cls := "TroubleMemory$Standing", name := "has", desc := "(I)Z" } : Jvm.MethodName) prog_6_method_2_code (2 : Nat) (Option.some Jvm.ClassFile.FieldType.boolean)) ∈ px_TB := px_tb2 31 rfl rfl
theorem w_272 : (Jvm.Cond.methodLink "TroubleMemory" (179 : Nat) ({ cls := "TroubleMemory$Standing", name := "fail", desc := "(Z)V" } : Jvm.MethodName)) ∈ px_TB := px_tb2 32 (by decide +kernel) rfl
theorem w_273 : (Jvm.Cond.instanceMethod ({ cls := "TroubleMemory$Standing", name := "fail", desc := "(Z)V" } : Jvm.MethodName)) ∈ px_TB := px_tb2 33 (by decide +kernel) rfl
theorem w_274 : (Jvm.Cond.selects "TroubleMemory$Standing" ({ cls := "TroubleMemory$Standing", name := "fail", desc := "(Z)V" } : Jvm.MethodName) ({ cls := "TroubleMemory$Standing", name := "fail", desc := "(Z)V" } : Jvm.MethodName)) ∈ px_TB := px_tb2 34 (by decide +kernel) rfl
theorem w_275 : (Jvm.Cond.code ({ cls := "TroubleMemory$Standing", name := "fail", desc := "(Z)V" } : Jvm.MethodName) prog_6_method_6_code (2 : Nat) (Option.none : Option Jvm.ClassFile.FieldType)) ∈ px_TB := px_tb2 35 rfl rfl
theorem w_276 : (Jvm.Cond.methodLink "TroubleMemory$Standing" (24 : Nat) ({ cls := "TroubleMemory$Standing", name := "has", desc := "(I)Z" } : Jvm.MethodName)) ∈ px_TB := px_tb2 36 (by decide +kernel) rfl
theorem w_277 : (Jvm.Cond.methodLink "TroubleMemory$Standing" (28 : Nat) ({ cls := "java/lang/Math", name := "min", desc := "(II)I" } : Jvm.MethodName)) ∈ px_TB := px_tb2 37 (by decide +kernel) rfl
theorem w_278 : (Jvm.Cond.methodLink "TroubleMemory" (182 : Nat) ({ cls := "TroubleMemory$Code", name := "isHidden", desc := "()Z" } : Jvm.MethodName)) ∈ px_TB := px_tb2 38 (by decide +kernel) rfl
theorem w_279 : (Jvm.Cond.instanceMethod ({ cls := "TroubleMemory$Code", name := "isHidden", desc := "()Z" } : Jvm.MethodName)) ∈ px_TB := px_tb2 39 (by decide +kernel) rfl
theorem w_280 : (Jvm.Cond.selects "TroubleMemory$Code" ({ cls := "TroubleMemory$Code", name := "isHidden", desc := "()Z" } : Jvm.MethodName) ({ cls := "TroubleMemory$Code", name := "isHidden", desc := "()Z" } : Jvm.MethodName)) ∈ px_TB := px_tb2 40 (by decide +kernel) rfl
theorem w_281 : (Jvm.Cond.code ({ cls := "TroubleMemory$Code", name := "isHidden", desc := "()Z" } : Jvm.MethodName) prog_2_method_8_code (3 : Nat) (Option.some Jvm.ClassFile.FieldType.boolean)) ∈ px_TB := px_tb2 41 rfl rfl
theorem w_282 : (Jvm.Cond.methodLink "TroubleMemory$Code" (57 : Nat) ({ cls := "TroubleMemory$Standing", name := "has", desc := "(I)Z" } : Jvm.MethodName)) ∈ px_TB := px_tb2 42 (by decide +kernel) rfl
theorem w_283 : (Jvm.Cond.methodLink "TroubleMemory" (186 : Nat) ({ cls := "TroubleMemory", name := "takeSnapshot", desc := "(LTroubleMemory$Code;)LTroubleMemory$Snapshot;" } : Jvm.MethodName)) ∈ px_TB := px_tb2 43 (by decide +kernel) rfl
theorem w_285 : (Jvm.Cond.instanceMethod ({ cls := "TroubleMemory", name := "takeSnapshot", desc := "(LTroubleMemory$Code;)LTroubleMemory$Snapshot;" } : Jvm.MethodName)) ∈ px_TB := px_tb2 45 (by decide +kernel) rfl
theorem w_286 : (Jvm.Cond.code ({ cls := "TroubleMemory", name := "takeSnapshot", desc := "(LTroubleMemory$Code;)LTroubleMemory$Snapshot;" } : Jvm.MethodName) prog_1_method_21_code (2 : Nat) (Option.some (Jvm.ClassFile.FieldType.object "TroubleMemory$Snapshot"))) ∈ px_TB := px_tb2 46 rfl rfl
theorem w_287 : (Jvm.Cond.classLink "TroubleMemory" (120 : Nat) "TroubleMemory$Snapshot") ∈ px_TB := px_tb2 47 (by decide +kernel) rfl
theorem w_288 : (Jvm.Cond.instantiable "TroubleMemory$Snapshot" (4 : Nat)) ∈ px_TB := px_tb2 48 (by decide +kernel) rfl
theorem w_289 : (Jvm.Cond.methodLink "TroubleMemory" (149 : Nat) ({ cls := "TroubleMemory", name := "countCodesWith", desc := "(I)I" } : Jvm.MethodName)) ∈ px_TB := px_tb2 49 (by decide +kernel) rfl
theorem w_291 : (Jvm.Cond.instanceMethod ({ cls := "TroubleMemory", name := "countCodesWith", desc := "(I)I" } : Jvm.MethodName)) ∈ px_TB := px_tb2 51 (by decide +kernel) rfl
theorem w_292 : (Jvm.Cond.code ({ cls := "TroubleMemory", name := "countCodesWith", desc := "(I)I" } : Jvm.MethodName) prog_1_method_19_code (4 : Nat) (Option.some Jvm.ClassFile.FieldType.int)) ∈ px_TB := px_tb2 52 rfl rfl
theorem w_293 : (Jvm.Cond.methodLink "TroubleMemory" (197 : Nat) ({ cls := "TroubleMemory$Snapshot", name := "<init>", desc := "(IIII)V" } : Jvm.MethodName)) ∈ px_TB := px_tb2 53 (by decide +kernel) rfl
theorem w_294 : (Jvm.Cond.instanceMethod ({ cls := "TroubleMemory$Snapshot", name := "<init>", desc := "(IIII)V" } : Jvm.MethodName)) ∈ px_TB := px_tb2 54 (by decide +kernel) rfl
theorem w_295 : (Jvm.Cond.code ({ cls := "TroubleMemory$Snapshot", name := "<init>", desc := "(IIII)V" } : Jvm.MethodName) prog_5_method_1_code (5 : Nat) (Option.none : Option Jvm.ClassFile.FieldType)) ∈ px_TB := px_tb2 55 rfl rfl
theorem w_296 : (Jvm.Cond.methodLink "TroubleMemory$Snapshot" (1 : Nat) ({ cls := "java/lang/Object", name := "<init>", desc := "()V" } : Jvm.MethodName)) ∈ px_TB := px_tb2 56 (by decide +kernel) rfl
theorem w_297 : (Jvm.Cond.fieldLink "TroubleMemory$Snapshot" (7 : Nat) "TroubleMemory$Snapshot" "cycles" "I") ∈ px_TB := px_tb2 57 (by decide +kernel) rfl
theorem w_298 : (Jvm.Cond.fieldLink "TroubleMemory$Snapshot" (13 : Nat) "TroubleMemory$Snapshot" "events" "I") ∈ px_TB := px_tb2 58 (by decide +kernel) rfl
theorem w_299 : (Jvm.Cond.fieldLink "TroubleMemory$Snapshot" (16 : Nat) "TroubleMemory$Snapshot" "failedCodes" "I") ∈ px_TB := px_tb2 59 (by decide +kernel) rfl
theorem w_300 : (Jvm.Cond.fieldLink "TroubleMemory$Snapshot" (19 : Nat) "TroubleMemory$Snapshot" "up" "I") ∈ px_TB := px_tb2 60 (by decide +kernel) rfl
theorem w_301 : (Jvm.Cond.laysFinal "TroubleMemory$Snapshot" "TroubleMemory$Snapshot" "cycles" "I") ∈ px_TB := px_tb2 61 (by decide +kernel) rfl
theorem w_302 : (Jvm.Cond.soleField "TroubleMemory$Snapshot" "cycles") ∈ px_TB := px_tb2 62 (by decide +kernel) rfl
theorem w_303 : (Jvm.Cond.laysFinal "TroubleMemory$Snapshot" "TroubleMemory$Snapshot" "events" "I") ∈ px_TB := px_tb2 63 (by decide +kernel) rfl
theorem w_304 : (Jvm.Cond.soleField "TroubleMemory$Snapshot" "events") ∈ px_TB := px_tb2 64 (by decide +kernel) rfl
theorem w_305 : (Jvm.Cond.laysFinal "TroubleMemory$Snapshot" "TroubleMemory$Snapshot" "failedCodes" "I") ∈ px_TB := px_tb2 65 (by decide +kernel) rfl
theorem w_306 : (Jvm.Cond.soleField "TroubleMemory$Snapshot" "failedCodes") ∈ px_TB := px_tb2 66 (by decide +kernel) rfl
theorem w_307 : (Jvm.Cond.laysFinal "TroubleMemory$Snapshot" "TroubleMemory$Snapshot" "up" "I") ∈ px_TB := px_tb2 67 (by decide +kernel) rfl
theorem w_308 : (Jvm.Cond.soleField "TroubleMemory$Snapshot" "up") ∈ px_TB := px_tb2 68 (by decide +kernel) rfl
theorem w_309 : (Jvm.Cond.superclass "TroubleMemory$Snapshot" "java/lang/Object") ∈ px_TB := px_tb2 69 (by decide +kernel) rfl
theorem w_310 : (Jvm.Cond.methodLink "TroubleMemory" (190 : Nat) ({ cls := "TroubleMemory$Memory", name := "store", desc := "(LTroubleMemory$Code;LTroubleMemory$Snapshot;)V" } : Jvm.MethodName)) ∈ px_TB := px_tb2 70 (by decide +kernel) rfl
theorem w_311 : (Jvm.Cond.instanceMethod ({ cls := "TroubleMemory$Memory", name := "store", desc := "(LTroubleMemory$Code;LTroubleMemory$Snapshot;)V" } : Jvm.MethodName)) ∈ px_TB := px_tb2 71 (by decide +kernel) rfl
theorem w_312 : (Jvm.Cond.selects "TroubleMemory$Memory" ({ cls := "TroubleMemory$Memory", name := "store", desc := "(LTroubleMemory$Code;LTroubleMemory$Snapshot;)V" } : Jvm.MethodName) ({ cls := "TroubleMemory$Memory", name := "store", desc := "(LTroubleMemory$Code;LTroubleMemory$Snapshot;)V" } : Jvm.MethodName)) ∈ px_TB := px_tb2 72 (by decide +kernel) rfl
theorem w_313 : (Jvm.Cond.code ({ cls := "TroubleMemory$Memory", name := "store", desc := "(LTroubleMemory$Code;LTroubleMemory$Snapshot;)V" } : Jvm.MethodName) prog_4_method_2_code (3 : Nat) (Option.none : Option Jvm.ClassFile.FieldType)) ∈ px_TB := px_tb2 73 rfl rfl
theorem w_314 : (Jvm.Cond.methodLink "TroubleMemory$Memory" (31 : Nat) ({ cls := "TroubleMemory$Entry", name := "happenAgain", desc := "(LTroubleMemory$Snapshot;)V" } : Jvm.MethodName)) ∈ px_TB := px_tb2 74 (by decide +kernel) rfl
theorem w_315 : (Jvm.Cond.instanceMethod ({ cls := "TroubleMemory$Entry", name := "happenAgain", desc := "(LTroubleMemory$Snapshot;)V" } : Jvm.MethodName)) ∈ px_TB := px_tb2 75 (by decide +kernel) rfl
theorem w_316 : (Jvm.Cond.selects "TroubleMemory$Entry" ({ cls := "TroubleMemory$Entry", name := "happenAgain", desc := "(LTroubleMemory$Snapshot;)V" } : Jvm.MethodName) ({ cls := "TroubleMemory$Entry", name := "happenAgain", desc := "(LTroubleMemory$Snapshot;)V" } : Jvm.MethodName)) ∈ px_TB := px_tb2 76 (by decide +kernel) rfl
theorem w_317 : (Jvm.Cond.code ({ cls := "TroubleMemory$Entry", name := "happenAgain", desc := "(LTroubleMemory$Snapshot;)V" } : Jvm.MethodName) prog_3_method_2_code (2 : Nat) (Option.none : Option Jvm.ClassFile.FieldType)) ∈ px_TB := px_tb2 77 rfl rfl
theorem w_318 : (Jvm.Cond.methodLink "TroubleMemory$Entry" (26 : Nat) ({ cls := "java/lang/Math", name := "min", desc := "(II)I" } : Jvm.MethodName)) ∈ px_TB := px_tb2 78 (by decide +kernel) rfl
theorem w_319 : (Jvm.Cond.methodLink "TroubleMemory$Memory" (37 : Nat) ({ cls := "java/util/ArrayList", name := "size", desc := "()I" } : Jvm.MethodName)) ∈ px_TB := px_tb2 79 (by decide +kernel) rfl
theorem w_320 : (Jvm.Cond.methodLink "TroubleMemory$Memory" (41 : Nat) ({ cls := "TroubleMemory$Memory", name := "displaceFor", desc := "(LTroubleMemory$Code;)Z" } : Jvm.MethodName)) ∈ px_TB := px_tb2 80 (by decide +kernel) rfl
theorem w_322 : (Jvm.Cond.instanceMethod ({ cls := "TroubleMemory$Memory", name := "displaceFor", desc := "(LTroubleMemory$Code;)Z" } : Jvm.MethodName)) ∈ px_TB := px_tb2 82 (by decide +kernel) rfl
theorem w_323 : (Jvm.Cond.code ({ cls := "TroubleMemory$Memory", name := "displaceFor", desc := "(LTroubleMemory$Code;)Z" } : Jvm.MethodName) prog_4_method_3_code (5 : Nat) (Option.some Jvm.ClassFile.FieldType.boolean)) ∈ px_TB := px_tb2 83 rfl rfl
theorem w_324 : (Jvm.Cond.methodLink "TroubleMemory$Memory" (52 : Nat) ({ cls := "java/util/ArrayList", name := "get", desc := "(I)Ljava/lang/Object;" } : Jvm.MethodName)) ∈ px_TB := px_tb2 84 (by decide +kernel) rfl
theorem w_325 : (Jvm.Cond.classLink "TroubleMemory$Memory" (32 : Nat) "TroubleMemory$Entry") ∈ px_TB := px_tb2 85 (by decide +kernel) rfl
theorem w_326 : (Jvm.Cond.methodLink "TroubleMemory$Memory" (56 : Nat) ({ cls := "TroubleMemory$Entry", name := "mayGoFor", desc := "(LTroubleMemory$Code;)Z" } : Jvm.MethodName)) ∈ px_TB := px_tb2 86 (by decide +kernel) rfl
theorem w_327 : (Jvm.Cond.instanceMethod ({ cls := "TroubleMemory$Entry", name := "mayGoFor", desc := "(LTroubleMemory$Code;)Z" } : Jvm.MethodName)) ∈ px_TB := px_tb2 87 (by decide +kernel) rfl
theorem w_328 : (Jvm.Cond.selects "TroubleMemory$Entry" ({ cls := "TroubleMemory$Entry", name := "mayGoFor", desc := "(LTroubleMemory$Code;)Z" } : Jvm.MethodName) ({ cls := "TroubleMemory$Entry", name := "mayGoFor", desc := "(LTroubleMemory$Code;)Z" } : Jvm.MethodName)) ∈ px_TB := px_tb2 88 (by decide +kernel) rfl
theorem w_329 : (Jvm.Cond.code ({ cls := "TroubleMemory$Entry", name := "mayGoFor", desc := "(LTroubleMemory$Code;)Z" } : Jvm.MethodName) prog_3_method_3_code (2 : Nat) (Option.some Jvm.ClassFile.FieldType.boolean)) ∈ px_TB := px_tb2 89 rfl rfl
theorem w_330 : (Jvm.Cond.methodLink "TroubleMemory$Entry" (41 : Nat) ({ cls := "TroubleMemory$Standing", name := "has", desc := "(I)Z" } : Jvm.MethodName)) ∈ px_TB := px_tb2 90 (by decide +kernel) rfl
theorem w_331 : (Jvm.Cond.methodLink "TroubleMemory$Memory" (59 : Nat) ({ cls := "TroubleMemory$Entry", name := "goesBefore", desc := "(LTroubleMemory$Entry;)Z" } : Jvm.MethodName)) ∈ px_TB := px_tb2 91 (by decide +kernel) rfl
theorem w_332 : (Jvm.Cond.instanceMethod ({ cls := "TroubleMemory$Entry", name := "goesBefore", desc := "(LTroubleMemory$Entry;)Z" } : Jvm.MethodName)) ∈ px_TB := px_tb2 92 (by decide +kernel) rfl
theorem w_333 : (Jvm.Cond.selects "TroubleMemory$Entry" ({ cls := "TroubleMemory$Entry", name := "goesBefore", desc := "(LTroubleMemory$Entry;)Z" } : Jvm.MethodName) ({ cls := "TroubleMemory$Entry", name := "goesBefore", desc := "(LTroubleMemory$Entry;)Z" } : Jvm.MethodName)) ∈ px_TB := px_tb2 93 (by decide +kernel) rfl
theorem w_334 : (Jvm.Cond.code ({ cls := "TroubleMemory$Entry", name := "goesBefore", desc := "(LTroubleMemory$Entry;)Z" } : Jvm.MethodName) prog_3_method_4_code (2 : Nat) (Option.some Jvm.ClassFile.FieldType.boolean)) ∈ px_TB := px_tb2 94 rfl rfl
theorem w_335 : (Jvm.Cond.methodLink "TroubleMemory$Memory" (48 : Nat) ({ cls := "java/util/ArrayList", name := "add", desc := "(Ljava/lang/Object;)Z" } : Jvm.MethodName)) ∈ px_TB := px_tb2 95 (by decide +kernel) rfl
theorem w_336 : (Jvm.Cond.methodLink "TroubleMemory$Memory" (67 : Nat) ({ cls := "TroubleMemory$Memory", name := "drop", desc := "(LTroubleMemory$Code;)V" } : Jvm.MethodName)) ∈ px_TB := px_tb2 96 (by decide +kernel) rfl
theorem w_337 : (Jvm.Cond.instanceMethod ({ cls := "TroubleMemory$Memory", name := "drop", desc := "(LTroubleMemory$Code;)V" } : Jvm.MethodName)) ∈ px_TB := px_tb2 97 (by decide +kernel) rfl
theorem w_338 : (Jvm.Cond.selects "TroubleMemory$Memory" ({ cls := "TroubleMemory$Memory", name := "drop", desc := "(LTroubleMemory$Code;)V" } : Jvm.MethodName) ({ cls := "TroubleMemory$Memory", name := "drop", desc := "(LTroubleMemory$Code;)V" } : Jvm.MethodName)) ∈ px_TB := px_tb2 98 (by decide +kernel) rfl
theorem w_339 : (Jvm.Cond.code ({ cls := "TroubleMemory$Memory", name := "drop", desc := "(LTroubleMemory$Code;)V" } : Jvm.MethodName) prog_4_method_4_code (3 : Nat) (Option.none : Option Jvm.ClassFile.FieldType)) ∈ px_TB := px_tb2 99 rfl rfl
theorem w_340 : (Jvm.Cond.methodLink "TroubleMemory$Memory" (71 : Nat) ({ cls := "java/util/ArrayList", name := "remove", desc := "(I)Ljava/lang/Object;" } : Jvm.MethodName)) ∈ px_TB := px_tb2 100 (by decide +kernel) rfl
theorem w_341 : (Jvm.Cond.instanceMethod ({ cls := "java/util/ArrayList", name := "remove", desc := "(I)Ljava/lang/Object;" } : Jvm.MethodName)) ∈ px_TB := px_tb2 101 (by decide +kernel) rfl
theorem w_342 : (Jvm.Cond.selects "java/util/ArrayList" ({ cls := "java/util/ArrayList", name := "remove", desc := "(I)Ljava/lang/Object;" } : Jvm.MethodName) ({ cls := "java/util/ArrayList", name := "remove", desc := "(I)Ljava/lang/Object;" } : Jvm.MethodName)) ∈ px_TB := px_tb2 102 (by decide +kernel) rfl
theorem w_343 : (Jvm.Cond.code ({ cls := "java/util/ArrayList", name := "remove", desc := "(I)Ljava/lang/Object;" } : Jvm.MethodName) prog_17_method_29_code (4 : Nat) (Option.some (Jvm.ClassFile.FieldType.object "java/lang/Object"))) ∈ px_TB := px_tb2 103 rfl rfl
theorem w_344 : (Jvm.Cond.methodLink "java/util/ArrayList" (144 : Nat) ({ cls := "java/util/ArrayList", name := "fastRemove", desc := "([Ljava/lang/Object;I)V" } : Jvm.MethodName)) ∈ px_TB := px_tb2 104 (by decide +kernel) rfl
theorem w_346 : (Jvm.Cond.instanceMethod ({ cls := "java/util/ArrayList", name := "fastRemove", desc := "([Ljava/lang/Object;I)V" } : Jvm.MethodName)) ∈ px_TB := px_tb2 106 (by decide +kernel) rfl
theorem w_347 : (Jvm.Cond.code ({ cls := "java/util/ArrayList", name := "fastRemove", desc := "([Ljava/lang/Object;I)V" } : Jvm.MethodName) prog_17_method_39_code (4 : Nat) (Option.none : Option Jvm.ClassFile.FieldType)) ∈ px_TB := px_tb2 107 rfl rfl
theorem w_348 : (Jvm.Cond.methodLink "java/util/ArrayList" (112 : Nat) ({ cls := "java/lang/System", name := "arraycopy", desc := "(Ljava/lang/Object;ILjava/lang/Object;II)V" } : Jvm.MethodName)) ∈ px_TB := px_tb2 108 (by decide +kernel) rfl
theorem w_349 : (Jvm.Cond.instantiable "TroubleMemory$Entry" (4 : Nat)) ∈ px_TB := px_tb2 109 (by decide +kernel) rfl
theorem w_350 : (Jvm.Cond.methodLink "TroubleMemory$Memory" (45 : Nat) ({ cls := "TroubleMemory$Entry", name := "<init>", desc := "(LTroubleMemory$Code;LTroubleMemory$Snapshot;)V" } : Jvm.MethodName)) ∈ px_TB := px_tb2 110 (by decide +kernel) rfl
theorem w_351 : (Jvm.Cond.instanceMethod ({ cls := "TroubleMemory$Entry", name := "<init>", desc := "(LTroubleMemory$Code;LTroubleMemory$Snapshot;)V" } : Jvm.MethodName)) ∈ px_TB := px_tb2 111 (by decide +kernel) rfl
theorem w_352 : (Jvm.Cond.code ({ cls := "TroubleMemory$Entry", name := "<init>", desc := "(LTroubleMemory$Code;LTroubleMemory$Snapshot;)V" } : Jvm.MethodName) prog_3_method_1_code (3 : Nat) (Option.none : Option Jvm.ClassFile.FieldType)) ∈ px_TB := px_tb2 112 rfl rfl
theorem w_353 : (Jvm.Cond.methodLink "TroubleMemory$Entry" (3 : Nat) ({ cls := "java/lang/Object", name := "<init>", desc := "()V" } : Jvm.MethodName)) ∈ px_TB := px_tb2 113 (by decide +kernel) rfl
theorem w_354 : (Jvm.Cond.fieldLink "TroubleMemory$Entry" (15 : Nat) "TroubleMemory$Entry" "owner" "LTroubleMemory$Code;") ∈ px_TB := px_tb2 114 (by decide +kernel) rfl
theorem w_355 : (Jvm.Cond.fieldLink "TroubleMemory$Memory" (63 : Nat) "TroubleMemory$Entry" "owner" "LTroubleMemory$Code;") ∈ px_TB := px_tb2 115 (by decide +kernel) rfl
theorem w_356 : (Jvm.Cond.fieldLink "TroubleMemory" (155 : Nat) "TroubleMemory$Entry" "owner" "LTroubleMemory$Code;") ∈ px_TB := px_tb2 116 (by decide +kernel) rfl
theorem w_357 : (Jvm.Cond.fieldLink "TroubleMemory$Entry" (19 : Nat) "TroubleMemory$Entry" "first" "LTroubleMemory$Snapshot;") ∈ px_TB := px_tb2 117 (by decide +kernel) rfl
theorem w_358 : (Jvm.Cond.fieldLink "TroubleMemory" (110 : Nat) "TroubleMemory$Entry" "first" "LTroubleMemory$Snapshot;") ∈ px_TB := px_tb2 118 (by decide +kernel) rfl
theorem w_359 : (Jvm.Cond.fieldLink "TroubleMemory$Entry" (23 : Nat) "TroubleMemory$Entry" "last" "LTroubleMemory$Snapshot;") ∈ px_TB := px_tb2 119 (by decide +kernel) rfl
theorem w_360 : (Jvm.Cond.fieldLink "TroubleMemory" (116 : Nat) "TroubleMemory$Entry" "last" "LTroubleMemory$Snapshot;") ∈ px_TB := px_tb2 120 (by decide +kernel) rfl
theorem w_361 : (Jvm.Cond.fieldLink "TroubleMemory$Entry" (9 : Nat) "TroubleMemory$Entry" "happened" "I") ∈ px_TB := px_tb2 121 (by decide +kernel) rfl
theorem w_362 : (Jvm.Cond.fieldLink "TroubleMemory" (158 : Nat) "TroubleMemory$Entry" "happened" "I") ∈ px_TB := px_tb2 122 (by decide +kernel) rfl
theorem w_363 : (Jvm.Cond.laysFinal "TroubleMemory$Entry" "TroubleMemory$Entry" "owner" "LTroubleMemory$Code;") ∈ px_TB := px_tb2 123 (by decide +kernel) rfl
theorem w_364 : (Jvm.Cond.soleField "TroubleMemory$Entry" "owner") ∈ px_TB := px_tb2 124 (by decide +kernel) rfl
theorem w_365 : (Jvm.Cond.laysFinal "TroubleMemory$Entry" "TroubleMemory$Entry" "first" "LTroubleMemory$Snapshot;") ∈ px_TB := px_tb2 125 (by decide +kernel) rfl
theorem w_366 : (Jvm.Cond.soleField "TroubleMemory$Entry" "first") ∈ px_TB := px_tb2 126 (by decide +kernel) rfl
theorem w_367 : (Jvm.Cond.lays "TroubleMemory$Entry" "TroubleMemory$Entry" "last" "LTroubleMemory$Snapshot;") ∈ px_TB := px_tb2 127 (by decide +kernel) rfl
theorem w_368 : (Jvm.Cond.soleField "TroubleMemory$Entry" "last") ∈ px_TB := px_tb2 128 (by decide +kernel) rfl
theorem w_369 : (Jvm.Cond.lays "TroubleMemory$Entry" "TroubleMemory$Entry" "happened" "I") ∈ px_TB := px_tb2 129 (by decide +kernel) rfl
theorem w_370 : (Jvm.Cond.soleField "TroubleMemory$Entry" "happened") ∈ px_TB := px_tb2 130 (by decide +kernel) rfl
theorem w_371 : (Jvm.Cond.superclass "TroubleMemory$Entry" "java/lang/Object") ∈ px_TB := px_tb2 131 (by decide +kernel) rfl
theorem w_372 : (Jvm.Cond.methodLink "TroubleMemoryLaw" (31 : Nat) ({ cls := "TroubleMemory", name := "cycle", desc := "(Z)I" } : Jvm.MethodName)) ∈ px_TB := px_tb2 132 (by decide +kernel) rfl
theorem w_373 : (Jvm.Cond.instanceMethod ({ cls := "TroubleMemory", name := "cycle", desc := "(Z)I" } : Jvm.MethodName)) ∈ px_TB := px_tb2 133 (by decide +kernel) rfl
theorem w_374 : (Jvm.Cond.selects "TroubleMemory" ({ cls := "TroubleMemory", name := "cycle", desc := "(Z)I" } : Jvm.MethodName) ({ cls := "TroubleMemory", name := "cycle", desc := "(Z)I" } : Jvm.MethodName)) ∈ px_TB := px_tb2 134 (by decide +kernel) rfl
theorem w_375 : (Jvm.Cond.code ({ cls := "TroubleMemory", name := "cycle", desc := "(Z)I" } : Jvm.MethodName) prog_1_method_4_code (4 : Nat) (Option.some Jvm.ClassFile.FieldType.int)) ∈ px_TB := px_tb2 135 rfl rfl
theorem w_376 : (Jvm.Cond.methodLink "TroubleMemory" (92 : Nat) ({ cls := "TroubleMemory", name := "endCycle", desc := "(LTroubleMemory$Code;Z)V" } : Jvm.MethodName)) ∈ px_TB := px_tb2 136 (by decide +kernel) rfl
theorem w_378 : (Jvm.Cond.instanceMethod ({ cls := "TroubleMemory", name := "endCycle", desc := "(LTroubleMemory$Code;Z)V" } : Jvm.MethodName)) ∈ px_TB := px_tb2 138 (by decide +kernel) rfl
theorem w_379 : (Jvm.Cond.code ({ cls := "TroubleMemory", name := "endCycle", desc := "(LTroubleMemory$Code;Z)V" } : Jvm.MethodName) prog_1_method_22_code (3 : Nat) (Option.none : Option Jvm.ClassFile.FieldType)) ∈ px_TB := px_tb2 139 rfl rfl
theorem w_380 : (Jvm.Cond.methodLink "TroubleMemory" (198 : Nat) ({ cls := "TroubleMemory$Standing", name := "wasOnlyGood", desc := "()Z" } : Jvm.MethodName)) ∈ px_TB := px_tb2 140 (by decide +kernel) rfl
theorem w_381 : (Jvm.Cond.instanceMethod ({ cls := "TroubleMemory$Standing", name := "wasOnlyGood", desc := "()Z" } : Jvm.MethodName)) ∈ px_TB := px_tb2 141 (by decide +kernel) rfl
theorem w_382 : (Jvm.Cond.selects "TroubleMemory$Standing" ({ cls := "TroubleMemory$Standing", name := "wasOnlyGood", desc := "()Z" } : Jvm.MethodName) ({ cls := "TroubleMemory$Standing", name := "wasOnlyGood", desc := "()Z" } : Jvm.MethodName)) ∈ px_TB := px_tb2 142 (by decide +kernel) rfl
theorem w_383 : (Jvm.Cond.code ({ cls := "TroubleMemory$Standing", name := "wasOnlyGood", desc := "()Z" } : Jvm.MethodName) prog_6_method_7_code (1 : Nat) (Option.some Jvm.ClassFile.FieldType.boolean)) ∈ px_TB := px_tb2 143 rfl rfl
theorem w_384 : (Jvm.Cond.methodLink "TroubleMemory" (201 : Nat) ({ cls := "TroubleMemory$Standing", name := "addGoodCycle", desc := "()V" } : Jvm.MethodName)) ∈ px_TB := px_tb2 144 (by decide +kernel) rfl
theorem w_385 : (Jvm.Cond.instanceMethod ({ cls := "TroubleMemory$Standing", name := "addGoodCycle", desc := "()V" } : Jvm.MethodName)) ∈ px_TB := px_tb2 145 (by decide +kernel) rfl
theorem w_386 : (Jvm.Cond.selects "TroubleMemory$Standing" ({ cls := "TroubleMemory$Standing", name := "addGoodCycle", desc := "()V" } : Jvm.MethodName) ({ cls := "TroubleMemory$Standing", name := "addGoodCycle", desc := "()V" } : Jvm.MethodName)) ∈ px_TB := px_tb2 146 (by decide +kernel) rfl
theorem w_387 : (Jvm.Cond.code ({ cls := "TroubleMemory$Standing", name := "addGoodCycle", desc := "()V" } : Jvm.MethodName) prog_6_method_8_code (1 : Nat) (Option.none : Option Jvm.ClassFile.FieldType)) ∈ px_TB := px_tb2 147 rfl rfl
theorem w_388 : (Jvm.Cond.methodLink "TroubleMemory" (204 : Nat) ({ cls := "TroubleMemory$Standing", name := "ages", desc := "()Z" } : Jvm.MethodName)) ∈ px_TB := px_tb2 148 (by decide +kernel) rfl
theorem w_389 : (Jvm.Cond.instanceMethod ({ cls := "TroubleMemory$Standing", name := "ages", desc := "()Z" } : Jvm.MethodName)) ∈ px_TB := px_tb2 149 (by decide +kernel) rfl
theorem w_390 : (Jvm.Cond.selects "TroubleMemory$Standing" ({ cls := "TroubleMemory$Standing", name := "ages", desc := "()Z" } : Jvm.MethodName) ({ cls := "TroubleMemory$Standing", name := "ages", desc := "()Z" } : Jvm.MethodName)) ∈ px_TB := px_tb2 150 (by decide +kernel) rfl
theorem w_391 : (Jvm.Cond.code ({ cls := "TroubleMemory$Standing", name := "ages", desc := "()Z" } : Jvm.MethodName) prog_6_method_9_code (1 : Nat) (Option.some Jvm.ClassFile.FieldType.boolean)) ∈ px_TB := px_tb2 151 rfl rfl
theorem w_392 : (Jvm.Cond.methodLink "TroubleMemory" (207 : Nat) ({ cls := "TroubleMemory$Standing", name := "heal", desc := "()V" } : Jvm.MethodName)) ∈ px_TB := px_tb2 152 (by decide +kernel) rfl
theorem w_393 : (Jvm.Cond.instanceMethod ({ cls := "TroubleMemory$Standing", name := "heal", desc := "()V" } : Jvm.MethodName)) ∈ px_TB := px_tb2 153 (by decide +kernel) rfl
theorem w_394 : (Jvm.Cond.selects "TroubleMemory$Standing" ({ cls := "TroubleMemory$Standing", name := "heal", desc := "()V" } : Jvm.MethodName) ({ cls := "TroubleMemory$Standing", name := "heal", desc := "()V" } : Jvm.MethodName)) ∈ px_TB := px_tb2 154 (by decide +kernel) rfl
theorem w_395 : (Jvm.Cond.code ({ cls := "TroubleMemory$Standing", name := "heal", desc := "()V" } : Jvm.MethodName) prog_6_method_10_code (1 : Nat) (Option.none : Option Jvm.ClassFile.FieldType)) ∈ px_TB := px_tb2 155 rfl rfl
theorem w_396 : (Jvm.Cond.methodLink "TroubleMemory" (130 : Nat) ({ cls := "TroubleMemory$Memory", name := "drop", desc := "(LTroubleMemory$Code;)V" } : Jvm.MethodName)) ∈ px_TB := px_tb2 156 (by decide +kernel) rfl
theorem w_397 : (Jvm.Cond.methodLink "TroubleMemory" (96 : Nat) ({ cls := "TroubleMemory$Standing", name := "beginCycle", desc := "()V" } : Jvm.MethodName)) ∈ px_TB := px_tb2 157 (by decide +kernel) rfl
theorem w_398 : (Jvm.Cond.instanceMethod ({ cls := "TroubleMemory$Standing", name := "beginCycle", desc := "()V" } : Jvm.MethodName)) ∈ px_TB := px_tb2 158 (by decide +kernel) rfl
theorem w_399 : (Jvm.Cond.selects "TroubleMemory$Standing" ({ cls := "TroubleMemory$Standing", name := "beginCycle", desc := "()V" } : Jvm.MethodName) ({ cls := "TroubleMemory$Standing", name := "beginCycle", desc := "()V" } : Jvm.MethodName)) ∈ px_TB := px_tb2 159 (by decide +kernel) rfl
theorem w_400 : (Jvm.Cond.code ({ cls := "TroubleMemory$Standing", name := "beginCycle", desc := "()V" } : Jvm.MethodName) prog_6_method_11_code (1 : Nat) (Option.none : Option Jvm.ClassFile.FieldType)) ∈ px_TB := px_tb2 160 rfl rfl
theorem w_401 : (Jvm.Cond.methodLink "TroubleMemory" (102 : Nat) ({ cls := "TroubleMemory$Standing", name := "copyFrom", desc := "(LTroubleMemory$Standing;)V" } : Jvm.MethodName)) ∈ px_TB := px_tb2 161 (by decide +kernel) rfl
theorem w_402 : (Jvm.Cond.instanceMethod ({ cls := "TroubleMemory$Standing", name := "copyFrom", desc := "(LTroubleMemory$Standing;)V" } : Jvm.MethodName)) ∈ px_TB := px_tb2 162 (by decide +kernel) rfl
theorem w_403 : (Jvm.Cond.selects "TroubleMemory$Standing" ({ cls := "TroubleMemory$Standing", name := "copyFrom", desc := "(LTroubleMemory$Standing;)V" } : Jvm.MethodName) ({ cls := "TroubleMemory$Standing", name := "copyFrom", desc := "(LTroubleMemory$Standing;)V" } : Jvm.MethodName)) ∈ px_TB := px_tb2 163 (by decide +kernel) rfl
theorem w_404 : (Jvm.Cond.code ({ cls := "TroubleMemory$Standing", name := "copyFrom", desc := "(LTroubleMemory$Standing;)V" } : Jvm.MethodName) prog_6_method_3_code (2 : Nat) (Option.none : Option Jvm.ClassFile.FieldType)) ∈ px_TB := px_tb2 164 rfl rfl
theorem w_405 : (Jvm.Cond.methodLink "TroubleMemoryLaw" (36 : Nat) ({ cls := "TroubleMemory", name := "status", desc := "(I)I" } : Jvm.MethodName)) ∈ px_TB := px_tb2 165 (by decide +kernel) rfl
theorem w_406 : (Jvm.Cond.instanceMethod ({ cls := "TroubleMemory", name := "status", desc := "(I)I" } : Jvm.MethodName)) ∈ px_TB := px_tb2 166 (by decide +kernel) rfl
theorem w_407 : (Jvm.Cond.selects "TroubleMemory" ({ cls := "TroubleMemory", name := "status", desc := "(I)I" } : Jvm.MethodName) ({ cls := "TroubleMemory", name := "status", desc := "(I)I" } : Jvm.MethodName)) ∈ px_TB := px_tb2 167 (by decide +kernel) rfl
theorem w_408 : (Jvm.Cond.code ({ cls := "TroubleMemory", name := "status", desc := "(I)I" } : Jvm.MethodName) prog_1_method_5_code (3 : Nat) (Option.some Jvm.ClassFile.FieldType.int)) ∈ px_TB := px_tb2 168 rfl rfl
theorem w_409 : (Jvm.Cond.methodLink "TroubleMemoryLaw" (41 : Nat) ({ cls := "TroubleMemory", name := "snapshot", desc := "(III)I" } : Jvm.MethodName)) ∈ px_TB := px_tb2 169 (by decide +kernel) rfl
theorem w_410 : (Jvm.Cond.instanceMethod ({ cls := "TroubleMemory", name := "snapshot", desc := "(III)I" } : Jvm.MethodName)) ∈ px_TB := px_tb2 170 (by decide +kernel) rfl
theorem w_411 : (Jvm.Cond.selects "TroubleMemory" ({ cls := "TroubleMemory", name := "snapshot", desc := "(III)I" } : Jvm.MethodName) ({ cls := "TroubleMemory", name := "snapshot", desc := "(III)I" } : Jvm.MethodName)) ∈ px_TB := px_tb2 171 (by decide +kernel) rfl
theorem w_412 : (Jvm.Cond.code ({ cls := "TroubleMemory", name := "snapshot", desc := "(III)I" } : Jvm.MethodName) prog_1_method_6_code (6 : Nat) (Option.some Jvm.ClassFile.FieldType.int)) ∈ px_TB := px_tb2 172 rfl rfl
theorem w_413 : (Jvm.Cond.methodLink "TroubleMemory" (119 : Nat) ({ cls := "TroubleMemory$Snapshot", name := "number", desc := "(I)I" } : Jvm.MethodName)) ∈ px_TB := px_tb2 173 (by decide +kernel) rfl
theorem w_414 : (Jvm.Cond.instanceMethod ({ cls := "TroubleMemory$Snapshot", name := "number", desc := "(I)I" } : Jvm.MethodName)) ∈ px_TB := px_tb2 174 (by decide +kernel) rfl
theorem w_415 : (Jvm.Cond.selects "TroubleMemory$Snapshot" ({ cls := "TroubleMemory$Snapshot", name := "number", desc := "(I)I" } : Jvm.MethodName) ({ cls := "TroubleMemory$Snapshot", name := "number", desc := "(I)I" } : Jvm.MethodName)) ∈ px_TB := px_tb2 175 (by decide +kernel) rfl
theorem w_416 : (Jvm.Cond.code ({ cls := "TroubleMemory$Snapshot", name := "number", desc := "(I)I" } : Jvm.MethodName) prog_5_method_2_code (2 : Nat) (Option.some Jvm.ClassFile.FieldType.int)) ∈ px_TB := px_tb2 176 rfl rfl
theorem w_417 : (Jvm.Cond.methodLink "TroubleMemoryLaw" (45 : Nat) ({ cls := "TroubleMemory", name := "clear", desc := "(I)I" } : Jvm.MethodName)) ∈ px_TB := px_tb2 177 (by decide +kernel) rfl
theorem w_418 : (Jvm.Cond.instanceMethod ({ cls := "TroubleMemory", name := "clear", desc := "(I)I" } : Jvm.MethodName)) ∈ px_TB := px_tb2 178 (by decide +kernel) rfl
theorem w_419 : (Jvm.Cond.selects "TroubleMemory" ({ cls := "TroubleMemory", name := "clear", desc := "(I)I" } : Jvm.MethodName) ({ cls := "TroubleMemory", name := "clear", desc := "(I)I" } : Jvm.MethodName)) ∈ px_TB := px_tb2 179 (by decide +kernel) rfl
theorem w_420 : (Jvm.Cond.code ({ cls := "TroubleMemory", name := "clear", desc := "(I)I" } : Jvm.MethodName) prog_1_method_7_code (5 : Nat) (Option.some Jvm.ClassFile.FieldType.int)) ∈ px_TB := px_tb2 180 rfl rfl
theorem w_421 : (Jvm.Cond.methodLink "TroubleMemory" (124 : Nat) ({ cls := "TroubleMemory$Code", name := "group", desc := "()I" } : Jvm.MethodName)) ∈ px_TB := px_tb2 181 (by decide +kernel) rfl
theorem w_422 : (Jvm.Cond.instanceMethod ({ cls := "TroubleMemory$Code", name := "group", desc := "()I" } : Jvm.MethodName)) ∈ px_TB := px_tb2 182 (by decide +kernel) rfl
theorem w_423 : (Jvm.Cond.selects "TroubleMemory$Code" ({ cls := "TroubleMemory$Code", name := "group", desc := "()I" } : Jvm.MethodName) ({ cls := "TroubleMemory$Code", name := "group", desc := "()I" } : Jvm.MethodName)) ∈ px_TB := px_tb2 183 (by decide +kernel) rfl
theorem w_424 : (Jvm.Cond.code ({ cls := "TroubleMemory$Code", name := "group", desc := "()I" } : Jvm.MethodName) prog_2_method_2_code (1 : Nat) (Option.some Jvm.ClassFile.FieldType.int)) ∈ px_TB := px_tb2 184 rfl rfl
theorem w_425 : (Jvm.Cond.methodLink "TroubleMemory" (127 : Nat) ({ cls := "TroubleMemory$Code", name := "forget", desc := "()V" } : Jvm.MethodName)) ∈ px_TB := px_tb2 185 (by decide +kernel) rfl
theorem w_426 : (Jvm.Cond.instanceMethod ({ cls := "TroubleMemory$Code", name := "forget", desc := "()V" } : Jvm.MethodName)) ∈ px_TB := px_tb2 186 (by decide +kernel) rfl
theorem w_427 : (Jvm.Cond.selects "TroubleMemory$Code" ({ cls := "TroubleMemory$Code", name := "forget", desc := "()V" } : Jvm.MethodName) ({ cls := "TroubleMemory$Code", name := "forget", desc := "()V" } : Jvm.MethodName)) ∈ px_TB := px_tb2 187 (by decide +kernel) rfl
theorem w_428 : (Jvm.Cond.code ({ cls := "TroubleMemory$Code", name := "forget", desc := "()V" } : Jvm.MethodName) prog_2_method_5_code (1 : Nat) (Option.none : Option Jvm.ClassFile.FieldType)) ∈ px_TB := px_tb2 188 rfl rfl
theorem w_429 : (Jvm.Cond.methodLink "TroubleMemory$Code" (54 : Nat) ({ cls := "TroubleMemory$Standing", name := "reset", desc := "()V" } : Jvm.MethodName)) ∈ px_TB := px_tb2 189 (by decide +kernel) rfl
theorem w_430 : (Jvm.Cond.instanceMethod ({ cls := "TroubleMemory$Standing", name := "reset", desc := "()V" } : Jvm.MethodName)) ∈ px_TB := px_tb2 190 (by decide +kernel) rfl
theorem w_431 : (Jvm.Cond.selects "TroubleMemory$Standing" ({ cls := "TroubleMemory$Standing", name := "reset", desc := "()V" } : Jvm.MethodName) ({ cls := "TroubleMemory$Standing", name := "reset", desc := "()V" } : Jvm.MethodName)) ∈ px_TB := px_tb2 191 (by decide +kernel) rfl
theorem w_432 : (Jvm.Cond.code ({ cls := "TroubleMemory$Standing", name := "reset", desc := "()V" } : Jvm.MethodName) prog_6_method_4_code (1 : Nat) (Option.none : Option Jvm.ClassFile.FieldType)) ∈ px_TB := px_tb2 192 rfl rfl
theorem w_433 : (Jvm.Cond.methodLink "TroubleMemoryLaw" (49 : Nat) ({ cls := "TroubleMemory", name := "parent", desc := "(II)I" } : Jvm.MethodName)) ∈ px_TB := px_tb2 193 (by decide +kernel) rfl
theorem w_434 : (Jvm.Cond.instanceMethod ({ cls := "TroubleMemory", name := "parent", desc := "(II)I" } : Jvm.MethodName)) ∈ px_TB := px_tb2 194 (by decide +kernel) rfl
theorem w_435 : (Jvm.Cond.selects "TroubleMemory" ({ cls := "TroubleMemory", name := "parent", desc := "(II)I" } : Jvm.MethodName) ({ cls := "TroubleMemory", name := "parent", desc := "(II)I" } : Jvm.MethodName)) ∈ px_TB := px_tb2 195 (by decide +kernel) rfl
theorem w_436 : (Jvm.Cond.code ({ cls := "TroubleMemory", name := "parent", desc := "(II)I" } : Jvm.MethodName) prog_1_method_8_code (5 : Nat) (Option.some Jvm.ClassFile.FieldType.int)) ∈ px_TB := px_tb2 196 rfl rfl
theorem w_437 : (Jvm.Cond.methodLink "TroubleMemory" (133 : Nat) ({ cls := "TroubleMemory$Code", name := "isBelow", desc := "(LTroubleMemory$Code;)Z" } : Jvm.MethodName)) ∈ px_TB := px_tb2 197 (by decide +kernel) rfl
theorem w_438 : (Jvm.Cond.instanceMethod ({ cls := "TroubleMemory$Code", name := "isBelow", desc := "(LTroubleMemory$Code;)Z" } : Jvm.MethodName)) ∈ px_TB := px_tb2 198 (by decide +kernel) rfl
theorem w_439 : (Jvm.Cond.selects "TroubleMemory$Code" ({ cls := "TroubleMemory$Code", name := "isBelow", desc := "(LTroubleMemory$Code;)Z" } : Jvm.MethodName) ({ cls := "TroubleMemory$Code", name := "isBelow", desc := "(LTroubleMemory$Code;)Z" } : Jvm.MethodName)) ∈ px_TB := px_tb2 199 (by decide +kernel) rfl
theorem w_440 : (Jvm.Cond.code ({ cls := "TroubleMemory$Code", name := "isBelow", desc := "(LTroubleMemory$Code;)Z" } : Jvm.MethodName) prog_2_method_7_code (4 : Nat) (Option.some Jvm.ClassFile.FieldType.boolean)) ∈ px_TB := px_tb2 200 rfl rfl
theorem w_441 : (Jvm.Cond.methodLink "TroubleMemory" (141 : Nat) ({ cls := "TroubleMemory$Code", name := "countAbove", desc := "()I" } : Jvm.MethodName)) ∈ px_TB := px_tb2 201 (by decide +kernel) rfl
theorem w_442 : (Jvm.Cond.instanceMethod ({ cls := "TroubleMemory$Code", name := "countAbove", desc := "()I" } : Jvm.MethodName)) ∈ px_TB := px_tb2 202 (by decide +kernel) rfl
theorem w_443 : (Jvm.Cond.selects "TroubleMemory$Code" ({ cls := "TroubleMemory$Code", name := "countAbove", desc := "()I" } : Jvm.MethodName) ({ cls := "TroubleMemory$Code", name := "countAbove", desc := "()I" } : Jvm.MethodName)) ∈ px_TB := px_tb2 203 (by decide +kernel) rfl
theorem w_444 : (Jvm.Cond.code ({ cls := "TroubleMemory$Code", name := "countAbove", desc := "()I" } : Jvm.MethodName) prog_2_method_6_code (3 : Nat) (Option.some Jvm.ClassFile.FieldType.int)) ∈ px_TB := px_tb2 204 rfl rfl
theorem w_445 : (Jvm.Cond.methodLink "TroubleMemoryLaw" (54 : Nat) ({ cls := "TroubleMemory", name := "enable", desc := "(IZ)I" } : Jvm.MethodName)) ∈ px_TB := px_tb2 205 (by decide +kernel) rfl
theorem w_446 : (Jvm.Cond.instanceMethod ({ cls := "TroubleMemory", name := "enable", desc := "(IZ)I" } : Jvm.MethodName)) ∈ px_TB := px_tb2 206 (by decide +kernel) rfl
theorem w_447 : (Jvm.Cond.selects "TroubleMemory" ({ cls := "TroubleMemory", name := "enable", desc := "(IZ)I" } : Jvm.MethodName) ({ cls := "TroubleMemory", name := "enable", desc := "(IZ)I" } : Jvm.MethodName)) ∈ px_TB := px_tb2 207 (by decide +kernel) rfl
theorem w_448 : (Jvm.Cond.code ({ cls := "TroubleMemory", name := "enable", desc := "(IZ)I" } : Jvm.MethodName) prog_1_method_9_code (4 : Nat) (Option.some Jvm.ClassFile.FieldType.int)) ∈ px_TB := px_tb2 208 rfl rfl
theorem w_449 : (Jvm.Cond.methodLink "TroubleMemory" (144 : Nat) ({ cls := "java/lang/Integer", name := "bitCount", desc := "(I)I" } : Jvm.MethodName)) ∈ px_TB := px_tb2 209 (by decide +kernel) rfl
theorem w_450 : (Jvm.Cond.static ({ cls := "java/lang/Integer", name := "bitCount", desc := "(I)I" } : Jvm.MethodName)) ∈ px_TB := px_tb2 210 (by decide +kernel) rfl
theorem w_451 : (Jvm.Cond.code ({ cls := "java/lang/Integer", name := "bitCount", desc := "(I)I" } : Jvm.MethodName) prog_11_method_49_code (1 : Nat) (Option.some Jvm.ClassFile.FieldType.int)) ∈ px_TB := px_tb2 211 rfl rfl
theorem w_452 : (Jvm.Cond.constant "java/lang/Integer" (265 : Nat) (1431655765 : Int32)) ∈ px_TB := px_tb2 212 (by decide +kernel) rfl
theorem w_453 : (Jvm.Cond.constant "java/lang/Integer" (266 : Nat) (858993459 : Int32)) ∈ px_TB := px_tb2 213 (by decide +kernel) rfl
theorem w_454 : (Jvm.Cond.constant "java/lang/Integer" (267 : Nat) (252645135 : Int32)) ∈ px_TB := px_tb2 214 (by decide +kernel) rfl
theorem w_455 : (Jvm.Cond.methodLink "TroubleMemoryLaw" (58 : Nat) ({ cls := "TroubleMemory", name := "lamp", desc := "(I)I" } : Jvm.MethodName)) ∈ px_TB := px_tb2 215 (by decide +kernel) rfl
theorem w_456 : (Jvm.Cond.instanceMethod ({ cls := "TroubleMemory", name := "lamp", desc := "(I)I" } : Jvm.MethodName)) ∈ px_TB := px_tb2 216 (by decide +kernel) rfl
theorem w_457 : (Jvm.Cond.selects "TroubleMemory" ({ cls := "TroubleMemory", name := "lamp", desc := "(I)I" } : Jvm.MethodName) ({ cls := "TroubleMemory", name := "lamp", desc := "(I)I" } : Jvm.MethodName)) ∈ px_TB := px_tb2 217 (by decide +kernel) rfl
theorem w_458 : (Jvm.Cond.code ({ cls := "TroubleMemory", name := "lamp", desc := "(I)I" } : Jvm.MethodName) prog_1_method_10_code (2 : Nat) (Option.some Jvm.ClassFile.FieldType.int)) ∈ px_TB := px_tb2 218 rfl rfl
theorem w_459 : (Jvm.Cond.methodLink "TroubleMemoryLaw" (62 : Nat) ({ cls := "TroubleMemory", name := "stored", desc := "(II)I" } : Jvm.MethodName)) ∈ px_TB := px_tb2 219 (by decide +kernel) rfl
theorem w_460 : (Jvm.Cond.instanceMethod ({ cls := "TroubleMemory", name := "stored", desc := "(II)I" } : Jvm.MethodName)) ∈ px_TB := px_tb2 220 (by decide +kernel) rfl
theorem w_461 : (Jvm.Cond.selects "TroubleMemory" ({ cls := "TroubleMemory", name := "stored", desc := "(II)I" } : Jvm.MethodName) ({ cls := "TroubleMemory", name := "stored", desc := "(II)I" } : Jvm.MethodName)) ∈ px_TB := px_tb2 221 (by decide +kernel) rfl
theorem w_462 : (Jvm.Cond.code ({ cls := "TroubleMemory", name := "stored", desc := "(II)I" } : Jvm.MethodName) prog_1_method_11_code (4 : Nat) (Option.some Jvm.ClassFile.FieldType.int)) ∈ px_TB := px_tb2 222 rfl rfl
theorem w_463 : (Jvm.Cond.classLink "TroubleMemory" (111 : Nat) "TroubleMemory$Entry") ∈ px_TB := px_tb2 223 (by decide +kernel) rfl
theorem w_464 : (Jvm.Cond.methodLink "TroubleMemoryLaw" (66 : Nat) ({ cls := "TroubleMemory", name := "cut", desc := "()I" } : Jvm.MethodName)) ∈ px_TB := px_tb2 224 (by decide +kernel) rfl
theorem w_465 : (Jvm.Cond.instanceMethod ({ cls := "TroubleMemory", name := "cut", desc := "()I" } : Jvm.MethodName)) ∈ px_TB := px_tb2 225 (by decide +kernel) rfl
theorem w_466 : (Jvm.Cond.selects "TroubleMemory" ({ cls := "TroubleMemory", name := "cut", desc := "()I" } : Jvm.MethodName) ({ cls := "TroubleMemory", name := "cut", desc := "()I" } : Jvm.MethodName)) ∈ px_TB := px_tb2 226 (by decide +kernel) rfl
theorem w_467 : (Jvm.Cond.code ({ cls := "TroubleMemory", name := "cut", desc := "()I" } : Jvm.MethodName) prog_1_method_12_code (1 : Nat) (Option.some Jvm.ClassFile.FieldType.int)) ∈ px_TB := px_tb2 227 rfl rfl
theorem w_468 : (Jvm.Cond.methodLink "TroubleMemoryLaw" (71 : Nat) ({ cls := "TroubleMemory", name := "start", desc := "()I" } : Jvm.MethodName)) ∈ px_TB := px_tb2 228 (by decide +kernel) rfl
theorem w_469 : (Jvm.Cond.instanceMethod ({ cls := "TroubleMemory", name := "start", desc := "()I" } : Jvm.MethodName)) ∈ px_TB := px_tb2 229 (by decide +kernel) rfl
theorem w_470 : (Jvm.Cond.selects "TroubleMemory" ({ cls := "TroubleMemory", name := "start", desc := "()I" } : Jvm.MethodName) ({ cls := "TroubleMemory", name := "start", desc := "()I" } : Jvm.MethodName)) ∈ px_TB := px_tb2 230 (by decide +kernel) rfl
theorem w_471 : (Jvm.Cond.code ({ cls := "TroubleMemory", name := "start", desc := "()I" } : Jvm.MethodName) prog_1_method_13_code (3 : Nat) (Option.some Jvm.ClassFile.FieldType.int)) ∈ px_TB := px_tb2 231 rfl rfl
theorem w_472 : (Jvm.Cond.methodLink "TroubleMemoryLaw" (75 : Nat) ({ cls := "TroubleMemory", name := "displaced", desc := "(I)I" } : Jvm.MethodName)) ∈ px_TB := px_tb2 232 (by decide +kernel) rfl
theorem w_473 : (Jvm.Cond.instanceMethod ({ cls := "TroubleMemory", name := "displaced", desc := "(I)I" } : Jvm.MethodName)) ∈ px_TB := px_tb2 233 (by decide +kernel) rfl
theorem w_474 : (Jvm.Cond.selects "TroubleMemory" ({ cls := "TroubleMemory", name := "displaced", desc := "(I)I" } : Jvm.MethodName) ({ cls := "TroubleMemory", name := "displaced", desc := "(I)I" } : Jvm.MethodName)) ∈ px_TB := px_tb2 234 (by decide +kernel) rfl
theorem w_475 : (Jvm.Cond.code ({ cls := "TroubleMemory", name := "displaced", desc := "(I)I" } : Jvm.MethodName) prog_1_method_14_code (2 : Nat) (Option.some Jvm.ClassFile.FieldType.int)) ∈ px_TB := px_tb2 235 rfl rfl
theorem w_476 : (Jvm.Cond.methodLink "TroubleMemoryLaw" (79 : Nat) ({ cls := "TroubleMemory", name := "age", desc := "(I)I" } : Jvm.MethodName)) ∈ px_TB := px_tb2 236 (by decide +kernel) rfl
theorem w_477 : (Jvm.Cond.instanceMethod ({ cls := "TroubleMemory", name := "age", desc := "(I)I" } : Jvm.MethodName)) ∈ px_TB := px_tb2 237 (by decide +kernel) rfl
theorem w_478 : (Jvm.Cond.selects "TroubleMemory" ({ cls := "TroubleMemory", name := "age", desc := "(I)I" } : Jvm.MethodName) ({ cls := "TroubleMemory", name := "age", desc := "(I)I" } : Jvm.MethodName)) ∈ px_TB := px_tb2 238 (by decide +kernel) rfl
theorem w_479 : (Jvm.Cond.code ({ cls := "TroubleMemory", name := "age", desc := "(I)I" } : Jvm.MethodName) prog_1_method_15_code (3 : Nat) (Option.some Jvm.ClassFile.FieldType.int)) ∈ px_TB := px_tb2 239 rfl rfl
theorem w_480 : (Jvm.Cond.methodLink "TroubleMemoryLaw" (9 : Nat) ({ cls := "TroubleMemoryLaw", name := "cell", desc := "([II)I" } : Jvm.MethodName)) ∈ px_TB := px_tb3 0 (by decide +kernel) rfl
theorem w_481 : (Jvm.Cond.static ({ cls := "TroubleMemoryLaw", name := "cell", desc := "([II)I" } : Jvm.MethodName)) ∈ px_TB := px_tb3 1 (by decide +kernel) rfl
theorem w_482 : (Jvm.Cond.code ({ cls := "TroubleMemoryLaw", name := "cell", desc := "([II)I" } : Jvm.MethodName) method_2_code (2 : Nat) (Option.some Jvm.ClassFile.FieldType.int)) ∈ px_TB := px_tb3 2 rfl rfl
theorem w_483 : (Jvm.Cond.classLink "TroubleMemoryLaw" (18 : Nat) "TroubleMemoryModel") ∈ px_TB := px_tb3 3 (by decide +kernel) rfl
theorem w_484 : (Jvm.Cond.instantiable "TroubleMemoryModel" (26 : Nat)) ∈ px_TB := px_tb3 4 (by decide +kernel) rfl
theorem w_485 : (Jvm.Cond.methodLink "TroubleMemoryLaw" (20 : Nat) ({ cls := "TroubleMemoryModel", name := "<init>", desc := "(I)V" } : Jvm.MethodName)) ∈ px_TB := px_tb3 5 (by decide +kernel) rfl
theorem w_486 : (Jvm.Cond.instanceMethod ({ cls := "TroubleMemoryModel", name := "<init>", desc := "(I)V" } : Jvm.MethodName)) ∈ px_TB := px_tb3 6 (by decide +kernel) rfl
theorem w_487 : (Jvm.Cond.code ({ cls := "TroubleMemoryModel", name := "<init>", desc := "(I)V" } : Jvm.MethodName) prog_8_method_1_code (2 : Nat) (Option.none : Option Jvm.ClassFile.FieldType)) ∈ px_TB := px_tb3 7 rfl rfl
theorem w_488 : (Jvm.Cond.methodLink "TroubleMemoryModel" (1 : Nat) ({ cls := "java/lang/Object", name := "<init>", desc := "()V" } : Jvm.MethodName)) ∈ px_TB := px_tb3 8 (by decide +kernel) rfl
theorem w_489 : (Jvm.Cond.constant "TroubleMemoryModel" (65 : Nat) (65536 : Int32)) ∈ px_TB := px_tb3 9 (by decide +kernel) rfl
theorem w_490 : (Jvm.Cond.fieldLink "TroubleMemoryModel" (70 : Nat) "TroubleMemoryModel" "code" "I") ∈ px_TB := px_tb3 10 (by decide +kernel) rfl
theorem w_491 : (Jvm.Cond.fieldLink "TroubleMemoryModel" (66 : Nat) "TroubleMemoryModel" "room" "I") ∈ px_TB := px_tb3 11 (by decide +kernel) rfl
theorem w_492 : (Jvm.Cond.fieldLink "TroubleMemoryModel" (73 : Nat) "TroubleMemoryModel" "codes" "I") ∈ px_TB := px_tb3 12 (by decide +kernel) rfl
theorem w_493 : (Jvm.Cond.fieldLink "TroubleMemoryModel" (7 : Nat) "TroubleMemoryModel" "priority" "[I") ∈ px_TB := px_tb3 13 (by decide +kernel) rfl
theorem w_494 : (Jvm.Cond.fieldLink "TroubleMemoryModel" (13 : Nat) "TroubleMemoryModel" "up" "[I") ∈ px_TB := px_tb3 14 (by decide +kernel) rfl
theorem w_495 : (Jvm.Cond.fieldLink "TroubleMemoryModel" (16 : Nat) "TroubleMemoryModel" "down" "[I") ∈ px_TB := px_tb3 15 (by decide +kernel) rfl
theorem w_496 : (Jvm.Cond.fieldLink "TroubleMemoryModel" (19 : Nat) "TroubleMemoryModel" "parent" "[I") ∈ px_TB := px_tb3 16 (by decide +kernel) rfl
theorem w_497 : (Jvm.Cond.fieldLink "TroubleMemoryModel" (22 : Nat) "TroubleMemoryModel" "counter" "[I") ∈ px_TB := px_tb3 17 (by decide +kernel) rfl
theorem w_498 : (Jvm.Cond.fieldLink "TroubleMemoryModel" (25 : Nat) "TroubleMemoryModel" "bit" "[Z") ∈ px_TB := px_tb3 18 (by decide +kernel) rfl
theorem w_499 : (Jvm.Cond.fieldLink "TroubleMemoryModel" (29 : Nat) "TroubleMemoryModel" "trips" "[I") ∈ px_TB := px_tb3 19 (by decide +kernel) rfl
theorem w_500 : (Jvm.Cond.fieldLink "TroubleMemoryModel" (32 : Nat) "TroubleMemoryModel" "age" "[I") ∈ px_TB := px_tb3 20 (by decide +kernel) rfl
theorem w_501 : (Jvm.Cond.fieldLink "TroubleMemoryModel" (35 : Nat) "TroubleMemoryModel" "good" "[I") ∈ px_TB := px_tb3 21 (by decide +kernel) rfl
theorem w_502 : (Jvm.Cond.fieldLink "TroubleMemoryModel" (38 : Nat) "TroubleMemoryModel" "keptBit" "[Z") ∈ px_TB := px_tb3 22 (by decide +kernel) rfl
theorem w_503 : (Jvm.Cond.fieldLink "TroubleMemoryModel" (41 : Nat) "TroubleMemoryModel" "keptTrips" "[I") ∈ px_TB := px_tb3 23 (by decide +kernel) rfl
theorem w_504 : (Jvm.Cond.fieldLink "TroubleMemoryModel" (44 : Nat) "TroubleMemoryModel" "keptAge" "[I") ∈ px_TB := px_tb3 24 (by decide +kernel) rfl
theorem w_505 : (Jvm.Cond.fieldLink "TroubleMemoryModel" (47 : Nat) "TroubleMemoryModel" "keptGood" "[I") ∈ px_TB := px_tb3 25 (by decide +kernel) rfl
theorem w_506 : (Jvm.Cond.fieldLink "TroubleMemoryModel" (50 : Nat) "TroubleMemoryModel" "stored" "[I") ∈ px_TB := px_tb3 26 (by decide +kernel) rfl
theorem w_507 : (Jvm.Cond.fieldLink "TroubleMemoryModel" (53 : Nat) "TroubleMemoryModel" "happened" "[I") ∈ px_TB := px_tb3 27 (by decide +kernel) rfl
theorem w_508 : (Jvm.Cond.fieldLink "TroubleMemoryModel" (56 : Nat) "TroubleMemoryModel" "snapshot" "[I") ∈ px_TB := px_tb3 28 (by decide +kernel) rfl
theorem w_509 : (Jvm.Cond.fieldLink "TroubleMemoryModel" (119 : Nat) "TroubleMemoryModel" "last" "I") ∈ px_TB := px_tb3 29 (by decide +kernel) rfl
theorem w_510 : (Jvm.Cond.fieldLink "TroubleMemoryModel" (116 : Nat) "TroubleMemoryModel" "gone" "I") ∈ px_TB := px_tb3 30 (by decide +kernel) rfl
theorem w_511 : (Jvm.Cond.fieldLink "TroubleMemoryModel" (59 : Nat) "TroubleMemoryModel" "displaced" "[I") ∈ px_TB := px_tb3 31 (by decide +kernel) rfl
theorem w_512 : (Jvm.Cond.fieldLink "TroubleMemoryModel" (62 : Nat) "TroubleMemoryModel" "offCondition" "[Z") ∈ px_TB := px_tb3 32 (by decide +kernel) rfl
theorem w_513 : (Jvm.Cond.fieldLink "TroubleMemoryModel" (84 : Nat) "TroubleMemoryModel" "cut" "Z") ∈ px_TB := px_tb3 33 (by decide +kernel) rfl
theorem w_514 : (Jvm.Cond.fieldLink "TroubleMemoryModel" (95 : Nat) "TroubleMemoryModel" "cycles" "I") ∈ px_TB := px_tb3 34 (by decide +kernel) rfl
theorem w_515 : (Jvm.Cond.fieldLink "TroubleMemoryModel" (98 : Nat) "TroubleMemoryModel" "events" "I") ∈ px_TB := px_tb3 35 (by decide +kernel) rfl
theorem w_516 : (Jvm.Cond.lays "TroubleMemoryModel" "TroubleMemoryModel" "code" "I") ∈ px_TB := px_tb3 36 (by decide +kernel) rfl
theorem w_517 : (Jvm.Cond.soleField "TroubleMemoryModel" "code") ∈ px_TB := px_tb3 37 (by decide +kernel) rfl
theorem w_518 : (Jvm.Cond.laysFinal "TroubleMemoryModel" "TroubleMemoryModel" "room" "I") ∈ px_TB := px_tb3 38 (by decide +kernel) rfl
theorem w_519 : (Jvm.Cond.soleField "TroubleMemoryModel" "room") ∈ px_TB := px_tb3 39 (by decide +kernel) rfl
theorem w_520 : (Jvm.Cond.lays "TroubleMemoryModel" "TroubleMemoryModel" "codes" "I") ∈ px_TB := px_tb3 40 (by decide +kernel) rfl
theorem w_521 : (Jvm.Cond.soleField "TroubleMemoryModel" "codes") ∈ px_TB := px_tb3 41 (by decide +kernel) rfl
theorem w_522 : (Jvm.Cond.laysFinal "TroubleMemoryModel" "TroubleMemoryModel" "priority" "[I") ∈ px_TB := px_tb3 42 (by decide +kernel) rfl
theorem w_523 : (Jvm.Cond.soleField "TroubleMemoryModel" "priority") ∈ px_TB := px_tb3 43 (by decide +kernel) rfl
theorem w_524 : (Jvm.Cond.laysFinal "TroubleMemoryModel" "TroubleMemoryModel" "up" "[I") ∈ px_TB := px_tb3 44 (by decide +kernel) rfl
theorem w_525 : (Jvm.Cond.soleField "TroubleMemoryModel" "up") ∈ px_TB := px_tb3 45 (by decide +kernel) rfl
theorem w_526 : (Jvm.Cond.laysFinal "TroubleMemoryModel" "TroubleMemoryModel" "down" "[I") ∈ px_TB := px_tb3 46 (by decide +kernel) rfl
theorem w_527 : (Jvm.Cond.soleField "TroubleMemoryModel" "down") ∈ px_TB := px_tb3 47 (by decide +kernel) rfl
theorem w_528 : (Jvm.Cond.laysFinal "TroubleMemoryModel" "TroubleMemoryModel" "parent" "[I") ∈ px_TB := px_tb3 48 (by decide +kernel) rfl
theorem w_529 : (Jvm.Cond.soleField "TroubleMemoryModel" "parent") ∈ px_TB := px_tb3 49 (by decide +kernel) rfl
theorem w_530 : (Jvm.Cond.laysFinal "TroubleMemoryModel" "TroubleMemoryModel" "counter" "[I") ∈ px_TB := px_tb3 50 (by decide +kernel) rfl
theorem w_531 : (Jvm.Cond.soleField "TroubleMemoryModel" "counter") ∈ px_TB := px_tb3 51 (by decide +kernel) rfl
theorem w_532 : (Jvm.Cond.laysFinal "TroubleMemoryModel" "TroubleMemoryModel" "bit" "[Z") ∈ px_TB := px_tb3 52 (by decide +kernel) rfl
theorem w_533 : (Jvm.Cond.soleField "TroubleMemoryModel" "bit") ∈ px_TB := px_tb3 53 (by decide +kernel) rfl
theorem w_534 : (Jvm.Cond.laysFinal "TroubleMemoryModel" "TroubleMemoryModel" "trips" "[I") ∈ px_TB := px_tb3 54 (by decide +kernel) rfl
theorem w_535 : (Jvm.Cond.soleField "TroubleMemoryModel" "trips") ∈ px_TB := px_tb3 55 (by decide +kernel) rfl
theorem w_536 : (Jvm.Cond.laysFinal "TroubleMemoryModel" "TroubleMemoryModel" "age" "[I") ∈ px_TB := px_tb3 56 (by decide +kernel) rfl
theorem w_537 : (Jvm.Cond.soleField "TroubleMemoryModel" "age") ∈ px_TB := px_tb3 57 (by decide +kernel) rfl
theorem w_538 : (Jvm.Cond.laysFinal "TroubleMemoryModel" "TroubleMemoryModel" "good" "[I") ∈ px_TB := px_tb3 58 (by decide +kernel) rfl
theorem w_539 : (Jvm.Cond.soleField "TroubleMemoryModel" "good") ∈ px_TB := px_tb3 59 (by decide +kernel) rfl
theorem w_540 : (Jvm.Cond.laysFinal "TroubleMemoryModel" "TroubleMemoryModel" "keptBit" "[Z") ∈ px_TB := px_tb3 60 (by decide +kernel) rfl
theorem w_541 : (Jvm.Cond.soleField "TroubleMemoryModel" "keptBit") ∈ px_TB := px_tb3 61 (by decide +kernel) rfl
theorem w_542 : (Jvm.Cond.laysFinal "TroubleMemoryModel" "TroubleMemoryModel" "keptTrips" "[I") ∈ px_TB := px_tb3 62 (by decide +kernel) rfl
theorem w_543 : (Jvm.Cond.soleField "TroubleMemoryModel" "keptTrips") ∈ px_TB := px_tb3 63 (by decide +kernel) rfl
theorem w_544 : (Jvm.Cond.laysFinal "TroubleMemoryModel" "TroubleMemoryModel" "keptAge" "[I") ∈ px_TB := px_tb3 64 (by decide +kernel) rfl
theorem w_545 : (Jvm.Cond.soleField "TroubleMemoryModel" "keptAge") ∈ px_TB := px_tb3 65 (by decide +kernel) rfl
theorem w_546 : (Jvm.Cond.laysFinal "TroubleMemoryModel" "TroubleMemoryModel" "keptGood" "[I") ∈ px_TB := px_tb3 66 (by decide +kernel) rfl
theorem w_547 : (Jvm.Cond.soleField "TroubleMemoryModel" "keptGood") ∈ px_TB := px_tb3 67 (by decide +kernel) rfl
theorem w_548 : (Jvm.Cond.laysFinal "TroubleMemoryModel" "TroubleMemoryModel" "stored" "[I") ∈ px_TB := px_tb3 68 (by decide +kernel) rfl
theorem w_549 : (Jvm.Cond.soleField "TroubleMemoryModel" "stored") ∈ px_TB := px_tb3 69 (by decide +kernel) rfl
theorem w_550 : (Jvm.Cond.laysFinal "TroubleMemoryModel" "TroubleMemoryModel" "happened" "[I") ∈ px_TB := px_tb3 70 (by decide +kernel) rfl
theorem w_551 : (Jvm.Cond.soleField "TroubleMemoryModel" "happened") ∈ px_TB := px_tb3 71 (by decide +kernel) rfl
theorem w_552 : (Jvm.Cond.laysFinal "TroubleMemoryModel" "TroubleMemoryModel" "snapshot" "[I") ∈ px_TB := px_tb3 72 (by decide +kernel) rfl
theorem w_553 : (Jvm.Cond.soleField "TroubleMemoryModel" "snapshot") ∈ px_TB := px_tb3 73 (by decide +kernel) rfl
theorem w_554 : (Jvm.Cond.lays "TroubleMemoryModel" "TroubleMemoryModel" "last" "I") ∈ px_TB := px_tb3 74 (by decide +kernel) rfl
theorem w_555 : (Jvm.Cond.soleField "TroubleMemoryModel" "last") ∈ px_TB := px_tb3 75 (by decide +kernel) rfl
theorem w_556 : (Jvm.Cond.lays "TroubleMemoryModel" "TroubleMemoryModel" "gone" "I") ∈ px_TB := px_tb3 76 (by decide +kernel) rfl
theorem w_557 : (Jvm.Cond.soleField "TroubleMemoryModel" "gone") ∈ px_TB := px_tb3 77 (by decide +kernel) rfl
theorem w_558 : (Jvm.Cond.laysFinal "TroubleMemoryModel" "TroubleMemoryModel" "displaced" "[I") ∈ px_TB := px_tb3 78 (by decide +kernel) rfl
theorem w_559 : (Jvm.Cond.soleField "TroubleMemoryModel" "displaced") ∈ px_TB := px_tb3 79 (by decide +kernel) rfl
theorem w_560 : (Jvm.Cond.laysFinal "TroubleMemoryModel" "TroubleMemoryModel" "offCondition" "[Z") ∈ px_TB := px_tb3 80 (by decide +kernel) rfl
theorem w_561 : (Jvm.Cond.soleField "TroubleMemoryModel" "offCondition") ∈ px_TB := px_tb3 81 (by decide +kernel) rfl
theorem w_562 : (Jvm.Cond.lays "TroubleMemoryModel" "TroubleMemoryModel" "cut" "Z") ∈ px_TB := px_tb3 82 (by decide +kernel) rfl
theorem w_563 : (Jvm.Cond.soleField "TroubleMemoryModel" "cut") ∈ px_TB := px_tb3 83 (by decide +kernel) rfl
theorem w_564 : (Jvm.Cond.lays "TroubleMemoryModel" "TroubleMemoryModel" "cycles" "I") ∈ px_TB := px_tb3 84 (by decide +kernel) rfl
theorem w_565 : (Jvm.Cond.soleField "TroubleMemoryModel" "cycles") ∈ px_TB := px_tb3 85 (by decide +kernel) rfl
theorem w_566 : (Jvm.Cond.lays "TroubleMemoryModel" "TroubleMemoryModel" "events" "I") ∈ px_TB := px_tb3 86 (by decide +kernel) rfl
theorem w_567 : (Jvm.Cond.soleField "TroubleMemoryModel" "events") ∈ px_TB := px_tb3 87 (by decide +kernel) rfl
theorem w_568 : (Jvm.Cond.superclass "TroubleMemoryModel" "java/lang/Object") ∈ px_TB := px_tb3 88 (by decide +kernel) rfl
theorem w_569 : (Jvm.Cond.arrayClass Jvm.ClassFile.FieldType.int) ∈ px_TB := px_tb3 89 (by decide +kernel) rfl
theorem w_570 : (Jvm.Cond.arrayClass Jvm.ClassFile.FieldType.boolean) ∈ px_TB := px_tb3 90 (by decide +kernel) rfl
theorem w_571 : (Jvm.Cond.methodLink "TroubleMemoryLaw" (25 : Nat) ({ cls := "TroubleMemoryModel", name := "code", desc := "(III)I" } : Jvm.MethodName)) ∈ px_TB := px_tb3 91 (by decide +kernel) rfl
theorem w_572 : (Jvm.Cond.instanceMethod ({ cls := "TroubleMemoryModel", name := "code", desc := "(III)I" } : Jvm.MethodName)) ∈ px_TB := px_tb3 92 (by decide +kernel) rfl
theorem w_573 : (Jvm.Cond.selects "TroubleMemoryModel" ({ cls := "TroubleMemoryModel", name := "code", desc := "(III)I" } : Jvm.MethodName) ({ cls := "TroubleMemoryModel", name := "code", desc := "(III)I" } : Jvm.MethodName)) ∈ px_TB := px_tb3 93 (by decide +kernel) rfl
theorem w_574 : (Jvm.Cond.code ({ cls := "TroubleMemoryModel", name := "code", desc := "(III)I" } : Jvm.MethodName) prog_8_method_9_code (4 : Nat) (Option.some Jvm.ClassFile.FieldType.int)) ∈ px_TB := px_tb3 94 rfl rfl
theorem w_575 : (Jvm.Cond.methodLink "TroubleMemoryModel" (88 : Nat) ({ cls := "TroubleMemoryModel", name := "freshen", desc := "(I)V" } : Jvm.MethodName)) ∈ px_TB := px_tb3 95 (by decide +kernel) rfl
theorem w_577 : (Jvm.Cond.instanceMethod ({ cls := "TroubleMemoryModel", name := "freshen", desc := "(I)V" } : Jvm.MethodName)) ∈ px_TB := px_tb3 97 (by decide +kernel) rfl
theorem w_578 : (Jvm.Cond.code ({ cls := "TroubleMemoryModel", name := "freshen", desc := "(I)V" } : Jvm.MethodName) prog_8_method_7_code (3 : Nat) (Option.none : Option Jvm.ClassFile.FieldType)) ∈ px_TB := px_tb3 98 rfl rfl
theorem w_579 : (Jvm.Cond.methodLink "TroubleMemoryModel" (80 : Nat) ({ cls := "TroubleMemoryModel", name := "set", desc := "(IIZ)V" } : Jvm.MethodName)) ∈ px_TB := px_tb3 99 (by decide +kernel) rfl
theorem w_581 : (Jvm.Cond.instanceMethod ({ cls := "TroubleMemoryModel", name := "set", desc := "(IIZ)V" } : Jvm.MethodName)) ∈ px_TB := px_tb3 101 (by decide +kernel) rfl
theorem w_582 : (Jvm.Cond.code ({ cls := "TroubleMemoryModel", name := "set", desc := "(IIZ)V" } : Jvm.MethodName) prog_8_method_5_code (4 : Nat) (Option.none : Option Jvm.ClassFile.FieldType)) ∈ px_TB := px_tb3 102 rfl rfl
theorem w_583 : (Jvm.Cond.methodLink "TroubleMemoryModel" (92 : Nat) ({ cls := "TroubleMemoryModel", name := "keep", desc := "(I)V" } : Jvm.MethodName)) ∈ px_TB := px_tb3 103 (by decide +kernel) rfl
theorem w_585 : (Jvm.Cond.instanceMethod ({ cls := "TroubleMemoryModel", name := "keep", desc := "(I)V" } : Jvm.MethodName)) ∈ px_TB := px_tb3 105 (by decide +kernel) rfl
theorem w_586 : (Jvm.Cond.code ({ cls := "TroubleMemoryModel", name := "keep", desc := "(I)V" } : Jvm.MethodName) prog_8_method_8_code (3 : Nat) (Option.none : Option Jvm.ClassFile.FieldType)) ∈ px_TB := px_tb3 106 rfl rfl
theorem w_587 : (Jvm.Cond.methodLink "TroubleMemoryModel" (76 : Nat) ({ cls := "TroubleMemoryModel", name := "is", desc := "(II)Z" } : Jvm.MethodName)) ∈ px_TB := px_tb3 107 (by decide +kernel) rfl
theorem w_589 : (Jvm.Cond.instanceMethod ({ cls := "TroubleMemoryModel", name := "is", desc := "(II)Z" } : Jvm.MethodName)) ∈ px_TB := px_tb3 109 (by decide +kernel) rfl
theorem w_590 : (Jvm.Cond.code ({ cls := "TroubleMemoryModel", name := "is", desc := "(II)Z" } : Jvm.MethodName) prog_8_method_4_code (3 : Nat) (Option.some Jvm.ClassFile.FieldType.boolean)) ∈ px_TB := px_tb3 110 rfl rfl
theorem w_591 : (Jvm.Cond.methodLink "TroubleMemoryLaw" (30 : Nat) ({ cls := "TroubleMemoryModel", name := "event", desc := "(IZ)I" } : Jvm.MethodName)) ∈ px_TB := px_tb3 111 (by decide +kernel) rfl
theorem w_592 : (Jvm.Cond.instanceMethod ({ cls := "TroubleMemoryModel", name := "event", desc := "(IZ)I" } : Jvm.MethodName)) ∈ px_TB := px_tb3 112 (by decide +kernel) rfl
theorem w_593 : (Jvm.Cond.selects "TroubleMemoryModel" ({ cls := "TroubleMemoryModel", name := "event", desc := "(IZ)I" } : Jvm.MethodName) ({ cls := "TroubleMemoryModel", name := "event", desc := "(IZ)I" } : Jvm.MethodName)) ∈ px_TB := px_tb3 113 (by decide +kernel) rfl
theorem w_594 : (Jvm.Cond.code ({ cls := "TroubleMemoryModel", name := "event", desc := "(IZ)I" } : Jvm.MethodName) prog_8_method_17_code (3 : Nat) (Option.some Jvm.ClassFile.FieldType.int)) ∈ px_TB := px_tb3 114 rfl rfl
theorem w_595 : (Jvm.Cond.methodLink "TroubleMemoryModel" (129 : Nat) ({ cls := "TroubleMemoryModel", name := "none", desc := "(I)Z" } : Jvm.MethodName)) ∈ px_TB := px_tb3 115 (by decide +kernel) rfl
theorem w_597 : (Jvm.Cond.instanceMethod ({ cls := "TroubleMemoryModel", name := "none", desc := "(I)Z" } : Jvm.MethodName)) ∈ px_TB := px_tb3 117 (by decide +kernel) rfl
theorem w_598 : (Jvm.Cond.code ({ cls := "TroubleMemoryModel", name := "none", desc := "(I)Z" } : Jvm.MethodName) prog_8_method_3_code (2 : Nat) (Option.some Jvm.ClassFile.FieldType.boolean)) ∈ px_TB := px_tb3 118 rfl rfl
theorem w_599 : (Jvm.Cond.methodLink "TroubleMemoryModel" (132 : Nat) ({ cls := "TroubleMemoryModel", name := "statusOf", desc := "(I)I" } : Jvm.MethodName)) ∈ px_TB := px_tb3 119 (by decide +kernel) rfl
theorem w_601 : (Jvm.Cond.instanceMethod ({ cls := "TroubleMemoryModel", name := "statusOf", desc := "(I)I" } : Jvm.MethodName)) ∈ px_TB := px_tb3 121 (by decide +kernel) rfl
theorem w_602 : (Jvm.Cond.code ({ cls := "TroubleMemoryModel", name := "statusOf", desc := "(I)I" } : Jvm.MethodName) prog_8_method_6_code (4 : Nat) (Option.some Jvm.ClassFile.FieldType.int)) ∈ px_TB := px_tb3 122 rfl rfl
theorem w_603 : (Jvm.Cond.methodLink "TroubleMemoryModel" (135 : Nat) ({ cls := "TroubleMemoryModel", name := "fails", desc := "(I)V" } : Jvm.MethodName)) ∈ px_TB := px_tb3 123 (by decide +kernel) rfl
theorem w_605 : (Jvm.Cond.instanceMethod ({ cls := "TroubleMemoryModel", name := "fails", desc := "(I)V" } : Jvm.MethodName)) ∈ px_TB := px_tb3 125 (by decide +kernel) rfl
theorem w_606 : (Jvm.Cond.code ({ cls := "TroubleMemoryModel", name := "fails", desc := "(I)V" } : Jvm.MethodName) prog_8_method_16_code (3 : Nat) (Option.none : Option Jvm.ClassFile.FieldType)) ∈ px_TB := px_tb3 126 rfl rfl
theorem w_607 : (Jvm.Cond.methodLink "TroubleMemoryModel" (122 : Nat) ({ cls := "TroubleMemoryModel", name := "hidden", desc := "(I)Z" } : Jvm.MethodName)) ∈ px_TB := px_tb3 127 (by decide +kernel) rfl
theorem w_609 : (Jvm.Cond.instanceMethod ({ cls := "TroubleMemoryModel", name := "hidden", desc := "(I)Z" } : Jvm.MethodName)) ∈ px_TB := px_tb3 129 (by decide +kernel) rfl
theorem w_610 : (Jvm.Cond.code ({ cls := "TroubleMemoryModel", name := "hidden", desc := "(I)Z" } : Jvm.MethodName) prog_8_method_15_code (3 : Nat) (Option.some Jvm.ClassFile.FieldType.boolean)) ∈ px_TB := px_tb3 130 rfl rfl
theorem w_611 : (Jvm.Cond.methodLink "TroubleMemoryModel" (126 : Nat) ({ cls := "TroubleMemoryModel", name := "store", desc := "(I)V" } : Jvm.MethodName)) ∈ px_TB := px_tb3 131 (by decide +kernel) rfl
theorem w_613 : (Jvm.Cond.instanceMethod ({ cls := "TroubleMemoryModel", name := "store", desc := "(I)V" } : Jvm.MethodName)) ∈ px_TB := px_tb3 133 (by decide +kernel) rfl
theorem w_614 : (Jvm.Cond.code ({ cls := "TroubleMemoryModel", name := "store", desc := "(I)V" } : Jvm.MethodName) prog_8_method_14_code (3 : Nat) (Option.none : Option Jvm.ClassFile.FieldType)) ∈ px_TB := px_tb3 134 rfl rfl
theorem w_615 : (Jvm.Cond.methodLink "TroubleMemoryModel" (105 : Nat) ({ cls := "TroubleMemoryModel", name := "shoot", desc := "(II)V" } : Jvm.MethodName)) ∈ px_TB := px_tb3 135 (by decide +kernel) rfl
theorem w_617 : (Jvm.Cond.instanceMethod ({ cls := "TroubleMemoryModel", name := "shoot", desc := "(II)V" } : Jvm.MethodName)) ∈ px_TB := px_tb3 137 (by decide +kernel) rfl
theorem w_618 : (Jvm.Cond.code ({ cls := "TroubleMemoryModel", name := "shoot", desc := "(II)V" } : Jvm.MethodName) prog_8_method_13_code (4 : Nat) (Option.none : Option Jvm.ClassFile.FieldType)) ∈ px_TB := px_tb3 138 rfl rfl
theorem w_619 : (Jvm.Cond.methodLink "TroubleMemoryModel" (101 : Nat) ({ cls := "TroubleMemoryModel", name := "many", desc := "(I)I" } : Jvm.MethodName)) ∈ px_TB := px_tb3 139 (by decide +kernel) rfl
theorem w_621 : (Jvm.Cond.instanceMethod ({ cls := "TroubleMemoryModel", name := "many", desc := "(I)I" } : Jvm.MethodName)) ∈ px_TB := px_tb3 141 (by decide +kernel) rfl
theorem w_622 : (Jvm.Cond.code ({ cls := "TroubleMemoryModel", name := "many", desc := "(I)I" } : Jvm.MethodName) prog_8_method_10_code (4 : Nat) (Option.some Jvm.ClassFile.FieldType.int)) ∈ px_TB := px_tb3 142 rfl rfl
theorem w_623 : (Jvm.Cond.methodLink "TroubleMemoryModel" (109 : Nat) ({ cls := "TroubleMemoryModel", name := "entries", desc := "()I" } : Jvm.MethodName)) ∈ px_TB := px_tb3 143 (by decide +kernel) rfl
theorem w_625 : (Jvm.Cond.instanceMethod ({ cls := "TroubleMemoryModel", name := "entries", desc := "()I" } : Jvm.MethodName)) ∈ px_TB := px_tb3 145 (by decide +kernel) rfl
theorem w_626 : (Jvm.Cond.code ({ cls := "TroubleMemoryModel", name := "entries", desc := "()I" } : Jvm.MethodName) prog_8_method_11_code (3 : Nat) (Option.some Jvm.ClassFile.FieldType.int)) ∈ px_TB := px_tb3 146 rfl rfl
theorem w_627 : (Jvm.Cond.methodLink "TroubleMemoryModel" (113 : Nat) ({ cls := "TroubleMemoryModel", name := "goes", desc := "(I)I" } : Jvm.MethodName)) ∈ px_TB := px_tb3 147 (by decide +kernel) rfl
theorem w_629 : (Jvm.Cond.instanceMethod ({ cls := "TroubleMemoryModel", name := "goes", desc := "(I)I" } : Jvm.MethodName)) ∈ px_TB := px_tb3 149 (by decide +kernel) rfl
theorem w_630 : (Jvm.Cond.code ({ cls := "TroubleMemoryModel", name := "goes", desc := "(I)I" } : Jvm.MethodName) prog_8_method_12_code (7 : Nat) (Option.some Jvm.ClassFile.FieldType.int)) ∈ px_TB := px_tb3 150 rfl rfl
theorem w_631 : (Jvm.Cond.methodLink "TroubleMemoryLaw" (35 : Nat) ({ cls := "TroubleMemoryModel", name := "cycle", desc := "(Z)I" } : Jvm.MethodName)) ∈ px_TB := px_tb3 151 (by decide +kernel) rfl
theorem w_632 : (Jvm.Cond.instanceMethod ({ cls := "TroubleMemoryModel", name := "cycle", desc := "(Z)I" } : Jvm.MethodName)) ∈ px_TB := px_tb3 152 (by decide +kernel) rfl
theorem w_633 : (Jvm.Cond.selects "TroubleMemoryModel" ({ cls := "TroubleMemoryModel", name := "cycle", desc := "(Z)I" } : Jvm.MethodName) ({ cls := "TroubleMemoryModel", name := "cycle", desc := "(Z)I" } : Jvm.MethodName)) ∈ px_TB := px_tb3 153 (by decide +kernel) rfl
theorem w_634 : (Jvm.Cond.code ({ cls := "TroubleMemoryModel", name := "cycle", desc := "(Z)I" } : Jvm.MethodName) prog_8_method_18_code (3 : Nat) (Option.some Jvm.ClassFile.FieldType.int)) ∈ px_TB := px_tb3 154 rfl rfl
theorem w_635 : (Jvm.Cond.methodLink "TroubleMemoryLaw" (40 : Nat) ({ cls := "TroubleMemoryModel", name := "status", desc := "(I)I" } : Jvm.MethodName)) ∈ px_TB := px_tb3 155 (by decide +kernel) rfl
theorem w_636 : (Jvm.Cond.instanceMethod ({ cls := "TroubleMemoryModel", name := "status", desc := "(I)I" } : Jvm.MethodName)) ∈ px_TB := px_tb3 156 (by decide +kernel) rfl
theorem w_637 : (Jvm.Cond.selects "TroubleMemoryModel" ({ cls := "TroubleMemoryModel", name := "status", desc := "(I)I" } : Jvm.MethodName) ({ cls := "TroubleMemoryModel", name := "status", desc := "(I)I" } : Jvm.MethodName)) ∈ px_TB := px_tb3 157 (by decide +kernel) rfl
theorem w_638 : (Jvm.Cond.code ({ cls := "TroubleMemoryModel", name := "status", desc := "(I)I" } : Jvm.MethodName) prog_8_method_19_code (2 : Nat) (Option.some Jvm.ClassFile.FieldType.int)) ∈ px_TB := px_tb3 158 rfl rfl
theorem w_639 : (Jvm.Cond.methodLink "TroubleMemoryLaw" (44 : Nat) ({ cls := "TroubleMemoryModel", name := "snapshot", desc := "(III)I" } : Jvm.MethodName)) ∈ px_TB := px_tb3 159 (by decide +kernel) rfl
theorem w_640 : (Jvm.Cond.instanceMethod ({ cls := "TroubleMemoryModel", name := "snapshot", desc := "(III)I" } : Jvm.MethodName)) ∈ px_TB := px_tb3 160 (by decide +kernel) rfl
theorem w_641 : (Jvm.Cond.selects "TroubleMemoryModel" ({ cls := "TroubleMemoryModel", name := "snapshot", desc := "(III)I" } : Jvm.MethodName) ({ cls := "TroubleMemoryModel", name := "snapshot", desc := "(III)I" } : Jvm.MethodName)) ∈ px_TB := px_tb3 161 (by decide +kernel) rfl
theorem w_642 : (Jvm.Cond.code ({ cls := "TroubleMemoryModel", name := "snapshot", desc := "(III)I" } : Jvm.MethodName) prog_8_method_20_code (4 : Nat) (Option.some Jvm.ClassFile.FieldType.int)) ∈ px_TB := px_tb3 162 rfl rfl
theorem w_643 : (Jvm.Cond.methodLink "TroubleMemoryLaw" (48 : Nat) ({ cls := "TroubleMemoryModel", name := "clear", desc := "(I)I" } : Jvm.MethodName)) ∈ px_TB := px_tb3 163 (by decide +kernel) rfl
theorem w_644 : (Jvm.Cond.instanceMethod ({ cls := "TroubleMemoryModel", name := "clear", desc := "(I)I" } : Jvm.MethodName)) ∈ px_TB := px_tb3 164 (by decide +kernel) rfl
theorem w_645 : (Jvm.Cond.selects "TroubleMemoryModel" ({ cls := "TroubleMemoryModel", name := "clear", desc := "(I)I" } : Jvm.MethodName) ({ cls := "TroubleMemoryModel", name := "clear", desc := "(I)I" } : Jvm.MethodName)) ∈ px_TB := px_tb3 165 (by decide +kernel) rfl
theorem w_646 : (Jvm.Cond.code ({ cls := "TroubleMemoryModel", name := "clear", desc := "(I)I" } : Jvm.MethodName) prog_8_method_21_code (4 : Nat) (Option.some Jvm.ClassFile.FieldType.int)) ∈ px_TB := px_tb3 166 rfl rfl
theorem w_647 : (Jvm.Cond.methodLink "TroubleMemoryLaw" (53 : Nat) ({ cls := "TroubleMemoryModel", name := "parent", desc := "(II)I" } : Jvm.MethodName)) ∈ px_TB := px_tb3 167 (by decide +kernel) rfl
theorem w_648 : (Jvm.Cond.instanceMethod ({ cls := "TroubleMemoryModel", name := "parent", desc := "(II)I" } : Jvm.MethodName)) ∈ px_TB := px_tb3 168 (by decide +kernel) rfl
theorem w_649 : (Jvm.Cond.selects "TroubleMemoryModel" ({ cls := "TroubleMemoryModel", name := "parent", desc := "(II)I" } : Jvm.MethodName) ({ cls := "TroubleMemoryModel", name := "parent", desc := "(II)I" } : Jvm.MethodName)) ∈ px_TB := px_tb3 169 (by decide +kernel) rfl
theorem w_650 : (Jvm.Cond.code ({ cls := "TroubleMemoryModel", name := "parent", desc := "(II)I" } : Jvm.MethodName) prog_8_method_22_code (5 : Nat) (Option.some Jvm.ClassFile.FieldType.int)) ∈ px_TB := px_tb3 170 rfl rfl
theorem w_651 : (Jvm.Cond.methodLink "TroubleMemoryLaw" (57 : Nat) ({ cls := "TroubleMemoryModel", name := "enable", desc := "(IZ)I" } : Jvm.MethodName)) ∈ px_TB := px_tb3 171 (by decide +kernel) rfl
theorem w_652 : (Jvm.Cond.instanceMethod ({ cls := "TroubleMemoryModel", name := "enable", desc := "(IZ)I" } : Jvm.MethodName)) ∈ px_TB := px_tb3 172 (by decide +kernel) rfl
theorem w_653 : (Jvm.Cond.selects "TroubleMemoryModel" ({ cls := "TroubleMemoryModel", name := "enable", desc := "(IZ)I" } : Jvm.MethodName) ({ cls := "TroubleMemoryModel", name := "enable", desc := "(IZ)I" } : Jvm.MethodName)) ∈ px_TB := px_tb3 173 (by decide +kernel) rfl
theorem w_654 : (Jvm.Cond.code ({ cls := "TroubleMemoryModel", name := "enable", desc := "(IZ)I" } : Jvm.MethodName) prog_8_method_23_code (5 : Nat) (Option.some Jvm.ClassFile.FieldType.int)) ∈ px_TB := px_tb3 174 rfl rfl
theorem w_655 : (Jvm.Cond.methodLink "TroubleMemoryLaw" (61 : Nat) ({ cls := "TroubleMemoryModel", name := "lamp", desc := "(I)I" } : Jvm.MethodName)) ∈ px_TB := px_tb3 175 (by decide +kernel) rfl
theorem w_656 : (Jvm.Cond.instanceMethod ({ cls := "TroubleMemoryModel", name := "lamp", desc := "(I)I" } : Jvm.MethodName)) ∈ px_TB := px_tb3 176 (by decide +kernel) rfl
theorem w_657 : (Jvm.Cond.selects "TroubleMemoryModel" ({ cls := "TroubleMemoryModel", name := "lamp", desc := "(I)I" } : Jvm.MethodName) ({ cls := "TroubleMemoryModel", name := "lamp", desc := "(I)I" } : Jvm.MethodName)) ∈ px_TB := px_tb3 177 (by decide +kernel) rfl
theorem w_658 : (Jvm.Cond.code ({ cls := "TroubleMemoryModel", name := "lamp", desc := "(I)I" } : Jvm.MethodName) prog_8_method_24_code (2 : Nat) (Option.some Jvm.ClassFile.FieldType.int)) ∈ px_TB := px_tb3 178 rfl rfl
theorem w_659 : (Jvm.Cond.methodLink "TroubleMemoryLaw" (65 : Nat) ({ cls := "TroubleMemoryModel", name := "stored", desc := "(II)I" } : Jvm.MethodName)) ∈ px_TB := px_tb3 179 (by decide +kernel) rfl
theorem w_660 : (Jvm.Cond.instanceMethod ({ cls := "TroubleMemoryModel", name := "stored", desc := "(II)I" } : Jvm.MethodName)) ∈ px_TB := px_tb3 180 (by decide +kernel) rfl
theorem w_661 : (Jvm.Cond.selects "TroubleMemoryModel" ({ cls := "TroubleMemoryModel", name := "stored", desc := "(II)I" } : Jvm.MethodName) ({ cls := "TroubleMemoryModel", name := "stored", desc := "(II)I" } : Jvm.MethodName)) ∈ px_TB := px_tb3 181 (by decide +kernel) rfl
theorem w_662 : (Jvm.Cond.code ({ cls := "TroubleMemoryModel", name := "stored", desc := "(II)I" } : Jvm.MethodName) prog_8_method_25_code (6 : Nat) (Option.some Jvm.ClassFile.FieldType.int)) ∈ px_TB := px_tb3 182 rfl rfl
theorem w_663 : (Jvm.Cond.methodLink "TroubleMemoryLaw" (70 : Nat) ({ cls := "TroubleMemoryModel", name := "cut", desc := "()I" } : Jvm.MethodName)) ∈ px_TB := px_tb3 183 (by decide +kernel) rfl
theorem w_664 : (Jvm.Cond.instanceMethod ({ cls := "TroubleMemoryModel", name := "cut", desc := "()I" } : Jvm.MethodName)) ∈ px_TB := px_tb3 184 (by decide +kernel) rfl
theorem w_665 : (Jvm.Cond.selects "TroubleMemoryModel" ({ cls := "TroubleMemoryModel", name := "cut", desc := "()I" } : Jvm.MethodName) ({ cls := "TroubleMemoryModel", name := "cut", desc := "()I" } : Jvm.MethodName)) ∈ px_TB := px_tb3 185 (by decide +kernel) rfl
theorem w_666 : (Jvm.Cond.code ({ cls := "TroubleMemoryModel", name := "cut", desc := "()I" } : Jvm.MethodName) prog_8_method_26_code (1 : Nat) (Option.some Jvm.ClassFile.FieldType.int)) ∈ px_TB := px_tb3 186 rfl rfl
theorem w_667 : (Jvm.Cond.methodLink "TroubleMemoryLaw" (74 : Nat) ({ cls := "TroubleMemoryModel", name := "start", desc := "()I" } : Jvm.MethodName)) ∈ px_TB := px_tb3 187 (by decide +kernel) rfl
theorem w_668 : (Jvm.Cond.instanceMethod ({ cls := "TroubleMemoryModel", name := "start", desc := "()I" } : Jvm.MethodName)) ∈ px_TB := px_tb3 188 (by decide +kernel) rfl
theorem w_669 : (Jvm.Cond.selects "TroubleMemoryModel" ({ cls := "TroubleMemoryModel", name := "start", desc := "()I" } : Jvm.MethodName) ({ cls := "TroubleMemoryModel", name := "start", desc := "()I" } : Jvm.MethodName)) ∈ px_TB := px_tb3 189 (by decide +kernel) rfl
theorem w_670 : (Jvm.Cond.code ({ cls := "TroubleMemoryModel", name := "start", desc := "()I" } : Jvm.MethodName) prog_8_method_27_code (3 : Nat) (Option.some Jvm.ClassFile.FieldType.int)) ∈ px_TB := px_tb3 190 rfl rfl
theorem w_671 : (Jvm.Cond.methodLink "TroubleMemoryLaw" (78 : Nat) ({ cls := "TroubleMemoryModel", name := "displaced", desc := "(I)I" } : Jvm.MethodName)) ∈ px_TB := px_tb3 191 (by decide +kernel) rfl
theorem w_672 : (Jvm.Cond.instanceMethod ({ cls := "TroubleMemoryModel", name := "displaced", desc := "(I)I" } : Jvm.MethodName)) ∈ px_TB := px_tb3 192 (by decide +kernel) rfl
theorem w_673 : (Jvm.Cond.selects "TroubleMemoryModel" ({ cls := "TroubleMemoryModel", name := "displaced", desc := "(I)I" } : Jvm.MethodName) ({ cls := "TroubleMemoryModel", name := "displaced", desc := "(I)I" } : Jvm.MethodName)) ∈ px_TB := px_tb3 193 (by decide +kernel) rfl
theorem w_674 : (Jvm.Cond.code ({ cls := "TroubleMemoryModel", name := "displaced", desc := "(I)I" } : Jvm.MethodName) prog_8_method_28_code (2 : Nat) (Option.some Jvm.ClassFile.FieldType.int)) ∈ px_TB := px_tb3 194 rfl rfl
theorem w_675 : (Jvm.Cond.methodLink "TroubleMemoryLaw" (82 : Nat) ({ cls := "TroubleMemoryModel", name := "age", desc := "(I)I" } : Jvm.MethodName)) ∈ px_TB := px_tb3 195 (by decide +kernel) rfl
theorem w_676 : (Jvm.Cond.instanceMethod ({ cls := "TroubleMemoryModel", name := "age", desc := "(I)I" } : Jvm.MethodName)) ∈ px_TB := px_tb3 196 (by decide +kernel) rfl
theorem w_677 : (Jvm.Cond.selects "TroubleMemoryModel" ({ cls := "TroubleMemoryModel", name := "age", desc := "(I)I" } : Jvm.MethodName) ({ cls := "TroubleMemoryModel", name := "age", desc := "(I)I" } : Jvm.MethodName)) ∈ px_TB := px_tb3 197 (by decide +kernel) rfl
theorem w_678 : (Jvm.Cond.code ({ cls := "TroubleMemoryModel", name := "age", desc := "(I)I" } : Jvm.MethodName) prog_8_method_29_code (2 : Nat) (Option.some Jvm.ClassFile.FieldType.int)) ∈ px_TB := px_tb3 198 rfl rfl
theorem w_679 : (Jvm.Cond.castable "TroubleMemory$Code" "TroubleMemory$Code") ∈ px_NW := px_nw 1 (by decide +kernel)
theorem w_680 : (Jvm.Cond.castable "TroubleMemory$Entry" "TroubleMemory$Entry") ∈ px_NW := px_nw 2 (by decide +kernel)
theorem w_681 : (Jvm.Cond.sameMethod "[Ljava/lang/Object;" "java/lang/Object" "getClass" "()Ljava/lang/Class;") ∈ px_TB := px_tb3 201 (by decide +kernel) rfl
theorem w_682 : (Jvm.Cond.selects "[Ljava/lang/Object;" ({ cls := "java/lang/Object", name := "getClass", desc := "()Ljava/lang/Class;" } : Jvm.MethodName) ({ cls := "java/lang/Object", name := "getClass", desc := "()Ljava/lang/Class;" } : Jvm.MethodName)) ∈ px_TB := px_tb3 202 (by decide +kernel) rfl
theorem w_683 : (Jvm.Cond.declares ({ cls := "java/lang/Object", name := "getClass", desc := "()Ljava/lang/Class;" } : Jvm.MethodName)) ∈ px_NW := px_nw 3 (by decide +kernel)
theorem w_684 : (Jvm.Cond.castable "TroubleMemory" "java/lang/Object") ∈ px_NW := px_nw 4 (by decide +kernel)
theorem w_685 : (Jvm.Cond.castable "TroubleMemory$Memory" "java/lang/Object") ∈ px_NW := px_nw 5 (by decide +kernel)
theorem w_686 : (Jvm.Cond.castable "TroubleMemoryModel" "java/lang/Object") ∈ px_NW := px_nw 6 (by decide +kernel)
theorem w_687 : (Jvm.Cond.castable "TroubleMemory$Code" "java/lang/Object") ∈ px_NW := px_nw 7 (by decide +kernel)
theorem w_688 : (Jvm.Cond.castable "TroubleMemory$Standing" "java/lang/Object") ∈ px_NW := px_nw 8 (by decide +kernel)
theorem w_689 : (Jvm.Cond.castable "TroubleMemory$Snapshot" "java/lang/Object") ∈ px_NW := px_nw 9 (by decide +kernel)
theorem w_690 : (Jvm.Cond.castable "TroubleMemory$Entry" "java/lang/Object") ∈ px_NW := px_nw 10 (by decide +kernel)
theorem wp_0 : Cond.selects "java/util/ArrayList" ⟨"java/util/ArrayList", "add", "(Ljava/lang/Object;[Ljava/lang/Object;I)V"⟩ ⟨"java/util/ArrayList", "add", "(Ljava/lang/Object;[Ljava/lang/Object;I)V"⟩ ∈ px_TB := px_tbs 0 (by decide +kernel) rfl
theorem wp_1 : Cond.selects "java/util/ArrayList" ⟨"java/util/ArrayList", "grow", "()[Ljava/lang/Object;"⟩ ⟨"java/util/ArrayList", "grow", "()[Ljava/lang/Object;"⟩ ∈ px_TB := px_tbs 1 (by decide +kernel) rfl
theorem wp_2 : Cond.selects "java/util/ArrayList" ⟨"java/util/ArrayList", "grow", "(I)[Ljava/lang/Object;"⟩ ⟨"java/util/ArrayList", "grow", "(I)[Ljava/lang/Object;"⟩ ∈ px_TB := px_tbs 2 (by decide +kernel) rfl
theorem wp_3 : Cond.selects "TroubleMemory" ⟨"TroubleMemory", "find", "(I)LTroubleMemory$Code;"⟩ ⟨"TroubleMemory", "find", "(I)LTroubleMemory$Code;"⟩ ∈ px_TB := px_tbs 3 (by decide +kernel) rfl
theorem wp_4 : Cond.selects "TroubleMemory" ⟨"TroubleMemory", "isOn", "(I)Z"⟩ ⟨"TroubleMemory", "isOn", "(I)Z"⟩ ∈ px_TB := px_tbs 4 (by decide +kernel) rfl
theorem wp_5 : Cond.selects "TroubleMemory" ⟨"TroubleMemory", "judge", "(LTroubleMemory$Code;)V"⟩ ⟨"TroubleMemory", "judge", "(LTroubleMemory$Code;)V"⟩ ∈ px_TB := px_tbs 5 (by decide +kernel) rfl
theorem wp_6 : Cond.selects "TroubleMemory" ⟨"TroubleMemory", "takeSnapshot", "(LTroubleMemory$Code;)LTroubleMemory$Snapshot;"⟩ ⟨"TroubleMemory", "takeSnapshot", "(LTroubleMemory$Code;)LTroubleMemory$Snapshot;"⟩ ∈ px_TB := px_tbs 6 (by decide +kernel) rfl
theorem wp_7 : Cond.selects "TroubleMemory" ⟨"TroubleMemory", "countCodesWith", "(I)I"⟩ ⟨"TroubleMemory", "countCodesWith", "(I)I"⟩ ∈ px_TB := px_tbs 7 (by decide +kernel) rfl
theorem wp_8 : Cond.selects "TroubleMemory$Memory" ⟨"TroubleMemory$Memory", "displaceFor", "(LTroubleMemory$Code;)Z"⟩ ⟨"TroubleMemory$Memory", "displaceFor", "(LTroubleMemory$Code;)Z"⟩ ∈ px_TB := px_tbs 8 (by decide +kernel) rfl
theorem wp_9 : Cond.selects "java/util/ArrayList" ⟨"java/util/ArrayList", "fastRemove", "([Ljava/lang/Object;I)V"⟩ ⟨"java/util/ArrayList", "fastRemove", "([Ljava/lang/Object;I)V"⟩ ∈ px_TB := px_tbs 9 (by decide +kernel) rfl
theorem wp_10 : Cond.selects "TroubleMemory" ⟨"TroubleMemory", "endCycle", "(LTroubleMemory$Code;Z)V"⟩ ⟨"TroubleMemory", "endCycle", "(LTroubleMemory$Code;Z)V"⟩ ∈ px_TB := px_tbs 10 (by decide +kernel) rfl
theorem wp_11 : Cond.selects "TroubleMemoryModel" ⟨"TroubleMemoryModel", "freshen", "(I)V"⟩ ⟨"TroubleMemoryModel", "freshen", "(I)V"⟩ ∈ px_TB := px_tbs 11 (by decide +kernel) rfl
theorem wp_12 : Cond.selects "TroubleMemoryModel" ⟨"TroubleMemoryModel", "set", "(IIZ)V"⟩ ⟨"TroubleMemoryModel", "set", "(IIZ)V"⟩ ∈ px_TB := px_tbs 12 (by decide +kernel) rfl
theorem wp_13 : Cond.selects "TroubleMemoryModel" ⟨"TroubleMemoryModel", "keep", "(I)V"⟩ ⟨"TroubleMemoryModel", "keep", "(I)V"⟩ ∈ px_TB := px_tbs 13 (by decide +kernel) rfl
theorem wp_14 : Cond.selects "TroubleMemoryModel" ⟨"TroubleMemoryModel", "is", "(II)Z"⟩ ⟨"TroubleMemoryModel", "is", "(II)Z"⟩ ∈ px_TB := px_tbs 14 (by decide +kernel) rfl
theorem wp_15 : Cond.selects "TroubleMemoryModel" ⟨"TroubleMemoryModel", "none", "(I)Z"⟩ ⟨"TroubleMemoryModel", "none", "(I)Z"⟩ ∈ px_TB := px_tbs 15 (by decide +kernel) rfl
theorem wp_16 : Cond.selects "TroubleMemoryModel" ⟨"TroubleMemoryModel", "statusOf", "(I)I"⟩ ⟨"TroubleMemoryModel", "statusOf", "(I)I"⟩ ∈ px_TB := px_tbs 16 (by decide +kernel) rfl
theorem wp_17 : Cond.selects "TroubleMemoryModel" ⟨"TroubleMemoryModel", "fails", "(I)V"⟩ ⟨"TroubleMemoryModel", "fails", "(I)V"⟩ ∈ px_TB := px_tbs 17 (by decide +kernel) rfl
theorem wp_18 : Cond.selects "TroubleMemoryModel" ⟨"TroubleMemoryModel", "hidden", "(I)Z"⟩ ⟨"TroubleMemoryModel", "hidden", "(I)Z"⟩ ∈ px_TB := px_tbs 18 (by decide +kernel) rfl
theorem wp_19 : Cond.selects "TroubleMemoryModel" ⟨"TroubleMemoryModel", "store", "(I)V"⟩ ⟨"TroubleMemoryModel", "store", "(I)V"⟩ ∈ px_TB := px_tbs 19 (by decide +kernel) rfl
theorem wp_20 : Cond.selects "TroubleMemoryModel" ⟨"TroubleMemoryModel", "shoot", "(II)V"⟩ ⟨"TroubleMemoryModel", "shoot", "(II)V"⟩ ∈ px_TB := px_tbs 20 (by decide +kernel) rfl
theorem wp_21 : Cond.selects "TroubleMemoryModel" ⟨"TroubleMemoryModel", "many", "(I)I"⟩ ⟨"TroubleMemoryModel", "many", "(I)I"⟩ ∈ px_TB := px_tbs 21 (by decide +kernel) rfl
theorem wp_22 : Cond.selects "TroubleMemoryModel" ⟨"TroubleMemoryModel", "entries", "()I"⟩ ⟨"TroubleMemoryModel", "entries", "()I"⟩ ∈ px_TB := px_tbs 22 (by decide +kernel) rfl
theorem wp_23 : Cond.selects "TroubleMemoryModel" ⟨"TroubleMemoryModel", "goes", "(I)I"⟩ ⟨"TroubleMemoryModel", "goes", "(I)I"⟩ ∈ px_TB := px_tbs 23 (by decide +kernel) rfl
theorem px_NW_ok : ∀ w ∈ px_NW, px_nwk w = true := by decide +kernel
theorem px_in_TM : ∀ w ∈ u_ws R_TM F_TM 6, w ∈ px_TB := by
  intro w hw
  obtain ⟨k, hk, rfl⟩ := List.mem_map.mp hw
  have hk := List.mem_range.mp hk
  match k, hk with
  | 0, _ => exact w_82
  | 1, _ => exact w_84
  | 2, _ => exact w_86
  | 3, _ => exact w_88
  | 4, _ => exact w_90
  | 5, _ => exact w_92
  | n + 6, h => exact absurd h (by omega)
theorem px_in_Mem : ∀ w ∈ u_ws R_Mem F_Mem 3, w ∈ px_TB := by
  intro w hw
  obtain ⟨k, hk, rfl⟩ := List.mem_map.mp hw
  have hk := List.mem_range.mp hk
  match k, hk with
  | 0, _ => exact w_69
  | 1, _ => exact w_71
  | 2, _ => exact w_73
  | n + 3, h => exact absurd h (by omega)
theorem px_in_Cd : ∀ w ∈ u_ws R_Cd F_Cd 9, w ∈ px_TB := by
  intro w hw
  obtain ⟨k, hk, rfl⟩ := List.mem_map.mp hw
  have hk := List.mem_range.mp hk
  match k, hk with
  | 0, _ => exact w_150
  | 1, _ => exact w_152
  | 2, _ => exact w_154
  | 3, _ => exact w_156
  | 4, _ => exact w_158
  | 5, _ => exact w_160
  | 6, _ => exact w_162
  | 7, _ => exact w_164
  | 8, _ => exact w_166
  | n + 9, h => exact absurd h (by omega)
theorem px_in_Sg : ∀ w ∈ u_ws R_Sg F_Sg 4, w ∈ px_TB := by
  intro w hw
  obtain ⟨k, hk, rfl⟩ := List.mem_map.mp hw
  have hk := List.mem_range.mp hk
  match k, hk with
  | 0, _ => exact w_121
  | 1, _ => exact w_123
  | 2, _ => exact w_125
  | 3, _ => exact w_127
  | n + 4, h => exact absurd h (by omega)
theorem px_in_En : ∀ w ∈ u_ws R_En F_En 4, w ∈ px_TB := by
  intro w hw
  obtain ⟨k, hk, rfl⟩ := List.mem_map.mp hw
  have hk := List.mem_range.mp hk
  match k, hk with
  | 0, _ => exact w_363
  | 1, _ => exact w_365
  | 2, _ => exact w_367
  | 3, _ => exact w_369
  | n + 4, h => exact absurd h (by omega)
theorem px_in_Sn : ∀ w ∈ u_ws R_Sn F_Sn 4, w ∈ px_TB := by
  intro w hw
  obtain ⟨k, hk, rfl⟩ := List.mem_map.mp hw
  have hk := List.mem_range.mp hk
  match k, hk with
  | 0, _ => exact w_301
  | 1, _ => exact w_303
  | 2, _ => exact w_305
  | 3, _ => exact w_307
  | n + 4, h => exact absurd h (by omega)
theorem px_in_AL : ∀ w ∈ u_ws R_AL F_AL 3, w ∈ px_TB := by
  intro w hw
  obtain ⟨k, hk, rfl⟩ := List.mem_map.mp hw
  have hk := List.mem_range.mp hk
  match k, hk with
  | 0, _ => exact w_45
  | 1, _ => exact w_47
  | 2, _ => exact w_49
  | n + 3, h => exact absurd h (by omega)
theorem px_in_Rf : ∀ w ∈ u_ws R_Rf F_Rf 26, w ∈ px_TB := by
  intro w hw
  obtain ⟨k, hk, rfl⟩ := List.mem_map.mp hw
  have hk := List.mem_range.mp hk
  match k, hk with
  | 0, _ => exact w_516
  | 1, _ => exact w_518
  | 2, _ => exact w_520
  | 3, _ => exact w_522
  | 4, _ => exact w_524
  | 5, _ => exact w_526
  | 6, _ => exact w_528
  | 7, _ => exact w_530
  | 8, _ => exact w_532
  | 9, _ => exact w_534
  | 10, _ => exact w_536
  | 11, _ => exact w_538
  | 12, _ => exact w_540
  | 13, _ => exact w_542
  | 14, _ => exact w_544
  | 15, _ => exact w_546
  | 16, _ => exact w_548
  | 17, _ => exact w_550
  | 18, _ => exact w_552
  | 19, _ => exact w_554
  | 20, _ => exact w_556
  | 21, _ => exact w_558
  | 22, _ => exact w_560
  | 23, _ => exact w_562
  | 24, _ => exact w_564
  | 25, _ => exact w_566
  | n + 26, h => exact absurd h (by omega)
theorem px_clok {ci N : Nat} {K : String} {T : u_T} (h : px_cl[ci]? = some (K, T, N)) : (∀ w ∈ u_ws K T N, w ∈ px_TB) ∧ (∀ k, k < N → parseFieldDescriptor (T k).2.2.1 = some (px_ty ci k)) ∧ (∀ a, a < N → ∀ b, b < N → a ≠ b → (T a).2.1 ≠ (T b).2.1) := by
  match ci, h with
  | 0, h => cases h; exact ⟨px_in_TM, t_TM_ok, n_TM⟩
  | 1, h => cases h; exact ⟨px_in_Mem, t_Mem_ok, n_Mem⟩
  | 2, h => cases h; exact ⟨px_in_Cd, t_Cd_ok, n_Cd⟩
  | 3, h => cases h; exact ⟨px_in_Sg, t_Sg_ok, n_Sg⟩
  | 4, h => cases h; exact ⟨px_in_En, t_En_ok, n_En⟩
  | 5, h => cases h; exact ⟨px_in_Sn, t_Sn_ok, n_Sn⟩
  | 6, h => cases h; exact ⟨px_in_AL, t_AL_ok, n_AL⟩
  | 7, h => cases h; exact ⟨px_in_Rf, t_Rf_ok, n_Rf⟩
  | n + 8, h => simp [px_cl] at h
end
section
/-! THE STORE: the list of cells as a map from addresses -/
def px_lk : va_W → Nat → Option va_E
  | [], _ => none
  | q :: t, a => if q.1 = a then some q.2 else px_lk t a
def px_up : va_W → Nat → va_E → va_W
  | [], _, _ => []
  | q :: t, a, e => if q.1 = a then (a, e) :: t else q :: px_up t a e
theorem px_lk_pos : ∀ (ws : va_W) (a : Nat) (e : va_E), px_lk ws a = some e → ∃ q0 : Nat, ws[q0]? = some (a, e) ∧ ∀ e', px_up ws a e' = ws.set q0 (a, e')
  | [], _, _, h => by simp [px_lk] at h
  | q :: t, a, e, h => by
    unfold px_lk at h
    by_cases hq : q.1 = a
    · rw [if_pos hq] at h
      have e2 : q.2 = e := Option.some.inj h
      refine ⟨0, ?_, fun e' => ?_⟩
      · rw [List.getElem?_cons_zero, ← hq, ← e2]
      · unfold px_up
        rw [if_pos hq, List.set_cons_zero]
    · rw [if_neg hq] at h
      obtain ⟨q0, h1, h2⟩ := px_lk_pos t a e h
      refine ⟨q0 + 1, by rw [List.getElem?_cons_succ]; exact h1, fun e' => ?_⟩
      unfold px_up
      rw [if_neg hq, List.set_cons_succ, h2]
theorem px_lk_same : ∀ (ws : va_W) (a : Nat) (e e' : va_E), px_lk ws a = some e → px_lk (px_up ws a e') a = some e'
  | [], _, _, _, h => by simp [px_lk] at h
  | q :: t, a, e, e', h => by
    unfold px_lk at h
    by_cases hq : q.1 = a
    · unfold px_up
      rw [if_pos hq]
      simp [px_lk]
    · rw [if_neg hq] at h
      unfold px_up
      rw [if_neg hq]
      unfold px_lk
      rw [if_neg hq]
      exact px_lk_same t a e e' h
theorem px_lk_ne : ∀ (ws : va_W) (a b : Nat) (e' : va_E), b ≠ a → px_lk (px_up ws a e') b = px_lk ws b
  | [], _, _, _, _ => rfl
  | q :: t, a, b, e', h => by
    unfold px_up
    by_cases hq : q.1 = a
    · rw [if_pos hq]
      have h1 : ¬ (a = b) := fun z => h z.symm
      have h2 : ¬ (q.1 = b) := fun z => h1 (hq.symm.trans z)
      simp [px_lk, h1, h2]
    · rw [if_neg hq]
      unfold px_lk
      rw [px_lk_ne t a b e' h]
theorem px_lk_old : ∀ (ws : va_W) (q b : Nat) (e x : va_E), px_lk ws b = some x → px_lk (ws ++ [(q, e)]) b = some x
  | [], _, _, _, _, h => by simp [px_lk] at h
  | r :: t, q, b, e, x, h => by
    unfold px_lk at h
    show px_lk (r :: (t ++ [(q, e)])) b = some x
    unfold px_lk
    by_cases hq : r.1 = b
    · rw [if_pos hq] at h ⊢
      exact h
    · rw [if_neg hq] at h ⊢
      exact px_lk_old t q b e x h
theorem px_lk_new : ∀ (ws : va_W) (q : Nat) (e : va_E), px_lk ws q = none → px_lk (ws ++ [(q, e)]) q = some e
  | [], _, _, _ => by simp [px_lk]
  | r :: t, q, e, h => by
    unfold px_lk at h
    show px_lk (r :: (t ++ [(q, e)])) q = some e
    unfold px_lk
    by_cases hq : r.1 = q
    · rw [if_pos hq] at h
      cases h
    · rw [if_neg hq] at h ⊢
      exact px_lk_new t q e h
theorem px_lk_other : ∀ (ws : va_W) (q b : Nat) (e : va_E), b ≠ q → px_lk (ws ++ [(q, e)]) b = px_lk ws b
  | [], q, b, e, h => by
    have h1 : ¬ (q = b) := fun z => h z.symm
    simp [px_lk, h1]
  | r :: t, q, b, e, h => by
    show px_lk (r :: (t ++ [(q, e)])) b = px_lk (r :: t) b
    unfold px_lk
    rw [px_lk_other t q b e h]
theorem px_fresh {A : Nat → Prop} {ws : va_W} {q : Nat} {e : va_E} (hD : va_D A (ws ++ [(q, e)])) : px_lk ws q = none := by
  cases h : px_lk ws q with
  | none => rfl
  | some x =>
    obtain ⟨q0, h1, -⟩ := px_lk_pos ws q x h
    have hl : q0 < ws.length := (List.getElem?_eq_some_iff.mp h1).1
    have h2 : (ws ++ [(q, e)])[q0]? = some (q, x) := by rw [List.getElem?_append_left hl]; exact h1
    have h3 : (ws ++ [(q, e)])[ws.length]? = some (q, e) := by rw [List.getElem?_append_right (Nat.le_refl _)]; simp
    have := hD.1 q0 ws.length _ _ h2 h3 rfl
    omega
/-! WHAT IS FIXED FOR A RUN: where the old cells end, class numbers and slots, array classes, addresses of static references, the script -/
abbrev px_G : Type := Nat × va_G × (Nat → ClassId) × (Nat → Nat) × Nat × Nat × (Nat → Int32)
abbrev g_lo (G : px_G) : Nat := G.1
abbrev g_D (G : px_G) : va_G := G.2.1
abbrev g_dA (G : px_G) : Nat → ClassId := G.2.2.1
abbrev g_sv (G : px_G) : Nat → Nat := G.2.2.2.1
abbrev g_b (G : px_G) : Nat := G.2.2.2.2.1
abbrev g_n (G : px_G) : Nat := G.2.2.2.2.2.1
abbrev g_x (G : px_G) : Nat → Int32 := G.2.2.2.2.2.2
def px_A (G : px_G) : Nat → Prop := fun q => g_lo G ≤ q
theorem px_goodIn {ws : List Cond} (h : ∀ w ∈ ws, w ∈ px_TB) : GoodIn px_TB ws := fun w hw => ⟨h w hw, good_of_word (List.mem_filter.mp (h w hw)).2⟩
theorem px_nw_tab {w : Cond} (h : px_nwk w = true) : w.onTables = true := by
  unfold px_nwk at h
  split at h <;> first | rfl | cases h
theorem px_nw_warm {w : Cond} {s U : State} (h : px_nwk w = true) (hW : s.WarmedH U.vm) (hZ : va_Nw w s) : va_Nw w U := by
  unfold px_nwk at h
  split at h
  · exact va_Nw.warmF hW hZ
  · exact va_Nw.warmM hW hZ
  · exact va_Nw.warmC hW hZ
  · exact va_Nw.warmD hW hZ
  · cases h
/-- static references that the system reads -/
def px_Es (G : px_G) (U : State) (H : Heap) : Prop := ∀ (k : Nat) (q : String × String × String), px_SL[k]? = some q → va_Z q.1 q.2.1 q.2.2 (.ref (g_sv G k)) (px_A G) U H ∧ va_T (.object "java/lang/Object") (g_sv G k) 0 (fun _ => .null) (px_A G) U H
def px_E (G : px_G) (U : State) : Prop := va_K (g_D G) px_cl (px_tys (g_dA G)) U ∧ g_lo G ≤ U.heap.size ∧ (∀ w ∈ px_NW, va_Nw w U) ∧ va_X (g_b G) (g_n G) (g_x G) U U.heap ∧ g_b G < g_lo G ∧ px_Es G U U.heap ∧ va_AO "java/lang/Object" U ∧ va_Mi "[Ljava/lang/Object;" (g_sv G 1) U
theorem px_E.blind {G : px_G} {U : State} {g : JFrame} {mk : MethodId} {a : Array Value} (h : px_E G U) : px_E G (U.calling g mk a) := by
  obtain ⟨h1, h2, h3, h4, h5, h6, h7, h8⟩ := h
  exact ⟨va_K.moved (u := U) (U := U.calling g mk a) (Vm.Alike.refl U.vm) h1, h2, fun w hw => va_Nw.same (px_nw_tab (px_NW_ok w hw)) (rfl : U.vm = (U.calling g mk a).vm) (h3 w hw), va_X.moved (u := U) (U := U.calling g mk a) (Vm.Alike.refl U.vm) h4, h5, fun k q hq => ⟨va_Z.moved (u := U) (U := U.calling g mk a) (Vm.Alike.refl U.vm) (h6 k q hq).1, va_T.moved (u := U) (U := U.calling g mk a) (Vm.Alike.refl U.vm) (h6 k q hq).2⟩, va_AO.moved (u := U) (U := U.calling g mk a) (Vm.Alike.refl U.vm) h7, va_Mi.moved (u := U) (U := U.calling g mk a) (Vm.Alike.refl U.vm) h8⟩
theorem px_E.go {G : px_G} {s U : State} {H : Heap} {locs : List Loc} (h : px_E G s) (hS : va_S (px_A G) s.heap H locs) (hU : U.heap = H) (hW : s.WarmedH U.vm) : px_E G U := by
  obtain ⟨h1, h2, h3, h4, h5, h6, h7, h8⟩ := h
  subst hU
  have hb : ∀ a : Nat, a < s.heap.size → ¬ px_A G a → U.heap[a]? = s.heap[a]? := hS.2.1
  exact ⟨va_K.moved hW.alike h1, Nat.le_trans h2 hS.1, fun w hw => px_nw_warm (px_NW_ok w hw) hW (h3 w hw), va_X.moved hW.alike (h4.kept (hb _ (Nat.lt_of_lt_of_le h5 h2) (Nat.not_le.mpr h5))), h5, fun k q hq => ⟨((h6 k q hq).1.kept hb).moved hW.alike, ((h6 k q hq).2.kept hb).moved hW.alike⟩, va_AO.moved hW.alike h7, va_Mi.moved hW.alike h8⟩
/-! WHAT A METHOD STANDS ON -/
def px_Cx (G : px_G) (p : Program) (R : Room) (s : State) (m : MethodId) (args : Array Value) (meth : Method) (c : Code) (M : px_M) (d : Nat) : Prop :=
  p.tables.exec = Jvm.exec ∧ c.code = px_b M ∧ meth.sig.returnType = px_t M ∧ c.maxLocals = px_L M ∧ s.vm.findClass (px_y M).cls = some m.cls ∧ (∀ w ∈ px_TB, w.before args s = true) ∧ meth.locks = false ∧ ((px_y M).name = "<init>" → meth.name = "<init>") ∧ d ≤ R.frames ∧ 37 * d ≤ R.locals ∧ px_E G s
/-- a return instruction that fits the answer -/
def px_rt (M : px_M) (pc : Nat) (v : Option Value) : Prop :=
  (∃ (ty : FieldType) (x : Int32), v = some (.int x) ∧ px_t M = some ty ∧ narrow ty (.int x) = .int x ∧ decode (px_b M) pc = .ok (.ireturn, 1)) ∨
  (v = none ∧ px_t M = none ∧ decode (px_b M) pc = .ok (.return_, 1)) ∨
  (∃ (ty : FieldType) (r : Value), v = some r ∧ px_t M = some ty ∧ ((∃ n, ty = .object n) ∨ ∃ t, ty = .array t) ∧ (r = .null ∨ ∃ a, r = .ref a) ∧ decode (px_b M) pc = .ok (.areturn, 1))
abbrev px_P : Type := px_M → Nat → List (Nat × Value) → List Value → va_W → Nat → Nat → Nat → (Option Value → va_W → Prop) → Prop
/-- what the machine does -/
def px_Pw (G : px_G) (l : Launch) : px_P := fun M pc lv st ws d bc bs Q =>
  px_okM M → ∀ (p : Program) (e : Env) (R : Room) (s : State) (m : MethodId) (args : Array Value) (below : List Frame) (meth : Method) (c : Code) (Z : State → Prop) (H : Heap) (locs : List Loc) (cells slots : Nat) (la : Array Slot),
    px_Cx G p R s m args meth c M d → cells + bc ≤ R.cells → slots + bs ≤ R.slots → va_P (g_D G) px_cl ws H → va_D (px_A G) ws → va_S (px_A G) s.heap H locs → lv_has la (px_L M) lv →
    (∀ (v : Option Value) (ws' : va_W) (H' : Heap) (locs' : List Loc) (la' : Array Slot) (pc' : Nat), Q v ws' → va_P (g_D G) px_cl ws' H' → va_D (px_A G) ws' → va_S (px_A G) s.heap H' locs' → px_rt M pc' v →
      W p l e R s m args below meth c H' locs' (cells + bc) (slots + bs) Z (F0 m pc' la' v.toList)) →
    W p l e R s m args below meth c H locs cells slots Z (F0 m pc la st)
def px_Pc (G : px_G) (vs : List Value) (ws : va_W) : Array Value → State → Prop := fun a U => a = vs.toArray ∧ px_E G U ∧ va_P (g_D G) px_cl ws U.heap ∧ va_D (px_A G) ws
def px_Qc (G : px_G) (Rq : Option Value → va_W → Prop) : Array Value → State → Outcome → State → Prop := fun _ st o t => (∃ (v : Option Value) (ws' : va_W), o = .returned v ∧ Rq v ws' ∧ va_P (g_D G) px_cl ws' t.heap ∧ va_D (px_A G) ws') ∧ va_F (px_A G) st t
def px_good (M : px_M) : Prop := px_okM M ∧ plainName (px_y M).cls = true ∧ Cond.code (px_y M) (px_b M) (px_L M) (px_t M) ∈ px_TB ∧ px_L M + 19 ≤ 37
abbrev px_rm (d kc ks : Nat) : Room := { frames := d, cells := kc, slots := ks, locals := 37 * d }
theorem px_met {G : px_G} {l : Launch} {M : px_M} {vs : List Value} {ws : va_W} {d kc ks : Nat} {Rq : Option Value → va_W → Prop} (hg : px_good M) (hl : (lg_sl vs).length ≤ px_L M) (h : px_Pw G l M 0 (lv_args 0 vs) [] ws d kc ks Rq) :
    Met l (px_y M) (Cond.code (px_y M) (px_b M) (px_L M) (px_t M) :: px_TB) (px_rm d kc ks) (px_Pc G vs ws) (px_Qc G Rq) kc ks (px_A G) := by
  refine Met.ofW (cc := px_b M) (maxL := px_L M) (ret := px_t M) hg.2.1 rfl ?_
  intro p e s m args below meth c s₁ B hml hv
  obtain ⟨rfl, hE, hP, hD⟩ := hv
  have hx := B.exec
  have hb := B.bytes
  have hr := B.returns
  have hts := atoms_spec (ws := Cond.code (px_y M) (px_b M) (px_L M) (px_t M) :: px_TB) B.pre
  have hown : s.vm.findClass (px_y M).cls = some m.cls := findClass_of_methodNamed B.named
  have hlocks := B.notSynchronized
  have hnm : meth.name = (px_y M).name := (name_of_methodNamed B.named B.method).1
  have hS : va_S (px_A G) s.heap s.heap [] := va_S.rf
  have hl2 := lv_entry vs (n := px_L M) hl
  rw [lg_entry_eq]
  refine h hg.1 p e _ s m _ below meth c _ s.heap [] 0 0 _ ⟨hx, hb, hr, hml, hown, fun w hw => hts w (List.mem_cons_of_mem _ hw), hlocks, fun q => hnm.trans q, Nat.le_refl _, Nat.le_refl _, hE⟩ (by show 0 + kc ≤ kc; omega) (by show 0 + ks ≤ ks; omega) hP hD hS hl2 ?_
  intro v ws' H' locs' la' pc' hq hP' hD' hS' hrt
  rw [Nat.zero_add, Nat.zero_add]
  rcases hrt with ⟨ty, x, rfl, ht, hn, hd⟩ | ⟨rfl, ht, hd⟩ | ⟨ty, r, rfl, ht, hty, hr2, hd⟩
  · exact W.zret (ty := ty) hx hb (hr.trans ht) hn (fun t ht2 hW => ⟨⟨_, ws', rfl, hq, by rw [ht2]; exact hP', hD'⟩, hS'.F ht2⟩) hS'.2.2 hd
  · exact W.vret hx hb (hr.trans ht) (fun t ht2 hW => ⟨⟨_, ws', rfl, hq, by rw [ht2]; exact hP', hD'⟩, hS'.F ht2⟩) hS'.2.2 hd
  · exact W.aret hx hb (hr.trans ht) hty hr2 (fun t ht2 hW => ⟨⟨_, ws', rfl, hq, by rw [ht2]; exact hP', hD'⟩, hS'.F ht2⟩) hS'.2.2 hd
section PXW
variable {p : Program} {l : Launch} {e : Env} {R : Room} {s : State} {m : MethodId} {args : Array Value} {below : List Frame} {meth : Method} {c : Code} {H : Heap} {locs : List Loc} {cells slots kc ks : Nat} {Z : State → Prop}
variable {G : px_G} {pc : Nat} {la : Array Slot} {st rest : List Value} {a : Array Value} {Rq : Option Value → va_W → Prop}
theorem px_after (hr : va_Run p l e R s m args below meth c H locs cells slots kc ks (F0 m pc la st) rest (px_Qc G Rq a) (px_A G)) (hS : va_S (px_A G) s.heap H locs)
    (kk : ∀ (v : Option Value) (ws' : va_W) (H1 : Heap) (locs1 : List Loc), Rq v ws' → va_P (g_D G) px_cl ws' H1 → va_D (px_A G) ws' → va_S (px_A G) s.heap H1 locs1 → W p l e R s m args below meth c H1 locs1 (cells + kc) (slots + ks) Z (F0 m (pc + 3) la (v.toList ++ rest))) :
    W p l e R s m args below meth c H locs cells slots Z (F0 m pc la st) := by
  intro T hT X
  obtain ⟨v, st₀, t, T', L, h0, X', hL, e1, e2, ⟨⟨v', ws', hv, hq, hP, hD⟩, hz, hk⟩, go⟩ := hr T hT X
  cases hv
  rw [h0] at hz hk
  rw [← e1] at hP
  obtain ⟨t2, a1, b1⟩ := kk v ws' T'.heap (locs ++ L) hq hP hD
    ⟨Nat.le_trans hS.1 (by rw [e1]; exact hz), fun q h1 h2 => by rw [e1, hk q (Nat.lt_of_lt_of_le h1 hS.1) h2]; exact hS.2.1 q h1 h2, fun q hq => by
      rcases List.mem_append.mp hq with h | h
      · exact hS.2.2 q h
      · exact hL q h⟩ T' rfl X'
  exact ⟨t2, go t2 a1, b1⟩
end PXW
end
section
/-! THE RULES OF THE SMALL MACHINE -/
def px_cmp (c : Jvm.ClassFile.Cond) (x y : Int32) : Prop := match c with
  | .eq => x = y
  | .ne => ¬ x = y
  | .lt => x < y
  | .ge => y ≤ x
  | .gt => y < x
  | .le => x ≤ y
def px_ncmp (c : Jvm.ClassFile.Cond) (x y : Int32) : Prop := match c with
  | .eq => ¬ x = y
  | .ne => x = y
  | .lt => ¬ x < y
  | .ge => ¬ y ≤ x
  | .gt => ¬ y < x
  | .le => ¬ x ≤ y
def px_isAload : Jvm.ClassFile.Instr → Option Nat
  | .aload_n n => some n.val
  | .aload n => some n
  | _ => none
def px_isAstore : Jvm.ClassFile.Instr → Option Nat
  | .astore_n n => some n.val
  | .astore n => some n
  | _ => none
theorem px_isAload_eq {i : Jvm.ClassFile.Instr} {n : Nat} (h : px_isAload i = some n) : (∃ j : Fin 4, i = .aload_n j ∧ j.val = n) ∨ i = .aload n := by
  unfold px_isAload at h
  split at h
  · exact Or.inl ⟨_, rfl, Option.some.inj h⟩
  · exact Or.inr (by rw [Option.some.inj h])
  · cases h
theorem px_isAstore_eq {i : Jvm.ClassFile.Instr} {n : Nat} (h : px_isAstore i = some n) : (∃ j : Fin 4, i = .astore_n j ∧ j.val = n) ∨ i = .astore n := by
  unfold px_isAstore at h
  split at h
  · exact Or.inl ⟨_, rfl, Option.some.inj h⟩
  · exact Or.inr (by rw [Option.some.inj h])
  · cases h
/-- what a place of a constant pool means -/
def px_Fd (own : String) (idx ci k : Nat) : Prop := ∃ (K : String) (T : u_T) (N : Nat), px_cl[ci]? = some (K, T, N) ∧ k < N ∧ (∃ ref : String, Cond.fieldLink own idx ref (T k).2.1 (T k).2.2.1 ∈ px_TB ∧ (ref = (T k).1 ∨ Cond.sameField ref (T k).1 (T k).2.1 (T k).2.2.1 ∈ px_TB))
def px_FdN (own : String) (idx ci k : Nat) : Prop := ∃ (K : String) (T : u_T) (N : Nat) (host : String), px_cl[ci]? = some (K, T, N) ∧ k < N ∧ Cond.fieldLinkNest own idx (T k).1 (T k).2.1 (T k).2.2.1 host ∈ px_NW
def px_Fp (own : String) (idx ci k : Nat) (ty : FieldType) : Prop := ∃ (K : String) (T : u_T) (N : Nat), px_cl[ci]? = some (K, T, N) ∧ k < N ∧ (∃ ref : String, Cond.fieldLink own idx ref (T k).2.1 (T k).2.2.1 ∈ px_TB ∧ (ref = (T k).1 ∨ Cond.sameField ref (T k).1 (T k).2.1 (T k).2.2.1 ∈ px_TB)) ∧ (T k).2.2.2 = false ∧ px_ty ci k = ty
def px_FpF (own : String) (idx ci k : Nat) (ty : FieldType) : Prop := ∃ (K : String) (T : u_T) (N : Nat), px_cl[ci]? = some (K, T, N) ∧ k < N ∧ (∃ ref : String, Cond.fieldLink own idx ref (T k).2.1 (T k).2.2.1 ∈ px_TB ∧ (ref = (T k).1 ∨ Cond.sameField ref (T k).1 (T k).2.1 (T k).2.2.1 ∈ px_TB)) ∧ (T k).2.2.2 = true ∧ px_ty ci k = ty ∧ (T k).1 = own
def px_Nc (own : String) (idx ci N : Nat) (fs : List Value) : Prop := ∃ (K : String) (T : u_T), px_cl[ci]? = some (K, T, N) ∧ Cond.classLink own idx K ∈ px_TB ∧ Cond.instantiable K N ∈ px_TB ∧ Cond.initialized K ∈ px_TB ∧ ∀ j, j < N → defaultValue (px_ty ci j) = vp_V fs j
def px_Cs (own : String) (idx ci : Nat) : Prop := ∃ (K : String) (T : u_T) (N : Nat), px_cl[ci]? = some (K, T, N) ∧ Cond.classLink own idx K ∈ px_TB
def px_dsc (y : MethodName) (n : Nat) : Prop := y.cls ≠ "java/lang/invoke/MethodHandle" ∧ y.cls ≠ "java/lang/invoke/VarHandle" ∧ (parseMethodDescriptor y.desc).map (fun d => d.parameters.length) = some n
def px_cV (own : String) (idx : Nat) (C0 : String) (M : px_M) (n : Nat) : Prop := (∀ w ∈ ([.methodLink own idx (px_y M), .instanceMethod (px_y M), .selects C0 (px_y M) (px_y M), .initialized C0] : List Cond), w ∈ px_TB) ∧ (px_y M).cls = C0 ∧ px_dsc (px_y M) n
def px_cVN (own : String) (idx : Nat) (C0 host : String) (M : px_M) (n : Nat) : Prop := Cond.methodLinkNest own idx (px_y M) host ∈ px_NW ∧ Cond.initialized (px_y M).cls ∈ px_TB ∧ Cond.instanceMethod (px_y M) ∈ px_TB ∧ Cond.selects C0 (px_y M) (px_y M) ∈ px_TB ∧ px_dsc (px_y M) n
def px_cS (own : String) (idx : Nat) (M : px_M) (n : Nat) : Prop := Cond.initialized (px_y M).cls ∈ px_TB ∧ Cond.methodLink own idx (px_y M) ∈ px_TB ∧ Cond.static (px_y M) ∈ px_TB ∧ px_dsc (px_y M) n
def px_cI (own : String) (idx : Nat) (M : px_M) (n : Nat) : Prop := Cond.initialized (px_y M).cls ∈ px_TB ∧ Cond.methodLink own idx (px_y M) ∈ px_TB ∧ Cond.instanceMethod (px_y M) ∈ px_TB ∧ (px_y M).name = "<init>" ∧ px_dsc (px_y M) n ∧ px_t M = none
def px_cIN (own : String) (idx : Nat) (host : String) (M : px_M) (n : Nat) : Prop := Cond.initialized (px_y M).cls ∈ px_TB ∧ Cond.methodLinkNest own idx (px_y M) host ∈ px_NW ∧ Cond.instanceMethod (px_y M) ∈ px_TB ∧ (px_y M).name = "<init>" ∧ px_dsc (px_y M) n ∧ px_t M = none
/-- a cell that is an object of the system's -/
def px_ob (ws : va_W) (y : Nat) : Prop := ∃ (ci : Nat) (fs : List Value) (K : String) (T : u_T) (N : Nat), px_lk ws y = some (.inr (ci, fs)) ∧ px_cl[ci]? = some (K, T, N) ∧ Cond.castable K "java/lang/Object" ∈ px_NW
theorem px_freshA {A : Nat → Prop} {ws : va_W} {q : Nat} {e : va_E} (hD : va_D A (ws ++ [(q, e)])) : A q := hD.2 ws.length (q, e) (by simp)
theorem px_sm {args : Array Value} {s : State} {ref o n dd : String} (hts : ∀ w ∈ px_TB, w.before args s = true) (h : ref = o ∨ Cond.sameField ref o n dd ∈ px_TB) : ∀ x, s.fieldFound? o n dd = some x → s.fieldFound? ref n dd = some x := by
  intro x hx
  rcases h with rfl | h
  · exact hx
  · exact u_same (hts _ h) x hx
def px_spl : Nat → List Value → List Value → Option (List Value × List Value)
  | 0, acc, st => some (acc, st)
  | n + 1, acc, v :: st => px_spl n (v :: acc) st
  | _ + 1, _, [] => none
theorem px_spl_go : ∀ (n : Nat) (acc st As r : List Value), px_spl n acc st = some (As, r) → acc.reverse ++ st = As.reverse ++ r ∧ As.length = acc.length + n
  | 0, acc, st, As, r, h => by
    cases h
    exact ⟨rfl, rfl⟩
  | n + 1, acc, [], As, r, h => by cases h
  | n + 1, acc, v :: st, As, r, h => by
    obtain ⟨h1, h2⟩ := px_spl_go n (v :: acc) st As r h
    refine ⟨?_, by rw [h2, List.length_cons]; omega⟩
    rw [← h1, List.reverse_cons, List.append_assoc]
    rfl
theorem px_spl_eq (n : Nat) (st : List Value) {As r : List Value} (h : px_spl n [] st = some (As, r)) : st = As.reverse ++ r ∧ As.length = n := by
  obtain ⟨h1, h2⟩ := px_spl_go n [] st As r h
  exact ⟨h1, by rw [h2]; simp⟩
theorem px_wsC {M : px_M} (hg : px_good M) : ∀ w ∈ Cond.code (px_y M) (px_b M) (px_L M) (px_t M) :: px_TB, w ∈ px_TB := by
  intro w hw
  rcases List.mem_cons.mp hw with rfl | h
  · exact hg.2.2.1
  · exact h
theorem px_wsV {own C0 : String} {idx : Nat} {M : px_M} (h : ∀ w ∈ ([.methodLink own idx (px_y M), .instanceMethod (px_y M), .selects C0 (px_y M) (px_y M), .initialized C0] : List Cond), w ∈ px_TB) (hg : px_good M) : ∀ w ∈ wsV own idx C0 (px_y M) (Cond.code (px_y M) (px_b M) (px_L M) (px_t M) :: px_TB), w ∈ px_TB := by
  intro w hw
  unfold wsV at hw
  rcases List.mem_append.mp hw with h1 | h1
  · exact h w h1
  · exact px_wsC hg w h1
theorem px_cA_prim {D : va_G} {tys : List (ClassId × FieldType)} {s : State} {cA c1 : ClassId} {t : Nat} {ty : FieldType} (hK : va_K D px_cl tys s) (hK1 : va_K D px_cl (tys ++ [(cA, ty)]) s) (ht : tys[t]? = some (c1, ty)) (hn : ∀ n, ty ≠ .object n) : cA = c1 := by
  have h1 := (hK.2 t _ ht).2
  have h2 := (hK1.2 tys.length (cA, ty) (by simp)).2
  cases ty with
  | object n => exact absurd rfl (hn n)
  | _ => exact Option.some.inj ((show _ = some cA from h2).symm.trans h1)
theorem px_cA_obj {D : va_G} {tys : List (ClassId × FieldType)} {s : State} {cA c1 : ClassId} {t : Nat} {K : String} (hK : va_K D px_cl tys s) (hK1 : va_K D px_cl (tys ++ [(cA, .object K)]) s) (ht : tys[t]? = some (c1, .object K)) : cA = c1 := by
  obtain ⟨_, _, _, _, _, h1⟩ := (hK.2 t _ ht).2
  obtain ⟨_, _, _, _, _, h2⟩ := (hK1.2 tys.length (cA, .object K) (by simp)).2
  exact Option.some.inj (h2.symm.trans h1)

def px_r_s (G : px_G) (P : px_P) : Prop := ∀ (M : px_M) (pc nx d bc bs : Nat) (tg : List Nat) (z : Int32) (lv : List (Nat × Value)) (st : List Value) (ws : va_W) (Q : Option Value → va_W → Prop) (i : Jvm.ClassFile.Instr) (lv' : List (Nat × Value)) (st' : List Value), (px_at M pc = some (i, nx, tg, z)) → (px_step (px_L M) i z lv st = some (lv', st')) → P M nx lv' st' ws d bc bs Q → P M pc lv st ws d bc bs Q
def px_r_aloadR (G : px_G) (P : px_P) : Prop := ∀ (M : px_M) (pc nx d bc bs : Nat) (tg : List Nat) (z : Int32) (lv : List (Nat × Value)) (st : List Value) (ws : va_W) (Q : Option Value → va_W → Prop) (i : Jvm.ClassFile.Instr) (n : Nat) (r : Option Nat), (px_at M pc = some (i, nx, tg, z)) → (px_isAload i = some n) → (px_get lv n = some (va_rf r)) → P M nx lv (va_rf r :: st) ws d bc bs Q → P M pc lv st ws d bc bs Q
def px_r_astoreR (G : px_G) (P : px_P) : Prop := ∀ (M : px_M) (pc nx d bc bs : Nat) (tg : List Nat) (z : Int32) (lv : List (Nat × Value)) (st : List Value) (ws : va_W) (Q : Option Value → va_W → Prop) (i : Jvm.ClassFile.Instr) (n : Nat) (r : Option Nat), (px_at M pc = some (i, nx, tg, z)) → (px_isAstore i = some n) → (n < px_L M) → P M nx (px_put lv n (va_rf r)) st ws d bc bs Q → P M pc lv (va_rf r :: st) ws d bc bs Q
def px_r_goto (G : px_G) (P : px_P) : Prop := ∀ (M : px_M) (pc nx d bc bs : Nat) (z : Int32) (lv : List (Nat × Value)) (st : List Value) (ws : va_W) (Q : Option Value → va_W → Prop) (off : Int) (t : Nat), (px_at M pc = some (.goto off, nx, [t], z)) → P M t lv st ws d bc bs Q → P M pc lv st ws d bc bs Q
def px_r_if (G : px_G) (P : px_P) : Prop := ∀ (M : px_M) (pc nx d bc bs : Nat) (z : Int32) (lv : List (Nat × Value)) (st : List Value) (ws : va_W) (Q : Option Value → va_W → Prop) (cc : Jvm.ClassFile.Cond) (off : Int) (t : Nat) (x : Int32), (px_at M pc = some (.ifCond cc off, nx, [t], z)) → (px_cmp cc x 0 → P M t lv st ws d bc bs Q) → (px_ncmp cc x 0 → P M nx lv st ws d bc bs Q) → P M pc lv (.int x :: st) ws d bc bs Q
def px_r_icmp (G : px_G) (P : px_P) : Prop := ∀ (M : px_M) (pc nx d bc bs : Nat) (z : Int32) (lv : List (Nat × Value)) (st : List Value) (ws : va_W) (Q : Option Value → va_W → Prop) (cc : Jvm.ClassFile.Cond) (off : Int) (t : Nat) (x y : Int32), (px_at M pc = some (.if_icmp cc off, nx, [t], z)) → (px_cmp cc x y → P M t lv st ws d bc bs Q) → (px_ncmp cc x y → P M nx lv st ws d bc bs Q) → P M pc lv (.int y :: .int x :: st) ws d bc bs Q
def px_r_ifnull (G : px_G) (P : px_P) : Prop := ∀ (M : px_M) (pc nx d bc bs : Nat) (z : Int32) (lv : List (Nat × Value)) (st : List Value) (ws : va_W) (Q : Option Value → va_W → Prop) (off : Int) (t : Nat) (r : Option Nat), (px_at M pc = some (.ifnull off, nx, [t], z)) → (r = none → P M t lv st ws d bc bs Q) → (r ≠ none → P M nx lv st ws d bc bs Q) → P M pc lv (va_rf r :: st) ws d bc bs Q
def px_r_ifnonnull (G : px_G) (P : px_P) : Prop := ∀ (M : px_M) (pc nx d bc bs : Nat) (z : Int32) (lv : List (Nat × Value)) (st : List Value) (ws : va_W) (Q : Option Value → va_W → Prop) (off : Int) (t : Nat) (r : Option Nat), (px_at M pc = some (.ifnonnull off, nx, [t], z)) → (r ≠ none → P M t lv st ws d bc bs Q) → (r = none → P M nx lv st ws d bc bs Q) → P M pc lv (va_rf r :: st) ws d bc bs Q
def px_r_acmpeq (G : px_G) (P : px_P) : Prop := ∀ (M : px_M) (pc nx d bc bs : Nat) (z : Int32) (lv : List (Nat × Value)) (st : List Value) (ws : va_W) (Q : Option Value → va_W → Prop) (off : Int) (t : Nat) (rx ry : Option Nat), (px_at M pc = some (.if_acmp .eq off, nx, [t], z)) → (rx = ry → P M t lv st ws d bc bs Q) → (¬ rx = ry → P M nx lv st ws d bc bs Q) → P M pc lv (va_rf ry :: va_rf rx :: st) ws d bc bs Q
def px_r_acmpne (G : px_G) (P : px_P) : Prop := ∀ (M : px_M) (pc nx d bc bs : Nat) (z : Int32) (lv : List (Nat × Value)) (st : List Value) (ws : va_W) (Q : Option Value → va_W → Prop) (off : Int) (t : Nat) (rx ry : Option Nat), (px_at M pc = some (.if_acmp .ne off, nx, [t], z)) → (¬ rx = ry → P M t lv st ws d bc bs Q) → (rx = ry → P M nx lv st ws d bc bs Q) → P M pc lv (va_rf ry :: va_rf rx :: st) ws d bc bs Q
def px_r_idiv (G : px_G) (P : px_P) : Prop := ∀ (M : px_M) (pc nx d bc bs : Nat) (tg : List Nat) (z : Int32) (lv : List (Nat × Value)) (st : List Value) (ws : va_W) (Q : Option Value → va_W → Prop) (x y : Int32), (px_at M pc = some (.idiv, nx, tg, z)) → (¬ y = 0) → P M nx lv (.int (x / y) :: st) ws d bc bs Q → P M pc lv (.int y :: .int x :: st) ws d bc bs Q
def px_r_irem (G : px_G) (P : px_P) : Prop := ∀ (M : px_M) (pc nx d bc bs : Nat) (tg : List Nat) (z : Int32) (lv : List (Nat × Value)) (st : List Value) (ws : va_W) (Q : Option Value → va_W → Prop) (x y : Int32), (px_at M pc = some (.irem, nx, tg, z)) → (¬ y = 0) → P M nx lv (.int (x - x / y * y) :: st) ws d bc bs Q → P M pc lv (.int y :: .int x :: st) ws d bc bs Q
def px_r_get (G : px_G) (P : px_P) : Prop := ∀ (M : px_M) (pc nx d bc bs : Nat) (tg : List Nat) (z : Int32) (lv : List (Nat × Value)) (st : List Value) (ws : va_W) (Q : Option Value → va_W → Prop) (idx ci k a : Nat) (fs : List Value) (v : Value), (px_at M pc = some (.getfield idx, nx, tg, z)) → (px_Fd (px_y M).cls idx ci k) → (px_lk ws a = some (.inr (ci, fs))) → (fs[k]? = some v) → P M nx lv (v :: st) ws d bc bs Q → P M pc lv (.ref a :: st) ws d bc bs Q
def px_r_getN (G : px_G) (P : px_P) : Prop := ∀ (M : px_M) (pc nx d bc bs : Nat) (tg : List Nat) (z : Int32) (lv : List (Nat × Value)) (st : List Value) (ws : va_W) (Q : Option Value → va_W → Prop) (idx ci k a : Nat) (fs : List Value) (v : Value), (px_at M pc = some (.getfield idx, nx, tg, z)) → (px_FdN (px_y M).cls idx ci k) → (px_lk ws a = some (.inr (ci, fs))) → (fs[k]? = some v) → P M nx lv (v :: st) ws d bc bs Q → P M pc lv (.ref a :: st) ws d bc bs Q
def px_r_put (G : px_G) (P : px_P) : Prop := ∀ (M : px_M) (pc nx d bc bs : Nat) (tg : List Nat) (z : Int32) (lv : List (Nat × Value)) (st : List Value) (ws : va_W) (Q : Option Value → va_W → Prop) (idx ci k a : Nat) (fs : List Value) (v : Value) (ty : FieldType), (px_at M pc = some (.putfield idx, nx, tg, z)) → (px_Fp (px_y M).cls idx ci k ty) → (px_lk ws a = some (.inr (ci, fs))) → (narrow ty v = v) → (fits ty v = true) → (k < fs.length) → P M nx lv st (px_up ws a (.inr (ci, fs.set k v))) d bc bs Q → P M pc lv (v :: .ref a :: st) ws d bc bs Q
def px_r_putF (G : px_G) (P : px_P) : Prop := ∀ (M : px_M) (pc nx d bc bs : Nat) (tg : List Nat) (z : Int32) (lv : List (Nat × Value)) (st : List Value) (ws : va_W) (Q : Option Value → va_W → Prop) (idx ci k a : Nat) (fs : List Value) (v : Value) (ty : FieldType), (px_at M pc = some (.putfield idx, nx, tg, z)) → (px_FpF (px_y M).cls idx ci k ty) → ((px_y M).name = "<init>") → (px_lk ws a = some (.inr (ci, fs))) → (narrow ty v = v) → (fits ty v = true) → (k < fs.length) → P M nx lv st (px_up ws a (.inr (ci, fs.set k v))) d bc bs Q → P M pc lv (v :: .ref a :: st) ws d bc bs Q
def px_r_new (G : px_G) (P : px_P) : Prop := ∀ (M : px_M) (pc nx d bc bs : Nat) (tg : List Nat) (z : Int32) (lv : List (Nat × Value)) (st : List Value) (ws : va_W) (Q : Option Value → va_W → Prop) (idx ci N : Nat) (fs : List Value), (px_at M pc = some (.new idx, nx, tg, z)) → (px_Nc (px_y M).cls idx ci N fs) → (∀ q : Nat, px_lk ws q = none → g_lo G ≤ q → P M nx lv (.ref q :: st) (ws ++ [(q, .inr (ci, fs))]) d bc bs Q) → P M pc lv st ws d (bc + 1) (bs + N) Q
def px_r_weak (G : px_G) (P : px_P) : Prop := ∀ (M : px_M) (pc d bc bs : Nat) (lv : List (Nat × Value)) (st : List Value) (ws : va_W) (Q : Option Value → va_W → Prop) (dd k1 k2 : Nat), P M pc lv st ws d bc bs Q → P M pc lv st ws (dd + d) (k1 + bc) (k2 + bs) Q
def px_r_iret (G : px_G) (P : px_P) : Prop := ∀ (M : px_M) (pc nx d bc bs : Nat) (tg : List Nat) (z : Int32) (lv : List (Nat × Value)) (ws : va_W) (Q : Option Value → va_W → Prop) (x : Int32) (ty : FieldType), (px_at M pc = some (.ireturn, nx, tg, z)) → (px_t M = some ty) → (narrow ty (.int x) = .int x) → (Q (some (.int x)) ws) → P M pc lv [.int x] ws d bc bs Q
def px_r_vret (G : px_G) (P : px_P) : Prop := ∀ (M : px_M) (pc nx d bc bs : Nat) (tg : List Nat) (z : Int32) (lv : List (Nat × Value)) (ws : va_W) (Q : Option Value → va_W → Prop), (px_at M pc = some (.return_, nx, tg, z)) → (px_t M = none) → (Q none ws) → P M pc lv [] ws d bc bs Q
def px_r_aret (G : px_G) (P : px_P) : Prop := ∀ (M : px_M) (pc nx d bc bs : Nat) (tg : List Nat) (z : Int32) (lv : List (Nat × Value)) (ws : va_W) (Q : Option Value → va_W → Prop) (r : Option Nat) (ty : FieldType), (px_at M pc = some (.areturn, nx, tg, z)) → (px_t M = some ty) → ((∃ n, ty = .object n) ∨ ∃ t, ty = .array t) → (Q (some (va_rf r)) ws) → P M pc lv [va_rf r] ws d bc bs Q
def px_r_ldc (G : px_G) (P : px_P) : Prop := ∀ (M : px_M) (pc nx d bc bs : Nat) (tg : List Nat) (z : Int32) (lv : List (Nat × Value)) (st : List Value) (ws : va_W) (Q : Option Value → va_W → Prop) (idx : Nat) (v : Int32), (px_at M pc = some (.ldc idx, nx, tg, z)) → (Cond.constant (px_y M).cls idx v ∈ px_TB) → P M nx lv (.int v :: st) ws d bc bs Q → P M pc lv st ws d bc bs Q
def px_r_castN (G : px_G) (P : px_P) : Prop := ∀ (M : px_M) (pc nx d bc bs : Nat) (tg : List Nat) (z : Int32) (lv : List (Nat × Value)) (st : List Value) (ws : va_W) (Q : Option Value → va_W → Prop) (idx : Nat), (px_at M pc = some (.checkcast idx, nx, tg, z)) → P M nx lv (.null :: st) ws d bc bs Q → P M pc lv (.null :: st) ws d bc bs Q
def px_r_castS (G : px_G) (P : px_P) : Prop := ∀ (M : px_M) (pc nx d bc bs : Nat) (tg : List Nat) (z : Int32) (lv : List (Nat × Value)) (st : List Value) (ws : va_W) (Q : Option Value → va_W → Prop) (idx ci a : Nat) (fs : List Value), (px_at M pc = some (.checkcast idx, nx, tg, z)) → (px_Cs (px_y M).cls idx ci) → (px_lk ws a = some (.inr (ci, fs))) → P M nx lv (.ref a :: st) ws d bc bs Q → P M pc lv (.ref a :: st) ws d bc bs Q
def px_r_iald (G : px_G) (P : px_P) : Prop := ∀ (M : px_M) (pc nx d bc bs : Nat) (tg : List Nat) (z : Int32) (lv : List (Nat × Value)) (st : List Value) (ws : va_W) (Q : Option Value → va_W → Prop) (a t n : Nat) (f : Nat → Int32) (j : Int32), (px_at M pc = some (.iaload, nx, tg, z)) → ((px_tys (g_dA G))[t]? = some (g_dA G t, .int)) → (px_lk ws a = some (.inl (g_dA G t, n, .inl f))) → (vp_in j n) → P M nx lv (.int (f j.toNatClampNeg) :: st) ws d bc bs Q → P M pc lv (.int j :: .ref a :: st) ws d bc bs Q
def px_r_zald (G : px_G) (P : px_P) : Prop := ∀ (M : px_M) (pc nx d bc bs : Nat) (tg : List Nat) (z : Int32) (lv : List (Nat × Value)) (st : List Value) (ws : va_W) (Q : Option Value → va_W → Prop) (a t n : Nat) (f : Nat → Int32) (j : Int32), (px_at M pc = some (.baload, nx, tg, z)) → ((px_tys (g_dA G))[t]? = some (g_dA G t, .boolean)) → (px_lk ws a = some (.inl (g_dA G t, n, .inl f))) → (vp_in j n) → P M nx lv (.int (f j.toNatClampNeg) :: st) ws d bc bs Q → P M pc lv (.int j :: .ref a :: st) ws d bc bs Q
def px_r_iast (G : px_G) (P : px_P) : Prop := ∀ (M : px_M) (pc nx d bc bs : Nat) (tg : List Nat) (z : Int32) (lv : List (Nat × Value)) (st : List Value) (ws : va_W) (Q : Option Value → va_W → Prop) (a t n : Nat) (f : Nat → Int32) (j x : Int32), (px_at M pc = some (.iastore, nx, tg, z)) → ((px_tys (g_dA G))[t]? = some (g_dA G t, .int)) → (px_lk ws a = some (.inl (g_dA G t, n, .inl f))) → (vp_in j n) → P M nx lv st (px_up ws a (.inl (g_dA G t, n, .inl (upd f j.toNatClampNeg x)))) d bc bs Q → P M pc lv (.int x :: .int j :: .ref a :: st) ws d bc bs Q
def px_r_zast (G : px_G) (P : px_P) : Prop := ∀ (M : px_M) (pc nx d bc bs : Nat) (tg : List Nat) (z : Int32) (lv : List (Nat × Value)) (st : List Value) (ws : va_W) (Q : Option Value → va_W → Prop) (a t n : Nat) (f : Nat → Int32) (j x : Int32), (px_at M pc = some (.bastore, nx, tg, z)) → ((px_tys (g_dA G))[t]? = some (g_dA G t, .boolean)) → (px_lk ws a = some (.inl (g_dA G t, n, .inl f))) → (vp_in j n) → P M nx lv st (px_up ws a (.inl (g_dA G t, n, .inl (upd f j.toNatClampNeg (vp_nar .boolean x))))) d bc bs Q → P M pc lv (.int x :: .int j :: .ref a :: st) ws d bc bs Q
def px_r_aald (G : px_G) (P : px_P) : Prop := ∀ (M : px_M) (pc nx d bc bs : Nat) (tg : List Nat) (z : Int32) (lv : List (Nat × Value)) (st : List Value) (ws : va_W) (Q : Option Value → va_W → Prop) (a t n : Nat) (K : String) (f : Nat → Option Nat) (j : Int32), (px_at M pc = some (.aaload, nx, tg, z)) → ((px_tys (g_dA G))[t]? = some (g_dA G t, .object K)) → (px_lk ws a = some (.inl (g_dA G t, n, .inr (.inr (.inr (.inr f)))))) → (vp_in j n) → P M nx lv (va_rf (f j.toNatClampNeg) :: st) ws d bc bs Q → P M pc lv (.int j :: .ref a :: st) ws d bc bs Q
def px_r_aastN (G : px_G) (P : px_P) : Prop := ∀ (M : px_M) (pc nx d bc bs : Nat) (tg : List Nat) (z : Int32) (lv : List (Nat × Value)) (st : List Value) (ws : va_W) (Q : Option Value → va_W → Prop) (a t n : Nat) (K : String) (f : Nat → Option Nat) (j : Int32), (px_at M pc = some (.aastore, nx, tg, z)) → ((px_tys (g_dA G))[t]? = some (g_dA G t, .object K)) → (px_lk ws a = some (.inl (g_dA G t, n, .inr (.inr (.inr (.inr f)))))) → (vp_in j n) → P M nx lv st (px_up ws a (.inl (g_dA G t, n, .inr (.inr (.inr (.inr (va_up f j.toNatClampNeg none))))))) d bc bs Q → P M pc lv (.null :: .int j :: .ref a :: st) ws d bc bs Q
def px_r_aast (G : px_G) (P : px_P) : Prop := ∀ (M : px_M) (pc nx d bc bs : Nat) (tg : List Nat) (z : Int32) (lv : List (Nat × Value)) (st : List Value) (ws : va_W) (Q : Option Value → va_W → Prop) (a t n v ci : Nat) (K C0 : String) (T : u_T) (N : Nat) (f : Nat → Option Nat) (vs : List Value) (j : Int32), (px_at M pc = some (.aastore, nx, tg, z)) → ((px_tys (g_dA G))[t]? = some (g_dA G t, .object K)) → (px_lk ws a = some (.inl (g_dA G t, n, .inr (.inr (.inr (.inr f)))))) → (px_cl[ci]? = some (C0, T, N)) → (Cond.castable C0 K ∈ px_NW) → (px_lk ws v = some (.inr (ci, vs))) → (vp_in j n) → P M nx lv st (px_up ws a (.inl (g_dA G t, n, .inr (.inr (.inr (.inr (va_up f j.toNatClampNeg (some v)))))))) d bc bs Q → P M pc lv (.ref v :: .int j :: .ref a :: st) ws d bc bs Q
def px_r_alen (G : px_G) (P : px_P) : Prop := ∀ (M : px_M) (pc nx d bc bs : Nat) (tg : List Nat) (z : Int32) (lv : List (Nat × Value)) (st : List Value) (ws : va_W) (Q : Option Value → va_W → Prop) (a t n : Nat) (x : vp_A) (ty : FieldType), (px_at M pc = some (.arraylength, nx, tg, z)) → ((px_tys (g_dA G))[t]? = some (g_dA G t, ty)) → (px_lk ws a = some (.inl (g_dA G t, x))) → (x.1 = n) → P M nx lv (.int (nI n) :: st) ws d bc bs Q → P M pc lv (.ref a :: st) ws d bc bs Q
def px_r_sld (G : px_G) (P : px_P) : Prop := ∀ (M : px_M) (pc nx d bc bs : Nat) (tg : List Nat) (z : Int32) (lv : List (Nat × Value)) (st : List Value) (ws : va_W) (Q : Option Value → va_W → Prop) (j : Int32), (px_at M pc = some (.iaload, nx, tg, z)) → (vp_in j (g_n G)) → P M nx lv (.int (g_x G j.toNatClampNeg) :: st) ws d bc bs Q → P M pc lv (.int j :: .ref (g_b G) :: st) ws d bc bs Q
def px_r_slen (G : px_G) (P : px_P) : Prop := ∀ (M : px_M) (pc nx d bc bs : Nat) (tg : List Nat) (z : Int32) (lv : List (Nat × Value)) (st : List Value) (ws : va_W) (Q : Option Value → va_W → Prop), (px_at M pc = some (.arraylength, nx, tg, z)) → P M nx lv (.int (nI (g_n G)) :: st) ws d bc bs Q → P M pc lv (.ref (g_b G) :: st) ws d bc bs Q
def px_r_newI (G : px_G) (P : px_P) : Prop := ∀ (M : px_M) (pc nx d bc bs : Nat) (tg : List Nat) (z : Int32) (lv : List (Nat × Value)) (st : List Value) (ws : va_W) (Q : Option Value → va_W → Prop) (t N : Nat) (n : Int32), (px_at M pc = some (.newarray .int, nx, tg, z)) → ((px_tys (g_dA G))[t]? = some (g_dA G t, .int)) → (Cond.arrayClass .int ∈ px_TB) → (¬ n < 0) → (n.toNatClampNeg = N) → (N * 4 ≤ 536870912) → (∀ q : Nat, px_lk ws q = none → g_lo G ≤ q → P M nx lv (.ref q :: st) (ws ++ [(q, .inl (g_dA G t, N, .inl (fun _ => 0)))]) d bc bs Q) → P M pc lv (.int n :: st) ws d (bc + 1) (bs + N) Q
def px_r_newZ (G : px_G) (P : px_P) : Prop := ∀ (M : px_M) (pc nx d bc bs : Nat) (tg : List Nat) (z : Int32) (lv : List (Nat × Value)) (st : List Value) (ws : va_W) (Q : Option Value → va_W → Prop) (t N : Nat) (n : Int32), (px_at M pc = some (.newarray .boolean, nx, tg, z)) → ((px_tys (g_dA G))[t]? = some (g_dA G t, .boolean)) → (Cond.arrayClass .boolean ∈ px_TB) → (¬ n < 0) → (n.toNatClampNeg = N) → (N * componentBytes .boolean ≤ 536870912) → (∀ q : Nat, px_lk ws q = none → g_lo G ≤ q → P M nx lv (.ref q :: st) (ws ++ [(q, .inl (g_dA G t, N, .inl (fun _ => 0)))]) d bc bs Q) → P M pc lv (.int n :: st) ws d (bc + 1) (bs + N) Q
def px_r_newQ (G : px_G) (P : px_P) : Prop := ∀ (M : px_M) (pc nx d bc bs : Nat) (tg : List Nat) (z : Int32) (lv : List (Nat × Value)) (st : List Value) (ws : va_W) (Q : Option Value → va_W → Prop) (idx t N : Nat) (n : Int32), (px_at M pc = some (.anewarray idx, nx, tg, z)) → ((px_tys (g_dA G))[t]? = some (g_dA G t, .object "java/lang/Object")) → (Cond.classLink (px_y M).cls idx "java/lang/Object" ∈ px_TB) → (¬ n < 0) → (n.toNatClampNeg = N) → (N * 4 ≤ 536870912) → (∀ q : Nat, px_lk ws q = none → g_lo G ≤ q → P M nx lv (.ref q :: st) (ws ++ [(q, .inl (g_dA G t, N, .inr (.inr (.inr (.inr (fun _ => none))))))]) d bc bs Q) → P M pc lv (.int n :: st) ws d (bc + 1) (bs + N) Q
def px_r_objI (G : px_G) (P : px_P) : Prop := ∀ (M : px_M) (pc nx d bc bs : Nat) (tg : List Nat) (z : Int32) (lv : List (Nat × Value)) (st : List Value) (ws : va_W) (Q : Option Value → va_W → Prop) (idx a : Nat), (px_at M pc = some (.invokespecial idx, nx, tg, z)) → (Cond.methodLink (px_y M).cls idx objectInit ∈ px_TB) → (Cond.instanceMethod objectInit ∈ px_TB) → (Cond.code objectInit ⟨#[0xb1]⟩ 1 none ∈ px_TB) → ((st.map fun v => v.category).sum ≤ 8) → P M nx lv st ws (d + 1) bc bs Q → P M pc lv (.ref a :: st) ws (d + 1) bc bs Q
def px_r_max (G : px_G) (P : px_P) : Prop := ∀ (M : px_M) (pc nx d bc bs : Nat) (tg : List Nat) (z : Int32) (lv : List (Nat × Value)) (st : List Value) (ws : va_W) (Q : Option Value → va_W → Prop) (idx : Nat) (x y : Int32), (px_at M pc = some (.invokestatic idx, nx, tg, z)) → (Cond.methodLink (px_y M).cls idx Lib.Math.max.name ∈ px_TB) → (Cond.static Lib.Math.max.name ∈ px_TB) → (Cond.initialized "java/lang/Math" ∈ px_TB) → (Cond.code Lib.Math.max.name Lib.Math.max.code 2 (some .int) ∈ px_TB) → ((st.map fun v => v.category).sum ≤ 8) → P M nx lv (.int (if x < y then y else x) :: st) ws (d + 1) bc bs Q → P M pc lv (.int y :: .int x :: st) ws (d + 1) bc bs Q
def px_r_min (G : px_G) (P : px_P) : Prop := ∀ (M : px_M) (pc nx d bc bs : Nat) (tg : List Nat) (z : Int32) (lv : List (Nat × Value)) (st : List Value) (ws : va_W) (Q : Option Value → va_W → Prop) (idx : Nat) (x y : Int32), (px_at M pc = some (.invokestatic idx, nx, tg, z)) → (Cond.methodLink (px_y M).cls idx Lib.Math.min.name ∈ px_TB) → (Cond.static Lib.Math.min.name ∈ px_TB) → (Cond.initialized "java/lang/Math" ∈ px_TB) → (Cond.code Lib.Math.min.name Lib.Math.min.code 2 (some .int) ∈ px_TB) → ((st.map fun v => v.category).sum ≤ 8) → P M nx lv (.int (if y < x then y else x) :: st) ws (d + 1) bc bs Q → P M pc lv (.int y :: .int x :: st) ws (d + 1) bc bs Q
def px_r_tabO (G : px_G) (P : px_P) : Prop := ∀ (M : px_M) (pc nx d bc bs : Nat) (tg : List Nat) (z : Int32) (lv : List (Nat × Value)) (st : List Value) (ws : va_W) (Q : Option Value → va_W → Prop) (df lw hi : Int) (os : Array Int) (t : Nat) (x : Int32), (px_at M pc = some (.tableswitch df lw hi os, nx, tg, z)) → (x.toInt < lw ∨ hi < x.toInt) → ((pc : Int) + df = (t : Int)) → P M t lv st ws d bc bs Q → P M pc lv (.int x :: st) ws d bc bs Q
def px_r_tabI (G : px_G) (P : px_P) : Prop := ∀ (M : px_M) (pc nx d bc bs : Nat) (tg : List Nat) (z : Int32) (lv : List (Nat × Value)) (st : List Value) (ws : va_W) (Q : Option Value → va_W → Prop) (df lw hi of : Int) (os : Array Int) (t : Nat) (x : Int32), (px_at M pc = some (.tableswitch df lw hi os, nx, tg, z)) → (¬ x.toInt < lw) → (¬ hi < x.toInt) → (os[(x.toInt - lw).toNat]? = some of) → ((pc : Int) + of = (t : Int)) → P M t lv st ws d bc bs Q → P M pc lv (.int x :: st) ws d bc bs Q
def px_r_gets (G : px_G) (P : px_P) : Prop := ∀ (M : px_M) (pc nx d bc bs : Nat) (tg : List Nat) (z : Int32) (lv : List (Nat × Value)) (st : List Value) (ws : va_W) (Q : Option Value → va_W → Prop) (idx k : Nat) (q : String × String × String), (px_at M pc = some (.getstatic idx, nx, tg, z)) → (px_SL[k]? = some q) → (Cond.fieldLink (px_y M).cls idx q.1 q.2.1 q.2.2 ∈ px_TB) → P M nx lv (.ref (g_sv G k) :: st) ws d bc bs Q → P M pc lv st ws d bc bs Q
def px_r_tlen (G : px_G) (P : px_P) : Prop := ∀ (M : px_M) (pc nx d bc bs : Nat) (tg : List Nat) (z : Int32) (lv : List (Nat × Value)) (st : List Value) (ws : va_W) (Q : Option Value → va_W → Prop) (k : Nat) (q : String × String × String), (px_at M pc = some (.arraylength, nx, tg, z)) → (px_SL[k]? = some q) → P M nx lv (.int 0 :: st) ws d bc bs Q → P M pc lv (.ref (g_sv G k) :: st) ws d bc bs Q
def px_r_ldcw (G : px_G) (P : px_P) : Prop := ∀ (M : px_M) (pc nx d bc bs : Nat) (tg : List Nat) (z : Int32) (lv : List (Nat × Value)) (st : List Value) (ws : va_W) (Q : Option Value → va_W → Prop) (idx : Nat) (v : Int32), (px_at M pc = some (.ldc_w idx, nx, tg, z)) → (Cond.constant (px_y M).cls idx v ∈ px_TB) → P M nx lv (.int v :: st) ws d bc bs Q → P M pc lv st ws d bc bs Q
def px_r_ldcM (G : px_G) (P : px_P) : Prop := ∀ (M : px_M) (pc nx d bc bs : Nat) (tg : List Nat) (z : Int32) (lv : List (Nat × Value)) (st : List Value) (ws : va_W) (Q : Option Value → va_W → Prop) (idx : Nat), (px_at M pc = some (.ldc idx, nx, tg, z)) → (Cond.classLink (px_y M).cls idx "[Ljava/lang/Object;" ∈ px_TB) → P M nx lv (.ref (g_sv G 1) :: st) ws d bc bs Q → P M pc lv st ws d bc bs Q
def px_r_getC (G : px_G) (P : px_P) : Prop := ∀ (M : px_M) (pc nx d bc bs : Nat) (tg : List Nat) (z : Int32) (lv : List (Nat × Value)) (st : List Value) (ws : va_W) (Q : Option Value → va_W → Prop) (idx a n : Nat) (f : Nat → Option Nat), (px_at M pc = some (.invokevirtual idx, nx, tg, z)) → (Cond.methodLink (px_y M).cls idx ⟨"java/lang/Object", "getClass", "()Ljava/lang/Class;"⟩ ∈ px_TB) → (px_lk ws a = some (.inl (g_dA G 2, n, .inr (.inr (.inr (.inr f)))))) → ((st.map fun v => v.category).sum ≤ 8) → P M nx lv (.ref (g_sv G 1) :: st) ws (d + 1) bc bs Q → P M pc lv (.ref a :: st) ws (d + 1) bc bs Q
def px_r_copy (G : px_G) (P : px_P) : Prop := ∀ (M : px_M) (pc nx d bc bs : Nat) (tg : List Nat) (z : Int32) (lv : List (Nat × Value)) (st : List Value) (ws : va_W) (Q : Option Value → va_W → Prop) (idx a0 a n0 n1 : Nat) (f g : Nat → Option Nat) (sp dp n : Int32), (px_at M pc = some (.invokestatic idx, nx, tg, z)) → (Cond.methodLink (px_y M).cls idx arraycopyName ∈ px_TB) → (px_lk ws a0 = some (.inl (g_dA G 2, n0, .inr (.inr (.inr (.inr f)))))) → (px_lk ws a = some (.inl (g_dA G 2, n1, .inr (.inr (.inr (.inr g)))))) → (¬ sp < 0) → (¬ dp < 0) → (¬ n < 0) → (sp.toNatClampNeg + n.toNatClampNeg ≤ n0) → (dp.toNatClampNeg + n.toNatClampNeg ≤ n1) → (∀ i : Nat, i < n.toNatClampNeg → ∀ y : Nat, f (sp.toNatClampNeg + i) = some y → px_ob ws y) → ((st.map fun v => v.category).sum ≤ 8) → P M nx lv st (px_up ws a (.inl (g_dA G 2, n1, .inr (.inr (.inr (.inr (va_cpy f g sp.toNatClampNeg dp.toNatClampNeg n.toNatClampNeg))))))) (d + 1) bc bs Q → P M pc lv (.int n :: .int dp :: .ref a :: .int sp :: .ref a0 :: st) ws (d + 1) bc bs Q
def px_r_callV (G : px_G) (P : px_P) : Prop := ∀ (M : px_M) (pc nx d bc bs : Nat) (tg : List Nat) (z : Int32) (lv : List (Nat × Value)) (st : List Value) (ws : va_W) (Q : Option Value → va_W → Prop) (idx kc ks n B S : Nat) (M' : px_M) (As rest : List Value) (Rq : Option Value → va_W → Prop) (b ci : Nat) (C0 : String) (T : u_T) (N : Nat) (fs : List Value), (px_at M pc = some (.invokevirtual idx, nx, tg, z)) → (px_cV (px_y M).cls idx C0 M' n) → (px_cl[ci]? = some (C0, T, N)) → (px_lk ws b = some (.inr (ci, fs))) → (px_good M') → (px_spl n [] st = some (As, .ref b :: rest)) → (bc + kc = B) → (bs + ks = S) → ((lg_sl (.ref b :: As)).length ≤ px_L M') → ((rest.map fun v => v.category).sum ≤ 8) → P M' 0 (lv_args 0 (.ref b :: As)) [] ws d kc ks Rq → (∀ (v : Option Value) (ws2 : va_W), Rq v ws2 → P M nx lv (v.toList ++ rest) ws2 (d + 1) bc bs Q) → P M pc lv st ws (d + 1) B S Q
def px_r_callVN (G : px_G) (P : px_P) : Prop := ∀ (M : px_M) (pc nx d bc bs : Nat) (tg : List Nat) (z : Int32) (lv : List (Nat × Value)) (st : List Value) (ws : va_W) (Q : Option Value → va_W → Prop) (idx kc ks n B S : Nat) (M' : px_M) (As rest : List Value) (Rq : Option Value → va_W → Prop) (b ci : Nat) (C0 host : String) (T : u_T) (N : Nat) (fs : List Value), (px_at M pc = some (.invokevirtual idx, nx, tg, z)) → (px_cVN (px_y M).cls idx C0 host M' n) → (px_cl[ci]? = some (C0, T, N)) → (px_lk ws b = some (.inr (ci, fs))) → (px_good M') → (px_spl n [] st = some (As, .ref b :: rest)) → (bc + kc = B) → (bs + ks = S) → ((lg_sl (.ref b :: As)).length ≤ px_L M') → ((rest.map fun v => v.category).sum ≤ 8) → P M' 0 (lv_args 0 (.ref b :: As)) [] ws d kc ks Rq → (∀ (v : Option Value) (ws2 : va_W), Rq v ws2 → P M nx lv (v.toList ++ rest) ws2 (d + 1) bc bs Q) → P M pc lv st ws (d + 1) B S Q
def px_r_callS (G : px_G) (P : px_P) : Prop := ∀ (M : px_M) (pc nx d bc bs : Nat) (tg : List Nat) (z : Int32) (lv : List (Nat × Value)) (st : List Value) (ws : va_W) (Q : Option Value → va_W → Prop) (idx kc ks n B S : Nat) (M' : px_M) (As rest : List Value) (Rq : Option Value → va_W → Prop), (px_at M pc = some (.invokestatic idx, nx, tg, z)) → (px_cS (px_y M).cls idx M' n) → (px_good M') → (px_spl n [] st = some (As, rest)) → (bc + kc = B) → (bs + ks = S) → ((lg_sl (As)).length ≤ px_L M') → ((rest.map fun v => v.category).sum ≤ 8) → P M' 0 (lv_args 0 (As)) [] ws d kc ks Rq → (∀ (v : Option Value) (ws2 : va_W), Rq v ws2 → P M nx lv (v.toList ++ rest) ws2 (d + 1) bc bs Q) → P M pc lv st ws (d + 1) B S Q
def px_r_callI (G : px_G) (P : px_P) : Prop := ∀ (M : px_M) (pc nx d bc bs : Nat) (tg : List Nat) (z : Int32) (lv : List (Nat × Value)) (st : List Value) (ws : va_W) (Q : Option Value → va_W → Prop) (idx kc ks n B S : Nat) (M' : px_M) (As rest : List Value) (Rq : Option Value → va_W → Prop) (b : Nat), (px_at M pc = some (.invokespecial idx, nx, tg, z)) → (px_cI (px_y M).cls idx M' n) → (px_good M') → (px_spl n [] st = some (As, .ref b :: rest)) → (bc + kc = B) → (bs + ks = S) → ((lg_sl (.ref b :: As)).length ≤ px_L M') → ((rest.map fun v => v.category).sum ≤ 8) → P M' 0 (lv_args 0 (.ref b :: As)) [] ws d kc ks Rq → (∀ (v : Option Value) (ws2 : va_W), Rq v ws2 → P M nx lv (v.toList ++ rest) ws2 (d + 1) bc bs Q) → P M pc lv st ws (d + 1) B S Q
def px_r_callIN (G : px_G) (P : px_P) : Prop := ∀ (M : px_M) (pc nx d bc bs : Nat) (tg : List Nat) (z : Int32) (lv : List (Nat × Value)) (st : List Value) (ws : va_W) (Q : Option Value → va_W → Prop) (idx kc ks n B S : Nat) (M' : px_M) (As rest : List Value) (Rq : Option Value → va_W → Prop) (b : Nat) (host : String), (px_at M pc = some (.invokespecial idx, nx, tg, z)) → (px_cIN (px_y M).cls idx host M' n) → (px_good M') → (px_spl n [] st = some (As, .ref b :: rest)) → (bc + kc = B) → (bs + ks = S) → ((lg_sl (.ref b :: As)).length ≤ px_L M') → ((rest.map fun v => v.category).sum ≤ 8) → P M' 0 (lv_args 0 (.ref b :: As)) [] ws d kc ks Rq → (∀ (v : Option Value) (ws2 : va_W), Rq v ws2 → P M nx lv (v.toList ++ rest) ws2 (d + 1) bc bs Q) → P M pc lv st ws (d + 1) B S Q
def px_r_wf (G : px_G) (P : px_P) : Prop := ∀ (M : px_M) (pc d bc bs : Nat) (lv : List (Nat × Value)) (st : List Value) (ws : va_W) (Q : Option Value → va_W → Prop), ((∀ (a : Nat) (x : va_E), px_lk ws a = some x → g_lo G ≤ a) ∧ g_sv G 0 < g_lo G → P M pc lv st ws d bc bs Q) → P M pc lv st ws d bc bs Q
def px_r_lv (G : px_G) (P : px_P) : Prop := ∀ (M : px_M) (pc d bc bs : Nat) (lv : List (Nat × Value)) (st : List Value) (ws : va_W) (Q : Option Value → va_W → Prop) (lv2 : List (Nat × Value)) (ks : List Nat), (lv_pick lv ks = lv2) → P M pc lv2 st ws d bc bs Q → P M pc lv st ws d bc bs Q
def px_r_post (G : px_G) (P : px_P) : Prop := ∀ (M : px_M) (pc d bc bs : Nat) (lv : List (Nat × Value)) (st : List Value) (ws : va_W) (Q : Option Value → va_W → Prop) (Q1 : Option Value → va_W → Prop), (∀ (v : Option Value) (w : va_W), Q1 v w → Q v w) → P M pc lv st ws d bc bs Q1 → P M pc lv st ws d bc bs Q
def px_Cl (G : px_G) (P : px_P) : Prop := px_r_s G P ∧ px_r_aloadR G P ∧ px_r_astoreR G P ∧ px_r_goto G P ∧ px_r_if G P ∧ px_r_icmp G P ∧ px_r_ifnull G P ∧ px_r_ifnonnull G P ∧ px_r_acmpeq G P ∧ px_r_acmpne G P ∧ px_r_idiv G P ∧ px_r_irem G P ∧ px_r_get G P ∧ px_r_getN G P ∧ px_r_put G P ∧ px_r_putF G P ∧ px_r_new G P ∧ px_r_weak G P ∧ px_r_iret G P ∧ px_r_vret G P ∧ px_r_aret G P ∧ px_r_ldc G P ∧ px_r_castN G P ∧ px_r_castS G P ∧ px_r_iald G P ∧ px_r_zald G P ∧ px_r_iast G P ∧ px_r_zast G P ∧ px_r_aald G P ∧ px_r_aastN G P ∧ px_r_aast G P ∧ px_r_alen G P ∧ px_r_sld G P ∧ px_r_slen G P ∧ px_r_newI G P ∧ px_r_newZ G P ∧ px_r_newQ G P ∧ px_r_objI G P ∧ px_r_max G P ∧ px_r_min G P ∧ px_r_tabO G P ∧ px_r_tabI G P ∧ px_r_gets G P ∧ px_r_tlen G P ∧ px_r_ldcw G P ∧ px_r_ldcM G P ∧ px_r_getC G P ∧ px_r_copy G P ∧ px_r_callV G P ∧ px_r_callVN G P ∧ px_r_callS G P ∧ px_r_callI G P ∧ px_r_callIN G P ∧ px_r_wf G P ∧ px_r_lv G P ∧ px_r_post G P
/-- what holds of the small machine: the least that the rules give -/
def px (G : px_G) : px_P := fun M pc lv st ws d bc bs Q => ∀ P : px_P, px_Cl G P → P M pc lv st ws d bc bs Q
theorem p_s {G : px_G} {M : px_M} {pc nx d bc bs : Nat} {tg : List Nat} {z : Int32} {lv : List (Nat × Value)} {st : List Value} {ws : va_W} {Q : Option Value → va_W → Prop} {i : Jvm.ClassFile.Instr} {lv' : List (Nat × Value)} {st' : List Value} (ha : px_at M pc = some (i, nx, tg, z)) (hs : px_step (px_L M) i z lv st = some (lv', st')) (kk : px G M nx lv' st' ws d bc bs Q) : px G M pc lv st ws d bc bs Q := fun P hP => hP.1 M pc nx d bc bs tg z lv st ws Q i lv' st' ha hs (kk P hP)
theorem p_aloadR {G : px_G} {M : px_M} {pc nx d bc bs : Nat} {tg : List Nat} {z : Int32} {lv : List (Nat × Value)} {st : List Value} {ws : va_W} {Q : Option Value → va_W → Prop} {i : Jvm.ClassFile.Instr} {n : Nat} {r : Option Nat} (ha : px_at M pc = some (i, nx, tg, z)) (hi : px_isAload i = some n) (hg : px_get lv n = some (va_rf r)) (kk : px G M nx lv (va_rf r :: st) ws d bc bs Q) : px G M pc lv st ws d bc bs Q := fun P hP => hP.2.1 M pc nx d bc bs tg z lv st ws Q i n r ha hi hg (kk P hP)
theorem p_astoreR {G : px_G} {M : px_M} {pc nx d bc bs : Nat} {tg : List Nat} {z : Int32} {lv : List (Nat × Value)} {st : List Value} {ws : va_W} {Q : Option Value → va_W → Prop} {i : Jvm.ClassFile.Instr} {n : Nat} {r : Option Nat} (ha : px_at M pc = some (i, nx, tg, z)) (hi : px_isAstore i = some n) (hn : n < px_L M) (kk : px G M nx (px_put lv n (va_rf r)) st ws d bc bs Q) : px G M pc lv (va_rf r :: st) ws d bc bs Q := fun P hP => hP.2.2.1 M pc nx d bc bs tg z lv st ws Q i n r ha hi hn (kk P hP)
theorem p_goto {G : px_G} {M : px_M} {pc nx d bc bs : Nat} {z : Int32} {lv : List (Nat × Value)} {st : List Value} {ws : va_W} {Q : Option Value → va_W → Prop} {off : Int} {t : Nat} (ha : px_at M pc = some (.goto off, nx, [t], z)) (kk : px G M t lv st ws d bc bs Q) : px G M pc lv st ws d bc bs Q := fun P hP => hP.2.2.2.1 M pc nx d bc bs z lv st ws Q off t ha (kk P hP)
theorem p_if {G : px_G} {M : px_M} {pc nx d bc bs : Nat} {z : Int32} {lv : List (Nat × Value)} {st : List Value} {ws : va_W} {Q : Option Value → va_W → Prop} {cc : Jvm.ClassFile.Cond} {off : Int} {t : Nat} {x : Int32} (ha : px_at M pc = some (.ifCond cc off, nx, [t], z)) (kt : px_cmp cc x 0 → px G M t lv st ws d bc bs Q) (kf : px_ncmp cc x 0 → px G M nx lv st ws d bc bs Q) : px G M pc lv (.int x :: st) ws d bc bs Q := fun P hP => hP.2.2.2.2.1 M pc nx d bc bs z lv st ws Q cc off t x ha (fun h0 => kt h0 P hP) (fun h0 => kf h0 P hP)
theorem p_icmp {G : px_G} {M : px_M} {pc nx d bc bs : Nat} {z : Int32} {lv : List (Nat × Value)} {st : List Value} {ws : va_W} {Q : Option Value → va_W → Prop} {cc : Jvm.ClassFile.Cond} {off : Int} {t : Nat} {x y : Int32} (ha : px_at M pc = some (.if_icmp cc off, nx, [t], z)) (kt : px_cmp cc x y → px G M t lv st ws d bc bs Q) (kf : px_ncmp cc x y → px G M nx lv st ws d bc bs Q) : px G M pc lv (.int y :: .int x :: st) ws d bc bs Q := fun P hP => hP.2.2.2.2.2.1 M pc nx d bc bs z lv st ws Q cc off t x y ha (fun h0 => kt h0 P hP) (fun h0 => kf h0 P hP)
theorem p_ifnull {G : px_G} {M : px_M} {pc nx d bc bs : Nat} {z : Int32} {lv : List (Nat × Value)} {st : List Value} {ws : va_W} {Q : Option Value → va_W → Prop} {off : Int} {t : Nat} {r : Option Nat} (ha : px_at M pc = some (.ifnull off, nx, [t], z)) (kt : r = none → px G M t lv st ws d bc bs Q) (kf : r ≠ none → px G M nx lv st ws d bc bs Q) : px G M pc lv (va_rf r :: st) ws d bc bs Q := fun P hP => hP.2.2.2.2.2.2.1 M pc nx d bc bs z lv st ws Q off t r ha (fun h0 => kt h0 P hP) (fun h0 => kf h0 P hP)
theorem p_ifnonnull {G : px_G} {M : px_M} {pc nx d bc bs : Nat} {z : Int32} {lv : List (Nat × Value)} {st : List Value} {ws : va_W} {Q : Option Value → va_W → Prop} {off : Int} {t : Nat} {r : Option Nat} (ha : px_at M pc = some (.ifnonnull off, nx, [t], z)) (kt : r ≠ none → px G M t lv st ws d bc bs Q) (kf : r = none → px G M nx lv st ws d bc bs Q) : px G M pc lv (va_rf r :: st) ws d bc bs Q := fun P hP => hP.2.2.2.2.2.2.2.1 M pc nx d bc bs z lv st ws Q off t r ha (fun h0 => kt h0 P hP) (fun h0 => kf h0 P hP)
theorem p_acmpeq {G : px_G} {M : px_M} {pc nx d bc bs : Nat} {z : Int32} {lv : List (Nat × Value)} {st : List Value} {ws : va_W} {Q : Option Value → va_W → Prop} {off : Int} {t : Nat} {rx ry : Option Nat} (ha : px_at M pc = some (.if_acmp .eq off, nx, [t], z)) (kt : rx = ry → px G M t lv st ws d bc bs Q) (kf : ¬ rx = ry → px G M nx lv st ws d bc bs Q) : px G M pc lv (va_rf ry :: va_rf rx :: st) ws d bc bs Q := fun P hP => hP.2.2.2.2.2.2.2.2.1 M pc nx d bc bs z lv st ws Q off t rx ry ha (fun h0 => kt h0 P hP) (fun h0 => kf h0 P hP)
theorem p_acmpne {G : px_G} {M : px_M} {pc nx d bc bs : Nat} {z : Int32} {lv : List (Nat × Value)} {st : List Value} {ws : va_W} {Q : Option Value → va_W → Prop} {off : Int} {t : Nat} {rx ry : Option Nat} (ha : px_at M pc = some (.if_acmp .ne off, nx, [t], z)) (kt : ¬ rx = ry → px G M t lv st ws d bc bs Q) (kf : rx = ry → px G M nx lv st ws d bc bs Q) : px G M pc lv (va_rf ry :: va_rf rx :: st) ws d bc bs Q := fun P hP => hP.2.2.2.2.2.2.2.2.2.1 M pc nx d bc bs z lv st ws Q off t rx ry ha (fun h0 => kt h0 P hP) (fun h0 => kf h0 P hP)
theorem p_idiv {G : px_G} {M : px_M} {pc nx d bc bs : Nat} {tg : List Nat} {z : Int32} {lv : List (Nat × Value)} {st : List Value} {ws : va_W} {Q : Option Value → va_W → Prop} {x y : Int32} (ha : px_at M pc = some (.idiv, nx, tg, z)) (hy : ¬ y = 0) (kk : px G M nx lv (.int (x / y) :: st) ws d bc bs Q) : px G M pc lv (.int y :: .int x :: st) ws d bc bs Q := fun P hP => hP.2.2.2.2.2.2.2.2.2.2.1 M pc nx d bc bs tg z lv st ws Q x y ha hy (kk P hP)
theorem p_irem {G : px_G} {M : px_M} {pc nx d bc bs : Nat} {tg : List Nat} {z : Int32} {lv : List (Nat × Value)} {st : List Value} {ws : va_W} {Q : Option Value → va_W → Prop} {x y : Int32} (ha : px_at M pc = some (.irem, nx, tg, z)) (hy : ¬ y = 0) (kk : px G M nx lv (.int (x - x / y * y) :: st) ws d bc bs Q) : px G M pc lv (.int y :: .int x :: st) ws d bc bs Q := fun P hP => hP.2.2.2.2.2.2.2.2.2.2.2.1 M pc nx d bc bs tg z lv st ws Q x y ha hy (kk P hP)
theorem p_get {G : px_G} {M : px_M} {pc nx d bc bs : Nat} {tg : List Nat} {z : Int32} {lv : List (Nat × Value)} {st : List Value} {ws : va_W} {Q : Option Value → va_W → Prop} {idx ci k a : Nat} {fs : List Value} {v : Value} (ha : px_at M pc = some (.getfield idx, nx, tg, z)) (hF : px_Fd (px_y M).cls idx ci k) (hw : px_lk ws a = some (.inr (ci, fs))) (hv : fs[k]? = some v) (kk : px G M nx lv (v :: st) ws d bc bs Q) : px G M pc lv (.ref a :: st) ws d bc bs Q := fun P hP => hP.2.2.2.2.2.2.2.2.2.2.2.2.1 M pc nx d bc bs tg z lv st ws Q idx ci k a fs v ha hF hw hv (kk P hP)
theorem p_getN {G : px_G} {M : px_M} {pc nx d bc bs : Nat} {tg : List Nat} {z : Int32} {lv : List (Nat × Value)} {st : List Value} {ws : va_W} {Q : Option Value → va_W → Prop} {idx ci k a : Nat} {fs : List Value} {v : Value} (ha : px_at M pc = some (.getfield idx, nx, tg, z)) (hF : px_FdN (px_y M).cls idx ci k) (hw : px_lk ws a = some (.inr (ci, fs))) (hv : fs[k]? = some v) (kk : px G M nx lv (v :: st) ws d bc bs Q) : px G M pc lv (.ref a :: st) ws d bc bs Q := fun P hP => hP.2.2.2.2.2.2.2.2.2.2.2.2.2.1 M pc nx d bc bs tg z lv st ws Q idx ci k a fs v ha hF hw hv (kk P hP)
theorem p_put {G : px_G} {M : px_M} {pc nx d bc bs : Nat} {tg : List Nat} {z : Int32} {lv : List (Nat × Value)} {st : List Value} {ws : va_W} {Q : Option Value → va_W → Prop} {idx ci k a : Nat} {fs : List Value} {v : Value} {ty : FieldType} (ha : px_at M pc = some (.putfield idx, nx, tg, z)) (hF : px_Fp (px_y M).cls idx ci k ty) (hw : px_lk ws a = some (.inr (ci, fs))) (hn : narrow ty v = v) (hf : fits ty v = true) (hkl : k < fs.length) (kk : px G M nx lv st (px_up ws a (.inr (ci, fs.set k v))) d bc bs Q) : px G M pc lv (v :: .ref a :: st) ws d bc bs Q := fun P hP => hP.2.2.2.2.2.2.2.2.2.2.2.2.2.2.1 M pc nx d bc bs tg z lv st ws Q idx ci k a fs v ty ha hF hw hn hf hkl (kk P hP)
theorem p_putF {G : px_G} {M : px_M} {pc nx d bc bs : Nat} {tg : List Nat} {z : Int32} {lv : List (Nat × Value)} {st : List Value} {ws : va_W} {Q : Option Value → va_W → Prop} {idx ci k a : Nat} {fs : List Value} {v : Value} {ty : FieldType} (ha : px_at M pc = some (.putfield idx, nx, tg, z)) (hF : px_FpF (px_y M).cls idx ci k ty) (hi : (px_y M).name = "<init>") (hw : px_lk ws a = some (.inr (ci, fs))) (hn : narrow ty v = v) (hf : fits ty v = true) (hkl : k < fs.length) (kk : px G M nx lv st (px_up ws a (.inr (ci, fs.set k v))) d bc bs Q) : px G M pc lv (v :: .ref a :: st) ws d bc bs Q := fun P hP => hP.2.2.2.2.2.2.2.2.2.2.2.2.2.2.2.1 M pc nx d bc bs tg z lv st ws Q idx ci k a fs v ty ha hF hi hw hn hf hkl (kk P hP)
theorem p_new {G : px_G} {M : px_M} {pc nx d bc bs : Nat} {tg : List Nat} {z : Int32} {lv : List (Nat × Value)} {st : List Value} {ws : va_W} {Q : Option Value → va_W → Prop} {idx ci N : Nat} {fs : List Value} (ha : px_at M pc = some (.new idx, nx, tg, z)) (hF : px_Nc (px_y M).cls idx ci N fs) (kk : ∀ q : Nat, px_lk ws q = none → g_lo G ≤ q → px G M nx lv (.ref q :: st) (ws ++ [(q, .inr (ci, fs))]) d bc bs Q) : px G M pc lv st ws d (bc + 1) (bs + N) Q := fun P hP => hP.2.2.2.2.2.2.2.2.2.2.2.2.2.2.2.2.1 M pc nx d bc bs tg z lv st ws Q idx ci N fs ha hF (fun q h0 h1 => kk q h0 h1 P hP)
theorem p_weak {G : px_G} {M : px_M} {pc d bc bs : Nat} {lv : List (Nat × Value)} {st : List Value} {ws : va_W} {Q : Option Value → va_W → Prop} {dd k1 k2 : Nat} (kk : px G M pc lv st ws d bc bs Q) : px G M pc lv st ws (dd + d) (k1 + bc) (k2 + bs) Q := fun P hP => hP.2.2.2.2.2.2.2.2.2.2.2.2.2.2.2.2.2.1 M pc d bc bs lv st ws Q dd k1 k2 (kk P hP)
theorem p_iret {G : px_G} {M : px_M} {pc nx d bc bs : Nat} {tg : List Nat} {z : Int32} {lv : List (Nat × Value)} {ws : va_W} {Q : Option Value → va_W → Prop} {x : Int32} {ty : FieldType} (ha : px_at M pc = some (.ireturn, nx, tg, z)) (ht : px_t M = some ty) (hn : narrow ty (.int x) = .int x) (hq : Q (some (.int x)) ws) : px G M pc lv [.int x] ws d bc bs Q := fun P hP => hP.2.2.2.2.2.2.2.2.2.2.2.2.2.2.2.2.2.2.1 M pc nx d bc bs tg z lv ws Q x ty ha ht hn hq
theorem p_vret {G : px_G} {M : px_M} {pc nx d bc bs : Nat} {tg : List Nat} {z : Int32} {lv : List (Nat × Value)} {ws : va_W} {Q : Option Value → va_W → Prop} (ha : px_at M pc = some (.return_, nx, tg, z)) (ht : px_t M = none) (hq : Q none ws) : px G M pc lv [] ws d bc bs Q := fun P hP => hP.2.2.2.2.2.2.2.2.2.2.2.2.2.2.2.2.2.2.2.1 M pc nx d bc bs tg z lv ws Q ha ht hq
theorem p_aret {G : px_G} {M : px_M} {pc nx d bc bs : Nat} {tg : List Nat} {z : Int32} {lv : List (Nat × Value)} {ws : va_W} {Q : Option Value → va_W → Prop} {r : Option Nat} {ty : FieldType} (ha : px_at M pc = some (.areturn, nx, tg, z)) (ht : px_t M = some ty) (hty : (∃ n, ty = .object n) ∨ ∃ t, ty = .array t) (hq : Q (some (va_rf r)) ws) : px G M pc lv [va_rf r] ws d bc bs Q := fun P hP => hP.2.2.2.2.2.2.2.2.2.2.2.2.2.2.2.2.2.2.2.2.1 M pc nx d bc bs tg z lv ws Q r ty ha ht hty hq
theorem p_ldc {G : px_G} {M : px_M} {pc nx d bc bs : Nat} {tg : List Nat} {z : Int32} {lv : List (Nat × Value)} {st : List Value} {ws : va_W} {Q : Option Value → va_W → Prop} {idx : Nat} {v : Int32} (ha : px_at M pc = some (.ldc idx, nx, tg, z)) (hF : Cond.constant (px_y M).cls idx v ∈ px_TB) (kk : px G M nx lv (.int v :: st) ws d bc bs Q) : px G M pc lv st ws d bc bs Q := fun P hP => hP.2.2.2.2.2.2.2.2.2.2.2.2.2.2.2.2.2.2.2.2.2.1 M pc nx d bc bs tg z lv st ws Q idx v ha hF (kk P hP)
theorem p_castN {G : px_G} {M : px_M} {pc nx d bc bs : Nat} {tg : List Nat} {z : Int32} {lv : List (Nat × Value)} {st : List Value} {ws : va_W} {Q : Option Value → va_W → Prop} {idx : Nat} (ha : px_at M pc = some (.checkcast idx, nx, tg, z)) (kk : px G M nx lv (.null :: st) ws d bc bs Q) : px G M pc lv (.null :: st) ws d bc bs Q := fun P hP => hP.2.2.2.2.2.2.2.2.2.2.2.2.2.2.2.2.2.2.2.2.2.2.1 M pc nx d bc bs tg z lv st ws Q idx ha (kk P hP)
theorem p_castS {G : px_G} {M : px_M} {pc nx d bc bs : Nat} {tg : List Nat} {z : Int32} {lv : List (Nat × Value)} {st : List Value} {ws : va_W} {Q : Option Value → va_W → Prop} {idx ci a : Nat} {fs : List Value} (ha : px_at M pc = some (.checkcast idx, nx, tg, z)) (hF : px_Cs (px_y M).cls idx ci) (hw : px_lk ws a = some (.inr (ci, fs))) (kk : px G M nx lv (.ref a :: st) ws d bc bs Q) : px G M pc lv (.ref a :: st) ws d bc bs Q := fun P hP => hP.2.2.2.2.2.2.2.2.2.2.2.2.2.2.2.2.2.2.2.2.2.2.2.1 M pc nx d bc bs tg z lv st ws Q idx ci a fs ha hF hw (kk P hP)
theorem p_iald {G : px_G} {M : px_M} {pc nx d bc bs : Nat} {tg : List Nat} {z : Int32} {lv : List (Nat × Value)} {st : List Value} {ws : va_W} {Q : Option Value → va_W → Prop} {a t n : Nat} {f : Nat → Int32} {j : Int32} (ha : px_at M pc = some (.iaload, nx, tg, z)) (ht : (px_tys (g_dA G))[t]? = some (g_dA G t, .int)) (hw : px_lk ws a = some (.inl (g_dA G t, n, .inl f))) (hj : vp_in j n) (kk : px G M nx lv (.int (f j.toNatClampNeg) :: st) ws d bc bs Q) : px G M pc lv (.int j :: .ref a :: st) ws d bc bs Q := fun P hP => hP.2.2.2.2.2.2.2.2.2.2.2.2.2.2.2.2.2.2.2.2.2.2.2.2.1 M pc nx d bc bs tg z lv st ws Q a t n f j ha ht hw hj (kk P hP)
theorem p_zald {G : px_G} {M : px_M} {pc nx d bc bs : Nat} {tg : List Nat} {z : Int32} {lv : List (Nat × Value)} {st : List Value} {ws : va_W} {Q : Option Value → va_W → Prop} {a t n : Nat} {f : Nat → Int32} {j : Int32} (ha : px_at M pc = some (.baload, nx, tg, z)) (ht : (px_tys (g_dA G))[t]? = some (g_dA G t, .boolean)) (hw : px_lk ws a = some (.inl (g_dA G t, n, .inl f))) (hj : vp_in j n) (kk : px G M nx lv (.int (f j.toNatClampNeg) :: st) ws d bc bs Q) : px G M pc lv (.int j :: .ref a :: st) ws d bc bs Q := fun P hP => hP.2.2.2.2.2.2.2.2.2.2.2.2.2.2.2.2.2.2.2.2.2.2.2.2.2.1 M pc nx d bc bs tg z lv st ws Q a t n f j ha ht hw hj (kk P hP)
theorem p_iast {G : px_G} {M : px_M} {pc nx d bc bs : Nat} {tg : List Nat} {z : Int32} {lv : List (Nat × Value)} {st : List Value} {ws : va_W} {Q : Option Value → va_W → Prop} {a t n : Nat} {f : Nat → Int32} {j x : Int32} (ha : px_at M pc = some (.iastore, nx, tg, z)) (ht : (px_tys (g_dA G))[t]? = some (g_dA G t, .int)) (hw : px_lk ws a = some (.inl (g_dA G t, n, .inl f))) (hj : vp_in j n) (kk : px G M nx lv st (px_up ws a (.inl (g_dA G t, n, .inl (upd f j.toNatClampNeg x)))) d bc bs Q) : px G M pc lv (.int x :: .int j :: .ref a :: st) ws d bc bs Q := fun P hP => hP.2.2.2.2.2.2.2.2.2.2.2.2.2.2.2.2.2.2.2.2.2.2.2.2.2.2.1 M pc nx d bc bs tg z lv st ws Q a t n f j x ha ht hw hj (kk P hP)
theorem p_zast {G : px_G} {M : px_M} {pc nx d bc bs : Nat} {tg : List Nat} {z : Int32} {lv : List (Nat × Value)} {st : List Value} {ws : va_W} {Q : Option Value → va_W → Prop} {a t n : Nat} {f : Nat → Int32} {j x : Int32} (ha : px_at M pc = some (.bastore, nx, tg, z)) (ht : (px_tys (g_dA G))[t]? = some (g_dA G t, .boolean)) (hw : px_lk ws a = some (.inl (g_dA G t, n, .inl f))) (hj : vp_in j n) (kk : px G M nx lv st (px_up ws a (.inl (g_dA G t, n, .inl (upd f j.toNatClampNeg (vp_nar .boolean x))))) d bc bs Q) : px G M pc lv (.int x :: .int j :: .ref a :: st) ws d bc bs Q := fun P hP => hP.2.2.2.2.2.2.2.2.2.2.2.2.2.2.2.2.2.2.2.2.2.2.2.2.2.2.2.1 M pc nx d bc bs tg z lv st ws Q a t n f j x ha ht hw hj (kk P hP)
theorem p_aald {G : px_G} {M : px_M} {pc nx d bc bs : Nat} {tg : List Nat} {z : Int32} {lv : List (Nat × Value)} {st : List Value} {ws : va_W} {Q : Option Value → va_W → Prop} {a t n : Nat} {K : String} {f : Nat → Option Nat} {j : Int32} (ha : px_at M pc = some (.aaload, nx, tg, z)) (ht : (px_tys (g_dA G))[t]? = some (g_dA G t, .object K)) (hw : px_lk ws a = some (.inl (g_dA G t, n, .inr (.inr (.inr (.inr f)))))) (hj : vp_in j n) (kk : px G M nx lv (va_rf (f j.toNatClampNeg) :: st) ws d bc bs Q) : px G M pc lv (.int j :: .ref a :: st) ws d bc bs Q := fun P hP => hP.2.2.2.2.2.2.2.2.2.2.2.2.2.2.2.2.2.2.2.2.2.2.2.2.2.2.2.2.1 M pc nx d bc bs tg z lv st ws Q a t n K f j ha ht hw hj (kk P hP)
theorem p_aastN {G : px_G} {M : px_M} {pc nx d bc bs : Nat} {tg : List Nat} {z : Int32} {lv : List (Nat × Value)} {st : List Value} {ws : va_W} {Q : Option Value → va_W → Prop} {a t n : Nat} {K : String} {f : Nat → Option Nat} {j : Int32} (ha : px_at M pc = some (.aastore, nx, tg, z)) (ht : (px_tys (g_dA G))[t]? = some (g_dA G t, .object K)) (hw : px_lk ws a = some (.inl (g_dA G t, n, .inr (.inr (.inr (.inr f)))))) (hj : vp_in j n) (kk : px G M nx lv st (px_up ws a (.inl (g_dA G t, n, .inr (.inr (.inr (.inr (va_up f j.toNatClampNeg none))))))) d bc bs Q) : px G M pc lv (.null :: .int j :: .ref a :: st) ws d bc bs Q := fun P hP => hP.2.2.2.2.2.2.2.2.2.2.2.2.2.2.2.2.2.2.2.2.2.2.2.2.2.2.2.2.2.1 M pc nx d bc bs tg z lv st ws Q a t n K f j ha ht hw hj (kk P hP)
theorem p_aast {G : px_G} {M : px_M} {pc nx d bc bs : Nat} {tg : List Nat} {z : Int32} {lv : List (Nat × Value)} {st : List Value} {ws : va_W} {Q : Option Value → va_W → Prop} {a t n v ci : Nat} {K C0 : String} {T : u_T} {N : Nat} {f : Nat → Option Nat} {vs : List Value} {j : Int32} (ha : px_at M pc = some (.aastore, nx, tg, z)) (ht : (px_tys (g_dA G))[t]? = some (g_dA G t, .object K)) (hw : px_lk ws a = some (.inl (g_dA G t, n, .inr (.inr (.inr (.inr f)))))) (hc : px_cl[ci]? = some (C0, T, N)) (hca : Cond.castable C0 K ∈ px_NW) (hv : px_lk ws v = some (.inr (ci, vs))) (hj : vp_in j n) (kk : px G M nx lv st (px_up ws a (.inl (g_dA G t, n, .inr (.inr (.inr (.inr (va_up f j.toNatClampNeg (some v)))))))) d bc bs Q) : px G M pc lv (.ref v :: .int j :: .ref a :: st) ws d bc bs Q := fun P hP => hP.2.2.2.2.2.2.2.2.2.2.2.2.2.2.2.2.2.2.2.2.2.2.2.2.2.2.2.2.2.2.1 M pc nx d bc bs tg z lv st ws Q a t n v ci K C0 T N f vs j ha ht hw hc hca hv hj (kk P hP)
theorem p_alen {G : px_G} {M : px_M} {pc nx d bc bs : Nat} {tg : List Nat} {z : Int32} {lv : List (Nat × Value)} {st : List Value} {ws : va_W} {Q : Option Value → va_W → Prop} {a t n : Nat} {x : vp_A} {ty : FieldType} (ha : px_at M pc = some (.arraylength, nx, tg, z)) (ht : (px_tys (g_dA G))[t]? = some (g_dA G t, ty)) (hw : px_lk ws a = some (.inl (g_dA G t, x))) (hn : x.1 = n) (kk : px G M nx lv (.int (nI n) :: st) ws d bc bs Q) : px G M pc lv (.ref a :: st) ws d bc bs Q := fun P hP => hP.2.2.2.2.2.2.2.2.2.2.2.2.2.2.2.2.2.2.2.2.2.2.2.2.2.2.2.2.2.2.2.1 M pc nx d bc bs tg z lv st ws Q a t n x ty ha ht hw hn (kk P hP)
theorem p_sld {G : px_G} {M : px_M} {pc nx d bc bs : Nat} {tg : List Nat} {z : Int32} {lv : List (Nat × Value)} {st : List Value} {ws : va_W} {Q : Option Value → va_W → Prop} {j : Int32} (ha : px_at M pc = some (.iaload, nx, tg, z)) (hj : vp_in j (g_n G)) (kk : px G M nx lv (.int (g_x G j.toNatClampNeg) :: st) ws d bc bs Q) : px G M pc lv (.int j :: .ref (g_b G) :: st) ws d bc bs Q := fun P hP => hP.2.2.2.2.2.2.2.2.2.2.2.2.2.2.2.2.2.2.2.2.2.2.2.2.2.2.2.2.2.2.2.2.1 M pc nx d bc bs tg z lv st ws Q j ha hj (kk P hP)
theorem p_slen {G : px_G} {M : px_M} {pc nx d bc bs : Nat} {tg : List Nat} {z : Int32} {lv : List (Nat × Value)} {st : List Value} {ws : va_W} {Q : Option Value → va_W → Prop} (ha : px_at M pc = some (.arraylength, nx, tg, z)) (kk : px G M nx lv (.int (nI (g_n G)) :: st) ws d bc bs Q) : px G M pc lv (.ref (g_b G) :: st) ws d bc bs Q := fun P hP => hP.2.2.2.2.2.2.2.2.2.2.2.2.2.2.2.2.2.2.2.2.2.2.2.2.2.2.2.2.2.2.2.2.2.1 M pc nx d bc bs tg z lv st ws Q ha (kk P hP)
theorem p_newI {G : px_G} {M : px_M} {pc nx d bc bs : Nat} {tg : List Nat} {z : Int32} {lv : List (Nat × Value)} {st : List Value} {ws : va_W} {Q : Option Value → va_W → Prop} {t N : Nat} {n : Int32} (ha : px_at M pc = some (.newarray .int, nx, tg, z)) (ht : (px_tys (g_dA G))[t]? = some (g_dA G t, .int)) (hw : Cond.arrayClass .int ∈ px_TB) (hn : ¬ n < 0) (hN : n.toNatClampNeg = N) (hby : N * 4 ≤ 536870912) (kk : ∀ q : Nat, px_lk ws q = none → g_lo G ≤ q → px G M nx lv (.ref q :: st) (ws ++ [(q, .inl (g_dA G t, N, .inl (fun _ => 0)))]) d bc bs Q) : px G M pc lv (.int n :: st) ws d (bc + 1) (bs + N) Q := fun P hP => hP.2.2.2.2.2.2.2.2.2.2.2.2.2.2.2.2.2.2.2.2.2.2.2.2.2.2.2.2.2.2.2.2.2.2.1 M pc nx d bc bs tg z lv st ws Q t N n ha ht hw hn hN hby (fun q h0 h1 => kk q h0 h1 P hP)
theorem p_newZ {G : px_G} {M : px_M} {pc nx d bc bs : Nat} {tg : List Nat} {z : Int32} {lv : List (Nat × Value)} {st : List Value} {ws : va_W} {Q : Option Value → va_W → Prop} {t N : Nat} {n : Int32} (ha : px_at M pc = some (.newarray .boolean, nx, tg, z)) (ht : (px_tys (g_dA G))[t]? = some (g_dA G t, .boolean)) (hw : Cond.arrayClass .boolean ∈ px_TB) (hn : ¬ n < 0) (hN : n.toNatClampNeg = N) (hby : N * componentBytes .boolean ≤ 536870912) (kk : ∀ q : Nat, px_lk ws q = none → g_lo G ≤ q → px G M nx lv (.ref q :: st) (ws ++ [(q, .inl (g_dA G t, N, .inl (fun _ => 0)))]) d bc bs Q) : px G M pc lv (.int n :: st) ws d (bc + 1) (bs + N) Q := fun P hP => hP.2.2.2.2.2.2.2.2.2.2.2.2.2.2.2.2.2.2.2.2.2.2.2.2.2.2.2.2.2.2.2.2.2.2.2.1 M pc nx d bc bs tg z lv st ws Q t N n ha ht hw hn hN hby (fun q h0 h1 => kk q h0 h1 P hP)
theorem p_newQ {G : px_G} {M : px_M} {pc nx d bc bs : Nat} {tg : List Nat} {z : Int32} {lv : List (Nat × Value)} {st : List Value} {ws : va_W} {Q : Option Value → va_W → Prop} {idx t N : Nat} {n : Int32} (ha : px_at M pc = some (.anewarray idx, nx, tg, z)) (ht : (px_tys (g_dA G))[t]? = some (g_dA G t, .object "java/lang/Object")) (hcl : Cond.classLink (px_y M).cls idx "java/lang/Object" ∈ px_TB) (hn : ¬ n < 0) (hN : n.toNatClampNeg = N) (hby : N * 4 ≤ 536870912) (kk : ∀ q : Nat, px_lk ws q = none → g_lo G ≤ q → px G M nx lv (.ref q :: st) (ws ++ [(q, .inl (g_dA G t, N, .inr (.inr (.inr (.inr (fun _ => none))))))]) d bc bs Q) : px G M pc lv (.int n :: st) ws d (bc + 1) (bs + N) Q := fun P hP => hP.2.2.2.2.2.2.2.2.2.2.2.2.2.2.2.2.2.2.2.2.2.2.2.2.2.2.2.2.2.2.2.2.2.2.2.2.1 M pc nx d bc bs tg z lv st ws Q idx t N n ha ht hcl hn hN hby (fun q h0 h1 => kk q h0 h1 P hP)
theorem p_objI {G : px_G} {M : px_M} {pc nx d bc bs : Nat} {tg : List Nat} {z : Int32} {lv : List (Nat × Value)} {st : List Value} {ws : va_W} {Q : Option Value → va_W → Prop} {idx a : Nat} (ha : px_at M pc = some (.invokespecial idx, nx, tg, z)) (hF : Cond.methodLink (px_y M).cls idx objectInit ∈ px_TB) (hi : Cond.instanceMethod objectInit ∈ px_TB) (hco : Cond.code objectInit ⟨#[0xb1]⟩ 1 none ∈ px_TB) (hst : (st.map fun v => v.category).sum ≤ 8) (kk : px G M nx lv st ws (d + 1) bc bs Q) : px G M pc lv (.ref a :: st) ws (d + 1) bc bs Q := fun P hP => hP.2.2.2.2.2.2.2.2.2.2.2.2.2.2.2.2.2.2.2.2.2.2.2.2.2.2.2.2.2.2.2.2.2.2.2.2.2.1 M pc nx d bc bs tg z lv st ws Q idx a ha hF hi hco hst (kk P hP)
theorem p_max {G : px_G} {M : px_M} {pc nx d bc bs : Nat} {tg : List Nat} {z : Int32} {lv : List (Nat × Value)} {st : List Value} {ws : va_W} {Q : Option Value → va_W → Prop} {idx : Nat} {x y : Int32} (ha : px_at M pc = some (.invokestatic idx, nx, tg, z)) (hF : Cond.methodLink (px_y M).cls idx Lib.Math.max.name ∈ px_TB) (hs : Cond.static Lib.Math.max.name ∈ px_TB) (hi : Cond.initialized "java/lang/Math" ∈ px_TB) (hco : Cond.code Lib.Math.max.name Lib.Math.max.code 2 (some .int) ∈ px_TB) (hst : (st.map fun v => v.category).sum ≤ 8) (kk : px G M nx lv (.int (if x < y then y else x) :: st) ws (d + 1) bc bs Q) : px G M pc lv (.int y :: .int x :: st) ws (d + 1) bc bs Q := fun P hP => hP.2.2.2.2.2.2.2.2.2.2.2.2.2.2.2.2.2.2.2.2.2.2.2.2.2.2.2.2.2.2.2.2.2.2.2.2.2.2.1 M pc nx d bc bs tg z lv st ws Q idx x y ha hF hs hi hco hst (kk P hP)
theorem p_min {G : px_G} {M : px_M} {pc nx d bc bs : Nat} {tg : List Nat} {z : Int32} {lv : List (Nat × Value)} {st : List Value} {ws : va_W} {Q : Option Value → va_W → Prop} {idx : Nat} {x y : Int32} (ha : px_at M pc = some (.invokestatic idx, nx, tg, z)) (hF : Cond.methodLink (px_y M).cls idx Lib.Math.min.name ∈ px_TB) (hs : Cond.static Lib.Math.min.name ∈ px_TB) (hi : Cond.initialized "java/lang/Math" ∈ px_TB) (hco : Cond.code Lib.Math.min.name Lib.Math.min.code 2 (some .int) ∈ px_TB) (hst : (st.map fun v => v.category).sum ≤ 8) (kk : px G M nx lv (.int (if y < x then y else x) :: st) ws (d + 1) bc bs Q) : px G M pc lv (.int y :: .int x :: st) ws (d + 1) bc bs Q := fun P hP => hP.2.2.2.2.2.2.2.2.2.2.2.2.2.2.2.2.2.2.2.2.2.2.2.2.2.2.2.2.2.2.2.2.2.2.2.2.2.2.2.1 M pc nx d bc bs tg z lv st ws Q idx x y ha hF hs hi hco hst (kk P hP)
theorem p_tabO {G : px_G} {M : px_M} {pc nx d bc bs : Nat} {tg : List Nat} {z : Int32} {lv : List (Nat × Value)} {st : List Value} {ws : va_W} {Q : Option Value → va_W → Prop} {df lw hi : Int} {os : Array Int} {t : Nat} {x : Int32} (ha : px_at M pc = some (.tableswitch df lw hi os, nx, tg, z)) (ho : x.toInt < lw ∨ hi < x.toInt) (ht : (pc : Int) + df = (t : Int)) (kk : px G M t lv st ws d bc bs Q) : px G M pc lv (.int x :: st) ws d bc bs Q := fun P hP => hP.2.2.2.2.2.2.2.2.2.2.2.2.2.2.2.2.2.2.2.2.2.2.2.2.2.2.2.2.2.2.2.2.2.2.2.2.2.2.2.2.1 M pc nx d bc bs tg z lv st ws Q df lw hi os t x ha ho ht (kk P hP)
theorem p_tabI {G : px_G} {M : px_M} {pc nx d bc bs : Nat} {tg : List Nat} {z : Int32} {lv : List (Nat × Value)} {st : List Value} {ws : va_W} {Q : Option Value → va_W → Prop} {df lw hi of : Int} {os : Array Int} {t : Nat} {x : Int32} (ha : px_at M pc = some (.tableswitch df lw hi os, nx, tg, z)) (h1 : ¬ x.toInt < lw) (h2 : ¬ hi < x.toInt) (ho : os[(x.toInt - lw).toNat]? = some of) (ht : (pc : Int) + of = (t : Int)) (kk : px G M t lv st ws d bc bs Q) : px G M pc lv (.int x :: st) ws d bc bs Q := fun P hP => hP.2.2.2.2.2.2.2.2.2.2.2.2.2.2.2.2.2.2.2.2.2.2.2.2.2.2.2.2.2.2.2.2.2.2.2.2.2.2.2.2.2.1 M pc nx d bc bs tg z lv st ws Q df lw hi of os t x ha h1 h2 ho ht (kk P hP)
theorem p_gets {G : px_G} {M : px_M} {pc nx d bc bs : Nat} {tg : List Nat} {z : Int32} {lv : List (Nat × Value)} {st : List Value} {ws : va_W} {Q : Option Value → va_W → Prop} {idx k : Nat} {q : String × String × String} (ha : px_at M pc = some (.getstatic idx, nx, tg, z)) (hq : px_SL[k]? = some q) (hF : Cond.fieldLink (px_y M).cls idx q.1 q.2.1 q.2.2 ∈ px_TB) (kk : px G M nx lv (.ref (g_sv G k) :: st) ws d bc bs Q) : px G M pc lv st ws d bc bs Q := fun P hP => hP.2.2.2.2.2.2.2.2.2.2.2.2.2.2.2.2.2.2.2.2.2.2.2.2.2.2.2.2.2.2.2.2.2.2.2.2.2.2.2.2.2.2.1 M pc nx d bc bs tg z lv st ws Q idx k q ha hq hF (kk P hP)
theorem p_tlen {G : px_G} {M : px_M} {pc nx d bc bs : Nat} {tg : List Nat} {z : Int32} {lv : List (Nat × Value)} {st : List Value} {ws : va_W} {Q : Option Value → va_W → Prop} {k : Nat} {q : String × String × String} (ha : px_at M pc = some (.arraylength, nx, tg, z)) (hq : px_SL[k]? = some q) (kk : px G M nx lv (.int 0 :: st) ws d bc bs Q) : px G M pc lv (.ref (g_sv G k) :: st) ws d bc bs Q := fun P hP => hP.2.2.2.2.2.2.2.2.2.2.2.2.2.2.2.2.2.2.2.2.2.2.2.2.2.2.2.2.2.2.2.2.2.2.2.2.2.2.2.2.2.2.2.1 M pc nx d bc bs tg z lv st ws Q k q ha hq (kk P hP)
theorem p_ldcw {G : px_G} {M : px_M} {pc nx d bc bs : Nat} {tg : List Nat} {z : Int32} {lv : List (Nat × Value)} {st : List Value} {ws : va_W} {Q : Option Value → va_W → Prop} {idx : Nat} {v : Int32} (ha : px_at M pc = some (.ldc_w idx, nx, tg, z)) (hF : Cond.constant (px_y M).cls idx v ∈ px_TB) (kk : px G M nx lv (.int v :: st) ws d bc bs Q) : px G M pc lv st ws d bc bs Q := fun P hP => hP.2.2.2.2.2.2.2.2.2.2.2.2.2.2.2.2.2.2.2.2.2.2.2.2.2.2.2.2.2.2.2.2.2.2.2.2.2.2.2.2.2.2.2.2.1 M pc nx d bc bs tg z lv st ws Q idx v ha hF (kk P hP)
theorem p_ldcM {G : px_G} {M : px_M} {pc nx d bc bs : Nat} {tg : List Nat} {z : Int32} {lv : List (Nat × Value)} {st : List Value} {ws : va_W} {Q : Option Value → va_W → Prop} {idx : Nat} (ha : px_at M pc = some (.ldc idx, nx, tg, z)) (hF : Cond.classLink (px_y M).cls idx "[Ljava/lang/Object;" ∈ px_TB) (kk : px G M nx lv (.ref (g_sv G 1) :: st) ws d bc bs Q) : px G M pc lv st ws d bc bs Q := fun P hP => hP.2.2.2.2.2.2.2.2.2.2.2.2.2.2.2.2.2.2.2.2.2.2.2.2.2.2.2.2.2.2.2.2.2.2.2.2.2.2.2.2.2.2.2.2.2.1 M pc nx d bc bs tg z lv st ws Q idx ha hF (kk P hP)
theorem p_getC {G : px_G} {M : px_M} {pc nx d bc bs : Nat} {tg : List Nat} {z : Int32} {lv : List (Nat × Value)} {st : List Value} {ws : va_W} {Q : Option Value → va_W → Prop} {idx a n : Nat} {f : Nat → Option Nat} (ha : px_at M pc = some (.invokevirtual idx, nx, tg, z)) (hF : Cond.methodLink (px_y M).cls idx ⟨"java/lang/Object", "getClass", "()Ljava/lang/Class;"⟩ ∈ px_TB) (hw : px_lk ws a = some (.inl (g_dA G 2, n, .inr (.inr (.inr (.inr f)))))) (hst : (st.map fun v => v.category).sum ≤ 8) (kk : px G M nx lv (.ref (g_sv G 1) :: st) ws (d + 1) bc bs Q) : px G M pc lv (.ref a :: st) ws (d + 1) bc bs Q := fun P hP => hP.2.2.2.2.2.2.2.2.2.2.2.2.2.2.2.2.2.2.2.2.2.2.2.2.2.2.2.2.2.2.2.2.2.2.2.2.2.2.2.2.2.2.2.2.2.2.1 M pc nx d bc bs tg z lv st ws Q idx a n f ha hF hw hst (kk P hP)
theorem p_copy {G : px_G} {M : px_M} {pc nx d bc bs : Nat} {tg : List Nat} {z : Int32} {lv : List (Nat × Value)} {st : List Value} {ws : va_W} {Q : Option Value → va_W → Prop} {idx a0 a n0 n1 : Nat} {f g : Nat → Option Nat} {sp dp n : Int32} (ha : px_at M pc = some (.invokestatic idx, nx, tg, z)) (hF : Cond.methodLink (px_y M).cls idx arraycopyName ∈ px_TB) (hw0 : px_lk ws a0 = some (.inl (g_dA G 2, n0, .inr (.inr (.inr (.inr f)))))) (hw1 : px_lk ws a = some (.inl (g_dA G 2, n1, .inr (.inr (.inr (.inr g)))))) (h1 : ¬ sp < 0) (h2 : ¬ dp < 0) (h3 : ¬ n < 0) (h4 : sp.toNatClampNeg + n.toNatClampNeg ≤ n0) (h5 : dp.toNatClampNeg + n.toNatClampNeg ≤ n1) (hel : ∀ i : Nat, i < n.toNatClampNeg → ∀ y : Nat, f (sp.toNatClampNeg + i) = some y → px_ob ws y) (hst : (st.map fun v => v.category).sum ≤ 8) (kk : px G M nx lv st (px_up ws a (.inl (g_dA G 2, n1, .inr (.inr (.inr (.inr (va_cpy f g sp.toNatClampNeg dp.toNatClampNeg n.toNatClampNeg))))))) (d + 1) bc bs Q) : px G M pc lv (.int n :: .int dp :: .ref a :: .int sp :: .ref a0 :: st) ws (d + 1) bc bs Q := fun P hP => hP.2.2.2.2.2.2.2.2.2.2.2.2.2.2.2.2.2.2.2.2.2.2.2.2.2.2.2.2.2.2.2.2.2.2.2.2.2.2.2.2.2.2.2.2.2.2.2.1 M pc nx d bc bs tg z lv st ws Q idx a0 a n0 n1 f g sp dp n ha hF hw0 hw1 h1 h2 h3 h4 h5 hel hst (kk P hP)
theorem p_callV {G : px_G} {M : px_M} {pc nx d bc bs : Nat} {tg : List Nat} {z : Int32} {lv : List (Nat × Value)} {st : List Value} {ws : va_W} {Q : Option Value → va_W → Prop} {idx kc ks n B S : Nat} {M' : px_M} {As rest : List Value} {Rq : Option Value → va_W → Prop} {b ci : Nat} {C0 : String} {T : u_T} {N : Nat} {fs : List Value} (ha : px_at M pc = some (.invokevirtual idx, nx, tg, z)) (hF : px_cV (px_y M).cls idx C0 M' n) (hcl : px_cl[ci]? = some (C0, T, N)) (hw : px_lk ws b = some (.inr (ci, fs))) (hg : px_good M') (hsp : px_spl n [] st = some (As, .ref b :: rest)) (hB : bc + kc = B) (hSS : bs + ks = S) (hc : px G M' 0 (lv_args 0 (.ref b :: As)) [] ws d kc ks Rq) (kk : ∀ (v : Option Value) (ws2 : va_W), Rq v ws2 → px G M nx lv (v.toList ++ rest) ws2 (d + 1) bc bs Q) (hvl : (lg_sl (.ref b :: As)).length ≤ px_L M' := by exact Nat.le_of_ble_eq_true rfl) (hrs : (rest.map fun v => v.category).sum ≤ 8 := by exact Nat.le_of_ble_eq_true rfl) : px G M pc lv st ws (d + 1) B S Q := fun P hP => hP.2.2.2.2.2.2.2.2.2.2.2.2.2.2.2.2.2.2.2.2.2.2.2.2.2.2.2.2.2.2.2.2.2.2.2.2.2.2.2.2.2.2.2.2.2.2.2.2.1 M pc nx d bc bs tg z lv st ws Q idx kc ks n B S M' As rest Rq b ci C0 T N fs ha hF hcl hw hg hsp hB hSS hvl hrs (hc P hP) (fun v ws2 h0 => kk v ws2 h0 P hP)
theorem p_callVN {G : px_G} {M : px_M} {pc nx d bc bs : Nat} {tg : List Nat} {z : Int32} {lv : List (Nat × Value)} {st : List Value} {ws : va_W} {Q : Option Value → va_W → Prop} {idx kc ks n B S : Nat} {M' : px_M} {As rest : List Value} {Rq : Option Value → va_W → Prop} {b ci : Nat} {C0 host : String} {T : u_T} {N : Nat} {fs : List Value} (ha : px_at M pc = some (.invokevirtual idx, nx, tg, z)) (hF : px_cVN (px_y M).cls idx C0 host M' n) (hcl : px_cl[ci]? = some (C0, T, N)) (hw : px_lk ws b = some (.inr (ci, fs))) (hg : px_good M') (hsp : px_spl n [] st = some (As, .ref b :: rest)) (hB : bc + kc = B) (hSS : bs + ks = S) (hc : px G M' 0 (lv_args 0 (.ref b :: As)) [] ws d kc ks Rq) (kk : ∀ (v : Option Value) (ws2 : va_W), Rq v ws2 → px G M nx lv (v.toList ++ rest) ws2 (d + 1) bc bs Q) (hvl : (lg_sl (.ref b :: As)).length ≤ px_L M' := by exact Nat.le_of_ble_eq_true rfl) (hrs : (rest.map fun v => v.category).sum ≤ 8 := by exact Nat.le_of_ble_eq_true rfl) : px G M pc lv st ws (d + 1) B S Q := fun P hP => hP.2.2.2.2.2.2.2.2.2.2.2.2.2.2.2.2.2.2.2.2.2.2.2.2.2.2.2.2.2.2.2.2.2.2.2.2.2.2.2.2.2.2.2.2.2.2.2.2.2.1 M pc nx d bc bs tg z lv st ws Q idx kc ks n B S M' As rest Rq b ci C0 host T N fs ha hF hcl hw hg hsp hB hSS hvl hrs (hc P hP) (fun v ws2 h0 => kk v ws2 h0 P hP)
theorem p_callS {G : px_G} {M : px_M} {pc nx d bc bs : Nat} {tg : List Nat} {z : Int32} {lv : List (Nat × Value)} {st : List Value} {ws : va_W} {Q : Option Value → va_W → Prop} {idx kc ks n B S : Nat} {M' : px_M} {As rest : List Value} {Rq : Option Value → va_W → Prop} (ha : px_at M pc = some (.invokestatic idx, nx, tg, z)) (hF : px_cS (px_y M).cls idx M' n) (hg : px_good M') (hsp : px_spl n [] st = some (As, rest)) (hB : bc + kc = B) (hSS : bs + ks = S) (hc : px G M' 0 (lv_args 0 (As)) [] ws d kc ks Rq) (kk : ∀ (v : Option Value) (ws2 : va_W), Rq v ws2 → px G M nx lv (v.toList ++ rest) ws2 (d + 1) bc bs Q) (hvl : (lg_sl (As)).length ≤ px_L M' := by exact Nat.le_of_ble_eq_true rfl) (hrs : (rest.map fun v => v.category).sum ≤ 8 := by exact Nat.le_of_ble_eq_true rfl) : px G M pc lv st ws (d + 1) B S Q := fun P hP => hP.2.2.2.2.2.2.2.2.2.2.2.2.2.2.2.2.2.2.2.2.2.2.2.2.2.2.2.2.2.2.2.2.2.2.2.2.2.2.2.2.2.2.2.2.2.2.2.2.2.2.1 M pc nx d bc bs tg z lv st ws Q idx kc ks n B S M' As rest Rq ha hF hg hsp hB hSS hvl hrs (hc P hP) (fun v ws2 h0 => kk v ws2 h0 P hP)
theorem p_callI {G : px_G} {M : px_M} {pc nx d bc bs : Nat} {tg : List Nat} {z : Int32} {lv : List (Nat × Value)} {st : List Value} {ws : va_W} {Q : Option Value → va_W → Prop} {idx kc ks n B S : Nat} {M' : px_M} {As rest : List Value} {Rq : Option Value → va_W → Prop} {b : Nat} (ha : px_at M pc = some (.invokespecial idx, nx, tg, z)) (hF : px_cI (px_y M).cls idx M' n) (hg : px_good M') (hsp : px_spl n [] st = some (As, .ref b :: rest)) (hB : bc + kc = B) (hSS : bs + ks = S) (hc : px G M' 0 (lv_args 0 (.ref b :: As)) [] ws d kc ks Rq) (kk : ∀ (v : Option Value) (ws2 : va_W), Rq v ws2 → px G M nx lv (v.toList ++ rest) ws2 (d + 1) bc bs Q) (hvl : (lg_sl (.ref b :: As)).length ≤ px_L M' := by exact Nat.le_of_ble_eq_true rfl) (hrs : (rest.map fun v => v.category).sum ≤ 8 := by exact Nat.le_of_ble_eq_true rfl) : px G M pc lv st ws (d + 1) B S Q := fun P hP => hP.2.2.2.2.2.2.2.2.2.2.2.2.2.2.2.2.2.2.2.2.2.2.2.2.2.2.2.2.2.2.2.2.2.2.2.2.2.2.2.2.2.2.2.2.2.2.2.2.2.2.2.1 M pc nx d bc bs tg z lv st ws Q idx kc ks n B S M' As rest Rq b ha hF hg hsp hB hSS hvl hrs (hc P hP) (fun v ws2 h0 => kk v ws2 h0 P hP)
theorem p_callIN {G : px_G} {M : px_M} {pc nx d bc bs : Nat} {tg : List Nat} {z : Int32} {lv : List (Nat × Value)} {st : List Value} {ws : va_W} {Q : Option Value → va_W → Prop} {idx kc ks n B S : Nat} {M' : px_M} {As rest : List Value} {Rq : Option Value → va_W → Prop} {b : Nat} {host : String} (ha : px_at M pc = some (.invokespecial idx, nx, tg, z)) (hF : px_cIN (px_y M).cls idx host M' n) (hg : px_good M') (hsp : px_spl n [] st = some (As, .ref b :: rest)) (hB : bc + kc = B) (hSS : bs + ks = S) (hc : px G M' 0 (lv_args 0 (.ref b :: As)) [] ws d kc ks Rq) (kk : ∀ (v : Option Value) (ws2 : va_W), Rq v ws2 → px G M nx lv (v.toList ++ rest) ws2 (d + 1) bc bs Q) (hvl : (lg_sl (.ref b :: As)).length ≤ px_L M' := by exact Nat.le_of_ble_eq_true rfl) (hrs : (rest.map fun v => v.category).sum ≤ 8 := by exact Nat.le_of_ble_eq_true rfl) : px G M pc lv st ws (d + 1) B S Q := fun P hP => hP.2.2.2.2.2.2.2.2.2.2.2.2.2.2.2.2.2.2.2.2.2.2.2.2.2.2.2.2.2.2.2.2.2.2.2.2.2.2.2.2.2.2.2.2.2.2.2.2.2.2.2.2.1 M pc nx d bc bs tg z lv st ws Q idx kc ks n B S M' As rest Rq b host ha hF hg hsp hB hSS hvl hrs (hc P hP) (fun v ws2 h0 => kk v ws2 h0 P hP)
theorem p_wf {G : px_G} {M : px_M} {pc d bc bs : Nat} {lv : List (Nat × Value)} {st : List Value} {ws : va_W} {Q : Option Value → va_W → Prop} (kk : (∀ (a : Nat) (x : va_E), px_lk ws a = some x → g_lo G ≤ a) ∧ g_sv G 0 < g_lo G → px G M pc lv st ws d bc bs Q) : px G M pc lv st ws d bc bs Q := fun P hP => hP.2.2.2.2.2.2.2.2.2.2.2.2.2.2.2.2.2.2.2.2.2.2.2.2.2.2.2.2.2.2.2.2.2.2.2.2.2.2.2.2.2.2.2.2.2.2.2.2.2.2.2.2.2.1 M pc d bc bs lv st ws Q (fun h0 => kk h0 P hP)
theorem p_lv {G : px_G} {M : px_M} {pc d bc bs : Nat} {lv : List (Nat × Value)} {st : List Value} {ws : va_W} {Q : Option Value → va_W → Prop} {lv2 : List (Nat × Value)} {ks : List Nat} (hs : lv_pick lv ks = lv2) (kk : px G M pc lv2 st ws d bc bs Q) : px G M pc lv st ws d bc bs Q := fun P hP => hP.2.2.2.2.2.2.2.2.2.2.2.2.2.2.2.2.2.2.2.2.2.2.2.2.2.2.2.2.2.2.2.2.2.2.2.2.2.2.2.2.2.2.2.2.2.2.2.2.2.2.2.2.2.2.1 M pc d bc bs lv st ws Q lv2 ks hs (kk P hP)
theorem p_post {G : px_G} {M : px_M} {pc d bc bs : Nat} {lv : List (Nat × Value)} {st : List Value} {ws : va_W} {Q : Option Value → va_W → Prop} {Q1 : Option Value → va_W → Prop} (hp : ∀ (v : Option Value) (w : va_W), Q1 v w → Q v w) (kk : px G M pc lv st ws d bc bs Q1) : px G M pc lv st ws d bc bs Q := fun P hP => hP.2.2.2.2.2.2.2.2.2.2.2.2.2.2.2.2.2.2.2.2.2.2.2.2.2.2.2.2.2.2.2.2.2.2.2.2.2.2.2.2.2.2.2.2.2.2.2.2.2.2.2.2.2.2.2 M pc d bc bs lv st ws Q Q1 hp (kk P hP)
end
section
/-! THE RULES HOLD OF THE MACHINE -/
set_option maxHeartbeats 4000000 in
theorem px_w_s (G : px_G) (l : Launch) : px_r_s G (px_Pw G l) := by
  intro M pc nx d bc bs tg z lv st ws Q i lv' st' ha hs kk hok p e R s m args below meth c Z H locs cells slots la C hbc hbs hP hD hS hl hret
  obtain ⟨hx, hb, hr, hml, hown, hts, hlk, hin, hfr, hlo, hE⟩ := id C
  exact px_simple hx hb hok ha hs hl (fun la' hl' => kk hok p e R s m args below meth c Z H locs cells slots la' C hbc hbs hP hD hS hl' hret)
set_option maxHeartbeats 4000000 in
theorem px_w_aloadR (G : px_G) (l : Launch) : px_r_aloadR G (px_Pw G l) := by
  intro M pc nx d bc bs tg z lv st ws Q i n r ha hi hg kk hok p e R s m args below meth c Z H locs cells slots la C hbc hbs hP hD hS hl hret
  obtain ⟨hx, hb, hr, hml, hown, hts, hlk, hin, hfr, hlo, hE⟩ := id C
  rcases px_isAload_eq hi with ⟨j, rfl, rfl⟩ | rfl
  · obtain ⟨hd, rfl⟩ := px_hd 1 hok ha rfl rfl
    cases r with
    | none => exact lv_aload_nN hx hb hd rfl (px_has hl hg) (kk hok p e R s m args below meth c Z H locs cells slots la C hbc hbs hP hD hS hl hret)
    | some y => exact lv_aload_n hx hb hd rfl (px_has hl hg) (kk hok p e R s m args below meth c Z H locs cells slots la C hbc hbs hP hD hS hl hret)
  · obtain ⟨hd, rfl⟩ := px_hd 2 hok ha rfl rfl
    cases r with
    | none => exact lv_aloadN hx hb hd (px_has hl hg) (kk hok p e R s m args below meth c Z H locs cells slots la C hbc hbs hP hD hS hl hret)
    | some y => exact lv_aload hx hb hd (px_has hl hg) (kk hok p e R s m args below meth c Z H locs cells slots la C hbc hbs hP hD hS hl hret)
set_option maxHeartbeats 4000000 in
theorem px_w_astoreR (G : px_G) (l : Launch) : px_r_astoreR G (px_Pw G l) := by
  intro M pc nx d bc bs tg z lv st ws Q i n r ha hi hn kk hok p e R s m args below meth c Z H locs cells slots la C hbc hbs hP hD hS hl hret
  obtain ⟨hx, hb, hr, hml, hown, hts, hlk, hin, hfr, hlo, hE⟩ := id C
  have K : ∀ la', lv_has la' (px_L M) (px_put lv n (va_rf r)) → W p l e R s m args below meth c H locs cells slots Z (F0 m nx la' st) := fun la' hl' => kk hok p e R s m args below meth c Z H locs cells slots la' C hbc hbs hP hD hS hl' hret
  rcases px_isAstore_eq hi with ⟨j, rfl, rfl⟩ | rfl
  · obtain ⟨hd, rfl⟩ := px_hd 1 hok ha rfl rfl
    cases r with
    | none => exact lv_astore_nN hx hb hd rfl hl hn rfl K
    | some y => exact lv_astore_n hx hb hd rfl hl hn rfl K
  · obtain ⟨hd, rfl⟩ := px_hd 2 hok ha rfl rfl
    cases r with
    | none => exact lv_astoreN hx hb hd hl hn rfl K
    | some y => exact lv_astore hx hb hd hl hn rfl K
set_option maxHeartbeats 4000000 in
theorem px_w_goto (G : px_G) (l : Launch) : px_r_goto G (px_Pw G l) := by
  intro M pc nx d bc bs z lv st ws Q off t ha kk hok p e R s m args below meth c Z H locs cells slots la C hbc hbs hP hD hS hl hret
  obtain ⟨hx, hb, hr, hml, hown, hts, hlk, hin, hfr, hlo, hE⟩ := id C
  have ht : decide ((pc : Int) + off = (t : Int)) = true := px_kk hok ha
  exact lv_goto hx hb (px_hd 3 hok ha rfl rfl).1 (of_decide_eq_true ht) (kk hok p e R s m args below meth c Z H locs cells slots la C hbc hbs hP hD hS hl hret)
set_option maxHeartbeats 4000000 in
theorem px_w_if (G : px_G) (l : Launch) : px_r_if G (px_Pw G l) := by
  intro M pc nx d bc bs z lv st ws Q cc off t x ha kt kf hok p e R s m args below meth c Z H locs cells slots la C hbc hbs hP hD hS hl hret
  obtain ⟨hx, hb, hr, hml, hown, hts, hlk, hin, hfr, hlo, hE⟩ := id C
  have ht : decide ((pc : Int) + off = (t : Int)) = true := px_kk hok ha
  have ht := of_decide_eq_true ht
  obtain ⟨hd, rfl⟩ := px_hd 3 hok ha rfl rfl
  cases cc
  case eq => exact lv_if_eq hx hb hd ht (fun h => kt h hok p e R s m args below meth c Z H locs cells slots la C hbc hbs hP hD hS hl hret) (fun h => kf h hok p e R s m args below meth c Z H locs cells slots la C hbc hbs hP hD hS hl hret)
  case ne => exact lv_if_ne hx hb hd ht (fun h => kt h hok p e R s m args below meth c Z H locs cells slots la C hbc hbs hP hD hS hl hret) (fun h => kf h hok p e R s m args below meth c Z H locs cells slots la C hbc hbs hP hD hS hl hret)
  case lt => exact lv_if_lt hx hb hd ht (fun h => kt h hok p e R s m args below meth c Z H locs cells slots la C hbc hbs hP hD hS hl hret) (fun h => kf h hok p e R s m args below meth c Z H locs cells slots la C hbc hbs hP hD hS hl hret)
  case ge => exact lv_if_ge hx hb hd ht (fun h => kt h hok p e R s m args below meth c Z H locs cells slots la C hbc hbs hP hD hS hl hret) (fun h => kf h hok p e R s m args below meth c Z H locs cells slots la C hbc hbs hP hD hS hl hret)
  case gt => exact lv_if_gt hx hb hd ht (fun h => kt h hok p e R s m args below meth c Z H locs cells slots la C hbc hbs hP hD hS hl hret) (fun h => kf h hok p e R s m args below meth c Z H locs cells slots la C hbc hbs hP hD hS hl hret)
  case le => exact lv_if_le hx hb hd ht (fun h => kt h hok p e R s m args below meth c Z H locs cells slots la C hbc hbs hP hD hS hl hret) (fun h => kf h hok p e R s m args below meth c Z H locs cells slots la C hbc hbs hP hD hS hl hret)
set_option maxHeartbeats 4000000 in
theorem px_w_icmp (G : px_G) (l : Launch) : px_r_icmp G (px_Pw G l) := by
  intro M pc nx d bc bs z lv st ws Q cc off t x y ha kt kf hok p e R s m args below meth c Z H locs cells slots la C hbc hbs hP hD hS hl hret
  obtain ⟨hx, hb, hr, hml, hown, hts, hlk, hin, hfr, hlo, hE⟩ := id C
  have ht : decide ((pc : Int) + off = (t : Int)) = true := px_kk hok ha
  have ht := of_decide_eq_true ht
  obtain ⟨hd, rfl⟩ := px_hd 3 hok ha rfl rfl
  cases cc
  case eq => exact lv_icmp_eq hx hb hd ht (fun h => kt h hok p e R s m args below meth c Z H locs cells slots la C hbc hbs hP hD hS hl hret) (fun h => kf h hok p e R s m args below meth c Z H locs cells slots la C hbc hbs hP hD hS hl hret)
  case ne => exact lv_icmp_ne hx hb hd ht (fun h => kt h hok p e R s m args below meth c Z H locs cells slots la C hbc hbs hP hD hS hl hret) (fun h => kf h hok p e R s m args below meth c Z H locs cells slots la C hbc hbs hP hD hS hl hret)
  case lt => exact lv_icmp_lt hx hb hd ht (fun h => kt h hok p e R s m args below meth c Z H locs cells slots la C hbc hbs hP hD hS hl hret) (fun h => kf h hok p e R s m args below meth c Z H locs cells slots la C hbc hbs hP hD hS hl hret)
  case ge => exact lv_icmp_ge hx hb hd ht (fun h => kt h hok p e R s m args below meth c Z H locs cells slots la C hbc hbs hP hD hS hl hret) (fun h => kf h hok p e R s m args below meth c Z H locs cells slots la C hbc hbs hP hD hS hl hret)
  case gt => exact lv_icmp_gt hx hb hd ht (fun h => kt h hok p e R s m args below meth c Z H locs cells slots la C hbc hbs hP hD hS hl hret) (fun h => kf h hok p e R s m args below meth c Z H locs cells slots la C hbc hbs hP hD hS hl hret)
  case le => exact lv_icmp_le hx hb hd ht (fun h => kt h hok p e R s m args below meth c Z H locs cells slots la C hbc hbs hP hD hS hl hret) (fun h => kf h hok p e R s m args below meth c Z H locs cells slots la C hbc hbs hP hD hS hl hret)
set_option maxHeartbeats 4000000 in
theorem px_w_ifnull (G : px_G) (l : Launch) : px_r_ifnull G (px_Pw G l) := by
  intro M pc nx d bc bs z lv st ws Q off t r ha kt kf hok p e R s m args below meth c Z H locs cells slots la C hbc hbs hP hD hS hl hret
  obtain ⟨hx, hb, hr, hml, hown, hts, hlk, hin, hfr, hlo, hE⟩ := id C
  have ht : decide ((pc : Int) + off = (t : Int)) = true := px_kk hok ha
  have ht := of_decide_eq_true ht
  obtain ⟨hd, rfl⟩ := px_hd 3 hok ha rfl rfl
  cases r with
  | none => exact lv_ifnullN hx hb hd ht (kt rfl hok p e R s m args below meth c Z H locs cells slots la C hbc hbs hP hD hS hl hret)
  | some y => exact lv_ifnull hx hb hd (kf (by simp) hok p e R s m args below meth c Z H locs cells slots la C hbc hbs hP hD hS hl hret)
set_option maxHeartbeats 4000000 in
theorem px_w_ifnonnull (G : px_G) (l : Launch) : px_r_ifnonnull G (px_Pw G l) := by
  intro M pc nx d bc bs z lv st ws Q off t r ha kt kf hok p e R s m args below meth c Z H locs cells slots la C hbc hbs hP hD hS hl hret
  obtain ⟨hx, hb, hr, hml, hown, hts, hlk, hin, hfr, hlo, hE⟩ := id C
  have ht : decide ((pc : Int) + off = (t : Int)) = true := px_kk hok ha
  have ht := of_decide_eq_true ht
  obtain ⟨hd, rfl⟩ := px_hd 3 hok ha rfl rfl
  cases r with
  | none => exact lv_ifnonnullN hx hb hd (kf rfl hok p e R s m args below meth c Z H locs cells slots la C hbc hbs hP hD hS hl hret)
  | some y => exact lv_ifnonnull hx hb hd ht (kt (by simp) hok p e R s m args below meth c Z H locs cells slots la C hbc hbs hP hD hS hl hret)
set_option maxHeartbeats 4000000 in
theorem px_w_acmpeq (G : px_G) (l : Launch) : px_r_acmpeq G (px_Pw G l) := by
  intro M pc nx d bc bs z lv st ws Q off t rx ry ha kt kf hok p e R s m args below meth c Z H locs cells slots la C hbc hbs hP hD hS hl hret
  obtain ⟨hx, hb, hr, hml, hown, hts, hlk, hin, hfr, hlo, hE⟩ := id C
  have ht : decide ((pc : Int) + off = (t : Int)) = true := px_kk hok ha
  have ht := of_decide_eq_true ht
  obtain ⟨hd, rfl⟩ := px_hd 3 hok ha rfl rfl
  exact lv_acmp_eq hx hb hd ht (fun h => kt h hok p e R s m args below meth c Z H locs cells slots la C hbc hbs hP hD hS hl hret) (fun h => kf h hok p e R s m args below meth c Z H locs cells slots la C hbc hbs hP hD hS hl hret)
set_option maxHeartbeats 4000000 in
theorem px_w_acmpne (G : px_G) (l : Launch) : px_r_acmpne G (px_Pw G l) := by
  intro M pc nx d bc bs z lv st ws Q off t rx ry ha kt kf hok p e R s m args below meth c Z H locs cells slots la C hbc hbs hP hD hS hl hret
  obtain ⟨hx, hb, hr, hml, hown, hts, hlk, hin, hfr, hlo, hE⟩ := id C
  have ht : decide ((pc : Int) + off = (t : Int)) = true := px_kk hok ha
  have ht := of_decide_eq_true ht
  obtain ⟨hd, rfl⟩ := px_hd 3 hok ha rfl rfl
  exact lv_acmp_ne hx hb hd ht (fun h => kt h hok p e R s m args below meth c Z H locs cells slots la C hbc hbs hP hD hS hl hret) (fun h => kf h hok p e R s m args below meth c Z H locs cells slots la C hbc hbs hP hD hS hl hret)
set_option maxHeartbeats 4000000 in
theorem px_w_idiv (G : px_G) (l : Launch) : px_r_idiv G (px_Pw G l) := by
  intro M pc nx d bc bs tg z lv st ws Q x y ha hy kk hok p e R s m args below meth c Z H locs cells slots la C hbc hbs hP hD hS hl hret
  obtain ⟨hx, hb, hr, hml, hown, hts, hlk, hin, hfr, hlo, hE⟩ := id C
  obtain ⟨hd, rfl⟩ := px_hd 1 hok ha rfl rfl
  exact lv_idiv hx hb hd hy (kk hok p e R s m args below meth c Z H locs cells slots la C hbc hbs hP hD hS hl hret)
set_option maxHeartbeats 4000000 in
theorem px_w_irem (G : px_G) (l : Launch) : px_r_irem G (px_Pw G l) := by
  intro M pc nx d bc bs tg z lv st ws Q x y ha hy kk hok p e R s m args below meth c Z H locs cells slots la C hbc hbs hP hD hS hl hret
  obtain ⟨hx, hb, hr, hml, hown, hts, hlk, hin, hfr, hlo, hE⟩ := id C
  obtain ⟨hd, rfl⟩ := px_hd 1 hok ha rfl rfl
  exact lv_irem hx hb hd hy (kk hok p e R s m args below meth c Z H locs cells slots la C hbc hbs hP hD hS hl hret)
set_option maxHeartbeats 4000000 in
theorem px_w_get (G : px_G) (l : Launch) : px_r_get G (px_Pw G l) := by
  intro M pc nx d bc bs tg z lv st ws Q idx ci k a fs v ha hF hw hv kk hok p e R s m args below meth c Z H locs cells slots la C hbc hbs hP hD hS hl hret
  obtain ⟨hx, hb, hr, hml, hown, hts, hlk, hin, hfr, hlo, hE⟩ := id C
  obtain ⟨hd, rfl⟩ := px_hd 3 hok ha rfl rfl
  obtain ⟨K, T, N, hc, hk, ref, hlink, hsm⟩ := hF
  obtain ⟨q0, hq, -⟩ := px_lk_pos _ _ _ hw
  exact va_get hx hb hts (px_clok hc).1 hown hE.1 hP q0 hq hc k hk (hts _ hlink) (px_sm hts hsm) hv hd (kk hok p e R s m args below meth c Z H locs cells slots la C hbc hbs hP hD hS hl hret)
set_option maxHeartbeats 4000000 in
theorem px_w_getN (G : px_G) (l : Launch) : px_r_getN G (px_Pw G l) := by
  intro M pc nx d bc bs tg z lv st ws Q idx ci k a fs v ha hF hw hv kk hok p e R s m args below meth c Z H locs cells slots la C hbc hbs hP hD hS hl hret
  obtain ⟨hx, hb, hr, hml, hown, hts, hlk, hin, hfr, hlo, hE⟩ := id C
  obtain ⟨hd, rfl⟩ := px_hd 3 hok ha rfl rfl
  obtain ⟨K, T, N, host, hc, hk, hlink⟩ := hF
  obtain ⟨q0, hq, -⟩ := px_lk_pos _ _ _ hw
  exact va_getN (host := host) hx hb hts (px_clok hc).1 hown hE.1 hP q0 hq hc k hk (va_Nw.use rfl (hE.2.2.1 _ hlink)) (fun _ h9 => h9) hv hd (kk hok p e R s m args below meth c Z H locs cells slots la C hbc hbs hP hD hS hl hret)
set_option maxHeartbeats 4000000 in
theorem px_w_put (G : px_G) (l : Launch) : px_r_put G (px_Pw G l) := by
  intro M pc nx d bc bs tg z lv st ws Q idx ci k a fs v ty ha hF hw hn hf hkl kk hok p e R s m args below meth c Z H locs cells slots la C hbc hbs hP hD hS hl hret
  obtain ⟨hx, hb, hr, hml, hown, hts, hlk, hin, hfr, hlo, hE⟩ := id C
  obtain ⟨hd, rfl⟩ := px_hd 3 hok ha rfl rfl
  obtain ⟨K, T, N, hc, hk, ⟨ref, hlink, hsm⟩, hfin, hty⟩ := hF
  obtain ⟨q0, hq, hu⟩ := px_lk_pos _ _ _ hw
  exact va_put hx hb hts (px_clok hc).1 (px_ty ci) (px_clok hc).2.1 (px_clok hc).2.2 hown hE.1 hP hD hS q0 hq hc k hk (hts _ hlink) (px_sm hts hsm) hfin (by rw [(px_clok hc).2.1 k hk, hty]) hn hf hkl hd (fun H1 locs1 hP1 hD1 hS1 => kk hok p e R s m args below meth c Z H1 locs1 cells slots la C hbc hbs (by rw [hu]; exact hP1) (by rw [hu]; exact hD1) hS1 hl hret)
set_option maxHeartbeats 4000000 in
theorem px_w_putF (G : px_G) (l : Launch) : px_r_putF G (px_Pw G l) := by
  intro M pc nx d bc bs tg z lv st ws Q idx ci k a fs v ty ha hF hi hw hn hf hkl kk hok p e R s m args below meth c Z H locs cells slots la C hbc hbs hP hD hS hl hret
  obtain ⟨hx, hb, hr, hml, hown, hts, hlk, hin, hfr, hlo, hE⟩ := id C
  obtain ⟨hd, rfl⟩ := px_hd 3 hok ha rfl rfl
  obtain ⟨K, T, N, hc, hk, ⟨ref, hlink, hsm⟩, hfin, hty, hdecl⟩ := hF
  obtain ⟨q0, hq, hu⟩ := px_lk_pos _ _ _ hw
  exact va_putF hx hb hts (px_clok hc).1 (px_ty ci) (px_clok hc).2.1 (px_clok hc).2.2 hown hE.1 hP hD hS q0 hq hc k hk (hts _ hlink) (px_sm hts hsm) hfin (hin hi) hdecl (by rw [(px_clok hc).2.1 k hk, hty]) hn hf hkl hd (fun H1 locs1 hP1 hD1 hS1 => kk hok p e R s m args below meth c Z H1 locs1 cells slots la C hbc hbs (by rw [hu]; exact hP1) (by rw [hu]; exact hD1) hS1 hl hret)
set_option maxHeartbeats 4000000 in
theorem px_w_new (G : px_G) (l : Launch) : px_r_new G (px_Pw G l) := by
  intro M pc nx d bc bs tg z lv st ws Q idx ci N fs ha hF kk hok p e R s m args below meth c Z H locs cells slots la C hbc hbs hP hD hS hl hret
  obtain ⟨hx, hb, hr, hml, hown, hts, hlk, hin, hfr, hlo, hE⟩ := id C
  obtain ⟨hd, rfl⟩ := px_hd 3 hok ha rfl rfl
  obtain ⟨K, T, hc, hcl, hins, hini, hfs⟩ := hF
  exact va_new hx hb hts (px_clok hc).1 (px_ty ci) (px_clok hc).2.1 hown (hts _ hcl) (hts _ hins) (hts _ hini) hE.1 hP hD hS (fun q h => Nat.le_trans hE.2.1 h) hc hfs (by omega) (by omega) hd (fun q H1 hP1 hD1 hS1 => kk q (px_fresh hD1) (hD1.2 ws.length (q, .inr (ci, fs)) (by simp)) hok p e R s m args below meth c Z H1 locs (cells + 1) (slots + N) la C (by omega) (by omega) hP1 hD1 hS1 hl (fun v1 ws1 H1' locs1' la1 pc1 g1 g2 g3 g4 g5 => by rw [show cells + 1 + bc = cells + (bc + 1) by omega, show slots + N + bs = slots + (bs + N) by omega]; exact hret v1 ws1 H1' locs1' la1 pc1 g1 g2 g3 g4 g5))
set_option maxHeartbeats 4000000 in
theorem px_w_weak (G : px_G) (l : Launch) : px_r_weak G (px_Pw G l) := by
  intro M pc d bc bs lv st ws Q dd k1 k2 kk hok p e R s m args below meth c Z H locs cells slots la C hbc hbs hP hD hS hl hret
  obtain ⟨hx, hb, hr, hml, hown, hts, hlk, hin, hfr, hlo, hE⟩ := id C
  refine W.widen (k := cells + k1) (n := slots + k2) (by omega) (by omega) ?_
  exact kk hok p e R s m args below meth c Z H locs (cells + k1) (slots + k2) la ⟨hx, hb, hr, hml, hown, hts, hlk, hin, by omega, by omega, hE⟩ (by omega) (by omega) hP hD hS hl (fun v1 ws1 H1' locs1' la1 pc1 g1 g2 g3 g4 g5 => by rw [show cells + k1 + bc = cells + (k1 + bc) by omega, show slots + k2 + bs = slots + (k2 + bs) by omega]; exact hret v1 ws1 H1' locs1' la1 pc1 g1 g2 g3 g4 g5)
set_option maxHeartbeats 4000000 in
theorem px_w_iret (G : px_G) (l : Launch) : px_r_iret G (px_Pw G l) := by
  intro M pc nx d bc bs tg z lv ws Q x ty ha ht hn hq hok p e R s m args below meth c Z H locs cells slots la C hbc hbs hP hD hS hl hret
  obtain ⟨hx, hb, hr, hml, hown, hts, hlk, hin, hfr, hlo, hE⟩ := id C
  refine W.widen (k := cells + bc) (n := slots + bs) (by omega) (by omega) ?_
  exact hret _ ws H locs la pc hq hP hD hS (Or.inl ⟨ty, x, rfl, ht, hn, (px_hd 1 hok ha rfl rfl).1⟩)
set_option maxHeartbeats 4000000 in
theorem px_w_vret (G : px_G) (l : Launch) : px_r_vret G (px_Pw G l) := by
  intro M pc nx d bc bs tg z lv ws Q ha ht hq hok p e R s m args below meth c Z H locs cells slots la C hbc hbs hP hD hS hl hret
  obtain ⟨hx, hb, hr, hml, hown, hts, hlk, hin, hfr, hlo, hE⟩ := id C
  refine W.widen (k := cells + bc) (n := slots + bs) (by omega) (by omega) ?_
  exact hret _ ws H locs la pc hq hP hD hS (Or.inr (Or.inl ⟨rfl, ht, (px_hd 1 hok ha rfl rfl).1⟩))
set_option maxHeartbeats 4000000 in
theorem px_w_aret (G : px_G) (l : Launch) : px_r_aret G (px_Pw G l) := by
  intro M pc nx d bc bs tg z lv ws Q r ty ha ht hty hq hok p e R s m args below meth c Z H locs cells slots la C hbc hbs hP hD hS hl hret
  obtain ⟨hx, hb, hr, hml, hown, hts, hlk, hin, hfr, hlo, hE⟩ := id C
  refine W.widen (k := cells + bc) (n := slots + bs) (by omega) (by omega) ?_
  exact hret _ ws H locs la pc hq hP hD hS (Or.inr (Or.inr ⟨ty, va_rf r, rfl, ht, hty, (by cases r with
    | none => exact Or.inl rfl
    | some y => exact Or.inr ⟨y, rfl⟩), (px_hd 1 hok ha rfl rfl).1⟩))
set_option maxHeartbeats 4000000 in
theorem px_w_ldc (G : px_G) (l : Launch) : px_r_ldc G (px_Pw G l) := by
  intro M pc nx d bc bs tg z lv st ws Q idx v ha hF kk hok p e R s m args below meth c Z H locs cells slots la C hbc hbs hP hD hS hl hret
  obtain ⟨hx, hb, hr, hml, hown, hts, hlk, hin, hfr, hlo, hE⟩ := id C
  obtain ⟨hd, rfl⟩ := px_hd 2 hok ha rfl rfl
  exact lv_ldc hx hb hown (hts _ hF) hd (kk hok p e R s m args below meth c Z H locs cells slots la C hbc hbs hP hD hS hl hret)
set_option maxHeartbeats 4000000 in
theorem px_w_castN (G : px_G) (l : Launch) : px_r_castN G (px_Pw G l) := by
  intro M pc nx d bc bs tg z lv st ws Q idx ha kk hok p e R s m args below meth c Z H locs cells slots la C hbc hbs hP hD hS hl hret
  obtain ⟨hx, hb, hr, hml, hown, hts, hlk, hin, hfr, hlo, hE⟩ := id C
  obtain ⟨hd, rfl⟩ := px_hd 3 hok ha rfl rfl
  exact lv_castN hx hb hd (kk hok p e R s m args below meth c Z H locs cells slots la C hbc hbs hP hD hS hl hret)
set_option maxHeartbeats 4000000 in
theorem px_w_castS (G : px_G) (l : Launch) : px_r_castS G (px_Pw G l) := by
  intro M pc nx d bc bs tg z lv st ws Q idx ci a fs ha hF hw kk hok p e R s m args below meth c Z H locs cells slots la C hbc hbs hP hD hS hl hret
  obtain ⟨hx, hb, hr, hml, hown, hts, hlk, hin, hfr, hlo, hE⟩ := id C
  obtain ⟨hd, rfl⟩ := px_hd 3 hok ha rfl rfl
  obtain ⟨K, T, N, hc, hcl⟩ := hF
  obtain ⟨q0, hq, -⟩ := px_lk_pos _ _ _ hw
  exact va_castS hx hb hown (hts _ hcl) (hE.1.1 ci _ hc).2 (va_recv hE.1 hP hc hq) hd (kk hok p e R s m args below meth c Z H locs cells slots la C hbc hbs hP hD hS hl hret)
set_option maxHeartbeats 4000000 in
theorem px_w_iald (G : px_G) (l : Launch) : px_r_iald G (px_Pw G l) := by
  intro M pc nx d bc bs tg z lv st ws Q a t n f j ha ht hw hj kk hok p e R s m args below meth c Z H locs cells slots la C hbc hbs hP hD hS hl hret
  obtain ⟨hx, hb, hr, hml, hown, hts, hlk, hin, hfr, hlo, hE⟩ := id C
  obtain ⟨hd, rfl⟩ := px_hd 1 hok ha rfl rfl
  obtain ⟨q0, hq, -⟩ := px_lk_pos _ _ _ hw
  exact va_iald hx hb hE.1 hP q0 t hq ht hj hd (kk hok p e R s m args below meth c Z H locs cells slots la C hbc hbs hP hD hS hl hret)
set_option maxHeartbeats 4000000 in
theorem px_w_zald (G : px_G) (l : Launch) : px_r_zald G (px_Pw G l) := by
  intro M pc nx d bc bs tg z lv st ws Q a t n f j ha ht hw hj kk hok p e R s m args below meth c Z H locs cells slots la C hbc hbs hP hD hS hl hret
  obtain ⟨hx, hb, hr, hml, hown, hts, hlk, hin, hfr, hlo, hE⟩ := id C
  obtain ⟨hd, rfl⟩ := px_hd 1 hok ha rfl rfl
  obtain ⟨q0, hq, -⟩ := px_lk_pos _ _ _ hw
  exact va_zald hx hb hE.1 hP q0 t hq ht hj hd (kk hok p e R s m args below meth c Z H locs cells slots la C hbc hbs hP hD hS hl hret)
set_option maxHeartbeats 4000000 in
theorem px_w_iast (G : px_G) (l : Launch) : px_r_iast G (px_Pw G l) := by
  intro M pc nx d bc bs tg z lv st ws Q a t n f j x ha ht hw hj kk hok p e R s m args below meth c Z H locs cells slots la C hbc hbs hP hD hS hl hret
  obtain ⟨hx, hb, hr, hml, hown, hts, hlk, hin, hfr, hlo, hE⟩ := id C
  obtain ⟨hd, rfl⟩ := px_hd 1 hok ha rfl rfl
  obtain ⟨q0, hq, hu⟩ := px_lk_pos _ _ _ hw
  exact va_iast hx hb hE.1 hP hD hS q0 t hq ht hj hd (fun H1 locs1 hP1 hD1 hS1 => kk hok p e R s m args below meth c Z H1 locs1 cells slots la C hbc hbs (by rw [hu]; exact hP1) (by rw [hu]; exact hD1) hS1 hl hret)
set_option maxHeartbeats 4000000 in
theorem px_w_zast (G : px_G) (l : Launch) : px_r_zast G (px_Pw G l) := by
  intro M pc nx d bc bs tg z lv st ws Q a t n f j x ha ht hw hj kk hok p e R s m args below meth c Z H locs cells slots la C hbc hbs hP hD hS hl hret
  obtain ⟨hx, hb, hr, hml, hown, hts, hlk, hin, hfr, hlo, hE⟩ := id C
  obtain ⟨hd, rfl⟩ := px_hd 1 hok ha rfl rfl
  obtain ⟨q0, hq, hu⟩ := px_lk_pos _ _ _ hw
  exact va_zast hx hb hE.1 hP hD hS q0 t hq ht hj hd (fun H1 locs1 hP1 hD1 hS1 => kk hok p e R s m args below meth c Z H1 locs1 cells slots la C hbc hbs (by rw [hu]; exact hP1) (by rw [hu]; exact hD1) hS1 hl hret)
set_option maxHeartbeats 4000000 in
theorem px_w_aald (G : px_G) (l : Launch) : px_r_aald G (px_Pw G l) := by
  intro M pc nx d bc bs tg z lv st ws Q a t n K f j ha ht hw hj kk hok p e R s m args below meth c Z H locs cells slots la C hbc hbs hP hD hS hl hret
  obtain ⟨hx, hb, hr, hml, hown, hts, hlk, hin, hfr, hlo, hE⟩ := id C
  obtain ⟨hd, rfl⟩ := px_hd 1 hok ha rfl rfl
  obtain ⟨q0, hq, -⟩ := px_lk_pos _ _ _ hw
  exact va_aldq hx hb hE.1 hP q0 t hq ht hj hd (kk hok p e R s m args below meth c Z H locs cells slots la C hbc hbs hP hD hS hl hret)
set_option maxHeartbeats 4000000 in
theorem px_w_aastN (G : px_G) (l : Launch) : px_r_aastN G (px_Pw G l) := by
  intro M pc nx d bc bs tg z lv st ws Q a t n K f j ha ht hw hj kk hok p e R s m args below meth c Z H locs cells slots la C hbc hbs hP hD hS hl hret
  obtain ⟨hx, hb, hr, hml, hown, hts, hlk, hin, hfr, hlo, hE⟩ := id C
  obtain ⟨hd, rfl⟩ := px_hd 1 hok ha rfl rfl
  obtain ⟨q0, hq, hu⟩ := px_lk_pos _ _ _ hw
  exact va_astqN hx hb hE.1 hP hD hS q0 t hq ht hj hd (fun H1 locs1 hP1 hD1 hS1 => kk hok p e R s m args below meth c Z H1 locs1 cells slots la C hbc hbs (by rw [hu]; exact hP1) (by rw [hu]; exact hD1) hS1 hl hret)
set_option maxHeartbeats 4000000 in
theorem px_w_aast (G : px_G) (l : Launch) : px_r_aast G (px_Pw G l) := by
  intro M pc nx d bc bs tg z lv st ws Q a t n v ci K C0 T N f vs j ha ht hw hc hca hv hj kk hok p e R s m args below meth c Z H locs cells slots la C hbc hbs hP hD hS hl hret
  obtain ⟨hx, hb, hr, hml, hown, hts, hlk, hin, hfr, hlo, hE⟩ := id C
  obtain ⟨hd, rfl⟩ := px_hd 1 hok ha rfl rfl
  obtain ⟨q0, hq, hu⟩ := px_lk_pos _ _ _ hw
  obtain ⟨qk, hqk, -⟩ := px_lk_pos _ _ _ hv
  exact va_astqO hx hb hE.1 hP hD hS q0 t qk ci hq ht (hE.2.2.1 _ hca) hqk hc hj hd (fun H1 locs1 hP1 hD1 hS1 => kk hok p e R s m args below meth c Z H1 locs1 cells slots la C hbc hbs (by rw [hu]; exact hP1) (by rw [hu]; exact hD1) hS1 hl hret)
set_option maxHeartbeats 4000000 in
theorem px_w_alen (G : px_G) (l : Launch) : px_r_alen G (px_Pw G l) := by
  intro M pc nx d bc bs tg z lv st ws Q a t n x ty ha ht hw hn kk hok p e R s m args below meth c Z H locs cells slots la C hbc hbs hP hD hS hl hret
  obtain ⟨hx, hb, hr, hml, hown, hts, hlk, hin, hfr, hlo, hE⟩ := id C
  obtain ⟨hd, rfl⟩ := px_hd 1 hok ha rfl rfl
  obtain ⟨q0, hq, -⟩ := px_lk_pos _ _ _ hw
  exact va_alen hx hb hE.1 hP q0 t hq ht (by rw [hn]; rfl) hd (kk hok p e R s m args below meth c Z H locs cells slots la C hbc hbs hP hD hS hl hret)
set_option maxHeartbeats 4000000 in
theorem px_w_sld (G : px_G) (l : Launch) : px_r_sld G (px_Pw G l) := by
  intro M pc nx d bc bs tg z lv st ws Q j ha hj kk hok p e R s m args below meth c Z H locs cells slots la C hbc hbs hP hD hS hl hret
  obtain ⟨hx, hb, hr, hml, hown, hts, hlk, hin, hfr, hlo, hE⟩ := id C
  obtain ⟨hd, rfl⟩ := px_hd 1 hok ha rfl rfl
  exact va_sld hx hb hE.2.2.2.1 (Nat.lt_of_lt_of_le hE.2.2.2.2.1 hE.2.1) (Nat.not_le.mpr hE.2.2.2.2.1) hS hj hd (kk hok p e R s m args below meth c Z H locs cells slots la C hbc hbs hP hD hS hl hret)
set_option maxHeartbeats 4000000 in
theorem px_w_slen (G : px_G) (l : Launch) : px_r_slen G (px_Pw G l) := by
  intro M pc nx d bc bs tg z lv st ws Q ha kk hok p e R s m args below meth c Z H locs cells slots la C hbc hbs hP hD hS hl hret
  obtain ⟨hx, hb, hr, hml, hown, hts, hlk, hin, hfr, hlo, hE⟩ := id C
  obtain ⟨hd, rfl⟩ := px_hd 1 hok ha rfl rfl
  exact va_slen hx hb hE.2.2.2.1 (Nat.lt_of_lt_of_le hE.2.2.2.2.1 hE.2.1) (Nat.not_le.mpr hE.2.2.2.2.1) hS hd (kk hok p e R s m args below meth c Z H locs cells slots la C hbc hbs hP hD hS hl hret)
set_option maxHeartbeats 4000000 in
theorem px_w_newI (G : px_G) (l : Launch) : px_r_newI G (px_Pw G l) := by
  intro M pc nx d bc bs tg z lv st ws Q t N n ha ht hw hn hN hby kk hok p e R s m args below meth c Z H locs cells slots la C hbc hbs hP hD hS hl hret
  obtain ⟨hx, hb, hr, hml, hown, hts, hlk, hin, hfr, hlo, hE⟩ := id C
  obtain ⟨hd, rfl⟩ := px_hd 2 hok ha rfl rfl
  exact va_newa (atype := .int) (ty := .int) (a0 := (N, .inl (fun _ => 0))) hx hb (hts _ hw) rfl hE.1 hP hD hS (fun q h => Nat.le_trans hE.2.1 h) (fun _ => rfl) hn hN hby (by omega) (by omega) hd (fun q cA H1 hK1 hP1 hD1 hS1 => by
    have hcA : cA = g_dA G t := px_cA_prim hE.1 hK1 ht (by intro n h; cases h)
    subst hcA
    exact kk q (px_fresh hD1) (px_freshA hD1) hok p e R s m args below meth c Z H1 locs (cells + 1) (slots + N) la C (by omega) (by omega) hP1 hD1 hS1 hl (fun v1 ws1 H1' locs1' la1 pc1 g1 g2 g3 g4 g5 => by rw [show cells + 1 + bc = cells + (bc + 1) by omega, show slots + N + bs = slots + (bs + N) by omega]; exact hret v1 ws1 H1' locs1' la1 pc1 g1 g2 g3 g4 g5))
set_option maxHeartbeats 4000000 in
theorem px_w_newZ (G : px_G) (l : Launch) : px_r_newZ G (px_Pw G l) := by
  intro M pc nx d bc bs tg z lv st ws Q t N n ha ht hw hn hN hby kk hok p e R s m args below meth c Z H locs cells slots la C hbc hbs hP hD hS hl hret
  obtain ⟨hx, hb, hr, hml, hown, hts, hlk, hin, hfr, hlo, hE⟩ := id C
  obtain ⟨hd, rfl⟩ := px_hd 2 hok ha rfl rfl
  exact va_newa (atype := .boolean) (ty := .boolean) (a0 := (N, .inl (fun _ => 0))) hx hb (hts _ hw) rfl hE.1 hP hD hS (fun q h => Nat.le_trans hE.2.1 h) (fun _ => rfl) hn hN hby (by omega) (by omega) hd (fun q cA H1 hK1 hP1 hD1 hS1 => by
    have hcA : cA = g_dA G t := px_cA_prim hE.1 hK1 ht (by intro n h; cases h)
    subst hcA
    exact kk q (px_fresh hD1) (px_freshA hD1) hok p e R s m args below meth c Z H1 locs (cells + 1) (slots + N) la C (by omega) (by omega) hP1 hD1 hS1 hl (fun v1 ws1 H1' locs1' la1 pc1 g1 g2 g3 g4 g5 => by rw [show cells + 1 + bc = cells + (bc + 1) by omega, show slots + N + bs = slots + (bs + N) by omega]; exact hret v1 ws1 H1' locs1' la1 pc1 g1 g2 g3 g4 g5))
set_option maxHeartbeats 4000000 in
theorem px_w_newQ (G : px_G) (l : Launch) : px_r_newQ G (px_Pw G l) := by
  intro M pc nx d bc bs tg z lv st ws Q idx t N n ha ht hcl hn hN hby kk hok p e R s m args below meth c Z H locs cells slots la C hbc hbs hP hD hS hl hret
  obtain ⟨hx, hb, hr, hml, hown, hts, hlk, hin, hfr, hlo, hE⟩ := id C
  obtain ⟨hd, rfl⟩ := px_hd 3 hok ha rfl rfl
  exact va_newq hx hb hown (hts _ hcl) hE.2.2.2.2.2.2.1 hE.1 hP hD hS (fun q h => Nat.le_trans hE.2.1 h) hn hN hby (by omega) (by omega) hd (fun q cA H1 hK1 hP1 hD1 hS1 => by
    have hcA : cA = g_dA G t := px_cA_obj hE.1 hK1 ht
    subst hcA
    exact kk q (px_fresh hD1) (px_freshA hD1) hok p e R s m args below meth c Z H1 locs (cells + 1) (slots + N) la C (by omega) (by omega) hP1 hD1 hS1 hl (fun v1 ws1 H1' locs1' la1 pc1 g1 g2 g3 g4 g5 => by rw [show cells + 1 + bc = cells + (bc + 1) by omega, show slots + N + bs = slots + (bs + N) by omega]; exact hret v1 ws1 H1' locs1' la1 pc1 g1 g2 g3 g4 g5))
set_option maxHeartbeats 4000000 in
theorem px_w_objI (G : px_G) (l : Launch) : px_r_objI G (px_Pw G l) := by
  intro M pc nx d bc bs tg z lv st ws Q idx a ha hF hi hco hst kk hok p e R s m args below meth c Z H locs cells slots la C hbc hbs hP hD hS hl hret
  obtain ⟨hx, hb, hr, hml, hown, hts, hlk, hin, hfr, hlo, hE⟩ := id C
  obtain ⟨hd, rfl⟩ := px_hd 3 hok ha rfl rfl
  refine W.objInit hx hb hown (hts _ hF) (hts _ hi) (hts _ hco) rfl (by rw [hml]; exact hl.1) rfl hd (by omega) ?_ ?_
  · have h9 := lv_room (m := m) (pc := pc) (ls := la) (rest := .ref a :: st) (st := st) hst
    omega
  · exact kk hok p e R s m args below meth c Z H locs cells slots la C hbc hbs hP hD hS hl hret
set_option maxHeartbeats 4000000 in
theorem px_w_max (G : px_G) (l : Launch) : px_r_max G (px_Pw G l) := by
  intro M pc nx d bc bs tg z lv st ws Q idx x y ha hF hs hi hco hst kk hok p e R s m args below meth c Z H locs cells slots la C hbc hbs hP hD hS hl hret
  obtain ⟨hx, hb, hr, hml, hown, hts, hlk, hin, hfr, hlo, hE⟩ := id C
  obtain ⟨hd, rfl⟩ := px_hd 3 hok ha rfl rfl
  exact va_mmax hx hb (hml.trans hl.1.symm) hown (hts _ hF) (hts _ hs) (hts _ hi) (hts _ hco) (by omega) (by omega) (by omega) (by omega) hd (kk hok p e R s m args below meth c Z H locs cells slots la C hbc hbs hP hD hS hl hret)
set_option maxHeartbeats 4000000 in
theorem px_w_min (G : px_G) (l : Launch) : px_r_min G (px_Pw G l) := by
  intro M pc nx d bc bs tg z lv st ws Q idx x y ha hF hs hi hco hst kk hok p e R s m args below meth c Z H locs cells slots la C hbc hbs hP hD hS hl hret
  obtain ⟨hx, hb, hr, hml, hown, hts, hlk, hin, hfr, hlo, hE⟩ := id C
  obtain ⟨hd, rfl⟩ := px_hd 3 hok ha rfl rfl
  exact va_mmin hx hb (hml.trans hl.1.symm) hown (hts _ hF) (hts _ hs) (hts _ hi) (hts _ hco) (by omega) (by omega) (by omega) (by omega) hd (kk hok p e R s m args below meth c Z H locs cells slots la C hbc hbs hP hD hS hl hret)
set_option maxHeartbeats 4000000 in
theorem px_w_tabO (G : px_G) (l : Launch) : px_r_tabO G (px_Pw G l) := by
  intro M pc nx d bc bs tg z lv st ws Q df lw hi os t x ha ho ht kk hok p e R s m args below meth c Z H locs cells slots la C hbc hbs hP hD hS hl hret
  obtain ⟨hx, hb, hr, hml, hown, hts, hlk, hin, hfr, hlo, hE⟩ := id C
  exact lv_tableOut hx hb (px_dec hok ha).1 ho ht (kk hok p e R s m args below meth c Z H locs cells slots la C hbc hbs hP hD hS hl hret)
set_option maxHeartbeats 4000000 in
theorem px_w_tabI (G : px_G) (l : Launch) : px_r_tabI G (px_Pw G l) := by
  intro M pc nx d bc bs tg z lv st ws Q df lw hi of os t x ha h1 h2 ho ht kk hok p e R s m args below meth c Z H locs cells slots la C hbc hbs hP hD hS hl hret
  obtain ⟨hx, hb, hr, hml, hown, hts, hlk, hin, hfr, hlo, hE⟩ := id C
  exact lv_tableIn hx hb (px_dec hok ha).1 h1 h2 ho ht (kk hok p e R s m args below meth c Z H locs cells slots la C hbc hbs hP hD hS hl hret)
set_option maxHeartbeats 4000000 in
theorem px_w_gets (G : px_G) (l : Launch) : px_r_gets G (px_Pw G l) := by
  intro M pc nx d bc bs tg z lv st ws Q idx k q ha hq hF kk hok p e R s m args below meth c Z H locs cells slots la C hbc hbs hP hD hS hl hret
  obtain ⟨hx, hb, hr, hml, hown, hts, hlk, hin, hfr, hlo, hE⟩ := id C
  obtain ⟨hd, rfl⟩ := px_hd 3 hok ha rfl rfl
  exact va_gets hx hb (hE.2.2.2.2.2.1 k q hq).1 hS hown (hts _ hF) (fun _ h9 => h9) hd (kk hok p e R s m args below meth c Z H locs cells slots la C hbc hbs hP hD hS hl hret)
set_option maxHeartbeats 4000000 in
theorem px_w_tlen (G : px_G) (l : Launch) : px_r_tlen G (px_Pw G l) := by
  intro M pc nx d bc bs tg z lv st ws Q k q ha hq kk hok p e R s m args below meth c Z H locs cells slots la C hbc hbs hP hD hS hl hret
  obtain ⟨hx, hb, hr, hml, hown, hts, hlk, hin, hfr, hlo, hE⟩ := id C
  obtain ⟨hd, rfl⟩ := px_hd 1 hok ha rfl rfl
  exact va_tlen hx hb (hE.2.2.2.2.2.1 k q hq).2 hS rfl hd (kk hok p e R s m args below meth c Z H locs cells slots la C hbc hbs hP hD hS hl hret)
set_option maxHeartbeats 4000000 in
theorem px_w_ldcw (G : px_G) (l : Launch) : px_r_ldcw G (px_Pw G l) := by
  intro M pc nx d bc bs tg z lv st ws Q idx v ha hF kk hok p e R s m args below meth c Z H locs cells slots la C hbc hbs hP hD hS hl hret
  obtain ⟨hx, hb, hr, hml, hown, hts, hlk, hin, hfr, hlo, hE⟩ := id C
  obtain ⟨hd, rfl⟩ := px_hd 3 hok ha rfl rfl
  exact lv_ldcw hx hb hown (hts _ hF) hd (kk hok p e R s m args below meth c Z H locs cells slots la C hbc hbs hP hD hS hl hret)
set_option maxHeartbeats 4000000 in
theorem px_w_ldcM (G : px_G) (l : Launch) : px_r_ldcM G (px_Pw G l) := by
  intro M pc nx d bc bs tg z lv st ws Q idx ha hF kk hok p e R s m args below meth c Z H locs cells slots la C hbc hbs hP hD hS hl hret
  obtain ⟨hx, hb, hr, hml, hown, hts, hlk, hin, hfr, hlo, hE⟩ := id C
  obtain ⟨hd, rfl⟩ := px_hd 2 hok ha rfl rfl
  exact va_ldcM hx hb hown (hts _ hF) hE.2.2.2.2.2.2.2 hd (kk hok p e R s m args below meth c Z H locs cells slots la C hbc hbs hP hD hS hl hret)
set_option maxHeartbeats 4000000 in
theorem px_w_getC (G : px_G) (l : Launch) : px_r_getC G (px_Pw G l) := by
  intro M pc nx d bc bs tg z lv st ws Q idx a n f ha hF hw hst kk hok p e R s m args below meth c Z H locs cells slots la C hbc hbs hP hD hS hl hret
  obtain ⟨hx, hb, hr, hml, hown, hts, hlk, hin, hfr, hlo, hE⟩ := id C
  obtain ⟨hd, rfl⟩ := px_hd 3 hok ha rfl rfl
  obtain ⟨q0, hq, -⟩ := px_lk_pos _ _ _ hw
  exact va_getC (C := "[Ljava/lang/Object;") hx hb (hml.trans hl.1.symm) hown (hts _ hF) (va_Nw.use rfl (hE.2.2.1 _ w_683)) (hts _ w_682) (hts _ w_199) (hts _ w_209) hE.2.2.2.2.2.2.2 ⟨_, hP q0 _ hq, rfl, va_nmO (hE.1.2 2 _ rfl).2 (by decide +kernel)⟩ (by omega) (by omega) hd (kk hok p e R s m args below meth c Z H locs cells slots la C hbc hbs hP hD hS hl hret)
set_option maxHeartbeats 4000000 in
theorem px_w_copy (G : px_G) (l : Launch) : px_r_copy G (px_Pw G l) := by
  intro M pc nx d bc bs tg z lv st ws Q idx a0 a n0 n1 f g sp dp n ha hF hw0 hw1 h1 h2 h3 h4 h5 hel hst kk hok p e R s m args below meth c Z H locs cells slots la C hbc hbs hP hD hS hl hret
  obtain ⟨hx, hb, hr, hml, hown, hts, hlk, hin, hfr, hlo, hE⟩ := id C
  obtain ⟨hd, rfl⟩ := px_hd 3 hok ha rfl rfl
  obtain ⟨q0, hq0, -⟩ := px_lk_pos _ _ _ hw0
  obtain ⟨q1, hq, hu⟩ := px_lk_pos _ _ _ hw1
  have hnat : nativeFrameWords "java/lang/System" "arraycopy" 5 + 11 ≤ 29 := by decide +kernel
  exact va_copyM hx hb (hml.trans hl.1.symm) hown (hts _ hF) (hts _ w_221) (hts _ w_220) (hts _ w_12) hE.1 hP hD hS q0 q1 2 2 hq0 hq rfl rfl h1 h2 h3 h4 h5 (fun i hi y hy => by
    obtain ⟨ci, fs, K, T, N, hly, hc, hca⟩ := hel i hi y hy
    obtain ⟨qy, hqy, -⟩ := px_lk_pos _ _ _ hly
    refine va_rAny hE.1 hP hqy hc (fun comp c0 e1 e2 => ?_)
    obtain ⟨c9, t9, f1, f2, f3⟩ := Cond.castable_spec (va_Nw.use (A := args) rfl (hE.2.2.1 _ hca))
    cases e2.symm.trans f1
    cases e1.symm.trans f2
    exact f3) (by omega) (by omega) hd (fun H1 locs1 hP1 hD1 hS1 => kk hok p e R s m args below meth c Z H1 locs1 cells slots la C hbc hbs (by rw [hu]; exact hP1) (by rw [hu]; exact hD1) hS1 hl hret)
set_option maxHeartbeats 4000000 in
theorem px_w_callV (G : px_G) (l : Launch) : px_r_callV G (px_Pw G l) := by
  intro M pc nx d bc bs tg z lv st ws Q idx kc ks n B S M' As rest Rq b ci C0 T N fs ha hF hcl hw hg hsp hB hSS hvl hrs hc kk hok p e R s m args below meth c Z H locs cells slots la C hbc hbs hP hD hS hl hret
  obtain ⟨hx, hb, hr, hml, hown, hts, hlk, hin, hfr, hlo, hE⟩ := id C
  obtain ⟨hd, rfl⟩ := px_hd 3 hok ha rfl rfl
  subst hB
  subst hSS
  obtain ⟨hst, hn⟩ := px_spl_eq n st hsp
  subst hst
  have hmet := px_met hg hvl hc
  obtain ⟨q0, hq, -⟩ := px_lk_pos _ _ _ hw
  have hcw : CallW R s args (px_y M).cls C0 idx (px_y M') (px_b M') (px_L M') (px_t M') (Cond.code (px_y M') (px_b M') (px_L M') (px_t M') :: px_TB) (px_rm d kc ks) kc ks n := cwV n hts (px_goodIn (px_wsV hF.1 hg)) rfl rfl rfl hF.2 ⟨by show d + 1 ≤ R.frames; omega, by show 8 + (px_L M' + 11) + 37 * d ≤ R.locals; have := hg.2.2.2; omega⟩
  have hpre : PreV s H C0 b (px_Pc G (.ref b :: As) ws) As := ⟨fun a U g mk q => ⟨q.1, q.2.1.blind, q.2.2.1, q.2.2.2⟩, va_recv hE.1 hP hcl hq, fun U hU hW => ⟨rfl, hE.go hS hU hW, by rw [hU]; exact hP, hD⟩⟩
  refine px_after (va_runV (As := As) (rest := rest) ⟨hx, hb, hml, hown, hts⟩ hmet hcw hpre rfl hn hl.1 rfl (lv_room hrs) hd ⟨by omega, by omega⟩) hS (fun v ws1 H1 locs1 g0 g1 g2 g3 => kk v ws1 g0 hok p e R s m args below meth c Z H1 locs1 (cells + kc) (slots + ks) la C (by omega) (by omega) g1 g2 g3 hl (fun v1 ws1 H1' locs1' la1 pc1 g1 g2 g3 g4 g5 => by rw [show cells + kc + bc = cells + (bc + kc) by omega, show slots + ks + bs = slots + (bs + ks) by omega]; exact hret v1 ws1 H1' locs1' la1 pc1 g1 g2 g3 g4 g5))
set_option maxHeartbeats 4000000 in
theorem px_w_callVN (G : px_G) (l : Launch) : px_r_callVN G (px_Pw G l) := by
  intro M pc nx d bc bs tg z lv st ws Q idx kc ks n B S M' As rest Rq b ci C0 host T N fs ha hF hcl hw hg hsp hB hSS hvl hrs hc kk hok p e R s m args below meth c Z H locs cells slots la C hbc hbs hP hD hS hl hret
  obtain ⟨hx, hb, hr, hml, hown, hts, hlk, hin, hfr, hlo, hE⟩ := id C
  obtain ⟨hd, rfl⟩ := px_hd 3 hok ha rfl rfl
  subst hB
  subst hSS
  obtain ⟨hst, hn⟩ := px_spl_eq n st hsp
  subst hst
  have hmet := px_met hg hvl hc
  obtain ⟨q0, hq, -⟩ := px_lk_pos _ _ _ hw
  have hcw : va_CN R s args (px_y M).cls idx (px_y M') host (px_b M') (px_L M') (px_t M') (Cond.code (px_y M') (px_b M') (px_L M') (px_t M') :: px_TB) (px_rm d kc ks) kc ks n ∧ (Cond.instanceMethod (px_y M')).before args s = true ∧ (Cond.selects C0 (px_y M') (px_y M')).before args s = true := ⟨va_cnB n hts (px_goodIn (px_wsC hg)) rfl rfl rfl (hE.2.2.1 _ hF.1) (hts _ hF.2.1) hF.2.2.2.2 ⟨by show d + 1 ≤ R.frames; omega, by show 8 + (px_L M' + 11) + 37 * d ≤ R.locals; have := hg.2.2.2; omega⟩, hts _ hF.2.2.1, hts _ hF.2.2.2.1⟩
  have hpre : PreV s H C0 b (px_Pc G (.ref b :: As) ws) As := ⟨fun a U g mk q => ⟨q.1, q.2.1.blind, q.2.2.1, q.2.2.2⟩, va_recv hE.1 hP hcl hq, fun U hU hW => ⟨rfl, hE.go hS hU hW, by rw [hU]; exact hP, hD⟩⟩
  refine px_after (va_runVN (As := As) (rest := rest) ⟨hx, hb, hml, hown, hts⟩ hmet hcw hpre rfl hn hl.1 rfl (lv_room hrs) hd ⟨by omega, by omega⟩) hS (fun v ws1 H1 locs1 g0 g1 g2 g3 => kk v ws1 g0 hok p e R s m args below meth c Z H1 locs1 (cells + kc) (slots + ks) la C (by omega) (by omega) g1 g2 g3 hl (fun v1 ws1 H1' locs1' la1 pc1 g1 g2 g3 g4 g5 => by rw [show cells + kc + bc = cells + (bc + kc) by omega, show slots + ks + bs = slots + (bs + ks) by omega]; exact hret v1 ws1 H1' locs1' la1 pc1 g1 g2 g3 g4 g5))
set_option maxHeartbeats 4000000 in
theorem px_w_callS (G : px_G) (l : Launch) : px_r_callS G (px_Pw G l) := by
  intro M pc nx d bc bs tg z lv st ws Q idx kc ks n B S M' As rest Rq ha hF hg hsp hB hSS hvl hrs hc kk hok p e R s m args below meth c Z H locs cells slots la C hbc hbs hP hD hS hl hret
  obtain ⟨hx, hb, hr, hml, hown, hts, hlk, hin, hfr, hlo, hE⟩ := id C
  obtain ⟨hd, rfl⟩ := px_hd 3 hok ha rfl rfl
  subst hB
  subst hSS
  obtain ⟨hst, hn⟩ := px_spl_eq n st hsp
  subst hst
  have hmet := px_met hg hvl hc
  have hcw : CallB R s args (px_y M).cls idx (px_y M') (px_b M') (px_L M') (px_t M') (Cond.code (px_y M') (px_b M') (px_L M') (px_t M') :: px_TB) (px_rm d kc ks) kc ks n ∧ (Cond.static (px_y M')).before args s = true := ⟨callB_of n hts (px_goodIn (px_wsC hg)) rfl rfl rfl (hts _ hF.1) (hts _ hF.2.1) hF.2.2.2 ⟨by show d + 1 ≤ R.frames; omega, by show 8 + (px_L M' + 11) + 37 * d ≤ R.locals; have := hg.2.2.2; omega⟩, hts _ hF.2.2.1⟩
  have hpre : PreS s H (px_Pc G As ws) As := ⟨fun a U g mk q => ⟨q.1, q.2.1.blind, q.2.2.1, q.2.2.2⟩, fun U hU hW => ⟨rfl, hE.go hS hU hW, by rw [hU]; exact hP, hD⟩⟩
  refine px_after (va_runS (As := As) (rest := rest) ⟨hx, hb, hml, hown, hts⟩ hmet hcw hpre rfl hn hl.1 rfl (lv_room hrs) hd ⟨by omega, by omega⟩) hS (fun v ws1 H1 locs1 g0 g1 g2 g3 => kk v ws1 g0 hok p e R s m args below meth c Z H1 locs1 (cells + kc) (slots + ks) la C (by omega) (by omega) g1 g2 g3 hl (fun v1 ws1 H1' locs1' la1 pc1 g1 g2 g3 g4 g5 => by rw [show cells + kc + bc = cells + (bc + kc) by omega, show slots + ks + bs = slots + (bs + ks) by omega]; exact hret v1 ws1 H1' locs1' la1 pc1 g1 g2 g3 g4 g5))
set_option maxHeartbeats 4000000 in
theorem px_w_callI (G : px_G) (l : Launch) : px_r_callI G (px_Pw G l) := by
  intro M pc nx d bc bs tg z lv st ws Q idx kc ks n B S M' As rest Rq b ha hF hg hsp hB hSS hvl hrs hc kk hok p e R s m args below meth c Z H locs cells slots la C hbc hbs hP hD hS hl hret
  obtain ⟨hx, hb, hr, hml, hown, hts, hlk, hin, hfr, hlo, hE⟩ := id C
  obtain ⟨hd, rfl⟩ := px_hd 3 hok ha rfl rfl
  subst hB
  subst hSS
  obtain ⟨hst, hn⟩ := px_spl_eq n st hsp
  subst hst
  have hmet := px_met hg hvl hc
  have hcw : CallB R s args (px_y M).cls idx (px_y M') (px_b M') (px_L M') none (Cond.code (px_y M') (px_b M') (px_L M') (px_t M') :: px_TB) (px_rm d kc ks) kc ks n ∧ (px_y M').name = "<init>" ∧ (Cond.instanceMethod (px_y M')).before args s = true := cwI n hts (px_goodIn (px_wsC hg)) (by rw [hF.2.2.2.2.2]) rfl rfl (hts _ hF.1) (hts _ hF.2.1) (hts _ hF.2.2.1) hF.2.2.2.1 hF.2.2.2.2.1 ⟨by show d + 1 ≤ R.frames; omega, by show 8 + (px_L M' + 11) + 37 * d ≤ R.locals; have := hg.2.2.2; omega⟩
  have hpre : PreS s H (px_Pc G (.ref b :: As) ws) (.ref b :: As) := ⟨fun a U g mk q => ⟨q.1, q.2.1.blind, q.2.2.1, q.2.2.2⟩, fun U hU hW => ⟨rfl, hE.go hS hU hW, by rw [hU]; exact hP, hD⟩⟩
  refine px_after (va_runI (As := As) (rest := rest) ⟨hx, hb, hml, hown, hts⟩ hmet hcw hpre rfl hn hl.1 rfl (lv_room hrs) hd ⟨by omega, by omega⟩) hS (fun v ws1 H1 locs1 g0 g1 g2 g3 => kk v ws1 g0 hok p e R s m args below meth c Z H1 locs1 (cells + kc) (slots + ks) la C (by omega) (by omega) g1 g2 g3 hl (fun v1 ws1 H1' locs1' la1 pc1 g1 g2 g3 g4 g5 => by rw [show cells + kc + bc = cells + (bc + kc) by omega, show slots + ks + bs = slots + (bs + ks) by omega]; exact hret v1 ws1 H1' locs1' la1 pc1 g1 g2 g3 g4 g5))
set_option maxHeartbeats 4000000 in
theorem px_w_callIN (G : px_G) (l : Launch) : px_r_callIN G (px_Pw G l) := by
  intro M pc nx d bc bs tg z lv st ws Q idx kc ks n B S M' As rest Rq b host ha hF hg hsp hB hSS hvl hrs hc kk hok p e R s m args below meth c Z H locs cells slots la C hbc hbs hP hD hS hl hret
  obtain ⟨hx, hb, hr, hml, hown, hts, hlk, hin, hfr, hlo, hE⟩ := id C
  obtain ⟨hd, rfl⟩ := px_hd 3 hok ha rfl rfl
  subst hB
  subst hSS
  obtain ⟨hst, hn⟩ := px_spl_eq n st hsp
  subst hst
  have hmet := px_met hg hvl hc
  have hcw : va_CN R s args (px_y M).cls idx (px_y M') host (px_b M') (px_L M') none (Cond.code (px_y M') (px_b M') (px_L M') (px_t M') :: px_TB) (px_rm d kc ks) kc ks n ∧ (px_y M').name = "<init>" ∧ (Cond.instanceMethod (px_y M')).before args s = true := ⟨va_cnB n hts (px_goodIn (px_wsC hg)) (by rw [hF.2.2.2.2.2]) rfl rfl (hE.2.2.1 _ hF.2.1) (hts _ hF.1) hF.2.2.2.2.1 ⟨by show d + 1 ≤ R.frames; omega, by show 8 + (px_L M' + 11) + 37 * d ≤ R.locals; have := hg.2.2.2; omega⟩, hF.2.2.2.1, hts _ hF.2.2.1⟩
  have hpre : PreS s H (px_Pc G (.ref b :: As) ws) (.ref b :: As) := ⟨fun a U g mk q => ⟨q.1, q.2.1.blind, q.2.2.1, q.2.2.2⟩, fun U hU hW => ⟨rfl, hE.go hS hU hW, by rw [hU]; exact hP, hD⟩⟩
  refine px_after (va_runIN (As := As) (rest := rest) ⟨hx, hb, hml, hown, hts⟩ hmet hcw hpre rfl hn hl.1 rfl (lv_room hrs) hd ⟨by omega, by omega⟩) hS (fun v ws1 H1 locs1 g0 g1 g2 g3 => kk v ws1 g0 hok p e R s m args below meth c Z H1 locs1 (cells + kc) (slots + ks) la C (by omega) (by omega) g1 g2 g3 hl (fun v1 ws1 H1' locs1' la1 pc1 g1 g2 g3 g4 g5 => by rw [show cells + kc + bc = cells + (bc + kc) by omega, show slots + ks + bs = slots + (bs + ks) by omega]; exact hret v1 ws1 H1' locs1' la1 pc1 g1 g2 g3 g4 g5))
set_option maxHeartbeats 4000000 in
theorem px_w_wf (G : px_G) (l : Launch) : px_r_wf G (px_Pw G l) := by
  intro M pc d bc bs lv st ws Q kk hok p e R s m args below meth c Z H locs cells slots la C hbc hbs hP hD hS hl hret
  obtain ⟨hx, hb, hr, hml, hown, hts, hlk, hin, hfr, hlo, hE⟩ := id C
  refine kk ⟨fun a x hx => ?_, ?_⟩ hok p e R s m args below meth c Z H locs cells slots la C hbc hbs hP hD hS hl hret
  · obtain ⟨q0, hq, -⟩ := px_lk_pos _ _ _ hx
    exact hD.2 q0 _ hq
  · obtain ⟨cell, -, -, -, -, -, -, hn⟩ := (hE.2.2.2.2.2.1 0 _ rfl).2
    exact Nat.not_le.mp hn
set_option maxHeartbeats 4000000 in
theorem px_w_lv (G : px_G) (l : Launch) : px_r_lv G (px_Pw G l) := by
  intro M pc d bc bs lv st ws Q lv2 ks hs kk hok p e R s m args below meth c Z H locs cells slots la C hbc hbs hP hD hS hl hret
  obtain ⟨hx, hb, hr, hml, hown, hts, hlk, hin, hfr, hlo, hE⟩ := id C
  exact kk hok p e R s m args below meth c Z H locs cells slots la C hbc hbs hP hD hS (lv_sub hl ks hs) hret
set_option maxHeartbeats 4000000 in
theorem px_w_post (G : px_G) (l : Launch) : px_r_post G (px_Pw G l) := by
  intro M pc d bc bs lv st ws Q Q1 hp kk hok p e R s m args below meth c Z H locs cells slots la C hbc hbs hP hD hS hl hret
  obtain ⟨hx, hb, hr, hml, hown, hts, hlk, hin, hfr, hlo, hE⟩ := id C
  exact kk hok p e R s m args below meth c Z H locs cells slots la C hbc hbs hP hD hS hl (fun v1 ws1 H1 locs1 la1 pc1 g1 => hret v1 ws1 H1 locs1 la1 pc1 (hp v1 ws1 g1))
theorem px_closed (G : px_G) (l : Launch) : px_Cl G (px_Pw G l) := ⟨px_w_s G l, px_w_aloadR G l, px_w_astoreR G l, px_w_goto G l, px_w_if G l, px_w_icmp G l, px_w_ifnull G l, px_w_ifnonnull G l, px_w_acmpeq G l, px_w_acmpne G l, px_w_idiv G l, px_w_irem G l, px_w_get G l, px_w_getN G l, px_w_put G l, px_w_putF G l, px_w_new G l, px_w_weak G l, px_w_iret G l, px_w_vret G l, px_w_aret G l, px_w_ldc G l, px_w_castN G l, px_w_castS G l, px_w_iald G l, px_w_zald G l, px_w_iast G l, px_w_zast G l, px_w_aald G l, px_w_aastN G l, px_w_aast G l, px_w_alen G l, px_w_sld G l, px_w_slen G l, px_w_newI G l, px_w_newZ G l, px_w_newQ G l, px_w_objI G l, px_w_max G l, px_w_min G l, px_w_tabO G l, px_w_tabI G l, px_w_gets G l, px_w_tlen G l, px_w_ldcw G l, px_w_ldcM G l, px_w_getC G l, px_w_copy G l, px_w_callV G l, px_w_callVN G l, px_w_callS G l, px_w_callI G l, px_w_callIN G l, px_w_wf G l, px_w_lv G l, px_w_post G l⟩
/-- SOUND: what the small machine says, the machine does -/
theorem px_sound {G : px_G} (l : Launch) {M : px_M} {pc : Nat} {lv : List (Nat × Value)} {st : List Value} {ws : va_W} {d bc bs : Nat} {Q : Option Value → va_W → Prop} (h : px G M pc lv st ws d bc bs Q) : px_Pw G l M pc lv st ws d bc bs Q := h _ (px_closed G l)
end
section
/-! ROWS OF THE STORE -/
theorem px_up_up : ∀ (ws : va_W) (a : Nat) (e1 e2 : va_E), px_up (px_up ws a e1) a e2 = px_up ws a e2
  | [], _, _, _ => rfl
  | q :: t, a, e1, e2 => by
    by_cases hq : q.1 = a
    · have h1 : px_up (q :: t) a e1 = (a, e1) :: t := by unfold px_up; rw [if_pos hq]
      have h2 : px_up (q :: t) a e2 = (a, e2) :: t := by unfold px_up; rw [if_pos hq]
      rw [h1, h2]
      unfold px_up
      rw [if_pos rfl]
    · have h1 : ∀ (t : va_W) (e : va_E), px_up (q :: t) a e = q :: px_up t a e := fun t e => by rw [px_up]; rw [if_neg hq]
      rw [h1, h1, h1, px_up_up t a e1 e2]
theorem px_ne {ws : va_W} {a b : Nat} {x y : va_E} (h1 : px_lk ws a = some x) (h2 : px_lk ws b = some y) (h : x ≠ y) : a ≠ b := by
  intro z
  subst z
  exact h (Option.some.inj (h1.symm.trans h2))
/-- the kind of a cell: its class's number, or 1000 and more for arrays -/
def px_kd : va_E → Nat
  | .inr o => o.1
  | .inl (_, _, .inl _) => 1000
  | .inl (_, _, .inr (.inr (.inr (.inr _)))) => 1001
  | .inl _ => 1002
theorem px_nek {ws : va_W} {a b : Nat} {x y : va_E} (h1 : px_lk ws a = some x) (h2 : px_lk ws b = some y) (h : ¬ px_kd x = px_kd y) : a ≠ b := px_ne h1 h2 (fun z => h (by rw [z]))
theorem px_keep {ws : va_W} {a b : Nat} {y e : va_E} (h2 : px_lk ws b = some y) (h : b ≠ a) : px_lk (px_up ws a e) b = some y := by rw [px_lk_ne _ _ _ _ h]; exact h2
theorem px_keepK {ws : va_W} {a b : Nat} {x y e : va_E} (h1 : px_lk ws a = some x) (h2 : px_lk ws b = some y) (h : ¬ px_kd y = px_kd x) : px_lk (px_up ws a e) b = some y := px_keep h2 (px_nek h2 h1 h)
/-- what one side's call leaves of the other side's cells -/
def px_kp (K : va_E → Bool) (ws ws' : va_W) : Prop := ∀ (a : Nat) (x : va_E), px_lk ws a = some x → K x = true → px_lk ws' a = some x
theorem px_kp.rf {K : va_E → Bool} {ws : va_W} : px_kp K ws ws := fun _ _ h _ => h
theorem px_kp.tr {K : va_E → Bool} {w1 w2 w3 : va_W} (h1 : px_kp K w1 w2) (h2 : px_kp K w2 w3) : px_kp K w1 w3 := fun a x h hk => h2 a x (h1 a x h hk) hk
theorem px_kp.up {K : va_E → Bool} {ws : va_W} {a : Nat} {x e : va_E} (h : px_lk ws a = some x) (hx : K x = false) : px_kp K ws (px_up ws a e) := fun b y hy hk => px_keep hy (px_ne hy h (fun z => by rw [z, hx] at hk; cases hk))
theorem px_kp.nw {K : va_E → Bool} {ws : va_W} {q : Nat} {e : va_E} : px_kp K ws (ws ++ [(q, e)]) := fun b y hy _ => px_lk_old _ _ _ _ _ hy
end
section
/-! THE METHODS: rows, by program (wip/whole/gen/names.py) -/
def i_TM_init_0 : List px_Rw := [(0, .aload_n 0, 1, [], 0), (1, .invokespecial 3, 4, [], 0), (4, .aload_n 0, 5, [], 0), (5, .new 9, 8, [], 0), (8, .dup, 9, [], 0), (9, .invokespecial 11, 12, [], 0), (12, .putfield 12, 15, [], 0), (15, .aload_n 0, 16, [], 0), (16, .iconst (-1), 17, [], -1), (17, .putfield 16, 20, [], 0), (20, .aload_n 0, 21, [], 0), (21, .iconst 1, 22, [], 1), (22, .putfield 20, 25, [], 0), (25, .aload_n 0, 26, [], 0), (26, .iconst 0, 27, [], 0), (27, .putfield 24, 30, [], 0)]
theorem k_TM_init_0 : i_TM_init_0.all (px_okb prog_1_method_1_code) = true := by decide +kernel
def i_TM_init_1 : List px_Rw := [(30, .aload_n 0, 31, [], 0), (31, .iconst 0, 32, [], 0), (32, .putfield 27, 35, [], 0), (35, .aload_n 0, 36, [], 0), (36, .new 30, 39, [], 0), (39, .dup, 40, [], 0), (40, .iload_n 1, 41, [], 0), (41, .iconst 0, 42, [], 0), (42, .ldc 32, 44, [], 0), (44, .invokestatic 33, 47, [], 0), (47, .ifCond .eq 7, 50, [54], 0), (50, .iload_n 1, 51, [], 0), (51, .goto 5, 54, [56], 0), (54, .bipush 8, 56, [], 8), (56, .invokespecial 37, 59, [], 0), (59, .putfield 40, 62, [], 0)]
theorem k_TM_init_1 : i_TM_init_1.all (px_okb prog_1_method_1_code) = true := by decide +kernel
def i_TM_init_2 : List px_Rw := [(62, .return_, 63, [], 0)]
theorem k_TM_init_2 : i_TM_init_2.all (px_okb prog_1_method_1_code) = true := by decide +kernel
def m_TM_init : px_M := (⟨"TroubleMemory", "<init>", "(I)V"⟩, prog_1_method_1_code, 2, (Option.none : Option Jvm.ClassFile.FieldType), i_TM_init_0 ++ (i_TM_init_1 ++ (i_TM_init_2)))
theorem g_TM_init : px_good m_TM_init := ⟨px_allapp k_TM_init_0 (px_allapp k_TM_init_1 (k_TM_init_2)), by decide +kernel, w_22, by exact Nat.le_of_ble_eq_true rfl⟩
def i_AL_init_0 : List px_Rw := [(0, .aload_n 0, 1, [], 0), (1, .invokespecial 1, 4, [], 0), (4, .aload_n 0, 5, [], 0), (5, .getstatic 39, 8, [], 0), (8, .putfield 9, 11, [], 0), (11, .return_, 12, [], 0)]
theorem k_AL_init_0 : i_AL_init_0.all (px_okb prog_17_method_2_code) = true := by decide +kernel
def m_AL_init : px_M := (⟨"java/util/ArrayList", "<init>", "()V"⟩, prog_17_method_2_code, 1, (Option.none : Option Jvm.ClassFile.FieldType), i_AL_init_0)
theorem g_AL_init : px_good m_AL_init := ⟨k_AL_init_0, by decide +kernel, w_30, by exact Nat.le_of_ble_eq_true rfl⟩
def i_ALs_init_0 : List px_Rw := [(0, .aload_n 0, 1, [], 0), (1, .invokespecial 1, 4, [], 0), (4, .aload_n 0, 5, [], 0), (5, .iconst 0, 6, [], 0), (6, .putfield 7, 9, [], 0), (9, .return_, 10, [], 0)]
theorem k_ALs_init_0 : i_ALs_init_0.all (px_okb prog_16_method_1_code) = true := by decide +kernel
def m_ALs_init : px_M := (⟨"java/util/AbstractList", "<init>", "()V"⟩, prog_16_method_1_code, 1, (Option.none : Option Jvm.ClassFile.FieldType), i_ALs_init_0)
theorem g_ALs_init : px_good m_ALs_init := ⟨k_ALs_init_0, by decide +kernel, w_33, by exact Nat.le_of_ble_eq_true rfl⟩
def i_ACn_init_0 : List px_Rw := [(0, .aload_n 0, 1, [], 0), (1, .invokespecial 1, 4, [], 0), (4, .return_, 5, [], 0)]
theorem k_ACn_init_0 : i_ACn_init_0.all (px_okb prog_15_method_1_code) = true := by decide +kernel
def m_ACn_init : px_M := (⟨"java/util/AbstractCollection", "<init>", "()V"⟩, prog_15_method_1_code, 1, (Option.none : Option Jvm.ClassFile.FieldType), i_ACn_init_0)
theorem g_ACn_init : px_good m_ACn_init := ⟨k_ACn_init_0, by decide +kernel, w_36, by exact Nat.le_of_ble_eq_true rfl⟩
def i_TM_isWithin_0 : List px_Rw := [(0, .iload_n 0, 1, [], 0), (1, .iload_n 1, 2, [], 0), (2, .if_icmp .lt 12, 5, [14], 0), (5, .iload_n 0, 6, [], 0), (6, .iload_n 2, 7, [], 0), (7, .if_icmp .gt 7, 10, [14], 0), (10, .iconst 1, 11, [], 1), (11, .goto 4, 14, [15], 0), (14, .iconst 0, 15, [], 0), (15, .ireturn, 16, [], 0)]
theorem k_TM_isWithin_0 : i_TM_isWithin_0.all (px_okb prog_1_method_16_code) = true := by decide +kernel
def m_TM_isWithin : px_M := (⟨"TroubleMemory", "isWithin", "(III)Z"⟩, prog_1_method_16_code, 3, (Option.some Jvm.ClassFile.FieldType.boolean), i_TM_isWithin_0)
theorem g_TM_isWithin : px_good m_TM_isWithin := ⟨k_TM_isWithin_0, by decide +kernel, w_57, by exact Nat.le_of_ble_eq_true rfl⟩
def i_Mem_init_0 : List px_Rw := [(0, .aload_n 0, 1, [], 0), (1, .invokespecial 3, 4, [], 0), (4, .aload_n 0, 5, [], 0), (5, .new 9, 8, [], 0), (8, .dup, 9, [], 0), (9, .invokespecial 11, 12, [], 0), (12, .putfield 12, 15, [], 0), (15, .aload_n 0, 16, [], 0), (16, .new 9, 19, [], 0), (19, .dup, 20, [], 0), (20, .invokespecial 11, 23, [], 0), (23, .putfield 18, 26, [], 0), (26, .aload_n 0, 27, [], 0), (27, .iload_n 1, 28, [], 0), (28, .putfield 21, 31, [], 0), (31, .return_, 32, [], 0)]
theorem k_Mem_init_0 : i_Mem_init_0.all (px_okb prog_4_method_1_code) = true := by decide +kernel
def m_Mem_init : px_M := (⟨"TroubleMemory$Memory", "<init>", "(I)V"⟩, prog_4_method_1_code, 2, (Option.none : Option Jvm.ClassFile.FieldType), i_Mem_init_0)
theorem g_Mem_init : px_good m_Mem_init := ⟨k_Mem_init_0, by decide +kernel, w_60, by exact Nat.le_of_ble_eq_true rfl⟩
def i_TM_code_0 : List px_Rw := [(0, .iload_n 1, 1, [], 0), (1, .iconst 1, 2, [], 1), (2, .sipush 255, 5, [], 255), (5, .invokestatic 33, 8, [], 0), (8, .ifCond .eq 23, 11, [31], 0), (11, .iload_n 2, 12, [], 0), (12, .iconst 1, 13, [], 1), (13, .bipush 127, 15, [], 127), (15, .invokestatic 33, 18, [], 0), (18, .ifCond .eq 13, 21, [31], 0), (21, .iload_n 3, 22, [], 0), (22, .iconst 1, 23, [], 1), (23, .bipush 127, 25, [], 127), (25, .invokestatic 33, 28, [], 0), (28, .ifCond .ne 6, 31, [34], 0), (31, .bipush (-2), 33, [], -2)]
theorem k_TM_code_0 : i_TM_code_0.all (px_okb prog_1_method_2_code) = true := by decide +kernel
def i_TM_code_1 : List px_Rw := [(33, .ireturn, 34, [], 0), (34, .aload_n 0, 35, [], 0), (35, .getfield 20, 38, [], 0), (38, .ifCond .ne 6, 41, [44], 0), (41, .bipush (-3), 43, [], -3), (43, .ireturn, 44, [], 0), (44, .aload_n 0, 45, [], 0), (45, .getfield 12, 48, [], 0), (48, .invokevirtual 44, 51, [], 0), (51, .sipush 200, 54, [], 200), (54, .if_icmp .lt 6, 57, [60], 0), (57, .bipush (-4), 59, [], -4), (59, .ireturn, 60, [], 0), (60, .new 48, 63, [], 0), (63, .dup, 64, [], 0), (64, .aload_n 0, 65, [], 0)]
theorem k_TM_code_1 : i_TM_code_1.all (px_okb prog_1_method_2_code) = true := by decide +kernel
def i_TM_code_2 : List px_Rw := [(65, .getfield 12, 68, [], 0), (68, .invokevirtual 44, 71, [], 0), (71, .iconst 1, 72, [], 1), (72, .iadd, 73, [], 0), (73, .iload_n 1, 74, [], 0), (74, .iload_n 2, 75, [], 0), (75, .iload_n 3, 76, [], 0), (76, .invokespecial 50, 79, [], 0), (79, .astore 4, 81, [], 0), (81, .aload_n 0, 82, [], 0), (82, .getfield 12, 85, [], 0), (85, .aload 4, 87, [], 0), (87, .invokevirtual 53, 90, [], 0), (90, .pop, 91, [], 0), (91, .aload 4, 93, [], 0), (93, .getfield 57, 96, [], 0)]
theorem k_TM_code_2 : i_TM_code_2.all (px_okb prog_1_method_2_code) = true := by decide +kernel
def i_TM_code_3 : List px_Rw := [(96, .ireturn, 97, [], 0)]
theorem k_TM_code_3 : i_TM_code_3.all (px_okb prog_1_method_2_code) = true := by decide +kernel
def m_TM_code : px_M := (⟨"TroubleMemory", "code", "(III)I"⟩, prog_1_method_2_code, 5, (Option.some Jvm.ClassFile.FieldType.int), i_TM_code_0 ++ (i_TM_code_1 ++ (i_TM_code_2 ++ (i_TM_code_3))))
theorem g_TM_code : px_good m_TM_code := ⟨px_allapp k_TM_code_0 (px_allapp k_TM_code_1 (px_allapp k_TM_code_2 (k_TM_code_3))), by decide +kernel, w_98, by exact Nat.le_of_ble_eq_true rfl⟩
def i_AL_size_0 : List px_Rw := [(0, .aload_n 0, 1, [], 0), (1, .getfield 48, 4, [], 0), (4, .ireturn, 5, [], 0)]
theorem k_AL_size_0 : i_AL_size_0.all (px_okb prog_17_method_8_code) = true := by decide +kernel
def m_AL_size : px_M := (⟨"java/util/ArrayList", "size", "()I"⟩, prog_17_method_8_code, 1, (Option.some Jvm.ClassFile.FieldType.int), i_AL_size_0)
theorem g_AL_size : px_good m_AL_size := ⟨k_AL_size_0, by decide +kernel, w_102, by exact Nat.le_of_ble_eq_true rfl⟩
def i_Cd_init_0 : List px_Rw := [(0, .aload_n 0, 1, [], 0), (1, .invokespecial 3, 4, [], 0), (4, .aload_n 0, 5, [], 0), (5, .new 9, 8, [], 0), (8, .dup, 9, [], 0), (9, .invokespecial 11, 12, [], 0), (12, .putfield 12, 15, [], 0), (15, .aload_n 0, 16, [], 0), (16, .new 9, 19, [], 0), (19, .dup, 20, [], 0), (20, .invokespecial 11, 23, [], 0), (23, .putfield 18, 26, [], 0), (26, .aload_n 0, 27, [], 0), (27, .iconst 0, 28, [], 0), (28, .putfield 21, 31, [], 0), (31, .aload_n 0, 32, [], 0)]
theorem k_Cd_init_0 : i_Cd_init_0.all (px_okb prog_2_method_1_code) = true := by decide +kernel
def i_Cd_init_1 : List px_Rw := [(32, .aconst_null, 33, [], 0), (33, .putfield 25, 36, [], 0), (36, .aload_n 0, 37, [], 0), (37, .aconst_null, 38, [], 0), (38, .putfield 29, 41, [], 0), (41, .aload_n 0, 42, [], 0), (42, .iload_n 1, 43, [], 0), (43, .putfield 33, 46, [], 0), (46, .aload_n 0, 47, [], 0), (47, .iload_n 2, 48, [], 0), (48, .putfield 36, 51, [], 0), (51, .aload_n 0, 52, [], 0), (52, .iload_n 3, 53, [], 0), (53, .putfield 39, 56, [], 0), (56, .aload_n 0, 57, [], 0), (57, .iload 4, 59, [], 0)]
theorem k_Cd_init_1 : i_Cd_init_1.all (px_okb prog_2_method_1_code) = true := by decide +kernel
def i_Cd_init_2 : List px_Rw := [(59, .putfield 42, 62, [], 0), (62, .return_, 63, [], 0)]
theorem k_Cd_init_2 : i_Cd_init_2.all (px_okb prog_2_method_1_code) = true := by decide +kernel
def m_Cd_init : px_M := (⟨"TroubleMemory$Code", "<init>", "(IIII)V"⟩, prog_2_method_1_code, 5, (Option.none : Option Jvm.ClassFile.FieldType), i_Cd_init_0 ++ (i_Cd_init_1 ++ (i_Cd_init_2)))
theorem g_Cd_init : px_good m_Cd_init := ⟨px_allapp k_Cd_init_0 (px_allapp k_Cd_init_1 (k_Cd_init_2)), by decide +kernel, w_107, by exact Nat.le_of_ble_eq_true rfl⟩
def i_Sg_init_0 : List px_Rw := [(0, .aload_n 0, 1, [], 0), (1, .invokespecial 3, 4, [], 0), (4, .aload_n 0, 5, [], 0), (5, .bipush 80, 7, [], 80), (7, .putfield 9, 10, [], 0), (10, .aload_n 0, 11, [], 0), (11, .iconst 0, 12, [], 0), (12, .putfield 15, 15, [], 0), (15, .aload_n 0, 16, [], 0), (16, .iconst 0, 17, [], 0), (17, .putfield 18, 20, [], 0), (20, .aload_n 0, 21, [], 0), (21, .iconst 0, 22, [], 0), (22, .putfield 21, 25, [], 0), (25, .return_, 26, [], 0)]
theorem k_Sg_init_0 : i_Sg_init_0.all (px_okb prog_6_method_1_code) = true := by decide +kernel
def m_Sg_init : px_M := (⟨"TroubleMemory$Standing", "<init>", "()V"⟩, prog_6_method_1_code, 1, (Option.none : Option Jvm.ClassFile.FieldType), i_Sg_init_0)
theorem g_Sg_init : px_good m_Sg_init := ⟨k_Sg_init_0, by decide +kernel, w_113, by exact Nat.le_of_ble_eq_true rfl⟩
def i_AL_add1_0 : List px_Rw := [(0, .aload_n 0, 1, [], 0), (1, .dup, 2, [], 0), (2, .getfield 63, 5, [], 0), (5, .iconst 1, 6, [], 1), (6, .iadd, 7, [], 0), (7, .putfield 63, 10, [], 0), (10, .aload_n 0, 11, [], 0), (11, .aload_n 1, 12, [], 0), (12, .aload_n 0, 13, [], 0), (13, .getfield 9, 16, [], 0), (16, .aload_n 0, 17, [], 0), (17, .getfield 48, 20, [], 0), (20, .invokevirtual 131, 23, [], 0), (23, .iconst 1, 24, [], 1), (24, .ireturn, 25, [], 0)]
theorem k_AL_add1_0 : i_AL_add1_0.all (px_okb prog_17_method_25_code) = true := by decide +kernel
def m_AL_add1 : px_M := (⟨"java/util/ArrayList", "add", "(Ljava/lang/Object;)Z"⟩, prog_17_method_25_code, 2, (Option.some Jvm.ClassFile.FieldType.boolean), i_AL_add1_0)
theorem g_AL_add1 : px_good m_AL_add1 := ⟨k_AL_add1_0, by decide +kernel, w_172, by exact Nat.le_of_ble_eq_true rfl⟩
def i_AL_add3_0 : List px_Rw := [(0, .iload_n 3, 1, [], 0), (1, .aload_n 2, 2, [], 0), (2, .arraylength, 3, [], 0), (3, .if_icmp .ne 8, 6, [11], 0), (6, .aload_n 0, 7, [], 0), (7, .invokevirtual 129, 10, [], 0), (10, .astore_n 2, 11, [], 0), (11, .aload_n 2, 12, [], 0), (12, .iload_n 3, 13, [], 0), (13, .aload_n 1, 14, [], 0), (14, .aastore, 15, [], 0), (15, .aload_n 0, 16, [], 0), (16, .iload_n 3, 17, [], 0), (17, .iconst 1, 18, [], 1), (18, .iadd, 19, [], 0), (19, .putfield 48, 22, [], 0)]
theorem k_AL_add3_0 : i_AL_add3_0.all (px_okb prog_17_method_24_code) = true := by decide +kernel
def i_AL_add3_1 : List px_Rw := [(22, .return_, 23, [], 0)]
theorem k_AL_add3_1 : i_AL_add3_1.all (px_okb prog_17_method_24_code) = true := by decide +kernel
def m_AL_add3 : px_M := (⟨"java/util/ArrayList", "add", "(Ljava/lang/Object;[Ljava/lang/Object;I)V"⟩, prog_17_method_24_code, 4, (Option.none : Option Jvm.ClassFile.FieldType), i_AL_add3_0 ++ (i_AL_add3_1))
theorem g_AL_add3 : px_good m_AL_add3 := ⟨px_allapp k_AL_add3_0 (k_AL_add3_1), by decide +kernel, w_176, by exact Nat.le_of_ble_eq_true rfl⟩
def i_AL_grow0_0 : List px_Rw := [(0, .aload_n 0, 1, [], 0), (1, .aload_n 0, 2, [], 0), (2, .getfield 48, 5, [], 0), (5, .iconst 1, 6, [], 1), (6, .iadd, 7, [], 0), (7, .invokevirtual 69, 10, [], 0), (10, .areturn, 11, [], 0)]
theorem k_AL_grow0_0 : i_AL_grow0_0.all (px_okb prog_17_method_7_code) = true := by decide +kernel
def m_AL_grow0 : px_M := (⟨"java/util/ArrayList", "grow", "()[Ljava/lang/Object;"⟩, prog_17_method_7_code, 1, (Option.some (Jvm.ClassFile.FieldType.array (Jvm.ClassFile.FieldType.object "java/lang/Object"))), i_AL_grow0_0)
theorem g_AL_grow0 : px_good m_AL_grow0 := ⟨k_AL_grow0_0, by decide +kernel, w_180, by exact Nat.le_of_ble_eq_true rfl⟩
def i_AL_grow1_0 : List px_Rw := [(0, .aload_n 0, 1, [], 0), (1, .getfield 9, 4, [], 0), (4, .arraylength, 5, [], 0), (5, .istore_n 2, 6, [], 0), (6, .iload_n 2, 7, [], 0), (7, .ifCond .gt 13, 10, [20], 0), (10, .aload_n 0, 11, [], 0), (11, .getfield 9, 14, [], 0), (14, .getstatic 39, 17, [], 0), (17, .if_acmp .eq 28, 20, [45], 0), (20, .iload_n 2, 21, [], 0), (21, .iload_n 1, 22, [], 0), (22, .iload_n 2, 23, [], 0), (23, .isub, 24, [], 0), (24, .iload_n 2, 25, [], 0), (25, .iconst 1, 26, [], 1)]
theorem k_AL_grow1_0 : i_AL_grow1_0.all (px_okb prog_17_method_6_code) = true := by decide +kernel
def i_AL_grow1_1 : List px_Rw := [(26, .ishr, 27, [], 0), (27, .invokestatic 73, 30, [], 0), (30, .istore_n 3, 31, [], 0), (31, .aload_n 0, 32, [], 0), (32, .aload_n 0, 33, [], 0), (33, .getfield 9, 36, [], 0), (36, .iload_n 3, 37, [], 0), (37, .invokestatic 66, 40, [], 0), (40, .dup_x1, 41, [], 0), (41, .putfield 9, 44, [], 0), (44, .areturn, 45, [], 0), (45, .aload_n 0, 46, [], 0), (46, .bipush 10, 48, [], 10), (48, .iload_n 1, 49, [], 0), (49, .invokestatic 79, 52, [], 0), (52, .anewarray 7, 55, [], 0)]
theorem k_AL_grow1_1 : i_AL_grow1_1.all (px_okb prog_17_method_6_code) = true := by decide +kernel
def i_AL_grow1_2 : List px_Rw := [(55, .dup_x1, 56, [], 0), (56, .putfield 9, 59, [], 0), (59, .areturn, 60, [], 0)]
theorem k_AL_grow1_2 : i_AL_grow1_2.all (px_okb prog_17_method_6_code) = true := by decide +kernel
def m_AL_grow1 : px_M := (⟨"java/util/ArrayList", "grow", "(I)[Ljava/lang/Object;"⟩, prog_17_method_6_code, 4, (Option.some (Jvm.ClassFile.FieldType.array (Jvm.ClassFile.FieldType.object "java/lang/Object"))), i_AL_grow1_0 ++ (i_AL_grow1_1 ++ (i_AL_grow1_2)))
theorem g_AL_grow1 : px_good m_AL_grow1 := ⟨px_allapp k_AL_grow1_0 (px_allapp k_AL_grow1_1 (k_AL_grow1_2)), by decide +kernel, w_184, by exact Nat.le_of_ble_eq_true rfl⟩
def i_ArS_newLength_0 : List px_Rw := [(0, .iload_n 0, 1, [], 0), (1, .iload_n 1, 2, [], 0), (2, .iload_n 2, 3, [], 0), (3, .invokestatic 194, 6, [], 0), (6, .iadd, 7, [], 0), (7, .istore_n 3, 8, [], 0), (8, .iconst 0, 9, [], 0), (9, .iload_n 3, 10, [], 0), (10, .if_icmp .ge 11, 13, [21], 0), (13, .iload_n 3, 14, [], 0), (14, .ldc 200, 16, [], 0), (16, .if_icmp .gt 5, 19, [21], 0), (19, .iload_n 3, 20, [], 0), (20, .ireturn, 21, [], 0), (21, .iload_n 0, 22, [], 0), (22, .iload_n 1, 23, [], 0)]
theorem k_ArS_newLength_0 : i_ArS_newLength_0.all (px_okb prog_24_method_27_code) = true := by decide +kernel
def i_ArS_newLength_1 : List px_Rw := [(23, .invokestatic 201, 26, [], 0), (26, .ireturn, 27, [], 0)]
theorem k_ArS_newLength_1 : i_ArS_newLength_1.all (px_okb prog_24_method_27_code) = true := by decide +kernel
def m_ArS_newLength : px_M := (⟨"jdk/internal/util/ArraysSupport", "newLength", "(III)I"⟩, prog_24_method_27_code, 4, (Option.some Jvm.ClassFile.FieldType.int), i_ArS_newLength_0 ++ (i_ArS_newLength_1))
theorem g_ArS_newLength : px_good m_ArS_newLength := ⟨px_allapp k_ArS_newLength_0 (k_ArS_newLength_1), by decide +kernel, w_187, by exact Nat.le_of_ble_eq_true rfl⟩
def i_Ars_copyOf2_0 : List px_Rw := [(0, .aload_n 0, 1, [], 0), (1, .iload_n 1, 2, [], 0), (2, .aload_n 0, 3, [], 0), (3, .invokevirtual 86, 6, [], 0), (6, .invokestatic 300, 9, [], 0), (9, .areturn, 10, [], 0)]
theorem k_Ars_copyOf2_0 : i_Ars_copyOf2_0.all (px_okb prog_18_method_119_code) = true := by decide +kernel
def m_Ars_copyOf2 : px_M := (⟨"java/util/Arrays", "copyOf", "([Ljava/lang/Object;I)[Ljava/lang/Object;"⟩, prog_18_method_119_code, 2, (Option.some (Jvm.ClassFile.FieldType.array (Jvm.ClassFile.FieldType.object "java/lang/Object"))), i_Ars_copyOf2_0)
theorem g_Ars_copyOf2 : px_good m_Ars_copyOf2 := ⟨k_Ars_copyOf2_0, by decide +kernel, w_197, by exact Nat.le_of_ble_eq_true rfl⟩
def i_Ars_copyOf3_0 : List px_Rw := [(0, .aload_n 2, 1, [], 0), (1, .ldc 110, 3, [], 0), (3, .if_acmp .ne 10, 6, [13], 0), (6, .iload_n 1, 7, [], 0), (7, .anewarray 2, 10, [], 0), (10, .goto 14, 13, [24], 0), (13, .aload_n 2, 14, [], 0), (14, .invokevirtual 90, 17, [], 0), (17, .iload_n 1, 18, [], 0), (18, .invokestatic 95, 21, [], 0), (21, .checkcast 110, 24, [], 0), (24, .astore_n 3, 25, [], 0), (25, .aload_n 0, 26, [], 0), (26, .iconst 0, 27, [], 0), (27, .aload_n 3, 28, [], 0), (28, .iconst 0, 29, [], 0)]
theorem k_Ars_copyOf3_0 : i_Ars_copyOf3_0.all (px_okb prog_18_method_120_code) = true := by decide +kernel
def i_Ars_copyOf3_1 : List px_Rw := [(29, .aload_n 0, 30, [], 0), (30, .arraylength, 31, [], 0), (31, .iload_n 1, 32, [], 0), (32, .invokestatic 304, 35, [], 0), (35, .invokestatic 150, 38, [], 0), (38, .aload_n 3, 39, [], 0), (39, .areturn, 40, [], 0)]
theorem k_Ars_copyOf3_1 : i_Ars_copyOf3_1.all (px_okb prog_18_method_120_code) = true := by decide +kernel
def m_Ars_copyOf3 : px_M := (⟨"java/util/Arrays", "copyOf", "([Ljava/lang/Object;ILjava/lang/Class;)[Ljava/lang/Object;"⟩, prog_18_method_120_code, 4, (Option.some (Jvm.ClassFile.FieldType.array (Jvm.ClassFile.FieldType.object "java/lang/Object"))), i_Ars_copyOf3_0 ++ (i_Ars_copyOf3_1))
theorem g_Ars_copyOf3 : px_good m_Ars_copyOf3 := ⟨px_allapp k_Ars_copyOf3_0 (k_Ars_copyOf3_1), by decide +kernel, w_212, by exact Nat.le_of_ble_eq_true rfl⟩
def i_TM_event_0 : List px_Rw := [(0, .aload_n 0, 1, [], 0), (1, .iload_n 1, 2, [], 0), (2, .invokevirtual 60, 5, [], 0), (5, .astore_n 3, 6, [], 0), (6, .aload_n 3, 7, [], 0), (7, .ifnonnull 5, 10, [12], 0), (10, .iconst (-1), 11, [], -1), (11, .ireturn, 12, [], 0), (12, .aload_n 0, 13, [], 0), (13, .getfield 20, 16, [], 0), (16, .ifCond .ne 6, 19, [22], 0), (19, .bipush (-3), 21, [], -3), (21, .ireturn, 22, [], 0), (22, .aload_n 0, 23, [], 0), (23, .dup, 24, [], 0), (24, .getfield 27, 27, [], 0)]
theorem k_TM_event_0 : i_TM_event_0.all (px_okb prog_1_method_3_code) = true := by decide +kernel
def i_TM_event_1 : List px_Rw := [(27, .iconst 1, 28, [], 1), (28, .iadd, 29, [], 0), (29, .putfield 27, 32, [], 0), (32, .aload_n 0, 33, [], 0), (33, .aload_n 3, 34, [], 0), (34, .invokevirtual 64, 37, [], 0), (37, .invokevirtual 67, 40, [], 0), (40, .ifCond .eq 13, 43, [53], 0), (43, .aload_n 3, 44, [], 0), (44, .iload_n 2, 45, [], 0), (45, .invokevirtual 71, 48, [], 0), (48, .aload_n 0, 49, [], 0), (49, .aload_n 3, 50, [], 0), (50, .invokevirtual 75, 53, [], 0), (53, .aload_n 3, 54, [], 0), (54, .getfield 79, 57, [], 0)]
theorem k_TM_event_1 : i_TM_event_1.all (px_okb prog_1_method_3_code) = true := by decide +kernel
def i_TM_event_2 : List px_Rw := [(57, .getfield 83, 60, [], 0), (60, .ireturn, 61, [], 0)]
theorem k_TM_event_2 : i_TM_event_2.all (px_okb prog_1_method_3_code) = true := by decide +kernel
def m_TM_event : px_M := (⟨"TroubleMemory", "event", "(IZ)I"⟩, prog_1_method_3_code, 4, (Option.some Jvm.ClassFile.FieldType.int), i_TM_event_0 ++ (i_TM_event_1 ++ (i_TM_event_2)))
theorem g_TM_event : px_good m_TM_event := ⟨px_allapp k_TM_event_0 (px_allapp k_TM_event_1 (k_TM_event_2)), by decide +kernel, w_227, by exact Nat.le_of_ble_eq_true rfl⟩
def i_TM_find_0 : List px_Rw := [(0, .iload_n 1, 1, [], 0), (1, .iconst 1, 2, [], 1), (2, .aload_n 0, 3, [], 0), (3, .getfield 12, 6, [], 0), (6, .invokevirtual 44, 9, [], 0), (9, .invokestatic 33, 12, [], 0), (12, .ifCond .eq 19, 15, [31], 0), (15, .aload_n 0, 16, [], 0), (16, .getfield 12, 19, [], 0), (19, .iload_n 1, 20, [], 0), (20, .iconst 1, 21, [], 1), (21, .isub, 22, [], 0), (22, .invokevirtual 88, 25, [], 0), (25, .checkcast 48, 28, [], 0), (28, .goto 4, 31, [32], 0), (31, .aconst_null, 32, [], 0)]
theorem k_TM_find_0 : i_TM_find_0.all (px_okb prog_1_method_17_code) = true := by decide +kernel
def i_TM_find_1 : List px_Rw := [(32, .areturn, 33, [], 0)]
theorem k_TM_find_1 : i_TM_find_1.all (px_okb prog_1_method_17_code) = true := by decide +kernel
def m_TM_find : px_M := (⟨"TroubleMemory", "find", "(I)LTroubleMemory$Code;"⟩, prog_1_method_17_code, 2, (Option.some (Jvm.ClassFile.FieldType.object "TroubleMemory$Code")), i_TM_find_0 ++ (i_TM_find_1))
theorem g_TM_find : px_good m_TM_find := ⟨px_allapp k_TM_find_0 (k_TM_find_1), by decide +kernel, w_231, by exact Nat.le_of_ble_eq_true rfl⟩
def i_AL_get_0 : List px_Rw := [(0, .iload_n 1, 1, [], 0), (1, .aload_n 0, 2, [], 0), (2, .getfield 48, 5, [], 0), (5, .invokestatic 118, 8, [], 0), (8, .pop, 9, [], 0), (9, .aload_n 0, 10, [], 0), (10, .iload_n 1, 11, [], 0), (11, .invokevirtual 123, 14, [], 0), (14, .areturn, 15, [], 0)]
theorem k_AL_get_0 : i_AL_get_0.all (px_okb prog_17_method_20_code) = true := by decide +kernel
def m_AL_get : px_M := (⟨"java/util/ArrayList", "get", "(I)Ljava/lang/Object;"⟩, prog_17_method_20_code, 2, (Option.some (Jvm.ClassFile.FieldType.object "java/lang/Object")), i_AL_get_0)
theorem g_AL_get : px_good m_AL_get := ⟨k_AL_get_0, by decide +kernel, w_235, by exact Nat.le_of_ble_eq_true rfl⟩
def i_Obs_checkIndex_0 : List px_Rw := [(0, .iload_n 0, 1, [], 0), (1, .iload_n 1, 2, [], 0), (2, .aconst_null, 3, [], 0), (3, .invokestatic 105, 6, [], 0), (6, .ireturn, 7, [], 0)]
theorem k_Obs_checkIndex_0 : i_Obs_checkIndex_0.all (px_okb prog_21_method_17_code) = true := by decide +kernel
def m_Obs_checkIndex : px_M := (⟨"java/util/Objects", "checkIndex", "(II)I"⟩, prog_21_method_17_code, 2, (Option.some Jvm.ClassFile.FieldType.int), i_Obs_checkIndex_0)
theorem g_Obs_checkIndex : px_good m_Obs_checkIndex := ⟨k_Obs_checkIndex_0, by decide +kernel, w_238, by exact Nat.le_of_ble_eq_true rfl⟩
def i_Prc_checkIndex_0 : List px_Rw := [(0, .iload_n 0, 1, [], 0), (1, .ifCond .lt 8, 4, [9], 0), (4, .iload_n 0, 5, [], 0), (5, .iload_n 1, 6, [], 0), (6, .if_icmp .lt 10, 9, [16], 0), (9, .aload_n 2, 10, [], 0), (10, .iload_n 0, 11, [], 0), (11, .iload_n 1, 12, [], 0), (12, .invokestatic 95, 15, [], 0), (15, .athrow, 16, [], 0), (16, .iload_n 0, 17, [], 0), (17, .ireturn, 18, [], 0)]
theorem k_Prc_checkIndex_0 : i_Prc_checkIndex_0.all (px_okb prog_25_method_11_code) = true := by decide +kernel
def m_Prc_checkIndex : px_M := (⟨"jdk/internal/util/Preconditions", "checkIndex", "(IILjava/util/function/BiFunction;)I"⟩, prog_25_method_11_code, 3, (Option.some Jvm.ClassFile.FieldType.int), i_Prc_checkIndex_0)
theorem g_Prc_checkIndex : px_good m_Prc_checkIndex := ⟨k_Prc_checkIndex_0, by decide +kernel, w_241, by exact Nat.le_of_ble_eq_true rfl⟩
def i_AL_elementData_0 : List px_Rw := [(0, .aload_n 0, 1, [], 0), (1, .getfield 9, 4, [], 0), (4, .iload_n 1, 5, [], 0), (5, .aaload, 6, [], 0), (6, .areturn, 7, [], 0)]
theorem k_AL_elementData_0 : i_AL_elementData_0.all (px_okb prog_17_method_18_code) = true := by decide +kernel
def m_AL_elementData : px_M := (⟨"java/util/ArrayList", "elementData", "(I)Ljava/lang/Object;"⟩, prog_17_method_18_code, 2, (Option.some (Jvm.ClassFile.FieldType.object "java/lang/Object")), i_AL_elementData_0)
theorem g_AL_elementData : px_good m_AL_elementData := ⟨k_AL_elementData_0, by decide +kernel, w_245, by exact Nat.le_of_ble_eq_true rfl⟩
def i_Cd_condition_0 : List px_Rw := [(0, .aload_n 0, 1, [], 0), (1, .getfield 33, 4, [], 0), (4, .bipush 32, 6, [], 32), (6, .irem, 7, [], 0), (7, .ireturn, 8, [], 0)]
theorem k_Cd_condition_0 : i_Cd_condition_0.all (px_okb prog_2_method_3_code) = true := by decide +kernel
def m_Cd_condition : px_M := (⟨"TroubleMemory$Code", "condition", "()I"⟩, prog_2_method_3_code, 1, (Option.some Jvm.ClassFile.FieldType.int), i_Cd_condition_0)
theorem g_Cd_condition : px_good m_Cd_condition := ⟨k_Cd_condition_0, by decide +kernel, w_249, by exact Nat.le_of_ble_eq_true rfl⟩
def i_TM_isOn_0 : List px_Rw := [(0, .aload_n 0, 1, [], 0), (1, .getfield 16, 4, [], 0), (4, .iconst 1, 5, [], 1), (5, .iload_n 1, 6, [], 0), (6, .ishl, 7, [], 0), (7, .iand, 8, [], 0), (8, .ifCond .eq 7, 11, [15], 0), (11, .iconst 1, 12, [], 1), (12, .goto 4, 15, [16], 0), (15, .iconst 0, 16, [], 0), (16, .ireturn, 17, [], 0)]
theorem k_TM_isOn_0 : i_TM_isOn_0.all (px_okb prog_1_method_18_code) = true := by decide +kernel
def m_TM_isOn : px_M := (⟨"TroubleMemory", "isOn", "(I)Z"⟩, prog_1_method_18_code, 2, (Option.some Jvm.ClassFile.FieldType.boolean), i_TM_isOn_0)
theorem g_TM_isOn : px_good m_TM_isOn := ⟨k_TM_isOn_0, by decide +kernel, w_253, by exact Nat.le_of_ble_eq_true rfl⟩
def i_Cd_count_0 : List px_Rw := [(0, .iload_n 1, 1, [], 0), (1, .ifCond .eq 28, 4, [29], 0), (4, .aload_n 0, 5, [], 0), (5, .aload_n 0, 6, [], 0), (6, .getfield 21, 9, [], 0), (9, .iconst 0, 10, [], 0), (10, .invokestatic 45, 13, [], 0), (13, .aload_n 0, 14, [], 0), (14, .getfield 39, 17, [], 0), (17, .iadd, 18, [], 0), (18, .bipush 127, 20, [], 127), (20, .invokestatic 51, 23, [], 0), (23, .putfield 21, 26, [], 0), (26, .goto 25, 29, [51], 0), (29, .aload_n 0, 30, [], 0), (30, .aload_n 0, 31, [], 0)]
theorem k_Cd_count_0 : i_Cd_count_0.all (px_okb prog_2_method_4_code) = true := by decide +kernel
def i_Cd_count_1 : List px_Rw := [(31, .getfield 21, 34, [], 0), (34, .iconst 0, 35, [], 0), (35, .invokestatic 51, 38, [], 0), (38, .aload_n 0, 39, [], 0), (39, .getfield 42, 42, [], 0), (42, .isub, 43, [], 0), (43, .bipush (-128), 45, [], -128), (45, .invokestatic 45, 48, [], 0), (48, .putfield 21, 51, [], 0), (51, .return_, 52, [], 0)]
theorem k_Cd_count_1 : i_Cd_count_1.all (px_okb prog_2_method_4_code) = true := by decide +kernel
def m_Cd_count : px_M := (⟨"TroubleMemory$Code", "count", "(Z)V"⟩, prog_2_method_4_code, 2, (Option.none : Option Jvm.ClassFile.FieldType), i_Cd_count_0 ++ (i_Cd_count_1))
theorem g_Cd_count : px_good m_Cd_count := ⟨px_allapp k_Cd_count_0 (k_Cd_count_1), by decide +kernel, w_257, by exact Nat.le_of_ble_eq_true rfl⟩
def i_TM_judge_0 : List px_Rw := [(0, .aload_n 1, 1, [], 0), (1, .getfield 164, 4, [], 0), (4, .bipush (-128), 6, [], -128), (6, .if_icmp .ne 13, 9, [19], 0), (9, .aload_n 1, 10, [], 0), (10, .getfield 79, 13, [], 0), (13, .invokevirtual 176, 16, [], 0), (16, .goto 66, 19, [82], 0), (19, .aload_n 1, 20, [], 0), (20, .getfield 164, 23, [], 0), (23, .bipush 127, 25, [], 127), (25, .if_icmp .ne 57, 28, [82], 0), (28, .aload_n 1, 29, [], 0), (29, .getfield 79, 32, [], 0), (32, .iconst 1, 33, [], 1), (33, .invokevirtual 173, 36, [], 0)]
theorem k_TM_judge_0 : i_TM_judge_0.all (px_okb prog_1_method_20_code) = true := by decide +kernel
def i_TM_judge_1 : List px_Rw := [(36, .istore_n 2, 37, [], 0), (37, .aload_n 1, 38, [], 0), (38, .getfield 79, 41, [], 0), (41, .aload_n 1, 42, [], 0), (42, .getfield 161, 45, [], 0), (45, .bipush 64, 47, [], 64), (47, .if_icmp .gt 7, 50, [54], 0), (50, .iconst 1, 51, [], 1), (51, .goto 4, 54, [55], 0), (54, .iconst 0, 55, [], 0), (55, .invokevirtual 179, 58, [], 0), (58, .iload_n 2, 59, [], 0), (59, .ifCond .ne 23, 62, [82], 0), (62, .aload_n 1, 63, [], 0), (63, .invokevirtual 182, 66, [], 0), (66, .ifCond .ne 16, 69, [82], 0)]
theorem k_TM_judge_1 : i_TM_judge_1.all (px_okb prog_1_method_20_code) = true := by decide +kernel
def i_TM_judge_2 : List px_Rw := [(69, .aload_n 0, 70, [], 0), (70, .getfield 40, 73, [], 0), (73, .aload_n 1, 74, [], 0), (74, .aload_n 0, 75, [], 0), (75, .aload_n 1, 76, [], 0), (76, .invokevirtual 186, 79, [], 0), (79, .invokevirtual 190, 82, [], 0), (82, .return_, 83, [], 0)]
theorem k_TM_judge_2 : i_TM_judge_2.all (px_okb prog_1_method_20_code) = true := by decide +kernel
def m_TM_judge : px_M := (⟨"TroubleMemory", "judge", "(LTroubleMemory$Code;)V"⟩, prog_1_method_20_code, 3, (Option.none : Option Jvm.ClassFile.FieldType), i_TM_judge_0 ++ (i_TM_judge_1 ++ (i_TM_judge_2)))
theorem g_TM_judge : px_good m_TM_judge := ⟨px_allapp k_TM_judge_0 (px_allapp k_TM_judge_1 (k_TM_judge_2)), by decide +kernel, w_263, by exact Nat.le_of_ble_eq_true rfl⟩
def i_Sg_pass_0 : List px_Rw := [(0, .aload_n 0, 1, [], 0), (1, .dup, 2, [], 0), (2, .getfield 9, 5, [], 0), (5, .bipush (-82), 7, [], -82), (7, .iand, 8, [], 0), (8, .putfield 9, 11, [], 0), (11, .return_, 12, [], 0)]
theorem k_Sg_pass_0 : i_Sg_pass_0.all (px_okb prog_6_method_5_code) = true := by decide +kernel
def m_Sg_pass : px_M := (⟨"TroubleMemory$Standing", "pass", "()V"⟩, prog_6_method_5_code, 1, (Option.none : Option Jvm.ClassFile.FieldType), i_Sg_pass_0)
theorem g_Sg_pass : px_good m_Sg_pass := ⟨k_Sg_pass_0, by decide +kernel, w_267, by exact Nat.le_of_ble_eq_true rfl⟩
def i_Sg_has_0 : List px_Rw := [(0, .aload_n 0, 1, [], 0), (1, .getfield 9, 4, [], 0), (4, .iload_n 1, 5, [], 0), (5, .iand, 6, [], 0), (6, .ifCond .eq 7, 9, [13], 0), (9, .iconst 1, 10, [], 1), (10, .goto 4, 13, [14], 0), (13, .iconst 0, 14, [], 0), (14, .ireturn, 15, [], 0)]
theorem k_Sg_has_0 : i_Sg_has_0.all (px_okb prog_6_method_2_code) = true := by decide +kernel
def m_Sg_has : px_M := (⟨"TroubleMemory$Standing", "has", "(I)Z"⟩, prog_6_method_2_code, 2, (Option.some Jvm.ClassFile.FieldType.boolean), i_Sg_has_0)
theorem g_Sg_has : px_good m_Sg_has := ⟨k_Sg_has_0, by decide +kernel, w_271, by exact Nat.le_of_ble_eq_true rfl⟩
def i_Sg_fail_0 : List px_Rw := [(0, .aload_n 0, 1, [], 0), (1, .dup, 2, [], 0), (2, .getfield 9, 5, [], 0), (5, .bipush (-81), 7, [], -81), (7, .iand, 8, [], 0), (8, .putfield 9, 11, [], 0), (11, .aload_n 0, 12, [], 0), (12, .iconst 2, 13, [], 2), (13, .invokevirtual 24, 16, [], 0), (16, .ifCond .ne 19, 19, [35], 0), (19, .aload_n 0, 20, [], 0), (20, .aload_n 0, 21, [], 0), (21, .getfield 15, 24, [], 0), (24, .iconst 1, 25, [], 1), (25, .iadd, 26, [], 0), (26, .sipush 255, 29, [], 255)]
theorem k_Sg_fail_0 : i_Sg_fail_0.all (px_okb prog_6_method_6_code) = true := by decide +kernel
def i_Sg_fail_1 : List px_Rw := [(29, .invokestatic 28, 32, [], 0), (32, .putfield 15, 35, [], 0), (35, .aload_n 0, 36, [], 0), (36, .getfield 15, 39, [], 0), (39, .iconst 2, 40, [], 2), (40, .if_icmp .lt 24, 43, [64], 0), (43, .aload_n 0, 44, [], 0), (44, .dup, 45, [], 0), (45, .getfield 9, 48, [], 0), (48, .iload_n 1, 49, [], 0), (49, .ifCond .eq 9, 52, [58], 0), (52, .sipush 136, 55, [], 136), (55, .goto 5, 58, [60], 0), (58, .bipush 8, 60, [], 8), (60, .ior, 61, [], 0), (61, .putfield 9, 64, [], 0)]
theorem k_Sg_fail_1 : i_Sg_fail_1.all (px_okb prog_6_method_6_code) = true := by decide +kernel
def i_Sg_fail_2 : List px_Rw := [(64, .aload_n 0, 65, [], 0), (65, .dup, 66, [], 0), (66, .getfield 9, 69, [], 0), (69, .bipush 39, 71, [], 39), (71, .ior, 72, [], 0), (72, .putfield 9, 75, [], 0), (75, .aload_n 0, 76, [], 0), (76, .iconst 0, 77, [], 0), (77, .putfield 18, 80, [], 0), (80, .aload_n 0, 81, [], 0), (81, .iconst 0, 82, [], 0), (82, .putfield 21, 85, [], 0), (85, .return_, 86, [], 0)]
theorem k_Sg_fail_2 : i_Sg_fail_2.all (px_okb prog_6_method_6_code) = true := by decide +kernel
def m_Sg_fail : px_M := (⟨"TroubleMemory$Standing", "fail", "(Z)V"⟩, prog_6_method_6_code, 2, (Option.none : Option Jvm.ClassFile.FieldType), i_Sg_fail_0 ++ (i_Sg_fail_1 ++ (i_Sg_fail_2)))
theorem g_Sg_fail : px_good m_Sg_fail := ⟨px_allapp k_Sg_fail_0 (px_allapp k_Sg_fail_1 (k_Sg_fail_2)), by decide +kernel, w_275, by exact Nat.le_of_ble_eq_true rfl⟩
def i_Cd_isHidden_0 : List px_Rw := [(0, .aload_n 0, 1, [], 0), (1, .getfield 25, 4, [], 0), (4, .astore_n 1, 5, [], 0), (5, .iconst 0, 6, [], 0), (6, .istore_n 2, 7, [], 0), (7, .iload_n 2, 8, [], 0), (8, .sipush 200, 11, [], 200), (11, .if_icmp .ge 31, 14, [42], 0), (14, .aload_n 1, 15, [], 0), (15, .ifnull 27, 18, [42], 0), (18, .aload_n 1, 19, [], 0), (19, .getfield 12, 22, [], 0), (22, .iconst 1, 23, [], 1), (23, .invokevirtual 57, 26, [], 0), (26, .ifCond .eq 5, 29, [31], 0), (29, .iconst 1, 30, [], 1)]
theorem k_Cd_isHidden_0 : i_Cd_isHidden_0.all (px_okb prog_2_method_8_code) = true := by decide +kernel
def i_Cd_isHidden_1 : List px_Rw := [(30, .ireturn, 31, [], 0), (31, .aload_n 1, 32, [], 0), (32, .getfield 25, 35, [], 0), (35, .astore_n 1, 36, [], 0), (36, .iinc 2 1, 39, [], 1), (39, .goto (-32), 42, [7], 0), (42, .iconst 0, 43, [], 0), (43, .ireturn, 44, [], 0)]
theorem k_Cd_isHidden_1 : i_Cd_isHidden_1.all (px_okb prog_2_method_8_code) = true := by decide +kernel
def m_Cd_isHidden : px_M := (⟨"TroubleMemory$Code", "isHidden", "()Z"⟩, prog_2_method_8_code, 3, (Option.some Jvm.ClassFile.FieldType.boolean), i_Cd_isHidden_0 ++ (i_Cd_isHidden_1))
theorem g_Cd_isHidden : px_good m_Cd_isHidden := ⟨px_allapp k_Cd_isHidden_0 (k_Cd_isHidden_1), by decide +kernel, w_281, by exact Nat.le_of_ble_eq_true rfl⟩
def i_TM_takeSnapshot_0 : List px_Rw := [(0, .new 120, 3, [], 0), (3, .dup, 4, [], 0), (4, .aload_n 0, 5, [], 0), (5, .getfield 24, 8, [], 0), (8, .aload_n 0, 9, [], 0), (9, .getfield 27, 12, [], 0), (12, .aload_n 0, 13, [], 0), (13, .iconst 1, 14, [], 1), (14, .invokevirtual 149, 17, [], 0), (17, .aload_n 1, 18, [], 0), (18, .getfield 194, 21, [], 0), (21, .invokespecial 197, 24, [], 0), (24, .areturn, 25, [], 0)]
theorem k_TM_takeSnapshot_0 : i_TM_takeSnapshot_0.all (px_okb prog_1_method_21_code) = true := by decide +kernel
def m_TM_takeSnapshot : px_M := (⟨"TroubleMemory", "takeSnapshot", "(LTroubleMemory$Code;)LTroubleMemory$Snapshot;"⟩, prog_1_method_21_code, 2, (Option.some (Jvm.ClassFile.FieldType.object "TroubleMemory$Snapshot")), i_TM_takeSnapshot_0)
theorem g_TM_takeSnapshot : px_good m_TM_takeSnapshot := ⟨k_TM_takeSnapshot_0, by decide +kernel, w_286, by exact Nat.le_of_ble_eq_true rfl⟩
def i_TM_countCodesWith_0 : List px_Rw := [(0, .iconst 0, 1, [], 0), (1, .istore_n 2, 2, [], 0), (2, .iconst 0, 3, [], 0), (3, .istore_n 3, 4, [], 0), (4, .iload_n 3, 5, [], 0), (5, .aload_n 0, 6, [], 0), (6, .getfield 12, 9, [], 0), (9, .invokevirtual 44, 12, [], 0), (12, .if_icmp .ge 33, 15, [45], 0), (15, .aload_n 0, 16, [], 0), (16, .getfield 12, 19, [], 0), (19, .iload_n 3, 20, [], 0), (20, .invokevirtual 88, 23, [], 0), (23, .checkcast 48, 26, [], 0), (26, .getfield 79, 29, [], 0), (29, .iload_n 1, 30, [], 0)]
theorem k_TM_countCodesWith_0 : i_TM_countCodesWith_0.all (px_okb prog_1_method_19_code) = true := by decide +kernel
def i_TM_countCodesWith_1 : List px_Rw := [(30, .invokevirtual 173, 33, [], 0), (33, .ifCond .eq 6, 36, [39], 0), (36, .iinc 2 1, 39, [], 1), (39, .iinc 3 1, 42, [], 1), (42, .goto (-38), 45, [4], 0), (45, .iload_n 2, 46, [], 0), (46, .ireturn, 47, [], 0)]
theorem k_TM_countCodesWith_1 : i_TM_countCodesWith_1.all (px_okb prog_1_method_19_code) = true := by decide +kernel
def m_TM_countCodesWith : px_M := (⟨"TroubleMemory", "countCodesWith", "(I)I"⟩, prog_1_method_19_code, 4, (Option.some Jvm.ClassFile.FieldType.int), i_TM_countCodesWith_0 ++ (i_TM_countCodesWith_1))
theorem g_TM_countCodesWith : px_good m_TM_countCodesWith := ⟨px_allapp k_TM_countCodesWith_0 (k_TM_countCodesWith_1), by decide +kernel, w_292, by exact Nat.le_of_ble_eq_true rfl⟩
def i_Sn_init_0 : List px_Rw := [(0, .aload_n 0, 1, [], 0), (1, .invokespecial 1, 4, [], 0), (4, .aload_n 0, 5, [], 0), (5, .iload_n 1, 6, [], 0), (6, .putfield 7, 9, [], 0), (9, .aload_n 0, 10, [], 0), (10, .iload_n 2, 11, [], 0), (11, .putfield 13, 14, [], 0), (14, .aload_n 0, 15, [], 0), (15, .iload_n 3, 16, [], 0), (16, .putfield 16, 19, [], 0), (19, .aload_n 0, 20, [], 0), (20, .iload 4, 22, [], 0), (22, .putfield 19, 25, [], 0), (25, .return_, 26, [], 0)]
theorem k_Sn_init_0 : i_Sn_init_0.all (px_okb prog_5_method_1_code) = true := by decide +kernel
def m_Sn_init : px_M := (⟨"TroubleMemory$Snapshot", "<init>", "(IIII)V"⟩, prog_5_method_1_code, 5, (Option.none : Option Jvm.ClassFile.FieldType), i_Sn_init_0)
theorem g_Sn_init : px_good m_Sn_init := ⟨k_Sn_init_0, by decide +kernel, w_295, by exact Nat.le_of_ble_eq_true rfl⟩
def i_Mem_store_0 : List px_Rw := [(0, .aload_n 1, 1, [], 0), (1, .getfield 25, 4, [], 0), (4, .ifnull 14, 7, [18], 0), (7, .aload_n 1, 8, [], 0), (8, .getfield 25, 11, [], 0), (11, .aload_n 2, 12, [], 0), (12, .invokevirtual 31, 15, [], 0), (15, .goto 50, 18, [65], 0), (18, .aload_n 0, 19, [], 0), (19, .getfield 12, 22, [], 0), (22, .invokevirtual 37, 25, [], 0), (25, .aload_n 0, 26, [], 0), (26, .getfield 21, 29, [], 0), (29, .if_icmp .lt 11, 32, [40], 0), (32, .aload_n 0, 33, [], 0), (33, .aload_n 1, 34, [], 0)]
theorem k_Mem_store_0 : i_Mem_store_0.all (px_okb prog_4_method_2_code) = true := by decide +kernel
def i_Mem_store_1 : List px_Rw := [(34, .invokevirtual 41, 37, [], 0), (37, .ifCond .eq 28, 40, [65], 0), (40, .aload_n 1, 41, [], 0), (41, .new 32, 44, [], 0), (44, .dup, 45, [], 0), (45, .aload_n 1, 46, [], 0), (46, .aload_n 2, 47, [], 0), (47, .invokespecial 45, 50, [], 0), (50, .putfield 25, 53, [], 0), (53, .aload_n 0, 54, [], 0), (54, .getfield 12, 57, [], 0), (57, .aload_n 1, 58, [], 0), (58, .getfield 25, 61, [], 0), (61, .invokevirtual 48, 64, [], 0), (64, .pop, 65, [], 0), (65, .return_, 66, [], 0)]
theorem k_Mem_store_1 : i_Mem_store_1.all (px_okb prog_4_method_2_code) = true := by decide +kernel
def m_Mem_store : px_M := (⟨"TroubleMemory$Memory", "store", "(LTroubleMemory$Code;LTroubleMemory$Snapshot;)V"⟩, prog_4_method_2_code, 3, (Option.none : Option Jvm.ClassFile.FieldType), i_Mem_store_0 ++ (i_Mem_store_1))
theorem g_Mem_store : px_good m_Mem_store := ⟨px_allapp k_Mem_store_0 (k_Mem_store_1), by decide +kernel, w_313, by exact Nat.le_of_ble_eq_true rfl⟩
def i_En_happenAgain_0 : List px_Rw := [(0, .aload_n 0, 1, [], 0), (1, .aload_n 0, 2, [], 0), (2, .getfield 9, 5, [], 0), (5, .iconst 1, 6, [], 1), (6, .iadd, 7, [], 0), (7, .sipush 255, 10, [], 255), (10, .invokestatic 26, 13, [], 0), (13, .putfield 9, 16, [], 0), (16, .aload_n 0, 17, [], 0), (17, .aload_n 1, 18, [], 0), (18, .putfield 23, 21, [], 0), (21, .return_, 22, [], 0)]
theorem k_En_happenAgain_0 : i_En_happenAgain_0.all (px_okb prog_3_method_2_code) = true := by decide +kernel
def m_En_happenAgain : px_M := (⟨"TroubleMemory$Entry", "happenAgain", "(LTroubleMemory$Snapshot;)V"⟩, prog_3_method_2_code, 2, (Option.none : Option Jvm.ClassFile.FieldType), i_En_happenAgain_0)
theorem g_En_happenAgain : px_good m_En_happenAgain := ⟨k_En_happenAgain_0, by decide +kernel, w_317, by exact Nat.le_of_ble_eq_true rfl⟩
def i_Mem_displaceFor_0 : List px_Rw := [(0, .aconst_null, 1, [], 0), (1, .astore_n 2, 2, [], 0), (2, .iconst 0, 3, [], 0), (3, .istore_n 3, 4, [], 0), (4, .iload_n 3, 5, [], 0), (5, .aload_n 0, 6, [], 0), (6, .getfield 12, 9, [], 0), (9, .invokevirtual 37, 12, [], 0), (12, .if_icmp .ge 47, 15, [59], 0), (15, .aload_n 0, 16, [], 0), (16, .getfield 12, 19, [], 0), (19, .iload_n 3, 20, [], 0), (20, .invokevirtual 52, 23, [], 0), (23, .checkcast 32, 26, [], 0), (26, .astore 4, 28, [], 0), (28, .aload 4, 30, [], 0)]
theorem k_Mem_displaceFor_0 : i_Mem_displaceFor_0.all (px_okb prog_4_method_3_code) = true := by decide +kernel
def i_Mem_displaceFor_1 : List px_Rw := [(30, .aload_n 1, 31, [], 0), (31, .invokevirtual 56, 34, [], 0), (34, .ifCond .eq 19, 37, [53], 0), (37, .aload_n 2, 38, [], 0), (38, .ifnull 12, 41, [50], 0), (41, .aload 4, 43, [], 0), (43, .aload_n 2, 44, [], 0), (44, .invokevirtual 59, 47, [], 0), (47, .ifCond .eq 6, 50, [53], 0), (50, .aload 4, 52, [], 0), (52, .astore_n 2, 53, [], 0), (53, .iinc 3 1, 56, [], 1), (56, .goto (-52), 59, [4], 0), (59, .aload_n 2, 60, [], 0), (60, .ifnonnull 5, 63, [65], 0), (63, .iconst 0, 64, [], 0)]
theorem k_Mem_displaceFor_1 : i_Mem_displaceFor_1.all (px_okb prog_4_method_3_code) = true := by decide +kernel
def i_Mem_displaceFor_2 : List px_Rw := [(64, .ireturn, 65, [], 0), (65, .aload_n 0, 66, [], 0), (66, .getfield 18, 69, [], 0), (69, .invokevirtual 37, 72, [], 0), (72, .sipush 500, 75, [], 500), (75, .if_icmp .ge 15, 78, [90], 0), (78, .aload_n 0, 79, [], 0), (79, .getfield 18, 82, [], 0), (82, .aload_n 2, 83, [], 0), (83, .getfield 63, 86, [], 0), (86, .invokevirtual 48, 89, [], 0), (89, .pop, 90, [], 0), (90, .aload_n 0, 91, [], 0), (91, .aload_n 2, 92, [], 0), (92, .getfield 63, 95, [], 0), (95, .invokevirtual 67, 98, [], 0)]
theorem k_Mem_displaceFor_2 : i_Mem_displaceFor_2.all (px_okb prog_4_method_3_code) = true := by decide +kernel
def i_Mem_displaceFor_3 : List px_Rw := [(98, .iconst 1, 99, [], 1), (99, .ireturn, 100, [], 0)]
theorem k_Mem_displaceFor_3 : i_Mem_displaceFor_3.all (px_okb prog_4_method_3_code) = true := by decide +kernel
def m_Mem_displaceFor : px_M := (⟨"TroubleMemory$Memory", "displaceFor", "(LTroubleMemory$Code;)Z"⟩, prog_4_method_3_code, 5, (Option.some Jvm.ClassFile.FieldType.boolean), i_Mem_displaceFor_0 ++ (i_Mem_displaceFor_1 ++ (i_Mem_displaceFor_2 ++ (i_Mem_displaceFor_3))))
theorem g_Mem_displaceFor : px_good m_Mem_displaceFor := ⟨px_allapp k_Mem_displaceFor_0 (px_allapp k_Mem_displaceFor_1 (px_allapp k_Mem_displaceFor_2 (k_Mem_displaceFor_3))), by decide +kernel, w_323, by exact Nat.le_of_ble_eq_true rfl⟩
def i_En_mayGoFor_0 : List px_Rw := [(0, .aload_n 0, 1, [], 0), (1, .getfield 15, 4, [], 0), (4, .getfield 32, 7, [], 0), (7, .aload_n 1, 8, [], 0), (8, .getfield 32, 11, [], 0), (11, .if_icmp .gt 31, 14, [42], 0), (14, .aload_n 0, 15, [], 0), (15, .getfield 15, 18, [], 0), (18, .getfield 32, 21, [], 0), (21, .aload_n 1, 22, [], 0), (22, .getfield 32, 25, [], 0), (25, .if_icmp .ne 21, 28, [46], 0), (28, .aload_n 0, 29, [], 0), (29, .getfield 15, 32, [], 0), (32, .getfield 37, 35, [], 0), (35, .iconst 1, 36, [], 1)]
theorem k_En_mayGoFor_0 : i_En_mayGoFor_0.all (px_okb prog_3_method_3_code) = true := by decide +kernel
def i_En_mayGoFor_1 : List px_Rw := [(36, .invokevirtual 41, 39, [], 0), (39, .ifCond .ne 7, 42, [46], 0), (42, .iconst 1, 43, [], 1), (43, .goto 4, 46, [47], 0), (46, .iconst 0, 47, [], 0), (47, .ireturn, 48, [], 0)]
theorem k_En_mayGoFor_1 : i_En_mayGoFor_1.all (px_okb prog_3_method_3_code) = true := by decide +kernel
def m_En_mayGoFor : px_M := (⟨"TroubleMemory$Entry", "mayGoFor", "(LTroubleMemory$Code;)Z"⟩, prog_3_method_3_code, 2, (Option.some Jvm.ClassFile.FieldType.boolean), i_En_mayGoFor_0 ++ (i_En_mayGoFor_1))
theorem g_En_mayGoFor : px_good m_En_mayGoFor := ⟨px_allapp k_En_mayGoFor_0 (k_En_mayGoFor_1), by decide +kernel, w_329, by exact Nat.le_of_ble_eq_true rfl⟩
def i_En_goesBefore_0 : List px_Rw := [(0, .aload_n 0, 1, [], 0), (1, .getfield 15, 4, [], 0), (4, .getfield 32, 7, [], 0), (7, .aload_n 1, 8, [], 0), (8, .getfield 15, 11, [], 0), (11, .getfield 32, 14, [], 0), (14, .if_icmp .eq 26, 17, [40], 0), (17, .aload_n 0, 18, [], 0), (18, .getfield 15, 21, [], 0), (21, .getfield 32, 24, [], 0), (24, .aload_n 1, 25, [], 0), (25, .getfield 15, 28, [], 0), (28, .getfield 32, 31, [], 0), (31, .if_icmp .le 7, 34, [38], 0), (34, .iconst 1, 35, [], 1), (35, .goto 4, 38, [39], 0)]
theorem k_En_goesBefore_0 : i_En_goesBefore_0.all (px_okb prog_3_method_4_code) = true := by decide +kernel
def i_En_goesBefore_1 : List px_Rw := [(38, .iconst 0, 39, [], 0), (39, .ireturn, 40, [], 0), (40, .aload_n 0, 41, [], 0), (41, .getfield 15, 44, [], 0), (44, .getfield 37, 47, [], 0), (47, .iconst 1, 48, [], 1), (48, .invokevirtual 41, 51, [], 0), (51, .ifCond .ne 21, 54, [72], 0), (54, .aload_n 1, 55, [], 0), (55, .getfield 15, 58, [], 0), (58, .getfield 37, 61, [], 0), (61, .iconst 1, 62, [], 1), (62, .invokevirtual 41, 65, [], 0), (65, .ifCond .eq 7, 68, [72], 0), (68, .iconst 1, 69, [], 1), (69, .goto 4, 72, [73], 0)]
theorem k_En_goesBefore_1 : i_En_goesBefore_1.all (px_okb prog_3_method_4_code) = true := by decide +kernel
def i_En_goesBefore_2 : List px_Rw := [(72, .iconst 0, 73, [], 0), (73, .ireturn, 74, [], 0)]
theorem k_En_goesBefore_2 : i_En_goesBefore_2.all (px_okb prog_3_method_4_code) = true := by decide +kernel
def m_En_goesBefore : px_M := (⟨"TroubleMemory$Entry", "goesBefore", "(LTroubleMemory$Entry;)Z"⟩, prog_3_method_4_code, 2, (Option.some Jvm.ClassFile.FieldType.boolean), i_En_goesBefore_0 ++ (i_En_goesBefore_1 ++ (i_En_goesBefore_2)))
theorem g_En_goesBefore : px_good m_En_goesBefore := ⟨px_allapp k_En_goesBefore_0 (px_allapp k_En_goesBefore_1 (k_En_goesBefore_2)), by decide +kernel, w_334, by exact Nat.le_of_ble_eq_true rfl⟩
def i_Mem_drop_0 : List px_Rw := [(0, .aload_n 1, 1, [], 0), (1, .getfield 25, 4, [], 0), (4, .ifnonnull 4, 7, [8], 0), (7, .return_, 8, [], 0), (8, .iconst 0, 9, [], 0), (9, .istore_n 2, 10, [], 0), (10, .iload_n 2, 11, [], 0), (11, .aload_n 0, 12, [], 0), (12, .getfield 12, 15, [], 0), (15, .invokevirtual 37, 18, [], 0), (18, .if_icmp .ge 36, 21, [54], 0), (21, .aload_n 0, 22, [], 0), (22, .getfield 12, 25, [], 0), (25, .iload_n 2, 26, [], 0), (26, .invokevirtual 52, 29, [], 0), (29, .aload_n 1, 30, [], 0)]
theorem k_Mem_drop_0 : i_Mem_drop_0.all (px_okb prog_4_method_4_code) = true := by decide +kernel
def i_Mem_drop_1 : List px_Rw := [(30, .getfield 25, 33, [], 0), (33, .if_acmp .ne 15, 36, [48], 0), (36, .aload_n 0, 37, [], 0), (37, .getfield 12, 40, [], 0), (40, .iload_n 2, 41, [], 0), (41, .invokevirtual 71, 44, [], 0), (44, .pop, 45, [], 0), (45, .goto 9, 48, [54], 0), (48, .iinc 2 1, 51, [], 1), (51, .goto (-41), 54, [10], 0), (54, .aload_n 1, 55, [], 0), (55, .aconst_null, 56, [], 0), (56, .putfield 25, 59, [], 0), (59, .return_, 60, [], 0)]
theorem k_Mem_drop_1 : i_Mem_drop_1.all (px_okb prog_4_method_4_code) = true := by decide +kernel
def m_Mem_drop : px_M := (⟨"TroubleMemory$Memory", "drop", "(LTroubleMemory$Code;)V"⟩, prog_4_method_4_code, 3, (Option.none : Option Jvm.ClassFile.FieldType), i_Mem_drop_0 ++ (i_Mem_drop_1))
theorem g_Mem_drop : px_good m_Mem_drop := ⟨px_allapp k_Mem_drop_0 (k_Mem_drop_1), by decide +kernel, w_339, by exact Nat.le_of_ble_eq_true rfl⟩
def i_AL_remove_0 : List px_Rw := [(0, .iload_n 1, 1, [], 0), (1, .aload_n 0, 2, [], 0), (2, .getfield 48, 5, [], 0), (5, .invokestatic 118, 8, [], 0), (8, .pop, 9, [], 0), (9, .aload_n 0, 10, [], 0), (10, .getfield 9, 13, [], 0), (13, .astore_n 2, 14, [], 0), (14, .aload_n 2, 15, [], 0), (15, .iload_n 1, 16, [], 0), (16, .aaload, 17, [], 0), (17, .astore_n 3, 18, [], 0), (18, .aload_n 0, 19, [], 0), (19, .aload_n 2, 20, [], 0), (20, .iload_n 1, 21, [], 0), (21, .invokevirtual 144, 24, [], 0)]
theorem k_AL_remove_0 : i_AL_remove_0.all (px_okb prog_17_method_29_code) = true := by decide +kernel
def i_AL_remove_1 : List px_Rw := [(24, .aload_n 3, 25, [], 0), (25, .areturn, 26, [], 0)]
theorem k_AL_remove_1 : i_AL_remove_1.all (px_okb prog_17_method_29_code) = true := by decide +kernel
def m_AL_remove : px_M := (⟨"java/util/ArrayList", "remove", "(I)Ljava/lang/Object;"⟩, prog_17_method_29_code, 4, (Option.some (Jvm.ClassFile.FieldType.object "java/lang/Object")), i_AL_remove_0 ++ (i_AL_remove_1))
theorem g_AL_remove : px_good m_AL_remove := ⟨px_allapp k_AL_remove_0 (k_AL_remove_1), by decide +kernel, w_343, by exact Nat.le_of_ble_eq_true rfl⟩
def i_AL_fastRemove_0 : List px_Rw := [(0, .aload_n 0, 1, [], 0), (1, .dup, 2, [], 0), (2, .getfield 63, 5, [], 0), (5, .iconst 1, 6, [], 1), (6, .iadd, 7, [], 0), (7, .putfield 63, 10, [], 0), (10, .aload_n 0, 11, [], 0), (11, .getfield 48, 14, [], 0), (14, .iconst 1, 15, [], 1), (15, .isub, 16, [], 0), (16, .dup, 17, [], 0), (17, .istore_n 3, 18, [], 0), (18, .iload_n 2, 19, [], 0), (19, .if_icmp .le 15, 22, [34], 0), (22, .aload_n 1, 23, [], 0), (23, .iload_n 2, 24, [], 0)]
theorem k_AL_fastRemove_0 : i_AL_fastRemove_0.all (px_okb prog_17_method_39_code) = true := by decide +kernel
def i_AL_fastRemove_1 : List px_Rw := [(24, .iconst 1, 25, [], 1), (25, .iadd, 26, [], 0), (26, .aload_n 1, 27, [], 0), (27, .iload_n 2, 28, [], 0), (28, .iload_n 3, 29, [], 0), (29, .iload_n 2, 30, [], 0), (30, .isub, 31, [], 0), (31, .invokestatic 112, 34, [], 0), (34, .aload_n 1, 35, [], 0), (35, .aload_n 0, 36, [], 0), (36, .iload_n 3, 37, [], 0), (37, .dup_x1, 38, [], 0), (38, .putfield 48, 41, [], 0), (41, .aconst_null, 42, [], 0), (42, .aastore, 43, [], 0), (43, .return_, 44, [], 0)]
theorem k_AL_fastRemove_1 : i_AL_fastRemove_1.all (px_okb prog_17_method_39_code) = true := by decide +kernel
def m_AL_fastRemove : px_M := (⟨"java/util/ArrayList", "fastRemove", "([Ljava/lang/Object;I)V"⟩, prog_17_method_39_code, 4, (Option.none : Option Jvm.ClassFile.FieldType), i_AL_fastRemove_0 ++ (i_AL_fastRemove_1))
theorem g_AL_fastRemove : px_good m_AL_fastRemove := ⟨px_allapp k_AL_fastRemove_0 (k_AL_fastRemove_1), by decide +kernel, w_347, by exact Nat.le_of_ble_eq_true rfl⟩
def i_En_init_0 : List px_Rw := [(0, .aload_n 0, 1, [], 0), (1, .invokespecial 3, 4, [], 0), (4, .aload_n 0, 5, [], 0), (5, .iconst 1, 6, [], 1), (6, .putfield 9, 9, [], 0), (9, .aload_n 0, 10, [], 0), (10, .aload_n 1, 11, [], 0), (11, .putfield 15, 14, [], 0), (14, .aload_n 0, 15, [], 0), (15, .aload_n 2, 16, [], 0), (16, .putfield 19, 19, [], 0), (19, .aload_n 0, 20, [], 0), (20, .aload_n 2, 21, [], 0), (21, .putfield 23, 24, [], 0), (24, .return_, 25, [], 0)]
theorem k_En_init_0 : i_En_init_0.all (px_okb prog_3_method_1_code) = true := by decide +kernel
def m_En_init : px_M := (⟨"TroubleMemory$Entry", "<init>", "(LTroubleMemory$Code;LTroubleMemory$Snapshot;)V"⟩, prog_3_method_1_code, 3, (Option.none : Option Jvm.ClassFile.FieldType), i_En_init_0)
theorem g_En_init : px_good m_En_init := ⟨k_En_init_0, by decide +kernel, w_352, by exact Nat.le_of_ble_eq_true rfl⟩
def i_TM_cycle_0 : List px_Rw := [(0, .aload_n 0, 1, [], 0), (1, .getfield 20, 4, [], 0), (4, .ifCond .ne 6, 7, [10], 0), (7, .bipush (-3), 9, [], -3), (9, .ireturn, 10, [], 0), (10, .iconst 0, 11, [], 0), (11, .istore_n 2, 12, [], 0), (12, .iload_n 2, 13, [], 0), (13, .aload_n 0, 14, [], 0), (14, .getfield 12, 17, [], 0), (17, .invokevirtual 44, 20, [], 0), (20, .if_icmp .ge 25, 23, [45], 0), (23, .aload_n 0, 24, [], 0), (24, .aload_n 0, 25, [], 0), (25, .getfield 12, 28, [], 0), (28, .iload_n 2, 29, [], 0)]
theorem k_TM_cycle_0 : i_TM_cycle_0.all (px_okb prog_1_method_4_code) = true := by decide +kernel
def i_TM_cycle_1 : List px_Rw := [(29, .invokevirtual 88, 32, [], 0), (32, .checkcast 48, 35, [], 0), (35, .iload_n 1, 36, [], 0), (36, .invokevirtual 92, 39, [], 0), (39, .iinc 2 1, 42, [], 1), (42, .goto (-30), 45, [12], 0), (45, .iconst 0, 46, [], 0), (46, .istore_n 2, 47, [], 0), (47, .iload_n 2, 48, [], 0), (48, .aload_n 0, 49, [], 0), (49, .getfield 12, 52, [], 0), (52, .invokevirtual 44, 55, [], 0), (55, .if_icmp .ge 39, 58, [94], 0), (58, .aload_n 0, 59, [], 0), (59, .getfield 12, 62, [], 0), (62, .iload_n 2, 63, [], 0)]
theorem k_TM_cycle_1 : i_TM_cycle_1.all (px_okb prog_1_method_4_code) = true := by decide +kernel
def i_TM_cycle_2 : List px_Rw := [(63, .invokevirtual 88, 66, [], 0), (66, .checkcast 48, 69, [], 0), (69, .astore_n 3, 70, [], 0), (70, .aload_n 3, 71, [], 0), (71, .getfield 79, 74, [], 0), (74, .invokevirtual 96, 77, [], 0), (77, .aload_n 3, 78, [], 0), (78, .getfield 99, 81, [], 0), (81, .aload_n 3, 82, [], 0), (82, .getfield 79, 85, [], 0), (85, .invokevirtual 102, 88, [], 0), (88, .iinc 2 1, 91, [], 1), (91, .goto (-44), 94, [47], 0), (94, .aload_n 0, 95, [], 0), (95, .dup, 96, [], 0), (96, .getfield 24, 99, [], 0)]
theorem k_TM_cycle_2 : i_TM_cycle_2.all (px_okb prog_1_method_4_code) = true := by decide +kernel
def i_TM_cycle_3 : List px_Rw := [(99, .iconst 1, 100, [], 1), (100, .iadd, 101, [], 0), (101, .putfield 24, 104, [], 0), (104, .aload_n 0, 105, [], 0), (105, .getfield 24, 108, [], 0), (108, .ireturn, 109, [], 0)]
theorem k_TM_cycle_3 : i_TM_cycle_3.all (px_okb prog_1_method_4_code) = true := by decide +kernel
def m_TM_cycle : px_M := (⟨"TroubleMemory", "cycle", "(Z)I"⟩, prog_1_method_4_code, 4, (Option.some Jvm.ClassFile.FieldType.int), i_TM_cycle_0 ++ (i_TM_cycle_1 ++ (i_TM_cycle_2 ++ (i_TM_cycle_3))))
theorem g_TM_cycle : px_good m_TM_cycle := ⟨px_allapp k_TM_cycle_0 (px_allapp k_TM_cycle_1 (px_allapp k_TM_cycle_2 (k_TM_cycle_3))), by decide +kernel, w_375, by exact Nat.le_of_ble_eq_true rfl⟩
def i_TM_endCycle_0 : List px_Rw := [(0, .aload_n 1, 1, [], 0), (1, .getfield 79, 4, [], 0), (4, .invokevirtual 198, 7, [], 0), (7, .ifCond .ne 4, 10, [11], 0), (10, .return_, 11, [], 0), (11, .aload_n 1, 12, [], 0), (12, .getfield 79, 15, [], 0), (15, .invokevirtual 201, 18, [], 0), (18, .iload_n 2, 19, [], 0), (19, .ifCond .eq 53, 22, [72], 0), (22, .aload_n 1, 23, [], 0), (23, .getfield 79, 26, [], 0), (26, .invokevirtual 204, 29, [], 0), (29, .ifCond .eq 43, 32, [72], 0), (32, .aload_n 1, 33, [], 0), (33, .getfield 79, 36, [], 0)]
theorem k_TM_endCycle_0 : i_TM_endCycle_0.all (px_okb prog_1_method_22_code) = true := by decide +kernel
def i_TM_endCycle_1 : List px_Rw := [(36, .dup, 37, [], 0), (37, .getfield 170, 40, [], 0), (40, .iconst 1, 41, [], 1), (41, .iadd, 42, [], 0), (42, .putfield 170, 45, [], 0), (45, .aload_n 1, 46, [], 0), (46, .getfield 79, 49, [], 0), (49, .getfield 170, 52, [], 0), (52, .bipush 40, 54, [], 40), (54, .if_icmp .lt 18, 57, [72], 0), (57, .aload_n 1, 58, [], 0), (58, .getfield 79, 61, [], 0), (61, .invokevirtual 207, 64, [], 0), (64, .aload_n 0, 65, [], 0), (65, .getfield 40, 68, [], 0), (68, .aload_n 1, 69, [], 0)]
theorem k_TM_endCycle_1 : i_TM_endCycle_1.all (px_okb prog_1_method_22_code) = true := by decide +kernel
def i_TM_endCycle_2 : List px_Rw := [(69, .invokevirtual 130, 72, [], 0), (72, .return_, 73, [], 0)]
theorem k_TM_endCycle_2 : i_TM_endCycle_2.all (px_okb prog_1_method_22_code) = true := by decide +kernel
def m_TM_endCycle : px_M := (⟨"TroubleMemory", "endCycle", "(LTroubleMemory$Code;Z)V"⟩, prog_1_method_22_code, 3, (Option.none : Option Jvm.ClassFile.FieldType), i_TM_endCycle_0 ++ (i_TM_endCycle_1 ++ (i_TM_endCycle_2)))
theorem g_TM_endCycle : px_good m_TM_endCycle := ⟨px_allapp k_TM_endCycle_0 (px_allapp k_TM_endCycle_1 (k_TM_endCycle_2)), by decide +kernel, w_379, by exact Nat.le_of_ble_eq_true rfl⟩
def i_Sg_wasOnlyGood_0 : List px_Rw := [(0, .aload_n 0, 1, [], 0), (1, .iconst 2, 2, [], 2), (2, .invokevirtual 24, 5, [], 0), (5, .ifCond .ne 16, 8, [21], 0), (8, .aload_n 0, 9, [], 0), (9, .bipush 64, 11, [], 64), (11, .invokevirtual 24, 14, [], 0), (14, .ifCond .ne 7, 17, [21], 0), (17, .iconst 1, 18, [], 1), (18, .goto 4, 21, [22], 0), (21, .iconst 0, 22, [], 0), (22, .ireturn, 23, [], 0)]
theorem k_Sg_wasOnlyGood_0 : i_Sg_wasOnlyGood_0.all (px_okb prog_6_method_7_code) = true := by decide +kernel
def m_Sg_wasOnlyGood : px_M := (⟨"TroubleMemory$Standing", "wasOnlyGood", "()Z"⟩, prog_6_method_7_code, 1, (Option.some Jvm.ClassFile.FieldType.boolean), i_Sg_wasOnlyGood_0)
theorem g_Sg_wasOnlyGood : px_good m_Sg_wasOnlyGood := ⟨k_Sg_wasOnlyGood_0, by decide +kernel, w_383, by exact Nat.le_of_ble_eq_true rfl⟩
def i_Sg_addGoodCycle_0 : List px_Rw := [(0, .aload_n 0, 1, [], 0), (1, .dup, 2, [], 0), (2, .getfield 9, 5, [], 0), (5, .bipush (-5), 7, [], -5), (7, .iand, 8, [], 0), (8, .putfield 9, 11, [], 0), (11, .aload_n 0, 12, [], 0), (12, .bipush 8, 14, [], 8), (14, .invokevirtual 24, 17, [], 0), (17, .ifCond .ne 8, 20, [25], 0), (20, .aload_n 0, 21, [], 0), (21, .iconst 0, 22, [], 0), (22, .putfield 15, 25, [], 0), (25, .aload_n 0, 26, [], 0), (26, .aload_n 0, 27, [], 0), (27, .getfield 21, 30, [], 0)]
theorem k_Sg_addGoodCycle_0 : i_Sg_addGoodCycle_0.all (px_okb prog_6_method_8_code) = true := by decide +kernel
def i_Sg_addGoodCycle_1 : List px_Rw := [(30, .iconst 1, 31, [], 1), (31, .iadd, 32, [], 0), (32, .sipush 255, 35, [], 255), (35, .invokestatic 28, 38, [], 0), (38, .putfield 21, 41, [], 0), (41, .aload_n 0, 42, [], 0), (42, .getfield 21, 45, [], 0), (45, .iconst 3, 46, [], 3), (46, .if_icmp .lt 15, 49, [61], 0), (49, .aload_n 0, 50, [], 0), (50, .dup, 51, [], 0), (51, .getfield 9, 54, [], 0), (54, .sipush (-129), 57, [], -129), (57, .iand, 58, [], 0), (58, .putfield 9, 61, [], 0), (61, .return_, 62, [], 0)]
theorem k_Sg_addGoodCycle_1 : i_Sg_addGoodCycle_1.all (px_okb prog_6_method_8_code) = true := by decide +kernel
def m_Sg_addGoodCycle : px_M := (⟨"TroubleMemory$Standing", "addGoodCycle", "()V"⟩, prog_6_method_8_code, 1, (Option.none : Option Jvm.ClassFile.FieldType), i_Sg_addGoodCycle_0 ++ (i_Sg_addGoodCycle_1))
theorem g_Sg_addGoodCycle : px_good m_Sg_addGoodCycle := ⟨px_allapp k_Sg_addGoodCycle_0 (k_Sg_addGoodCycle_1), by decide +kernel, w_387, by exact Nat.le_of_ble_eq_true rfl⟩
def i_Sg_ages_0 : List px_Rw := [(0, .aload_n 0, 1, [], 0), (1, .bipush 8, 3, [], 8), (3, .invokevirtual 24, 6, [], 0), (6, .ifCond .eq 15, 9, [21], 0), (9, .aload_n 0, 10, [], 0), (10, .iconst 1, 11, [], 1), (11, .invokevirtual 24, 14, [], 0), (14, .ifCond .ne 7, 17, [21], 0), (17, .iconst 1, 18, [], 1), (18, .goto 4, 21, [22], 0), (21, .iconst 0, 22, [], 0), (22, .ireturn, 23, [], 0)]
theorem k_Sg_ages_0 : i_Sg_ages_0.all (px_okb prog_6_method_9_code) = true := by decide +kernel
def m_Sg_ages : px_M := (⟨"TroubleMemory$Standing", "ages", "()Z"⟩, prog_6_method_9_code, 1, (Option.some Jvm.ClassFile.FieldType.boolean), i_Sg_ages_0)
theorem g_Sg_ages : px_good m_Sg_ages := ⟨k_Sg_ages_0, by decide +kernel, w_391, by exact Nat.le_of_ble_eq_true rfl⟩
def i_Sg_heal_0 : List px_Rw := [(0, .aload_n 0, 1, [], 0), (1, .dup, 2, [], 0), (2, .getfield 9, 5, [], 0), (5, .bipush (-9), 7, [], -9), (7, .iand, 8, [], 0), (8, .putfield 9, 11, [], 0), (11, .aload_n 0, 12, [], 0), (12, .iconst 0, 13, [], 0), (13, .putfield 15, 16, [], 0), (16, .aload_n 0, 17, [], 0), (17, .iconst 0, 18, [], 0), (18, .putfield 18, 21, [], 0), (21, .aload_n 0, 22, [], 0), (22, .iconst 0, 23, [], 0), (23, .putfield 21, 26, [], 0), (26, .return_, 27, [], 0)]
theorem k_Sg_heal_0 : i_Sg_heal_0.all (px_okb prog_6_method_10_code) = true := by decide +kernel
def m_Sg_heal : px_M := (⟨"TroubleMemory$Standing", "heal", "()V"⟩, prog_6_method_10_code, 1, (Option.none : Option Jvm.ClassFile.FieldType), i_Sg_heal_0)
theorem g_Sg_heal : px_good m_Sg_heal := ⟨k_Sg_heal_0, by decide +kernel, w_395, by exact Nat.le_of_ble_eq_true rfl⟩
def i_Sg_beginCycle_0 : List px_Rw := [(0, .aload_n 0, 1, [], 0), (1, .dup, 2, [], 0), (2, .getfield 9, 5, [], 0), (5, .bipush (-3), 7, [], -3), (7, .iand, 8, [], 0), (8, .putfield 9, 11, [], 0), (11, .aload_n 0, 12, [], 0), (12, .dup, 13, [], 0), (13, .getfield 9, 16, [], 0), (16, .bipush 64, 18, [], 64), (18, .ior, 19, [], 0), (19, .putfield 9, 22, [], 0), (22, .return_, 23, [], 0)]
theorem k_Sg_beginCycle_0 : i_Sg_beginCycle_0.all (px_okb prog_6_method_11_code) = true := by decide +kernel
def m_Sg_beginCycle : px_M := (⟨"TroubleMemory$Standing", "beginCycle", "()V"⟩, prog_6_method_11_code, 1, (Option.none : Option Jvm.ClassFile.FieldType), i_Sg_beginCycle_0)
theorem g_Sg_beginCycle : px_good m_Sg_beginCycle := ⟨k_Sg_beginCycle_0, by decide +kernel, w_400, by exact Nat.le_of_ble_eq_true rfl⟩
def i_Sg_copyFrom_0 : List px_Rw := [(0, .aload_n 0, 1, [], 0), (1, .aload_n 1, 2, [], 0), (2, .getfield 9, 5, [], 0), (5, .putfield 9, 8, [], 0), (8, .aload_n 0, 9, [], 0), (9, .aload_n 1, 10, [], 0), (10, .getfield 15, 13, [], 0), (13, .putfield 15, 16, [], 0), (16, .aload_n 0, 17, [], 0), (17, .aload_n 1, 18, [], 0), (18, .getfield 18, 21, [], 0), (21, .putfield 18, 24, [], 0), (24, .aload_n 0, 25, [], 0), (25, .aload_n 1, 26, [], 0), (26, .getfield 21, 29, [], 0), (29, .putfield 21, 32, [], 0)]
theorem k_Sg_copyFrom_0 : i_Sg_copyFrom_0.all (px_okb prog_6_method_3_code) = true := by decide +kernel
def i_Sg_copyFrom_1 : List px_Rw := [(32, .return_, 33, [], 0)]
theorem k_Sg_copyFrom_1 : i_Sg_copyFrom_1.all (px_okb prog_6_method_3_code) = true := by decide +kernel
def m_Sg_copyFrom : px_M := (⟨"TroubleMemory$Standing", "copyFrom", "(LTroubleMemory$Standing;)V"⟩, prog_6_method_3_code, 2, (Option.none : Option Jvm.ClassFile.FieldType), i_Sg_copyFrom_0 ++ (i_Sg_copyFrom_1))
theorem g_Sg_copyFrom : px_good m_Sg_copyFrom := ⟨px_allapp k_Sg_copyFrom_0 (k_Sg_copyFrom_1), by decide +kernel, w_404, by exact Nat.le_of_ble_eq_true rfl⟩
def i_TM_status_0 : List px_Rw := [(0, .aload_n 0, 1, [], 0), (1, .iload_n 1, 2, [], 0), (2, .invokevirtual 60, 5, [], 0), (5, .astore_n 2, 6, [], 0), (6, .aload_n 2, 7, [], 0), (7, .ifnonnull 7, 10, [14], 0), (10, .iconst (-1), 11, [], -1), (11, .goto 10, 14, [21], 0), (14, .aload_n 2, 15, [], 0), (15, .getfield 79, 18, [], 0), (18, .getfield 83, 21, [], 0), (21, .ireturn, 22, [], 0)]
theorem k_TM_status_0 : i_TM_status_0.all (px_okb prog_1_method_5_code) = true := by decide +kernel
def m_TM_status : px_M := (⟨"TroubleMemory", "status", "(I)I"⟩, prog_1_method_5_code, 3, (Option.some Jvm.ClassFile.FieldType.int), i_TM_status_0)
theorem g_TM_status : px_good m_TM_status := ⟨k_TM_status_0, by decide +kernel, w_408, by exact Nat.le_of_ble_eq_true rfl⟩
def i_TM_snapshot_0 : List px_Rw := [(0, .aload_n 0, 1, [], 0), (1, .iload_n 1, 2, [], 0), (2, .invokevirtual 60, 5, [], 0), (5, .astore 4, 7, [], 0), (7, .aload 4, 9, [], 0), (9, .ifnull 11, 12, [20], 0), (12, .aload 4, 14, [], 0), (14, .getfield 106, 17, [], 0), (17, .ifnonnull 5, 20, [22], 0), (20, .iconst (-1), 21, [], -1), (21, .ireturn, 22, [], 0), (22, .iload_n 2, 23, [], 0), (23, .iconst 0, 24, [], 0), (24, .iconst 1, 25, [], 1), (25, .invokestatic 33, 28, [], 0), (28, .ifCond .eq 12, 31, [40], 0)]
theorem k_TM_snapshot_0 : i_TM_snapshot_0.all (px_okb prog_1_method_6_code) = true := by decide +kernel
def i_TM_snapshot_1 : List px_Rw := [(31, .iload_n 3, 32, [], 0), (32, .iconst 0, 33, [], 0), (33, .iconst 3, 34, [], 3), (34, .invokestatic 33, 37, [], 0), (37, .ifCond .ne 6, 40, [43], 0), (40, .bipush (-2), 42, [], -2), (42, .ireturn, 43, [], 0), (43, .iload_n 2, 44, [], 0), (44, .ifCond .ne 14, 47, [58], 0), (47, .aload 4, 49, [], 0), (49, .getfield 106, 52, [], 0), (52, .getfield 110, 55, [], 0), (55, .goto 11, 58, [66], 0), (58, .aload 4, 60, [], 0), (60, .getfield 106, 63, [], 0), (63, .getfield 116, 66, [], 0)]
theorem k_TM_snapshot_1 : i_TM_snapshot_1.all (px_okb prog_1_method_6_code) = true := by decide +kernel
def i_TM_snapshot_2 : List px_Rw := [(66, .astore 5, 68, [], 0), (68, .aload 5, 70, [], 0), (70, .iload_n 3, 71, [], 0), (71, .invokevirtual 119, 74, [], 0), (74, .ireturn, 75, [], 0)]
theorem k_TM_snapshot_2 : i_TM_snapshot_2.all (px_okb prog_1_method_6_code) = true := by decide +kernel
def m_TM_snapshot : px_M := (⟨"TroubleMemory", "snapshot", "(III)I"⟩, prog_1_method_6_code, 6, (Option.some Jvm.ClassFile.FieldType.int), i_TM_snapshot_0 ++ (i_TM_snapshot_1 ++ (i_TM_snapshot_2)))
theorem g_TM_snapshot : px_good m_TM_snapshot := ⟨px_allapp k_TM_snapshot_0 (px_allapp k_TM_snapshot_1 (k_TM_snapshot_2)), by decide +kernel, w_412, by exact Nat.le_of_ble_eq_true rfl⟩
def i_Sn_number_0 : List px_Rw := [(0, .iload_n 1, 1, [], 0), (1, .tableswitch 42 0 2 #[27, 32, 37], 28, [43, 28, 33, 38], 0), (28, .aload_n 0, 29, [], 0), (29, .getfield 7, 32, [], 0), (32, .ireturn, 33, [], 0), (33, .aload_n 0, 34, [], 0), (34, .getfield 13, 37, [], 0), (37, .ireturn, 38, [], 0), (38, .aload_n 0, 39, [], 0), (39, .getfield 16, 42, [], 0), (42, .ireturn, 43, [], 0), (43, .aload_n 0, 44, [], 0), (44, .getfield 19, 47, [], 0), (47, .ireturn, 48, [], 0)]
theorem k_Sn_number_0 : i_Sn_number_0.all (px_okb prog_5_method_2_code) = true := by decide +kernel
def m_Sn_number : px_M := (⟨"TroubleMemory$Snapshot", "number", "(I)I"⟩, prog_5_method_2_code, 2, (Option.some Jvm.ClassFile.FieldType.int), i_Sn_number_0)
theorem g_Sn_number : px_good m_Sn_number := ⟨k_Sn_number_0, by decide +kernel, w_416, by exact Nat.le_of_ble_eq_true rfl⟩
def i_TM_clear_0 : List px_Rw := [(0, .iload_n 1, 1, [], 0), (1, .iconst 0, 2, [], 0), (2, .bipush 8, 4, [], 8), (4, .invokestatic 33, 7, [], 0), (7, .ifCond .ne 6, 10, [13], 0), (10, .bipush (-2), 12, [], -2), (12, .ireturn, 13, [], 0), (13, .aload_n 0, 14, [], 0), (14, .getfield 20, 17, [], 0), (17, .ifCond .eq 12, 20, [29], 0), (20, .aload_n 0, 21, [], 0), (21, .bipush 31, 23, [], 31), (23, .invokevirtual 67, 26, [], 0), (26, .ifCond .ne 6, 29, [32], 0), (29, .bipush (-3), 31, [], -3), (31, .ireturn, 32, [], 0)]
theorem k_TM_clear_0 : i_TM_clear_0.all (px_okb prog_1_method_7_code) = true := by decide +kernel
def i_TM_clear_1 : List px_Rw := [(32, .iconst 0, 33, [], 0), (33, .istore_n 2, 34, [], 0), (34, .iconst 0, 35, [], 0), (35, .istore_n 3, 36, [], 0), (36, .iload_n 3, 37, [], 0), (37, .aload_n 0, 38, [], 0), (38, .getfield 12, 41, [], 0), (41, .invokevirtual 44, 44, [], 0), (44, .if_icmp .ge 52, 47, [96], 0), (47, .aload_n 0, 48, [], 0), (48, .getfield 12, 51, [], 0), (51, .iload_n 3, 52, [], 0), (52, .invokevirtual 88, 55, [], 0), (55, .checkcast 48, 58, [], 0), (58, .astore 4, 60, [], 0), (60, .iload_n 1, 61, [], 0)]
theorem k_TM_clear_1 : i_TM_clear_1.all (px_okb prog_1_method_7_code) = true := by decide +kernel
def i_TM_clear_2 : List px_Rw := [(61, .ifCond .eq 12, 64, [73], 0), (64, .aload 4, 66, [], 0), (66, .invokevirtual 124, 69, [], 0), (69, .iload_n 1, 70, [], 0), (70, .if_icmp .ne 20, 73, [90], 0), (73, .aload 4, 75, [], 0), (75, .invokevirtual 127, 78, [], 0), (78, .aload_n 0, 79, [], 0), (79, .getfield 40, 82, [], 0), (82, .aload 4, 84, [], 0), (84, .invokevirtual 130, 87, [], 0), (87, .iinc 2 1, 90, [], 1), (90, .iinc 3 1, 93, [], 1), (93, .goto (-57), 96, [36], 0), (96, .iload_n 2, 97, [], 0), (97, .ireturn, 98, [], 0)]
theorem k_TM_clear_2 : i_TM_clear_2.all (px_okb prog_1_method_7_code) = true := by decide +kernel
def m_TM_clear : px_M := (⟨"TroubleMemory", "clear", "(I)I"⟩, prog_1_method_7_code, 5, (Option.some Jvm.ClassFile.FieldType.int), i_TM_clear_0 ++ (i_TM_clear_1 ++ (i_TM_clear_2)))
theorem g_TM_clear : px_good m_TM_clear := ⟨px_allapp k_TM_clear_0 (px_allapp k_TM_clear_1 (k_TM_clear_2)), by decide +kernel, w_420, by exact Nat.le_of_ble_eq_true rfl⟩
def i_Cd_group_0 : List px_Rw := [(0, .iconst 1, 1, [], 1), (1, .aload_n 0, 2, [], 0), (2, .getfield 36, 5, [], 0), (5, .iconst 1, 6, [], 1), (6, .isub, 7, [], 0), (7, .bipush 32, 9, [], 32), (9, .idiv, 10, [], 0), (10, .iadd, 11, [], 0), (11, .ireturn, 12, [], 0)]
theorem k_Cd_group_0 : i_Cd_group_0.all (px_okb prog_2_method_2_code) = true := by decide +kernel
def m_Cd_group : px_M := (⟨"TroubleMemory$Code", "group", "()I"⟩, prog_2_method_2_code, 1, (Option.some Jvm.ClassFile.FieldType.int), i_Cd_group_0)
theorem g_Cd_group : px_good m_Cd_group := ⟨k_Cd_group_0, by decide +kernel, w_424, by exact Nat.le_of_ble_eq_true rfl⟩
def i_Cd_forget_0 : List px_Rw := [(0, .aload_n 0, 1, [], 0), (1, .getfield 12, 4, [], 0), (4, .invokevirtual 54, 7, [], 0), (7, .aload_n 0, 8, [], 0), (8, .getfield 18, 11, [], 0), (11, .invokevirtual 54, 14, [], 0), (14, .aload_n 0, 15, [], 0), (15, .iconst 0, 16, [], 0), (16, .putfield 21, 19, [], 0), (19, .return_, 20, [], 0)]
theorem k_Cd_forget_0 : i_Cd_forget_0.all (px_okb prog_2_method_5_code) = true := by decide +kernel
def m_Cd_forget : px_M := (⟨"TroubleMemory$Code", "forget", "()V"⟩, prog_2_method_5_code, 1, (Option.none : Option Jvm.ClassFile.FieldType), i_Cd_forget_0)
theorem g_Cd_forget : px_good m_Cd_forget := ⟨k_Cd_forget_0, by decide +kernel, w_428, by exact Nat.le_of_ble_eq_true rfl⟩
def i_Sg_reset_0 : List px_Rw := [(0, .aload_n 0, 1, [], 0), (1, .bipush 80, 3, [], 80), (3, .putfield 9, 6, [], 0), (6, .aload_n 0, 7, [], 0), (7, .iconst 0, 8, [], 0), (8, .putfield 15, 11, [], 0), (11, .aload_n 0, 12, [], 0), (12, .iconst 0, 13, [], 0), (13, .putfield 18, 16, [], 0), (16, .aload_n 0, 17, [], 0), (17, .iconst 0, 18, [], 0), (18, .putfield 21, 21, [], 0), (21, .return_, 22, [], 0)]
theorem k_Sg_reset_0 : i_Sg_reset_0.all (px_okb prog_6_method_4_code) = true := by decide +kernel
def m_Sg_reset : px_M := (⟨"TroubleMemory$Standing", "reset", "()V"⟩, prog_6_method_4_code, 1, (Option.none : Option Jvm.ClassFile.FieldType), i_Sg_reset_0)
theorem g_Sg_reset : px_good m_Sg_reset := ⟨k_Sg_reset_0, by decide +kernel, w_432, by exact Nat.le_of_ble_eq_true rfl⟩
def i_TM_parent_0 : List px_Rw := [(0, .aload_n 0, 1, [], 0), (1, .iload_n 1, 2, [], 0), (2, .invokevirtual 60, 5, [], 0), (5, .astore_n 3, 6, [], 0), (6, .aload_n 0, 7, [], 0), (7, .iload_n 2, 8, [], 0), (8, .invokevirtual 60, 11, [], 0), (11, .astore 4, 13, [], 0), (13, .aload_n 3, 14, [], 0), (14, .ifnull 12, 17, [26], 0), (17, .aload 4, 19, [], 0), (19, .ifnonnull 9, 22, [28], 0), (22, .iload_n 2, 23, [], 0), (23, .ifCond .eq 5, 26, [28], 0), (26, .iconst (-1), 27, [], -1), (27, .ireturn, 28, [], 0)]
theorem k_TM_parent_0 : i_TM_parent_0.all (px_okb prog_1_method_8_code) = true := by decide +kernel
def i_TM_parent_1 : List px_Rw := [(28, .aload_n 3, 29, [], 0), (29, .aload 4, 31, [], 0), (31, .if_acmp .ne 6, 34, [37], 0), (34, .bipush (-2), 36, [], -2), (36, .ireturn, 37, [], 0), (37, .aload_n 0, 38, [], 0), (38, .getfield 20, 41, [], 0), (41, .ifCond .eq 17, 44, [58], 0), (44, .aload 4, 46, [], 0), (46, .ifnull 15, 49, [61], 0), (49, .aload 4, 51, [], 0), (51, .aload_n 3, 52, [], 0), (52, .invokevirtual 133, 55, [], 0), (55, .ifCond .eq 6, 58, [61], 0), (58, .bipush (-3), 60, [], -3), (60, .ireturn, 61, [], 0)]
theorem k_TM_parent_1 : i_TM_parent_1.all (px_okb prog_1_method_8_code) = true := by decide +kernel
def i_TM_parent_2 : List px_Rw := [(61, .aload_n 3, 62, [], 0), (62, .aload 4, 64, [], 0), (64, .putfield 137, 67, [], 0), (67, .aload_n 3, 68, [], 0), (68, .invokevirtual 141, 71, [], 0), (71, .ireturn, 72, [], 0)]
theorem k_TM_parent_2 : i_TM_parent_2.all (px_okb prog_1_method_8_code) = true := by decide +kernel
def m_TM_parent : px_M := (⟨"TroubleMemory", "parent", "(II)I"⟩, prog_1_method_8_code, 5, (Option.some Jvm.ClassFile.FieldType.int), i_TM_parent_0 ++ (i_TM_parent_1 ++ (i_TM_parent_2)))
theorem g_TM_parent : px_good m_TM_parent := ⟨px_allapp k_TM_parent_0 (px_allapp k_TM_parent_1 (k_TM_parent_2)), by decide +kernel, w_436, by exact Nat.le_of_ble_eq_true rfl⟩
def i_Cd_isBelow_0 : List px_Rw := [(0, .aload_n 0, 1, [], 0), (1, .getfield 25, 4, [], 0), (4, .astore_n 2, 5, [], 0), (5, .iconst 0, 6, [], 0), (6, .istore_n 3, 7, [], 0), (7, .iload_n 3, 8, [], 0), (8, .sipush 200, 11, [], 200), (11, .if_icmp .ge 25, 14, [36], 0), (14, .aload_n 2, 15, [], 0), (15, .ifnull 21, 18, [36], 0), (18, .aload_n 2, 19, [], 0), (19, .aload_n 1, 20, [], 0), (20, .if_acmp .ne 5, 23, [25], 0), (23, .iconst 1, 24, [], 1), (24, .ireturn, 25, [], 0), (25, .aload_n 2, 26, [], 0)]
theorem k_Cd_isBelow_0 : i_Cd_isBelow_0.all (px_okb prog_2_method_7_code) = true := by decide +kernel
def i_Cd_isBelow_1 : List px_Rw := [(26, .getfield 25, 29, [], 0), (29, .astore_n 2, 30, [], 0), (30, .iinc 3 1, 33, [], 1), (33, .goto (-26), 36, [7], 0), (36, .iconst 0, 37, [], 0), (37, .ireturn, 38, [], 0)]
theorem k_Cd_isBelow_1 : i_Cd_isBelow_1.all (px_okb prog_2_method_7_code) = true := by decide +kernel
def m_Cd_isBelow : px_M := (⟨"TroubleMemory$Code", "isBelow", "(LTroubleMemory$Code;)Z"⟩, prog_2_method_7_code, 4, (Option.some Jvm.ClassFile.FieldType.boolean), i_Cd_isBelow_0 ++ (i_Cd_isBelow_1))
theorem g_Cd_isBelow : px_good m_Cd_isBelow := ⟨px_allapp k_Cd_isBelow_0 (k_Cd_isBelow_1), by decide +kernel, w_440, by exact Nat.le_of_ble_eq_true rfl⟩
def i_Cd_countAbove_0 : List px_Rw := [(0, .iconst 0, 1, [], 0), (1, .istore_n 1, 2, [], 0), (2, .aload_n 0, 3, [], 0), (3, .getfield 25, 6, [], 0), (6, .astore_n 2, 7, [], 0), (7, .aload_n 2, 8, [], 0), (8, .ifnull 21, 11, [29], 0), (11, .iload_n 1, 12, [], 0), (12, .sipush 200, 15, [], 200), (15, .if_icmp .ge 14, 18, [29], 0), (18, .iinc 1 1, 21, [], 1), (21, .aload_n 2, 22, [], 0), (22, .getfield 25, 25, [], 0), (25, .astore_n 2, 26, [], 0), (26, .goto (-19), 29, [7], 0), (29, .iload_n 1, 30, [], 0)]
theorem k_Cd_countAbove_0 : i_Cd_countAbove_0.all (px_okb prog_2_method_6_code) = true := by decide +kernel
def i_Cd_countAbove_1 : List px_Rw := [(30, .ireturn, 31, [], 0)]
theorem k_Cd_countAbove_1 : i_Cd_countAbove_1.all (px_okb prog_2_method_6_code) = true := by decide +kernel
def m_Cd_countAbove : px_M := (⟨"TroubleMemory$Code", "countAbove", "()I"⟩, prog_2_method_6_code, 3, (Option.some Jvm.ClassFile.FieldType.int), i_Cd_countAbove_0 ++ (i_Cd_countAbove_1))
theorem g_Cd_countAbove : px_good m_Cd_countAbove := ⟨px_allapp k_Cd_countAbove_0 (k_Cd_countAbove_1), by decide +kernel, w_444, by exact Nat.le_of_ble_eq_true rfl⟩
def i_TM_enable_0 : List px_Rw := [(0, .iload_n 1, 1, [], 0), (1, .iconst 0, 2, [], 0), (2, .bipush 31, 4, [], 31), (4, .invokestatic 33, 7, [], 0), (7, .ifCond .ne 5, 10, [12], 0), (10, .iconst (-1), 11, [], -1), (11, .ireturn, 12, [], 0), (12, .aload_n 0, 13, [], 0), (13, .getfield 20, 16, [], 0), (16, .ifCond .ne 6, 19, [22], 0), (19, .bipush (-3), 21, [], -3), (21, .ireturn, 22, [], 0), (22, .iconst 1, 23, [], 1), (23, .iload_n 1, 24, [], 0), (24, .ishl, 25, [], 0), (25, .istore_n 3, 26, [], 0)]
theorem k_TM_enable_0 : i_TM_enable_0.all (px_okb prog_1_method_9_code) = true := by decide +kernel
def i_TM_enable_1 : List px_Rw := [(26, .aload_n 0, 27, [], 0), (27, .iload_n 2, 28, [], 0), (28, .ifCond .eq 12, 31, [40], 0), (31, .aload_n 0, 32, [], 0), (32, .getfield 16, 35, [], 0), (35, .iload_n 3, 36, [], 0), (36, .ior, 37, [], 0), (37, .goto 11, 40, [48], 0), (40, .aload_n 0, 41, [], 0), (41, .getfield 16, 44, [], 0), (44, .iload_n 3, 45, [], 0), (45, .iconst (-1), 46, [], -1), (46, .ixor, 47, [], 0), (47, .iand, 48, [], 0), (48, .putfield 16, 51, [], 0), (51, .aload_n 0, 52, [], 0)]
theorem k_TM_enable_1 : i_TM_enable_1.all (px_okb prog_1_method_9_code) = true := by decide +kernel
def i_TM_enable_2 : List px_Rw := [(52, .getfield 16, 55, [], 0), (55, .invokestatic 144, 58, [], 0), (58, .ireturn, 59, [], 0)]
theorem k_TM_enable_2 : i_TM_enable_2.all (px_okb prog_1_method_9_code) = true := by decide +kernel
def m_TM_enable : px_M := (⟨"TroubleMemory", "enable", "(IZ)I"⟩, prog_1_method_9_code, 4, (Option.some Jvm.ClassFile.FieldType.int), i_TM_enable_0 ++ (i_TM_enable_1 ++ (i_TM_enable_2)))
theorem g_TM_enable : px_good m_TM_enable := ⟨px_allapp k_TM_enable_0 (px_allapp k_TM_enable_1 (k_TM_enable_2)), by decide +kernel, w_448, by exact Nat.le_of_ble_eq_true rfl⟩
def i_Itg_bitCount_0 : List px_Rw := [(0, .iload_n 0, 1, [], 0), (1, .iload_n 0, 2, [], 0), (2, .iconst 1, 3, [], 1), (3, .iushr, 4, [], 0), (4, .ldc_w 265, 7, [], 0), (7, .iand, 8, [], 0), (8, .isub, 9, [], 0), (9, .istore_n 0, 10, [], 0), (10, .iload_n 0, 11, [], 0), (11, .ldc_w 266, 14, [], 0), (14, .iand, 15, [], 0), (15, .iload_n 0, 16, [], 0), (16, .iconst 2, 17, [], 2), (17, .iushr, 18, [], 0), (18, .ldc_w 266, 21, [], 0), (21, .iand, 22, [], 0)]
theorem k_Itg_bitCount_0 : i_Itg_bitCount_0.all (px_okb prog_11_method_49_code) = true := by decide +kernel
def i_Itg_bitCount_1 : List px_Rw := [(22, .iadd, 23, [], 0), (23, .istore_n 0, 24, [], 0), (24, .iload_n 0, 25, [], 0), (25, .iload_n 0, 26, [], 0), (26, .iconst 4, 27, [], 4), (27, .iushr, 28, [], 0), (28, .iadd, 29, [], 0), (29, .ldc_w 267, 32, [], 0), (32, .iand, 33, [], 0), (33, .istore_n 0, 34, [], 0), (34, .iload_n 0, 35, [], 0), (35, .iload_n 0, 36, [], 0), (36, .bipush 8, 38, [], 8), (38, .iushr, 39, [], 0), (39, .iadd, 40, [], 0), (40, .istore_n 0, 41, [], 0)]
theorem k_Itg_bitCount_1 : i_Itg_bitCount_1.all (px_okb prog_11_method_49_code) = true := by decide +kernel
def i_Itg_bitCount_2 : List px_Rw := [(41, .iload_n 0, 42, [], 0), (42, .iload_n 0, 43, [], 0), (43, .bipush 16, 45, [], 16), (45, .iushr, 46, [], 0), (46, .iadd, 47, [], 0), (47, .istore_n 0, 48, [], 0), (48, .iload_n 0, 49, [], 0), (49, .bipush 63, 51, [], 63), (51, .iand, 52, [], 0), (52, .ireturn, 53, [], 0)]
theorem k_Itg_bitCount_2 : i_Itg_bitCount_2.all (px_okb prog_11_method_49_code) = true := by decide +kernel
def m_Itg_bitCount : px_M := (⟨"java/lang/Integer", "bitCount", "(I)I"⟩, prog_11_method_49_code, 1, (Option.some Jvm.ClassFile.FieldType.int), i_Itg_bitCount_0 ++ (i_Itg_bitCount_1 ++ (i_Itg_bitCount_2)))
theorem g_Itg_bitCount : px_good m_Itg_bitCount := ⟨px_allapp k_Itg_bitCount_0 (px_allapp k_Itg_bitCount_1 (k_Itg_bitCount_2)), by decide +kernel, w_451, by exact Nat.le_of_ble_eq_true rfl⟩
def i_TM_lamp_0 : List px_Rw := [(0, .iload_n 1, 1, [], 0), (1, .tableswitch 66 0 3 #[31, 47, 54, 60], 32, [67, 32, 48, 55, 61], 0), (32, .aload_n 0, 33, [], 0), (33, .sipush 128, 36, [], 128), (36, .invokevirtual 149, 39, [], 0), (39, .ifCond .le 7, 42, [46], 0), (42, .iconst 1, 43, [], 1), (43, .goto 4, 46, [47], 0), (46, .iconst 0, 47, [], 0), (47, .ireturn, 48, [], 0), (48, .aload_n 0, 49, [], 0), (49, .bipush 8, 51, [], 8), (51, .invokevirtual 149, 54, [], 0), (54, .ireturn, 55, [], 0), (55, .aload_n 0, 56, [], 0), (56, .iconst 4, 57, [], 4)]
theorem k_TM_lamp_0 : i_TM_lamp_0.all (px_okb prog_1_method_10_code) = true := by decide +kernel
def i_TM_lamp_1 : List px_Rw := [(57, .invokevirtual 149, 60, [], 0), (60, .ireturn, 61, [], 0), (61, .aload_n 0, 62, [], 0), (62, .iconst 1, 63, [], 1), (63, .invokevirtual 149, 66, [], 0), (66, .ireturn, 67, [], 0), (67, .bipush (-2), 69, [], -2), (69, .ireturn, 70, [], 0)]
theorem k_TM_lamp_1 : i_TM_lamp_1.all (px_okb prog_1_method_10_code) = true := by decide +kernel
def m_TM_lamp : px_M := (⟨"TroubleMemory", "lamp", "(I)I"⟩, prog_1_method_10_code, 2, (Option.some Jvm.ClassFile.FieldType.int), i_TM_lamp_0 ++ (i_TM_lamp_1))
theorem g_TM_lamp : px_good m_TM_lamp := ⟨px_allapp k_TM_lamp_0 (k_TM_lamp_1), by decide +kernel, w_458, by exact Nat.le_of_ble_eq_true rfl⟩
def i_TM_stored_0 : List px_Rw := [(0, .iload_n 1, 1, [], 0), (1, .iconst (-1), 2, [], -1), (2, .if_icmp .ne 18, 5, [20], 0), (5, .iload_n 2, 6, [], 0), (6, .ifCond .ne 14, 9, [20], 0), (9, .aload_n 0, 10, [], 0), (10, .getfield 40, 13, [], 0), (13, .getfield 152, 16, [], 0), (16, .invokevirtual 44, 19, [], 0), (19, .ireturn, 20, [], 0), (20, .iload_n 1, 21, [], 0), (21, .iconst 0, 22, [], 0), (22, .aload_n 0, 23, [], 0), (23, .getfield 40, 26, [], 0), (26, .getfield 152, 29, [], 0), (29, .invokevirtual 44, 32, [], 0)]
theorem k_TM_stored_0 : i_TM_stored_0.all (px_okb prog_1_method_11_code) = true := by decide +kernel
def i_TM_stored_1 : List px_Rw := [(32, .iconst 1, 33, [], 1), (33, .isub, 34, [], 0), (34, .invokestatic 33, 37, [], 0), (37, .ifCond .ne 5, 40, [42], 0), (40, .iconst (-1), 41, [], -1), (41, .ireturn, 42, [], 0), (42, .aload_n 0, 43, [], 0), (43, .getfield 40, 46, [], 0), (46, .getfield 152, 49, [], 0), (49, .iload_n 1, 50, [], 0), (50, .invokevirtual 88, 53, [], 0), (53, .checkcast 111, 56, [], 0), (56, .astore_n 3, 57, [], 0), (57, .iload_n 2, 58, [], 0), (58, .tableswitch 47 0 2 #[26, 34, 39], 84, [105, 84, 92, 97], 0), (84, .aload_n 3, 85, [], 0)]
theorem k_TM_stored_1 : i_TM_stored_1.all (px_okb prog_1_method_11_code) = true := by decide +kernel
def i_TM_stored_2 : List px_Rw := [(85, .getfield 155, 88, [], 0), (88, .getfield 57, 91, [], 0), (91, .ireturn, 92, [], 0), (92, .aload_n 3, 93, [], 0), (93, .getfield 158, 96, [], 0), (96, .ireturn, 97, [], 0), (97, .aload_n 3, 98, [], 0), (98, .getfield 155, 101, [], 0), (101, .getfield 161, 104, [], 0), (104, .ireturn, 105, [], 0), (105, .bipush (-2), 107, [], -2), (107, .ireturn, 108, [], 0)]
theorem k_TM_stored_2 : i_TM_stored_2.all (px_okb prog_1_method_11_code) = true := by decide +kernel
def m_TM_stored : px_M := (⟨"TroubleMemory", "stored", "(II)I"⟩, prog_1_method_11_code, 4, (Option.some Jvm.ClassFile.FieldType.int), i_TM_stored_0 ++ (i_TM_stored_1 ++ (i_TM_stored_2)))
theorem g_TM_stored : px_good m_TM_stored := ⟨px_allapp k_TM_stored_0 (px_allapp k_TM_stored_1 (k_TM_stored_2)), by decide +kernel, w_462, by exact Nat.le_of_ble_eq_true rfl⟩
def i_TM_cut_0 : List px_Rw := [(0, .aload_n 0, 1, [], 0), (1, .getfield 20, 4, [], 0), (4, .ifCond .ne 6, 7, [10], 0), (7, .bipush (-3), 9, [], -3), (9, .ireturn, 10, [], 0), (10, .aload_n 0, 11, [], 0), (11, .iconst 0, 12, [], 0), (12, .putfield 20, 15, [], 0), (15, .aload_n 0, 16, [], 0), (16, .getfield 40, 19, [], 0), (19, .getfield 152, 22, [], 0), (22, .invokevirtual 44, 25, [], 0), (25, .ireturn, 26, [], 0)]
theorem k_TM_cut_0 : i_TM_cut_0.all (px_okb prog_1_method_12_code) = true := by decide +kernel
def m_TM_cut : px_M := (⟨"TroubleMemory", "cut", "()I"⟩, prog_1_method_12_code, 1, (Option.some Jvm.ClassFile.FieldType.int), i_TM_cut_0)
theorem g_TM_cut : px_good m_TM_cut := ⟨k_TM_cut_0, by decide +kernel, w_467, by exact Nat.le_of_ble_eq_true rfl⟩
def i_TM_start_0 : List px_Rw := [(0, .aload_n 0, 1, [], 0), (1, .getfield 20, 4, [], 0), (4, .ifCond .eq 6, 7, [10], 0), (7, .bipush (-3), 9, [], -3), (9, .ireturn, 10, [], 0), (10, .iconst 0, 11, [], 0), (11, .istore_n 1, 12, [], 0), (12, .iload_n 1, 13, [], 0), (13, .aload_n 0, 14, [], 0), (14, .getfield 12, 17, [], 0), (17, .invokevirtual 44, 20, [], 0), (20, .if_icmp .ge 37, 23, [57], 0), (23, .aload_n 0, 24, [], 0), (24, .getfield 12, 27, [], 0), (27, .iload_n 1, 28, [], 0), (28, .invokevirtual 88, 31, [], 0)]
theorem k_TM_start_0 : i_TM_start_0.all (px_okb prog_1_method_13_code) = true := by decide +kernel
def i_TM_start_1 : List px_Rw := [(31, .checkcast 48, 34, [], 0), (34, .astore_n 2, 35, [], 0), (35, .aload_n 2, 36, [], 0), (36, .getfield 79, 39, [], 0), (39, .aload_n 2, 40, [], 0), (40, .getfield 99, 43, [], 0), (43, .invokevirtual 102, 46, [], 0), (46, .aload_n 2, 47, [], 0), (47, .iconst 0, 48, [], 0), (48, .putfield 164, 51, [], 0), (51, .iinc 1 1, 54, [], 1), (54, .goto (-42), 57, [12], 0), (57, .aload_n 0, 58, [], 0), (58, .iconst (-1), 59, [], -1), (59, .putfield 16, 62, [], 0), (62, .aload_n 0, 63, [], 0)]
theorem k_TM_start_1 : i_TM_start_1.all (px_okb prog_1_method_13_code) = true := by decide +kernel
def i_TM_start_2 : List px_Rw := [(63, .iconst 1, 64, [], 1), (64, .putfield 20, 67, [], 0), (67, .aload_n 0, 68, [], 0), (68, .getfield 40, 71, [], 0), (71, .getfield 152, 74, [], 0), (74, .invokevirtual 44, 77, [], 0), (77, .ireturn, 78, [], 0)]
theorem k_TM_start_2 : i_TM_start_2.all (px_okb prog_1_method_13_code) = true := by decide +kernel
def m_TM_start : px_M := (⟨"TroubleMemory", "start", "()I"⟩, prog_1_method_13_code, 3, (Option.some Jvm.ClassFile.FieldType.int), i_TM_start_0 ++ (i_TM_start_1 ++ (i_TM_start_2)))
theorem g_TM_start : px_good m_TM_start := ⟨px_allapp k_TM_start_0 (px_allapp k_TM_start_1 (k_TM_start_2)), by decide +kernel, w_471, by exact Nat.le_of_ble_eq_true rfl⟩
def i_TM_displaced_0 : List px_Rw := [(0, .iload_n 1, 1, [], 0), (1, .iconst 0, 2, [], 0), (2, .aload_n 0, 3, [], 0), (3, .getfield 40, 6, [], 0), (6, .getfield 167, 9, [], 0), (9, .invokevirtual 44, 12, [], 0), (12, .iconst 1, 13, [], 1), (13, .isub, 14, [], 0), (14, .invokestatic 33, 17, [], 0), (17, .ifCond .ne 5, 20, [22], 0), (20, .iconst (-1), 21, [], -1), (21, .ireturn, 22, [], 0), (22, .aload_n 0, 23, [], 0), (23, .getfield 40, 26, [], 0), (26, .getfield 167, 29, [], 0), (29, .iload_n 1, 30, [], 0)]
theorem k_TM_displaced_0 : i_TM_displaced_0.all (px_okb prog_1_method_14_code) = true := by decide +kernel
def i_TM_displaced_1 : List px_Rw := [(30, .invokevirtual 88, 33, [], 0), (33, .checkcast 48, 36, [], 0), (36, .getfield 57, 39, [], 0), (39, .ireturn, 40, [], 0)]
theorem k_TM_displaced_1 : i_TM_displaced_1.all (px_okb prog_1_method_14_code) = true := by decide +kernel
def m_TM_displaced : px_M := (⟨"TroubleMemory", "displaced", "(I)I"⟩, prog_1_method_14_code, 2, (Option.some Jvm.ClassFile.FieldType.int), i_TM_displaced_0 ++ (i_TM_displaced_1))
theorem g_TM_displaced : px_good m_TM_displaced := ⟨px_allapp k_TM_displaced_0 (k_TM_displaced_1), by decide +kernel, w_475, by exact Nat.le_of_ble_eq_true rfl⟩
def i_TM_age_0 : List px_Rw := [(0, .aload_n 0, 1, [], 0), (1, .iload_n 1, 2, [], 0), (2, .invokevirtual 60, 5, [], 0), (5, .astore_n 2, 6, [], 0), (6, .aload_n 2, 7, [], 0), (7, .ifnonnull 7, 10, [14], 0), (10, .iconst (-1), 11, [], -1), (11, .goto 10, 14, [21], 0), (14, .aload_n 2, 15, [], 0), (15, .getfield 79, 18, [], 0), (18, .getfield 170, 21, [], 0), (21, .ireturn, 22, [], 0)]
theorem k_TM_age_0 : i_TM_age_0.all (px_okb prog_1_method_15_code) = true := by decide +kernel
def m_TM_age : px_M := (⟨"TroubleMemory", "age", "(I)I"⟩, prog_1_method_15_code, 3, (Option.some Jvm.ClassFile.FieldType.int), i_TM_age_0)
theorem g_TM_age : px_good m_TM_age := ⟨k_TM_age_0, by decide +kernel, w_479, by exact Nat.le_of_ble_eq_true rfl⟩
def i_Lw_cell_0 : List px_Rw := [(0, .iload_n 1, 1, [], 0), (1, .aload_n 0, 2, [], 0), (2, .arraylength, 3, [], 0), (3, .if_icmp .ge 9, 6, [12], 0), (6, .aload_n 0, 7, [], 0), (7, .iload_n 1, 8, [], 0), (8, .iaload, 9, [], 0), (9, .goto 4, 12, [13], 0), (12, .iconst 0, 13, [], 0), (13, .ireturn, 14, [], 0)]
theorem k_Lw_cell_0 : i_Lw_cell_0.all (px_okb method_2_code) = true := by decide +kernel
def m_Lw_cell : px_M := (⟨"TroubleMemoryLaw", "cell", "([II)I"⟩, method_2_code, 2, (Option.some Jvm.ClassFile.FieldType.int), i_Lw_cell_0)
theorem g_Lw_cell : px_good m_Lw_cell := ⟨k_Lw_cell_0, by decide +kernel, w_482, by exact Nat.le_of_ble_eq_true rfl⟩
def i_Rf_init_0 : List px_Rw := [(0, .aload_n 0, 1, [], 0), (1, .invokespecial 1, 4, [], 0), (4, .aload_n 0, 5, [], 0), (5, .sipush 201, 8, [], 201), (8, .newarray .int, 10, [], 0), (10, .putfield 7, 13, [], 0), (13, .aload_n 0, 14, [], 0), (14, .sipush 201, 17, [], 201), (17, .newarray .int, 19, [], 0), (19, .putfield 13, 22, [], 0), (22, .aload_n 0, 23, [], 0), (23, .sipush 201, 26, [], 201), (26, .newarray .int, 28, [], 0), (28, .putfield 16, 31, [], 0), (31, .aload_n 0, 32, [], 0), (32, .sipush 201, 35, [], 201)]
theorem k_Rf_init_0 : i_Rf_init_0.all (px_okb prog_8_method_1_code) = true := by decide +kernel
def i_Rf_init_1 : List px_Rw := [(35, .newarray .int, 37, [], 0), (37, .putfield 19, 40, [], 0), (40, .aload_n 0, 41, [], 0), (41, .sipush 201, 44, [], 201), (44, .newarray .int, 46, [], 0), (46, .putfield 22, 49, [], 0), (49, .aload_n 0, 50, [], 0), (50, .sipush 1608, 53, [], 1608), (53, .newarray .boolean, 55, [], 0), (55, .putfield 25, 58, [], 0), (58, .aload_n 0, 59, [], 0), (59, .sipush 201, 62, [], 201), (62, .newarray .int, 64, [], 0), (64, .putfield 29, 67, [], 0), (67, .aload_n 0, 68, [], 0), (68, .sipush 201, 71, [], 201)]
theorem k_Rf_init_1 : i_Rf_init_1.all (px_okb prog_8_method_1_code) = true := by decide +kernel
def i_Rf_init_2 : List px_Rw := [(71, .newarray .int, 73, [], 0), (73, .putfield 32, 76, [], 0), (76, .aload_n 0, 77, [], 0), (77, .sipush 201, 80, [], 201), (80, .newarray .int, 82, [], 0), (82, .putfield 35, 85, [], 0), (85, .aload_n 0, 86, [], 0), (86, .sipush 1608, 89, [], 1608), (89, .newarray .boolean, 91, [], 0), (91, .putfield 38, 94, [], 0), (94, .aload_n 0, 95, [], 0), (95, .sipush 201, 98, [], 201), (98, .newarray .int, 100, [], 0), (100, .putfield 41, 103, [], 0), (103, .aload_n 0, 104, [], 0), (104, .sipush 201, 107, [], 201)]
theorem k_Rf_init_2 : i_Rf_init_2.all (px_okb prog_8_method_1_code) = true := by decide +kernel
def i_Rf_init_3 : List px_Rw := [(107, .newarray .int, 109, [], 0), (109, .putfield 44, 112, [], 0), (112, .aload_n 0, 113, [], 0), (113, .sipush 201, 116, [], 201), (116, .newarray .int, 118, [], 0), (118, .putfield 47, 121, [], 0), (121, .aload_n 0, 122, [], 0), (122, .sipush 201, 125, [], 201), (125, .newarray .int, 127, [], 0), (127, .putfield 50, 130, [], 0), (130, .aload_n 0, 131, [], 0), (131, .sipush 201, 134, [], 201), (134, .newarray .int, 136, [], 0), (136, .putfield 53, 139, [], 0), (139, .aload_n 0, 140, [], 0), (140, .sipush 1608, 143, [], 1608)]
theorem k_Rf_init_3 : i_Rf_init_3.all (px_okb prog_8_method_1_code) = true := by decide +kernel
def i_Rf_init_4 : List px_Rw := [(143, .newarray .int, 145, [], 0), (145, .putfield 56, 148, [], 0), (148, .aload_n 0, 149, [], 0), (149, .sipush 500, 152, [], 500), (152, .newarray .int, 154, [], 0), (154, .putfield 59, 157, [], 0), (157, .aload_n 0, 158, [], 0), (158, .bipush 32, 160, [], 32), (160, .newarray .boolean, 162, [], 0), (162, .putfield 62, 165, [], 0), (165, .aload_n 0, 166, [], 0), (166, .iload_n 1, 167, [], 0), (167, .ifCond .lt 13, 170, [180], 0), (170, .iload_n 1, 171, [], 0), (171, .ldc 65, 173, [], 0), (173, .if_icmp .gt 7, 176, [180], 0)]
theorem k_Rf_init_4 : i_Rf_init_4.all (px_okb prog_8_method_1_code) = true := by decide +kernel
def i_Rf_init_5 : List px_Rw := [(176, .iload_n 1, 177, [], 0), (177, .goto 5, 180, [182], 0), (180, .bipush 8, 182, [], 8), (182, .putfield 66, 185, [], 0), (185, .return_, 186, [], 0)]
theorem k_Rf_init_5 : i_Rf_init_5.all (px_okb prog_8_method_1_code) = true := by decide +kernel
def m_Rf_init : px_M := (⟨"TroubleMemoryModel", "<init>", "(I)V"⟩, prog_8_method_1_code, 2, (Option.none : Option Jvm.ClassFile.FieldType), i_Rf_init_0 ++ (i_Rf_init_1 ++ (i_Rf_init_2 ++ (i_Rf_init_3 ++ (i_Rf_init_4 ++ (i_Rf_init_5))))))
theorem g_Rf_init : px_good m_Rf_init := ⟨px_allapp k_Rf_init_0 (px_allapp k_Rf_init_1 (px_allapp k_Rf_init_2 (px_allapp k_Rf_init_3 (px_allapp k_Rf_init_4 (k_Rf_init_5))))), by decide +kernel, w_487, by exact Nat.le_of_ble_eq_true rfl⟩
def i_Rf_code_0 : List px_Rw := [(0, .aload_n 0, 1, [], 0), (1, .iconst 0, 2, [], 0), (2, .putfield 70, 5, [], 0), (5, .iload_n 1, 6, [], 0), (6, .iconst 1, 7, [], 1), (7, .if_icmp .lt 32, 10, [39], 0), (10, .iload_n 1, 11, [], 0), (11, .sipush 255, 14, [], 255), (14, .if_icmp .gt 25, 17, [39], 0), (17, .iload_n 2, 18, [], 0), (18, .iconst 1, 19, [], 1), (19, .if_icmp .lt 20, 22, [39], 0), (22, .iload_n 2, 23, [], 0), (23, .bipush 127, 25, [], 127), (25, .if_icmp .gt 14, 28, [39], 0), (28, .iload_n 3, 29, [], 0)]
theorem k_Rf_code_0 : i_Rf_code_0.all (px_okb prog_8_method_9_code) = true := by decide +kernel
def i_Rf_code_1 : List px_Rw := [(29, .iconst 1, 30, [], 1), (30, .if_icmp .lt 9, 33, [39], 0), (33, .iload_n 3, 34, [], 0), (34, .bipush 127, 36, [], 127), (36, .if_icmp .le 6, 39, [42], 0), (39, .bipush (-2), 41, [], -2), (41, .ireturn, 42, [], 0), (42, .aload_n 0, 43, [], 0), (43, .getfield 84, 46, [], 0), (46, .ifCond .eq 6, 49, [52], 0), (49, .bipush (-3), 51, [], -3), (51, .ireturn, 52, [], 0), (52, .aload_n 0, 53, [], 0), (53, .getfield 73, 56, [], 0), (56, .sipush 200, 59, [], 200), (59, .if_icmp .ne 6, 62, [65], 0)]
theorem k_Rf_code_1 : i_Rf_code_1.all (px_okb prog_8_method_9_code) = true := by decide +kernel
def i_Rf_code_2 : List px_Rw := [(62, .bipush (-4), 64, [], -4), (64, .ireturn, 65, [], 0), (65, .aload_n 0, 66, [], 0), (66, .dup, 67, [], 0), (67, .getfield 73, 70, [], 0), (70, .iconst 1, 71, [], 1), (71, .iadd, 72, [], 0), (72, .putfield 73, 75, [], 0), (75, .aload_n 0, 76, [], 0), (76, .getfield 7, 79, [], 0), (79, .aload_n 0, 80, [], 0), (80, .getfield 73, 83, [], 0), (83, .iload_n 1, 84, [], 0), (84, .iastore, 85, [], 0), (85, .aload_n 0, 86, [], 0), (86, .getfield 13, 89, [], 0)]
theorem k_Rf_code_2 : i_Rf_code_2.all (px_okb prog_8_method_9_code) = true := by decide +kernel
def i_Rf_code_3 : List px_Rw := [(89, .aload_n 0, 90, [], 0), (90, .getfield 73, 93, [], 0), (93, .iload_n 2, 94, [], 0), (94, .iastore, 95, [], 0), (95, .aload_n 0, 96, [], 0), (96, .getfield 16, 99, [], 0), (99, .aload_n 0, 100, [], 0), (100, .getfield 73, 103, [], 0), (103, .iload_n 3, 104, [], 0), (104, .iastore, 105, [], 0), (105, .aload_n 0, 106, [], 0), (106, .aload_n 0, 107, [], 0), (107, .getfield 73, 110, [], 0), (110, .invokevirtual 88, 113, [], 0), (113, .aload_n 0, 114, [], 0), (114, .aload_n 0, 115, [], 0)]
theorem k_Rf_code_3 : i_Rf_code_3.all (px_okb prog_8_method_9_code) = true := by decide +kernel
def i_Rf_code_4 : List px_Rw := [(115, .getfield 73, 118, [], 0), (118, .invokevirtual 92, 121, [], 0), (121, .aload_n 0, 122, [], 0), (122, .getfield 73, 125, [], 0), (125, .ireturn, 126, [], 0)]
theorem k_Rf_code_4 : i_Rf_code_4.all (px_okb prog_8_method_9_code) = true := by decide +kernel
def m_Rf_code : px_M := (⟨"TroubleMemoryModel", "code", "(III)I"⟩, prog_8_method_9_code, 4, (Option.some Jvm.ClassFile.FieldType.int), i_Rf_code_0 ++ (i_Rf_code_1 ++ (i_Rf_code_2 ++ (i_Rf_code_3 ++ (i_Rf_code_4)))))
theorem g_Rf_code : px_good m_Rf_code := ⟨px_allapp k_Rf_code_0 (px_allapp k_Rf_code_1 (px_allapp k_Rf_code_2 (px_allapp k_Rf_code_3 (k_Rf_code_4)))), by decide +kernel, w_574, by exact Nat.le_of_ble_eq_true rfl⟩
def i_Rf_freshen_0 : List px_Rw := [(0, .iconst 0, 1, [], 0), (1, .istore_n 2, 2, [], 0), (2, .iload_n 2, 3, [], 0), (3, .bipush 8, 5, [], 8), (5, .if_icmp .ge 31, 8, [36], 0), (8, .aload_n 0, 9, [], 0), (9, .iload_n 1, 10, [], 0), (10, .iload_n 2, 11, [], 0), (11, .iload_n 2, 12, [], 0), (12, .iconst 4, 13, [], 4), (13, .if_icmp .eq 9, 16, [22], 0), (16, .iload_n 2, 17, [], 0), (17, .bipush 6, 19, [], 6), (19, .if_icmp .ne 7, 22, [26], 0), (22, .iconst 1, 23, [], 1), (23, .goto 4, 26, [27], 0)]
theorem k_Rf_freshen_0 : i_Rf_freshen_0.all (px_okb prog_8_method_7_code) = true := by decide +kernel
def i_Rf_freshen_1 : List px_Rw := [(26, .iconst 0, 27, [], 0), (27, .invokevirtual 80, 30, [], 0), (30, .iinc 2 1, 33, [], 1), (33, .goto (-31), 36, [2], 0), (36, .aload_n 0, 37, [], 0), (37, .getfield 22, 40, [], 0), (40, .iload_n 1, 41, [], 0), (41, .iconst 0, 42, [], 0), (42, .iastore, 43, [], 0), (43, .aload_n 0, 44, [], 0), (44, .getfield 29, 47, [], 0), (47, .iload_n 1, 48, [], 0), (48, .iconst 0, 49, [], 0), (49, .iastore, 50, [], 0), (50, .aload_n 0, 51, [], 0), (51, .getfield 32, 54, [], 0)]
theorem k_Rf_freshen_1 : i_Rf_freshen_1.all (px_okb prog_8_method_7_code) = true := by decide +kernel
def i_Rf_freshen_2 : List px_Rw := [(54, .iload_n 1, 55, [], 0), (55, .iconst 0, 56, [], 0), (56, .iastore, 57, [], 0), (57, .aload_n 0, 58, [], 0), (58, .getfield 35, 61, [], 0), (61, .iload_n 1, 62, [], 0), (62, .iconst 0, 63, [], 0), (63, .iastore, 64, [], 0), (64, .return_, 65, [], 0)]
theorem k_Rf_freshen_2 : i_Rf_freshen_2.all (px_okb prog_8_method_7_code) = true := by decide +kernel
def m_Rf_freshen : px_M := (⟨"TroubleMemoryModel", "freshen", "(I)V"⟩, prog_8_method_7_code, 3, (Option.none : Option Jvm.ClassFile.FieldType), i_Rf_freshen_0 ++ (i_Rf_freshen_1 ++ (i_Rf_freshen_2)))
theorem g_Rf_freshen : px_good m_Rf_freshen := ⟨px_allapp k_Rf_freshen_0 (px_allapp k_Rf_freshen_1 (k_Rf_freshen_2)), by decide +kernel, w_578, by exact Nat.le_of_ble_eq_true rfl⟩
def i_Rf_set_0 : List px_Rw := [(0, .aload_n 0, 1, [], 0), (1, .getfield 25, 4, [], 0), (4, .bipush 8, 6, [], 8), (6, .iload_n 1, 7, [], 0), (7, .imul, 8, [], 0), (8, .iload_n 2, 9, [], 0), (9, .iadd, 10, [], 0), (10, .iload_n 3, 11, [], 0), (11, .bastore, 12, [], 0), (12, .return_, 13, [], 0)]
theorem k_Rf_set_0 : i_Rf_set_0.all (px_okb prog_8_method_5_code) = true := by decide +kernel
def m_Rf_set : px_M := (⟨"TroubleMemoryModel", "set", "(IIZ)V"⟩, prog_8_method_5_code, 4, (Option.none : Option Jvm.ClassFile.FieldType), i_Rf_set_0)
theorem g_Rf_set : px_good m_Rf_set := ⟨k_Rf_set_0, by decide +kernel, w_582, by exact Nat.le_of_ble_eq_true rfl⟩
def i_Rf_keep_0 : List px_Rw := [(0, .iconst 0, 1, [], 0), (1, .istore_n 2, 2, [], 0), (2, .iload_n 2, 3, [], 0), (3, .bipush 8, 5, [], 8), (5, .if_icmp .ge 26, 8, [31], 0), (8, .aload_n 0, 9, [], 0), (9, .getfield 38, 12, [], 0), (12, .bipush 8, 14, [], 8), (14, .iload_n 1, 15, [], 0), (15, .imul, 16, [], 0), (16, .iload_n 2, 17, [], 0), (17, .iadd, 18, [], 0), (18, .aload_n 0, 19, [], 0), (19, .iload_n 1, 20, [], 0), (20, .iload_n 2, 21, [], 0), (21, .invokevirtual 76, 24, [], 0)]
theorem k_Rf_keep_0 : i_Rf_keep_0.all (px_okb prog_8_method_8_code) = true := by decide +kernel
def i_Rf_keep_1 : List px_Rw := [(24, .bastore, 25, [], 0), (25, .iinc 2 1, 28, [], 1), (28, .goto (-26), 31, [2], 0), (31, .aload_n 0, 32, [], 0), (32, .getfield 41, 35, [], 0), (35, .iload_n 1, 36, [], 0), (36, .aload_n 0, 37, [], 0), (37, .getfield 29, 40, [], 0), (40, .iload_n 1, 41, [], 0), (41, .iaload, 42, [], 0), (42, .iastore, 43, [], 0), (43, .aload_n 0, 44, [], 0), (44, .getfield 44, 47, [], 0), (47, .iload_n 1, 48, [], 0), (48, .aload_n 0, 49, [], 0), (49, .getfield 32, 52, [], 0)]
theorem k_Rf_keep_1 : i_Rf_keep_1.all (px_okb prog_8_method_8_code) = true := by decide +kernel
def i_Rf_keep_2 : List px_Rw := [(52, .iload_n 1, 53, [], 0), (53, .iaload, 54, [], 0), (54, .iastore, 55, [], 0), (55, .aload_n 0, 56, [], 0), (56, .getfield 47, 59, [], 0), (59, .iload_n 1, 60, [], 0), (60, .aload_n 0, 61, [], 0), (61, .getfield 35, 64, [], 0), (64, .iload_n 1, 65, [], 0), (65, .iaload, 66, [], 0), (66, .iastore, 67, [], 0), (67, .return_, 68, [], 0)]
theorem k_Rf_keep_2 : i_Rf_keep_2.all (px_okb prog_8_method_8_code) = true := by decide +kernel
def m_Rf_keep : px_M := (⟨"TroubleMemoryModel", "keep", "(I)V"⟩, prog_8_method_8_code, 3, (Option.none : Option Jvm.ClassFile.FieldType), i_Rf_keep_0 ++ (i_Rf_keep_1 ++ (i_Rf_keep_2)))
theorem g_Rf_keep : px_good m_Rf_keep := ⟨px_allapp k_Rf_keep_0 (px_allapp k_Rf_keep_1 (k_Rf_keep_2)), by decide +kernel, w_586, by exact Nat.le_of_ble_eq_true rfl⟩
def i_Rf_is_0 : List px_Rw := [(0, .aload_n 0, 1, [], 0), (1, .getfield 25, 4, [], 0), (4, .bipush 8, 6, [], 8), (6, .iload_n 1, 7, [], 0), (7, .imul, 8, [], 0), (8, .iload_n 2, 9, [], 0), (9, .iadd, 10, [], 0), (10, .baload, 11, [], 0), (11, .ireturn, 12, [], 0)]
theorem k_Rf_is_0 : i_Rf_is_0.all (px_okb prog_8_method_4_code) = true := by decide +kernel
def m_Rf_is : px_M := (⟨"TroubleMemoryModel", "is", "(II)Z"⟩, prog_8_method_4_code, 3, (Option.some Jvm.ClassFile.FieldType.boolean), i_Rf_is_0)
theorem g_Rf_is : px_good m_Rf_is := ⟨k_Rf_is_0, by decide +kernel, w_590, by exact Nat.le_of_ble_eq_true rfl⟩
def i_Rf_event_0 : List px_Rw := [(0, .aload_n 0, 1, [], 0), (1, .iload_n 1, 2, [], 0), (2, .invokevirtual 129, 5, [], 0), (5, .ifCond .eq 5, 8, [10], 0), (8, .iconst (-1), 9, [], -1), (9, .ireturn, 10, [], 0), (10, .aload_n 0, 11, [], 0), (11, .getfield 84, 14, [], 0), (14, .ifCond .eq 6, 17, [20], 0), (17, .bipush (-3), 19, [], -3), (19, .ireturn, 20, [], 0), (20, .aload_n 0, 21, [], 0), (21, .dup, 22, [], 0), (22, .getfield 98, 25, [], 0), (25, .iconst 1, 26, [], 1), (26, .iadd, 27, [], 0)]
theorem k_Rf_event_0 : i_Rf_event_0.all (px_okb prog_8_method_17_code) = true := by decide +kernel
def i_Rf_event_1 : List px_Rw := [(27, .putfield 98, 30, [], 0), (30, .aload_n 0, 31, [], 0), (31, .getfield 62, 34, [], 0), (34, .iload_n 1, 35, [], 0), (35, .bipush 32, 37, [], 32), (37, .irem, 38, [], 0), (38, .baload, 39, [], 0), (39, .ifCond .eq 9, 42, [48], 0), (42, .aload_n 0, 43, [], 0), (43, .iload_n 1, 44, [], 0), (44, .invokevirtual 132, 47, [], 0), (47, .ireturn, 48, [], 0), (48, .iload_n 2, 49, [], 0), (49, .ifCond .eq 82, 52, [131], 0), (52, .aload_n 0, 53, [], 0), (53, .getfield 22, 56, [], 0)]
theorem k_Rf_event_1 : i_Rf_event_1.all (px_okb prog_8_method_17_code) = true := by decide +kernel
def i_Rf_event_2 : List px_Rw := [(56, .iload_n 1, 57, [], 0), (57, .aload_n 0, 58, [], 0), (58, .getfield 22, 61, [], 0), (61, .iload_n 1, 62, [], 0), (62, .iaload, 63, [], 0), (63, .ifCond .ge 7, 66, [70], 0), (66, .iconst 0, 67, [], 0), (67, .goto 9, 70, [76], 0), (70, .aload_n 0, 71, [], 0), (71, .getfield 22, 74, [], 0), (74, .iload_n 1, 75, [], 0), (75, .iaload, 76, [], 0), (76, .aload_n 0, 77, [], 0), (77, .getfield 13, 80, [], 0), (80, .iload_n 1, 81, [], 0), (81, .iaload, 82, [], 0)]
theorem k_Rf_event_2 : i_Rf_event_2.all (px_okb prog_8_method_17_code) = true := by decide +kernel
def i_Rf_event_3 : List px_Rw := [(82, .iadd, 83, [], 0), (83, .iastore, 84, [], 0), (84, .aload_n 0, 85, [], 0), (85, .getfield 22, 88, [], 0), (88, .iload_n 1, 89, [], 0), (89, .aload_n 0, 90, [], 0), (90, .getfield 22, 93, [], 0), (93, .iload_n 1, 94, [], 0), (94, .iaload, 95, [], 0), (95, .bipush 127, 97, [], 127), (97, .if_icmp .le 8, 100, [105], 0), (100, .bipush 127, 102, [], 127), (102, .goto 9, 105, [111], 0), (105, .aload_n 0, 106, [], 0), (106, .getfield 22, 109, [], 0), (109, .iload_n 1, 110, [], 0)]
theorem k_Rf_event_3 : i_Rf_event_3.all (px_okb prog_8_method_17_code) = true := by decide +kernel
def i_Rf_event_4 : List px_Rw := [(110, .iaload, 111, [], 0), (111, .iastore, 112, [], 0), (112, .aload_n 0, 113, [], 0), (113, .getfield 22, 116, [], 0), (116, .iload_n 1, 117, [], 0), (117, .iaload, 118, [], 0), (118, .bipush 127, 120, [], 127), (120, .if_icmp .ne 104, 123, [224], 0), (123, .aload_n 0, 124, [], 0), (124, .iload_n 1, 125, [], 0), (125, .invokevirtual 135, 128, [], 0), (128, .goto 96, 131, [224], 0), (131, .aload_n 0, 132, [], 0), (132, .getfield 22, 135, [], 0), (135, .iload_n 1, 136, [], 0), (136, .aload_n 0, 137, [], 0)]
theorem k_Rf_event_4 : i_Rf_event_4.all (px_okb prog_8_method_17_code) = true := by decide +kernel
def i_Rf_event_5 : List px_Rw := [(137, .getfield 22, 140, [], 0), (140, .iload_n 1, 141, [], 0), (141, .iaload, 142, [], 0), (142, .ifCond .le 7, 145, [149], 0), (145, .iconst 0, 146, [], 0), (146, .goto 9, 149, [155], 0), (149, .aload_n 0, 150, [], 0), (150, .getfield 22, 153, [], 0), (153, .iload_n 1, 154, [], 0), (154, .iaload, 155, [], 0), (155, .aload_n 0, 156, [], 0), (156, .getfield 16, 159, [], 0), (159, .iload_n 1, 160, [], 0), (160, .iaload, 161, [], 0), (161, .isub, 162, [], 0), (162, .iastore, 163, [], 0)]
theorem k_Rf_event_5 : i_Rf_event_5.all (px_okb prog_8_method_17_code) = true := by decide +kernel
def i_Rf_event_6 : List px_Rw := [(163, .aload_n 0, 164, [], 0), (164, .getfield 22, 167, [], 0), (167, .iload_n 1, 168, [], 0), (168, .aload_n 0, 169, [], 0), (169, .getfield 22, 172, [], 0), (172, .iload_n 1, 173, [], 0), (173, .iaload, 174, [], 0), (174, .bipush (-128), 176, [], -128), (176, .if_icmp .ge 8, 179, [184], 0), (179, .bipush (-128), 181, [], -128), (181, .goto 9, 184, [190], 0), (184, .aload_n 0, 185, [], 0), (185, .getfield 22, 188, [], 0), (188, .iload_n 1, 189, [], 0), (189, .iaload, 190, [], 0), (190, .iastore, 191, [], 0)]
theorem k_Rf_event_6 : i_Rf_event_6.all (px_okb prog_8_method_17_code) = true := by decide +kernel
def i_Rf_event_7 : List px_Rw := [(191, .aload_n 0, 192, [], 0), (192, .getfield 22, 195, [], 0), (195, .iload_n 1, 196, [], 0), (196, .iaload, 197, [], 0), (197, .bipush (-128), 199, [], -128), (199, .if_icmp .ne 25, 202, [224], 0), (202, .aload_n 0, 203, [], 0), (203, .iload_n 1, 204, [], 0), (204, .iconst 0, 205, [], 0), (205, .iconst 0, 206, [], 0), (206, .invokevirtual 80, 209, [], 0), (209, .aload_n 0, 210, [], 0), (210, .iload_n 1, 211, [], 0), (211, .iconst 4, 212, [], 4), (212, .iconst 0, 213, [], 0), (213, .invokevirtual 80, 216, [], 0)]
theorem k_Rf_event_7 : i_Rf_event_7.all (px_okb prog_8_method_17_code) = true := by decide +kernel
def i_Rf_event_8 : List px_Rw := [(216, .aload_n 0, 217, [], 0), (217, .iload_n 1, 218, [], 0), (218, .bipush 6, 220, [], 6), (220, .iconst 0, 221, [], 0), (221, .invokevirtual 80, 224, [], 0), (224, .aload_n 0, 225, [], 0), (225, .iload_n 1, 226, [], 0), (226, .invokevirtual 132, 229, [], 0), (229, .ireturn, 230, [], 0)]
theorem k_Rf_event_8 : i_Rf_event_8.all (px_okb prog_8_method_17_code) = true := by decide +kernel
def m_Rf_event : px_M := (⟨"TroubleMemoryModel", "event", "(IZ)I"⟩, prog_8_method_17_code, 3, (Option.some Jvm.ClassFile.FieldType.int), i_Rf_event_0 ++ (i_Rf_event_1 ++ (i_Rf_event_2 ++ (i_Rf_event_3 ++ (i_Rf_event_4 ++ (i_Rf_event_5 ++ (i_Rf_event_6 ++ (i_Rf_event_7 ++ (i_Rf_event_8)))))))))
theorem g_Rf_event : px_good m_Rf_event := ⟨px_allapp k_Rf_event_0 (px_allapp k_Rf_event_1 (px_allapp k_Rf_event_2 (px_allapp k_Rf_event_3 (px_allapp k_Rf_event_4 (px_allapp k_Rf_event_5 (px_allapp k_Rf_event_6 (px_allapp k_Rf_event_7 (k_Rf_event_8)))))))), by decide +kernel, w_594, by exact Nat.le_of_ble_eq_true rfl⟩
def i_Rf_none_0 : List px_Rw := [(0, .aload_n 0, 1, [], 0), (1, .iconst 0, 2, [], 0), (2, .putfield 70, 5, [], 0), (5, .iload_n 1, 6, [], 0), (6, .iconst 1, 7, [], 1), (7, .if_icmp .lt 11, 10, [18], 0), (10, .iload_n 1, 11, [], 0), (11, .aload_n 0, 12, [], 0), (12, .getfield 73, 15, [], 0), (15, .if_icmp .le 7, 18, [22], 0), (18, .iconst 1, 19, [], 1), (19, .goto 4, 22, [23], 0), (22, .iconst 0, 23, [], 0), (23, .ireturn, 24, [], 0)]
theorem k_Rf_none_0 : i_Rf_none_0.all (px_okb prog_8_method_3_code) = true := by decide +kernel
def m_Rf_none : px_M := (⟨"TroubleMemoryModel", "none", "(I)Z"⟩, prog_8_method_3_code, 2, (Option.some Jvm.ClassFile.FieldType.boolean), i_Rf_none_0)
theorem g_Rf_none : px_good m_Rf_none := ⟨k_Rf_none_0, by decide +kernel, w_598, by exact Nat.le_of_ble_eq_true rfl⟩
def i_Rf_statusOf_0 : List px_Rw := [(0, .iconst 0, 1, [], 0), (1, .istore_n 2, 2, [], 0), (2, .iconst 0, 3, [], 0), (3, .istore_n 3, 4, [], 0), (4, .iload_n 3, 5, [], 0), (5, .bipush 8, 7, [], 8), (7, .if_icmp .ge 28, 10, [35], 0), (10, .aload_n 0, 11, [], 0), (11, .iload_n 1, 12, [], 0), (12, .iload_n 3, 13, [], 0), (13, .invokevirtual 76, 16, [], 0), (16, .ifCond .eq 11, 19, [27], 0), (19, .iload_n 2, 20, [], 0), (20, .iconst 1, 21, [], 1), (21, .iload_n 3, 22, [], 0), (22, .ishl, 23, [], 0)]
theorem k_Rf_statusOf_0 : i_Rf_statusOf_0.all (px_okb prog_8_method_6_code) = true := by decide +kernel
def i_Rf_statusOf_1 : List px_Rw := [(23, .iadd, 24, [], 0), (24, .goto 4, 27, [28], 0), (27, .iload_n 2, 28, [], 0), (28, .istore_n 2, 29, [], 0), (29, .iinc 3 1, 32, [], 1), (32, .goto (-28), 35, [4], 0), (35, .iload_n 2, 36, [], 0), (36, .ireturn, 37, [], 0)]
theorem k_Rf_statusOf_1 : i_Rf_statusOf_1.all (px_okb prog_8_method_6_code) = true := by decide +kernel
def m_Rf_statusOf : px_M := (⟨"TroubleMemoryModel", "statusOf", "(I)I"⟩, prog_8_method_6_code, 4, (Option.some Jvm.ClassFile.FieldType.int), i_Rf_statusOf_0 ++ (i_Rf_statusOf_1))
theorem g_Rf_statusOf : px_good m_Rf_statusOf := ⟨px_allapp k_Rf_statusOf_0 (k_Rf_statusOf_1), by decide +kernel, w_602, by exact Nat.le_of_ble_eq_true rfl⟩
def i_Rf_fails_0 : List px_Rw := [(0, .aload_n 0, 1, [], 0), (1, .iload_n 1, 2, [], 0), (2, .iconst 4, 3, [], 4), (3, .iconst 0, 4, [], 0), (4, .invokevirtual 80, 7, [], 0), (7, .aload_n 0, 8, [], 0), (8, .iload_n 1, 9, [], 0), (9, .bipush 6, 11, [], 6), (11, .iconst 0, 12, [], 0), (12, .invokevirtual 80, 15, [], 0), (15, .aload_n 0, 16, [], 0), (16, .iload_n 1, 17, [], 0), (17, .iconst 1, 18, [], 1), (18, .invokevirtual 76, 21, [], 0), (21, .ifCond .ne 25, 24, [46], 0), (24, .aload_n 0, 25, [], 0)]
theorem k_Rf_fails_0 : i_Rf_fails_0.all (px_okb prog_8_method_16_code) = true := by decide +kernel
def i_Rf_fails_1 : List px_Rw := [(25, .getfield 29, 28, [], 0), (28, .iload_n 1, 29, [], 0), (29, .iaload, 30, [], 0), (30, .sipush 255, 33, [], 255), (33, .if_icmp .ge 13, 36, [46], 0), (36, .aload_n 0, 37, [], 0), (37, .getfield 29, 40, [], 0), (40, .iload_n 1, 41, [], 0), (41, .dup2, 42, [], 0), (42, .iaload, 43, [], 0), (43, .iconst 1, 44, [], 1), (44, .iadd, 45, [], 0), (45, .iastore, 46, [], 0), (46, .aload_n 0, 47, [], 0), (47, .getfield 29, 50, [], 0), (50, .iload_n 1, 51, [], 0)]
theorem k_Rf_fails_1 : i_Rf_fails_1.all (px_okb prog_8_method_16_code) = true := by decide +kernel
def i_Rf_fails_2 : List px_Rw := [(51, .iaload, 52, [], 0), (52, .iconst 1, 53, [], 1), (53, .if_icmp .le 29, 56, [82], 0), (56, .aload_n 0, 57, [], 0), (57, .iload_n 1, 58, [], 0), (58, .iconst 3, 59, [], 3), (59, .iconst 1, 60, [], 1), (60, .invokevirtual 80, 63, [], 0), (63, .aload_n 0, 64, [], 0), (64, .getfield 7, 67, [], 0), (67, .iload_n 1, 68, [], 0), (68, .iaload, 69, [], 0), (69, .bipush 65, 71, [], 65), (71, .if_icmp .ge 11, 74, [82], 0), (74, .aload_n 0, 75, [], 0), (75, .iload_n 1, 76, [], 0)]
theorem k_Rf_fails_2 : i_Rf_fails_2.all (px_okb prog_8_method_16_code) = true := by decide +kernel
def i_Rf_fails_3 : List px_Rw := [(76, .bipush 7, 78, [], 7), (78, .iconst 1, 79, [], 1), (79, .invokevirtual 80, 82, [], 0), (82, .aload_n 0, 83, [], 0), (83, .iload_n 1, 84, [], 0), (84, .iconst 1, 85, [], 1), (85, .iconst 1, 86, [], 1), (86, .invokevirtual 80, 89, [], 0), (89, .aload_n 0, 90, [], 0), (90, .iload_n 1, 91, [], 0), (91, .iconst 2, 92, [], 2), (92, .iconst 1, 93, [], 1), (93, .invokevirtual 80, 96, [], 0), (96, .aload_n 0, 97, [], 0), (97, .iload_n 1, 98, [], 0), (98, .iconst 5, 99, [], 5)]
theorem k_Rf_fails_3 : i_Rf_fails_3.all (px_okb prog_8_method_16_code) = true := by decide +kernel
def i_Rf_fails_4 : List px_Rw := [(99, .iconst 1, 100, [], 1), (100, .invokevirtual 80, 103, [], 0), (103, .aload_n 0, 104, [], 0), (104, .getfield 32, 107, [], 0), (107, .iload_n 1, 108, [], 0), (108, .iconst 0, 109, [], 0), (109, .iastore, 110, [], 0), (110, .aload_n 0, 111, [], 0), (111, .getfield 35, 114, [], 0), (114, .iload_n 1, 115, [], 0), (115, .iconst 0, 116, [], 0), (116, .iastore, 117, [], 0), (117, .aload_n 0, 118, [], 0), (118, .iload_n 1, 119, [], 0), (119, .iconst 0, 120, [], 0), (120, .invokevirtual 76, 123, [], 0)]
theorem k_Rf_fails_4 : i_Rf_fails_4.all (px_okb prog_8_method_16_code) = true := by decide +kernel
def i_Rf_fails_5 : List px_Rw := [(123, .istore_n 2, 124, [], 0), (124, .aload_n 0, 125, [], 0), (125, .iload_n 1, 126, [], 0), (126, .iconst 0, 127, [], 0), (127, .iconst 1, 128, [], 1), (128, .invokevirtual 80, 131, [], 0), (131, .iload_n 2, 132, [], 0), (132, .ifCond .ne 16, 135, [148], 0), (135, .aload_n 0, 136, [], 0), (136, .iload_n 1, 137, [], 0), (137, .invokevirtual 122, 140, [], 0), (140, .ifCond .ne 8, 143, [148], 0), (143, .aload_n 0, 144, [], 0), (144, .iload_n 1, 145, [], 0), (145, .invokevirtual 126, 148, [], 0), (148, .return_, 149, [], 0)]
theorem k_Rf_fails_5 : i_Rf_fails_5.all (px_okb prog_8_method_16_code) = true := by decide +kernel
def m_Rf_fails : px_M := (⟨"TroubleMemoryModel", "fails", "(I)V"⟩, prog_8_method_16_code, 3, (Option.none : Option Jvm.ClassFile.FieldType), i_Rf_fails_0 ++ (i_Rf_fails_1 ++ (i_Rf_fails_2 ++ (i_Rf_fails_3 ++ (i_Rf_fails_4 ++ (i_Rf_fails_5))))))
theorem g_Rf_fails : px_good m_Rf_fails := ⟨px_allapp k_Rf_fails_0 (px_allapp k_Rf_fails_1 (px_allapp k_Rf_fails_2 (px_allapp k_Rf_fails_3 (px_allapp k_Rf_fails_4 (k_Rf_fails_5))))), by decide +kernel, w_606, by exact Nat.le_of_ble_eq_true rfl⟩
def i_Rf_hidden_0 : List px_Rw := [(0, .aload_n 0, 1, [], 0), (1, .getfield 19, 4, [], 0), (4, .iload_n 1, 5, [], 0), (5, .iaload, 6, [], 0), (6, .istore_n 2, 7, [], 0), (7, .iload_n 2, 8, [], 0), (8, .ifCond .le 24, 11, [32], 0), (11, .aload_n 0, 12, [], 0), (12, .iload_n 2, 13, [], 0), (13, .iconst 0, 14, [], 0), (14, .invokevirtual 76, 17, [], 0), (17, .ifCond .eq 5, 20, [22], 0), (20, .iconst 1, 21, [], 1), (21, .ireturn, 22, [], 0), (22, .aload_n 0, 23, [], 0), (23, .getfield 19, 26, [], 0)]
theorem k_Rf_hidden_0 : i_Rf_hidden_0.all (px_okb prog_8_method_15_code) = true := by decide +kernel
def i_Rf_hidden_1 : List px_Rw := [(26, .iload_n 2, 27, [], 0), (27, .iaload, 28, [], 0), (28, .istore_n 2, 29, [], 0), (29, .goto (-22), 32, [7], 0), (32, .iconst 0, 33, [], 0), (33, .ireturn, 34, [], 0)]
theorem k_Rf_hidden_1 : i_Rf_hidden_1.all (px_okb prog_8_method_15_code) = true := by decide +kernel
def m_Rf_hidden : px_M := (⟨"TroubleMemoryModel", "hidden", "(I)Z"⟩, prog_8_method_15_code, 3, (Option.some Jvm.ClassFile.FieldType.boolean), i_Rf_hidden_0 ++ (i_Rf_hidden_1))
theorem g_Rf_hidden : px_good m_Rf_hidden := ⟨px_allapp k_Rf_hidden_0 (k_Rf_hidden_1), by decide +kernel, w_610, by exact Nat.le_of_ble_eq_true rfl⟩
def i_Rf_store_0 : List px_Rw := [(0, .aload_n 0, 1, [], 0), (1, .getfield 50, 4, [], 0), (4, .iload_n 1, 5, [], 0), (5, .iaload, 6, [], 0), (6, .ifCond .le 42, 9, [48], 0), (9, .aload_n 0, 10, [], 0), (10, .getfield 53, 13, [], 0), (13, .iload_n 1, 14, [], 0), (14, .aload_n 0, 15, [], 0), (15, .getfield 53, 18, [], 0), (18, .iload_n 1, 19, [], 0), (19, .iaload, 20, [], 0), (20, .sipush 255, 23, [], 255), (23, .if_icmp .ge 14, 26, [37], 0), (26, .aload_n 0, 27, [], 0), (27, .getfield 53, 30, [], 0)]
theorem k_Rf_store_0 : i_Rf_store_0.all (px_okb prog_8_method_14_code) = true := by decide +kernel
def i_Rf_store_1 : List px_Rw := [(30, .iload_n 1, 31, [], 0), (31, .iaload, 32, [], 0), (32, .iconst 1, 33, [], 1), (33, .iadd, 34, [], 0), (34, .goto 6, 37, [40], 0), (37, .sipush 255, 40, [], 255), (40, .iastore, 41, [], 0), (41, .aload_n 0, 42, [], 0), (42, .iload_n 1, 43, [], 0), (43, .iconst 1, 44, [], 1), (44, .invokevirtual 105, 47, [], 0), (47, .return_, 48, [], 0), (48, .aload_n 0, 49, [], 0), (49, .invokevirtual 109, 52, [], 0), (52, .aload_n 0, 53, [], 0), (53, .getfield 66, 56, [], 0)]
theorem k_Rf_store_1 : i_Rf_store_1.all (px_okb prog_8_method_14_code) = true := by decide +kernel
def i_Rf_store_2 : List px_Rw := [(56, .if_icmp .lt 51, 59, [107], 0), (59, .aload_n 0, 60, [], 0), (60, .iload_n 1, 61, [], 0), (61, .invokevirtual 113, 64, [], 0), (64, .istore_n 2, 65, [], 0), (65, .iload_n 2, 66, [], 0), (66, .ifCond .ne 4, 69, [70], 0), (69, .return_, 70, [], 0), (70, .aload_n 0, 71, [], 0), (71, .getfield 50, 74, [], 0), (74, .iload_n 2, 75, [], 0), (75, .iconst 0, 76, [], 0), (76, .iastore, 77, [], 0), (77, .aload_n 0, 78, [], 0), (78, .getfield 116, 81, [], 0), (81, .sipush 500, 84, [], 500)]
theorem k_Rf_store_2 : i_Rf_store_2.all (px_okb prog_8_method_14_code) = true := by decide +kernel
def i_Rf_store_3 : List px_Rw := [(84, .if_icmp .ge 23, 87, [107], 0), (87, .aload_n 0, 88, [], 0), (88, .getfield 59, 91, [], 0), (91, .aload_n 0, 92, [], 0), (92, .getfield 116, 95, [], 0), (95, .iload_n 2, 96, [], 0), (96, .iastore, 97, [], 0), (97, .aload_n 0, 98, [], 0), (98, .dup, 99, [], 0), (99, .getfield 116, 102, [], 0), (102, .iconst 1, 103, [], 1), (103, .iadd, 104, [], 0), (104, .putfield 116, 107, [], 0), (107, .aload_n 0, 108, [], 0), (108, .dup, 109, [], 0), (109, .getfield 119, 112, [], 0)]
theorem k_Rf_store_3 : i_Rf_store_3.all (px_okb prog_8_method_14_code) = true := by decide +kernel
def i_Rf_store_4 : List px_Rw := [(112, .iconst 1, 113, [], 1), (113, .iadd, 114, [], 0), (114, .putfield 119, 117, [], 0), (117, .aload_n 0, 118, [], 0), (118, .getfield 50, 121, [], 0), (121, .iload_n 1, 122, [], 0), (122, .aload_n 0, 123, [], 0), (123, .getfield 119, 126, [], 0), (126, .iastore, 127, [], 0), (127, .aload_n 0, 128, [], 0), (128, .getfield 53, 131, [], 0), (131, .iload_n 1, 132, [], 0), (132, .iconst 1, 133, [], 1), (133, .iastore, 134, [], 0), (134, .aload_n 0, 135, [], 0), (135, .iload_n 1, 136, [], 0)]
theorem k_Rf_store_4 : i_Rf_store_4.all (px_okb prog_8_method_14_code) = true := by decide +kernel
def i_Rf_store_5 : List px_Rw := [(136, .iconst 0, 137, [], 0), (137, .invokevirtual 105, 140, [], 0), (140, .aload_n 0, 141, [], 0), (141, .iload_n 1, 142, [], 0), (142, .iconst 1, 143, [], 1), (143, .invokevirtual 105, 146, [], 0), (146, .return_, 147, [], 0)]
theorem k_Rf_store_5 : i_Rf_store_5.all (px_okb prog_8_method_14_code) = true := by decide +kernel
def m_Rf_store : px_M := (⟨"TroubleMemoryModel", "store", "(I)V"⟩, prog_8_method_14_code, 3, (Option.none : Option Jvm.ClassFile.FieldType), i_Rf_store_0 ++ (i_Rf_store_1 ++ (i_Rf_store_2 ++ (i_Rf_store_3 ++ (i_Rf_store_4 ++ (i_Rf_store_5))))))
theorem g_Rf_store : px_good m_Rf_store := ⟨px_allapp k_Rf_store_0 (px_allapp k_Rf_store_1 (px_allapp k_Rf_store_2 (px_allapp k_Rf_store_3 (px_allapp k_Rf_store_4 (k_Rf_store_5))))), by decide +kernel, w_614, by exact Nat.le_of_ble_eq_true rfl⟩
def i_Rf_shoot_0 : List px_Rw := [(0, .bipush 8, 2, [], 8), (2, .iload_n 1, 3, [], 0), (3, .imul, 4, [], 0), (4, .iconst 4, 5, [], 4), (5, .iload_n 2, 6, [], 0), (6, .imul, 7, [], 0), (7, .iadd, 8, [], 0), (8, .istore_n 3, 9, [], 0), (9, .aload_n 0, 10, [], 0), (10, .getfield 56, 13, [], 0), (13, .iload_n 3, 14, [], 0), (14, .aload_n 0, 15, [], 0), (15, .getfield 95, 18, [], 0), (18, .iastore, 19, [], 0), (19, .aload_n 0, 20, [], 0), (20, .getfield 56, 23, [], 0)]
theorem k_Rf_shoot_0 : i_Rf_shoot_0.all (px_okb prog_8_method_13_code) = true := by decide +kernel
def i_Rf_shoot_1 : List px_Rw := [(23, .iload_n 3, 24, [], 0), (24, .iconst 1, 25, [], 1), (25, .iadd, 26, [], 0), (26, .aload_n 0, 27, [], 0), (27, .getfield 98, 30, [], 0), (30, .iastore, 31, [], 0), (31, .aload_n 0, 32, [], 0), (32, .getfield 56, 35, [], 0), (35, .iload_n 3, 36, [], 0), (36, .iconst 2, 37, [], 2), (37, .iadd, 38, [], 0), (38, .aload_n 0, 39, [], 0), (39, .iconst 0, 40, [], 0), (40, .invokevirtual 101, 43, [], 0), (43, .iastore, 44, [], 0), (44, .aload_n 0, 45, [], 0)]
theorem k_Rf_shoot_1 : i_Rf_shoot_1.all (px_okb prog_8_method_13_code) = true := by decide +kernel
def i_Rf_shoot_2 : List px_Rw := [(45, .getfield 56, 48, [], 0), (48, .iload_n 3, 49, [], 0), (49, .iconst 3, 50, [], 3), (50, .iadd, 51, [], 0), (51, .aload_n 0, 52, [], 0), (52, .getfield 13, 55, [], 0), (55, .iload_n 1, 56, [], 0), (56, .iaload, 57, [], 0), (57, .iastore, 58, [], 0), (58, .return_, 59, [], 0)]
theorem k_Rf_shoot_2 : i_Rf_shoot_2.all (px_okb prog_8_method_13_code) = true := by decide +kernel
def m_Rf_shoot : px_M := (⟨"TroubleMemoryModel", "shoot", "(II)V"⟩, prog_8_method_13_code, 4, (Option.none : Option Jvm.ClassFile.FieldType), i_Rf_shoot_0 ++ (i_Rf_shoot_1 ++ (i_Rf_shoot_2)))
theorem g_Rf_shoot : px_good m_Rf_shoot := ⟨px_allapp k_Rf_shoot_0 (px_allapp k_Rf_shoot_1 (k_Rf_shoot_2)), by decide +kernel, w_618, by exact Nat.le_of_ble_eq_true rfl⟩
def i_Rf_many_0 : List px_Rw := [(0, .iconst 0, 1, [], 0), (1, .istore_n 2, 2, [], 0), (2, .iconst 1, 3, [], 1), (3, .istore_n 3, 4, [], 0), (4, .iload_n 3, 5, [], 0), (5, .aload_n 0, 6, [], 0), (6, .getfield 73, 9, [], 0), (9, .if_icmp .gt 26, 12, [35], 0), (12, .aload_n 0, 13, [], 0), (13, .iload_n 3, 14, [], 0), (14, .iload_n 1, 15, [], 0), (15, .invokevirtual 76, 18, [], 0), (18, .ifCond .eq 9, 21, [27], 0), (21, .iload_n 2, 22, [], 0), (22, .iconst 1, 23, [], 1), (23, .iadd, 24, [], 0)]
theorem k_Rf_many_0 : i_Rf_many_0.all (px_okb prog_8_method_10_code) = true := by decide +kernel
def i_Rf_many_1 : List px_Rw := [(24, .goto 4, 27, [28], 0), (27, .iload_n 2, 28, [], 0), (28, .istore_n 2, 29, [], 0), (29, .iinc 3 1, 32, [], 1), (32, .goto (-28), 35, [4], 0), (35, .iload_n 2, 36, [], 0), (36, .ireturn, 37, [], 0)]
theorem k_Rf_many_1 : i_Rf_many_1.all (px_okb prog_8_method_10_code) = true := by decide +kernel
def m_Rf_many : px_M := (⟨"TroubleMemoryModel", "many", "(I)I"⟩, prog_8_method_10_code, 4, (Option.some Jvm.ClassFile.FieldType.int), i_Rf_many_0 ++ (i_Rf_many_1))
theorem g_Rf_many : px_good m_Rf_many := ⟨px_allapp k_Rf_many_0 (k_Rf_many_1), by decide +kernel, w_622, by exact Nat.le_of_ble_eq_true rfl⟩
def i_Rf_entries_0 : List px_Rw := [(0, .iconst 0, 1, [], 0), (1, .istore_n 1, 2, [], 0), (2, .iconst 1, 3, [], 1), (3, .istore_n 2, 4, [], 0), (4, .iload_n 2, 5, [], 0), (5, .aload_n 0, 6, [], 0), (6, .getfield 73, 9, [], 0), (9, .if_icmp .gt 26, 12, [35], 0), (12, .aload_n 0, 13, [], 0), (13, .getfield 50, 16, [], 0), (16, .iload_n 2, 17, [], 0), (17, .iaload, 18, [], 0), (18, .ifCond .le 9, 21, [27], 0), (21, .iload_n 1, 22, [], 0), (22, .iconst 1, 23, [], 1), (23, .iadd, 24, [], 0)]
theorem k_Rf_entries_0 : i_Rf_entries_0.all (px_okb prog_8_method_11_code) = true := by decide +kernel
def i_Rf_entries_1 : List px_Rw := [(24, .goto 4, 27, [28], 0), (27, .iload_n 1, 28, [], 0), (28, .istore_n 1, 29, [], 0), (29, .iinc 2 1, 32, [], 1), (32, .goto (-28), 35, [4], 0), (35, .iload_n 1, 36, [], 0), (36, .ireturn, 37, [], 0)]
theorem k_Rf_entries_1 : i_Rf_entries_1.all (px_okb prog_8_method_11_code) = true := by decide +kernel
def m_Rf_entries : px_M := (⟨"TroubleMemoryModel", "entries", "()I"⟩, prog_8_method_11_code, 3, (Option.some Jvm.ClassFile.FieldType.int), i_Rf_entries_0 ++ (i_Rf_entries_1))
theorem g_Rf_entries : px_good m_Rf_entries := ⟨px_allapp k_Rf_entries_0 (k_Rf_entries_1), by decide +kernel, w_626, by exact Nat.le_of_ble_eq_true rfl⟩
def i_Rf_goes_0 : List px_Rw := [(0, .iconst 0, 1, [], 0), (1, .istore_n 2, 2, [], 0), (2, .iconst 1, 3, [], 1), (3, .istore_n 3, 4, [], 0), (4, .iload_n 3, 5, [], 0), (5, .aload_n 0, 6, [], 0), (6, .getfield 73, 9, [], 0), (9, .if_icmp .gt 90, 12, [99], 0), (12, .aload_n 0, 13, [], 0), (13, .getfield 50, 16, [], 0), (16, .iload_n 3, 17, [], 0), (17, .iaload, 18, [], 0), (18, .ifCond .le 46, 21, [64], 0), (21, .aload_n 0, 22, [], 0), (22, .getfield 7, 25, [], 0), (25, .iload_n 3, 26, [], 0)]
theorem k_Rf_goes_0 : i_Rf_goes_0.all (px_okb prog_8_method_12_code) = true := by decide +kernel
def i_Rf_goes_1 : List px_Rw := [(26, .iaload, 27, [], 0), (27, .aload_n 0, 28, [], 0), (28, .getfield 7, 31, [], 0), (31, .iload_n 1, 32, [], 0), (32, .iaload, 33, [], 0), (33, .if_icmp .gt 27, 36, [60], 0), (36, .aload_n 0, 37, [], 0), (37, .getfield 7, 40, [], 0), (40, .iload_n 3, 41, [], 0), (41, .iaload, 42, [], 0), (42, .aload_n 0, 43, [], 0), (43, .getfield 7, 46, [], 0), (46, .iload_n 1, 47, [], 0), (47, .iaload, 48, [], 0), (48, .if_icmp .ne 16, 51, [64], 0), (51, .aload_n 0, 52, [], 0)]
theorem k_Rf_goes_1 : i_Rf_goes_1.all (px_okb prog_8_method_12_code) = true := by decide +kernel
def i_Rf_goes_2 : List px_Rw := [(52, .iload_n 3, 53, [], 0), (53, .iconst 0, 54, [], 0), (54, .invokevirtual 76, 57, [], 0), (57, .ifCond .ne 7, 60, [64], 0), (60, .iconst 1, 61, [], 1), (61, .goto 4, 64, [65], 0), (64, .iconst 0, 65, [], 0), (65, .istore 4, 67, [], 0), (67, .iload 4, 69, [], 0), (69, .ifCond .eq 22, 72, [91], 0), (72, .aload_n 0, 73, [], 0), (73, .getfield 7, 76, [], 0), (76, .iload_n 3, 77, [], 0), (77, .iaload, 78, [], 0), (78, .iload_n 2, 79, [], 0), (79, .if_icmp .le 12, 82, [91], 0)]
theorem k_Rf_goes_2 : i_Rf_goes_2.all (px_okb prog_8_method_12_code) = true := by decide +kernel
def i_Rf_goes_3 : List px_Rw := [(82, .aload_n 0, 83, [], 0), (83, .getfield 7, 86, [], 0), (86, .iload_n 3, 87, [], 0), (87, .iaload, 88, [], 0), (88, .goto 4, 91, [92], 0), (91, .iload_n 2, 92, [], 0), (92, .istore_n 2, 93, [], 0), (93, .iinc 3 1, 96, [], 1), (96, .goto (-92), 99, [4], 0), (99, .iconst 0, 100, [], 0), (100, .istore_n 3, 101, [], 0), (101, .iconst 1, 102, [], 1), (102, .istore 4, 104, [], 0), (104, .iload 4, 106, [], 0), (106, .aload_n 0, 107, [], 0), (107, .getfield 73, 110, [], 0)]
theorem k_Rf_goes_3 : i_Rf_goes_3.all (px_okb prog_8_method_12_code) = true := by decide +kernel
def i_Rf_goes_4 : List px_Rw := [(110, .if_icmp .gt 50, 113, [160], 0), (113, .iload_n 3, 114, [], 0), (114, .ifCond .ne 34, 117, [148], 0), (117, .aload_n 0, 118, [], 0), (118, .getfield 50, 121, [], 0), (121, .iload 4, 123, [], 0), (123, .iaload, 124, [], 0), (124, .ifCond .le 28, 127, [152], 0), (127, .aload_n 0, 128, [], 0), (128, .getfield 7, 131, [], 0), (131, .iload 4, 133, [], 0), (133, .iaload, 134, [], 0), (134, .iload_n 2, 135, [], 0), (135, .if_icmp .ne 17, 138, [152], 0), (138, .aload_n 0, 139, [], 0), (139, .iload 4, 141, [], 0)]
theorem k_Rf_goes_4 : i_Rf_goes_4.all (px_okb prog_8_method_12_code) = true := by decide +kernel
def i_Rf_goes_5 : List px_Rw := [(141, .iconst 0, 142, [], 0), (142, .invokevirtual 76, 145, [], 0), (145, .ifCond .ne 7, 148, [152], 0), (148, .iconst 1, 149, [], 1), (149, .goto 4, 152, [153], 0), (152, .iconst 0, 153, [], 0), (153, .istore_n 3, 154, [], 0), (154, .iinc 4 1, 157, [], 1), (157, .goto (-53), 160, [104], 0), (160, .iconst 0, 161, [], 0), (161, .istore 4, 163, [], 0), (163, .iconst 1, 164, [], 1), (164, .istore 5, 166, [], 0), (166, .iload 5, 168, [], 0), (168, .aload_n 0, 169, [], 0), (169, .getfield 73, 172, [], 0)]
theorem k_Rf_goes_5 : i_Rf_goes_5.all (px_okb prog_8_method_12_code) = true := by decide +kernel
def i_Rf_goes_6 : List px_Rw := [(172, .if_icmp .gt 91, 175, [263], 0), (175, .iload_n 2, 176, [], 0), (176, .ifCond .le 87, 179, [263], 0), (179, .aload_n 0, 180, [], 0), (180, .getfield 50, 183, [], 0), (183, .iload 5, 185, [], 0), (185, .iaload, 186, [], 0), (186, .ifCond .le 32, 189, [218], 0), (189, .aload_n 0, 190, [], 0), (190, .getfield 7, 193, [], 0), (193, .iload 5, 195, [], 0), (195, .iaload, 196, [], 0), (196, .iload_n 2, 197, [], 0), (197, .if_icmp .ne 21, 200, [218], 0), (200, .iload_n 3, 201, [], 0), (201, .ifCond .eq 13, 204, [214], 0)]
theorem k_Rf_goes_6 : i_Rf_goes_6.all (px_okb prog_8_method_12_code) = true := by decide +kernel
def i_Rf_goes_7 : List px_Rw := [(204, .aload_n 0, 205, [], 0), (205, .iload 5, 207, [], 0), (207, .iconst 0, 208, [], 0), (208, .invokevirtual 76, 211, [], 0), (211, .ifCond .ne 7, 214, [218], 0), (214, .iconst 1, 215, [], 1), (215, .goto 4, 218, [219], 0), (218, .iconst 0, 219, [], 0), (219, .istore 6, 221, [], 0), (221, .iload 6, 223, [], 0), (223, .ifCond .eq 30, 226, [253], 0), (226, .iload 4, 228, [], 0), (228, .ifCond .eq 20, 231, [248], 0), (231, .aload_n 0, 232, [], 0), (232, .getfield 50, 235, [], 0), (235, .iload 5, 237, [], 0)]
theorem k_Rf_goes_7 : i_Rf_goes_7.all (px_okb prog_8_method_12_code) = true := by decide +kernel
def i_Rf_goes_8 : List px_Rw := [(237, .iaload, 238, [], 0), (238, .aload_n 0, 239, [], 0), (239, .getfield 50, 242, [], 0), (242, .iload 4, 244, [], 0), (244, .iaload, 245, [], 0), (245, .if_icmp .ge 8, 248, [253], 0), (248, .iload 5, 250, [], 0), (250, .goto 5, 253, [255], 0), (253, .iload 4, 255, [], 0), (255, .istore 4, 257, [], 0), (257, .iinc 5 1, 260, [], 1), (260, .goto (-94), 263, [166], 0), (263, .iload 4, 265, [], 0), (265, .ireturn, 266, [], 0)]
theorem k_Rf_goes_8 : i_Rf_goes_8.all (px_okb prog_8_method_12_code) = true := by decide +kernel
def m_Rf_goes : px_M := (⟨"TroubleMemoryModel", "goes", "(I)I"⟩, prog_8_method_12_code, 7, (Option.some Jvm.ClassFile.FieldType.int), i_Rf_goes_0 ++ (i_Rf_goes_1 ++ (i_Rf_goes_2 ++ (i_Rf_goes_3 ++ (i_Rf_goes_4 ++ (i_Rf_goes_5 ++ (i_Rf_goes_6 ++ (i_Rf_goes_7 ++ (i_Rf_goes_8)))))))))
theorem g_Rf_goes : px_good m_Rf_goes := ⟨px_allapp k_Rf_goes_0 (px_allapp k_Rf_goes_1 (px_allapp k_Rf_goes_2 (px_allapp k_Rf_goes_3 (px_allapp k_Rf_goes_4 (px_allapp k_Rf_goes_5 (px_allapp k_Rf_goes_6 (px_allapp k_Rf_goes_7 (k_Rf_goes_8)))))))), by decide +kernel, w_630, by exact Nat.le_of_ble_eq_true rfl⟩
def i_Rf_cycle_0 : List px_Rw := [(0, .aload_n 0, 1, [], 0), (1, .iconst 0, 2, [], 0), (2, .putfield 70, 5, [], 0), (5, .aload_n 0, 6, [], 0), (6, .getfield 84, 9, [], 0), (9, .ifCond .eq 6, 12, [15], 0), (12, .bipush (-3), 14, [], -3), (14, .ireturn, 15, [], 0), (15, .iconst 1, 16, [], 1), (16, .istore_n 2, 17, [], 0), (17, .iload_n 2, 18, [], 0), (18, .aload_n 0, 19, [], 0), (19, .getfield 73, 22, [], 0), (22, .if_icmp .gt 208, 25, [230], 0), (25, .aload_n 0, 26, [], 0), (26, .iload_n 2, 27, [], 0)]
theorem k_Rf_cycle_0 : i_Rf_cycle_0.all (px_okb prog_8_method_18_code) = true := by decide +kernel
def i_Rf_cycle_1 : List px_Rw := [(27, .iconst 1, 28, [], 1), (28, .invokevirtual 76, 31, [], 0), (31, .ifCond .ne 173, 34, [204], 0), (34, .aload_n 0, 35, [], 0), (35, .iload_n 2, 36, [], 0), (36, .bipush 6, 38, [], 6), (38, .invokevirtual 76, 41, [], 0), (41, .ifCond .ne 163, 44, [204], 0), (44, .aload_n 0, 45, [], 0), (45, .iload_n 2, 46, [], 0), (46, .iconst 2, 47, [], 2), (47, .iconst 0, 48, [], 0), (48, .invokevirtual 80, 51, [], 0), (51, .aload_n 0, 52, [], 0), (52, .getfield 29, 55, [], 0), (55, .iload_n 2, 56, [], 0)]
theorem k_Rf_cycle_1 : i_Rf_cycle_1.all (px_okb prog_8_method_18_code) = true := by decide +kernel
def i_Rf_cycle_2 : List px_Rw := [(56, .aload_n 0, 57, [], 0), (57, .iload_n 2, 58, [], 0), (58, .iconst 3, 59, [], 3), (59, .invokevirtual 76, 62, [], 0), (62, .ifCond .eq 12, 65, [74], 0), (65, .aload_n 0, 66, [], 0), (66, .getfield 29, 69, [], 0), (69, .iload_n 2, 70, [], 0), (70, .iaload, 71, [], 0), (71, .goto 4, 74, [75], 0), (74, .iconst 0, 75, [], 0), (75, .iastore, 76, [], 0), (76, .aload_n 0, 77, [], 0), (77, .getfield 35, 80, [], 0), (80, .iload_n 2, 81, [], 0), (81, .aload_n 0, 82, [], 0)]
theorem k_Rf_cycle_2 : i_Rf_cycle_2.all (px_okb prog_8_method_18_code) = true := by decide +kernel
def i_Rf_cycle_3 : List px_Rw := [(82, .getfield 35, 85, [], 0), (85, .iload_n 2, 86, [], 0), (86, .iaload, 87, [], 0), (87, .sipush 255, 90, [], 255), (90, .if_icmp .ge 14, 93, [104], 0), (93, .aload_n 0, 94, [], 0), (94, .getfield 35, 97, [], 0), (97, .iload_n 2, 98, [], 0), (98, .iaload, 99, [], 0), (99, .iconst 1, 100, [], 1), (100, .iadd, 101, [], 0), (101, .goto 6, 104, [107], 0), (104, .sipush 255, 107, [], 255), (107, .iastore, 108, [], 0), (108, .aload_n 0, 109, [], 0), (109, .getfield 35, 112, [], 0)]
theorem k_Rf_cycle_3 : i_Rf_cycle_3.all (px_okb prog_8_method_18_code) = true := by decide +kernel
def i_Rf_cycle_4 : List px_Rw := [(112, .iload_n 2, 113, [], 0), (113, .iaload, 114, [], 0), (114, .iconst 2, 115, [], 2), (115, .if_icmp .le 11, 118, [126], 0), (118, .aload_n 0, 119, [], 0), (119, .iload_n 2, 120, [], 0), (120, .bipush 7, 122, [], 7), (122, .iconst 0, 123, [], 0), (123, .invokevirtual 80, 126, [], 0), (126, .iload_n 1, 127, [], 0), (127, .ifCond .eq 31, 130, [158], 0), (130, .aload_n 0, 131, [], 0), (131, .iload_n 2, 132, [], 0), (132, .iconst 3, 133, [], 3), (133, .invokevirtual 76, 136, [], 0), (136, .ifCond .eq 22, 139, [158], 0)]
theorem k_Rf_cycle_4 : i_Rf_cycle_4.all (px_okb prog_8_method_18_code) = true := by decide +kernel
def i_Rf_cycle_5 : List px_Rw := [(139, .aload_n 0, 140, [], 0), (140, .iload_n 2, 141, [], 0), (141, .iconst 0, 142, [], 0), (142, .invokevirtual 76, 145, [], 0), (145, .ifCond .ne 13, 148, [158], 0), (148, .aload_n 0, 149, [], 0), (149, .getfield 32, 152, [], 0), (152, .iload_n 2, 153, [], 0), (153, .dup2, 154, [], 0), (154, .iaload, 155, [], 0), (155, .iconst 1, 156, [], 1), (156, .iadd, 157, [], 0), (157, .iastore, 158, [], 0), (158, .aload_n 0, 159, [], 0), (159, .getfield 32, 162, [], 0), (162, .iload_n 2, 163, [], 0)]
theorem k_Rf_cycle_5 : i_Rf_cycle_5.all (px_okb prog_8_method_18_code) = true := by decide +kernel
def i_Rf_cycle_6 : List px_Rw := [(163, .iaload, 164, [], 0), (164, .bipush 40, 166, [], 40), (166, .if_icmp .ne 38, 169, [204], 0), (169, .aload_n 0, 170, [], 0), (170, .iload_n 2, 171, [], 0), (171, .iconst 3, 172, [], 3), (172, .iconst 0, 173, [], 0), (173, .invokevirtual 80, 176, [], 0), (176, .aload_n 0, 177, [], 0), (177, .getfield 29, 180, [], 0), (180, .iload_n 2, 181, [], 0), (181, .iconst 0, 182, [], 0), (182, .iastore, 183, [], 0), (183, .aload_n 0, 184, [], 0), (184, .getfield 32, 187, [], 0), (187, .iload_n 2, 188, [], 0)]
theorem k_Rf_cycle_6 : i_Rf_cycle_6.all (px_okb prog_8_method_18_code) = true := by decide +kernel
def i_Rf_cycle_7 : List px_Rw := [(188, .iconst 0, 189, [], 0), (189, .iastore, 190, [], 0), (190, .aload_n 0, 191, [], 0), (191, .getfield 35, 194, [], 0), (194, .iload_n 2, 195, [], 0), (195, .iconst 0, 196, [], 0), (196, .iastore, 197, [], 0), (197, .aload_n 0, 198, [], 0), (198, .getfield 50, 201, [], 0), (201, .iload_n 2, 202, [], 0), (202, .iconst 0, 203, [], 0), (203, .iastore, 204, [], 0), (204, .aload_n 0, 205, [], 0), (205, .iload_n 2, 206, [], 0), (206, .iconst 1, 207, [], 1), (207, .iconst 0, 208, [], 0)]
theorem k_Rf_cycle_7 : i_Rf_cycle_7.all (px_okb prog_8_method_18_code) = true := by decide +kernel
def i_Rf_cycle_8 : List px_Rw := [(208, .invokevirtual 80, 211, [], 0), (211, .aload_n 0, 212, [], 0), (212, .iload_n 2, 213, [], 0), (213, .bipush 6, 215, [], 6), (215, .iconst 1, 216, [], 1), (216, .invokevirtual 80, 219, [], 0), (219, .aload_n 0, 220, [], 0), (220, .iload_n 2, 221, [], 0), (221, .invokevirtual 92, 224, [], 0), (224, .iinc 2 1, 227, [], 1), (227, .goto (-210), 230, [17], 0), (230, .aload_n 0, 231, [], 0), (231, .dup, 232, [], 0), (232, .getfield 95, 235, [], 0), (235, .iconst 1, 236, [], 1), (236, .iadd, 237, [], 0)]
theorem k_Rf_cycle_8 : i_Rf_cycle_8.all (px_okb prog_8_method_18_code) = true := by decide +kernel
def i_Rf_cycle_9 : List px_Rw := [(237, .putfield 95, 240, [], 0), (240, .aload_n 0, 241, [], 0), (241, .getfield 95, 244, [], 0), (244, .ireturn, 245, [], 0)]
theorem k_Rf_cycle_9 : i_Rf_cycle_9.all (px_okb prog_8_method_18_code) = true := by decide +kernel
def m_Rf_cycle : px_M := (⟨"TroubleMemoryModel", "cycle", "(Z)I"⟩, prog_8_method_18_code, 3, (Option.some Jvm.ClassFile.FieldType.int), i_Rf_cycle_0 ++ (i_Rf_cycle_1 ++ (i_Rf_cycle_2 ++ (i_Rf_cycle_3 ++ (i_Rf_cycle_4 ++ (i_Rf_cycle_5 ++ (i_Rf_cycle_6 ++ (i_Rf_cycle_7 ++ (i_Rf_cycle_8 ++ (i_Rf_cycle_9))))))))))
theorem g_Rf_cycle : px_good m_Rf_cycle := ⟨px_allapp k_Rf_cycle_0 (px_allapp k_Rf_cycle_1 (px_allapp k_Rf_cycle_2 (px_allapp k_Rf_cycle_3 (px_allapp k_Rf_cycle_4 (px_allapp k_Rf_cycle_5 (px_allapp k_Rf_cycle_6 (px_allapp k_Rf_cycle_7 (px_allapp k_Rf_cycle_8 (k_Rf_cycle_9))))))))), by decide +kernel, w_634, by exact Nat.le_of_ble_eq_true rfl⟩
def i_Rf_status_0 : List px_Rw := [(0, .aload_n 0, 1, [], 0), (1, .iload_n 1, 2, [], 0), (2, .invokevirtual 129, 5, [], 0), (5, .ifCond .eq 7, 8, [12], 0), (8, .iconst (-1), 9, [], -1), (9, .goto 8, 12, [17], 0), (12, .aload_n 0, 13, [], 0), (13, .iload_n 1, 14, [], 0), (14, .invokevirtual 132, 17, [], 0), (17, .ireturn, 18, [], 0)]
theorem k_Rf_status_0 : i_Rf_status_0.all (px_okb prog_8_method_19_code) = true := by decide +kernel
def m_Rf_status : px_M := (⟨"TroubleMemoryModel", "status", "(I)I"⟩, prog_8_method_19_code, 2, (Option.some Jvm.ClassFile.FieldType.int), i_Rf_status_0)
theorem g_Rf_status : px_good m_Rf_status := ⟨k_Rf_status_0, by decide +kernel, w_638, by exact Nat.le_of_ble_eq_true rfl⟩
def i_Rf_snapshot_0 : List px_Rw := [(0, .aload_n 0, 1, [], 0), (1, .iload_n 1, 2, [], 0), (2, .invokevirtual 129, 5, [], 0), (5, .ifCond .ne 12, 8, [17], 0), (8, .aload_n 0, 9, [], 0), (9, .getfield 50, 12, [], 0), (12, .iload_n 1, 13, [], 0), (13, .iaload, 14, [], 0), (14, .ifCond .ne 5, 17, [19], 0), (17, .iconst (-1), 18, [], -1), (18, .ireturn, 19, [], 0), (19, .iload_n 2, 20, [], 0), (20, .ifCond .lt 17, 23, [37], 0), (23, .iload_n 2, 24, [], 0), (24, .iconst 1, 25, [], 1), (25, .if_icmp .gt 12, 28, [37], 0)]
theorem k_Rf_snapshot_0 : i_Rf_snapshot_0.all (px_okb prog_8_method_20_code) = true := by decide +kernel
def i_Rf_snapshot_1 : List px_Rw := [(28, .iload_n 3, 29, [], 0), (29, .ifCond .lt 8, 32, [37], 0), (32, .iload_n 3, 33, [], 0), (33, .iconst 3, 34, [], 3), (34, .if_icmp .le 6, 37, [40], 0), (37, .bipush (-2), 39, [], -2), (39, .ireturn, 40, [], 0), (40, .aload_n 0, 41, [], 0), (41, .getfield 56, 44, [], 0), (44, .bipush 8, 46, [], 8), (46, .iload_n 1, 47, [], 0), (47, .imul, 48, [], 0), (48, .iconst 4, 49, [], 4), (49, .iload_n 2, 50, [], 0), (50, .imul, 51, [], 0), (51, .iadd, 52, [], 0)]
theorem k_Rf_snapshot_1 : i_Rf_snapshot_1.all (px_okb prog_8_method_20_code) = true := by decide +kernel
def i_Rf_snapshot_2 : List px_Rw := [(52, .iload_n 3, 53, [], 0), (53, .iadd, 54, [], 0), (54, .iaload, 55, [], 0), (55, .ireturn, 56, [], 0)]
theorem k_Rf_snapshot_2 : i_Rf_snapshot_2.all (px_okb prog_8_method_20_code) = true := by decide +kernel
def m_Rf_snapshot : px_M := (⟨"TroubleMemoryModel", "snapshot", "(III)I"⟩, prog_8_method_20_code, 4, (Option.some Jvm.ClassFile.FieldType.int), i_Rf_snapshot_0 ++ (i_Rf_snapshot_1 ++ (i_Rf_snapshot_2)))
theorem g_Rf_snapshot : px_good m_Rf_snapshot := ⟨px_allapp k_Rf_snapshot_0 (px_allapp k_Rf_snapshot_1 (k_Rf_snapshot_2)), by decide +kernel, w_642, by exact Nat.le_of_ble_eq_true rfl⟩
def i_Rf_clear_0 : List px_Rw := [(0, .aload_n 0, 1, [], 0), (1, .iconst 0, 2, [], 0), (2, .putfield 70, 5, [], 0), (5, .iload_n 1, 6, [], 0), (6, .ifCond .lt 9, 9, [15], 0), (9, .iload_n 1, 10, [], 0), (10, .bipush 8, 12, [], 8), (12, .if_icmp .le 6, 15, [18], 0), (15, .bipush (-2), 17, [], -2), (17, .ireturn, 18, [], 0), (18, .aload_n 0, 19, [], 0), (19, .getfield 84, 22, [], 0), (22, .ifCond .ne 13, 25, [35], 0), (25, .aload_n 0, 26, [], 0), (26, .getfield 62, 29, [], 0), (29, .bipush 31, 31, [], 31)]
theorem k_Rf_clear_0 : i_Rf_clear_0.all (px_okb prog_8_method_21_code) = true := by decide +kernel
def i_Rf_clear_1 : List px_Rw := [(31, .baload, 32, [], 0), (32, .ifCond .eq 6, 35, [38], 0), (35, .bipush (-3), 37, [], -3), (37, .ireturn, 38, [], 0), (38, .iconst 0, 39, [], 0), (39, .istore_n 2, 40, [], 0), (40, .iconst 1, 41, [], 1), (41, .istore_n 3, 42, [], 0), (42, .iload_n 3, 43, [], 0), (43, .aload_n 0, 44, [], 0), (44, .getfield 73, 47, [], 0), (47, .if_icmp .gt 49, 50, [96], 0), (50, .iload_n 1, 51, [], 0), (51, .ifCond .eq 19, 54, [70], 0), (54, .aload_n 0, 55, [], 0), (55, .getfield 7, 58, [], 0)]
theorem k_Rf_clear_1 : i_Rf_clear_1.all (px_okb prog_8_method_21_code) = true := by decide +kernel
def i_Rf_clear_2 : List px_Rw := [(58, .iload_n 3, 59, [], 0), (59, .iaload, 60, [], 0), (60, .bipush 31, 62, [], 31), (62, .iadd, 63, [], 0), (63, .bipush 32, 65, [], 32), (65, .idiv, 66, [], 0), (66, .iload_n 1, 67, [], 0), (67, .if_icmp .ne 23, 70, [90], 0), (70, .aload_n 0, 71, [], 0), (71, .iload_n 3, 72, [], 0), (72, .invokevirtual 88, 75, [], 0), (75, .aload_n 0, 76, [], 0), (76, .iload_n 3, 77, [], 0), (77, .invokevirtual 92, 80, [], 0), (80, .aload_n 0, 81, [], 0), (81, .getfield 50, 84, [], 0)]
theorem k_Rf_clear_2 : i_Rf_clear_2.all (px_okb prog_8_method_21_code) = true := by decide +kernel
def i_Rf_clear_3 : List px_Rw := [(84, .iload_n 3, 85, [], 0), (85, .iconst 0, 86, [], 0), (86, .iastore, 87, [], 0), (87, .iinc 2 1, 90, [], 1), (90, .iinc 3 1, 93, [], 1), (93, .goto (-51), 96, [42], 0), (96, .iload_n 2, 97, [], 0), (97, .ireturn, 98, [], 0)]
theorem k_Rf_clear_3 : i_Rf_clear_3.all (px_okb prog_8_method_21_code) = true := by decide +kernel
def m_Rf_clear : px_M := (⟨"TroubleMemoryModel", "clear", "(I)I"⟩, prog_8_method_21_code, 4, (Option.some Jvm.ClassFile.FieldType.int), i_Rf_clear_0 ++ (i_Rf_clear_1 ++ (i_Rf_clear_2 ++ (i_Rf_clear_3))))
theorem g_Rf_clear : px_good m_Rf_clear := ⟨px_allapp k_Rf_clear_0 (px_allapp k_Rf_clear_1 (px_allapp k_Rf_clear_2 (k_Rf_clear_3))), by decide +kernel, w_646, by exact Nat.le_of_ble_eq_true rfl⟩
def i_Rf_parent_0 : List px_Rw := [(0, .aload_n 0, 1, [], 0), (1, .iload_n 1, 2, [], 0), (2, .invokevirtual 129, 5, [], 0), (5, .ifCond .ne 15, 8, [20], 0), (8, .iload_n 2, 9, [], 0), (9, .ifCond .lt 11, 12, [20], 0), (12, .iload_n 2, 13, [], 0), (13, .aload_n 0, 14, [], 0), (14, .getfield 73, 17, [], 0), (17, .if_icmp .le 5, 20, [22], 0), (20, .iconst (-1), 21, [], -1), (21, .ireturn, 22, [], 0), (22, .iload_n 1, 23, [], 0), (23, .iload_n 2, 24, [], 0), (24, .if_icmp .ne 6, 27, [30], 0), (27, .bipush (-2), 29, [], -2)]
theorem k_Rf_parent_0 : i_Rf_parent_0.all (px_okb prog_8_method_22_code) = true := by decide +kernel
def i_Rf_parent_1 : List px_Rw := [(29, .ireturn, 30, [], 0), (30, .aload_n 0, 31, [], 0), (31, .getfield 84, 34, [], 0), (34, .ifCond .eq 6, 37, [40], 0), (37, .bipush (-3), 39, [], -3), (39, .ireturn, 40, [], 0), (40, .iload_n 2, 41, [], 0), (41, .istore_n 3, 42, [], 0), (42, .iload_n 3, 43, [], 0), (43, .ifCond .le 21, 46, [64], 0), (46, .iload_n 3, 47, [], 0), (47, .iload_n 1, 48, [], 0), (48, .if_icmp .ne 6, 51, [54], 0), (51, .bipush (-3), 53, [], -3), (53, .ireturn, 54, [], 0), (54, .aload_n 0, 55, [], 0)]
theorem k_Rf_parent_1 : i_Rf_parent_1.all (px_okb prog_8_method_22_code) = true := by decide +kernel
def i_Rf_parent_2 : List px_Rw := [(55, .getfield 19, 58, [], 0), (58, .iload_n 3, 59, [], 0), (59, .iaload, 60, [], 0), (60, .istore_n 3, 61, [], 0), (61, .goto (-19), 64, [42], 0), (64, .aload_n 0, 65, [], 0), (65, .getfield 19, 68, [], 0), (68, .iload_n 1, 69, [], 0), (69, .iload_n 2, 70, [], 0), (70, .iastore, 71, [], 0), (71, .iconst 0, 72, [], 0), (72, .istore_n 3, 73, [], 0), (73, .iload_n 2, 74, [], 0), (74, .istore 4, 76, [], 0), (76, .iload 4, 78, [], 0), (78, .ifCond .le 18, 81, [96], 0)]
theorem k_Rf_parent_2 : i_Rf_parent_2.all (px_okb prog_8_method_22_code) = true := by decide +kernel
def i_Rf_parent_3 : List px_Rw := [(81, .iinc 3 1, 84, [], 1), (84, .aload_n 0, 85, [], 0), (85, .getfield 19, 88, [], 0), (88, .iload 4, 90, [], 0), (90, .iaload, 91, [], 0), (91, .istore 4, 93, [], 0), (93, .goto (-17), 96, [76], 0), (96, .iload_n 3, 97, [], 0), (97, .ireturn, 98, [], 0)]
theorem k_Rf_parent_3 : i_Rf_parent_3.all (px_okb prog_8_method_22_code) = true := by decide +kernel
def m_Rf_parent : px_M := (⟨"TroubleMemoryModel", "parent", "(II)I"⟩, prog_8_method_22_code, 5, (Option.some Jvm.ClassFile.FieldType.int), i_Rf_parent_0 ++ (i_Rf_parent_1 ++ (i_Rf_parent_2 ++ (i_Rf_parent_3))))
theorem g_Rf_parent : px_good m_Rf_parent := ⟨px_allapp k_Rf_parent_0 (px_allapp k_Rf_parent_1 (px_allapp k_Rf_parent_2 (k_Rf_parent_3))), by decide +kernel, w_650, by exact Nat.le_of_ble_eq_true rfl⟩
def i_Rf_enable_0 : List px_Rw := [(0, .aload_n 0, 1, [], 0), (1, .iconst 0, 2, [], 0), (2, .putfield 70, 5, [], 0), (5, .iload_n 1, 6, [], 0), (6, .ifCond .lt 9, 9, [15], 0), (9, .iload_n 1, 10, [], 0), (10, .bipush 31, 12, [], 31), (12, .if_icmp .le 5, 15, [17], 0), (15, .iconst (-1), 16, [], -1), (16, .ireturn, 17, [], 0), (17, .aload_n 0, 18, [], 0), (18, .getfield 84, 21, [], 0), (21, .ifCond .eq 6, 24, [27], 0), (24, .bipush (-3), 26, [], -3), (26, .ireturn, 27, [], 0), (27, .aload_n 0, 28, [], 0)]
theorem k_Rf_enable_0 : i_Rf_enable_0.all (px_okb prog_8_method_23_code) = true := by decide +kernel
def i_Rf_enable_1 : List px_Rw := [(28, .getfield 62, 31, [], 0), (31, .iload_n 1, 32, [], 0), (32, .iload_n 2, 33, [], 0), (33, .ifCond .ne 7, 36, [40], 0), (36, .iconst 1, 37, [], 1), (37, .goto 4, 40, [41], 0), (40, .iconst 0, 41, [], 0), (41, .bastore, 42, [], 0), (42, .iconst 0, 43, [], 0), (43, .istore_n 3, 44, [], 0), (44, .iconst 0, 45, [], 0), (45, .istore 4, 47, [], 0), (47, .iload 4, 49, [], 0), (49, .bipush 32, 51, [], 32), (51, .if_icmp .ge 27, 54, [78], 0), (54, .aload_n 0, 55, [], 0)]
theorem k_Rf_enable_1 : i_Rf_enable_1.all (px_okb prog_8_method_23_code) = true := by decide +kernel
def i_Rf_enable_2 : List px_Rw := [(55, .getfield 62, 58, [], 0), (58, .iload 4, 60, [], 0), (60, .baload, 61, [], 0), (61, .ifCond .eq 7, 64, [68], 0), (64, .iload_n 3, 65, [], 0), (65, .goto 6, 68, [71], 0), (68, .iload_n 3, 69, [], 0), (69, .iconst 1, 70, [], 1), (70, .iadd, 71, [], 0), (71, .istore_n 3, 72, [], 0), (72, .iinc 4 1, 75, [], 1), (75, .goto (-28), 78, [47], 0), (78, .iload_n 3, 79, [], 0), (79, .ireturn, 80, [], 0)]
theorem k_Rf_enable_2 : i_Rf_enable_2.all (px_okb prog_8_method_23_code) = true := by decide +kernel
def m_Rf_enable : px_M := (⟨"TroubleMemoryModel", "enable", "(IZ)I"⟩, prog_8_method_23_code, 5, (Option.some Jvm.ClassFile.FieldType.int), i_Rf_enable_0 ++ (i_Rf_enable_1 ++ (i_Rf_enable_2)))
theorem g_Rf_enable : px_good m_Rf_enable := ⟨px_allapp k_Rf_enable_0 (px_allapp k_Rf_enable_1 (k_Rf_enable_2)), by decide +kernel, w_654, by exact Nat.le_of_ble_eq_true rfl⟩
def i_Rf_lamp_0 : List px_Rw := [(0, .aload_n 0, 1, [], 0), (1, .iconst 0, 2, [], 0), (2, .putfield 70, 5, [], 0), (5, .iload_n 1, 6, [], 0), (6, .ifCond .lt 8, 9, [14], 0), (9, .iload_n 1, 10, [], 0), (10, .iconst 3, 11, [], 3), (11, .if_icmp .le 6, 14, [17], 0), (14, .bipush (-2), 16, [], -2), (16, .ireturn, 17, [], 0), (17, .iload_n 1, 18, [], 0), (18, .ifCond .ne 18, 21, [36], 0), (21, .aload_n 0, 22, [], 0), (22, .bipush 7, 24, [], 7), (24, .invokevirtual 101, 27, [], 0), (27, .ifCond .le 7, 30, [34], 0)]
theorem k_Rf_lamp_0 : i_Rf_lamp_0.all (px_okb prog_8_method_24_code) = true := by decide +kernel
def i_Rf_lamp_1 : List px_Rw := [(30, .iconst 1, 31, [], 1), (31, .goto 4, 34, [35], 0), (34, .iconst 0, 35, [], 0), (35, .ireturn, 36, [], 0), (36, .aload_n 0, 37, [], 0), (37, .iload_n 1, 38, [], 0), (38, .iconst 1, 39, [], 1), (39, .if_icmp .ne 7, 42, [46], 0), (42, .iconst 3, 43, [], 3), (43, .goto 13, 46, [56], 0), (46, .iload_n 1, 47, [], 0), (47, .iconst 2, 48, [], 2), (48, .if_icmp .ne 7, 51, [55], 0), (51, .iconst 2, 52, [], 2), (52, .goto 4, 55, [56], 0), (55, .iconst 0, 56, [], 0)]
theorem k_Rf_lamp_1 : i_Rf_lamp_1.all (px_okb prog_8_method_24_code) = true := by decide +kernel
def i_Rf_lamp_2 : List px_Rw := [(56, .invokevirtual 101, 59, [], 0), (59, .ireturn, 60, [], 0)]
theorem k_Rf_lamp_2 : i_Rf_lamp_2.all (px_okb prog_8_method_24_code) = true := by decide +kernel
def m_Rf_lamp : px_M := (⟨"TroubleMemoryModel", "lamp", "(I)I"⟩, prog_8_method_24_code, 2, (Option.some Jvm.ClassFile.FieldType.int), i_Rf_lamp_0 ++ (i_Rf_lamp_1 ++ (i_Rf_lamp_2)))
theorem g_Rf_lamp : px_good m_Rf_lamp := ⟨px_allapp k_Rf_lamp_0 (px_allapp k_Rf_lamp_1 (k_Rf_lamp_2)), by decide +kernel, w_658, by exact Nat.le_of_ble_eq_true rfl⟩
def i_Rf_stored_0 : List px_Rw := [(0, .aload_n 0, 1, [], 0), (1, .iconst 0, 2, [], 0), (2, .putfield 70, 5, [], 0), (5, .iload_n 1, 6, [], 0), (6, .iconst (-1), 7, [], -1), (7, .if_icmp .ne 12, 10, [19], 0), (10, .iload_n 2, 11, [], 0), (11, .ifCond .ne 8, 14, [19], 0), (14, .aload_n 0, 15, [], 0), (15, .invokevirtual 109, 18, [], 0), (18, .ireturn, 19, [], 0), (19, .iload_n 1, 20, [], 0), (20, .ifCond .lt 11, 23, [31], 0), (23, .iload_n 1, 24, [], 0), (24, .aload_n 0, 25, [], 0), (25, .invokevirtual 109, 28, [], 0)]
theorem k_Rf_stored_0 : i_Rf_stored_0.all (px_okb prog_8_method_25_code) = true := by decide +kernel
def i_Rf_stored_1 : List px_Rw := [(28, .if_icmp .lt 5, 31, [33], 0), (31, .iconst (-1), 32, [], -1), (32, .ireturn, 33, [], 0), (33, .iload_n 2, 34, [], 0), (34, .ifCond .lt 8, 37, [42], 0), (37, .iload_n 2, 38, [], 0), (38, .iconst 2, 39, [], 2), (39, .if_icmp .le 6, 42, [45], 0), (42, .bipush (-2), 44, [], -2), (44, .ireturn, 45, [], 0), (45, .iconst 1, 46, [], 1), (46, .istore_n 3, 47, [], 0), (47, .iload_n 3, 48, [], 0), (48, .aload_n 0, 49, [], 0), (49, .getfield 73, 52, [], 0), (52, .if_icmp .gt 111, 55, [163], 0)]
theorem k_Rf_stored_1 : i_Rf_stored_1.all (px_okb prog_8_method_25_code) = true := by decide +kernel
def i_Rf_stored_2 : List px_Rw := [(55, .iconst 0, 56, [], 0), (56, .istore 4, 58, [], 0), (58, .iconst 1, 59, [], 1), (59, .istore 5, 61, [], 0), (61, .iload 5, 63, [], 0), (63, .aload_n 0, 64, [], 0), (64, .getfield 73, 67, [], 0), (67, .if_icmp .gt 46, 70, [113], 0), (70, .aload_n 0, 71, [], 0), (71, .getfield 50, 74, [], 0), (74, .iload 5, 76, [], 0), (76, .iaload, 77, [], 0), (77, .ifCond .le 26, 80, [103], 0), (80, .aload_n 0, 81, [], 0), (81, .getfield 50, 84, [], 0), (84, .iload 5, 86, [], 0)]
theorem k_Rf_stored_2 : i_Rf_stored_2.all (px_okb prog_8_method_25_code) = true := by decide +kernel
def i_Rf_stored_3 : List px_Rw := [(86, .iaload, 87, [], 0), (87, .aload_n 0, 88, [], 0), (88, .getfield 50, 91, [], 0), (91, .iload_n 3, 92, [], 0), (92, .iaload, 93, [], 0), (93, .if_icmp .ge 10, 96, [103], 0), (96, .iload 4, 98, [], 0), (98, .iconst 1, 99, [], 1), (99, .iadd, 100, [], 0), (100, .goto 5, 103, [105], 0), (103, .iload 4, 105, [], 0), (105, .istore 4, 107, [], 0), (107, .iinc 5 1, 110, [], 1), (110, .goto (-49), 113, [61], 0), (113, .aload_n 0, 114, [], 0), (114, .getfield 50, 117, [], 0)]
theorem k_Rf_stored_3 : i_Rf_stored_3.all (px_okb prog_8_method_25_code) = true := by decide +kernel
def i_Rf_stored_4 : List px_Rw := [(117, .iload_n 3, 118, [], 0), (118, .iaload, 119, [], 0), (119, .ifCond .le 38, 122, [157], 0), (122, .iload 4, 124, [], 0), (124, .iload_n 1, 125, [], 0), (125, .if_icmp .ne 32, 128, [157], 0), (128, .iload_n 2, 129, [], 0), (129, .ifCond .ne 7, 132, [136], 0), (132, .iload_n 3, 133, [], 0), (133, .goto 23, 136, [156], 0), (136, .iload_n 2, 137, [], 0), (137, .iconst 1, 138, [], 1), (138, .if_icmp .ne 12, 141, [150], 0), (141, .aload_n 0, 142, [], 0), (142, .getfield 53, 145, [], 0), (145, .iload_n 3, 146, [], 0)]
theorem k_Rf_stored_4 : i_Rf_stored_4.all (px_okb prog_8_method_25_code) = true := by decide +kernel
def i_Rf_stored_5 : List px_Rw := [(146, .iaload, 147, [], 0), (147, .goto 9, 150, [156], 0), (150, .aload_n 0, 151, [], 0), (151, .getfield 7, 154, [], 0), (154, .iload_n 3, 155, [], 0), (155, .iaload, 156, [], 0), (156, .ireturn, 157, [], 0), (157, .iinc 3 1, 160, [], 1), (160, .goto (-113), 163, [47], 0), (163, .iconst (-1), 164, [], -1), (164, .ireturn, 165, [], 0)]
theorem k_Rf_stored_5 : i_Rf_stored_5.all (px_okb prog_8_method_25_code) = true := by decide +kernel
def m_Rf_stored : px_M := (⟨"TroubleMemoryModel", "stored", "(II)I"⟩, prog_8_method_25_code, 6, (Option.some Jvm.ClassFile.FieldType.int), i_Rf_stored_0 ++ (i_Rf_stored_1 ++ (i_Rf_stored_2 ++ (i_Rf_stored_3 ++ (i_Rf_stored_4 ++ (i_Rf_stored_5))))))
theorem g_Rf_stored : px_good m_Rf_stored := ⟨px_allapp k_Rf_stored_0 (px_allapp k_Rf_stored_1 (px_allapp k_Rf_stored_2 (px_allapp k_Rf_stored_3 (px_allapp k_Rf_stored_4 (k_Rf_stored_5))))), by decide +kernel, w_662, by exact Nat.le_of_ble_eq_true rfl⟩
def i_Rf_cut_0 : List px_Rw := [(0, .aload_n 0, 1, [], 0), (1, .iconst 0, 2, [], 0), (2, .putfield 70, 5, [], 0), (5, .aload_n 0, 6, [], 0), (6, .getfield 84, 9, [], 0), (9, .ifCond .eq 6, 12, [15], 0), (12, .bipush (-3), 14, [], -3), (14, .ireturn, 15, [], 0), (15, .aload_n 0, 16, [], 0), (16, .iconst 1, 17, [], 1), (17, .putfield 84, 20, [], 0), (20, .aload_n 0, 21, [], 0), (21, .invokevirtual 109, 24, [], 0), (24, .ireturn, 25, [], 0)]
theorem k_Rf_cut_0 : i_Rf_cut_0.all (px_okb prog_8_method_26_code) = true := by decide +kernel
def m_Rf_cut : px_M := (⟨"TroubleMemoryModel", "cut", "()I"⟩, prog_8_method_26_code, 1, (Option.some Jvm.ClassFile.FieldType.int), i_Rf_cut_0)
theorem g_Rf_cut : px_good m_Rf_cut := ⟨k_Rf_cut_0, by decide +kernel, w_666, by exact Nat.le_of_ble_eq_true rfl⟩
def i_Rf_start_0 : List px_Rw := [(0, .aload_n 0, 1, [], 0), (1, .iconst 0, 2, [], 0), (2, .putfield 70, 5, [], 0), (5, .aload_n 0, 6, [], 0), (6, .getfield 84, 9, [], 0), (9, .ifCond .ne 6, 12, [15], 0), (12, .bipush (-3), 14, [], -3), (14, .ireturn, 15, [], 0), (15, .aload_n 0, 16, [], 0), (16, .iconst 0, 17, [], 0), (17, .putfield 84, 20, [], 0), (20, .iconst 0, 21, [], 0), (21, .istore_n 1, 22, [], 0), (22, .iload_n 1, 23, [], 0), (23, .bipush 32, 25, [], 32), (25, .if_icmp .ge 16, 28, [41], 0)]
theorem k_Rf_start_0 : i_Rf_start_0.all (px_okb prog_8_method_27_code) = true := by decide +kernel
def i_Rf_start_1 : List px_Rw := [(28, .aload_n 0, 29, [], 0), (29, .getfield 62, 32, [], 0), (32, .iload_n 1, 33, [], 0), (33, .iconst 0, 34, [], 0), (34, .bastore, 35, [], 0), (35, .iinc 1 1, 38, [], 1), (38, .goto (-16), 41, [22], 0), (41, .iconst 1, 42, [], 1), (42, .istore_n 1, 43, [], 0), (43, .iload_n 1, 44, [], 0), (44, .aload_n 0, 45, [], 0), (45, .getfield 73, 48, [], 0), (48, .if_icmp .gt 83, 51, [131], 0), (51, .iconst 0, 52, [], 0), (52, .istore_n 2, 53, [], 0), (53, .iload_n 2, 54, [], 0)]
theorem k_Rf_start_1 : i_Rf_start_1.all (px_okb prog_8_method_27_code) = true := by decide +kernel
def i_Rf_start_2 : List px_Rw := [(54, .bipush 8, 56, [], 8), (56, .if_icmp .ge 26, 59, [82], 0), (59, .aload_n 0, 60, [], 0), (60, .iload_n 1, 61, [], 0), (61, .iload_n 2, 62, [], 0), (62, .aload_n 0, 63, [], 0), (63, .getfield 38, 66, [], 0), (66, .bipush 8, 68, [], 8), (68, .iload_n 1, 69, [], 0), (69, .imul, 70, [], 0), (70, .iload_n 2, 71, [], 0), (71, .iadd, 72, [], 0), (72, .baload, 73, [], 0), (73, .invokevirtual 80, 76, [], 0), (76, .iinc 2 1, 79, [], 1), (79, .goto (-26), 82, [53], 0)]
theorem k_Rf_start_2 : i_Rf_start_2.all (px_okb prog_8_method_27_code) = true := by decide +kernel
def i_Rf_start_3 : List px_Rw := [(82, .aload_n 0, 83, [], 0), (83, .getfield 29, 86, [], 0), (86, .iload_n 1, 87, [], 0), (87, .aload_n 0, 88, [], 0), (88, .getfield 41, 91, [], 0), (91, .iload_n 1, 92, [], 0), (92, .iaload, 93, [], 0), (93, .iastore, 94, [], 0), (94, .aload_n 0, 95, [], 0), (95, .getfield 32, 98, [], 0), (98, .iload_n 1, 99, [], 0), (99, .aload_n 0, 100, [], 0), (100, .getfield 44, 103, [], 0), (103, .iload_n 1, 104, [], 0), (104, .iaload, 105, [], 0), (105, .iastore, 106, [], 0)]
theorem k_Rf_start_3 : i_Rf_start_3.all (px_okb prog_8_method_27_code) = true := by decide +kernel
def i_Rf_start_4 : List px_Rw := [(106, .aload_n 0, 107, [], 0), (107, .getfield 35, 110, [], 0), (110, .iload_n 1, 111, [], 0), (111, .aload_n 0, 112, [], 0), (112, .getfield 47, 115, [], 0), (115, .iload_n 1, 116, [], 0), (116, .iaload, 117, [], 0), (117, .iastore, 118, [], 0), (118, .aload_n 0, 119, [], 0), (119, .getfield 22, 122, [], 0), (122, .iload_n 1, 123, [], 0), (123, .iconst 0, 124, [], 0), (124, .iastore, 125, [], 0), (125, .iinc 1 1, 128, [], 1), (128, .goto (-85), 131, [43], 0), (131, .aload_n 0, 132, [], 0)]
theorem k_Rf_start_4 : i_Rf_start_4.all (px_okb prog_8_method_27_code) = true := by decide +kernel
def i_Rf_start_5 : List px_Rw := [(132, .invokevirtual 109, 135, [], 0), (135, .ireturn, 136, [], 0)]
theorem k_Rf_start_5 : i_Rf_start_5.all (px_okb prog_8_method_27_code) = true := by decide +kernel
def m_Rf_start : px_M := (⟨"TroubleMemoryModel", "start", "()I"⟩, prog_8_method_27_code, 3, (Option.some Jvm.ClassFile.FieldType.int), i_Rf_start_0 ++ (i_Rf_start_1 ++ (i_Rf_start_2 ++ (i_Rf_start_3 ++ (i_Rf_start_4 ++ (i_Rf_start_5))))))
theorem g_Rf_start : px_good m_Rf_start := ⟨px_allapp k_Rf_start_0 (px_allapp k_Rf_start_1 (px_allapp k_Rf_start_2 (px_allapp k_Rf_start_3 (px_allapp k_Rf_start_4 (k_Rf_start_5))))), by decide +kernel, w_670, by exact Nat.le_of_ble_eq_true rfl⟩
def i_Rf_displaced_0 : List px_Rw := [(0, .aload_n 0, 1, [], 0), (1, .iconst 0, 2, [], 0), (2, .putfield 70, 5, [], 0), (5, .iload_n 1, 6, [], 0), (6, .ifCond .lt 11, 9, [17], 0), (9, .iload_n 1, 10, [], 0), (10, .aload_n 0, 11, [], 0), (11, .getfield 116, 14, [], 0), (14, .if_icmp .lt 7, 17, [21], 0), (17, .iconst (-1), 18, [], -1), (18, .goto 9, 21, [27], 0), (21, .aload_n 0, 22, [], 0), (22, .getfield 59, 25, [], 0), (25, .iload_n 1, 26, [], 0), (26, .iaload, 27, [], 0), (27, .ireturn, 28, [], 0)]
theorem k_Rf_displaced_0 : i_Rf_displaced_0.all (px_okb prog_8_method_28_code) = true := by decide +kernel
def m_Rf_displaced : px_M := (⟨"TroubleMemoryModel", "displaced", "(I)I"⟩, prog_8_method_28_code, 2, (Option.some Jvm.ClassFile.FieldType.int), i_Rf_displaced_0)
theorem g_Rf_displaced : px_good m_Rf_displaced := ⟨k_Rf_displaced_0, by decide +kernel, w_674, by exact Nat.le_of_ble_eq_true rfl⟩
def i_Rf_age_0 : List px_Rw := [(0, .aload_n 0, 1, [], 0), (1, .iload_n 1, 2, [], 0), (2, .invokevirtual 129, 5, [], 0), (5, .ifCond .eq 7, 8, [12], 0), (8, .iconst (-1), 9, [], -1), (9, .goto 9, 12, [18], 0), (12, .aload_n 0, 13, [], 0), (13, .getfield 32, 16, [], 0), (16, .iload_n 1, 17, [], 0), (17, .iaload, 18, [], 0), (18, .ireturn, 19, [], 0)]
theorem k_Rf_age_0 : i_Rf_age_0.all (px_okb prog_8_method_29_code) = true := by decide +kernel
def m_Rf_age : px_M := (⟨"TroubleMemoryModel", "age", "(I)I"⟩, prog_8_method_29_code, 2, (Option.some Jvm.ClassFile.FieldType.int), i_Rf_age_0)
theorem g_Rf_age : px_good m_Rf_age := ⟨k_Rf_age_0, by decide +kernel, w_678, by exact Nat.le_of_ble_eq_true rfl⟩
def i_Lw_law_0 : List px_Rw := [(0, .new 7, 3, [], 0), (3, .dup, 4, [], 0), (4, .aload_n 0, 5, [], 0), (5, .iconst 0, 6, [], 0), (6, .invokestatic 9, 9, [], 0), (9, .invokespecial 15, 12, [], 0), (12, .astore_n 1, 13, [], 0), (13, .new 18, 16, [], 0), (16, .dup, 17, [], 0), (17, .aload_n 0, 18, [], 0), (18, .iconst 0, 19, [], 0), (19, .invokestatic 9, 22, [], 0), (22, .invokespecial 20, 25, [], 0), (25, .astore_n 2, 26, [], 0), (26, .iconst 1, 27, [], 1), (27, .istore_n 3, 28, [], 0)]
theorem k_Lw_law_0 : i_Lw_law_0.all (px_okb code) = true := by decide +kernel
def i_Lw_law_1 : List px_Rw := [(28, .iload_n 3, 29, [], 0), (29, .aload_n 0, 30, [], 0), (30, .arraylength, 31, [], 0), (31, .iconst 4, 32, [], 4), (32, .isub, 33, [], 0), (33, .if_icmp .gt 515, 36, [548], 0), (36, .aload_n 0, 37, [], 0), (37, .iload_n 3, 38, [], 0), (38, .iaload, 39, [], 0), (39, .bipush 15, 41, [], 15), (41, .iand, 42, [], 0), (42, .tableswitch 500 0 13 #[70, 113, 162, 201, 224, 267, 290, 323, 372, 395, 428, 441, 454, 477], 112, [542, 112, 155, 204, 243, 266, 309, 332, 365, 414, 437, 470, 483, 496, 519], 0), (112, .aload_n 1, 113, [], 0), (113, .aload_n 0, 114, [], 0), (114, .iload_n 3, 115, [], 0), (115, .iconst 1, 116, [], 1)]
theorem k_Lw_law_1 : i_Lw_law_1.all (px_okb code) = true := by decide +kernel
def i_Lw_law_2 : List px_Rw := [(116, .iadd, 117, [], 0), (117, .iaload, 118, [], 0), (118, .aload_n 0, 119, [], 0), (119, .iload_n 3, 120, [], 0), (120, .iconst 2, 121, [], 2), (121, .iadd, 122, [], 0), (122, .iaload, 123, [], 0), (123, .aload_n 0, 124, [], 0), (124, .iload_n 3, 125, [], 0), (125, .iconst 3, 126, [], 3), (126, .iadd, 127, [], 0), (127, .iaload, 128, [], 0), (128, .invokevirtual 21, 131, [], 0), (131, .aload_n 2, 132, [], 0), (132, .aload_n 0, 133, [], 0), (133, .iload_n 3, 134, [], 0)]
theorem k_Lw_law_2 : i_Lw_law_2.all (px_okb code) = true := by decide +kernel
def i_Lw_law_3 : List px_Rw := [(134, .iconst 1, 135, [], 1), (135, .iadd, 136, [], 0), (136, .iaload, 137, [], 0), (137, .aload_n 0, 138, [], 0), (138, .iload_n 3, 139, [], 0), (139, .iconst 2, 140, [], 2), (140, .iadd, 141, [], 0), (141, .iaload, 142, [], 0), (142, .aload_n 0, 143, [], 0), (143, .iload_n 3, 144, [], 0), (144, .iconst 3, 145, [], 3), (145, .iadd, 146, [], 0), (146, .iaload, 147, [], 0), (147, .invokevirtual 25, 150, [], 0), (150, .if_icmp .eq 392, 153, [542], 0), (153, .iconst 0, 154, [], 0)]
theorem k_Lw_law_3 : i_Lw_law_3.all (px_okb code) = true := by decide +kernel
def i_Lw_law_4 : List px_Rw := [(154, .ireturn, 155, [], 0), (155, .aload_n 1, 156, [], 0), (156, .aload_n 0, 157, [], 0), (157, .iload_n 3, 158, [], 0), (158, .iconst 1, 159, [], 1), (159, .iadd, 160, [], 0), (160, .iaload, 161, [], 0), (161, .aload_n 0, 162, [], 0), (162, .iload_n 3, 163, [], 0), (163, .iconst 2, 164, [], 2), (164, .iadd, 165, [], 0), (165, .iaload, 166, [], 0), (166, .ifCond .eq 7, 169, [173], 0), (169, .iconst 1, 170, [], 1), (170, .goto 4, 173, [174], 0), (173, .iconst 0, 174, [], 0)]
theorem k_Lw_law_4 : i_Lw_law_4.all (px_okb code) = true := by decide +kernel
def i_Lw_law_5 : List px_Rw := [(174, .invokevirtual 26, 177, [], 0), (177, .aload_n 2, 178, [], 0), (178, .aload_n 0, 179, [], 0), (179, .iload_n 3, 180, [], 0), (180, .iconst 1, 181, [], 1), (181, .iadd, 182, [], 0), (182, .iaload, 183, [], 0), (183, .aload_n 0, 184, [], 0), (184, .iload_n 3, 185, [], 0), (185, .iconst 2, 186, [], 2), (186, .iadd, 187, [], 0), (187, .iaload, 188, [], 0), (188, .ifCond .eq 7, 191, [195], 0), (191, .iconst 1, 192, [], 1), (192, .goto 4, 195, [196], 0), (195, .iconst 0, 196, [], 0)]
theorem k_Lw_law_5 : i_Lw_law_5.all (px_okb code) = true := by decide +kernel
def i_Lw_law_6 : List px_Rw := [(196, .invokevirtual 30, 199, [], 0), (199, .if_icmp .eq 343, 202, [542], 0), (202, .iconst 0, 203, [], 0), (203, .ireturn, 204, [], 0), (204, .aload_n 1, 205, [], 0), (205, .aload_n 0, 206, [], 0), (206, .iload_n 3, 207, [], 0), (207, .iconst 1, 208, [], 1), (208, .iadd, 209, [], 0), (209, .iaload, 210, [], 0), (210, .ifCond .eq 7, 213, [217], 0), (213, .iconst 1, 214, [], 1), (214, .goto 4, 217, [218], 0), (217, .iconst 0, 218, [], 0), (218, .invokevirtual 31, 221, [], 0), (221, .aload_n 2, 222, [], 0)]
theorem k_Lw_law_6 : i_Lw_law_6.all (px_okb code) = true := by decide +kernel
def i_Lw_law_7 : List px_Rw := [(222, .aload_n 0, 223, [], 0), (223, .iload_n 3, 224, [], 0), (224, .iconst 1, 225, [], 1), (225, .iadd, 226, [], 0), (226, .iaload, 227, [], 0), (227, .ifCond .eq 7, 230, [234], 0), (230, .iconst 1, 231, [], 1), (231, .goto 4, 234, [235], 0), (234, .iconst 0, 235, [], 0), (235, .invokevirtual 35, 238, [], 0), (238, .if_icmp .eq 304, 241, [542], 0), (241, .iconst 0, 242, [], 0), (242, .ireturn, 243, [], 0), (243, .aload_n 1, 244, [], 0), (244, .aload_n 0, 245, [], 0), (245, .iload_n 3, 246, [], 0)]
theorem k_Lw_law_7 : i_Lw_law_7.all (px_okb code) = true := by decide +kernel
def i_Lw_law_8 : List px_Rw := [(246, .iconst 1, 247, [], 1), (247, .iadd, 248, [], 0), (248, .iaload, 249, [], 0), (249, .invokevirtual 36, 252, [], 0), (252, .aload_n 2, 253, [], 0), (253, .aload_n 0, 254, [], 0), (254, .iload_n 3, 255, [], 0), (255, .iconst 1, 256, [], 1), (256, .iadd, 257, [], 0), (257, .iaload, 258, [], 0), (258, .invokevirtual 40, 261, [], 0), (261, .if_icmp .eq 281, 264, [542], 0), (264, .iconst 0, 265, [], 0), (265, .ireturn, 266, [], 0), (266, .aload_n 1, 267, [], 0), (267, .aload_n 0, 268, [], 0)]
theorem k_Lw_law_8 : i_Lw_law_8.all (px_okb code) = true := by decide +kernel
def i_Lw_law_9 : List px_Rw := [(268, .iload_n 3, 269, [], 0), (269, .iconst 1, 270, [], 1), (270, .iadd, 271, [], 0), (271, .iaload, 272, [], 0), (272, .aload_n 0, 273, [], 0), (273, .iload_n 3, 274, [], 0), (274, .iconst 2, 275, [], 2), (275, .iadd, 276, [], 0), (276, .iaload, 277, [], 0), (277, .aload_n 0, 278, [], 0), (278, .iload_n 3, 279, [], 0), (279, .iconst 3, 280, [], 3), (280, .iadd, 281, [], 0), (281, .iaload, 282, [], 0), (282, .invokevirtual 41, 285, [], 0), (285, .aload_n 2, 286, [], 0)]
theorem k_Lw_law_9 : i_Lw_law_9.all (px_okb code) = true := by decide +kernel
def i_Lw_law_10 : List px_Rw := [(286, .aload_n 0, 287, [], 0), (287, .iload_n 3, 288, [], 0), (288, .iconst 1, 289, [], 1), (289, .iadd, 290, [], 0), (290, .iaload, 291, [], 0), (291, .aload_n 0, 292, [], 0), (292, .iload_n 3, 293, [], 0), (293, .iconst 2, 294, [], 2), (294, .iadd, 295, [], 0), (295, .iaload, 296, [], 0), (296, .aload_n 0, 297, [], 0), (297, .iload_n 3, 298, [], 0), (298, .iconst 3, 299, [], 3), (299, .iadd, 300, [], 0), (300, .iaload, 301, [], 0), (301, .invokevirtual 44, 304, [], 0)]
theorem k_Lw_law_10 : i_Lw_law_10.all (px_okb code) = true := by decide +kernel
def i_Lw_law_11 : List px_Rw := [(304, .if_icmp .eq 238, 307, [542], 0), (307, .iconst 0, 308, [], 0), (308, .ireturn, 309, [], 0), (309, .aload_n 1, 310, [], 0), (310, .aload_n 0, 311, [], 0), (311, .iload_n 3, 312, [], 0), (312, .iconst 1, 313, [], 1), (313, .iadd, 314, [], 0), (314, .iaload, 315, [], 0), (315, .invokevirtual 45, 318, [], 0), (318, .aload_n 2, 319, [], 0), (319, .aload_n 0, 320, [], 0), (320, .iload_n 3, 321, [], 0), (321, .iconst 1, 322, [], 1), (322, .iadd, 323, [], 0), (323, .iaload, 324, [], 0)]
theorem k_Lw_law_11 : i_Lw_law_11.all (px_okb code) = true := by decide +kernel
def i_Lw_law_12 : List px_Rw := [(324, .invokevirtual 48, 327, [], 0), (327, .if_icmp .eq 215, 330, [542], 0), (330, .iconst 0, 331, [], 0), (331, .ireturn, 332, [], 0), (332, .aload_n 1, 333, [], 0), (333, .aload_n 0, 334, [], 0), (334, .iload_n 3, 335, [], 0), (335, .iconst 1, 336, [], 1), (336, .iadd, 337, [], 0), (337, .iaload, 338, [], 0), (338, .aload_n 0, 339, [], 0), (339, .iload_n 3, 340, [], 0), (340, .iconst 2, 341, [], 2), (341, .iadd, 342, [], 0), (342, .iaload, 343, [], 0), (343, .invokevirtual 49, 346, [], 0)]
theorem k_Lw_law_12 : i_Lw_law_12.all (px_okb code) = true := by decide +kernel
def i_Lw_law_13 : List px_Rw := [(346, .aload_n 2, 347, [], 0), (347, .aload_n 0, 348, [], 0), (348, .iload_n 3, 349, [], 0), (349, .iconst 1, 350, [], 1), (350, .iadd, 351, [], 0), (351, .iaload, 352, [], 0), (352, .aload_n 0, 353, [], 0), (353, .iload_n 3, 354, [], 0), (354, .iconst 2, 355, [], 2), (355, .iadd, 356, [], 0), (356, .iaload, 357, [], 0), (357, .invokevirtual 53, 360, [], 0), (360, .if_icmp .eq 182, 363, [542], 0), (363, .iconst 0, 364, [], 0), (364, .ireturn, 365, [], 0), (365, .aload_n 1, 366, [], 0)]
theorem k_Lw_law_13 : i_Lw_law_13.all (px_okb code) = true := by decide +kernel
def i_Lw_law_14 : List px_Rw := [(366, .aload_n 0, 367, [], 0), (367, .iload_n 3, 368, [], 0), (368, .iconst 1, 369, [], 1), (369, .iadd, 370, [], 0), (370, .iaload, 371, [], 0), (371, .aload_n 0, 372, [], 0), (372, .iload_n 3, 373, [], 0), (373, .iconst 2, 374, [], 2), (374, .iadd, 375, [], 0), (375, .iaload, 376, [], 0), (376, .ifCond .eq 7, 379, [383], 0), (379, .iconst 1, 380, [], 1), (380, .goto 4, 383, [384], 0), (383, .iconst 0, 384, [], 0), (384, .invokevirtual 54, 387, [], 0), (387, .aload_n 2, 388, [], 0)]
theorem k_Lw_law_14 : i_Lw_law_14.all (px_okb code) = true := by decide +kernel
def i_Lw_law_15 : List px_Rw := [(388, .aload_n 0, 389, [], 0), (389, .iload_n 3, 390, [], 0), (390, .iconst 1, 391, [], 1), (391, .iadd, 392, [], 0), (392, .iaload, 393, [], 0), (393, .aload_n 0, 394, [], 0), (394, .iload_n 3, 395, [], 0), (395, .iconst 2, 396, [], 2), (396, .iadd, 397, [], 0), (397, .iaload, 398, [], 0), (398, .ifCond .eq 7, 401, [405], 0), (401, .iconst 1, 402, [], 1), (402, .goto 4, 405, [406], 0), (405, .iconst 0, 406, [], 0), (406, .invokevirtual 57, 409, [], 0), (409, .if_icmp .eq 133, 412, [542], 0)]
theorem k_Lw_law_15 : i_Lw_law_15.all (px_okb code) = true := by decide +kernel
def i_Lw_law_16 : List px_Rw := [(412, .iconst 0, 413, [], 0), (413, .ireturn, 414, [], 0), (414, .aload_n 1, 415, [], 0), (415, .aload_n 0, 416, [], 0), (416, .iload_n 3, 417, [], 0), (417, .iconst 1, 418, [], 1), (418, .iadd, 419, [], 0), (419, .iaload, 420, [], 0), (420, .invokevirtual 58, 423, [], 0), (423, .aload_n 2, 424, [], 0), (424, .aload_n 0, 425, [], 0), (425, .iload_n 3, 426, [], 0), (426, .iconst 1, 427, [], 1), (427, .iadd, 428, [], 0), (428, .iaload, 429, [], 0), (429, .invokevirtual 61, 432, [], 0)]
theorem k_Lw_law_16 : i_Lw_law_16.all (px_okb code) = true := by decide +kernel
def i_Lw_law_17 : List px_Rw := [(432, .if_icmp .eq 110, 435, [542], 0), (435, .iconst 0, 436, [], 0), (436, .ireturn, 437, [], 0), (437, .aload_n 1, 438, [], 0), (438, .aload_n 0, 439, [], 0), (439, .iload_n 3, 440, [], 0), (440, .iconst 1, 441, [], 1), (441, .iadd, 442, [], 0), (442, .iaload, 443, [], 0), (443, .aload_n 0, 444, [], 0), (444, .iload_n 3, 445, [], 0), (445, .iconst 2, 446, [], 2), (446, .iadd, 447, [], 0), (447, .iaload, 448, [], 0), (448, .invokevirtual 62, 451, [], 0), (451, .aload_n 2, 452, [], 0)]
theorem k_Lw_law_17 : i_Lw_law_17.all (px_okb code) = true := by decide +kernel
def i_Lw_law_18 : List px_Rw := [(452, .aload_n 0, 453, [], 0), (453, .iload_n 3, 454, [], 0), (454, .iconst 1, 455, [], 1), (455, .iadd, 456, [], 0), (456, .iaload, 457, [], 0), (457, .aload_n 0, 458, [], 0), (458, .iload_n 3, 459, [], 0), (459, .iconst 2, 460, [], 2), (460, .iadd, 461, [], 0), (461, .iaload, 462, [], 0), (462, .invokevirtual 65, 465, [], 0), (465, .if_icmp .eq 77, 468, [542], 0), (468, .iconst 0, 469, [], 0), (469, .ireturn, 470, [], 0), (470, .aload_n 1, 471, [], 0), (471, .invokevirtual 66, 474, [], 0)]
theorem k_Lw_law_18 : i_Lw_law_18.all (px_okb code) = true := by decide +kernel
def i_Lw_law_19 : List px_Rw := [(474, .aload_n 2, 475, [], 0), (475, .invokevirtual 70, 478, [], 0), (478, .if_icmp .eq 64, 481, [542], 0), (481, .iconst 0, 482, [], 0), (482, .ireturn, 483, [], 0), (483, .aload_n 1, 484, [], 0), (484, .invokevirtual 71, 487, [], 0), (487, .aload_n 2, 488, [], 0), (488, .invokevirtual 74, 491, [], 0), (491, .if_icmp .eq 51, 494, [542], 0), (494, .iconst 0, 495, [], 0), (495, .ireturn, 496, [], 0), (496, .aload_n 1, 497, [], 0), (497, .aload_n 0, 498, [], 0), (498, .iload_n 3, 499, [], 0), (499, .iconst 1, 500, [], 1)]
theorem k_Lw_law_19 : i_Lw_law_19.all (px_okb code) = true := by decide +kernel
def i_Lw_law_20 : List px_Rw := [(500, .iadd, 501, [], 0), (501, .iaload, 502, [], 0), (502, .invokevirtual 75, 505, [], 0), (505, .aload_n 2, 506, [], 0), (506, .aload_n 0, 507, [], 0), (507, .iload_n 3, 508, [], 0), (508, .iconst 1, 509, [], 1), (509, .iadd, 510, [], 0), (510, .iaload, 511, [], 0), (511, .invokevirtual 78, 514, [], 0), (514, .if_icmp .eq 28, 517, [542], 0), (517, .iconst 0, 518, [], 0), (518, .ireturn, 519, [], 0), (519, .aload_n 1, 520, [], 0), (520, .aload_n 0, 521, [], 0), (521, .iload_n 3, 522, [], 0)]
theorem k_Lw_law_20 : i_Lw_law_20.all (px_okb code) = true := by decide +kernel
def i_Lw_law_21 : List px_Rw := [(522, .iconst 1, 523, [], 1), (523, .iadd, 524, [], 0), (524, .iaload, 525, [], 0), (525, .invokevirtual 79, 528, [], 0), (528, .aload_n 2, 529, [], 0), (529, .aload_n 0, 530, [], 0), (530, .iload_n 3, 531, [], 0), (531, .iconst 1, 532, [], 1), (532, .iadd, 533, [], 0), (533, .iaload, 534, [], 0), (534, .invokevirtual 82, 537, [], 0), (537, .if_icmp .eq 5, 540, [542], 0), (540, .iconst 0, 541, [], 0), (541, .ireturn, 542, [], 0), (542, .iinc 3 4, 545, [], 4), (545, .goto (-517), 548, [28], 0)]
theorem k_Lw_law_21 : i_Lw_law_21.all (px_okb code) = true := by decide +kernel
def i_Lw_law_22 : List px_Rw := [(548, .iconst 1, 549, [], 1), (549, .ireturn, 550, [], 0)]
theorem k_Lw_law_22 : i_Lw_law_22.all (px_okb code) = true := by decide +kernel
def m_Lw_law : px_M := (⟨"TroubleMemoryLaw", "law", "([I)Z"⟩, code, 4, (Option.some Jvm.ClassFile.FieldType.boolean), i_Lw_law_0 ++ (i_Lw_law_1 ++ (i_Lw_law_2 ++ (i_Lw_law_3 ++ (i_Lw_law_4 ++ (i_Lw_law_5 ++ (i_Lw_law_6 ++ (i_Lw_law_7 ++ (i_Lw_law_8 ++ (i_Lw_law_9 ++ (i_Lw_law_10 ++ (i_Lw_law_11 ++ (i_Lw_law_12 ++ (i_Lw_law_13 ++ (i_Lw_law_14 ++ (i_Lw_law_15 ++ (i_Lw_law_16 ++ (i_Lw_law_17 ++ (i_Lw_law_18 ++ (i_Lw_law_19 ++ (i_Lw_law_20 ++ (i_Lw_law_21 ++ (i_Lw_law_22)))))))))))))))))))))))
theorem g_Lw_law : px_okM m_Lw_law := px_allapp k_Lw_law_0 (px_allapp k_Lw_law_1 (px_allapp k_Lw_law_2 (px_allapp k_Lw_law_3 (px_allapp k_Lw_law_4 (px_allapp k_Lw_law_5 (px_allapp k_Lw_law_6 (px_allapp k_Lw_law_7 (px_allapp k_Lw_law_8 (px_allapp k_Lw_law_9 (px_allapp k_Lw_law_10 (px_allapp k_Lw_law_11 (px_allapp k_Lw_law_12 (px_allapp k_Lw_law_13 (px_allapp k_Lw_law_14 (px_allapp k_Lw_law_15 (px_allapp k_Lw_law_16 (px_allapp k_Lw_law_17 (px_allapp k_Lw_law_18 (px_allapp k_Lw_law_19 (px_allapp k_Lw_law_20 (px_allapp k_Lw_law_21 (k_Lw_law_22))))))))))))))))))))))
end
section
/-! WHAT THE POOLS MEAN -/
theorem f_TM_12 : px_Fd "TroubleMemory" 12 0 0 := ⟨_, _, _, rfl, by decide, "TroubleMemory", w_76, Or.inl rfl⟩
theorem fF_TM_12 : px_FpF "TroubleMemory" 12 0 0 (.object "java/util/ArrayList") := ⟨_, _, _, rfl, by decide, ⟨"TroubleMemory", w_76, Or.inl rfl⟩, rfl, rfl, rfl⟩
theorem f_TM_16 : px_Fd "TroubleMemory" 16 0 2 := ⟨_, _, _, rfl, by decide, "TroubleMemory", w_78, Or.inl rfl⟩
theorem fp_TM_16 : px_Fp "TroubleMemory" 16 0 2 (.int) := ⟨_, _, _, rfl, by decide, ⟨"TroubleMemory", w_78, Or.inl rfl⟩, rfl, rfl⟩
theorem f_TM_20 : px_Fd "TroubleMemory" 20 0 3 := ⟨_, _, _, rfl, by decide, "TroubleMemory", w_79, Or.inl rfl⟩
theorem fp_TM_20 : px_Fp "TroubleMemory" 20 0 3 (.boolean) := ⟨_, _, _, rfl, by decide, ⟨"TroubleMemory", w_79, Or.inl rfl⟩, rfl, rfl⟩
theorem f_TM_24 : px_Fd "TroubleMemory" 24 0 4 := ⟨_, _, _, rfl, by decide, "TroubleMemory", w_80, Or.inl rfl⟩
theorem fp_TM_24 : px_Fp "TroubleMemory" 24 0 4 (.int) := ⟨_, _, _, rfl, by decide, ⟨"TroubleMemory", w_80, Or.inl rfl⟩, rfl, rfl⟩
theorem f_TM_27 : px_Fd "TroubleMemory" 27 0 5 := ⟨_, _, _, rfl, by decide, "TroubleMemory", w_81, Or.inl rfl⟩
theorem fp_TM_27 : px_Fp "TroubleMemory" 27 0 5 (.int) := ⟨_, _, _, rfl, by decide, ⟨"TroubleMemory", w_81, Or.inl rfl⟩, rfl, rfl⟩
theorem f_TM_40 : px_Fd "TroubleMemory" 40 0 1 := ⟨_, _, _, rfl, by decide, "TroubleMemory", w_77, Or.inl rfl⟩
theorem fF_TM_40 : px_FpF "TroubleMemory" 40 0 1 (.object "TroubleMemory$Memory") := ⟨_, _, _, rfl, by decide, ⟨"TroubleMemory", w_77, Or.inl rfl⟩, rfl, rfl, rfl⟩
theorem f_TM_57 : px_Fd "TroubleMemory" 57 2 0 := ⟨_, _, _, rfl, by decide, "TroubleMemory$Code", w_131, Or.inl rfl⟩
theorem f_TM_79 : px_Fd "TroubleMemory" 79 2 4 := ⟨_, _, _, rfl, by decide, "TroubleMemory$Code", w_140, Or.inl rfl⟩
theorem f_TM_83 : px_Fd "TroubleMemory" 83 3 0 := ⟨_, _, _, rfl, by decide, "TroubleMemory$Standing", w_116, Or.inl rfl⟩
theorem fp_TM_83 : px_Fp "TroubleMemory" 83 3 0 (.int) := ⟨_, _, _, rfl, by decide, ⟨"TroubleMemory$Standing", w_116, Or.inl rfl⟩, rfl, rfl⟩
theorem f_TM_99 : px_Fd "TroubleMemory" 99 2 5 := ⟨_, _, _, rfl, by decide, "TroubleMemory$Code", w_142, Or.inl rfl⟩
theorem f_TM_106 : px_Fd "TroubleMemory" 106 2 8 := ⟨_, _, _, rfl, by decide, "TroubleMemory$Code", w_149, Or.inl rfl⟩
theorem fp_TM_106 : px_Fp "TroubleMemory" 106 2 8 (.object "TroubleMemory$Entry") := ⟨_, _, _, rfl, by decide, ⟨"TroubleMemory$Code", w_149, Or.inl rfl⟩, rfl, rfl⟩
theorem f_TM_110 : px_Fd "TroubleMemory" 110 4 1 := ⟨_, _, _, rfl, by decide, "TroubleMemory$Entry", w_358, Or.inl rfl⟩
theorem f_TM_116 : px_Fd "TroubleMemory" 116 4 2 := ⟨_, _, _, rfl, by decide, "TroubleMemory$Entry", w_360, Or.inl rfl⟩
theorem fp_TM_116 : px_Fp "TroubleMemory" 116 4 2 (.object "TroubleMemory$Snapshot") := ⟨_, _, _, rfl, by decide, ⟨"TroubleMemory$Entry", w_360, Or.inl rfl⟩, rfl, rfl⟩
theorem f_TM_137 : px_Fd "TroubleMemory" 137 2 7 := ⟨_, _, _, rfl, by decide, "TroubleMemory$Code", w_146, Or.inl rfl⟩
theorem fp_TM_137 : px_Fp "TroubleMemory" 137 2 7 (.object "TroubleMemory$Code") := ⟨_, _, _, rfl, by decide, ⟨"TroubleMemory$Code", w_146, Or.inl rfl⟩, rfl, rfl⟩
theorem f_TM_152 : px_Fd "TroubleMemory" 152 1 1 := ⟨_, _, _, rfl, by decide, "TroubleMemory$Memory", w_66, Or.inl rfl⟩
theorem f_TM_155 : px_Fd "TroubleMemory" 155 4 0 := ⟨_, _, _, rfl, by decide, "TroubleMemory$Entry", w_356, Or.inl rfl⟩
theorem f_TM_158 : px_Fd "TroubleMemory" 158 4 3 := ⟨_, _, _, rfl, by decide, "TroubleMemory$Entry", w_362, Or.inl rfl⟩
theorem fp_TM_158 : px_Fp "TroubleMemory" 158 4 3 (.int) := ⟨_, _, _, rfl, by decide, ⟨"TroubleMemory$Entry", w_362, Or.inl rfl⟩, rfl, rfl⟩
theorem f_TM_161 : px_Fd "TroubleMemory" 161 2 1 := ⟨_, _, _, rfl, by decide, "TroubleMemory$Code", w_134, Or.inl rfl⟩
theorem f_TM_164 : px_Fd "TroubleMemory" 164 2 6 := ⟨_, _, _, rfl, by decide, "TroubleMemory$Code", w_144, Or.inl rfl⟩
theorem fp_TM_164 : px_Fp "TroubleMemory" 164 2 6 (.int) := ⟨_, _, _, rfl, by decide, ⟨"TroubleMemory$Code", w_144, Or.inl rfl⟩, rfl, rfl⟩
theorem f_TM_167 : px_Fd "TroubleMemory" 167 1 2 := ⟨_, _, _, rfl, by decide, "TroubleMemory$Memory", w_68, Or.inl rfl⟩
theorem f_TM_170 : px_Fd "TroubleMemory" 170 3 2 := ⟨_, _, _, rfl, by decide, "TroubleMemory$Standing", w_119, Or.inl rfl⟩
theorem fp_TM_170 : px_Fp "TroubleMemory" 170 3 2 (.int) := ⟨_, _, _, rfl, by decide, ⟨"TroubleMemory$Standing", w_119, Or.inl rfl⟩, rfl, rfl⟩
theorem f_TM_194 : px_Fd "TroubleMemory" 194 2 2 := ⟨_, _, _, rfl, by decide, "TroubleMemory$Code", w_136, Or.inl rfl⟩
theorem f_Cd_12 : px_Fd "TroubleMemory$Code" 12 2 4 := ⟨_, _, _, rfl, by decide, "TroubleMemory$Code", w_138, Or.inl rfl⟩
theorem fF_Cd_12 : px_FpF "TroubleMemory$Code" 12 2 4 (.object "TroubleMemory$Standing") := ⟨_, _, _, rfl, by decide, ⟨"TroubleMemory$Code", w_138, Or.inl rfl⟩, rfl, rfl, rfl⟩
theorem f_Cd_18 : px_Fd "TroubleMemory$Code" 18 2 5 := ⟨_, _, _, rfl, by decide, "TroubleMemory$Code", w_141, Or.inl rfl⟩
theorem fF_Cd_18 : px_FpF "TroubleMemory$Code" 18 2 5 (.object "TroubleMemory$Standing") := ⟨_, _, _, rfl, by decide, ⟨"TroubleMemory$Code", w_141, Or.inl rfl⟩, rfl, rfl, rfl⟩
theorem f_Cd_21 : px_Fd "TroubleMemory$Code" 21 2 6 := ⟨_, _, _, rfl, by decide, "TroubleMemory$Code", w_143, Or.inl rfl⟩
theorem fp_Cd_21 : px_Fp "TroubleMemory$Code" 21 2 6 (.int) := ⟨_, _, _, rfl, by decide, ⟨"TroubleMemory$Code", w_143, Or.inl rfl⟩, rfl, rfl⟩
theorem f_Cd_25 : px_Fd "TroubleMemory$Code" 25 2 7 := ⟨_, _, _, rfl, by decide, "TroubleMemory$Code", w_145, Or.inl rfl⟩
theorem fp_Cd_25 : px_Fp "TroubleMemory$Code" 25 2 7 (.object "TroubleMemory$Code") := ⟨_, _, _, rfl, by decide, ⟨"TroubleMemory$Code", w_145, Or.inl rfl⟩, rfl, rfl⟩
theorem f_Cd_29 : px_Fd "TroubleMemory$Code" 29 2 8 := ⟨_, _, _, rfl, by decide, "TroubleMemory$Code", w_147, Or.inl rfl⟩
theorem fp_Cd_29 : px_Fp "TroubleMemory$Code" 29 2 8 (.object "TroubleMemory$Entry") := ⟨_, _, _, rfl, by decide, ⟨"TroubleMemory$Code", w_147, Or.inl rfl⟩, rfl, rfl⟩
theorem f_Cd_33 : px_Fd "TroubleMemory$Code" 33 2 0 := ⟨_, _, _, rfl, by decide, "TroubleMemory$Code", w_130, Or.inl rfl⟩
theorem fF_Cd_33 : px_FpF "TroubleMemory$Code" 33 2 0 (.int) := ⟨_, _, _, rfl, by decide, ⟨"TroubleMemory$Code", w_130, Or.inl rfl⟩, rfl, rfl, rfl⟩
theorem f_Cd_36 : px_Fd "TroubleMemory$Code" 36 2 1 := ⟨_, _, _, rfl, by decide, "TroubleMemory$Code", w_132, Or.inl rfl⟩
theorem fF_Cd_36 : px_FpF "TroubleMemory$Code" 36 2 1 (.int) := ⟨_, _, _, rfl, by decide, ⟨"TroubleMemory$Code", w_132, Or.inl rfl⟩, rfl, rfl, rfl⟩
theorem f_Cd_39 : px_Fd "TroubleMemory$Code" 39 2 2 := ⟨_, _, _, rfl, by decide, "TroubleMemory$Code", w_135, Or.inl rfl⟩
theorem fF_Cd_39 : px_FpF "TroubleMemory$Code" 39 2 2 (.int) := ⟨_, _, _, rfl, by decide, ⟨"TroubleMemory$Code", w_135, Or.inl rfl⟩, rfl, rfl, rfl⟩
theorem f_Cd_42 : px_Fd "TroubleMemory$Code" 42 2 3 := ⟨_, _, _, rfl, by decide, "TroubleMemory$Code", w_137, Or.inl rfl⟩
theorem fF_Cd_42 : px_FpF "TroubleMemory$Code" 42 2 3 (.int) := ⟨_, _, _, rfl, by decide, ⟨"TroubleMemory$Code", w_137, Or.inl rfl⟩, rfl, rfl, rfl⟩
theorem f_En_9 : px_Fd "TroubleMemory$Entry" 9 4 3 := ⟨_, _, _, rfl, by decide, "TroubleMemory$Entry", w_361, Or.inl rfl⟩
theorem fp_En_9 : px_Fp "TroubleMemory$Entry" 9 4 3 (.int) := ⟨_, _, _, rfl, by decide, ⟨"TroubleMemory$Entry", w_361, Or.inl rfl⟩, rfl, rfl⟩
theorem f_En_15 : px_Fd "TroubleMemory$Entry" 15 4 0 := ⟨_, _, _, rfl, by decide, "TroubleMemory$Entry", w_354, Or.inl rfl⟩
theorem fF_En_15 : px_FpF "TroubleMemory$Entry" 15 4 0 (.object "TroubleMemory$Code") := ⟨_, _, _, rfl, by decide, ⟨"TroubleMemory$Entry", w_354, Or.inl rfl⟩, rfl, rfl, rfl⟩
theorem f_En_19 : px_Fd "TroubleMemory$Entry" 19 4 1 := ⟨_, _, _, rfl, by decide, "TroubleMemory$Entry", w_357, Or.inl rfl⟩
theorem fF_En_19 : px_FpF "TroubleMemory$Entry" 19 4 1 (.object "TroubleMemory$Snapshot") := ⟨_, _, _, rfl, by decide, ⟨"TroubleMemory$Entry", w_357, Or.inl rfl⟩, rfl, rfl, rfl⟩
theorem f_En_23 : px_Fd "TroubleMemory$Entry" 23 4 2 := ⟨_, _, _, rfl, by decide, "TroubleMemory$Entry", w_359, Or.inl rfl⟩
theorem fp_En_23 : px_Fp "TroubleMemory$Entry" 23 4 2 (.object "TroubleMemory$Snapshot") := ⟨_, _, _, rfl, by decide, ⟨"TroubleMemory$Entry", w_359, Or.inl rfl⟩, rfl, rfl⟩
theorem f_En_32 : px_Fd "TroubleMemory$Entry" 32 2 1 := ⟨_, _, _, rfl, by decide, "TroubleMemory$Code", w_133, Or.inl rfl⟩
theorem f_En_37 : px_Fd "TroubleMemory$Entry" 37 2 4 := ⟨_, _, _, rfl, by decide, "TroubleMemory$Code", w_139, Or.inl rfl⟩
theorem f_Mem_12 : px_Fd "TroubleMemory$Memory" 12 1 1 := ⟨_, _, _, rfl, by decide, "TroubleMemory$Memory", w_65, Or.inl rfl⟩
theorem fF_Mem_12 : px_FpF "TroubleMemory$Memory" 12 1 1 (.object "java/util/ArrayList") := ⟨_, _, _, rfl, by decide, ⟨"TroubleMemory$Memory", w_65, Or.inl rfl⟩, rfl, rfl, rfl⟩
theorem f_Mem_18 : px_Fd "TroubleMemory$Memory" 18 1 2 := ⟨_, _, _, rfl, by decide, "TroubleMemory$Memory", w_67, Or.inl rfl⟩
theorem fF_Mem_18 : px_FpF "TroubleMemory$Memory" 18 1 2 (.object "java/util/ArrayList") := ⟨_, _, _, rfl, by decide, ⟨"TroubleMemory$Memory", w_67, Or.inl rfl⟩, rfl, rfl, rfl⟩
theorem f_Mem_21 : px_Fd "TroubleMemory$Memory" 21 1 0 := ⟨_, _, _, rfl, by decide, "TroubleMemory$Memory", w_64, Or.inl rfl⟩
theorem fF_Mem_21 : px_FpF "TroubleMemory$Memory" 21 1 0 (.int) := ⟨_, _, _, rfl, by decide, ⟨"TroubleMemory$Memory", w_64, Or.inl rfl⟩, rfl, rfl, rfl⟩
theorem f_Mem_25 : px_Fd "TroubleMemory$Memory" 25 2 8 := ⟨_, _, _, rfl, by decide, "TroubleMemory$Code", w_148, Or.inl rfl⟩
theorem fp_Mem_25 : px_Fp "TroubleMemory$Memory" 25 2 8 (.object "TroubleMemory$Entry") := ⟨_, _, _, rfl, by decide, ⟨"TroubleMemory$Code", w_148, Or.inl rfl⟩, rfl, rfl⟩
theorem f_Mem_63 : px_Fd "TroubleMemory$Memory" 63 4 0 := ⟨_, _, _, rfl, by decide, "TroubleMemory$Entry", w_355, Or.inl rfl⟩
theorem f_Sn_7 : px_Fd "TroubleMemory$Snapshot" 7 5 0 := ⟨_, _, _, rfl, by decide, "TroubleMemory$Snapshot", w_297, Or.inl rfl⟩
theorem fF_Sn_7 : px_FpF "TroubleMemory$Snapshot" 7 5 0 (.int) := ⟨_, _, _, rfl, by decide, ⟨"TroubleMemory$Snapshot", w_297, Or.inl rfl⟩, rfl, rfl, rfl⟩
theorem f_Sn_13 : px_Fd "TroubleMemory$Snapshot" 13 5 1 := ⟨_, _, _, rfl, by decide, "TroubleMemory$Snapshot", w_298, Or.inl rfl⟩
theorem fF_Sn_13 : px_FpF "TroubleMemory$Snapshot" 13 5 1 (.int) := ⟨_, _, _, rfl, by decide, ⟨"TroubleMemory$Snapshot", w_298, Or.inl rfl⟩, rfl, rfl, rfl⟩
theorem f_Sn_16 : px_Fd "TroubleMemory$Snapshot" 16 5 2 := ⟨_, _, _, rfl, by decide, "TroubleMemory$Snapshot", w_299, Or.inl rfl⟩
theorem fF_Sn_16 : px_FpF "TroubleMemory$Snapshot" 16 5 2 (.int) := ⟨_, _, _, rfl, by decide, ⟨"TroubleMemory$Snapshot", w_299, Or.inl rfl⟩, rfl, rfl, rfl⟩
theorem f_Sn_19 : px_Fd "TroubleMemory$Snapshot" 19 5 3 := ⟨_, _, _, rfl, by decide, "TroubleMemory$Snapshot", w_300, Or.inl rfl⟩
theorem fF_Sn_19 : px_FpF "TroubleMemory$Snapshot" 19 5 3 (.int) := ⟨_, _, _, rfl, by decide, ⟨"TroubleMemory$Snapshot", w_300, Or.inl rfl⟩, rfl, rfl, rfl⟩
theorem f_Sg_9 : px_Fd "TroubleMemory$Standing" 9 3 0 := ⟨_, _, _, rfl, by decide, "TroubleMemory$Standing", w_115, Or.inl rfl⟩
theorem fp_Sg_9 : px_Fp "TroubleMemory$Standing" 9 3 0 (.int) := ⟨_, _, _, rfl, by decide, ⟨"TroubleMemory$Standing", w_115, Or.inl rfl⟩, rfl, rfl⟩
theorem f_Sg_15 : px_Fd "TroubleMemory$Standing" 15 3 1 := ⟨_, _, _, rfl, by decide, "TroubleMemory$Standing", w_117, Or.inl rfl⟩
theorem fp_Sg_15 : px_Fp "TroubleMemory$Standing" 15 3 1 (.int) := ⟨_, _, _, rfl, by decide, ⟨"TroubleMemory$Standing", w_117, Or.inl rfl⟩, rfl, rfl⟩
theorem f_Sg_18 : px_Fd "TroubleMemory$Standing" 18 3 2 := ⟨_, _, _, rfl, by decide, "TroubleMemory$Standing", w_118, Or.inl rfl⟩
theorem fp_Sg_18 : px_Fp "TroubleMemory$Standing" 18 3 2 (.int) := ⟨_, _, _, rfl, by decide, ⟨"TroubleMemory$Standing", w_118, Or.inl rfl⟩, rfl, rfl⟩
theorem f_Sg_21 : px_Fd "TroubleMemory$Standing" 21 3 3 := ⟨_, _, _, rfl, by decide, "TroubleMemory$Standing", w_120, Or.inl rfl⟩
theorem fp_Sg_21 : px_Fp "TroubleMemory$Standing" 21 3 3 (.int) := ⟨_, _, _, rfl, by decide, ⟨"TroubleMemory$Standing", w_120, Or.inl rfl⟩, rfl, rfl⟩
theorem f_Rf_7 : px_Fd "TroubleMemoryModel" 7 7 3 := ⟨_, _, _, rfl, by decide, "TroubleMemoryModel", w_493, Or.inl rfl⟩
theorem fF_Rf_7 : px_FpF "TroubleMemoryModel" 7 7 3 (.array .int) := ⟨_, _, _, rfl, by decide, ⟨"TroubleMemoryModel", w_493, Or.inl rfl⟩, rfl, rfl, rfl⟩
theorem f_Rf_13 : px_Fd "TroubleMemoryModel" 13 7 4 := ⟨_, _, _, rfl, by decide, "TroubleMemoryModel", w_494, Or.inl rfl⟩
theorem fF_Rf_13 : px_FpF "TroubleMemoryModel" 13 7 4 (.array .int) := ⟨_, _, _, rfl, by decide, ⟨"TroubleMemoryModel", w_494, Or.inl rfl⟩, rfl, rfl, rfl⟩
theorem f_Rf_16 : px_Fd "TroubleMemoryModel" 16 7 5 := ⟨_, _, _, rfl, by decide, "TroubleMemoryModel", w_495, Or.inl rfl⟩
theorem fF_Rf_16 : px_FpF "TroubleMemoryModel" 16 7 5 (.array .int) := ⟨_, _, _, rfl, by decide, ⟨"TroubleMemoryModel", w_495, Or.inl rfl⟩, rfl, rfl, rfl⟩
theorem f_Rf_19 : px_Fd "TroubleMemoryModel" 19 7 6 := ⟨_, _, _, rfl, by decide, "TroubleMemoryModel", w_496, Or.inl rfl⟩
theorem fF_Rf_19 : px_FpF "TroubleMemoryModel" 19 7 6 (.array .int) := ⟨_, _, _, rfl, by decide, ⟨"TroubleMemoryModel", w_496, Or.inl rfl⟩, rfl, rfl, rfl⟩
theorem f_Rf_22 : px_Fd "TroubleMemoryModel" 22 7 7 := ⟨_, _, _, rfl, by decide, "TroubleMemoryModel", w_497, Or.inl rfl⟩
theorem fF_Rf_22 : px_FpF "TroubleMemoryModel" 22 7 7 (.array .int) := ⟨_, _, _, rfl, by decide, ⟨"TroubleMemoryModel", w_497, Or.inl rfl⟩, rfl, rfl, rfl⟩
theorem f_Rf_25 : px_Fd "TroubleMemoryModel" 25 7 8 := ⟨_, _, _, rfl, by decide, "TroubleMemoryModel", w_498, Or.inl rfl⟩
theorem fF_Rf_25 : px_FpF "TroubleMemoryModel" 25 7 8 (.array .boolean) := ⟨_, _, _, rfl, by decide, ⟨"TroubleMemoryModel", w_498, Or.inl rfl⟩, rfl, rfl, rfl⟩
theorem f_Rf_29 : px_Fd "TroubleMemoryModel" 29 7 9 := ⟨_, _, _, rfl, by decide, "TroubleMemoryModel", w_499, Or.inl rfl⟩
theorem fF_Rf_29 : px_FpF "TroubleMemoryModel" 29 7 9 (.array .int) := ⟨_, _, _, rfl, by decide, ⟨"TroubleMemoryModel", w_499, Or.inl rfl⟩, rfl, rfl, rfl⟩
theorem f_Rf_32 : px_Fd "TroubleMemoryModel" 32 7 10 := ⟨_, _, _, rfl, by decide, "TroubleMemoryModel", w_500, Or.inl rfl⟩
theorem fF_Rf_32 : px_FpF "TroubleMemoryModel" 32 7 10 (.array .int) := ⟨_, _, _, rfl, by decide, ⟨"TroubleMemoryModel", w_500, Or.inl rfl⟩, rfl, rfl, rfl⟩
theorem f_Rf_35 : px_Fd "TroubleMemoryModel" 35 7 11 := ⟨_, _, _, rfl, by decide, "TroubleMemoryModel", w_501, Or.inl rfl⟩
theorem fF_Rf_35 : px_FpF "TroubleMemoryModel" 35 7 11 (.array .int) := ⟨_, _, _, rfl, by decide, ⟨"TroubleMemoryModel", w_501, Or.inl rfl⟩, rfl, rfl, rfl⟩
theorem f_Rf_38 : px_Fd "TroubleMemoryModel" 38 7 12 := ⟨_, _, _, rfl, by decide, "TroubleMemoryModel", w_502, Or.inl rfl⟩
theorem fF_Rf_38 : px_FpF "TroubleMemoryModel" 38 7 12 (.array .boolean) := ⟨_, _, _, rfl, by decide, ⟨"TroubleMemoryModel", w_502, Or.inl rfl⟩, rfl, rfl, rfl⟩
theorem f_Rf_41 : px_Fd "TroubleMemoryModel" 41 7 13 := ⟨_, _, _, rfl, by decide, "TroubleMemoryModel", w_503, Or.inl rfl⟩
theorem fF_Rf_41 : px_FpF "TroubleMemoryModel" 41 7 13 (.array .int) := ⟨_, _, _, rfl, by decide, ⟨"TroubleMemoryModel", w_503, Or.inl rfl⟩, rfl, rfl, rfl⟩
theorem f_Rf_44 : px_Fd "TroubleMemoryModel" 44 7 14 := ⟨_, _, _, rfl, by decide, "TroubleMemoryModel", w_504, Or.inl rfl⟩
theorem fF_Rf_44 : px_FpF "TroubleMemoryModel" 44 7 14 (.array .int) := ⟨_, _, _, rfl, by decide, ⟨"TroubleMemoryModel", w_504, Or.inl rfl⟩, rfl, rfl, rfl⟩
theorem f_Rf_47 : px_Fd "TroubleMemoryModel" 47 7 15 := ⟨_, _, _, rfl, by decide, "TroubleMemoryModel", w_505, Or.inl rfl⟩
theorem fF_Rf_47 : px_FpF "TroubleMemoryModel" 47 7 15 (.array .int) := ⟨_, _, _, rfl, by decide, ⟨"TroubleMemoryModel", w_505, Or.inl rfl⟩, rfl, rfl, rfl⟩
theorem f_Rf_50 : px_Fd "TroubleMemoryModel" 50 7 16 := ⟨_, _, _, rfl, by decide, "TroubleMemoryModel", w_506, Or.inl rfl⟩
theorem fF_Rf_50 : px_FpF "TroubleMemoryModel" 50 7 16 (.array .int) := ⟨_, _, _, rfl, by decide, ⟨"TroubleMemoryModel", w_506, Or.inl rfl⟩, rfl, rfl, rfl⟩
theorem f_Rf_53 : px_Fd "TroubleMemoryModel" 53 7 17 := ⟨_, _, _, rfl, by decide, "TroubleMemoryModel", w_507, Or.inl rfl⟩
theorem fF_Rf_53 : px_FpF "TroubleMemoryModel" 53 7 17 (.array .int) := ⟨_, _, _, rfl, by decide, ⟨"TroubleMemoryModel", w_507, Or.inl rfl⟩, rfl, rfl, rfl⟩
theorem f_Rf_56 : px_Fd "TroubleMemoryModel" 56 7 18 := ⟨_, _, _, rfl, by decide, "TroubleMemoryModel", w_508, Or.inl rfl⟩
theorem fF_Rf_56 : px_FpF "TroubleMemoryModel" 56 7 18 (.array .int) := ⟨_, _, _, rfl, by decide, ⟨"TroubleMemoryModel", w_508, Or.inl rfl⟩, rfl, rfl, rfl⟩
theorem f_Rf_59 : px_Fd "TroubleMemoryModel" 59 7 21 := ⟨_, _, _, rfl, by decide, "TroubleMemoryModel", w_511, Or.inl rfl⟩
theorem fF_Rf_59 : px_FpF "TroubleMemoryModel" 59 7 21 (.array .int) := ⟨_, _, _, rfl, by decide, ⟨"TroubleMemoryModel", w_511, Or.inl rfl⟩, rfl, rfl, rfl⟩
theorem f_Rf_62 : px_Fd "TroubleMemoryModel" 62 7 22 := ⟨_, _, _, rfl, by decide, "TroubleMemoryModel", w_512, Or.inl rfl⟩
theorem fF_Rf_62 : px_FpF "TroubleMemoryModel" 62 7 22 (.array .boolean) := ⟨_, _, _, rfl, by decide, ⟨"TroubleMemoryModel", w_512, Or.inl rfl⟩, rfl, rfl, rfl⟩
theorem f_Rf_66 : px_Fd "TroubleMemoryModel" 66 7 1 := ⟨_, _, _, rfl, by decide, "TroubleMemoryModel", w_491, Or.inl rfl⟩
theorem fF_Rf_66 : px_FpF "TroubleMemoryModel" 66 7 1 (.int) := ⟨_, _, _, rfl, by decide, ⟨"TroubleMemoryModel", w_491, Or.inl rfl⟩, rfl, rfl, rfl⟩
theorem f_Rf_70 : px_Fd "TroubleMemoryModel" 70 7 0 := ⟨_, _, _, rfl, by decide, "TroubleMemoryModel", w_490, Or.inl rfl⟩
theorem fp_Rf_70 : px_Fp "TroubleMemoryModel" 70 7 0 (.int) := ⟨_, _, _, rfl, by decide, ⟨"TroubleMemoryModel", w_490, Or.inl rfl⟩, rfl, rfl⟩
theorem f_Rf_73 : px_Fd "TroubleMemoryModel" 73 7 2 := ⟨_, _, _, rfl, by decide, "TroubleMemoryModel", w_492, Or.inl rfl⟩
theorem fp_Rf_73 : px_Fp "TroubleMemoryModel" 73 7 2 (.int) := ⟨_, _, _, rfl, by decide, ⟨"TroubleMemoryModel", w_492, Or.inl rfl⟩, rfl, rfl⟩
theorem f_Rf_84 : px_Fd "TroubleMemoryModel" 84 7 23 := ⟨_, _, _, rfl, by decide, "TroubleMemoryModel", w_513, Or.inl rfl⟩
theorem fp_Rf_84 : px_Fp "TroubleMemoryModel" 84 7 23 (.boolean) := ⟨_, _, _, rfl, by decide, ⟨"TroubleMemoryModel", w_513, Or.inl rfl⟩, rfl, rfl⟩
theorem f_Rf_95 : px_Fd "TroubleMemoryModel" 95 7 24 := ⟨_, _, _, rfl, by decide, "TroubleMemoryModel", w_514, Or.inl rfl⟩
theorem fp_Rf_95 : px_Fp "TroubleMemoryModel" 95 7 24 (.int) := ⟨_, _, _, rfl, by decide, ⟨"TroubleMemoryModel", w_514, Or.inl rfl⟩, rfl, rfl⟩
theorem f_Rf_98 : px_Fd "TroubleMemoryModel" 98 7 25 := ⟨_, _, _, rfl, by decide, "TroubleMemoryModel", w_515, Or.inl rfl⟩
theorem fp_Rf_98 : px_Fp "TroubleMemoryModel" 98 7 25 (.int) := ⟨_, _, _, rfl, by decide, ⟨"TroubleMemoryModel", w_515, Or.inl rfl⟩, rfl, rfl⟩
theorem f_Rf_116 : px_Fd "TroubleMemoryModel" 116 7 20 := ⟨_, _, _, rfl, by decide, "TroubleMemoryModel", w_510, Or.inl rfl⟩
theorem fp_Rf_116 : px_Fp "TroubleMemoryModel" 116 7 20 (.int) := ⟨_, _, _, rfl, by decide, ⟨"TroubleMemoryModel", w_510, Or.inl rfl⟩, rfl, rfl⟩
theorem f_Rf_119 : px_Fd "TroubleMemoryModel" 119 7 19 := ⟨_, _, _, rfl, by decide, "TroubleMemoryModel", w_509, Or.inl rfl⟩
theorem fp_Rf_119 : px_Fp "TroubleMemoryModel" 119 7 19 (.int) := ⟨_, _, _, rfl, by decide, ⟨"TroubleMemoryModel", w_509, Or.inl rfl⟩, rfl, rfl⟩
theorem f_ALs_7 : px_Fd "java/util/AbstractList" 7 6 2 := ⟨_, _, _, rfl, by decide, "java/util/AbstractList", w_42, Or.inl rfl⟩
theorem fp_ALs_7 : px_Fp "java/util/AbstractList" 7 6 2 (.int) := ⟨_, _, _, rfl, by decide, ⟨"java/util/AbstractList", w_42, Or.inl rfl⟩, rfl, rfl⟩
theorem f_AL_9 : px_Fd "java/util/ArrayList" 9 6 0 := ⟨_, _, _, rfl, by decide, "java/util/ArrayList", w_40, Or.inl rfl⟩
theorem fp_AL_9 : px_Fp "java/util/ArrayList" 9 6 0 (.array (.object "java/lang/Object")) := ⟨_, _, _, rfl, by decide, ⟨"java/util/ArrayList", w_40, Or.inl rfl⟩, rfl, rfl⟩
theorem f_AL_48 : px_Fd "java/util/ArrayList" 48 6 1 := ⟨_, _, _, rfl, by decide, "java/util/ArrayList", w_41, Or.inl rfl⟩
theorem fp_AL_48 : px_Fp "java/util/ArrayList" 48 6 1 (.int) := ⟨_, _, _, rfl, by decide, ⟨"java/util/ArrayList", w_41, Or.inl rfl⟩, rfl, rfl⟩
theorem f_AL_63 : px_Fd "java/util/ArrayList" 63 6 2 := ⟨_, _, _, rfl, by decide, "java/util/ArrayList", w_43, Or.inr w_44⟩
theorem fp_AL_63 : px_Fp "java/util/ArrayList" 63 6 2 (.int) := ⟨_, _, _, rfl, by decide, ⟨"java/util/ArrayList", w_43, Or.inr w_44⟩, rfl, rfl⟩
theorem nc_Lw_7 : px_Nc "TroubleMemoryLaw" 7 0 6 [.null, .null, .int 0, .int 0, .int 0, .int 0] := ⟨_, _, rfl, w_18, w_19, w_1, by decide +kernel⟩
theorem cs_Lw_7 : px_Cs "TroubleMemoryLaw" 7 0 := ⟨_, _, _, rfl, w_18⟩
theorem nc_TM_9 : px_Nc "TroubleMemory" 9 6 3 [.null, .int 0, .int 0] := ⟨_, _, rfl, w_26, w_27, w_4, by decide +kernel⟩
theorem cs_TM_9 : px_Cs "TroubleMemory" 9 6 := ⟨_, _, _, rfl, w_26⟩
theorem nc_TM_30 : px_Nc "TroubleMemory" 30 1 3 [.int 0, .null, .null] := ⟨_, _, rfl, w_52, w_53, w_5, by decide +kernel⟩
theorem cs_TM_30 : px_Cs "TroubleMemory" 30 1 := ⟨_, _, _, rfl, w_52⟩
theorem nc_Mem_9 : px_Nc "TroubleMemory$Memory" 9 6 3 [.null, .int 0, .int 0] := ⟨_, _, rfl, w_62, w_27, w_4, by decide +kernel⟩
theorem cs_Mem_9 : px_Cs "TroubleMemory$Memory" 9 6 := ⟨_, _, _, rfl, w_62⟩
theorem nc_TM_48 : px_Nc "TroubleMemory" 48 2 9 [.int 0, .int 0, .int 0, .int 0, .null, .null, .int 0, .null, .null] := ⟨_, _, rfl, w_103, w_104, w_7, by decide +kernel⟩
theorem cs_TM_48 : px_Cs "TroubleMemory" 48 2 := ⟨_, _, _, rfl, w_103⟩
theorem nc_Cd_9 : px_Nc "TroubleMemory$Code" 9 3 4 [.int 0, .int 0, .int 0, .int 0] := ⟨_, _, rfl, w_109, w_110, w_8, by decide +kernel⟩
theorem cs_Cd_9 : px_Cs "TroubleMemory$Code" 9 3 := ⟨_, _, _, rfl, w_109⟩
theorem nc_TM_120 : px_Nc "TroubleMemory" 120 5 4 [.int 0, .int 0, .int 0, .int 0] := ⟨_, _, rfl, w_287, w_288, w_15, by decide +kernel⟩
theorem cs_TM_120 : px_Cs "TroubleMemory" 120 5 := ⟨_, _, _, rfl, w_287⟩
theorem nc_Mem_32 : px_Nc "TroubleMemory$Memory" 32 4 4 [.null, .null, .null, .int 0] := ⟨_, _, rfl, w_325, w_349, w_16, by decide +kernel⟩
theorem cs_Mem_32 : px_Cs "TroubleMemory$Memory" 32 4 := ⟨_, _, _, rfl, w_325⟩
theorem nc_TM_111 : px_Nc "TroubleMemory" 111 4 4 [.null, .null, .null, .int 0] := ⟨_, _, rfl, w_463, w_349, w_16, by decide +kernel⟩
theorem cs_TM_111 : px_Cs "TroubleMemory" 111 4 := ⟨_, _, _, rfl, w_463⟩
theorem nc_Lw_18 : px_Nc "TroubleMemoryLaw" 18 7 26 [.int 0, .int 0, .int 0, .null, .null, .null, .null, .null, .null, .null, .null, .null, .null, .null, .null, .null, .null, .null, .null, .int 0, .int 0, .null, .null, .int 0, .int 0, .int 0] := ⟨_, _, rfl, w_483, w_484, w_6, by decide +kernel⟩
theorem cs_Lw_18 : px_Cs "TroubleMemoryLaw" 18 7 := ⟨_, _, _, rfl, w_483⟩
theorem c_Lw_15 : px_cI "TroubleMemoryLaw" 15 m_TM_init 1 := ⟨w_1, w_20, w_21, rfl, ⟨by decide +kernel, by decide +kernel, by decide +kernel⟩, rfl⟩
theorem c_TM_11 : px_cI "TroubleMemory" 11 m_AL_init 0 := ⟨w_4, w_28, w_29, rfl, ⟨by decide +kernel, by decide +kernel, by decide +kernel⟩, rfl⟩
theorem c_AL_1 : px_cI "java/util/ArrayList" 1 m_ALs_init 0 := ⟨w_3, w_31, w_32, rfl, ⟨by decide +kernel, by decide +kernel, by decide +kernel⟩, rfl⟩
theorem c_ALs_1 : px_cI "java/util/AbstractList" 1 m_ACn_init 0 := ⟨w_2, w_34, w_35, rfl, ⟨by decide +kernel, by decide +kernel, by decide +kernel⟩, rfl⟩
theorem c_TM_33 : px_cS "TroubleMemory" 33 m_TM_isWithin 3 := ⟨w_1, w_55, w_56, ⟨by decide +kernel, by decide +kernel, by decide +kernel⟩⟩
theorem c_TM_37 : px_cI "TroubleMemory" 37 m_Mem_init 1 := ⟨w_5, w_58, w_59, rfl, ⟨by decide +kernel, by decide +kernel, by decide +kernel⟩, rfl⟩
theorem c_Mem_11 : px_cI "TroubleMemory$Memory" 11 m_AL_init 0 := ⟨w_4, w_63, w_29, rfl, ⟨by decide +kernel, by decide +kernel, by decide +kernel⟩, rfl⟩
theorem c_Lw_21 : px_cV "TroubleMemoryLaw" 21 "TroubleMemory" m_TM_code 3 := ⟨List.forall_mem_cons.mpr ⟨w_95, List.forall_mem_cons.mpr ⟨w_96, List.forall_mem_cons.mpr ⟨w_97, List.forall_mem_cons.mpr ⟨w_1, fun _ h => absurd h List.not_mem_nil⟩⟩⟩⟩, rfl, ⟨by decide +kernel, by decide +kernel, by decide +kernel⟩⟩
theorem c_TM_44 : px_cV "TroubleMemory" 44 "java/util/ArrayList" m_AL_size 0 := ⟨List.forall_mem_cons.mpr ⟨w_99, List.forall_mem_cons.mpr ⟨w_100, List.forall_mem_cons.mpr ⟨w_101, List.forall_mem_cons.mpr ⟨w_4, fun _ h => absurd h List.not_mem_nil⟩⟩⟩⟩, rfl, ⟨by decide +kernel, by decide +kernel, by decide +kernel⟩⟩
theorem c_TM_50 : px_cI "TroubleMemory" 50 m_Cd_init 4 := ⟨w_7, w_105, w_106, rfl, ⟨by decide +kernel, by decide +kernel, by decide +kernel⟩, rfl⟩
theorem c_Cd_11 : px_cIN "TroubleMemory$Code" 11 "TroubleMemory" m_Sg_init 0 := ⟨w_8, w_111, w_112, rfl, ⟨by decide +kernel, by decide +kernel, by decide +kernel⟩, rfl⟩
theorem c_TM_53 : px_cV "TroubleMemory" 53 "java/util/ArrayList" m_AL_add1 1 := ⟨List.forall_mem_cons.mpr ⟨w_169, List.forall_mem_cons.mpr ⟨w_170, List.forall_mem_cons.mpr ⟨w_171, List.forall_mem_cons.mpr ⟨w_4, fun _ h => absurd h List.not_mem_nil⟩⟩⟩⟩, rfl, ⟨by decide +kernel, by decide +kernel, by decide +kernel⟩⟩
theorem c_AL_131 : px_cV "java/util/ArrayList" 131 "java/util/ArrayList" m_AL_add3 3 := ⟨List.forall_mem_cons.mpr ⟨w_173, List.forall_mem_cons.mpr ⟨w_175, List.forall_mem_cons.mpr ⟨wp_0, List.forall_mem_cons.mpr ⟨w_4, fun _ h => absurd h List.not_mem_nil⟩⟩⟩⟩, rfl, ⟨by decide +kernel, by decide +kernel, by decide +kernel⟩⟩
theorem c_AL_129 : px_cV "java/util/ArrayList" 129 "java/util/ArrayList" m_AL_grow0 0 := ⟨List.forall_mem_cons.mpr ⟨w_177, List.forall_mem_cons.mpr ⟨w_179, List.forall_mem_cons.mpr ⟨wp_1, List.forall_mem_cons.mpr ⟨w_4, fun _ h => absurd h List.not_mem_nil⟩⟩⟩⟩, rfl, ⟨by decide +kernel, by decide +kernel, by decide +kernel⟩⟩
theorem c_AL_69 : px_cV "java/util/ArrayList" 69 "java/util/ArrayList" m_AL_grow1 1 := ⟨List.forall_mem_cons.mpr ⟨w_181, List.forall_mem_cons.mpr ⟨w_183, List.forall_mem_cons.mpr ⟨wp_2, List.forall_mem_cons.mpr ⟨w_4, fun _ h => absurd h List.not_mem_nil⟩⟩⟩⟩, rfl, ⟨by decide +kernel, by decide +kernel, by decide +kernel⟩⟩
theorem c_AL_73 : px_cS "java/util/ArrayList" 73 m_ArS_newLength 3 := ⟨w_9, w_185, w_186, ⟨by decide +kernel, by decide +kernel, by decide +kernel⟩⟩
theorem c_AL_66 : px_cS "java/util/ArrayList" 66 m_Ars_copyOf2 2 := ⟨w_11, w_195, w_196, ⟨by decide +kernel, by decide +kernel, by decide +kernel⟩⟩
theorem c_Ars_300 : px_cS "java/util/Arrays" 300 m_Ars_copyOf3 3 := ⟨w_11, w_210, w_211, ⟨by decide +kernel, by decide +kernel, by decide +kernel⟩⟩
theorem c_Lw_26 : px_cV "TroubleMemoryLaw" 26 "TroubleMemory" m_TM_event 2 := ⟨List.forall_mem_cons.mpr ⟨w_224, List.forall_mem_cons.mpr ⟨w_225, List.forall_mem_cons.mpr ⟨w_226, List.forall_mem_cons.mpr ⟨w_1, fun _ h => absurd h List.not_mem_nil⟩⟩⟩⟩, rfl, ⟨by decide +kernel, by decide +kernel, by decide +kernel⟩⟩
theorem c_TM_60 : px_cV "TroubleMemory" 60 "TroubleMemory" m_TM_find 1 := ⟨List.forall_mem_cons.mpr ⟨w_228, List.forall_mem_cons.mpr ⟨w_230, List.forall_mem_cons.mpr ⟨wp_3, List.forall_mem_cons.mpr ⟨w_1, fun _ h => absurd h List.not_mem_nil⟩⟩⟩⟩, rfl, ⟨by decide +kernel, by decide +kernel, by decide +kernel⟩⟩
theorem c_TM_88 : px_cV "TroubleMemory" 88 "java/util/ArrayList" m_AL_get 1 := ⟨List.forall_mem_cons.mpr ⟨w_232, List.forall_mem_cons.mpr ⟨w_233, List.forall_mem_cons.mpr ⟨w_234, List.forall_mem_cons.mpr ⟨w_4, fun _ h => absurd h List.not_mem_nil⟩⟩⟩⟩, rfl, ⟨by decide +kernel, by decide +kernel, by decide +kernel⟩⟩
theorem c_AL_118 : px_cS "java/util/ArrayList" 118 m_Obs_checkIndex 2 := ⟨w_13, w_236, w_237, ⟨by decide +kernel, by decide +kernel, by decide +kernel⟩⟩
theorem c_Obs_105 : px_cS "java/util/Objects" 105 m_Prc_checkIndex 3 := ⟨w_14, w_239, w_240, ⟨by decide +kernel, by decide +kernel, by decide +kernel⟩⟩
theorem c_AL_123 : px_cV "java/util/ArrayList" 123 "java/util/ArrayList" m_AL_elementData 1 := ⟨List.forall_mem_cons.mpr ⟨w_242, List.forall_mem_cons.mpr ⟨w_243, List.forall_mem_cons.mpr ⟨w_244, List.forall_mem_cons.mpr ⟨w_4, fun _ h => absurd h List.not_mem_nil⟩⟩⟩⟩, rfl, ⟨by decide +kernel, by decide +kernel, by decide +kernel⟩⟩
theorem c_TM_64 : px_cV "TroubleMemory" 64 "TroubleMemory$Code" m_Cd_condition 0 := ⟨List.forall_mem_cons.mpr ⟨w_246, List.forall_mem_cons.mpr ⟨w_247, List.forall_mem_cons.mpr ⟨w_248, List.forall_mem_cons.mpr ⟨w_7, fun _ h => absurd h List.not_mem_nil⟩⟩⟩⟩, rfl, ⟨by decide +kernel, by decide +kernel, by decide +kernel⟩⟩
theorem c_TM_67 : px_cV "TroubleMemory" 67 "TroubleMemory" m_TM_isOn 1 := ⟨List.forall_mem_cons.mpr ⟨w_250, List.forall_mem_cons.mpr ⟨w_252, List.forall_mem_cons.mpr ⟨wp_4, List.forall_mem_cons.mpr ⟨w_1, fun _ h => absurd h List.not_mem_nil⟩⟩⟩⟩, rfl, ⟨by decide +kernel, by decide +kernel, by decide +kernel⟩⟩
theorem c_TM_71 : px_cV "TroubleMemory" 71 "TroubleMemory$Code" m_Cd_count 1 := ⟨List.forall_mem_cons.mpr ⟨w_254, List.forall_mem_cons.mpr ⟨w_255, List.forall_mem_cons.mpr ⟨w_256, List.forall_mem_cons.mpr ⟨w_7, fun _ h => absurd h List.not_mem_nil⟩⟩⟩⟩, rfl, ⟨by decide +kernel, by decide +kernel, by decide +kernel⟩⟩
theorem c_TM_75 : px_cV "TroubleMemory" 75 "TroubleMemory" m_TM_judge 1 := ⟨List.forall_mem_cons.mpr ⟨w_260, List.forall_mem_cons.mpr ⟨w_262, List.forall_mem_cons.mpr ⟨wp_5, List.forall_mem_cons.mpr ⟨w_1, fun _ h => absurd h List.not_mem_nil⟩⟩⟩⟩, rfl, ⟨by decide +kernel, by decide +kernel, by decide +kernel⟩⟩
theorem c_TM_176 : px_cV "TroubleMemory" 176 "TroubleMemory$Standing" m_Sg_pass 0 := ⟨List.forall_mem_cons.mpr ⟨w_264, List.forall_mem_cons.mpr ⟨w_265, List.forall_mem_cons.mpr ⟨w_266, List.forall_mem_cons.mpr ⟨w_8, fun _ h => absurd h List.not_mem_nil⟩⟩⟩⟩, rfl, ⟨by decide +kernel, by decide +kernel, by decide +kernel⟩⟩
theorem c_TM_173 : px_cV "TroubleMemory" 173 "TroubleMemory$Standing" m_Sg_has 1 := ⟨List.forall_mem_cons.mpr ⟨w_268, List.forall_mem_cons.mpr ⟨w_269, List.forall_mem_cons.mpr ⟨w_270, List.forall_mem_cons.mpr ⟨w_8, fun _ h => absurd h List.not_mem_nil⟩⟩⟩⟩, rfl, ⟨by decide +kernel, by decide +kernel, by decide +kernel⟩⟩
theorem c_TM_179 : px_cV "TroubleMemory" 179 "TroubleMemory$Standing" m_Sg_fail 1 := ⟨List.forall_mem_cons.mpr ⟨w_272, List.forall_mem_cons.mpr ⟨w_273, List.forall_mem_cons.mpr ⟨w_274, List.forall_mem_cons.mpr ⟨w_8, fun _ h => absurd h List.not_mem_nil⟩⟩⟩⟩, rfl, ⟨by decide +kernel, by decide +kernel, by decide +kernel⟩⟩
theorem c_Sg_24 : px_cV "TroubleMemory$Standing" 24 "TroubleMemory$Standing" m_Sg_has 1 := ⟨List.forall_mem_cons.mpr ⟨w_276, List.forall_mem_cons.mpr ⟨w_269, List.forall_mem_cons.mpr ⟨w_270, List.forall_mem_cons.mpr ⟨w_8, fun _ h => absurd h List.not_mem_nil⟩⟩⟩⟩, rfl, ⟨by decide +kernel, by decide +kernel, by decide +kernel⟩⟩
theorem c_TM_182 : px_cV "TroubleMemory" 182 "TroubleMemory$Code" m_Cd_isHidden 0 := ⟨List.forall_mem_cons.mpr ⟨w_278, List.forall_mem_cons.mpr ⟨w_279, List.forall_mem_cons.mpr ⟨w_280, List.forall_mem_cons.mpr ⟨w_7, fun _ h => absurd h List.not_mem_nil⟩⟩⟩⟩, rfl, ⟨by decide +kernel, by decide +kernel, by decide +kernel⟩⟩
theorem c_Cd_57 : px_cV "TroubleMemory$Code" 57 "TroubleMemory$Standing" m_Sg_has 1 := ⟨List.forall_mem_cons.mpr ⟨w_282, List.forall_mem_cons.mpr ⟨w_269, List.forall_mem_cons.mpr ⟨w_270, List.forall_mem_cons.mpr ⟨w_8, fun _ h => absurd h List.not_mem_nil⟩⟩⟩⟩, rfl, ⟨by decide +kernel, by decide +kernel, by decide +kernel⟩⟩
theorem c_TM_186 : px_cV "TroubleMemory" 186 "TroubleMemory" m_TM_takeSnapshot 1 := ⟨List.forall_mem_cons.mpr ⟨w_283, List.forall_mem_cons.mpr ⟨w_285, List.forall_mem_cons.mpr ⟨wp_6, List.forall_mem_cons.mpr ⟨w_1, fun _ h => absurd h List.not_mem_nil⟩⟩⟩⟩, rfl, ⟨by decide +kernel, by decide +kernel, by decide +kernel⟩⟩
theorem c_TM_149 : px_cV "TroubleMemory" 149 "TroubleMemory" m_TM_countCodesWith 1 := ⟨List.forall_mem_cons.mpr ⟨w_289, List.forall_mem_cons.mpr ⟨w_291, List.forall_mem_cons.mpr ⟨wp_7, List.forall_mem_cons.mpr ⟨w_1, fun _ h => absurd h List.not_mem_nil⟩⟩⟩⟩, rfl, ⟨by decide +kernel, by decide +kernel, by decide +kernel⟩⟩
theorem c_TM_197 : px_cI "TroubleMemory" 197 m_Sn_init 4 := ⟨w_15, w_293, w_294, rfl, ⟨by decide +kernel, by decide +kernel, by decide +kernel⟩, rfl⟩
theorem c_TM_190 : px_cV "TroubleMemory" 190 "TroubleMemory$Memory" m_Mem_store 2 := ⟨List.forall_mem_cons.mpr ⟨w_310, List.forall_mem_cons.mpr ⟨w_311, List.forall_mem_cons.mpr ⟨w_312, List.forall_mem_cons.mpr ⟨w_5, fun _ h => absurd h List.not_mem_nil⟩⟩⟩⟩, rfl, ⟨by decide +kernel, by decide +kernel, by decide +kernel⟩⟩
theorem c_Mem_31 : px_cV "TroubleMemory$Memory" 31 "TroubleMemory$Entry" m_En_happenAgain 1 := ⟨List.forall_mem_cons.mpr ⟨w_314, List.forall_mem_cons.mpr ⟨w_315, List.forall_mem_cons.mpr ⟨w_316, List.forall_mem_cons.mpr ⟨w_16, fun _ h => absurd h List.not_mem_nil⟩⟩⟩⟩, rfl, ⟨by decide +kernel, by decide +kernel, by decide +kernel⟩⟩
theorem c_Mem_37 : px_cV "TroubleMemory$Memory" 37 "java/util/ArrayList" m_AL_size 0 := ⟨List.forall_mem_cons.mpr ⟨w_319, List.forall_mem_cons.mpr ⟨w_100, List.forall_mem_cons.mpr ⟨w_101, List.forall_mem_cons.mpr ⟨w_4, fun _ h => absurd h List.not_mem_nil⟩⟩⟩⟩, rfl, ⟨by decide +kernel, by decide +kernel, by decide +kernel⟩⟩
theorem c_Mem_41 : px_cV "TroubleMemory$Memory" 41 "TroubleMemory$Memory" m_Mem_displaceFor 1 := ⟨List.forall_mem_cons.mpr ⟨w_320, List.forall_mem_cons.mpr ⟨w_322, List.forall_mem_cons.mpr ⟨wp_8, List.forall_mem_cons.mpr ⟨w_5, fun _ h => absurd h List.not_mem_nil⟩⟩⟩⟩, rfl, ⟨by decide +kernel, by decide +kernel, by decide +kernel⟩⟩
theorem c_Mem_52 : px_cV "TroubleMemory$Memory" 52 "java/util/ArrayList" m_AL_get 1 := ⟨List.forall_mem_cons.mpr ⟨w_324, List.forall_mem_cons.mpr ⟨w_233, List.forall_mem_cons.mpr ⟨w_234, List.forall_mem_cons.mpr ⟨w_4, fun _ h => absurd h List.not_mem_nil⟩⟩⟩⟩, rfl, ⟨by decide +kernel, by decide +kernel, by decide +kernel⟩⟩
theorem c_Mem_56 : px_cV "TroubleMemory$Memory" 56 "TroubleMemory$Entry" m_En_mayGoFor 1 := ⟨List.forall_mem_cons.mpr ⟨w_326, List.forall_mem_cons.mpr ⟨w_327, List.forall_mem_cons.mpr ⟨w_328, List.forall_mem_cons.mpr ⟨w_16, fun _ h => absurd h List.not_mem_nil⟩⟩⟩⟩, rfl, ⟨by decide +kernel, by decide +kernel, by decide +kernel⟩⟩
theorem c_En_41 : px_cV "TroubleMemory$Entry" 41 "TroubleMemory$Standing" m_Sg_has 1 := ⟨List.forall_mem_cons.mpr ⟨w_330, List.forall_mem_cons.mpr ⟨w_269, List.forall_mem_cons.mpr ⟨w_270, List.forall_mem_cons.mpr ⟨w_8, fun _ h => absurd h List.not_mem_nil⟩⟩⟩⟩, rfl, ⟨by decide +kernel, by decide +kernel, by decide +kernel⟩⟩
theorem c_Mem_59 : px_cV "TroubleMemory$Memory" 59 "TroubleMemory$Entry" m_En_goesBefore 1 := ⟨List.forall_mem_cons.mpr ⟨w_331, List.forall_mem_cons.mpr ⟨w_332, List.forall_mem_cons.mpr ⟨w_333, List.forall_mem_cons.mpr ⟨w_16, fun _ h => absurd h List.not_mem_nil⟩⟩⟩⟩, rfl, ⟨by decide +kernel, by decide +kernel, by decide +kernel⟩⟩
theorem c_Mem_48 : px_cV "TroubleMemory$Memory" 48 "java/util/ArrayList" m_AL_add1 1 := ⟨List.forall_mem_cons.mpr ⟨w_335, List.forall_mem_cons.mpr ⟨w_170, List.forall_mem_cons.mpr ⟨w_171, List.forall_mem_cons.mpr ⟨w_4, fun _ h => absurd h List.not_mem_nil⟩⟩⟩⟩, rfl, ⟨by decide +kernel, by decide +kernel, by decide +kernel⟩⟩
theorem c_Mem_67 : px_cV "TroubleMemory$Memory" 67 "TroubleMemory$Memory" m_Mem_drop 1 := ⟨List.forall_mem_cons.mpr ⟨w_336, List.forall_mem_cons.mpr ⟨w_337, List.forall_mem_cons.mpr ⟨w_338, List.forall_mem_cons.mpr ⟨w_5, fun _ h => absurd h List.not_mem_nil⟩⟩⟩⟩, rfl, ⟨by decide +kernel, by decide +kernel, by decide +kernel⟩⟩
theorem c_Mem_71 : px_cV "TroubleMemory$Memory" 71 "java/util/ArrayList" m_AL_remove 1 := ⟨List.forall_mem_cons.mpr ⟨w_340, List.forall_mem_cons.mpr ⟨w_341, List.forall_mem_cons.mpr ⟨w_342, List.forall_mem_cons.mpr ⟨w_4, fun _ h => absurd h List.not_mem_nil⟩⟩⟩⟩, rfl, ⟨by decide +kernel, by decide +kernel, by decide +kernel⟩⟩
theorem c_AL_144 : px_cV "java/util/ArrayList" 144 "java/util/ArrayList" m_AL_fastRemove 2 := ⟨List.forall_mem_cons.mpr ⟨w_344, List.forall_mem_cons.mpr ⟨w_346, List.forall_mem_cons.mpr ⟨wp_9, List.forall_mem_cons.mpr ⟨w_4, fun _ h => absurd h List.not_mem_nil⟩⟩⟩⟩, rfl, ⟨by decide +kernel, by decide +kernel, by decide +kernel⟩⟩
theorem c_Mem_45 : px_cI "TroubleMemory$Memory" 45 m_En_init 2 := ⟨w_16, w_350, w_351, rfl, ⟨by decide +kernel, by decide +kernel, by decide +kernel⟩, rfl⟩
theorem c_Lw_31 : px_cV "TroubleMemoryLaw" 31 "TroubleMemory" m_TM_cycle 1 := ⟨List.forall_mem_cons.mpr ⟨w_372, List.forall_mem_cons.mpr ⟨w_373, List.forall_mem_cons.mpr ⟨w_374, List.forall_mem_cons.mpr ⟨w_1, fun _ h => absurd h List.not_mem_nil⟩⟩⟩⟩, rfl, ⟨by decide +kernel, by decide +kernel, by decide +kernel⟩⟩
theorem c_TM_92 : px_cV "TroubleMemory" 92 "TroubleMemory" m_TM_endCycle 2 := ⟨List.forall_mem_cons.mpr ⟨w_376, List.forall_mem_cons.mpr ⟨w_378, List.forall_mem_cons.mpr ⟨wp_10, List.forall_mem_cons.mpr ⟨w_1, fun _ h => absurd h List.not_mem_nil⟩⟩⟩⟩, rfl, ⟨by decide +kernel, by decide +kernel, by decide +kernel⟩⟩
theorem c_TM_198 : px_cV "TroubleMemory" 198 "TroubleMemory$Standing" m_Sg_wasOnlyGood 0 := ⟨List.forall_mem_cons.mpr ⟨w_380, List.forall_mem_cons.mpr ⟨w_381, List.forall_mem_cons.mpr ⟨w_382, List.forall_mem_cons.mpr ⟨w_8, fun _ h => absurd h List.not_mem_nil⟩⟩⟩⟩, rfl, ⟨by decide +kernel, by decide +kernel, by decide +kernel⟩⟩
theorem c_TM_201 : px_cV "TroubleMemory" 201 "TroubleMemory$Standing" m_Sg_addGoodCycle 0 := ⟨List.forall_mem_cons.mpr ⟨w_384, List.forall_mem_cons.mpr ⟨w_385, List.forall_mem_cons.mpr ⟨w_386, List.forall_mem_cons.mpr ⟨w_8, fun _ h => absurd h List.not_mem_nil⟩⟩⟩⟩, rfl, ⟨by decide +kernel, by decide +kernel, by decide +kernel⟩⟩
theorem c_TM_204 : px_cV "TroubleMemory" 204 "TroubleMemory$Standing" m_Sg_ages 0 := ⟨List.forall_mem_cons.mpr ⟨w_388, List.forall_mem_cons.mpr ⟨w_389, List.forall_mem_cons.mpr ⟨w_390, List.forall_mem_cons.mpr ⟨w_8, fun _ h => absurd h List.not_mem_nil⟩⟩⟩⟩, rfl, ⟨by decide +kernel, by decide +kernel, by decide +kernel⟩⟩
theorem c_TM_207 : px_cV "TroubleMemory" 207 "TroubleMemory$Standing" m_Sg_heal 0 := ⟨List.forall_mem_cons.mpr ⟨w_392, List.forall_mem_cons.mpr ⟨w_393, List.forall_mem_cons.mpr ⟨w_394, List.forall_mem_cons.mpr ⟨w_8, fun _ h => absurd h List.not_mem_nil⟩⟩⟩⟩, rfl, ⟨by decide +kernel, by decide +kernel, by decide +kernel⟩⟩
theorem c_TM_130 : px_cV "TroubleMemory" 130 "TroubleMemory$Memory" m_Mem_drop 1 := ⟨List.forall_mem_cons.mpr ⟨w_396, List.forall_mem_cons.mpr ⟨w_337, List.forall_mem_cons.mpr ⟨w_338, List.forall_mem_cons.mpr ⟨w_5, fun _ h => absurd h List.not_mem_nil⟩⟩⟩⟩, rfl, ⟨by decide +kernel, by decide +kernel, by decide +kernel⟩⟩
theorem c_TM_96 : px_cV "TroubleMemory" 96 "TroubleMemory$Standing" m_Sg_beginCycle 0 := ⟨List.forall_mem_cons.mpr ⟨w_397, List.forall_mem_cons.mpr ⟨w_398, List.forall_mem_cons.mpr ⟨w_399, List.forall_mem_cons.mpr ⟨w_8, fun _ h => absurd h List.not_mem_nil⟩⟩⟩⟩, rfl, ⟨by decide +kernel, by decide +kernel, by decide +kernel⟩⟩
theorem c_TM_102 : px_cV "TroubleMemory" 102 "TroubleMemory$Standing" m_Sg_copyFrom 1 := ⟨List.forall_mem_cons.mpr ⟨w_401, List.forall_mem_cons.mpr ⟨w_402, List.forall_mem_cons.mpr ⟨w_403, List.forall_mem_cons.mpr ⟨w_8, fun _ h => absurd h List.not_mem_nil⟩⟩⟩⟩, rfl, ⟨by decide +kernel, by decide +kernel, by decide +kernel⟩⟩
theorem c_Lw_36 : px_cV "TroubleMemoryLaw" 36 "TroubleMemory" m_TM_status 1 := ⟨List.forall_mem_cons.mpr ⟨w_405, List.forall_mem_cons.mpr ⟨w_406, List.forall_mem_cons.mpr ⟨w_407, List.forall_mem_cons.mpr ⟨w_1, fun _ h => absurd h List.not_mem_nil⟩⟩⟩⟩, rfl, ⟨by decide +kernel, by decide +kernel, by decide +kernel⟩⟩
theorem c_Lw_41 : px_cV "TroubleMemoryLaw" 41 "TroubleMemory" m_TM_snapshot 3 := ⟨List.forall_mem_cons.mpr ⟨w_409, List.forall_mem_cons.mpr ⟨w_410, List.forall_mem_cons.mpr ⟨w_411, List.forall_mem_cons.mpr ⟨w_1, fun _ h => absurd h List.not_mem_nil⟩⟩⟩⟩, rfl, ⟨by decide +kernel, by decide +kernel, by decide +kernel⟩⟩
theorem c_TM_119 : px_cV "TroubleMemory" 119 "TroubleMemory$Snapshot" m_Sn_number 1 := ⟨List.forall_mem_cons.mpr ⟨w_413, List.forall_mem_cons.mpr ⟨w_414, List.forall_mem_cons.mpr ⟨w_415, List.forall_mem_cons.mpr ⟨w_15, fun _ h => absurd h List.not_mem_nil⟩⟩⟩⟩, rfl, ⟨by decide +kernel, by decide +kernel, by decide +kernel⟩⟩
theorem c_Lw_45 : px_cV "TroubleMemoryLaw" 45 "TroubleMemory" m_TM_clear 1 := ⟨List.forall_mem_cons.mpr ⟨w_417, List.forall_mem_cons.mpr ⟨w_418, List.forall_mem_cons.mpr ⟨w_419, List.forall_mem_cons.mpr ⟨w_1, fun _ h => absurd h List.not_mem_nil⟩⟩⟩⟩, rfl, ⟨by decide +kernel, by decide +kernel, by decide +kernel⟩⟩
theorem c_TM_124 : px_cV "TroubleMemory" 124 "TroubleMemory$Code" m_Cd_group 0 := ⟨List.forall_mem_cons.mpr ⟨w_421, List.forall_mem_cons.mpr ⟨w_422, List.forall_mem_cons.mpr ⟨w_423, List.forall_mem_cons.mpr ⟨w_7, fun _ h => absurd h List.not_mem_nil⟩⟩⟩⟩, rfl, ⟨by decide +kernel, by decide +kernel, by decide +kernel⟩⟩
theorem c_TM_127 : px_cV "TroubleMemory" 127 "TroubleMemory$Code" m_Cd_forget 0 := ⟨List.forall_mem_cons.mpr ⟨w_425, List.forall_mem_cons.mpr ⟨w_426, List.forall_mem_cons.mpr ⟨w_427, List.forall_mem_cons.mpr ⟨w_7, fun _ h => absurd h List.not_mem_nil⟩⟩⟩⟩, rfl, ⟨by decide +kernel, by decide +kernel, by decide +kernel⟩⟩
theorem c_Cd_54 : px_cV "TroubleMemory$Code" 54 "TroubleMemory$Standing" m_Sg_reset 0 := ⟨List.forall_mem_cons.mpr ⟨w_429, List.forall_mem_cons.mpr ⟨w_430, List.forall_mem_cons.mpr ⟨w_431, List.forall_mem_cons.mpr ⟨w_8, fun _ h => absurd h List.not_mem_nil⟩⟩⟩⟩, rfl, ⟨by decide +kernel, by decide +kernel, by decide +kernel⟩⟩
theorem c_Lw_49 : px_cV "TroubleMemoryLaw" 49 "TroubleMemory" m_TM_parent 2 := ⟨List.forall_mem_cons.mpr ⟨w_433, List.forall_mem_cons.mpr ⟨w_434, List.forall_mem_cons.mpr ⟨w_435, List.forall_mem_cons.mpr ⟨w_1, fun _ h => absurd h List.not_mem_nil⟩⟩⟩⟩, rfl, ⟨by decide +kernel, by decide +kernel, by decide +kernel⟩⟩
theorem c_TM_133 : px_cV "TroubleMemory" 133 "TroubleMemory$Code" m_Cd_isBelow 1 := ⟨List.forall_mem_cons.mpr ⟨w_437, List.forall_mem_cons.mpr ⟨w_438, List.forall_mem_cons.mpr ⟨w_439, List.forall_mem_cons.mpr ⟨w_7, fun _ h => absurd h List.not_mem_nil⟩⟩⟩⟩, rfl, ⟨by decide +kernel, by decide +kernel, by decide +kernel⟩⟩
theorem c_TM_141 : px_cV "TroubleMemory" 141 "TroubleMemory$Code" m_Cd_countAbove 0 := ⟨List.forall_mem_cons.mpr ⟨w_441, List.forall_mem_cons.mpr ⟨w_442, List.forall_mem_cons.mpr ⟨w_443, List.forall_mem_cons.mpr ⟨w_7, fun _ h => absurd h List.not_mem_nil⟩⟩⟩⟩, rfl, ⟨by decide +kernel, by decide +kernel, by decide +kernel⟩⟩
theorem c_Lw_54 : px_cV "TroubleMemoryLaw" 54 "TroubleMemory" m_TM_enable 2 := ⟨List.forall_mem_cons.mpr ⟨w_445, List.forall_mem_cons.mpr ⟨w_446, List.forall_mem_cons.mpr ⟨w_447, List.forall_mem_cons.mpr ⟨w_1, fun _ h => absurd h List.not_mem_nil⟩⟩⟩⟩, rfl, ⟨by decide +kernel, by decide +kernel, by decide +kernel⟩⟩
theorem c_TM_144 : px_cS "TroubleMemory" 144 m_Itg_bitCount 1 := ⟨w_17, w_449, w_450, ⟨by decide +kernel, by decide +kernel, by decide +kernel⟩⟩
theorem c_Lw_58 : px_cV "TroubleMemoryLaw" 58 "TroubleMemory" m_TM_lamp 1 := ⟨List.forall_mem_cons.mpr ⟨w_455, List.forall_mem_cons.mpr ⟨w_456, List.forall_mem_cons.mpr ⟨w_457, List.forall_mem_cons.mpr ⟨w_1, fun _ h => absurd h List.not_mem_nil⟩⟩⟩⟩, rfl, ⟨by decide +kernel, by decide +kernel, by decide +kernel⟩⟩
theorem c_Lw_62 : px_cV "TroubleMemoryLaw" 62 "TroubleMemory" m_TM_stored 2 := ⟨List.forall_mem_cons.mpr ⟨w_459, List.forall_mem_cons.mpr ⟨w_460, List.forall_mem_cons.mpr ⟨w_461, List.forall_mem_cons.mpr ⟨w_1, fun _ h => absurd h List.not_mem_nil⟩⟩⟩⟩, rfl, ⟨by decide +kernel, by decide +kernel, by decide +kernel⟩⟩
theorem c_Lw_66 : px_cV "TroubleMemoryLaw" 66 "TroubleMemory" m_TM_cut 0 := ⟨List.forall_mem_cons.mpr ⟨w_464, List.forall_mem_cons.mpr ⟨w_465, List.forall_mem_cons.mpr ⟨w_466, List.forall_mem_cons.mpr ⟨w_1, fun _ h => absurd h List.not_mem_nil⟩⟩⟩⟩, rfl, ⟨by decide +kernel, by decide +kernel, by decide +kernel⟩⟩
theorem c_Lw_71 : px_cV "TroubleMemoryLaw" 71 "TroubleMemory" m_TM_start 0 := ⟨List.forall_mem_cons.mpr ⟨w_468, List.forall_mem_cons.mpr ⟨w_469, List.forall_mem_cons.mpr ⟨w_470, List.forall_mem_cons.mpr ⟨w_1, fun _ h => absurd h List.not_mem_nil⟩⟩⟩⟩, rfl, ⟨by decide +kernel, by decide +kernel, by decide +kernel⟩⟩
theorem c_Lw_75 : px_cV "TroubleMemoryLaw" 75 "TroubleMemory" m_TM_displaced 1 := ⟨List.forall_mem_cons.mpr ⟨w_472, List.forall_mem_cons.mpr ⟨w_473, List.forall_mem_cons.mpr ⟨w_474, List.forall_mem_cons.mpr ⟨w_1, fun _ h => absurd h List.not_mem_nil⟩⟩⟩⟩, rfl, ⟨by decide +kernel, by decide +kernel, by decide +kernel⟩⟩
theorem c_Lw_79 : px_cV "TroubleMemoryLaw" 79 "TroubleMemory" m_TM_age 1 := ⟨List.forall_mem_cons.mpr ⟨w_476, List.forall_mem_cons.mpr ⟨w_477, List.forall_mem_cons.mpr ⟨w_478, List.forall_mem_cons.mpr ⟨w_1, fun _ h => absurd h List.not_mem_nil⟩⟩⟩⟩, rfl, ⟨by decide +kernel, by decide +kernel, by decide +kernel⟩⟩
theorem c_Lw_9 : px_cS "TroubleMemoryLaw" 9 m_Lw_cell 2 := ⟨w_0, w_480, w_481, ⟨by decide +kernel, by decide +kernel, by decide +kernel⟩⟩
theorem c_Lw_20 : px_cI "TroubleMemoryLaw" 20 m_Rf_init 1 := ⟨w_6, w_485, w_486, rfl, ⟨by decide +kernel, by decide +kernel, by decide +kernel⟩, rfl⟩
theorem c_Lw_25 : px_cV "TroubleMemoryLaw" 25 "TroubleMemoryModel" m_Rf_code 3 := ⟨List.forall_mem_cons.mpr ⟨w_571, List.forall_mem_cons.mpr ⟨w_572, List.forall_mem_cons.mpr ⟨w_573, List.forall_mem_cons.mpr ⟨w_6, fun _ h => absurd h List.not_mem_nil⟩⟩⟩⟩, rfl, ⟨by decide +kernel, by decide +kernel, by decide +kernel⟩⟩
theorem c_Rf_88 : px_cV "TroubleMemoryModel" 88 "TroubleMemoryModel" m_Rf_freshen 1 := ⟨List.forall_mem_cons.mpr ⟨w_575, List.forall_mem_cons.mpr ⟨w_577, List.forall_mem_cons.mpr ⟨wp_11, List.forall_mem_cons.mpr ⟨w_6, fun _ h => absurd h List.not_mem_nil⟩⟩⟩⟩, rfl, ⟨by decide +kernel, by decide +kernel, by decide +kernel⟩⟩
theorem c_Rf_80 : px_cV "TroubleMemoryModel" 80 "TroubleMemoryModel" m_Rf_set 3 := ⟨List.forall_mem_cons.mpr ⟨w_579, List.forall_mem_cons.mpr ⟨w_581, List.forall_mem_cons.mpr ⟨wp_12, List.forall_mem_cons.mpr ⟨w_6, fun _ h => absurd h List.not_mem_nil⟩⟩⟩⟩, rfl, ⟨by decide +kernel, by decide +kernel, by decide +kernel⟩⟩
theorem c_Rf_92 : px_cV "TroubleMemoryModel" 92 "TroubleMemoryModel" m_Rf_keep 1 := ⟨List.forall_mem_cons.mpr ⟨w_583, List.forall_mem_cons.mpr ⟨w_585, List.forall_mem_cons.mpr ⟨wp_13, List.forall_mem_cons.mpr ⟨w_6, fun _ h => absurd h List.not_mem_nil⟩⟩⟩⟩, rfl, ⟨by decide +kernel, by decide +kernel, by decide +kernel⟩⟩
theorem c_Rf_76 : px_cV "TroubleMemoryModel" 76 "TroubleMemoryModel" m_Rf_is 2 := ⟨List.forall_mem_cons.mpr ⟨w_587, List.forall_mem_cons.mpr ⟨w_589, List.forall_mem_cons.mpr ⟨wp_14, List.forall_mem_cons.mpr ⟨w_6, fun _ h => absurd h List.not_mem_nil⟩⟩⟩⟩, rfl, ⟨by decide +kernel, by decide +kernel, by decide +kernel⟩⟩
theorem c_Lw_30 : px_cV "TroubleMemoryLaw" 30 "TroubleMemoryModel" m_Rf_event 2 := ⟨List.forall_mem_cons.mpr ⟨w_591, List.forall_mem_cons.mpr ⟨w_592, List.forall_mem_cons.mpr ⟨w_593, List.forall_mem_cons.mpr ⟨w_6, fun _ h => absurd h List.not_mem_nil⟩⟩⟩⟩, rfl, ⟨by decide +kernel, by decide +kernel, by decide +kernel⟩⟩
theorem c_Rf_129 : px_cV "TroubleMemoryModel" 129 "TroubleMemoryModel" m_Rf_none 1 := ⟨List.forall_mem_cons.mpr ⟨w_595, List.forall_mem_cons.mpr ⟨w_597, List.forall_mem_cons.mpr ⟨wp_15, List.forall_mem_cons.mpr ⟨w_6, fun _ h => absurd h List.not_mem_nil⟩⟩⟩⟩, rfl, ⟨by decide +kernel, by decide +kernel, by decide +kernel⟩⟩
theorem c_Rf_132 : px_cV "TroubleMemoryModel" 132 "TroubleMemoryModel" m_Rf_statusOf 1 := ⟨List.forall_mem_cons.mpr ⟨w_599, List.forall_mem_cons.mpr ⟨w_601, List.forall_mem_cons.mpr ⟨wp_16, List.forall_mem_cons.mpr ⟨w_6, fun _ h => absurd h List.not_mem_nil⟩⟩⟩⟩, rfl, ⟨by decide +kernel, by decide +kernel, by decide +kernel⟩⟩
theorem c_Rf_135 : px_cV "TroubleMemoryModel" 135 "TroubleMemoryModel" m_Rf_fails 1 := ⟨List.forall_mem_cons.mpr ⟨w_603, List.forall_mem_cons.mpr ⟨w_605, List.forall_mem_cons.mpr ⟨wp_17, List.forall_mem_cons.mpr ⟨w_6, fun _ h => absurd h List.not_mem_nil⟩⟩⟩⟩, rfl, ⟨by decide +kernel, by decide +kernel, by decide +kernel⟩⟩
theorem c_Rf_122 : px_cV "TroubleMemoryModel" 122 "TroubleMemoryModel" m_Rf_hidden 1 := ⟨List.forall_mem_cons.mpr ⟨w_607, List.forall_mem_cons.mpr ⟨w_609, List.forall_mem_cons.mpr ⟨wp_18, List.forall_mem_cons.mpr ⟨w_6, fun _ h => absurd h List.not_mem_nil⟩⟩⟩⟩, rfl, ⟨by decide +kernel, by decide +kernel, by decide +kernel⟩⟩
theorem c_Rf_126 : px_cV "TroubleMemoryModel" 126 "TroubleMemoryModel" m_Rf_store 1 := ⟨List.forall_mem_cons.mpr ⟨w_611, List.forall_mem_cons.mpr ⟨w_613, List.forall_mem_cons.mpr ⟨wp_19, List.forall_mem_cons.mpr ⟨w_6, fun _ h => absurd h List.not_mem_nil⟩⟩⟩⟩, rfl, ⟨by decide +kernel, by decide +kernel, by decide +kernel⟩⟩
theorem c_Rf_105 : px_cV "TroubleMemoryModel" 105 "TroubleMemoryModel" m_Rf_shoot 2 := ⟨List.forall_mem_cons.mpr ⟨w_615, List.forall_mem_cons.mpr ⟨w_617, List.forall_mem_cons.mpr ⟨wp_20, List.forall_mem_cons.mpr ⟨w_6, fun _ h => absurd h List.not_mem_nil⟩⟩⟩⟩, rfl, ⟨by decide +kernel, by decide +kernel, by decide +kernel⟩⟩
theorem c_Rf_101 : px_cV "TroubleMemoryModel" 101 "TroubleMemoryModel" m_Rf_many 1 := ⟨List.forall_mem_cons.mpr ⟨w_619, List.forall_mem_cons.mpr ⟨w_621, List.forall_mem_cons.mpr ⟨wp_21, List.forall_mem_cons.mpr ⟨w_6, fun _ h => absurd h List.not_mem_nil⟩⟩⟩⟩, rfl, ⟨by decide +kernel, by decide +kernel, by decide +kernel⟩⟩
theorem c_Rf_109 : px_cV "TroubleMemoryModel" 109 "TroubleMemoryModel" m_Rf_entries 0 := ⟨List.forall_mem_cons.mpr ⟨w_623, List.forall_mem_cons.mpr ⟨w_625, List.forall_mem_cons.mpr ⟨wp_22, List.forall_mem_cons.mpr ⟨w_6, fun _ h => absurd h List.not_mem_nil⟩⟩⟩⟩, rfl, ⟨by decide +kernel, by decide +kernel, by decide +kernel⟩⟩
theorem c_Rf_113 : px_cV "TroubleMemoryModel" 113 "TroubleMemoryModel" m_Rf_goes 1 := ⟨List.forall_mem_cons.mpr ⟨w_627, List.forall_mem_cons.mpr ⟨w_629, List.forall_mem_cons.mpr ⟨wp_23, List.forall_mem_cons.mpr ⟨w_6, fun _ h => absurd h List.not_mem_nil⟩⟩⟩⟩, rfl, ⟨by decide +kernel, by decide +kernel, by decide +kernel⟩⟩
theorem c_Lw_35 : px_cV "TroubleMemoryLaw" 35 "TroubleMemoryModel" m_Rf_cycle 1 := ⟨List.forall_mem_cons.mpr ⟨w_631, List.forall_mem_cons.mpr ⟨w_632, List.forall_mem_cons.mpr ⟨w_633, List.forall_mem_cons.mpr ⟨w_6, fun _ h => absurd h List.not_mem_nil⟩⟩⟩⟩, rfl, ⟨by decide +kernel, by decide +kernel, by decide +kernel⟩⟩
theorem c_Lw_40 : px_cV "TroubleMemoryLaw" 40 "TroubleMemoryModel" m_Rf_status 1 := ⟨List.forall_mem_cons.mpr ⟨w_635, List.forall_mem_cons.mpr ⟨w_636, List.forall_mem_cons.mpr ⟨w_637, List.forall_mem_cons.mpr ⟨w_6, fun _ h => absurd h List.not_mem_nil⟩⟩⟩⟩, rfl, ⟨by decide +kernel, by decide +kernel, by decide +kernel⟩⟩
theorem c_Lw_44 : px_cV "TroubleMemoryLaw" 44 "TroubleMemoryModel" m_Rf_snapshot 3 := ⟨List.forall_mem_cons.mpr ⟨w_639, List.forall_mem_cons.mpr ⟨w_640, List.forall_mem_cons.mpr ⟨w_641, List.forall_mem_cons.mpr ⟨w_6, fun _ h => absurd h List.not_mem_nil⟩⟩⟩⟩, rfl, ⟨by decide +kernel, by decide +kernel, by decide +kernel⟩⟩
theorem c_Lw_48 : px_cV "TroubleMemoryLaw" 48 "TroubleMemoryModel" m_Rf_clear 1 := ⟨List.forall_mem_cons.mpr ⟨w_643, List.forall_mem_cons.mpr ⟨w_644, List.forall_mem_cons.mpr ⟨w_645, List.forall_mem_cons.mpr ⟨w_6, fun _ h => absurd h List.not_mem_nil⟩⟩⟩⟩, rfl, ⟨by decide +kernel, by decide +kernel, by decide +kernel⟩⟩
theorem c_Lw_53 : px_cV "TroubleMemoryLaw" 53 "TroubleMemoryModel" m_Rf_parent 2 := ⟨List.forall_mem_cons.mpr ⟨w_647, List.forall_mem_cons.mpr ⟨w_648, List.forall_mem_cons.mpr ⟨w_649, List.forall_mem_cons.mpr ⟨w_6, fun _ h => absurd h List.not_mem_nil⟩⟩⟩⟩, rfl, ⟨by decide +kernel, by decide +kernel, by decide +kernel⟩⟩
theorem c_Lw_57 : px_cV "TroubleMemoryLaw" 57 "TroubleMemoryModel" m_Rf_enable 2 := ⟨List.forall_mem_cons.mpr ⟨w_651, List.forall_mem_cons.mpr ⟨w_652, List.forall_mem_cons.mpr ⟨w_653, List.forall_mem_cons.mpr ⟨w_6, fun _ h => absurd h List.not_mem_nil⟩⟩⟩⟩, rfl, ⟨by decide +kernel, by decide +kernel, by decide +kernel⟩⟩
theorem c_Lw_61 : px_cV "TroubleMemoryLaw" 61 "TroubleMemoryModel" m_Rf_lamp 1 := ⟨List.forall_mem_cons.mpr ⟨w_655, List.forall_mem_cons.mpr ⟨w_656, List.forall_mem_cons.mpr ⟨w_657, List.forall_mem_cons.mpr ⟨w_6, fun _ h => absurd h List.not_mem_nil⟩⟩⟩⟩, rfl, ⟨by decide +kernel, by decide +kernel, by decide +kernel⟩⟩
theorem c_Lw_65 : px_cV "TroubleMemoryLaw" 65 "TroubleMemoryModel" m_Rf_stored 2 := ⟨List.forall_mem_cons.mpr ⟨w_659, List.forall_mem_cons.mpr ⟨w_660, List.forall_mem_cons.mpr ⟨w_661, List.forall_mem_cons.mpr ⟨w_6, fun _ h => absurd h List.not_mem_nil⟩⟩⟩⟩, rfl, ⟨by decide +kernel, by decide +kernel, by decide +kernel⟩⟩
theorem c_Lw_70 : px_cV "TroubleMemoryLaw" 70 "TroubleMemoryModel" m_Rf_cut 0 := ⟨List.forall_mem_cons.mpr ⟨w_663, List.forall_mem_cons.mpr ⟨w_664, List.forall_mem_cons.mpr ⟨w_665, List.forall_mem_cons.mpr ⟨w_6, fun _ h => absurd h List.not_mem_nil⟩⟩⟩⟩, rfl, ⟨by decide +kernel, by decide +kernel, by decide +kernel⟩⟩
theorem c_Lw_74 : px_cV "TroubleMemoryLaw" 74 "TroubleMemoryModel" m_Rf_start 0 := ⟨List.forall_mem_cons.mpr ⟨w_667, List.forall_mem_cons.mpr ⟨w_668, List.forall_mem_cons.mpr ⟨w_669, List.forall_mem_cons.mpr ⟨w_6, fun _ h => absurd h List.not_mem_nil⟩⟩⟩⟩, rfl, ⟨by decide +kernel, by decide +kernel, by decide +kernel⟩⟩
theorem c_Lw_78 : px_cV "TroubleMemoryLaw" 78 "TroubleMemoryModel" m_Rf_displaced 1 := ⟨List.forall_mem_cons.mpr ⟨w_671, List.forall_mem_cons.mpr ⟨w_672, List.forall_mem_cons.mpr ⟨w_673, List.forall_mem_cons.mpr ⟨w_6, fun _ h => absurd h List.not_mem_nil⟩⟩⟩⟩, rfl, ⟨by decide +kernel, by decide +kernel, by decide +kernel⟩⟩
theorem c_Lw_82 : px_cV "TroubleMemoryLaw" 82 "TroubleMemoryModel" m_Rf_age 1 := ⟨List.forall_mem_cons.mpr ⟨w_675, List.forall_mem_cons.mpr ⟨w_676, List.forall_mem_cons.mpr ⟨w_677, List.forall_mem_cons.mpr ⟨w_6, fun _ h => absurd h List.not_mem_nil⟩⟩⟩⟩, rfl, ⟨by decide +kernel, by decide +kernel, by decide +kernel⟩⟩
end
section
/-! MORE ROWS: updates of one cell, branches that are known -/
theorem px_up_self : ∀ (ws : va_W) (a : Nat) (e : va_E), px_lk ws a = some e → px_up ws a e = ws
  | [], _, _, _ => rfl
  | q :: t, a, e, h => by
    unfold px_lk at h
    by_cases hq : q.1 = a
    · rw [if_pos hq] at h
      have e2 : q.2 = e := Option.some.inj h
      unfold px_up
      rw [if_pos hq, ← hq, ← e2]
    · rw [if_neg hq] at h
      unfold px_up
      rw [if_neg hq, px_up_self t a e h]
theorem px_cmp_n {c : Jvm.ClassFile.Cond} {x y : Int32} (h : px_cmp c x y) (n : px_ncmp c x y) : False := by
  cases c
  case ne => exact h n
  all_goals exact n h
section PXM
variable {G : px_G} {M : px_M} {pc nx d bc bs : Nat} {tg : List Nat} {z : Int32} {lv : List (Nat × Value)} {st : List Value} {ws : va_W} {Q : Option Value → va_W → Prop}
theorem p_ifT {cc : Jvm.ClassFile.Cond} {off : Int} {t : Nat} {x : Int32} (ha : px_at M pc = some (.ifCond cc off, nx, [t], z)) (h : px_cmp cc x 0) (kt : px G M t lv st ws d bc bs Q) : px G M pc lv (.int x :: st) ws d bc bs Q := p_if ha (fun _ => kt) (fun n => (px_cmp_n h n).elim)
theorem p_ifF {cc : Jvm.ClassFile.Cond} {off : Int} {t : Nat} {x : Int32} (ha : px_at M pc = some (.ifCond cc off, nx, [t], z)) (h : px_ncmp cc x 0) (kf : px G M nx lv st ws d bc bs Q) : px G M pc lv (.int x :: st) ws d bc bs Q := p_if ha (fun n => (px_cmp_n n h).elim) (fun _ => kf)
theorem p_icmpT {cc : Jvm.ClassFile.Cond} {off : Int} {t : Nat} {x y : Int32} (ha : px_at M pc = some (.if_icmp cc off, nx, [t], z)) (h : px_cmp cc x y) (kt : px G M t lv st ws d bc bs Q) : px G M pc lv (.int y :: .int x :: st) ws d bc bs Q := p_icmp ha (fun _ => kt) (fun n => (px_cmp_n h n).elim)
theorem p_icmpF {cc : Jvm.ClassFile.Cond} {off : Int} {t : Nat} {x y : Int32} (ha : px_at M pc = some (.if_icmp cc off, nx, [t], z)) (h : px_ncmp cc x y) (kf : px G M nx lv st ws d bc bs Q) : px G M pc lv (.int y :: .int x :: st) ws d bc bs Q := p_icmp ha (fun n => (px_cmp_n n h).elim) (fun _ => kf)
theorem p_get2 {idx ci k a : Nat} {fs : List Value} {v : Value} {x : va_E} (ha : px_at M pc = some (.getfield idx, nx, tg, z)) (hF : px_Fd (px_y M).cls idx ci k) (hw : px_lk ws a = some x) (hv : fs[k]? = some v) (kk : px G M nx lv (v :: st) (px_up ws a (.inr (ci, fs))) d bc bs Q) : px G M pc lv (.ref a :: st) (px_up ws a (.inr (ci, fs))) d bc bs Q := p_get ha hF (px_lk_same _ _ _ _ hw) hv kk
theorem p_put2 {idx ci k a : Nat} {fs : List Value} {v : Value} {ty : FieldType} {x : va_E} (ha : px_at M pc = some (.putfield idx, nx, tg, z)) (hF : px_Fp (px_y M).cls idx ci k ty) (hw : px_lk ws a = some x) (hn : narrow ty v = v) (hf : fits ty v = true) (hkl : k < fs.length) (kk : px G M nx lv st (px_up ws a (.inr (ci, fs.set k v))) d bc bs Q) : px G M pc lv (v :: .ref a :: st) (px_up ws a (.inr (ci, fs))) d bc bs Q := p_put ha hF (px_lk_same _ _ _ _ hw) hn hf hkl (by rw [px_up_up]; exact kk)
theorem p_putF2 {idx ci k a : Nat} {fs : List Value} {v : Value} {ty : FieldType} {x : va_E} (ha : px_at M pc = some (.putfield idx, nx, tg, z)) (hF : px_FpF (px_y M).cls idx ci k ty) (hi : (px_y M).name = "<init>") (hw : px_lk ws a = some x) (hn : narrow ty v = v) (hf : fits ty v = true) (hkl : k < fs.length) (kk : px G M nx lv st (px_up ws a (.inr (ci, fs.set k v))) d bc bs Q) : px G M pc lv (v :: .ref a :: st) (px_up ws a (.inr (ci, fs))) d bc bs Q := p_putF ha hF hi (px_lk_same _ _ _ _ hw) hn hf hkl (by rw [px_up_up]; exact kk)
/-- the first update of a cell -/
theorem p_own {a : Nat} {e : va_E} (h : px_lk ws a = some e) (kk : px G M pc lv st (px_up ws a e) d bc bs Q) : px G M pc lv st ws d bc bs Q := by rw [px_up_self ws a e h] at kk; exact kk
end PXM
theorem px_nn {ws : va_W} {a q : Nat} {x : va_E} (h : px_lk ws a = some x) (hq : px_lk ws q = none) : a ≠ q := by
  intro z
  subst z
  rw [h] at hq
  cases hq
/-- what is left of the cells outside S -/
def px_fr (S : Nat → Prop) (ws w : va_W) : Prop := ∀ (b : Nat) (x : va_E), ¬ S b → px_lk ws b = some x → px_lk w b = some x
theorem px_fr.rf {S : Nat → Prop} {ws : va_W} : px_fr S ws ws := fun _ _ _ h => h
theorem px_fr.tr {S : Nat → Prop} {w1 w2 w3 : va_W} (h1 : px_fr S w1 w2) (h2 : px_fr S w2 w3) : px_fr S w1 w3 := fun b x hb h => h2 b x hb (h1 b x hb h)
theorem px_fr.up {S : Nat → Prop} {ws : va_W} {a : Nat} {e : va_E} (h : S a) : px_fr S ws (px_up ws a e) := fun b x hb hx => px_keep hx (fun z => hb (by rw [z]; exact h))
theorem px_fr.nw {S : Nat → Prop} {ws : va_W} {q : Nat} {e : va_E} : px_fr S ws (ws ++ [(q, e)]) := fun b y _ hy => px_lk_old _ _ _ _ _ hy
theorem px_fr.upn {S : Nat → Prop} {ws : va_W} {q : Nat} {e e' : va_E} (h : px_lk ws q = none) : px_fr S ws (px_up (ws ++ [(q, e)]) q e') := fun b y _ hy => px_keep (px_lk_old _ _ _ _ _ hy) (px_nn hy h)
theorem px_fr.wk {S T : Nat → Prop} {ws w : va_W} (h : px_fr S ws w) (hT : ∀ b, S b → T b) : px_fr T ws w := fun b x hb hx => h b x (fun z => hb (hT b z)) hx
theorem px_w {G : px_G} {M : px_M} {pc d bc bs : Nat} {lv : List (Nat × Value)} {st : List Value} {ws w : va_W} {Q : Option Value → va_W → Prop} (h : w = ws) (kk : px G M pc lv st w d bc bs Q) : px G M pc lv st ws d bc bs Q := h ▸ kk
end
section
/-! STANDING: a code's status, trips, age, good -/
abbrev oSg (s t a g : Int32) : va_E := .inr (3, [.int s, .int t, .int a, .int g])
def sHas (s b : Int32) : Int32 := if s &&& b = 0 then 0 else 1
set_option maxHeartbeats 1000000 in
theorem c_has {G : px_G} {ws : va_W} {a d : Nat} {s t ag g : Int32} {b : Int32} (h : px_lk ws a = some (oSg s t ag g)) : px G m_Sg_has 0 (lv_args 0 [.ref a, .int b]) [] ws d 0 0 (fun v w => v = some (.int (sHas s b)) ∧ w = ws) := by
  refine p_s rfl rfl ?_
  refine p_get rfl f_Sg_9 h rfl ?_
  refine p_s rfl rfl ?_
  refine p_s rfl rfl ?_
  refine p_if rfl (fun c => ?_) (fun c => ?_)
  · simp only [px_cmp] at c
    refine p_s rfl rfl ?_
    exact p_iret rfl rfl rfl ⟨by rw [sHas, if_pos c], rfl⟩
  · simp only [px_ncmp] at c
    refine p_s rfl rfl ?_
    refine p_goto rfl ?_
    exact p_iret rfl rfl rfl ⟨by rw [sHas, if_neg c], rfl⟩
set_option maxHeartbeats 1000000 in
theorem c_copyFrom {G : px_G} {ws : va_W} {a d : Nat} {s t ag g : Int32} {b : Nat} {s2 t2 ag2 g2 : Int32} (h : px_lk ws a = some (oSg s t ag g)) (h2 : px_lk ws b = some (oSg s2 t2 ag2 g2)) (hne : b ≠ a) : px G m_Sg_copyFrom 0 (lv_args 0 [.ref a, .ref b]) [] ws d 0 0 (fun v w => v = none ∧ w = px_up ws a (oSg s2 t2 ag2 g2)) := by
  refine p_own h ?_
  refine p_s rfl rfl ?_
  refine p_s rfl rfl ?_
  refine p_get rfl f_Sg_9 (px_keep h2 hne) rfl ?_
  refine p_put2 rfl fp_Sg_9 h rfl rfl (by exact Nat.le_of_ble_eq_true rfl) ?_
  refine p_s rfl rfl ?_
  refine p_s rfl rfl ?_
  refine p_get rfl f_Sg_15 (px_keep h2 hne) rfl ?_
  refine p_put2 rfl fp_Sg_15 h rfl rfl (by exact Nat.le_of_ble_eq_true rfl) ?_
  refine p_s rfl rfl ?_
  refine p_s rfl rfl ?_
  refine p_get rfl f_Sg_18 (px_keep h2 hne) rfl ?_
  refine p_put2 rfl fp_Sg_18 h rfl rfl (by exact Nat.le_of_ble_eq_true rfl) ?_
  refine p_s rfl rfl ?_
  refine p_s rfl rfl ?_
  refine p_get rfl f_Sg_21 (px_keep h2 hne) rfl ?_
  refine p_put2 rfl fp_Sg_21 h rfl rfl (by exact Nat.le_of_ble_eq_true rfl) ?_
  exact p_vret rfl rfl ⟨rfl, rfl⟩
set_option maxHeartbeats 1000000 in
theorem c_reset {G : px_G} {ws : va_W} {a d : Nat} {s t ag g : Int32} (h : px_lk ws a = some (oSg s t ag g)) : px G m_Sg_reset 0 (lv_args 0 [.ref a]) [] ws d 0 0 (fun v w => v = none ∧ w = px_up ws a (oSg 80 0 0 0)) := by
  refine p_own h ?_
  refine p_s rfl rfl ?_
  refine p_s rfl rfl ?_
  refine p_put2 rfl fp_Sg_9 h rfl rfl (by exact Nat.le_of_ble_eq_true rfl) ?_
  refine p_s rfl rfl ?_
  refine p_s rfl rfl ?_
  refine p_put2 rfl fp_Sg_15 h rfl rfl (by exact Nat.le_of_ble_eq_true rfl) ?_
  refine p_s rfl rfl ?_
  refine p_s rfl rfl ?_
  refine p_put2 rfl fp_Sg_18 h rfl rfl (by exact Nat.le_of_ble_eq_true rfl) ?_
  refine p_s rfl rfl ?_
  refine p_s rfl rfl ?_
  refine p_put2 rfl fp_Sg_21 h rfl rfl (by exact Nat.le_of_ble_eq_true rfl) ?_
  exact p_vret rfl rfl ⟨rfl, rfl⟩
set_option maxHeartbeats 1000000 in
theorem c_pass {G : px_G} {ws : va_W} {a d : Nat} {s t ag g : Int32} (h : px_lk ws a = some (oSg s t ag g)) : px G m_Sg_pass 0 (lv_args 0 [.ref a]) [] ws d 0 0 (fun v w => v = none ∧ w = px_up ws a (oSg (s &&& -82) t ag g)) := by
  refine p_own h ?_
  refine p_s rfl rfl ?_
  refine p_s rfl rfl ?_
  refine p_get2 rfl f_Sg_9 h rfl ?_
  refine p_s rfl rfl ?_
  refine p_s rfl rfl ?_
  refine p_put2 rfl fp_Sg_9 h rfl rfl (by exact Nat.le_of_ble_eq_true rfl) ?_
  exact p_vret rfl rfl ⟨rfl, rfl⟩
set_option maxHeartbeats 1000000 in
theorem c_heal {G : px_G} {ws : va_W} {a d : Nat} {s t ag g : Int32} (h : px_lk ws a = some (oSg s t ag g)) : px G m_Sg_heal 0 (lv_args 0 [.ref a]) [] ws d 0 0 (fun v w => v = none ∧ w = px_up ws a (oSg (s &&& -9) 0 0 0)) := by
  refine p_own h ?_
  refine p_s rfl rfl ?_
  refine p_s rfl rfl ?_
  refine p_get2 rfl f_Sg_9 h rfl ?_
  refine p_s rfl rfl ?_
  refine p_s rfl rfl ?_
  refine p_put2 rfl fp_Sg_9 h rfl rfl (by exact Nat.le_of_ble_eq_true rfl) ?_
  refine p_s rfl rfl ?_
  refine p_s rfl rfl ?_
  refine p_put2 rfl fp_Sg_15 h rfl rfl (by exact Nat.le_of_ble_eq_true rfl) ?_
  refine p_s rfl rfl ?_
  refine p_s rfl rfl ?_
  refine p_put2 rfl fp_Sg_18 h rfl rfl (by exact Nat.le_of_ble_eq_true rfl) ?_
  refine p_s rfl rfl ?_
  refine p_s rfl rfl ?_
  refine p_put2 rfl fp_Sg_21 h rfl rfl (by exact Nat.le_of_ble_eq_true rfl) ?_
  exact p_vret rfl rfl ⟨rfl, rfl⟩
set_option maxHeartbeats 1000000 in
theorem c_beginCycle {G : px_G} {ws : va_W} {a d : Nat} {s t ag g : Int32} (h : px_lk ws a = some (oSg s t ag g)) : px G m_Sg_beginCycle 0 (lv_args 0 [.ref a]) [] ws d 0 0 (fun v w => v = none ∧ w = px_up ws a (oSg ((s &&& -3) ||| 64) t ag g)) := by
  refine p_own h ?_
  refine p_s rfl rfl ?_
  refine p_s rfl rfl ?_
  refine p_get2 rfl f_Sg_9 h rfl ?_
  refine p_s rfl rfl ?_
  refine p_s rfl rfl ?_
  refine p_put2 rfl fp_Sg_9 h rfl rfl (by exact Nat.le_of_ble_eq_true rfl) ?_
  refine p_s rfl rfl ?_
  refine p_s rfl rfl ?_
  refine p_get2 rfl f_Sg_9 h rfl ?_
  refine p_s rfl rfl ?_
  refine p_s rfl rfl ?_
  refine p_put2 rfl fp_Sg_9 h rfl rfl (by exact Nat.le_of_ble_eq_true rfl) ?_
  exact p_vret rfl rfl ⟨rfl, rfl⟩
def mn255 (x : Int32) : Int32 := if 255 < x then 255 else x
def sFailT (s t : Int32) : Int32 := if sHas (s &&& -81) 2 = 0 then mn255 (t + 1) else t
def sFailS (l s t : Int32) : Int32 := (if sFailT s t < 2 then s &&& -81 else (s &&& -81) ||| (if l = 0 then 8 else 136)) ||| 39
set_option maxHeartbeats 1000000 in
theorem c_fail {G : px_G} {ws : va_W} {a d : Nat} {s t ag g : Int32} {l : Int32} (h : px_lk ws a = some (oSg s t ag g)) : px G m_Sg_fail 0 (lv_args 0 [.ref a, .int l]) [] ws (d + 1) 0 0 (fun v w => v = none ∧ w = px_up ws a (oSg (sFailS l s t) (sFailT s t) 0 0)) := by
  refine p_own h ?_
  refine p_s rfl rfl ?_
  refine p_s rfl rfl ?_
  refine p_get2 rfl f_Sg_9 h rfl ?_
  refine p_s rfl rfl ?_
  refine p_s rfl rfl ?_
  refine p_put2 rfl fp_Sg_9 h rfl rfl (by exact Nat.le_of_ble_eq_true rfl) ?_
  refine p_s rfl rfl ?_
  refine p_s rfl rfl ?_
  refine p_callV rfl c_Sg_24 rfl (px_lk_same _ _ _ _ h) g_Sg_has rfl rfl rfl (c_has ((px_lk_same _ _ _ _ h))) (fun v w hq => ?_)
  obtain ⟨rfl, rfl⟩ := hq
  refine p_if rfl (fun c => ?_) (fun c => ?_)
  · simp only [px_cmp] at c
    refine p_s rfl rfl ?_
    refine p_get2 rfl f_Sg_15 h rfl ?_
    refine p_s rfl rfl ?_
    refine p_icmp rfl (fun c2 => ?_) (fun c2 => ?_)
    · simp only [px_cmp] at c2
      refine p_s rfl rfl ?_
      refine p_s rfl rfl ?_
      refine p_get2 rfl f_Sg_9 h rfl ?_
      refine p_s rfl rfl ?_
      refine p_s rfl rfl ?_
      refine p_put2 rfl fp_Sg_9 h rfl rfl (by exact Nat.le_of_ble_eq_true rfl) ?_
      refine p_s rfl rfl ?_
      refine p_s rfl rfl ?_
      refine p_put2 rfl fp_Sg_18 h rfl rfl (by exact Nat.le_of_ble_eq_true rfl) ?_
      refine p_s rfl rfl ?_
      refine p_s rfl rfl ?_
      refine p_put2 rfl fp_Sg_21 h rfl rfl (by exact Nat.le_of_ble_eq_true rfl) ?_
      exact p_vret rfl rfl ⟨rfl, by rw [sFailS, sFailT, if_neg c, if_pos (show t < 2 from c2)]; rfl⟩
    · simp only [px_ncmp] at c2
      refine p_s rfl rfl ?_
      refine p_s rfl rfl ?_
      refine p_get2 rfl f_Sg_9 h rfl ?_
      refine p_s rfl rfl ?_
      refine p_if rfl (fun c3 => ?_) (fun c3 => ?_)
      · simp only [px_cmp] at c3
        refine p_s rfl rfl ?_
        refine p_s rfl rfl ?_
        refine p_put2 rfl fp_Sg_9 h rfl rfl (by exact Nat.le_of_ble_eq_true rfl) ?_
        refine p_s rfl rfl ?_
        refine p_s rfl rfl ?_
        refine p_get2 rfl f_Sg_9 h rfl ?_
        refine p_s rfl rfl ?_
        refine p_s rfl rfl ?_
        refine p_put2 rfl fp_Sg_9 h rfl rfl (by exact Nat.le_of_ble_eq_true rfl) ?_
        refine p_s rfl rfl ?_
        refine p_s rfl rfl ?_
        refine p_put2 rfl fp_Sg_18 h rfl rfl (by exact Nat.le_of_ble_eq_true rfl) ?_
        refine p_s rfl rfl ?_
        refine p_s rfl rfl ?_
        refine p_put2 rfl fp_Sg_21 h rfl rfl (by exact Nat.le_of_ble_eq_true rfl) ?_
        exact p_vret rfl rfl ⟨rfl, by rw [sFailS, sFailT, if_neg c, if_neg (show ¬ t < 2 from c2), if_pos c3]; rfl⟩
      · simp only [px_ncmp] at c3
        refine p_s rfl rfl ?_
        refine p_goto rfl ?_
        refine p_s rfl rfl ?_
        refine p_put2 rfl fp_Sg_9 h rfl rfl (by exact Nat.le_of_ble_eq_true rfl) ?_
        refine p_s rfl rfl ?_
        refine p_s rfl rfl ?_
        refine p_get2 rfl f_Sg_9 h rfl ?_
        refine p_s rfl rfl ?_
        refine p_s rfl rfl ?_
        refine p_put2 rfl fp_Sg_9 h rfl rfl (by exact Nat.le_of_ble_eq_true rfl) ?_
        refine p_s rfl rfl ?_
        refine p_s rfl rfl ?_
        refine p_put2 rfl fp_Sg_18 h rfl rfl (by exact Nat.le_of_ble_eq_true rfl) ?_
        refine p_s rfl rfl ?_
        refine p_s rfl rfl ?_
        refine p_put2 rfl fp_Sg_21 h rfl rfl (by exact Nat.le_of_ble_eq_true rfl) ?_
        exact p_vret rfl rfl ⟨rfl, by rw [sFailS, sFailT, if_neg c, if_neg (show ¬ t < 2 from c2), if_neg c3]; rfl⟩
  · simp only [px_ncmp] at c
    refine p_s rfl rfl ?_
    refine p_s rfl rfl ?_
    refine p_get2 rfl f_Sg_15 h rfl ?_
    refine p_s rfl rfl ?_
    refine p_s rfl rfl ?_
    refine p_s rfl rfl ?_
    refine p_min rfl w_277 w_217 w_10 w_218 (by exact Nat.le_of_ble_eq_true rfl) ?_
    refine p_put2 rfl fp_Sg_15 h rfl rfl (by exact Nat.le_of_ble_eq_true rfl) ?_
    refine p_s rfl rfl ?_
    refine p_get2 rfl f_Sg_15 h rfl ?_
    refine p_s rfl rfl ?_
    refine p_icmp rfl (fun c2 => ?_) (fun c2 => ?_)
    · simp only [px_cmp] at c2
      refine p_s rfl rfl ?_
      refine p_s rfl rfl ?_
      refine p_get2 rfl f_Sg_9 h rfl ?_
      refine p_s rfl rfl ?_
      refine p_s rfl rfl ?_
      refine p_put2 rfl fp_Sg_9 h rfl rfl (by exact Nat.le_of_ble_eq_true rfl) ?_
      refine p_s rfl rfl ?_
      refine p_s rfl rfl ?_
      refine p_put2 rfl fp_Sg_18 h rfl rfl (by exact Nat.le_of_ble_eq_true rfl) ?_
      refine p_s rfl rfl ?_
      refine p_s rfl rfl ?_
      refine p_put2 rfl fp_Sg_21 h rfl rfl (by exact Nat.le_of_ble_eq_true rfl) ?_
      exact p_vret rfl rfl ⟨rfl, by rw [sFailS, sFailT, if_pos c, if_pos (show mn255 (t + 1) < 2 from c2)]; rfl⟩
    · simp only [px_ncmp] at c2
      refine p_s rfl rfl ?_
      refine p_s rfl rfl ?_
      refine p_get2 rfl f_Sg_9 h rfl ?_
      refine p_s rfl rfl ?_
      refine p_if rfl (fun c3 => ?_) (fun c3 => ?_)
      · simp only [px_cmp] at c3
        refine p_s rfl rfl ?_
        refine p_s rfl rfl ?_
        refine p_put2 rfl fp_Sg_9 h rfl rfl (by exact Nat.le_of_ble_eq_true rfl) ?_
        refine p_s rfl rfl ?_
        refine p_s rfl rfl ?_
        refine p_get2 rfl f_Sg_9 h rfl ?_
        refine p_s rfl rfl ?_
        refine p_s rfl rfl ?_
        refine p_put2 rfl fp_Sg_9 h rfl rfl (by exact Nat.le_of_ble_eq_true rfl) ?_
        refine p_s rfl rfl ?_
        refine p_s rfl rfl ?_
        refine p_put2 rfl fp_Sg_18 h rfl rfl (by exact Nat.le_of_ble_eq_true rfl) ?_
        refine p_s rfl rfl ?_
        refine p_s rfl rfl ?_
        refine p_put2 rfl fp_Sg_21 h rfl rfl (by exact Nat.le_of_ble_eq_true rfl) ?_
        exact p_vret rfl rfl ⟨rfl, by rw [sFailS, sFailT, if_pos c, if_neg (show ¬ mn255 (t + 1) < 2 from c2), if_pos c3]; rfl⟩
      · simp only [px_ncmp] at c3
        refine p_s rfl rfl ?_
        refine p_goto rfl ?_
        refine p_s rfl rfl ?_
        refine p_put2 rfl fp_Sg_9 h rfl rfl (by exact Nat.le_of_ble_eq_true rfl) ?_
        refine p_s rfl rfl ?_
        refine p_s rfl rfl ?_
        refine p_get2 rfl f_Sg_9 h rfl ?_
        refine p_s rfl rfl ?_
        refine p_s rfl rfl ?_
        refine p_put2 rfl fp_Sg_9 h rfl rfl (by exact Nat.le_of_ble_eq_true rfl) ?_
        refine p_s rfl rfl ?_
        refine p_s rfl rfl ?_
        refine p_put2 rfl fp_Sg_18 h rfl rfl (by exact Nat.le_of_ble_eq_true rfl) ?_
        refine p_s rfl rfl ?_
        refine p_s rfl rfl ?_
        refine p_put2 rfl fp_Sg_21 h rfl rfl (by exact Nat.le_of_ble_eq_true rfl) ?_
        exact p_vret rfl rfl ⟨rfl, by rw [sFailS, sFailT, if_pos c, if_neg (show ¬ mn255 (t + 1) < 2 from c2), if_neg c3]; rfl⟩
set_option maxHeartbeats 1000000 in
theorem c_wasOnlyGood {G : px_G} {ws : va_W} {a d : Nat} {s t ag g : Int32} (h : px_lk ws a = some (oSg s t ag g)) : px G m_Sg_wasOnlyGood 0 (lv_args 0 [.ref a]) [] ws (d + 1) 0 0 (fun v w => v = some (.int (if sHas s 2 = 0 ∧ sHas s 64 = 0 then 1 else 0)) ∧ w = ws) := by
  refine p_s rfl rfl ?_
  refine p_s rfl rfl ?_
  refine p_callV rfl c_Sg_24 rfl h g_Sg_has rfl rfl rfl (c_has h) (fun v w hq => ?_)
  obtain ⟨rfl, rfl⟩ := hq
  refine p_if rfl (fun c => ?_) (fun c => ?_)
  · simp only [px_cmp] at c
    refine p_s rfl rfl ?_
    exact p_iret rfl rfl rfl ⟨by rw [if_neg (fun h => c h.1)], rfl⟩
  · simp only [px_ncmp] at c
    refine p_s rfl rfl ?_
    refine p_s rfl rfl ?_
    refine p_callV rfl c_Sg_24 rfl h g_Sg_has rfl rfl rfl (c_has h) (fun v w hq => ?_)
    obtain ⟨rfl, rfl⟩ := hq
    refine p_if rfl (fun c2 => ?_) (fun c2 => ?_)
    · simp only [px_cmp] at c2
      refine p_s rfl rfl ?_
      exact p_iret rfl rfl rfl ⟨by rw [if_neg (fun h => c2 h.2)], rfl⟩
    · simp only [px_ncmp] at c2
      refine p_s rfl rfl ?_
      refine p_goto rfl ?_
      exact p_iret rfl rfl rfl ⟨by rw [if_pos ⟨c, c2⟩], rfl⟩
set_option maxHeartbeats 1000000 in
theorem c_ages {G : px_G} {ws : va_W} {a d : Nat} {s t ag g : Int32} (h : px_lk ws a = some (oSg s t ag g)) : px G m_Sg_ages 0 (lv_args 0 [.ref a]) [] ws (d + 1) 0 0 (fun v w => v = some (.int (if ¬ sHas s 8 = 0 ∧ sHas s 1 = 0 then 1 else 0)) ∧ w = ws) := by
  refine p_s rfl rfl ?_
  refine p_s rfl rfl ?_
  refine p_callV rfl c_Sg_24 rfl h g_Sg_has rfl rfl rfl (c_has h) (fun v w hq => ?_)
  obtain ⟨rfl, rfl⟩ := hq
  refine p_if rfl (fun c => ?_) (fun c => ?_)
  · simp only [px_cmp] at c
    refine p_s rfl rfl ?_
    exact p_iret rfl rfl rfl ⟨by rw [if_neg (fun h => h.1 c)], rfl⟩
  · simp only [px_ncmp] at c
    refine p_s rfl rfl ?_
    refine p_s rfl rfl ?_
    refine p_callV rfl c_Sg_24 rfl h g_Sg_has rfl rfl rfl (c_has h) (fun v w hq => ?_)
    obtain ⟨rfl, rfl⟩ := hq
    refine p_if rfl (fun c2 => ?_) (fun c2 => ?_)
    · simp only [px_cmp] at c2
      refine p_s rfl rfl ?_
      exact p_iret rfl rfl rfl ⟨by rw [if_neg (fun h => c2 h.2)], rfl⟩
    · simp only [px_ncmp] at c2
      refine p_s rfl rfl ?_
      refine p_goto rfl ?_
      exact p_iret rfl rfl rfl ⟨by rw [if_pos ⟨c, c2⟩], rfl⟩
def sGoodT (s t : Int32) : Int32 := if sHas (s &&& -5) 8 = 0 then 0 else t
def sGoodS (s g : Int32) : Int32 := if mn255 (g + 1) < 3 then s &&& -5 else (s &&& -5) &&& -129
set_option maxHeartbeats 1000000 in
theorem c_addGoodCycle {G : px_G} {ws : va_W} {a d : Nat} {s t ag g : Int32} (h : px_lk ws a = some (oSg s t ag g)) : px G m_Sg_addGoodCycle 0 (lv_args 0 [.ref a]) [] ws (d + 1) 0 0 (fun v w => v = none ∧ w = px_up ws a (oSg (sGoodS s g) (sGoodT s t) ag (mn255 (g + 1)))) := by
  refine p_own h ?_
  refine p_s rfl rfl ?_
  refine p_s rfl rfl ?_
  refine p_get2 rfl f_Sg_9 h rfl ?_
  refine p_s rfl rfl ?_
  refine p_s rfl rfl ?_
  refine p_put2 rfl fp_Sg_9 h rfl rfl (by exact Nat.le_of_ble_eq_true rfl) ?_
  refine p_s rfl rfl ?_
  refine p_s rfl rfl ?_
  refine p_callV rfl c_Sg_24 rfl (px_lk_same _ _ _ _ h) g_Sg_has rfl rfl rfl (c_has ((px_lk_same _ _ _ _ h))) (fun v w hq => ?_)
  obtain ⟨rfl, rfl⟩ := hq
  refine p_if rfl (fun c => ?_) (fun c => ?_)
  · simp only [px_cmp] at c
    refine p_s rfl rfl ?_
    refine p_s rfl rfl ?_
    refine p_get2 rfl f_Sg_21 h rfl ?_
    refine p_s rfl rfl ?_
    refine p_s rfl rfl ?_
    refine p_s rfl rfl ?_
    refine p_min rfl w_277 w_217 w_10 w_218 (by exact Nat.le_of_ble_eq_true rfl) ?_
    refine p_put2 rfl fp_Sg_21 h rfl rfl (by exact Nat.le_of_ble_eq_true rfl) ?_
    refine p_s rfl rfl ?_
    refine p_get2 rfl f_Sg_21 h rfl ?_
    refine p_s rfl rfl ?_
    refine p_icmp rfl (fun c2 => ?_) (fun c2 => ?_)
    · simp only [px_cmp] at c2
      exact p_vret rfl rfl ⟨rfl, by rw [sGoodT, sGoodS, if_neg c, if_pos (show mn255 (g + 1) < 3 from c2)]; rfl⟩
    · simp only [px_ncmp] at c2
      refine p_s rfl rfl ?_
      refine p_s rfl rfl ?_
      refine p_get2 rfl f_Sg_9 h rfl ?_
      refine p_s rfl rfl ?_
      refine p_s rfl rfl ?_
      refine p_put2 rfl fp_Sg_9 h rfl rfl (by exact Nat.le_of_ble_eq_true rfl) ?_
      exact p_vret rfl rfl ⟨rfl, by rw [sGoodT, sGoodS, if_neg c, if_neg (show ¬ mn255 (g + 1) < 3 from c2)]; rfl⟩
  · simp only [px_ncmp] at c
    refine p_s rfl rfl ?_
    refine p_s rfl rfl ?_
    refine p_put2 rfl fp_Sg_15 h rfl rfl (by exact Nat.le_of_ble_eq_true rfl) ?_
    refine p_s rfl rfl ?_
    refine p_s rfl rfl ?_
    refine p_get2 rfl f_Sg_21 h rfl ?_
    refine p_s rfl rfl ?_
    refine p_s rfl rfl ?_
    refine p_s rfl rfl ?_
    refine p_min rfl w_277 w_217 w_10 w_218 (by exact Nat.le_of_ble_eq_true rfl) ?_
    refine p_put2 rfl fp_Sg_21 h rfl rfl (by exact Nat.le_of_ble_eq_true rfl) ?_
    refine p_s rfl rfl ?_
    refine p_get2 rfl f_Sg_21 h rfl ?_
    refine p_s rfl rfl ?_
    refine p_icmp rfl (fun c2 => ?_) (fun c2 => ?_)
    · simp only [px_cmp] at c2
      exact p_vret rfl rfl ⟨rfl, by rw [sGoodT, sGoodS, if_pos c, if_pos (show mn255 (g + 1) < 3 from c2)]; rfl⟩
    · simp only [px_ncmp] at c2
      refine p_s rfl rfl ?_
      refine p_s rfl rfl ?_
      refine p_get2 rfl f_Sg_9 h rfl ?_
      refine p_s rfl rfl ?_
      refine p_s rfl rfl ?_
      refine p_put2 rfl fp_Sg_9 h rfl rfl (by exact Nat.le_of_ble_eq_true rfl) ?_
      exact p_vret rfl rfl ⟨rfl, by rw [sGoodT, sGoodS, if_pos c, if_neg (show ¬ mn255 (g + 1) < 3 from c2)]; rfl⟩
set_option maxHeartbeats 1000000 in
theorem c_SgInit {G : px_G} {ws : va_W} {a d : Nat} {s t ag g : Int32} (h : px_lk ws a = some (oSg s t ag g)) : px G m_Sg_init 0 (lv_args 0 [.ref a]) [] ws (d + 1) 0 0 (fun v w => v = none ∧ w = px_up ws a (oSg 80 0 0 0)) := by
  refine p_own h ?_
  refine p_s rfl rfl ?_
  refine p_objI rfl w_114 w_24 w_25 (by exact Nat.le_of_ble_eq_true rfl) ?_
  refine p_s rfl rfl ?_
  refine p_s rfl rfl ?_
  refine p_put2 rfl fp_Sg_9 h rfl rfl (by exact Nat.le_of_ble_eq_true rfl) ?_
  refine p_s rfl rfl ?_
  refine p_s rfl rfl ?_
  refine p_put2 rfl fp_Sg_15 h rfl rfl (by exact Nat.le_of_ble_eq_true rfl) ?_
  refine p_s rfl rfl ?_
  refine p_s rfl rfl ?_
  refine p_put2 rfl fp_Sg_18 h rfl rfl (by exact Nat.le_of_ble_eq_true rfl) ?_
  refine p_s rfl rfl ?_
  refine p_s rfl rfl ?_
  refine p_put2 rfl fp_Sg_21 h rfl rfl (by exact Nat.le_of_ble_eq_true rfl) ?_
  exact p_vret rfl rfl ⟨rfl, rfl⟩
end
section
/-! CODE, SNAPSHOT, ENTRY: what has no loop -/
abbrev oCd (nu pr up dn : Int32) (n k : Nat) (cn : Int32) (pa en : Option Nat) : va_E := .inr (2, [.int nu, .int pr, .int up, .int dn, .ref n, .ref k, .int cn, va_rf pa, va_rf en])
abbrev oEn (ow fi la : Nat) (hp : Int32) : va_E := .inr (4, [.ref ow, .ref fi, .ref la, .int hp])
abbrev oSn (cy ev fc up : Int32) : va_E := .inr (5, [.int cy, .int ev, .int fc, .int up])
set_option maxHeartbeats 1000000 in
theorem c_group {G : px_G} {ws : va_W} {a d : Nat} {nu pr up dn cn : Int32} {n k : Nat} {pa en : Option Nat} (h : px_lk ws a = some (oCd nu pr up dn n k cn pa en)) : px G m_Cd_group 0 (lv_args 0 [.ref a]) [] ws d 0 0 (fun v w => v = some (.int (1 + (pr - 1) / 32)) ∧ w = ws) := by
  refine p_s rfl rfl ?_
  refine p_s rfl rfl ?_
  refine p_get rfl f_Cd_36 h rfl ?_
  refine p_s rfl rfl ?_
  refine p_s rfl rfl ?_
  refine p_s rfl rfl ?_
  refine p_idiv rfl (by decide) ?_
  refine p_s rfl rfl ?_
  exact p_iret rfl rfl rfl ⟨rfl, rfl⟩
set_option maxHeartbeats 1000000 in
theorem c_condition {G : px_G} {ws : va_W} {a d : Nat} {nu pr up dn cn : Int32} {n k : Nat} {pa en : Option Nat} (h : px_lk ws a = some (oCd nu pr up dn n k cn pa en)) : px G m_Cd_condition 0 (lv_args 0 [.ref a]) [] ws d 0 0 (fun v w => v = some (.int (nu - nu / 32 * 32)) ∧ w = ws) := by
  refine p_s rfl rfl ?_
  refine p_get rfl f_Cd_33 h rfl ?_
  refine p_s rfl rfl ?_
  refine p_irem rfl (by decide) ?_
  exact p_iret rfl rfl rfl ⟨rfl, rfl⟩
def cCnt (f cn up dn : Int32) : Int32 := if f = 0 then (if (if 0 < cn then 0 else cn) - dn < -128 then -128 else (if 0 < cn then 0 else cn) - dn) else (if 127 < (if cn < 0 then 0 else cn) + up then 127 else (if cn < 0 then 0 else cn) + up)
set_option maxHeartbeats 1000000 in
theorem c_count {G : px_G} {ws : va_W} {a d : Nat} {nu pr up dn cn : Int32} {n k : Nat} {pa en : Option Nat} {f : Int32} (h : px_lk ws a = some (oCd nu pr up dn n k cn pa en)) : px G m_Cd_count 0 (lv_args 0 [.ref a, .int f]) [] ws (d + 1) 0 0 (fun v w => v = none ∧ w = px_up ws a (oCd nu pr up dn n k (cCnt f cn up dn) pa en)) := by
  refine p_own h ?_
  refine p_s rfl rfl ?_
  refine p_if rfl (fun c => ?_) (fun c => ?_)
  · simp only [px_cmp] at c
    refine p_s rfl rfl ?_
    refine p_s rfl rfl ?_
    refine p_get2 rfl f_Cd_21 h rfl ?_
    refine p_s rfl rfl ?_
    refine p_min rfl w_259 w_217 w_10 w_218 (by exact Nat.le_of_ble_eq_true rfl) ?_
    refine p_s rfl rfl ?_
    refine p_get2 rfl f_Cd_42 h rfl ?_
    refine p_s rfl rfl ?_
    refine p_s rfl rfl ?_
    refine p_max rfl w_258 w_189 w_10 w_190 (by exact Nat.le_of_ble_eq_true rfl) ?_
    refine p_put2 rfl fp_Cd_21 h rfl rfl (by exact Nat.le_of_ble_eq_true rfl) ?_
    exact p_vret rfl rfl ⟨rfl, by rw [cCnt, if_pos c]; rfl⟩
  · simp only [px_ncmp] at c
    refine p_s rfl rfl ?_
    refine p_s rfl rfl ?_
    refine p_get2 rfl f_Cd_21 h rfl ?_
    refine p_s rfl rfl ?_
    refine p_max rfl w_258 w_189 w_10 w_190 (by exact Nat.le_of_ble_eq_true rfl) ?_
    refine p_s rfl rfl ?_
    refine p_get2 rfl f_Cd_39 h rfl ?_
    refine p_s rfl rfl ?_
    refine p_s rfl rfl ?_
    refine p_min rfl w_259 w_217 w_10 w_218 (by exact Nat.le_of_ble_eq_true rfl) ?_
    refine p_put2 rfl fp_Cd_21 h rfl rfl (by exact Nat.le_of_ble_eq_true rfl) ?_
    refine p_goto rfl ?_
    exact p_vret rfl rfl ⟨rfl, by rw [cCnt, if_neg c]; rfl⟩
set_option maxHeartbeats 1000000 in
theorem c_forget {G : px_G} {ws : va_W} {a d : Nat} {nu pr up dn cn : Int32} {n k : Nat} {pa en : Option Nat} {s1 t1 a1 g1 s2 t2 a2 g2 : Int32} (h : px_lk ws a = some (oCd nu pr up dn n k cn pa en)) (hn : px_lk ws n = some (oSg s1 t1 a1 g1)) (hk : px_lk ws k = some (oSg s2 t2 a2 g2)) (hnk : k ≠ n) : px G m_Cd_forget 0 (lv_args 0 [.ref a]) [] ws (d + 1) 0 0 (fun v w => v = none ∧ w = px_up (px_up (px_up ws n (oSg 80 0 0 0)) k (oSg 80 0 0 0)) a (oCd nu pr up dn n k 0 pa en)) := by
  refine p_s rfl rfl ?_
  refine p_get rfl f_Cd_12 h rfl ?_
  refine p_callV rfl c_Cd_54 rfl hn g_Sg_reset rfl rfl rfl (c_reset hn) (fun v w hq => ?_)
  obtain ⟨rfl, rfl⟩ := hq
  have h2 := px_keepK (e := oSg 80 0 0 0) hn h (Nat.ne_of_beq_eq_false rfl)
  have hk2 := px_keep (e := oSg 80 0 0 0) hk hnk
  refine p_s rfl rfl ?_
  refine p_get rfl f_Cd_18 h2 rfl ?_
  refine p_callV rfl c_Cd_54 rfl hk2 g_Sg_reset rfl rfl rfl (c_reset hk2) (fun v w hq => ?_)
  obtain ⟨rfl, rfl⟩ := hq
  have h3 := px_keepK (e := oSg 80 0 0 0) hk2 h2 (Nat.ne_of_beq_eq_false rfl)
  refine p_s rfl rfl ?_
  refine p_s rfl rfl ?_
  refine p_put rfl fp_Cd_21 h3 rfl rfl (by exact Nat.le_of_ble_eq_true rfl) ?_
  exact p_vret rfl rfl ⟨rfl, rfl⟩
set_option maxHeartbeats 1000000 in
theorem c_CdInit {G : px_G} {ws : va_W} {a d : Nat} {nu pr up dn : Int32} (h : px_lk ws a = some (.inr (2, [.int 0, .int 0, .int 0, .int 0, .null, .null, .int 0, .null, .null]))) : px G m_Cd_init 0 (lv_args 0 [.ref a, .int nu, .int pr, .int up, .int dn]) [] ws (d + 2) 2 8 (fun v w => v = none ∧ ∃ n k : Nat, px_lk ws n = none ∧ px_lk ws k = none ∧ k ≠ n ∧ px_lk w a = some (oCd nu pr up dn n k 0 none none) ∧ px_lk w n = some (oSg 80 0 0 0) ∧ px_lk w k = some (oSg 80 0 0 0) ∧ px_fr (fun b => b = a) ws w) := by
  refine p_s rfl rfl ?_
  refine p_objI rfl w_108 w_24 w_25 (by exact Nat.le_of_ble_eq_true rfl) ?_
  refine p_s rfl rfl ?_
  refine p_new (N := 4) rfl nc_Cd_9 (fun n hn hnl => ?_)
  refine p_s rfl rfl ?_
  refine p_callIN rfl c_Cd_11 g_Sg_init rfl rfl rfl (c_SgInit (px_lk_new _ _ _ hn)) (fun v w hq => ?_)
  obtain ⟨rfl, rfl⟩ := hq
  obtain ⟨w1, hw1⟩ : ∃ w1, w1 = px_up (ws ++ [(n, oSg 0 0 0 0)]) n (oSg 80 0 0 0) := ⟨_, rfl⟩
  have A1 : px_lk w1 a = some (.inr (2, [.int 0, .int 0, .int 0, .int 0, .null, .null, .int 0, .null, .null])) := by rw [hw1]; exact px_keep (px_lk_old _ _ _ _ _ h) (px_nn h hn)
  have N1 : px_lk w1 n = some (oSg 80 0 0 0) := by rw [hw1]; exact px_lk_same _ _ _ _ (px_lk_new _ _ _ hn)
  have F1 : px_fr (fun b => b = a) ws w1 := by rw [hw1]; exact px_fr.upn hn
  rw [← hw1]
  refine p_putF rfl fF_Cd_12 rfl A1 rfl rfl (by exact Nat.le_of_ble_eq_true rfl) ?_
  have A2 := px_lk_same _ _ _ (.inr (2, [.int 0, .int 0, .int 0, .int 0, .ref n, .null, .int 0, .null, .null])) A1
  have N2 := px_keep (e := .inr (2, [.int 0, .int 0, .int 0, .int 0, .ref n, .null, .int 0, .null, .null])) N1 (px_nek N1 A1 (Nat.ne_of_beq_eq_false rfl))
  have F2 := F1.tr (px_fr.up (e := .inr (2, [.int 0, .int 0, .int 0, .int 0, .ref n, .null, .int 0, .null, .null])) (rfl : (fun b => b = a) a))
  obtain ⟨w2, hw2⟩ : ∃ w2, w2 = px_up w1 a (.inr (2, [.int 0, .int 0, .int 0, .int 0, .ref n, .null, .int 0, .null, .null])) := ⟨_, rfl⟩
  rw [← hw2] at A2 N2 F2
  refine px_w (w := w2) hw2 ?_
  refine p_s rfl rfl ?_
  refine p_new (N := 4) rfl nc_Cd_9 (fun k hk hkl => ?_)
  refine p_s rfl rfl ?_
  refine p_callIN rfl c_Cd_11 g_Sg_init rfl rfl rfl (c_SgInit (px_lk_new _ _ _ hk)) (fun v w hq => ?_)
  obtain ⟨rfl, rfl⟩ := hq
  obtain ⟨w3, hw3⟩ : ∃ w3, w3 = px_up (w2 ++ [(k, oSg 0 0 0 0)]) k (oSg 80 0 0 0) := ⟨_, rfl⟩
  have A3 : px_lk w3 a = some (.inr (2, [.int 0, .int 0, .int 0, .int 0, .ref n, .null, .int 0, .null, .null])) := by rw [hw3]; exact px_keep (px_lk_old _ _ _ _ _ A2) (px_nn A2 hk)
  have N3 : px_lk w3 n = some (oSg 80 0 0 0) := by rw [hw3]; exact px_keep (px_lk_old _ _ _ _ _ N2) (px_nn N2 hk)
  have K3 : px_lk w3 k = some (oSg 80 0 0 0) := by rw [hw3]; exact px_lk_same _ _ _ _ (px_lk_new _ _ _ hk)
  have F3 : px_fr (fun b => b = a) ws w3 := by rw [hw3]; exact F2.tr (px_fr.upn hk)
  rw [← hw3]
  refine p_own A3 ?_
  refine p_putF2 rfl fF_Cd_18 rfl A3 rfl rfl (by exact Nat.le_of_ble_eq_true rfl) ?_
  refine p_s rfl rfl ?_
  refine p_s rfl rfl ?_
  refine p_put2 rfl fp_Cd_21 A3 rfl rfl (by exact Nat.le_of_ble_eq_true rfl) ?_
  refine p_s rfl rfl ?_
  refine p_s rfl rfl ?_
  refine p_put2 rfl fp_Cd_25 A3 rfl rfl (by exact Nat.le_of_ble_eq_true rfl) ?_
  refine p_s rfl rfl ?_
  refine p_s rfl rfl ?_
  refine p_put2 rfl fp_Cd_29 A3 rfl rfl (by exact Nat.le_of_ble_eq_true rfl) ?_
  refine p_s rfl rfl ?_
  refine p_s rfl rfl ?_
  refine p_putF2 rfl fF_Cd_33 rfl A3 rfl rfl (by exact Nat.le_of_ble_eq_true rfl) ?_
  refine p_s rfl rfl ?_
  refine p_s rfl rfl ?_
  refine p_putF2 rfl fF_Cd_36 rfl A3 rfl rfl (by exact Nat.le_of_ble_eq_true rfl) ?_
  refine p_s rfl rfl ?_
  refine p_s rfl rfl ?_
  refine p_putF2 rfl fF_Cd_39 rfl A3 rfl rfl (by exact Nat.le_of_ble_eq_true rfl) ?_
  refine p_s rfl rfl ?_
  refine p_s rfl rfl ?_
  refine p_putF2 rfl fF_Cd_42 rfl A3 rfl rfl (by exact Nat.le_of_ble_eq_true rfl) ?_
  refine p_vret rfl rfl ⟨rfl, n, k, hn, ?_, fun z => px_nn N2 hk z.symm, px_lk_same _ _ _ _ A3, px_keep N3 (px_nek N3 A3 (Nat.ne_of_beq_eq_false rfl)), px_keep K3 (px_nek K3 A3 (Nat.ne_of_beq_eq_false rfl)), F3.tr (px_fr.up rfl)⟩
  cases hz : px_lk ws k with
  | none => rfl
  | some x =>
    by_cases hka : k = a
    · rw [hka] at hk; rw [A2] at hk; cases hk
    · have := F2 k x hka hz
      rw [hk] at this
      cases this
set_option maxHeartbeats 1000000 in
theorem c_SnInit {G : px_G} {ws : va_W} {a d : Nat} {cy ev fc up : Int32} {x1 x2 x3 x4 : Int32} (h : px_lk ws a = some (oSn x1 x2 x3 x4)) : px G m_Sn_init 0 (lv_args 0 [.ref a, .int cy, .int ev, .int fc, .int up]) [] ws (d + 1) 0 0 (fun v w => v = none ∧ w = px_up ws a (oSn cy ev fc up)) := by
  refine p_own h ?_
  refine p_s rfl rfl ?_
  refine p_objI rfl w_296 w_24 w_25 (by exact Nat.le_of_ble_eq_true rfl) ?_
  refine p_s rfl rfl ?_
  refine p_s rfl rfl ?_
  refine p_putF2 rfl fF_Sn_7 rfl h rfl rfl (by exact Nat.le_of_ble_eq_true rfl) ?_
  refine p_s rfl rfl ?_
  refine p_s rfl rfl ?_
  refine p_putF2 rfl fF_Sn_13 rfl h rfl rfl (by exact Nat.le_of_ble_eq_true rfl) ?_
  refine p_s rfl rfl ?_
  refine p_s rfl rfl ?_
  refine p_putF2 rfl fF_Sn_16 rfl h rfl rfl (by exact Nat.le_of_ble_eq_true rfl) ?_
  refine p_s rfl rfl ?_
  refine p_s rfl rfl ?_
  refine p_putF2 rfl fF_Sn_19 rfl h rfl rfl (by exact Nat.le_of_ble_eq_true rfl) ?_
  exact p_vret rfl rfl ⟨rfl, rfl⟩
set_option maxHeartbeats 1000000 in
theorem c_EnInit {G : px_G} {ws : va_W} {a d ow sn : Nat} (h : px_lk ws a = some (.inr (4, [.null, .null, .null, .int 0]))) : px G m_En_init 0 (lv_args 0 [.ref a, .ref ow, .ref sn]) [] ws (d + 1) 0 0 (fun v w => v = none ∧ w = px_up ws a (oEn ow sn sn 1)) := by
  refine p_own h ?_
  refine p_s rfl rfl ?_
  refine p_objI rfl w_353 w_24 w_25 (by exact Nat.le_of_ble_eq_true rfl) ?_
  refine p_s rfl rfl ?_
  refine p_s rfl rfl ?_
  refine p_put2 rfl fp_En_9 h rfl rfl (by exact Nat.le_of_ble_eq_true rfl) ?_
  refine p_s rfl rfl ?_
  refine p_s rfl rfl ?_
  refine p_putF2 rfl fF_En_15 rfl h rfl rfl (by exact Nat.le_of_ble_eq_true rfl) ?_
  refine p_s rfl rfl ?_
  refine p_s rfl rfl ?_
  refine p_putF2 rfl fF_En_19 rfl h rfl rfl (by exact Nat.le_of_ble_eq_true rfl) ?_
  refine p_s rfl rfl ?_
  refine p_s rfl rfl ?_
  refine p_put2 rfl fp_En_23 h rfl rfl (by exact Nat.le_of_ble_eq_true rfl) ?_
  exact p_vret rfl rfl ⟨rfl, rfl⟩
set_option maxHeartbeats 1000000 in
theorem c_happenAgain {G : px_G} {ws : va_W} {a d ow fi la : Nat} {hp : Int32} {sn : Nat} (h : px_lk ws a = some (oEn ow fi la hp)) : px G m_En_happenAgain 0 (lv_args 0 [.ref a, .ref sn]) [] ws (d + 1) 0 0 (fun v w => v = none ∧ w = px_up ws a (oEn ow fi sn (mn255 (hp + 1)))) := by
  refine p_own h ?_
  refine p_s rfl rfl ?_
  refine p_s rfl rfl ?_
  refine p_get2 rfl f_En_9 h rfl ?_
  refine p_s rfl rfl ?_
  refine p_s rfl rfl ?_
  refine p_s rfl rfl ?_
  refine p_min rfl w_318 w_217 w_10 w_218 (by exact Nat.le_of_ble_eq_true rfl) ?_
  refine p_put2 rfl fp_En_9 h rfl rfl (by exact Nat.le_of_ble_eq_true rfl) ?_
  refine p_s rfl rfl ?_
  refine p_s rfl rfl ?_
  refine p_put2 rfl fp_En_23 h rfl rfl (by exact Nat.le_of_ble_eq_true rfl) ?_
  exact p_vret rfl rfl ⟨rfl, rfl⟩
set_option maxHeartbeats 1000000 in
theorem c_mayGoFor {G : px_G} {ws : va_W} {a d ow fi la : Nat} {hp : Int32} {b : Nat} {nu pr up dn cn : Int32} {n k : Nat} {pa en : Option Nat} {nu2 pr2 up2 dn2 cn2 : Int32} {n2 k2 : Nat} {pa2 en2 : Option Nat} {s t ag g : Int32} (h : px_lk ws a = some (oEn ow fi la hp)) (ho : px_lk ws ow = some (oCd nu pr up dn n k cn pa en)) (hn : px_lk ws n = some (oSg s t ag g)) (hb : px_lk ws b = some (oCd nu2 pr2 up2 dn2 n2 k2 cn2 pa2 en2)) : px G m_En_mayGoFor 0 (lv_args 0 [.ref a, .ref b]) [] ws (d + 1) 0 0 (fun v w => v = some (.int (if pr2 < pr ∨ (pr = pr2 ∧ sHas s 1 = 0) then 1 else 0)) ∧ w = ws) := by
  refine p_s rfl rfl ?_
  refine p_get rfl f_En_15 h rfl ?_
  refine p_get rfl f_En_32 ho rfl ?_
  refine p_s rfl rfl ?_
  refine p_get rfl f_En_32 hb rfl ?_
  refine p_icmp rfl (fun c => ?_) (fun c => ?_)
  · simp only [px_cmp] at c
    refine p_s rfl rfl ?_
    refine p_goto rfl ?_
    exact p_iret rfl rfl rfl ⟨by rw [if_pos (Or.inl c)], rfl⟩
  · simp only [px_ncmp] at c
    refine p_s rfl rfl ?_
    refine p_get rfl f_En_15 h rfl ?_
    refine p_get rfl f_En_32 ho rfl ?_
    refine p_s rfl rfl ?_
    refine p_get rfl f_En_32 hb rfl ?_
    refine p_icmp rfl (fun c2 => ?_) (fun c2 => ?_)
    · simp only [px_cmp] at c2
      refine p_s rfl rfl ?_
      exact p_iret rfl rfl rfl ⟨by rw [if_neg (fun z => z.elim c (fun z => c2 z.1))], rfl⟩
    · simp only [px_ncmp] at c2
      refine p_s rfl rfl ?_
      refine p_get rfl f_En_15 h rfl ?_
      refine p_get rfl f_En_37 ho rfl ?_
      refine p_s rfl rfl ?_
      refine p_callV rfl c_En_41 rfl hn g_Sg_has rfl rfl rfl (c_has hn) (fun v w hq => ?_)
      obtain ⟨rfl, rfl⟩ := hq
      refine p_if rfl (fun c3 => ?_) (fun c3 => ?_)
      · simp only [px_cmp] at c3
        refine p_s rfl rfl ?_
        exact p_iret rfl rfl rfl ⟨by rw [if_neg (fun z => z.elim c (fun z => c3 z.2))], rfl⟩
      · simp only [px_ncmp] at c3
        refine p_s rfl rfl ?_
        refine p_goto rfl ?_
        exact p_iret rfl rfl rfl ⟨by rw [if_pos (Or.inr ⟨c2, c3⟩)], rfl⟩
set_option maxHeartbeats 1000000 in
theorem c_goesBefore {G : px_G} {ws : va_W} {a d ow fi la : Nat} {hp : Int32} {b ow2 fi2 la2 : Nat} {hp2 : Int32} {nu pr up dn cn : Int32} {n k : Nat} {pa en : Option Nat} {nu2 pr2 up2 dn2 cn2 : Int32} {n2 k2 : Nat} {pa2 en2 : Option Nat} {s t ag g s2 t2 ag2 g2 : Int32} (h : px_lk ws a = some (oEn ow fi la hp)) (h2 : px_lk ws b = some (oEn ow2 fi2 la2 hp2)) (ho : px_lk ws ow = some (oCd nu pr up dn n k cn pa en)) (hn : px_lk ws n = some (oSg s t ag g)) (ho2 : px_lk ws ow2 = some (oCd nu2 pr2 up2 dn2 n2 k2 cn2 pa2 en2)) (hn2 : px_lk ws n2 = some (oSg s2 t2 ag2 g2)) : px G m_En_goesBefore 0 (lv_args 0 [.ref a, .ref b]) [] ws (d + 1) 0 0 (fun v w => v = some (.int (if pr2 < pr ∨ (pr = pr2 ∧ sHas s 1 = 0 ∧ ¬ sHas s2 1 = 0) then 1 else 0)) ∧ w = ws) := by
  refine p_s rfl rfl ?_
  refine p_get rfl f_En_15 h rfl ?_
  refine p_get rfl f_En_32 ho rfl ?_
  refine p_s rfl rfl ?_
  refine p_get rfl f_En_15 h2 rfl ?_
  refine p_get rfl f_En_32 ho2 rfl ?_
  refine p_icmp rfl (fun c => ?_) (fun c => ?_)
  · simp only [px_cmp] at c
    refine p_s rfl rfl ?_
    refine p_get rfl f_En_15 h rfl ?_
    refine p_get rfl f_En_37 ho rfl ?_
    refine p_s rfl rfl ?_
    refine p_callV rfl c_En_41 rfl hn g_Sg_has rfl rfl rfl (c_has hn) (fun v w hq => ?_)
    obtain ⟨rfl, rfl⟩ := hq
    refine p_if rfl (fun c2 => ?_) (fun c2 => ?_)
    · simp only [px_cmp] at c2
      refine p_s rfl rfl ?_
      exact p_iret rfl rfl rfl ⟨by rw [if_neg (fun z => z.elim (fun z => by rw [c] at z; exact Int32.lt_irrefl z) (fun z => c2 z.2.1))], rfl⟩
    · simp only [px_ncmp] at c2
      refine p_s rfl rfl ?_
      refine p_get rfl f_En_15 h2 rfl ?_
      refine p_get rfl f_En_37 ho2 rfl ?_
      refine p_s rfl rfl ?_
      refine p_callV rfl c_En_41 rfl hn2 g_Sg_has rfl rfl rfl (c_has hn2) (fun v w hq => ?_)
      obtain ⟨rfl, rfl⟩ := hq
      refine p_if rfl (fun c3 => ?_) (fun c3 => ?_)
      · simp only [px_cmp] at c3
        refine p_s rfl rfl ?_
        exact p_iret rfl rfl rfl ⟨by rw [if_neg (fun z => z.elim (fun z => by rw [c] at z; exact Int32.lt_irrefl z) (fun z => z.2.2 c3))], rfl⟩
      · simp only [px_ncmp] at c3
        refine p_s rfl rfl ?_
        refine p_goto rfl ?_
        exact p_iret rfl rfl rfl ⟨by rw [if_pos (Or.inr ⟨c, c2, c3⟩)], rfl⟩
  · simp only [px_ncmp] at c
    refine p_s rfl rfl ?_
    refine p_get rfl f_En_15 h rfl ?_
    refine p_get rfl f_En_32 ho rfl ?_
    refine p_s rfl rfl ?_
    refine p_get rfl f_En_15 h2 rfl ?_
    refine p_get rfl f_En_32 ho2 rfl ?_
    refine p_icmp rfl (fun c2 => ?_) (fun c2 => ?_)
    · simp only [px_cmp] at c2
      refine p_s rfl rfl ?_
      exact p_iret rfl rfl rfl ⟨by rw [if_neg (fun z => z.elim (fun z => absurd c2 (Int32.not_le.mpr z)) (fun z => c z.1))], rfl⟩
    · simp only [px_ncmp] at c2
      refine p_s rfl rfl ?_
      refine p_goto rfl ?_
      exact p_iret rfl rfl rfl ⟨by rw [if_pos (Or.inl (Int32.not_le.mp c2))], rfl⟩
end
section
/-! ARRAYS BY NATURAL NUMBERS -/
abbrev oRA (G : px_G) (n : Nat) (f : Nat → Option Nat) : va_E := .inl (g_dA G 2, n, .inr (.inr (.inr (.inr f))))
abbrev oIA (G : px_G) (n : Nat) (f : Nat → Int32) : va_E := .inl (g_dA G 0, n, .inl f)
abbrev oZA (G : px_G) (n : Nat) (f : Nat → Int32) : va_E := .inl (g_dA G 1, n, .inl f)
section PXA
variable {G : px_G} {M : px_M} {pc nx d bc bs : Nat} {tg : List Nat} {z : Int32} {lv : List (Nat × Value)} {st : List Value} {ws : va_W} {Q : Option Value → va_W → Prop}
theorem p_aaldS {a n i y : Nat} {f : Nat → Option Nat} {j : Int32} (ha : px_at M pc = some (.aaload, nx, tg, z)) (hw : px_lk ws a = some (oRA G n f)) (hj : j = nI i) (hi : i < n) (hn : n < 2 ^ 31) (hf : f i = some y) (kk : px G M nx lv (.ref y :: st) ws d bc bs Q) : px G M pc lv (.int j :: .ref a :: st) ws d bc bs Q := by
  subst hj
  refine p_aald (t := 2) ha rfl hw (vp_in_nI hi hn) ?_
  rw [nI_clamp (Nat.lt_trans hi hn), hf]
  exact kk
theorem p_aastS {a n i v : Nat} {f : Nat → Option Nat} {j : Int32} (ha : px_at M pc = some (.aastore, nx, tg, z)) (hw : px_lk ws a = some (oRA G n f)) (hj : j = nI i) (hi : i < n) (hn : n < 2 ^ 31) (hv : px_ob ws v) (kk : px G M nx lv st (px_up ws a (oRA G n (va_up f i (some v)))) d bc bs Q) : px G M pc lv (.ref v :: .int j :: .ref a :: st) ws d bc bs Q := by
  subst hj
  obtain ⟨ci, fs, K, T, N, h1, h2, h3⟩ := hv
  refine p_aast (t := 2) ha rfl hw h2 h3 h1 (vp_in_nI hi hn) ?_
  rw [nI_clamp (Nat.lt_trans hi hn)]
  exact kk
theorem p_aastNS {a n i : Nat} {f : Nat → Option Nat} {j : Int32} (ha : px_at M pc = some (.aastore, nx, tg, z)) (hw : px_lk ws a = some (oRA G n f)) (hj : j = nI i) (hi : i < n) (hn : n < 2 ^ 31) (kk : px G M nx lv st (px_up ws a (oRA G n (va_up f i none))) d bc bs Q) : px G M pc lv (.null :: .int j :: .ref a :: st) ws d bc bs Q := by
  subst hj
  refine p_aastN (t := 2) ha rfl hw (vp_in_nI hi hn) ?_
  rw [nI_clamp (Nat.lt_trans hi hn)]
  exact kk
theorem p_ialdS {a n i : Nat} {f : Nat → Int32} {j : Int32} (ha : px_at M pc = some (.iaload, nx, tg, z)) (hw : px_lk ws a = some (oIA G n f)) (hj : j = nI i) (hi : i < n) (hn : n < 2 ^ 31) (kk : px G M nx lv (.int (f i) :: st) ws d bc bs Q) : px G M pc lv (.int j :: .ref a :: st) ws d bc bs Q := by
  subst hj
  refine p_iald (t := 0) ha rfl hw (vp_in_nI hi hn) ?_
  rw [nI_clamp (Nat.lt_trans hi hn)]
  exact kk
theorem p_iastS {a n i : Nat} {f : Nat → Int32} {j x : Int32} (ha : px_at M pc = some (.iastore, nx, tg, z)) (hw : px_lk ws a = some (oIA G n f)) (hj : j = nI i) (hi : i < n) (hn : n < 2 ^ 31) (kk : px G M nx lv st (px_up ws a (oIA G n (upd f i x))) d bc bs Q) : px G M pc lv (.int x :: .int j :: .ref a :: st) ws d bc bs Q := by
  subst hj
  refine p_iast (t := 0) ha rfl hw (vp_in_nI hi hn) ?_
  rw [nI_clamp (Nat.lt_trans hi hn)]
  exact kk
theorem p_zaldS {a n i : Nat} {f : Nat → Int32} {j : Int32} (ha : px_at M pc = some (.baload, nx, tg, z)) (hw : px_lk ws a = some (oZA G n f)) (hj : j = nI i) (hi : i < n) (hn : n < 2 ^ 31) (kk : px G M nx lv (.int (f i) :: st) ws d bc bs Q) : px G M pc lv (.int j :: .ref a :: st) ws d bc bs Q := by
  subst hj
  refine p_zald (t := 1) ha rfl hw (vp_in_nI hi hn) ?_
  rw [nI_clamp (Nat.lt_trans hi hn)]
  exact kk
theorem p_zastS {a n i : Nat} {f : Nat → Int32} {j x : Int32} (ha : px_at M pc = some (.bastore, nx, tg, z)) (hw : px_lk ws a = some (oZA G n f)) (hj : j = nI i) (hi : i < n) (hn : n < 2 ^ 31) (hx : x = 0 ∨ x = 1) (kk : px G M nx lv st (px_up ws a (oZA G n (upd f i x))) d bc bs Q) : px G M pc lv (.int x :: .int j :: .ref a :: st) ws d bc bs Q := by
  subst hj
  refine p_zast (t := 1) ha rfl hw (vp_in_nI hi hn) ?_
  rw [nI_clamp (Nat.lt_trans hi hn), show vp_nar .boolean x = x by rcases hx with rfl | rfl <;> decide +kernel]
  exact kk
theorem p_alenR {a n : Nat} {f : Nat → Option Nat} (ha : px_at M pc = some (.arraylength, nx, tg, z)) (hw : px_lk ws a = some (oRA G n f)) (kk : px G M nx lv (.int (nI n) :: st) ws d bc bs Q) : px G M pc lv (.ref a :: st) ws d bc bs Q := p_alen (t := 2) ha rfl hw rfl kk
theorem p_acmpeqR {off : Int} {t a b : Nat} (ha : px_at M pc = some (.if_acmp .eq off, nx, [t], z)) (kt : a = b → px G M t lv st ws d bc bs Q) (kf : ¬ a = b → px G M nx lv st ws d bc bs Q) : px G M pc lv (.ref b :: .ref a :: st) ws d bc bs Q := p_acmpeq (rx := some a) (ry := some b) ha (fun h => kt (Option.some.inj h)) (fun h => kf (fun e => h (by rw [e])))
theorem p_acmpneR {off : Int} {t a b : Nat} (ha : px_at M pc = some (.if_acmp .ne off, nx, [t], z)) (kt : ¬ a = b → px G M t lv st ws d bc bs Q) (kf : a = b → px G M nx lv st ws d bc bs Q) : px G M pc lv (.ref b :: .ref a :: st) ws d bc bs Q := p_acmpne (rx := some a) (ry := some b) ha (fun h => kt (fun e => h (by rw [e]))) (fun h => kf (Option.some.inj h))
theorem p_newQS {idx N B S : Nat} {n : Int32} (ha : px_at M pc = some (.anewarray idx, nx, tg, z)) (hcl : Cond.classLink (px_y M).cls idx "java/lang/Object" ∈ px_TB) (hn : n = nI N) (hN : N < 100000000) (hB : bc + 1 = B) (hS : bs + N = S) (kk : ∀ q : Nat, px_lk ws q = none → g_lo G ≤ q → px G M nx lv (.ref q :: st) (ws ++ [(q, oRA G N (fun _ => none))]) d bc bs Q) : px G M pc lv (.int n :: st) ws d B S Q := by
  subst hn
  subst hB
  subst hS
  exact p_newQ (t := 2) ha rfl hcl (nI_pos (by omega)) (nI_clamp (by omega)) (by omega) kk
theorem p_le {D B S : Nat} (h1 : d ≤ D) (h2 : bc ≤ B) (h3 : bs ≤ S) (kk : px G M pc lv st ws d bc bs Q) : px G M pc lv st ws D B S Q := by
  have h := p_weak (dd := D - d) (k1 := B - bc) (k2 := S - bs) kk
  rw [show D - d + d = D by omega, show B - bc + bc = B by omega, show S - bs + bs = S by omega] at h
  exact h
theorem px_ob.old {ws : va_W} {q y : Nat} {e : va_E} (h : px_ob ws y) : px_ob (ws ++ [(q, e)]) y := by
  obtain ⟨ci, fs, K, T, N, h1, h2, h3⟩ := h
  exact ⟨ci, fs, K, T, N, px_lk_old _ _ _ _ _ h1, h2, h3⟩
theorem p_aretR {a : Nat} {ty : FieldType} (ha : px_at M pc = some (.areturn, nx, tg, z)) (ht : px_t M = some ty) (hty : (∃ n, ty = .object n) ∨ ∃ t, ty = .array t) (hq : Q (some (.ref a)) ws) : px G M pc lv [.ref a] ws d bc bs Q := p_aret (r := some a) ha ht hty hq
end PXA
/-! ARRAYLIST -/
abbrev oAL (ar : Nat) (sz mc : Int32) : va_E := .inr (6, [.ref ar, .int sz, .int mc])
set_option maxHeartbeats 1000000 in
theorem c_prc {G : px_G} {ws : va_W} {d : Nat} {i n : Nat} (hi : i < n) (hn : n < 2 ^ 31) : px G m_Prc_checkIndex 0 (lv_args 0 [.int (nI i), .int (nI n), .null]) [] ws d 0 0 (fun v w => v = some (.int (nI i)) ∧ w = ws) := by
  refine p_s rfl rfl ?_
  refine p_ifF rfl (nI_pos (Nat.lt_trans hi hn)) ?_
  refine p_s rfl rfl ?_
  refine p_s rfl rfl ?_
  refine p_icmpT rfl (nI_lt hi hn) ?_
  refine p_s rfl rfl ?_
  exact p_iret rfl rfl rfl ⟨rfl, rfl⟩
set_option maxHeartbeats 1000000 in
theorem c_obs {G : px_G} {ws : va_W} {d : Nat} {i n : Nat} (hi : i < n) (hn : n < 2 ^ 31) : px G m_Obs_checkIndex 0 (lv_args 0 [.int (nI i), .int (nI n)]) [] ws (d + 1) 0 0 (fun v w => v = some (.int (nI i)) ∧ w = ws) := by
  refine p_s rfl rfl ?_
  refine p_s rfl rfl ?_
  refine p_s rfl rfl ?_
  refine p_callS rfl c_Obs_105 g_Prc_checkIndex rfl rfl rfl (c_prc hi hn) (fun v w hq => ?_)
  obtain ⟨rfl, rfl⟩ := hq
  exact p_iret rfl rfl rfl ⟨rfl, rfl⟩
set_option maxHeartbeats 1000000 in
theorem c_elem {G : px_G} {ws : va_W} {d : Nat} {a ar n i y : Nat} {sz mc : Int32} {f : Nat → Option Nat} (h : px_lk ws a = some (oAL ar sz mc)) (ha : px_lk ws ar = some (oRA G n f)) (hi : i < n) (hn : n < 2 ^ 31) (hf : f i = some y) : px G m_AL_elementData 0 (lv_args 0 [.ref a, .int (nI i)]) [] ws d 0 0 (fun v w => v = some (.ref y) ∧ w = ws) := by
  refine p_s rfl rfl ?_
  refine p_get rfl f_AL_9 h rfl ?_
  refine p_s rfl rfl ?_
  refine p_aaldS rfl ha rfl hi hn hf ?_
  exact p_aretR rfl rfl (Or.inl ⟨_, rfl⟩) ⟨rfl, rfl⟩
set_option maxHeartbeats 1000000 in
theorem c_alget {G : px_G} {ws : va_W} {d : Nat} {a ar n i y sz : Nat} {mc : Int32} {f : Nat → Option Nat} (h : px_lk ws a = some (oAL ar (nI sz) mc)) (ha : px_lk ws ar = some (oRA G n f)) (hi : i < sz) (hs : sz ≤ n) (hn : n < 2 ^ 31) (hf : f i = some y) : px G m_AL_get 0 (lv_args 0 [.ref a, .int (nI i)]) [] ws (d + 2) 0 0 (fun v w => v = some (.ref y) ∧ w = ws) := by
  refine p_s rfl rfl ?_
  refine p_s rfl rfl ?_
  refine p_get rfl f_AL_48 h rfl ?_
  refine p_callS rfl c_AL_118 g_Obs_checkIndex rfl rfl rfl (c_obs hi (Nat.lt_of_le_of_lt hs hn)) (fun v w hq => ?_)
  obtain ⟨rfl, rfl⟩ := hq
  refine p_s rfl rfl ?_
  refine p_s rfl rfl ?_
  refine p_s rfl rfl ?_
  refine p_callV rfl c_AL_123 rfl h g_AL_elementData rfl rfl rfl (c_elem h ha (Nat.lt_of_lt_of_le hi hs) hn hf) (fun v w hq => ?_)
  obtain ⟨rfl, rfl⟩ := hq
  exact p_aretR rfl rfl (Or.inl ⟨_, rfl⟩) ⟨rfl, rfl⟩
set_option maxHeartbeats 1000000 in
theorem c_alsize {G : px_G} {ws : va_W} {d : Nat} {a ar : Nat} {sz mc : Int32} (h : px_lk ws a = some (oAL ar sz mc)) : px G m_AL_size 0 (lv_args 0 [.ref a]) [] ws d 0 0 (fun v w => v = some (.int sz) ∧ w = ws) := by
  refine p_s rfl rfl ?_
  refine p_get rfl f_AL_48 h rfl ?_
  exact p_iret rfl rfl rfl ⟨rfl, rfl⟩
set_option maxHeartbeats 1000000 in
theorem c_ACnInit {G : px_G} {ws : va_W} {d : Nat} {a : Nat} : px G m_ACn_init 0 (lv_args 0 [.ref a]) [] ws (d + 1) 0 0 (fun v w => v = none ∧ w = ws) := by
  refine p_s rfl rfl ?_
  refine p_objI rfl w_37 w_24 w_25 (by exact Nat.le_of_ble_eq_true rfl) ?_
  exact p_vret rfl rfl ⟨rfl, rfl⟩
set_option maxHeartbeats 1000000 in
theorem c_ALsInit {G : px_G} {ws : va_W} {d : Nat} {a : Nat} {x : Value} {y z : Int32} (h : px_lk ws a = some (.inr (6, [x, .int y, .int z]))) : px G m_ALs_init 0 (lv_args 0 [.ref a]) [] ws (d + 2) 0 0 (fun v w => v = none ∧ w = px_up ws a (.inr (6, [x, .int y, .int 0]))) := by
  refine p_own h ?_
  refine p_s rfl rfl ?_
  refine p_callI rfl c_ALs_1 g_ACn_init rfl rfl rfl (c_ACnInit) (fun v w hq => ?_)
  obtain ⟨rfl, rfl⟩ := hq
  refine p_s rfl rfl ?_
  refine p_s rfl rfl ?_
  refine p_put2 rfl fp_ALs_7 h rfl rfl (by exact Nat.le_of_ble_eq_true rfl) ?_
  exact p_vret rfl rfl ⟨rfl, rfl⟩
set_option maxHeartbeats 1000000 in
theorem c_ALInit {G : px_G} {ws : va_W} {d : Nat} {a : Nat} {x : Value} {y z : Int32} (h : px_lk ws a = some (.inr (6, [x, .int y, .int z]))) : px G m_AL_init 0 (lv_args 0 [.ref a]) [] ws (d + 3) 0 0 (fun v w => v = none ∧ w = px_up ws a (oAL (g_sv G 0) y 0)) := by
  refine p_s rfl rfl ?_
  refine p_callI rfl c_AL_1 g_ALs_init rfl rfl rfl (c_ALsInit h) (fun v w hq => ?_)
  obtain ⟨rfl, rfl⟩ := hq
  refine p_s rfl rfl ?_
  refine p_gets (k := 0) rfl rfl w_38 ?_
  refine p_put2 rfl fp_AL_9 h rfl rfl (by exact Nat.le_of_ble_eq_true rfl) ?_
  exact p_vret rfl rfl ⟨rfl, rfl⟩
set_option maxHeartbeats 1000000 in
theorem c_newLength {G : px_G} {ws : va_W} {d : Nat} {x g p m : Nat} (hm : (if g < p then p else g) = m) (h0 : 0 < x + m) (hb : x + m < 2 ^ 30) : px G m_ArS_newLength 0 (lv_args 0 [.int (nI x), .int (nI g), .int (nI p)]) [] ws (d + 1) 0 0 (fun v w => v = some (.int (nI (x + m))) ∧ w = ws) := by
  have e1 : nI x + (if nI g < nI p then nI p else nI g) = nI (x + m) := by
    have hg : g < 2 ^ 31 := by split at hm <;> omega
    have hp : p < 2 ^ 31 := by split at hm <;> omega
    by_cases hc : g < p
    · rw [if_pos hc] at hm
      rw [if_pos ((nI_ltI hg hp).mpr hc), hm, nI_add]
    · rw [if_neg hc] at hm
      rw [if_neg (fun z => hc ((nI_ltI hg hp).mp z)), hm, nI_add]
  refine p_s rfl rfl ?_
  refine p_s rfl rfl ?_
  refine p_s rfl rfl ?_
  refine p_max rfl w_188 w_189 w_10 w_190 (by exact Nat.le_of_ble_eq_true rfl) ?_
  refine p_s rfl rfl ?_
  refine p_s rfl rfl ?_
  refine p_s rfl rfl ?_
  refine p_s rfl rfl ?_
  rw [show (fun x y : Int32 => x + y) (nI x) (if nI g < nI p then nI p else nI g) = nI (x + m) from e1]
  refine p_icmpF rfl (show ¬ nI (x + m) ≤ 0 from nI_nle h0 (by omega)) ?_
  refine p_s rfl rfl ?_
  refine p_ldc rfl w_191 ?_
  refine p_icmpF rfl (show ¬ (2147483639 : Int32) < nI (x + m) from fun z => absurd z (by rw [show (2147483639 : Int32) = nI 2147483639 from rfl, nI_ltI (by omega) (by omega)]; omega)) ?_
  refine p_s rfl rfl ?_
  exact p_iret rfl rfl rfl ⟨rfl, rfl⟩
set_option maxHeartbeats 1000000 in
theorem c_copyOf3 {G : px_G} {ws : va_W} {d : Nat} {a n m : Nat} {f : Nat → Option Nat} (h : px_lk ws a = some (oRA G n f)) (hnm : n ≤ m) (hm : m ≤ 1000) (hel : ∀ i, i < n → ∀ y, f i = some y → px_ob ws y) : px G m_Ars_copyOf3 0 (lv_args 0 [.ref a, .int (nI m), .ref (g_sv G 1)]) [] ws (d + 1) 1 1000 (fun v w => ∃ q, v = some (.ref q) ∧ px_lk ws q = none ∧ w = px_up (ws ++ [(q, oRA G m (fun _ => none))]) q (oRA G m (va_cpy f (fun _ => none) 0 0 n))) := by
  refine p_s rfl rfl ?_
  refine p_ldcM rfl w_213 ?_
  refine p_acmpneR rfl (fun c => absurd rfl c) (fun _ => ?_)
  refine p_s rfl rfl ?_
  refine p_newQS (bc := 0) (bs := 1000 - m) rfl w_215 rfl (by omega) rfl (by omega) (fun q hq hql => ?_)
  have h1 := px_lk_old ws q a (oRA G m (fun _ => none)) _ h
  have h2 := px_lk_new ws q (oRA G m (fun _ => none)) hq
  refine p_goto rfl ?_
  refine p_s rfl rfl ?_
  refine p_s rfl rfl ?_
  refine p_s rfl rfl ?_
  refine p_s rfl rfl ?_
  refine p_s rfl rfl ?_
  refine p_s rfl rfl ?_
  refine p_alenR rfl h1 ?_
  refine p_s rfl rfl ?_
  refine p_min rfl w_216 w_217 w_10 w_218 (by exact Nat.le_of_ble_eq_true rfl) ?_
  have e1 : (if nI m < nI n then nI m else nI n) = nI n := if_neg (nI_nlt hnm (by omega))
  rw [e1]
  refine p_copy rfl w_219 h1 h2 (by decide) (by decide) (nI_pos (by omega)) (by rw [nI_clamp (by omega)]; show 0 + n ≤ n; omega) (by rw [nI_clamp (by omega)]; show 0 + n ≤ m; omega) (fun i hi y hy => ?_) (by exact Nat.le_of_ble_eq_true rfl) ?_
  · rw [nI_clamp (by omega)] at hi
    have hy2 : f i = some y := by rw [← hy]; show f i = f (0 + i); rw [Nat.zero_add]
    exact px_ob.old (hel i hi y hy2)
  refine p_s rfl rfl ?_
  rw [nI_clamp (by omega)]
  exact p_aretR rfl rfl (Or.inr ⟨_, rfl⟩) ⟨q, rfl, hq, rfl⟩
set_option maxHeartbeats 1000000 in
theorem c_copyOf2 {G : px_G} {ws : va_W} {d : Nat} {a n m : Nat} {f : Nat → Option Nat} (h : px_lk ws a = some (oRA G n f)) (hnm : n ≤ m) (hm : m ≤ 1000) (hel : ∀ i, i < n → ∀ y, f i = some y → px_ob ws y) : px G m_Ars_copyOf2 0 (lv_args 0 [.ref a, .int (nI m)]) [] ws (d + 2) 1 1000 (fun v w => ∃ q, v = some (.ref q) ∧ px_lk ws q = none ∧ w = px_up (ws ++ [(q, oRA G m (fun _ => none))]) q (oRA G m (va_cpy f (fun _ => none) 0 0 n))) := by
  refine p_s rfl rfl ?_
  refine p_s rfl rfl ?_
  refine p_s rfl rfl ?_
  refine p_getC rfl w_198 h (by exact Nat.le_of_ble_eq_true rfl) ?_
  refine p_callS rfl c_Ars_300 g_Ars_copyOf3 rfl rfl rfl (c_copyOf3 h hnm hm hel) (fun v w hq => ?_)
  obtain ⟨q, rfl, hq1, rfl⟩ := hq
  exact p_aretR rfl rfl (Or.inr ⟨_, rfl⟩) ⟨q, rfl, hq1, rfl⟩
end
section
/-! ARRAYLIST: adding, taking out -/
/-- a list of addresses, held by the ArrayList at L in the array at ar -/
def LSA (G : px_G) (ws : va_W) (L ar : Nat) (xs : List Nat) : Prop := ∃ mc : Int32, px_lk ws L = some (oAL ar (nI xs.length) mc) ∧ ((ar = g_sv G 0 ∧ xs = []) ∨ ∃ (cap : Nat) (f : Nat → Option Nat), px_lk ws ar = some (oRA G cap f) ∧ 0 < cap ∧ xs.length ≤ cap ∧ cap ≤ 800 ∧ ∀ i, i < xs.length → f i = xs[i]?)
/-- the list's two cells -/
abbrev lsS (L ar : Nat) : Nat → Prop := fun b => b = L ∨ b = ar
set_option maxHeartbeats 2000000 in
theorem c_grow1a {G : px_G} {ws : va_W} {d : Nat} {L : Nat} {sz mc : Int32} (h : px_lk ws L = some (oAL (g_sv G 0) sz mc)) : px G m_AL_grow1 0 (lv_args 0 [.ref L, .int (nI 1)]) [] ws (d + 1) 1 1000 (fun v w => ∃ q, v = some (.ref q) ∧ px_lk ws q = none ∧ w = px_up (ws ++ [(q, oRA G 10 (fun _ => none))]) L (oAL q sz mc)) := by
  refine p_s rfl rfl ?_
  refine p_get rfl f_AL_9 h rfl ?_
  refine p_tlen (k := 0) rfl rfl ?_
  refine p_s rfl rfl ?_
  refine p_s rfl rfl ?_
  refine p_ifF rfl (show ¬ (0 : Int32) < 0 by decide) ?_
  refine p_s rfl rfl ?_
  refine p_get rfl f_AL_9 h rfl ?_
  refine p_gets (k := 0) rfl rfl w_38 ?_
  refine p_acmpeqR rfl (fun _ => ?_) (fun c => absurd rfl c)
  refine p_s rfl rfl ?_
  refine p_s rfl rfl ?_
  refine p_s rfl rfl ?_
  refine p_max rfl w_222 w_189 w_10 w_190 (by exact Nat.le_of_ble_eq_true rfl) ?_
  rw [show (if (10 : Int32) < nI 1 then nI 1 else 10) = nI 10 by decide]
  refine p_newQS (bc := 0) (bs := 990) (N := 10) rfl w_223 rfl (by decide) rfl rfl (fun q hq hql => ?_)
  refine p_s rfl rfl ?_
  refine p_put rfl fp_AL_9 (px_lk_old _ _ _ _ _ h) rfl rfl (by exact Nat.le_of_ble_eq_true rfl) ?_
  exact p_aretR rfl rfl (Or.inr ⟨_, rfl⟩) ⟨q, rfl, hq, rfl⟩
set_option maxHeartbeats 2000000 in
theorem c_grow1b {G : px_G} {ws : va_W} {d : Nat} {L ar cap m p : Nat} {sz mc : Int32} {f : Nat → Option Nat} (h : px_lk ws L = some (oAL ar sz mc)) (ha : px_lk ws ar = some (oRA G cap f)) (hc : 0 < cap) (hp : p = cap / 2) (hm : (if 1 < p then p else 1) = m) (hb : cap + m ≤ 1000) (hel : ∀ i, i < cap → ∀ y, f i = some y → px_ob ws y) : px G m_AL_grow1 0 (lv_args 0 [.ref L, .int (nI (cap + 1))]) [] ws (d + 3) 1 1000 (fun v w => ∃ q, v = some (.ref q) ∧ px_lk ws q = none ∧ w = px_up (px_up (ws ++ [(q, oRA G (cap + m) (fun _ => none))]) q (oRA G (cap + m) (va_cpy f (fun _ => none) 0 0 cap))) L (oAL q sz mc)) := by
  refine p_s rfl rfl ?_
  refine p_get rfl f_AL_9 h rfl ?_
  refine p_alenR rfl ha ?_
  refine p_s rfl rfl ?_
  refine p_s rfl rfl ?_
  refine p_ifT rfl (show (0 : Int32) < nI cap by rw [show (0 : Int32) = nI 0 from rfl, nI_ltI (by omega) (by omega)]; exact hc) ?_
  have e1 : nI (cap + 1) - nI cap = nI 1 := by rw [pk_sub (by omega)]; congr 1; omega
  have e2 : nI cap >>> ((1 : Int32) &&& 31) = nI p := by rw [pk_shrN (by omega) _ 1 (by decide), hp]
  refine p_s rfl rfl ?_
  refine p_s rfl rfl ?_
  refine p_s rfl rfl ?_
  refine p_s rfl rfl ?_
  refine p_s rfl rfl ?_
  refine p_s rfl rfl ?_
  refine p_s rfl rfl ?_
  rw [show (fun x y : Int32 => x - y) (nI (cap + 1)) (nI cap) = nI 1 from e1, show (fun x y : Int32 => x >>> (y &&& 31)) (nI cap) 1 = nI p from e2]
  refine p_callS rfl c_AL_73 g_ArS_newLength rfl rfl rfl (c_newLength hm (by omega) (by omega)) (fun v w hq => ?_)
  obtain ⟨rfl, rfl⟩ := hq
  refine p_s rfl rfl ?_
  refine p_s rfl rfl ?_
  refine p_s rfl rfl ?_
  refine p_get rfl f_AL_9 h rfl ?_
  refine p_s rfl rfl ?_
  refine p_callS rfl c_AL_66 g_Ars_copyOf2 rfl rfl rfl (c_copyOf2 ha (by omega) hb hel) (fun v w hq => ?_)
  obtain ⟨q, rfl, hq1, rfl⟩ := hq
  refine p_s rfl rfl ?_
  refine p_put rfl fp_AL_9 (px_keep (px_lk_old _ _ _ _ _ h) (px_nn h hq1)) rfl rfl (by exact Nat.le_of_ble_eq_true rfl) ?_
  exact p_aretR rfl rfl (Or.inr ⟨_, rfl⟩) ⟨q, rfl, hq1, rfl⟩
theorem px_ob_ls {ws : va_W} {xs : List Nat} {f : Nat → Option Nat} {n : Nat} (hx : ∀ x ∈ xs, px_ob ws x) (hn : n = xs.length) (hf : ∀ i, i < xs.length → f i = xs[i]?) : ∀ i, i < n → ∀ y, f i = some y → px_ob ws y := by
  intro i hi y hy
  rw [hf i (by omega)] at hy
  exact hx y (List.mem_of_getElem? hy)
set_option maxHeartbeats 2000000 in
theorem c_grow0 {G : px_G} {ws : va_W} {d : Nat} {L ar : Nat} {xs : List Nat} (h : LSA G ws L ar xs) (hfull : ∀ cap f, px_lk ws ar = some (oRA G cap f) → cap = xs.length ∨ xs = []) (hlen : xs.length ≤ 511) (hob : ∀ x ∈ xs, px_ob ws x) (hmode : (ar = g_sv G 0 ∧ xs = []) ∨ ∃ (cap : Nat) (f : Nat → Option Nat), px_lk ws ar = some (oRA G cap f) ∧ 0 < cap ∧ cap = xs.length ∧ ∀ i, i < xs.length → f i = xs[i]?) : px G m_AL_grow0 0 (lv_args 0 [.ref L]) [] ws (d + 4) 1 1000 (fun v w => ∃ (q cap : Nat) (f : Nat → Option Nat) (mc : Int32), v = some (.ref q) ∧ px_lk ws q = none ∧ px_lk w L = some (oAL q (nI xs.length) mc) ∧ px_lk w q = some (oRA G cap f) ∧ xs.length < cap ∧ cap ≤ 800 ∧ (∀ i, i < xs.length → f i = xs[i]?) ∧ px_fr (fun b => b = L) ws w) := by
  obtain ⟨mc, hL, -⟩ := h
  rcases hmode with ⟨rfl, rfl⟩ | ⟨cap, f, ha, hc, hcl, hf⟩
  · skip
    refine p_s rfl rfl ?_
    refine p_s rfl rfl ?_
    refine p_get rfl f_AL_48 hL rfl ?_
    refine p_s rfl rfl ?_
    refine p_s rfl rfl ?_
    rw [show (fun x y : Int32 => x + y) (nI ([] : List Nat).length) 1 = nI 1 from rfl]
    refine p_callV rfl c_AL_69 rfl hL g_AL_grow1 rfl rfl rfl (p_le (by omega) (Nat.le_refl _) (Nat.le_refl _) (c_grow1a (d := d) hL)) (fun v w hq => ?_)
    obtain ⟨q, rfl, hq1, rfl⟩ := hq
    refine p_aretR rfl rfl (Or.inr ⟨_, rfl⟩) ⟨q, 10, fun _ => none, mc, rfl, hq1, px_lk_same _ _ _ _ (px_lk_old _ _ _ _ _ hL), px_keep (px_lk_new _ _ _ hq1) (fun z => px_nn hL hq1 z.symm), by decide, by decide, fun i hi => absurd hi (Nat.not_lt_zero i), ?_⟩
    exact px_fr.nw.tr (px_fr.up rfl)
  · skip
    refine p_s rfl rfl ?_
    refine p_s rfl rfl ?_
    refine p_get rfl f_AL_48 hL rfl ?_
    refine p_s rfl rfl ?_
    refine p_s rfl rfl ?_
    rw [show (fun x y : Int32 => x + y) (nI xs.length) 1 = nI (cap + 1) by rw [hcl]; exact nI_1 _]
    refine p_callV rfl c_AL_69 rfl hL g_AL_grow1 rfl rfl rfl (c_grow1b hL ha hc rfl rfl (by split <;> omega) (px_ob_ls hob hcl hf)) (fun v w hq => ?_)
    obtain ⟨q, rfl, hq1, rfl⟩ := hq
    refine p_aretR rfl rfl (Or.inr ⟨_, rfl⟩) ⟨q, _, _, mc, rfl, hq1, px_lk_same _ _ _ _ (px_keep (px_lk_old _ _ _ _ _ hL) (px_nn hL hq1)), px_keep (px_lk_same _ _ _ _ (px_lk_new _ _ _ hq1)) (fun z => px_nn hL hq1 z.symm), by split <;> omega, by split <;> omega, fun i hi => ?_, ?_⟩
    · rw [pk_cpy_in (Nat.zero_le _) (by omega)]
      show f (0 + (i - 0)) = _
      rw [Nat.zero_add, Nat.sub_zero]
      exact hf i hi
    · exact (px_fr.upn hq1).tr (px_fr.up rfl)
theorem px_ob.up {ws : va_W} {a y : Nat} {e x : va_E} (h : px_ob ws y) (ha : px_lk ws a = some x) (hk : px_kd x = px_kd e ∧ (px_kd e < 8 ∨ 1000 ≤ px_kd e)) : px_ob (px_up ws a e) y := by
  obtain ⟨ci, fs, K, T, N, h1, h2, h3⟩ := h
  by_cases hy : y = a
  · subst hy
    have hx := Option.some.inj (h1.symm.trans ha)
    subst hx
    have hci : ci < 8 := (List.getElem?_eq_some_iff.mp h2).1
    have hk1 : ci = px_kd e := hk.1
    cases e with
    | inr o =>
      obtain ⟨c2, fs2⟩ := o
      have : c2 = ci := hk1.symm
      subst this
      exact ⟨c2, fs2, K, T, N, px_lk_same _ _ _ _ h1, h2, h3⟩
    | inl q =>
      obtain ⟨x1, x2, x3⟩ := q
      exfalso
      have hk2 : ci = px_kd (.inl (x1, x2, x3)) := hk1
      rcases x3 with _ | _ | _ | _ | _ <;> simp [px_kd] at hk2 <;> omega
  · exact ⟨ci, fs, K, T, N, px_keep h1 hy, h2, h3⟩
theorem px_ob.fr {S : Nat → Prop} {ws w : va_W} {y : Nat} (h : px_ob ws y) (hf : px_fr S ws w) (hy : ¬ S y) : px_ob w y := by
  obtain ⟨ci, fs, K, T, N, h1, h2, h3⟩ := h
  exact ⟨ci, fs, K, T, N, hf y _ hy h1, h2, h3⟩
set_option maxHeartbeats 2000000 in
theorem c_add_tail {G : px_G} {ws : va_W} {d : Nat} {L q e len cap bc bs : Nat} {mc : Int32} {f : Nat → Option Nat} {lv : List (Nat × Value)} {Q : Option Value → va_W → Prop} (l0 : px_get lv 0 = some (.ref L)) (l1 : px_get lv 1 = some (.ref e)) (l2 : px_get lv 2 = some (.ref q)) (l3 : px_get lv 3 = some (.int (nI len))) (hL : px_lk ws L = some (oAL q (nI len) mc)) (hq : px_lk ws q = some (oRA G cap f)) (hlc : len < cap) (hcap : cap ≤ 800) (hob : px_ob ws e) (hQ : Q none (px_up (px_up ws q (oRA G cap (va_up f len (some e)))) L (oAL q (nI (len + 1)) mc))) : px G m_AL_add3 11 lv [] ws d bc bs Q := by
  refine p_s (lv' := lv) (st' := [.ref q]) rfl (by show px_loadA lv _ 2 = _; rw [px_loadA, l2]) ?_
  refine p_s (lv' := lv) (st' := [.int (nI len), .ref q]) rfl (by show px_loadI lv _ 3 = _; rw [px_loadI, l3]) ?_
  refine p_s (lv' := lv) (st' := [.ref e, .int (nI len), .ref q]) rfl (by show px_loadA lv _ 1 = _; rw [px_loadA, l1]) ?_
  refine p_aastS rfl hq rfl hlc (by omega) hob ?_
  have hL2 := px_keepK (e := oRA G cap (va_up f len (some e))) hq hL (Nat.ne_of_beq_eq_false rfl)
  refine p_s (lv' := lv) (st' := [.ref L]) rfl (by show px_loadA lv _ 0 = _; rw [px_loadA, l0]) ?_
  refine p_s (lv' := lv) (st' := [.int (nI len), .ref L]) rfl (by show px_loadI lv _ 3 = _; rw [px_loadI, l3]) ?_
  refine p_s rfl rfl ?_
  refine p_s rfl rfl ?_
  rw [show (fun x y : Int32 => x + y) (nI len) 1 = nI (len + 1) from nI_1 len]
  refine p_put rfl fp_AL_48 hL2 rfl rfl (by exact Nat.le_of_ble_eq_true rfl) ?_
  exact p_vret rfl rfl hQ
theorem px_app_get {xs : List Nat} {e i : Nat} (hi : i < (xs ++ [e]).length) {f g : Nat → Option Nat} (hf : ∀ j, j < xs.length → f j = xs[j]?) (hg : ∀ j, j < xs.length → g j = f j) (he : g xs.length = some e) : g i = (xs ++ [e])[i]? := by
  rw [List.length_append, List.length_singleton] at hi
  by_cases h : i < xs.length
  · rw [List.getElem?_append_left h, hg i h, hf i h]
  · have e1 : i = xs.length := by omega
    subst e1
    rw [he, List.getElem?_append_right (Nat.le_refl _)]
    simp
set_option maxHeartbeats 2000000 in
theorem c_add3 {G : px_G} {ws : va_W} {d : Nat} {L ar e : Nat} {xs : List Nat} (h : LSA G ws L ar xs) (hlen : xs.length ≤ 511) (hob : ∀ x ∈ xs, px_ob ws x) (hobe : px_ob ws e) : px G m_AL_add3 0 (lv_args 0 [.ref L, .ref e, .ref ar, .int (nI xs.length)]) [] ws (d + 5) 1 1000 (fun v w => v = none ∧ ∃ ar2 : Nat, (ar2 = ar ∨ px_lk ws ar2 = none) ∧ LSA G w L ar2 (xs ++ [e]) ∧ px_fr (lsS L ar) ws w) := by
  obtain ⟨mc, hL, hmode⟩ := id h
  have hgrow : ∀ (k : Nat), k = xs.length → ((ar = g_sv G 0 ∧ xs = []) ∨ ∃ (cap : Nat) (f : Nat → Option Nat), px_lk ws ar = some (oRA G cap f) ∧ 0 < cap ∧ cap = xs.length ∧ ∀ i, i < xs.length → f i = xs[i]?) → px G m_AL_add3 6 (lv_args 0 [.ref L, .ref e, .ref ar, .int (nI xs.length)]) [] ws (d + 5) 1 1000 (fun v w => v = none ∧ ∃ ar2 : Nat, (ar2 = ar ∨ px_lk ws ar2 = none) ∧ LSA G w L ar2 (xs ++ [e]) ∧ px_fr (lsS L ar) ws w) := by
    intro _ _ hm
    refine p_s rfl rfl ?_
    refine p_callV rfl c_AL_129 rfl hL g_AL_grow0 rfl rfl rfl (c_grow0 h ?_ hlen hob hm) (fun v w hq => ?_)
    · intro cap f hc
      rcases hm with ⟨-, hx⟩ | ⟨cap2, f2, hc2, -, hx, -⟩
      · exact Or.inr hx
      · have := Option.some.inj (hc.symm.trans hc2)
        cases this
        exact Or.inl hx
    obtain ⟨q, cap, f, mc2, rfl, hq1, hL2, hq2, hlc, hcap, hf, hfr⟩ := hq
    refine p_s rfl rfl ?_
    have hne : q ≠ L := fun z => px_nn hL hq1 z.symm
    have hLo : ¬ e = L := by
      intro z
      obtain ⟨ci, fs, K, T, N, a1, a2, a3⟩ := hobe
      rw [z] at a1
      have a4 := Option.some.inj (a1.symm.trans hL)
      cases a4
      cases a2
      exact absurd a3 (by decide +kernel)
    refine c_add_tail rfl rfl rfl rfl hL2 hq2 hlc hcap (hobe.fr hfr hLo) ⟨rfl, q, Or.inr hq1, ⟨mc2, ?_, Or.inr ⟨cap, _, px_keep (px_lk_same _ _ _ _ hq2) hne, by omega, ?_, hcap, fun i hi => px_app_get hi hf (fun j hj => if_neg (by omega)) (if_pos rfl)⟩⟩, ?_⟩
    · rw [List.length_append, List.length_singleton]
      exact px_lk_same _ _ _ _ (px_keepK hq2 hL2 (Nat.ne_of_beq_eq_false rfl))
    · rw [List.length_append, List.length_singleton]; omega
    · intro b x hb hx
      have hb1 : ¬ b = L := fun z => hb (Or.inl z)
      have h1 := hfr b x hb1 hx
      exact px_keep (px_keep h1 (px_nn hx hq1)) hb1
  rcases hmode with ⟨har, hx⟩ | ⟨cap, f, ha, hc, hle, hcap, hf⟩
  · refine p_s rfl rfl ?_
    refine p_s rfl rfl ?_
    rw [har]
    refine p_tlen (k := 0) rfl rfl ?_
    refine p_icmpF rfl (show nI xs.length = 0 by rw [hx]; rfl) ?_
    rw [← har]
    exact hgrow _ rfl (Or.inl ⟨har, hx⟩)
  · refine p_s rfl rfl ?_
    refine p_s rfl rfl ?_
    refine p_alenR rfl ha ?_
    by_cases hfl : cap = xs.length
    · refine p_icmpF rfl (show nI xs.length = nI cap by rw [hfl]) ?_
      exact hgrow _ rfl (Or.inr ⟨cap, f, ha, hc, hfl, hf⟩)
    · refine p_icmpT rfl (show ¬ nI xs.length = nI cap from fun z => hfl ((nI_eq (by omega) (by omega)).mp z).symm) ?_
      refine p_le (bc := 0) (bs := 0) (Nat.le_refl _) (Nat.zero_le _) (Nat.zero_le _) ?_
      refine c_add_tail rfl rfl rfl rfl hL ha (by omega) hcap hobe ⟨rfl, ar, Or.inl rfl, ⟨mc, ?_, Or.inr ⟨cap, _, px_keepK (px_keepK ha hL (Nat.ne_of_beq_eq_false rfl)) (px_lk_same _ _ _ _ ha) (Nat.ne_of_beq_eq_false rfl), hc, ?_, hcap, fun i hi => px_app_get hi hf (fun j hj => if_neg (by omega)) (if_pos rfl)⟩⟩, ?_⟩
      · rw [List.length_append, List.length_singleton]
        exact px_lk_same _ _ _ _ (px_keepK ha hL (Nat.ne_of_beq_eq_false rfl))
      · rw [List.length_append, List.length_singleton]; omega
      · exact (px_fr.up (Or.inr rfl)).tr (px_fr.up (Or.inl rfl))
end
section
/-! ARRAYLIST: add, remove, as lists -/
set_option maxHeartbeats 2000000 in
theorem c_add {G : px_G} {ws : va_W} {d : Nat} {L ar e : Nat} {xs : List Nat} (h : LSA G ws L ar xs) (hlen : xs.length ≤ 511) (hob : ∀ x ∈ xs, px_ob ws x) (hobe : px_ob ws e) : px G m_AL_add1 0 (lv_args 0 [.ref L, .ref e]) [] ws (d + 6) 1 1000 (fun v w => v = some (.int 1) ∧ ∃ ar2 : Nat, (ar2 = ar ∨ px_lk ws ar2 = none) ∧ LSA G w L ar2 (xs ++ [e]) ∧ px_fr (lsS L ar) ws w) := by
  obtain ⟨mc, hL, hmode⟩ := h
  refine p_own hL ?_
  refine p_s rfl rfl ?_
  refine p_s rfl rfl ?_
  refine p_get2 rfl f_AL_63 hL rfl ?_
  refine p_s rfl rfl ?_
  refine p_s rfl rfl ?_
  refine p_put2 rfl fp_AL_63 hL rfl rfl (by exact Nat.le_of_ble_eq_true rfl) ?_
  refine p_s rfl rfl ?_
  refine p_s rfl rfl ?_
  refine p_s rfl rfl ?_
  refine p_get2 rfl f_AL_9 hL rfl ?_
  refine p_s rfl rfl ?_
  refine p_get2 rfl f_AL_48 hL rfl ?_
  have e0 : px_lk (px_up ws L (oAL ar (nI xs.length) (mc + 1))) L = some (oAL ar (nI xs.length) (mc + 1)) := px_lk_same _ _ _ _ hL
  have f0 : px_fr (lsS L ar) ws (px_up ws L (oAL ar (nI xs.length) (mc + 1))) := px_fr.up (Or.inl rfl)
  have h2 : LSA G (px_up ws L (oAL ar (nI xs.length) (mc + 1))) L ar xs := ⟨mc + 1, e0, hmode.imp id (fun ⟨cap, f, a1, a2⟩ => ⟨cap, f, px_keepK hL a1 (Nat.ne_of_beq_eq_false rfl), a2⟩)⟩
  have o1 : ∀ y, px_ob ws y → px_ob (px_up ws L (oAL ar (nI xs.length) (mc + 1))) y := fun y hy => hy.up hL ⟨rfl, Or.inl (by exact Nat.le_of_ble_eq_true rfl)⟩
  have n1 : ∀ q, px_lk (px_up ws L (oAL ar (nI xs.length) (mc + 1))) q = none → px_lk ws q = none := fun q hq => by
    by_cases z : q = L
    · rw [z, e0] at hq; cases hq
    · rw [px_lk_ne _ _ _ _ z] at hq; exact hq
  refine p_callV rfl c_AL_131 rfl e0 g_AL_add3 rfl rfl rfl (c_add3 h2 hlen (fun x hx => o1 x (hob x hx)) (o1 e hobe)) (fun v w hq => ?_)
  obtain ⟨rfl, ar2, ha2, hl2, hf2⟩ := hq
  refine p_s rfl rfl ?_
  exact p_iret rfl rfl rfl ⟨rfl, ar2, ha2.imp id (n1 ar2), hl2, f0.tr hf2⟩
set_option maxHeartbeats 2000000 in
theorem c_fastRemove {G : px_G} {ws : va_W} {d : Nat} {L ar i len cap : Nat} {mc : Int32} {f : Nat → Option Nat} (hL : px_lk ws L = some (oAL ar (nI len) mc)) (ha : px_lk ws ar = some (oRA G cap f)) (hi : i < len) (hlc : len ≤ cap) (hcap : cap ≤ 800) (hel : ∀ j, j < len → ∀ y, f j = some y → px_ob ws y) : px G m_AL_fastRemove 0 (lv_args 0 [.ref L, .ref ar, .int (nI i)]) [] ws (d + 1) 0 0 (fun v w => v = none ∧ ∃ f2 : Nat → Option Nat, px_lk w L = some (oAL ar (nI (len - 1)) (mc + 1)) ∧ px_lk w ar = some (oRA G cap f2) ∧ (∀ j, j < len - 1 → f2 j = if j < i then f j else f (j + 1)) ∧ px_fr (lsS L ar) ws w) := by
  refine p_own hL ?_
  refine p_s rfl rfl ?_
  refine p_s rfl rfl ?_
  refine p_get2 rfl f_AL_63 hL rfl ?_
  refine p_s rfl rfl ?_
  refine p_s rfl rfl ?_
  refine p_put2 rfl fp_AL_63 hL rfl rfl (by exact Nat.le_of_ble_eq_true rfl) ?_
  refine p_s rfl rfl ?_
  refine p_get2 rfl f_AL_48 hL rfl ?_
  have a1 : px_lk (px_up ws L (oAL ar (nI len) (mc + 1))) ar = some (oRA G cap f) := px_keepK hL ha (Nat.ne_of_beq_eq_false rfl)
  have L1 : px_lk (px_up ws L (oAL ar (nI len) (mc + 1))) L = some (oAL ar (nI len) (mc + 1)) := px_lk_same _ _ _ _ hL
  have o1 : ∀ y, px_ob ws y → px_ob (px_up ws L (oAL ar (nI len) (mc + 1))) y := fun y hy => hy.up hL ⟨rfl, Or.inl (by exact Nat.le_of_ble_eq_true rfl)⟩
  have e1 : nI len - 1 = nI (len - 1) := by rw [show (1 : Int32) = nI 1 from rfl, pk_sub (by omega)]
  refine p_s rfl rfl ?_
  refine p_s rfl rfl ?_
  rw [show (fun x y : Int32 => x - y) (nI len) 1 = nI (len - 1) from e1]
  refine p_s rfl rfl ?_
  refine p_s rfl rfl ?_
  refine p_s rfl rfl ?_
  refine p_icmp rfl (fun c => ?_) (fun c => ?_)
  · simp only [px_cmp] at c
    have hi2 : i = len - 1 := by
      have := (nI_leI (by omega) (by omega)).mp c
      omega
    refine p_s rfl rfl ?_
    refine p_s rfl rfl ?_
    refine p_s rfl rfl ?_
    refine p_s rfl rfl ?_
    refine p_put2 rfl fp_AL_48 hL rfl rfl (by exact Nat.le_of_ble_eq_true rfl) ?_
    refine p_s rfl rfl ?_
    refine p_aastNS rfl (px_keepK hL ha (Nat.ne_of_beq_eq_false rfl)) rfl (by omega) (by omega) ?_
    refine p_vret rfl rfl ⟨rfl, _, px_keepK (px_keepK hL ha (Nat.ne_of_beq_eq_false rfl)) (px_lk_same _ _ _ _ hL) (Nat.ne_of_beq_eq_false rfl), px_lk_same _ _ _ _ (px_keepK hL ha (Nat.ne_of_beq_eq_false rfl)), fun j hj => ?_, (px_fr.up (Or.inl rfl)).tr (px_fr.up (Or.inr rfl))⟩
    rw [if_pos (by omega)]
    exact if_neg (by omega)
  · simp only [px_ncmp] at c
    have hi2 : i < len - 1 := Nat.not_le.mp (fun z => c ((nI_leI (a := len - 1) (b := i) (by omega) (by omega)).mpr z))
    have e2 : nI i + 1 = nI (i + 1) := nI_1 i
    have e3 : nI (len - 1) - nI i = nI (len - 1 - i) := pk_sub (by omega)
    refine p_s rfl rfl ?_
    refine p_s rfl rfl ?_
    refine p_s rfl rfl ?_
    refine p_s rfl rfl ?_
    refine p_s rfl rfl ?_
    refine p_s rfl rfl ?_
    refine p_s rfl rfl ?_
    refine p_s rfl rfl ?_
    refine p_s rfl rfl ?_
    rw [show (fun x y : Int32 => x + y) (nI i) 1 = nI (i + 1) from e2, show (fun x y : Int32 => x - y) (nI (len - 1)) (nI i) = nI (len - 1 - i) from e3]
    refine p_copy rfl w_348 a1 a1 (nI_pos (by omega)) (nI_pos (by omega)) (nI_pos (by omega)) (by rw [nI_clamp (by omega), nI_clamp (by omega)]; omega) (by rw [nI_clamp (by omega), nI_clamp (by omega)]; omega) (fun j hj y hy => ?_) (by exact Nat.le_of_ble_eq_true rfl) ?_
    · rw [nI_clamp (by omega)] at hj hy
      exact o1 y (hel _ (by omega) y hy)
    rw [nI_clamp (by omega), nI_clamp (by omega), nI_clamp (by omega)]
    have a2 := px_lk_same _ _ _ (oRA G cap (va_cpy f f (i + 1) i (len - 1 - i))) a1
    have L2 := px_keepK (e := oRA G cap (va_cpy f f (i + 1) i (len - 1 - i))) a1 L1 (Nat.ne_of_beq_eq_false rfl)
    refine p_s rfl rfl ?_
    refine p_s rfl rfl ?_
    refine p_s rfl rfl ?_
    refine p_s rfl rfl ?_
    refine p_put rfl fp_AL_48 L2 rfl rfl (by exact Nat.le_of_ble_eq_true rfl) ?_
    have a3 := px_keepK (e := oAL ar (nI (len - 1)) (mc + 1)) L2 a2 (Nat.ne_of_beq_eq_false rfl)
    refine p_s rfl rfl ?_
    refine p_aastNS rfl a3 rfl (by omega) (by omega) ?_
    refine p_vret rfl rfl ⟨rfl, _, px_keepK a3 (px_lk_same _ _ _ _ L2) (Nat.ne_of_beq_eq_false rfl), px_lk_same _ _ _ _ a3, fun j hj => ?_, (px_fr.up (Or.inl rfl)).tr ((px_fr.up (Or.inr rfl)).tr ((px_fr.up (Or.inl rfl)).tr (px_fr.up (Or.inr rfl))))⟩
    show va_up _ (len - 1) none j = _
    rw [show va_up (va_cpy f f (i + 1) i (len - 1 - i)) (len - 1) none j = va_cpy f f (i + 1) i (len - 1 - i) j from if_neg (by omega)]
    by_cases hji : j < i
    · rw [if_pos hji, pk_cpy_out (Or.inl hji)]
    · rw [if_neg hji, pk_cpy_in (by omega) (by omega)]
      congr 1
      omega
set_option maxHeartbeats 2000000 in
theorem c_remove {G : px_G} {ws : va_W} {d : Nat} {L ar i : Nat} {xs : List Nat} (h : LSA G ws L ar xs) (hi : i < xs.length) (hob : ∀ x ∈ xs, px_ob ws x) : px G m_AL_remove 0 (lv_args 0 [.ref L, .int (nI i)]) [] ws (d + 2) 0 0 (fun v w => (∃ y, v = some (.ref y)) ∧ LSA G w L ar (xs.eraseIdx i) ∧ px_fr (lsS L ar) ws w) := by
  obtain ⟨mc, hL, hmode⟩ := h
  rcases hmode with ⟨-, hx⟩ | ⟨cap, f, ha, hc, hlc, hcap, hf⟩
  · rw [hx] at hi; exact absurd hi (Nat.not_lt_zero _)
  refine p_s rfl rfl ?_
  refine p_s rfl rfl ?_
  refine p_get rfl f_AL_48 hL rfl ?_
  refine p_callS rfl c_AL_118 g_Obs_checkIndex rfl rfl rfl (c_obs hi (by omega)) (fun v w hq => ?_)
  obtain ⟨rfl, rfl⟩ := hq
  refine p_s rfl rfl ?_
  refine p_s rfl rfl ?_
  refine p_get rfl f_AL_9 hL rfl ?_
  refine p_s rfl rfl ?_
  refine p_s rfl rfl ?_
  refine p_s rfl rfl ?_
  refine p_aaldS rfl ha rfl (by omega) (by omega) ((hf i hi).trans (List.getElem?_eq_getElem hi)) ?_
  refine p_s rfl rfl ?_
  refine p_s rfl rfl ?_
  refine p_s rfl rfl ?_
  refine p_s rfl rfl ?_
  refine p_callV rfl c_AL_144 rfl hL g_AL_fastRemove rfl rfl rfl (c_fastRemove hL ha hi hlc hcap (px_ob_ls hob rfl hf)) (fun v w hq => ?_)
  obtain ⟨rfl, f2, L2, a2, hf2, hfr⟩ := hq
  refine p_s rfl rfl ?_
  have hle : (xs.eraseIdx i).length = xs.length - 1 := List.length_eraseIdx_of_lt hi
  refine p_aretR rfl rfl (Or.inl ⟨_, rfl⟩) ⟨⟨_, rfl⟩, ⟨mc + 1, by rw [hle]; exact L2, Or.inr ⟨cap, f2, a2, hc, by rw [hle]; omega, hcap, fun j hj => ?_⟩⟩, hfr⟩
  rw [hle] at hj
  rw [hf2 j hj, List.getElem?_eraseIdx]
  by_cases hji : j < i
  · rw [if_pos hji, if_pos hji, hf j (by omega)]
  · rw [if_neg hji, if_neg hji, hf (j + 1) (by omega)]
theorem c_get {G : px_G} {ws : va_W} {d : Nat} {L ar i : Nat} {xs : List Nat} {y : Nat} (h : LSA G ws L ar xs) (hy : xs[i]? = some y) : px G m_AL_get 0 (lv_args 0 [.ref L, .int (nI i)]) [] ws (d + 2) 0 0 (fun v w => v = some (.ref y) ∧ w = ws) := by
  have hi : i < xs.length := (List.getElem?_eq_some_iff.mp hy).1
  obtain ⟨mc, hL, hmode⟩ := h
  rcases hmode with ⟨-, hx⟩ | ⟨cap, f, ha, hc, hlc, hcap, hf⟩
  · rw [hx] at hi; exact absurd hi (Nat.not_lt_zero _)
  · exact c_alget hL ha hi hlc (by omega) ((hf i hi).trans hy)
theorem c_size {G : px_G} {ws : va_W} {d : Nat} {L ar : Nat} {xs : List Nat} (h : LSA G ws L ar xs) : px G m_AL_size 0 (lv_args 0 [.ref L]) [] ws d 0 0 (fun v w => v = some (.int (nI xs.length)) ∧ w = ws) := by
  obtain ⟨mc, hL, -⟩ := h
  exact c_alsize hL
theorem LSA.cell {G : px_G} {ws : va_W} {L ar : Nat} {xs : List Nat} (h : LSA G ws L ar xs) : ∃ sz mc, px_lk ws L = some (oAL ar sz mc) := ⟨_, h.choose, h.choose_spec.1⟩
theorem LSA.fr {S : Nat → Prop} {G : px_G} {ws w : va_W} {L ar : Nat} {xs : List Nat} (h : LSA G ws L ar xs) (hf : px_fr S ws w) (h1 : ¬ S L) (h2 : ¬ S ar) : LSA G w L ar xs := by
  obtain ⟨mc, hL, hmode⟩ := h
  exact ⟨mc, hf _ _ h1 hL, hmode.imp id (fun ⟨cap, f, a1, a2⟩ => ⟨cap, f, hf _ _ h2 a1, a2⟩)⟩
end
section
/-! THE MODEL'S STATE AND THE CLASS'S CELLS -/
abbrev Sn4 : Type := Int32 × Int32 × Int32 × Int32
abbrev En4 : Type := Nat × Int32 × Sn4 × Sn4
/-- how many codes; attribute k of code i; parents (0: none, else the number); entries; displaced (codes' places); globals (0 conditions, 1 power, 2 cycles, 3 events) -/
abbrev Md : Type := Nat × (Nat → Nat → Int32) × (Nat → Nat) × List En4 × List Nat × (Nat → Int32)
abbrev d_n (σ : Md) : Nat := σ.1
abbrev d_A (σ : Md) : Nat → Nat → Int32 := σ.2.1
abbrev d_p (σ : Md) : Nat → Nat := σ.2.2.1
abbrev d_e (σ : Md) : List En4 := σ.2.2.2.1
abbrev d_d (σ : Md) : List Nat := σ.2.2.2.2.1
abbrev d_g (σ : Md) : Nat → Int32 := σ.2.2.2.2.2
abbrev e_c (σ : Md) : List Nat := (d_e σ).map (fun x => x.1)
def up4 (A : Nat → Nat → Int32) (b i : Nat) (s t a g : Int32) : Nat → Nat → Int32 := fun k j => if j = i then (if k = b then s else if k = b + 1 then t else if k = b + 2 then a else if k = b + 3 then g else A k j) else A k j
def up1 (A : Nat → Nat → Int32) (k0 i : Nat) (x : Int32) : Nat → Nat → Int32 := fun k j => if k = k0 ∧ j = i then x else A k j
theorem up4_out {A : Nat → Nat → Int32} {b i k j : Nat} {s t a g : Int32} (h : k < b ∨ b + 4 ≤ k) : up4 A b i s t a g k j = A k j := by
  unfold up4
  by_cases hj : j = i
  · rw [if_pos hj, if_neg (by omega), if_neg (by omega), if_neg (by omega), if_neg (by omega)]
  · rw [if_neg hj]
theorem up4_ne {A : Nat → Nat → Int32} {b i k j : Nat} {s t a g : Int32} (h : j ≠ i) : up4 A b i s t a g k j = A k j := if_neg h
theorem up1_ne {A : Nat → Nat → Int32} {k0 i k j : Nat} {x : Int32} (h : k ≠ k0 ∨ j ≠ i) : up1 A k0 i x k j = A k j := if_neg (fun z => h.elim (fun q => q z.1) (fun q => q z.2))
theorem up1_same {A : Nat → Nat → Int32} {k0 i : Nat} {x : Int32} : up1 A k0 i x k0 i = x := if_pos ⟨rfl, rfl⟩
abbrev stA (σ : Md) (b i : Nat) (s t a g : Int32) : Md := (d_n σ, up4 (d_A σ) b i s t a g, d_p σ, d_e σ, d_d σ, d_g σ)
abbrev stX (σ : Md) (k i : Nat) (x : Int32) : Md := (d_n σ, up1 (d_A σ) k i x, d_p σ, d_e σ, d_d σ, d_g σ)
abbrev stP (σ : Md) (i p : Nat) : Md := (d_n σ, d_A σ, (fun j => if j = i then p else d_p σ j), d_e σ, d_d σ, d_g σ)
abbrev stG (σ : Md) (g : Nat → Int32) : Md := (d_n σ, d_A σ, d_p σ, d_e σ, d_d σ, g)
abbrev oTM (l m : Nat) (c p cy ev : Int32) : va_E := .inr (0, [.ref l, .ref m, .int c, .int p, .int cy, .int ev])
abbrev oMem (r : Int32) (l2 l3 : Nat) : va_E := .inr (1, [.int r, .ref l2, .ref l3])
abbrev oSn4 (q : Sn4) : va_E := oSn q.1 q.2.1 q.2.2.1 q.2.2.2
def c_pa (ad : Nat → Nat → Nat) (p : Nat) : Option Nat := if p = 0 then none else some (ad 0 (p - 1))
def c_en (ad : Nat → Nat → Nat) (es : List Nat) (i : Nat) : Option Nat := if i ∈ es then some (ad 3 i) else none
abbrev c_cd (ad : Nat → Nat → Nat) (σ : Md) (i : Nat) : va_E := oCd (nI (i + 1)) (d_A σ 0 i) (d_A σ 1 i) (d_A σ 2 i) (ad 1 i) (ad 2 i) (d_A σ 11 i) (c_pa ad (d_p σ i)) (c_en ad (e_c σ) i)
abbrev c_st (σ : Md) (b i : Nat) : va_E := oSg (d_A σ b i) (d_A σ (b + 1) i) (d_A σ (b + 2) i) (d_A σ (b + 3) i)
/-- arrays of two lists are apart, unless nothing was ever put in -/
abbrev c_ap (G : px_G) (a b : Nat) : Prop := a = b → a = g_sv G 0
def c_sep (G : px_G) (ad : Nat → Nat → Nat) (n : Nat) (es : List Nat) : Prop :=
  (ad 6 1 ≠ ad 6 3 ∧ ad 6 1 ≠ ad 6 5 ∧ ad 6 3 ≠ ad 6 5) ∧ (c_ap G (ad 6 2) (ad 6 4) ∧ c_ap G (ad 6 2) (ad 6 6) ∧ c_ap G (ad 6 4) (ad 6 6)) ∧
  (∀ i j, i < n → j < n → ad 0 i = ad 0 j → i = j) ∧ (∀ i j, i < n → j < n → ad 1 i = ad 1 j → i = j) ∧ (∀ i j, i < n → j < n → ad 2 i = ad 2 j → i = j) ∧ (∀ i j, i < n → j < n → ad 1 i ≠ ad 2 j) ∧
  (∀ i j, i ∈ es → j ∈ es → ad 3 i = ad 3 j → i = j)
def c_codes (ws : va_W) (ad : Nat → Nat → Nat) (σ : Md) : Prop := ∀ i, i < d_n σ → px_lk ws (ad 0 i) = some (c_cd ad σ i) ∧ px_lk ws (ad 1 i) = some (c_st σ 3 i) ∧ px_lk ws (ad 2 i) = some (c_st σ 7 i)
def c_ents (ws : va_W) (ad : Nat → Nat → Nat) (es : List En4) : Prop := ∀ x ∈ es, px_lk ws (ad 3 x.1) = some (oEn (ad 0 x.1) (ad 4 x.1) (ad 5 x.1) x.2.1) ∧ px_lk ws (ad 4 x.1) = some (oSn4 x.2.2.1) ∧ px_lk ws (ad 5 x.1) = some (oSn4 x.2.2.2)
def c_lists (G : px_G) (ws : va_W) (ad : Nat → Nat → Nat) (n : Nat) (es ds : List Nat) : Prop := LSA G ws (ad 6 1) (ad 6 2) ((List.range n).map (ad 0)) ∧ LSA G ws (ad 6 3) (ad 6 4) (es.map (ad 3)) ∧ LSA G ws (ad 6 5) (ad 6 6) (ds.map (ad 0))
/-- the class's object at o stands for the state σ -/
def CR (G : px_G) (R : Int32) (ws : va_W) (o : Nat) (ad : Nat → Nat → Nat) (σ : Md) : Prop :=
  px_lk ws o = some (oTM (ad 6 1) (ad 6 0) (d_g σ 0) (d_g σ 1) (d_g σ 2) (d_g σ 3)) ∧ px_lk ws (ad 6 0) = some (oMem R (ad 6 3) (ad 6 5)) ∧
  c_lists G ws ad (d_n σ) (e_c σ) (d_d σ) ∧ c_sep G ad (d_n σ) (e_c σ) ∧ c_codes ws ad σ ∧ c_ents ws ad (d_e σ)
theorem LSA.up {G : px_G} {ws : va_W} {L ar a : Nat} {xs : List Nat} {x e : va_E} (h : LSA G ws L ar xs) (ha : px_lk ws a = some x) (h6 : ¬ px_kd x = 6) (h7 : ¬ px_kd x = 1001) : LSA G (px_up ws a e) L ar xs := by
  obtain ⟨mc, hL, hmode⟩ := h
  exact ⟨mc, px_keepK ha hL (fun z => h6 z.symm), hmode.imp id (fun ⟨cap, f, a1, a2⟩ => ⟨cap, f, px_keepK ha a1 (fun z => h7 z.symm), a2⟩)⟩
theorem c_lists.up {G : px_G} {ws : va_W} {ad : Nat → Nat → Nat} {n : Nat} {es ds : List Nat} {a : Nat} {x e : va_E} (h : c_lists G ws ad n es ds) (ha : px_lk ws a = some x) (h6 : ¬ px_kd x = 6) (h7 : ¬ px_kd x = 1001) : c_lists G (px_up ws a e) ad n es ds := ⟨h.1.up ha h6 h7, h.2.1.up ha h6 h7, h.2.2.up ha h6 h7⟩
theorem c_ents.up {ws : va_W} {ad : Nat → Nat → Nat} {es : List En4} {a : Nat} {x e : va_E} (h : c_ents ws ad es) (ha : px_lk ws a = some x) (h4 : ¬ px_kd x = 4) (h5 : ¬ px_kd x = 5) : c_ents (px_up ws a e) ad es := fun y hy => ⟨px_keepK ha (h y hy).1 (fun z => h4 z.symm), px_keepK ha (h y hy).2.1 (fun z => h5 z.symm), px_keepK ha (h y hy).2.2 (fun z => h5 z.symm)⟩
theorem c_st_up {σ : Md} {b i b2 j : Nat} {s t a g : Int32} (h : j ≠ i ∨ b2 + 4 ≤ b ∨ b + 4 ≤ b2) : c_st (stA σ b i s t a g) b2 j = c_st σ b2 j := by
  have e : ∀ k, b2 ≤ k → k < b2 + 4 → up4 (d_A σ) b i s t a g k j = d_A σ k j := fun k h1 h2 => by
    rcases h with h | h
    · exact up4_ne h
    · exact up4_out (by omega)
  show oSg (up4 (d_A σ) b i s t a g b2 j) (up4 (d_A σ) b i s t a g (b2 + 1) j) (up4 (d_A σ) b i s t a g (b2 + 2) j) (up4 (d_A σ) b i s t a g (b2 + 3) j) = _
  rw [e _ (by omega) (by omega), e _ (by omega) (by omega), e _ (by omega) (by omega), e _ (by omega) (by omega)]
theorem c_st_same {σ : Md} {b i : Nat} {s t a g : Int32} : c_st (stA σ b i s t a g) b i = oSg s t a g := by
  show oSg (up4 (d_A σ) b i s t a g b i) (up4 (d_A σ) b i s t a g (b + 1) i) (up4 (d_A σ) b i s t a g (b + 2) i) (up4 (d_A σ) b i s t a g (b + 3) i) = _
  unfold up4
  simp
theorem c_cd_st {ad : Nat → Nat → Nat} {σ : Md} {b i j : Nat} {s t a g : Int32} (h1 : 3 ≤ b) (h2 : b ≤ 7) : c_cd ad (stA σ b i s t a g) j = c_cd ad σ j := by
  show oCd (nI (j + 1)) (up4 (d_A σ) b i s t a g 0 j) (up4 (d_A σ) b i s t a g 1 j) (up4 (d_A σ) b i s t a g 2 j) (ad 1 j) (ad 2 j) (up4 (d_A σ) b i s t a g 11 j) _ _ = _
  rw [up4_out (by omega), up4_out (by omega), up4_out (by omega), up4_out (by omega)]
/-- a code's standing, or its kept one, is set -/
theorem CR.st {G : px_G} {R : Int32} {ws : va_W} {o : Nat} {ad : Nat → Nat → Nat} {σ : Md} (h : CR G R ws o ad σ) {b i : Nat} (hb : (b = 3) ∨ (b = 7)) (hi : i < d_n σ) {s t a g : Int32} : CR G R (px_up ws (ad (if b = 3 then 1 else 2) i) (oSg s t a g)) o ad (stA σ b i s t a g) := by
  obtain ⟨h1, h2, h3, h4, h5, h6⟩ := h
  obtain ⟨-, -, -, s1, s2, s3, -⟩ := id h4
  have hc : ∃ x, px_lk ws (ad (if b = 3 then 1 else 2) i) = some x ∧ px_kd x = 3 := by
    rcases hb with rfl | rfl
    · exact ⟨_, (h5 i hi).2.1, rfl⟩
    · exact ⟨_, (h5 i hi).2.2, rfl⟩
  obtain ⟨x, hx, hk⟩ := hc
  have n6 : ¬ px_kd x = 6 := by rw [hk]; decide
  have n7 : ¬ px_kd x = 1001 := by rw [hk]; decide
  have n4 : ¬ px_kd x = 4 := by rw [hk]; decide
  have n5 : ¬ px_kd x = 5 := by rw [hk]; decide
  have n0 : ¬ (0 : Nat) = px_kd x := by rw [hk]; decide
  have n1 : ¬ (1 : Nat) = px_kd x := by rw [hk]; decide
  have n2 : ¬ (2 : Nat) = px_kd x := by rw [hk]; decide
  refine ⟨px_keepK hx h1 n0, px_keepK hx h2 n1, h3.up hx n6 n7, h4, fun j hj => ⟨?_, ?_, ?_⟩, h6.up hx n4 n5⟩
  · rw [c_cd_st (by omega) (by omega)]
    exact px_keepK hx (h5 j hj).1 n2
  · rcases hb with rfl | rfl
    · by_cases hji : j = i
      · subst hji
        rw [c_st_same]
        exact px_lk_same _ _ _ _ hx
      · rw [c_st_up (Or.inl hji)]
        exact px_keep (h5 j hj).2.1 (fun z => hji (s1 j i hj hi z))
    · rw [c_st_up (Or.inr (by omega))]
      exact px_keep (h5 j hj).2.1 (s3 j i hj hi)
  · rcases hb with rfl | rfl
    · rw [c_st_up (Or.inr (by omega))]
      exact px_keep (h5 j hj).2.2 (fun z => s3 i j hi hj z.symm)
    · by_cases hji : j = i
      · subst hji
        rw [c_st_same]
        exact px_lk_same _ _ _ _ hx
      · rw [c_st_up (Or.inl hji)]
        exact px_keep (h5 j hj).2.2 (fun z => hji (s2 j i hj hi z))
/-- a code's own cell is set: its counter, its parent -/
theorem CR.cd {G : px_G} {R : Int32} {ws : va_W} {o : Nat} {ad : Nat → Nat → Nat} {σ σ' : Md} (h : CR G R ws o ad σ) {i : Nat} (hi : i < d_n σ) (hn : d_n σ' = d_n σ) (he : d_e σ' = d_e σ) (hd : d_d σ' = d_d σ) (hg : d_g σ' = d_g σ) (hc : ∀ j, j ≠ i → c_cd ad σ' j = c_cd ad σ j) (h3 : ∀ j, c_st σ' 3 j = c_st σ 3 j) (h7 : ∀ j, c_st σ' 7 j = c_st σ 7 j) : CR G R (px_up ws (ad 0 i) (c_cd ad σ' i)) o ad σ' := by
  obtain ⟨h1, h2, hl, h4, h5, h6⟩ := h
  obtain ⟨-, -, s0, -⟩ := id h4
  have hx := (h5 i hi).1
  have NE : ∀ {a b : Nat}, Nat.beq a b = false → ¬ a = b := fun hh => Nat.ne_of_beq_eq_false hh
  refine ⟨?_, px_keepK hx h2 (NE rfl), ?_, ?_, fun j hj => ⟨?_, ?_, ?_⟩, ?_⟩
  · rw [hg]
    exact px_keepK hx h1 (NE rfl)
  · show c_lists G _ ad (d_n σ') ((d_e σ').map _) (d_d σ')
    rw [hn, he, hd]
    exact hl.up hx (NE rfl) (NE rfl)
  · show c_sep G ad (d_n σ') ((d_e σ').map _)
    rw [hn, he]
    exact h4
  · rw [hn] at hj
    by_cases hji : j = i
    · subst hji
      exact px_lk_same _ _ _ _ hx
    · rw [hc j hji]
      exact px_keep (h5 j hj).1 (fun z => hji (s0 j i hj hi z))
  · rw [hn] at hj
    rw [h3 j]
    exact px_keepK hx (h5 j hj).2.1 (NE rfl)
  · rw [hn] at hj
    rw [h7 j]
    exact px_keepK hx (h5 j hj).2.2 (NE rfl)
  · show c_ents _ ad (d_e σ')
    rw [he]
    exact h6.up hx (NE rfl) (NE rfl)
/-- the object's own numbers are set -/
theorem CR.tm {G : px_G} {R : Int32} {ws : va_W} {o : Nat} {ad : Nat → Nat → Nat} {σ : Md} (h : CR G R ws o ad σ) (g : Nat → Int32) : CR G R (px_up ws o (oTM (ad 6 1) (ad 6 0) (g 0) (g 1) (g 2) (g 3))) o ad (stG σ g) := by
  obtain ⟨h1, h2, hl, h4, h5, h6⟩ := h
  have NE : ∀ {a b : Nat}, Nat.beq a b = false → ¬ a = b := fun hh => Nat.ne_of_beq_eq_false hh
  exact ⟨px_lk_same _ _ _ _ h1, px_keepK h1 h2 (NE rfl), hl.up h1 (NE rfl) (NE rfl), h4, fun j hj => ⟨px_keepK h1 (h5 j hj).1 (NE rfl), px_keepK h1 (h5 j hj).2.1 (NE rfl), px_keepK h1 (h5 j hj).2.2 (NE rfl)⟩, h6.up h1 (NE rfl) (NE rfl)⟩
end
section
/-! THE CLASS: find, isOn, countCodesWith -/
def isw (x a b : Int32) : Int32 := if x < a ∨ b < x then 0 else 1
set_option maxHeartbeats 2000000 in
theorem c_isWithin {G : px_G} {ws : va_W} {d : Nat} {x a b : Int32} : px G m_TM_isWithin 0 (lv_args 0 [.int x, .int a, .int b]) [] ws d 0 0 (fun v w => v = some (.int (isw x a b)) ∧ w = ws) := by
  refine p_s rfl rfl ?_
  refine p_s rfl rfl ?_
  refine p_icmp rfl (fun c => ?_) (fun c => ?_)
  · simp only [px_cmp] at c
    refine p_s rfl rfl ?_
    exact p_iret rfl rfl rfl ⟨by rw [isw, if_pos (Or.inl c)], rfl⟩
  · simp only [px_ncmp] at c
    refine p_s rfl rfl ?_
    refine p_s rfl rfl ?_
    refine p_icmp rfl (fun c2 => ?_) (fun c2 => ?_)
    · simp only [px_cmp] at c2
      refine p_s rfl rfl ?_
      exact p_iret rfl rfl rfl ⟨by rw [isw, if_pos (Or.inr c2)], rfl⟩
    · simp only [px_ncmp] at c2
      refine p_s rfl rfl ?_
      refine p_goto rfl ?_
      exact p_iret rfl rfl rfl ⟨by rw [isw, if_neg (fun z => z.elim c c2)], rfl⟩
theorem c_at (ad : Nat → Nat → Nat) {n i : Nat} (hi : i < n) : ((List.range n).map (ad 0))[i]? = some (ad 0 i) := by
  rw [List.getElem?_map, List.getElem?_range hi]; rfl
theorem c_len (ad : Nat → Nat → Nat) (n : Nat) : ((List.range n).map (ad 0)).length = n := by rw [List.length_map, List.length_range]
/-- a number is a code's, or none's -/
theorem c_num (x : Int32) {n : Nat} (hn : n ≤ 200) : (∃ i, i < n ∧ x = nI (i + 1)) ∨ (x < 1 ∨ nI n < x) := by
  by_cases h1 : x < 1
  · exact Or.inr (Or.inl h1)
  · by_cases h2 : nI n < x
    · exact Or.inr (Or.inr h2)
    · left
      have h1' : ¬ x.toInt < 1 := fun z => h1 (Int32.lt_iff_toInt_lt.mpr z)
      have h2' : ¬ (n : Int) < x.toInt := fun z => h2 (Int32.lt_iff_toInt_lt.mpr (by rw [nI_toInt (by omega)]; exact z))
      obtain ⟨j, hj, rfl⟩ := nI_of (x := x) (fun z => h1' (by have := Int32.lt_iff_toInt_lt.mp z; have e : (0 : Int32).toInt = 0 := rfl; omega))
      rw [nI_toInt hj] at h1' h2'
      exact ⟨j - 1, by omega, by congr 1; omega⟩
theorem isw_in {i n : Nat} (hi : i < n) (hn : n ≤ 200) : ¬ isw (nI (i + 1)) 1 (nI n) = 0 := by
  rw [isw, if_neg]
  · decide
  · rintro (z | z)
    · rw [show (1 : Int32) = nI 1 from rfl, nI_ltI (by omega) (by omega)] at z
      omega
    · rw [nI_ltI (by omega) (by omega)] at z
      omega
set_option maxHeartbeats 2000000 in
theorem c_findS {G : px_G} {ws : va_W} {d : Nat} {R : Int32} {o : Nat} {ad : Nat → Nat → Nat} {σ : Md} (h : CR G R ws o ad σ) (hn : d_n σ ≤ 200) {i : Nat} (hi : i < d_n σ) : px G m_TM_find 0 (lv_args 0 [.ref o, .int (nI (i + 1))]) [] ws (d + 3) 0 0 (fun v w => v = some (.ref (ad 0 i)) ∧ w = ws) := by
  obtain ⟨sz, mc, hL1⟩ := h.2.2.1.1.cell
  refine p_s rfl rfl ?_
  refine p_s rfl rfl ?_
  refine p_s rfl rfl ?_
  refine p_get rfl f_TM_12 h.1 rfl ?_
  refine p_callV rfl c_TM_44 rfl hL1 g_AL_size rfl rfl rfl (c_size h.2.2.1.1) (fun v w hq => ?_)
  obtain ⟨rfl, rfl⟩ := hq
  rw [c_len]
  refine p_callS rfl c_TM_33 g_TM_isWithin rfl rfl rfl (c_isWithin) (fun v w hq => ?_)
  obtain ⟨rfl, rfl⟩ := hq
  refine p_ifF rfl (isw_in hi hn) ?_
  refine p_s rfl rfl ?_
  refine p_get rfl f_TM_12 h.1 rfl ?_
  refine p_s rfl rfl ?_
  refine p_s rfl rfl ?_
  refine p_s rfl rfl ?_
  rw [show (fun x y : Int32 => x - y) (nI (i + 1)) 1 = nI i by exact nI_pred i]
  refine p_callV rfl c_TM_88 rfl hL1 g_AL_get rfl rfl rfl (c_get h.2.2.1.1 (c_at ad hi)) (fun v w hq => ?_)
  obtain ⟨rfl, rfl⟩ := hq
  refine p_castS rfl cs_TM_48 (h.2.2.2.2.1 i hi).1 ?_
  refine p_goto rfl ?_
  exact p_aretR rfl rfl (Or.inl ⟨_, rfl⟩) ⟨rfl, rfl⟩
set_option maxHeartbeats 2000000 in
theorem c_findN {G : px_G} {ws : va_W} {d : Nat} {R : Int32} {o : Nat} {ad : Nat → Nat → Nat} {σ : Md} (h : CR G R ws o ad σ) {x : Int32} (hx : x < 1 ∨ nI (d_n σ) < x) : px G m_TM_find 0 (lv_args 0 [.ref o, .int x]) [] ws (d + 3) 0 0 (fun v w => v = some .null ∧ w = ws) := by
  obtain ⟨sz, mc, hL1⟩ := h.2.2.1.1.cell
  refine p_s rfl rfl ?_
  refine p_s rfl rfl ?_
  refine p_s rfl rfl ?_
  refine p_get rfl f_TM_12 h.1 rfl ?_
  refine p_callV rfl c_TM_44 rfl hL1 g_AL_size rfl rfl rfl (c_size h.2.2.1.1) (fun v w hq => ?_)
  obtain ⟨rfl, rfl⟩ := hq
  rw [c_len]
  refine p_callS rfl c_TM_33 g_TM_isWithin rfl rfl rfl (c_isWithin) (fun v w hq => ?_)
  obtain ⟨rfl, rfl⟩ := hq
  refine p_ifT rfl (show isw x 1 (nI (d_n σ)) = 0 by rw [isw, if_pos hx]) ?_
  refine p_s rfl rfl ?_
  exact p_aret (r := none) rfl rfl (Or.inl ⟨_, rfl⟩) ⟨rfl, rfl⟩
set_option maxHeartbeats 2000000 in
theorem c_isOn {G : px_G} {ws : va_W} {d : Nat} {o l m : Nat} {cd p cy ev k : Int32} (h : px_lk ws o = some (oTM l m cd p cy ev)) : px G m_TM_isOn 0 (lv_args 0 [.ref o, .int k]) [] ws d 0 0 (fun v w => v = some (.int (sHas cd (1 <<< (k &&& 31)))) ∧ w = ws) := by
  refine p_s rfl rfl ?_
  refine p_get rfl f_TM_16 h rfl ?_
  refine p_s rfl rfl ?_
  refine p_s rfl rfl ?_
  refine p_s rfl rfl ?_
  refine p_s rfl rfl ?_
  refine p_if rfl (fun c => ?_) (fun c => ?_)
  · simp only [px_cmp] at c
    refine p_s rfl rfl ?_
    exact p_iret rfl rfl rfl ⟨by rw [sHas, if_pos c], rfl⟩
  · simp only [px_ncmp] at c
    refine p_s rfl rfl ?_
    refine p_goto rfl ?_
    exact p_iret rfl rfl rfl ⟨by rw [sHas, if_neg c], rfl⟩
/-- how many of the first k codes have the bit -/
def cntB (A : Nat → Nat → Int32) (b : Int32) : Nat → Nat
  | 0 => 0
  | k + 1 => cntB A b k + (if sHas (A 3 k) b = 0 then 0 else 1)
theorem cntB_le (A : Nat → Nat → Int32) (b : Int32) : ∀ k, cntB A b k ≤ k
  | 0 => Nat.le_refl _
  | k + 1 => by
    have := cntB_le A b k
    unfold cntB
    split <;> omega
set_option maxHeartbeats 2000000 in
theorem c_cnt_loop {G : px_G} {ws : va_W} {d : Nat} {R : Int32} {o : Nat} {ad : Nat → Nat → Nat} {σ : Md} (h : CR G R ws o ad σ) (hn : d_n σ ≤ 200) (b : Int32) : ∀ (k i : Nat) (x2 x3 : Int32), i + k = d_n σ → x3 = nI i → x2 = nI (cntB (d_A σ) b i) → px G m_TM_countCodesWith 4 [(3, .int x3), (2, .int x2), (0, .ref o), (1, .int b)] [] ws (d + 3) 0 0 (fun v w => v = some (.int (nI (cntB (d_A σ) b (d_n σ)))) ∧ w = ws) := by
  obtain ⟨sz, mc, hL1⟩ := h.2.2.1.1.cell
  intro k
  induction k with
  | zero =>
    intro i x2 x3 hik h3 h2
    subst h3
    subst h2
    have hin : i = d_n σ := by omega
    refine p_s rfl rfl ?_
    refine p_s rfl rfl ?_
    refine p_get rfl f_TM_12 h.1 rfl ?_
    refine p_callV rfl c_TM_44 rfl hL1 g_AL_size rfl rfl rfl (c_size h.2.2.1.1) (fun v w hq => ?_)
    obtain ⟨rfl, rfl⟩ := hq
    rw [c_len]
    refine p_icmpT rfl (show nI (d_n σ) ≤ nI i by rw [hin]; exact Int32.le_refl _) ?_
    refine p_s rfl rfl ?_
    exact p_iret rfl rfl rfl ⟨by rw [hin], rfl⟩
  | succ k ih =>
    intro i x2 x3 hik h3 h2
    subst h3
    subst h2
    have hin : i < d_n σ := by omega
    refine p_s rfl rfl ?_
    refine p_s rfl rfl ?_
    refine p_get rfl f_TM_12 h.1 rfl ?_
    refine p_callV rfl c_TM_44 rfl hL1 g_AL_size rfl rfl rfl (c_size h.2.2.1.1) (fun v w hq => ?_)
    obtain ⟨rfl, rfl⟩ := hq
    rw [c_len]
    refine p_icmpF rfl (show ¬ nI (d_n σ) ≤ nI i from nI_ge hin (by omega)) ?_
    refine p_s rfl rfl ?_
    refine p_get rfl f_TM_12 h.1 rfl ?_
    refine p_s rfl rfl ?_
    refine p_callV rfl c_TM_88 rfl hL1 g_AL_get rfl rfl rfl (c_get h.2.2.1.1 (c_at ad hin)) (fun v w hq => ?_)
    obtain ⟨rfl, rfl⟩ := hq
    refine p_castS rfl cs_TM_48 (h.2.2.2.2.1 i hin).1 ?_
    refine p_get rfl f_TM_79 (h.2.2.2.2.1 i hin).1 rfl ?_
    refine p_s rfl rfl ?_
    refine p_callV rfl c_TM_173 rfl (h.2.2.2.2.1 i hin).2.1 g_Sg_has rfl rfl rfl (c_has (h.2.2.2.2.1 i hin).2.1) (fun v w hq => ?_)
    obtain ⟨rfl, rfl⟩ := hq
    refine p_if rfl (fun c => ?_) (fun c => ?_)
    · simp only [px_cmp] at c
      refine p_s rfl rfl ?_
      refine p_goto rfl ?_
      exact ih (i + 1) _ _ (by omega) (nI_1 i) (by rw [cntB, if_pos c]; rfl)
    · simp only [px_ncmp] at c
      refine p_s rfl rfl ?_
      refine p_s rfl rfl ?_
      refine p_goto rfl ?_
      exact ih (i + 1) _ _ (by omega) (nI_1 i) (by rw [cntB, if_neg c]; exact nI_1 _)
theorem c_countCodesWith {G : px_G} {ws : va_W} {d : Nat} {R : Int32} {o : Nat} {ad : Nat → Nat → Nat} {σ : Md} (h : CR G R ws o ad σ) (hn : d_n σ ≤ 200) {b : Int32} : px G m_TM_countCodesWith 0 (lv_args 0 [.ref o, .int b]) [] ws (d + 3) 0 0 (fun v w => v = some (.int (nI (cntB (d_A σ) b (d_n σ)))) ∧ w = ws) := by
  refine p_s rfl rfl ?_
  refine p_s rfl rfl ?_
  refine p_s rfl rfl ?_
  refine p_s rfl rfl ?_
  exact c_cnt_loop h hn b (d_n σ) 0 _ _ (by omega) rfl rfl
end
section
/-! THE CLASS: those above a code -/
theorem c_pa0 {ad : Nat → Nat → Nat} {p : Nat} (h : p = 0) : c_pa ad p = none := if_pos h
theorem c_pa1 {ad : Nat → Nat → Nat} {p : Nat} (h : ¬ p = 0) : c_pa ad p = some (ad 0 (p - 1)) := if_neg h
def hidF (A : Nat → Nat → Int32) (P : Nat → Nat) : Nat → Nat → Int32
  | 0, _ => 0
  | f + 1, p => if p = 0 then 0 else if sHas (A 3 (p - 1)) 1 = 0 then hidF A P f (P (p - 1)) else 1
def cntF (P : Nat → Nat) : Nat → Nat → Nat
  | 0, _ => 0
  | f + 1, p => if p = 0 then 0 else cntF P f (P (p - 1)) + 1
def belF (P : Nat → Nat) (c : Nat) : Nat → Nat → Int32
  | 0, _ => 0
  | f + 1, p => if p = 0 then 0 else if p = c + 1 then 1 else belF P c f (P (p - 1))
set_option maxHeartbeats 2000000 in
theorem c_hid_loop {G : px_G} {ws : va_W} {d : Nat} {ad : Nat → Nat → Nat} {σ : Md} {a : Nat} (h : c_codes ws ad σ) (hp : ∀ i, i < d_n σ → d_p σ i ≤ d_n σ) : ∀ (f i p : Nat) (v : Value) (x2 : Int32), i + f = 200 → p ≤ d_n σ → v = va_rf (c_pa ad p) → x2 = nI i → px G m_Cd_isHidden 7 [(2, .int x2), (1, v), (0, .ref a)] [] ws (d + 1) 0 0 (fun v w => v = some (.int (hidF (d_A σ) (d_p σ) f p)) ∧ w = ws) := by
  intro f
  induction f with
  | zero =>
    intro i p v x2 hif hpn hv h2
    subst h2
    have hi : i = 200 := by omega
    subst hi
    refine p_s rfl rfl ?_
    refine p_s rfl rfl ?_
    refine p_icmpT rfl (show (200 : Int32) ≤ nI 200 by decide) ?_
    refine p_s rfl rfl ?_
    exact p_iret rfl rfl rfl ⟨rfl, rfl⟩
  | succ f ih =>
    intro i p v x2 hif hpn hv h2
    subst h2
    by_cases hp0 : p = 0
    · rw [c_pa0 hp0] at hv
      subst hv
      refine p_s rfl rfl ?_
      refine p_s rfl rfl ?_
      refine p_icmpF rfl (show ¬ (200 : Int32) ≤ nI i by rw [show (200 : Int32) = nI 200 from rfl, nI_leI (by omega) (by omega)]; omega) ?_
      refine p_s rfl rfl ?_
      refine p_ifnull (r := none) rfl (fun _ => ?_) (fun c => absurd rfl c)
      refine p_s rfl rfl ?_
      exact p_iret rfl rfl rfl ⟨by rw [hidF, if_pos hp0], rfl⟩
    · rw [c_pa1 hp0] at hv
      subst hv
      have hpi : p - 1 < d_n σ := by omega
      have hpp := hp (p - 1) hpi
      refine p_s rfl rfl ?_
      refine p_s rfl rfl ?_
      refine p_icmpF rfl (show ¬ (200 : Int32) ≤ nI i by rw [show (200 : Int32) = nI 200 from rfl, nI_leI (by omega) (by omega)]; omega) ?_
      refine p_s rfl rfl ?_
      refine p_ifnull (r := some (ad 0 (p - 1))) rfl (fun c => by cases c) (fun _ => ?_)
      refine p_s rfl rfl ?_
      refine p_get rfl f_Cd_12 (h (p - 1) hpi).1 rfl ?_
      refine p_s rfl rfl ?_
      refine p_callV rfl c_Cd_57 rfl (h (p - 1) hpi).2.1 g_Sg_has rfl rfl rfl (c_has (h (p - 1) hpi).2.1) (fun v w hq => ?_)
      obtain ⟨rfl, rfl⟩ := hq
      refine p_if rfl (fun c => ?_) (fun c => ?_)
      · simp only [px_cmp] at c
        refine p_s rfl rfl ?_
        refine p_get rfl f_Cd_25 (h (p - 1) hpi).1 rfl ?_
        by_cases hp2 : d_p σ (p - 1) = 0
        · skip
          rw [show va_rf (c_pa ad (d_p σ (p - 1))) = .null by rw [c_pa0 hp2]; rfl]
          refine p_s rfl rfl ?_
          refine p_s rfl rfl ?_
          refine p_goto rfl ?_
          have := ih (i + 1) (d_p σ (p - 1)) _ _ (by omega) hpp (by rw [c_pa0 hp2]) (nI_1 i)
          rw [hidF, if_neg hp0, if_pos c]
          exact this
        · skip
          rw [show va_rf (c_pa ad (d_p σ (p - 1))) = .ref (ad 0 (d_p σ (p - 1) - 1)) by rw [c_pa1 hp2]; rfl]
          refine p_s rfl rfl ?_
          refine p_s rfl rfl ?_
          refine p_goto rfl ?_
          have := ih (i + 1) (d_p σ (p - 1)) _ _ (by omega) hpp (by rw [c_pa1 hp2]) (nI_1 i)
          rw [hidF, if_neg hp0, if_pos c]
          exact this
      · simp only [px_ncmp] at c
        refine p_s rfl rfl ?_
        exact p_iret rfl rfl rfl ⟨by rw [hidF, if_neg hp0, if_neg c], rfl⟩
set_option maxHeartbeats 2000000 in
theorem c_above_loop {G : px_G} {ws : va_W} {d : Nat} {ad : Nat → Nat → Nat} {σ : Md} {a : Nat} (h : c_codes ws ad σ) (hp : ∀ i, i < d_n σ → d_p σ i ≤ d_n σ) : ∀ (f i p : Nat) (v : Value) (x2 : Int32), i + f = 200 → p ≤ d_n σ → v = va_rf (c_pa ad p) → x2 = nI i → px G m_Cd_countAbove 7 [(2, v), (1, .int x2), (0, .ref a)] [] ws d 0 0 (fun v w => v = some (.int (nI (i + cntF (d_p σ) f p))) ∧ w = ws) := by
  intro f
  induction f with
  | zero =>
    intro i p v x2 hif hpn hv h2
    subst h2
    have hi : i = 200 := by omega
    subst hi
    by_cases hp0 : p = 0
    · rw [c_pa0 hp0] at hv
      subst hv
      refine p_s rfl rfl ?_
      refine p_ifnull (r := none) rfl (fun _ => ?_) (fun c => absurd rfl c)
      refine p_s rfl rfl ?_
      exact p_iret rfl rfl rfl ⟨rfl, rfl⟩
    · rw [c_pa1 hp0] at hv
      subst hv
      refine p_s rfl rfl ?_
      refine p_ifnull (r := some (ad 0 (p - 1))) rfl (fun c => by cases c) (fun _ => ?_)
      refine p_s rfl rfl ?_
      refine p_s rfl rfl ?_
      refine p_icmpT rfl (show (200 : Int32) ≤ nI 200 by decide) ?_
      refine p_s rfl rfl ?_
      exact p_iret rfl rfl rfl ⟨rfl, rfl⟩
  | succ f ih =>
    intro i p v x2 hif hpn hv h2
    subst h2
    by_cases hp0 : p = 0
    · rw [c_pa0 hp0] at hv
      subst hv
      refine p_s rfl rfl ?_
      refine p_ifnull (r := none) rfl (fun _ => ?_) (fun c => absurd rfl c)
      refine p_s rfl rfl ?_
      exact p_iret rfl rfl rfl ⟨by rw [cntF, if_pos hp0]; rfl, rfl⟩
    · rw [c_pa1 hp0] at hv
      subst hv
      have hpi : p - 1 < d_n σ := by omega
      have hpp := hp (p - 1) hpi
      refine p_s rfl rfl ?_
      refine p_ifnull (r := some (ad 0 (p - 1))) rfl (fun c => by cases c) (fun _ => ?_)
      refine p_s rfl rfl ?_
      refine p_s rfl rfl ?_
      refine p_icmpF rfl (show ¬ (200 : Int32) ≤ nI i by rw [show (200 : Int32) = nI 200 from rfl, nI_leI (by omega) (by omega)]; omega) ?_
      refine p_s rfl rfl ?_
      refine p_s rfl rfl ?_
      refine p_get rfl f_Cd_25 (h (p - 1) hpi).1 rfl ?_
      by_cases hp2 : d_p σ (p - 1) = 0
      · skip
        rw [show va_rf (c_pa ad (d_p σ (p - 1))) = .null by rw [c_pa0 hp2]; rfl]
        refine p_s rfl rfl ?_
        refine p_goto rfl ?_
        have := ih (i + 1) (d_p σ (p - 1)) _ _ (by omega) hpp (by rw [c_pa0 hp2]) (nI_1 i)
        rw [cntF, if_neg hp0, show i + (cntF (d_p σ) f (d_p σ (p - 1)) + 1) = i + 1 + cntF (d_p σ) f (d_p σ (p - 1)) by omega]
        exact this
      · skip
        rw [show va_rf (c_pa ad (d_p σ (p - 1))) = .ref (ad 0 (d_p σ (p - 1) - 1)) by rw [c_pa1 hp2]; rfl]
        refine p_s rfl rfl ?_
        refine p_goto rfl ?_
        have := ih (i + 1) (d_p σ (p - 1)) _ _ (by omega) hpp (by rw [c_pa1 hp2]) (nI_1 i)
        rw [cntF, if_neg hp0, show i + (cntF (d_p σ) f (d_p σ (p - 1)) + 1) = i + 1 + cntF (d_p σ) f (d_p σ (p - 1)) by omega]
        exact this
set_option maxHeartbeats 2000000 in
theorem c_bel_loop {G : px_G} {ws : va_W} {d : Nat} {ad : Nat → Nat → Nat} {σ : Md} {a : Nat} (h : c_codes ws ad σ) (hp : ∀ i, i < d_n σ → d_p σ i ≤ d_n σ) {cc : Nat} (hcc : cc < d_n σ) (hinj : ∀ i j, i < d_n σ → j < d_n σ → ad 0 i = ad 0 j → i = j) : ∀ (f i p : Nat) (v : Value) (x2 : Int32), i + f = 200 → p ≤ d_n σ → v = va_rf (c_pa ad p) → x2 = nI i → px G m_Cd_isBelow 7 [(3, .int x2), (2, v), (0, .ref a), (1, .ref (ad 0 cc))] [] ws d 0 0 (fun v w => v = some (.int (belF (d_p σ) cc f p)) ∧ w = ws) := by
  intro f
  induction f with
  | zero =>
    intro i p v x2 hif hpn hv h2
    subst h2
    have hi : i = 200 := by omega
    subst hi
    refine p_s rfl rfl ?_
    refine p_s rfl rfl ?_
    refine p_icmpT rfl (show (200 : Int32) ≤ nI 200 by decide) ?_
    refine p_s rfl rfl ?_
    exact p_iret rfl rfl rfl ⟨rfl, rfl⟩
  | succ f ih =>
    intro i p v x2 hif hpn hv h2
    subst h2
    by_cases hp0 : p = 0
    · rw [c_pa0 hp0] at hv
      subst hv
      refine p_s rfl rfl ?_
      refine p_s rfl rfl ?_
      refine p_icmpF rfl (show ¬ (200 : Int32) ≤ nI i by rw [show (200 : Int32) = nI 200 from rfl, nI_leI (by omega) (by omega)]; omega) ?_
      refine p_s rfl rfl ?_
      refine p_ifnull (r := none) rfl (fun _ => ?_) (fun c => absurd rfl c)
      refine p_s rfl rfl ?_
      exact p_iret rfl rfl rfl ⟨by rw [belF, if_pos hp0], rfl⟩
    · rw [c_pa1 hp0] at hv
      subst hv
      have hpi : p - 1 < d_n σ := by omega
      have hpp := hp (p - 1) hpi
      refine p_s rfl rfl ?_
      refine p_s rfl rfl ?_
      refine p_icmpF rfl (show ¬ (200 : Int32) ≤ nI i by rw [show (200 : Int32) = nI 200 from rfl, nI_leI (by omega) (by omega)]; omega) ?_
      refine p_s rfl rfl ?_
      refine p_ifnull (r := some (ad 0 (p - 1))) rfl (fun c => by cases c) (fun _ => ?_)
      refine p_s rfl rfl ?_
      refine p_s rfl rfl ?_
      refine p_acmpneR rfl (fun c => ?_) (fun c => ?_)
      rotate_left
      · have hpc : p = cc + 1 := by have := hinj (p - 1) cc hpi hcc c; omega
        refine p_s rfl rfl ?_
        exact p_iret rfl rfl rfl ⟨by rw [belF, if_neg hp0, if_pos hpc], rfl⟩
      have hpc : ¬ p = cc + 1 := fun z => c (by rw [z]; rfl)
      refine p_s rfl rfl ?_
      refine p_get rfl f_Cd_25 (h (p - 1) hpi).1 rfl ?_
      by_cases hp2 : d_p σ (p - 1) = 0
      · skip
        rw [show va_rf (c_pa ad (d_p σ (p - 1))) = .null by rw [c_pa0 hp2]; rfl]
        refine p_s rfl rfl ?_
        refine p_s rfl rfl ?_
        refine p_goto rfl ?_
        have := ih (i + 1) (d_p σ (p - 1)) _ _ (by omega) hpp (by rw [c_pa0 hp2]) (nI_1 i)
        rw [belF, if_neg hp0, if_neg hpc]
        exact this
      · skip
        rw [show va_rf (c_pa ad (d_p σ (p - 1))) = .ref (ad 0 (d_p σ (p - 1) - 1)) by rw [c_pa1 hp2]; rfl]
        refine p_s rfl rfl ?_
        refine p_s rfl rfl ?_
        refine p_goto rfl ?_
        have := ih (i + 1) (d_p σ (p - 1)) _ _ (by omega) hpp (by rw [c_pa1 hp2]) (nI_1 i)
        rw [belF, if_neg hp0, if_neg hpc]
        exact this
set_option maxHeartbeats 2000000 in
theorem c_isHidden {G : px_G} {ws : va_W} {d : Nat} {ad : Nat → Nat → Nat} {σ : Md}  (h : c_codes ws ad σ) (hp : ∀ i, i < d_n σ → d_p σ i ≤ d_n σ) {i : Nat} (hi : i < d_n σ) : px G m_Cd_isHidden 0 (lv_args 0 [.ref (ad 0 i)]) [] ws (d + 1) 0 0 (fun v w => v = some (.int (hidF (d_A σ) (d_p σ) 200 (d_p σ i))) ∧ w = ws) := by
  have hpp := hp i hi
  refine p_s rfl rfl ?_
  refine p_get rfl f_Cd_25 (h i hi).1 rfl ?_
  by_cases hp2 : d_p σ i = 0
  · rw [show va_rf (c_pa ad (d_p σ i)) = .null by rw [c_pa0 hp2]; rfl]
    refine p_s rfl rfl ?_
    refine p_s rfl rfl ?_
    refine p_s rfl rfl ?_
    exact c_hid_loop h hp 200 0 (d_p σ i) _ _ (by omega) hpp (by rw [c_pa0 hp2]; rfl) rfl
  · rw [show va_rf (c_pa ad (d_p σ i)) = .ref (ad 0 (d_p σ i - 1)) by rw [c_pa1 hp2]; rfl]
    refine p_s rfl rfl ?_
    refine p_s rfl rfl ?_
    refine p_s rfl rfl ?_
    exact c_hid_loop h hp 200 0 (d_p σ i) _ _ (by omega) hpp (by rw [c_pa1 hp2]; rfl) rfl
set_option maxHeartbeats 2000000 in
theorem c_countAbove {G : px_G} {ws : va_W} {d : Nat} {ad : Nat → Nat → Nat} {σ : Md}  (h : c_codes ws ad σ) (hp : ∀ i, i < d_n σ → d_p σ i ≤ d_n σ) {i : Nat} (hi : i < d_n σ) : px G m_Cd_countAbove 0 (lv_args 0 [.ref (ad 0 i)]) [] ws d 0 0 (fun v w => v = some (.int (nI (cntF (d_p σ) 200 (d_p σ i)))) ∧ w = ws) := by
  have hpp := hp i hi
  refine p_s rfl rfl ?_
  refine p_s rfl rfl ?_
  refine p_s rfl rfl ?_
  refine p_get rfl f_Cd_25 (h i hi).1 rfl ?_
  by_cases hp2 : d_p σ i = 0
  · rw [show va_rf (c_pa ad (d_p σ i)) = .null by rw [c_pa0 hp2]; rfl]
    refine p_s rfl rfl ?_
    exact (Nat.zero_add (cntF (d_p σ) 200 (d_p σ i))) ▸ c_above_loop h hp 200 0 (d_p σ i) _ _ (by omega) hpp (by rw [c_pa0 hp2]; rfl) rfl
  · rw [show va_rf (c_pa ad (d_p σ i)) = .ref (ad 0 (d_p σ i - 1)) by rw [c_pa1 hp2]; rfl]
    refine p_s rfl rfl ?_
    exact (Nat.zero_add (cntF (d_p σ) 200 (d_p σ i))) ▸ c_above_loop h hp 200 0 (d_p σ i) _ _ (by omega) hpp (by rw [c_pa1 hp2]; rfl) rfl
set_option maxHeartbeats 2000000 in
theorem c_isBelow {G : px_G} {ws : va_W} {d : Nat} {ad : Nat → Nat → Nat} {σ : Md}  (h : c_codes ws ad σ) (hp : ∀ i, i < d_n σ → d_p σ i ≤ d_n σ) {cc : Nat} (hcc : cc < d_n σ) (hinj : ∀ i j, i < d_n σ → j < d_n σ → ad 0 i = ad 0 j → i = j) {i : Nat} (hi : i < d_n σ) : px G m_Cd_isBelow 0 (lv_args 0 [.ref (ad 0 i), .ref (ad 0 cc)]) [] ws d 0 0 (fun v w => v = some (.int (belF (d_p σ) cc 200 (d_p σ i))) ∧ w = ws) := by
  have hpp := hp i hi
  refine p_s rfl rfl ?_
  refine p_get rfl f_Cd_25 (h i hi).1 rfl ?_
  by_cases hp2 : d_p σ i = 0
  · rw [show va_rf (c_pa ad (d_p σ i)) = .null by rw [c_pa0 hp2]; rfl]
    refine p_s rfl rfl ?_
    refine p_s rfl rfl ?_
    refine p_s rfl rfl ?_
    exact c_bel_loop h hp hcc hinj 200 0 (d_p σ i) _ _ (by omega) hpp (by rw [c_pa0 hp2]; rfl) rfl
  · rw [show va_rf (c_pa ad (d_p σ i)) = .ref (ad 0 (d_p σ i - 1)) by rw [c_pa1 hp2]; rfl]
    refine p_s rfl rfl ?_
    refine p_s rfl rfl ?_
    refine p_s rfl rfl ?_
    exact c_bel_loop h hp hcc hinj 200 0 (d_p σ i) _ _ (by omega) hpp (by rw [c_pa1 hp2]; rfl) rfl
end
section
/-! THE CLASS: lists within the relation; drop -/
/-- the reference's cells -/
def Kr (x : va_E) : Bool := Nat.beq (px_kd x) 7 || (Nat.beq (px_kd x) 1000 || Nat.beq (px_kd x) 5)
theorem Kr_kd {x : va_E} (h : Kr x = true) : px_kd x = 7 ∨ px_kd x = 1000 ∨ px_kd x = 5 := by
  unfold Kr at h
  rcases Bool.or_eq_true_iff.mp h with h | h
  · exact Or.inl (Nat.eq_of_beq_eq_true h)
  · rcases Bool.or_eq_true_iff.mp h with h | h
    · exact Or.inr (Or.inl (Nat.eq_of_beq_eq_true h))
    · exact Or.inr (Or.inr (Nat.eq_of_beq_eq_true h))
theorem px_kp.upn {K : va_E → Bool} {ws : va_W} {q : Nat} {e e' : va_E} (h : px_lk ws q = none) : px_kp K ws (px_up (ws ++ [(q, e)]) q e') := fun b y hy _ => px_keep (px_lk_old _ _ _ _ _ hy) (px_nn hy h)
abbrev WFs (G : px_G) (ws : va_W) : Prop := (∀ (a : Nat) (x : va_E), px_lk ws a = some x → g_lo G ≤ a) ∧ g_sv G 0 < g_lo G
theorem WFs.no {G : px_G} {ws : va_W} (h : WFs G ws) {a : Nat} {x : va_E} (ha : px_lk ws a = some x) : a ≠ g_sv G 0 := fun z => by
  have := h.1 a x ha
  have := h.2
  omega
/-- a cell of another kind isn't one of a list's two -/
theorem lsS_no {G : px_G} {ws : va_W} {L ar b : Nat} {xs : List Nat} {x : va_E} (hw : WFs G ws) (h : LSA G ws L ar xs) (hb : px_lk ws b = some x) (hL : b ≠ L) (h7 : ¬ px_kd x = 1001) : ¬ lsS L ar b := by
  obtain ⟨mc, hl, hmode⟩ := h
  rintro (z | z)
  · exact hL z
  · rcases hmode with ⟨h1, -⟩ | ⟨cap, f, h1, -⟩
    · exact hw.no hb (z.trans h1)
    · rw [z, h1] at hb
      cases hb
      exact h7 rfl
theorem lsS_nk {G : px_G} {ws : va_W} {L ar b : Nat} {xs : List Nat} {x : va_E} (hw : WFs G ws) (h : LSA G ws L ar xs) (hb : px_lk ws b = some x) (h6 : ¬ px_kd x = 6) (h7 : ¬ px_kd x = 1001) : ¬ lsS L ar b := by
  obtain ⟨mc, hl, hmode⟩ := id h
  exact lsS_no hw h hb (px_nek hb hl h6) h7
theorem LSA.kp {G : px_G} {ws w : va_W} {L ar : Nat} {xs : List Nat} (hw : WFs G ws) (h : LSA G ws L ar xs) (hf : px_fr (lsS L ar) ws w) : px_kp Kr ws w := by
  intro b x hb hk
  refine hf b x (lsS_nk hw h hb ?_ ?_) hb
  · rcases Kr_kd hk with h1 | h1 | h1 <;> rw [h1] <;> decide
  · rcases Kr_kd hk with h1 | h1 | h1 <;> rw [h1] <;> decide
/-- another list stays -/
theorem LSA.other {G : px_G} {ws w : va_W} {L ar L2 ar2 : Nat} {xs ys : List Nat} (hw : WFs G ws) (h : LSA G ws L ar xs) (h2 : LSA G ws L2 ar2 ys) (hf : px_fr (lsS L2 ar2) ws w) (hL : L ≠ L2) (hap : ar = ar2 → ar = g_sv G 0) : LSA G w L ar xs := by
  obtain ⟨mc, hl, hmode⟩ := h
  obtain ⟨mc2, hl2, hmode2⟩ := id h2
  refine ⟨mc, hf _ _ (lsS_no hw h2 hl hL (Nat.ne_of_beq_eq_false rfl)) hl, hmode.imp id (fun ⟨cap, f, a1, a2⟩ => ⟨cap, f, hf _ _ ?_ a1, a2⟩)⟩
  rintro (z | z)
  · rw [z, hl2] at a1
    cases a1
  · exact hw.no a1 (hap z)
/-- the relation, with any lists of entries' and displaced codes' cells -/
def CRg (G : px_G) (R : Int32) (ws : va_W) (o : Nat) (ad : Nat → Nat → Nat) (σ : Md) (EA DA : List Nat) : Prop :=
  px_lk ws o = some (oTM (ad 6 1) (ad 6 0) (d_g σ 0) (d_g σ 1) (d_g σ 2) (d_g σ 3)) ∧ px_lk ws (ad 6 0) = some (oMem R (ad 6 3) (ad 6 5)) ∧
  (LSA G ws (ad 6 1) (ad 6 2) ((List.range (d_n σ)).map (ad 0)) ∧ LSA G ws (ad 6 3) (ad 6 4) EA ∧ LSA G ws (ad 6 5) (ad 6 6) DA) ∧ c_sep G ad (d_n σ) (e_c σ) ∧ c_codes ws ad σ ∧ c_ents ws ad (d_e σ)
theorem CR.g {G : px_G} {R : Int32} {ws : va_W} {o : Nat} {ad : Nat → Nat → Nat} {σ : Md} (h : CR G R ws o ad σ) : CRg G R ws o ad σ ((e_c σ).map (ad 3)) ((d_d σ).map (ad 0)) := h
theorem CRg.c {G : px_G} {R : Int32} {ws : va_W} {o : Nat} {ad : Nat → Nat → Nat} {σ : Md} (h : CRg G R ws o ad σ ((e_c σ).map (ad 3)) ((d_d σ).map (ad 0))) : CR G R ws o ad σ := h
def up6 (ad : Nat → Nat → Nat) (j x : Nat) : Nat → Nat → Nat := fun k i => if k = 6 then (if i = j then x else ad 6 i) else ad k i
theorem c_codes.fr {S : Nat → Prop} {ws w : va_W} {ad : Nat → Nat → Nat} {σ : Md} (h : c_codes ws ad σ) (hf : px_fr S ws w) (hS : ∀ b x, px_lk ws b = some x → ¬ px_kd x = 6 → ¬ px_kd x = 1001 → ¬ S b) : c_codes w ad σ := fun i hi => ⟨hf _ _ (hS _ _ (h i hi).1 (Nat.ne_of_beq_eq_false rfl) (Nat.ne_of_beq_eq_false rfl)) (h i hi).1, hf _ _ (hS _ _ (h i hi).2.1 (Nat.ne_of_beq_eq_false rfl) (Nat.ne_of_beq_eq_false rfl)) (h i hi).2.1, hf _ _ (hS _ _ (h i hi).2.2 (Nat.ne_of_beq_eq_false rfl) (Nat.ne_of_beq_eq_false rfl)) (h i hi).2.2⟩
theorem c_ents.fr {S : Nat → Prop} {ws w : va_W} {ad : Nat → Nat → Nat} {es : List En4} (h : c_ents ws ad es) (hf : px_fr S ws w) (hS : ∀ b x, px_lk ws b = some x → ¬ px_kd x = 6 → ¬ px_kd x = 1001 → ¬ S b) : c_ents w ad es := fun i hi => ⟨hf _ _ (hS _ _ (h i hi).1 (Nat.ne_of_beq_eq_false rfl) (Nat.ne_of_beq_eq_false rfl)) (h i hi).1, hf _ _ (hS _ _ (h i hi).2.1 (Nat.ne_of_beq_eq_false rfl) (Nat.ne_of_beq_eq_false rfl)) (h i hi).2.1, hf _ _ (hS _ _ (h i hi).2.2 (Nat.ne_of_beq_eq_false rfl) (Nat.ne_of_beq_eq_false rfl)) (h i hi).2.2⟩
/-- the list of entries has changed, in its own cells alone -/
theorem CRg.l2 {G : px_G} {R : Int32} {ws w : va_W} {o : Nat} {ad : Nat → Nat → Nat} {σ : Md} {EA DA EA' : List Nat} {a2 : Nat} (hw : WFs G ws) (h : CRg G R ws o ad σ EA DA) (hf : px_fr (lsS (ad 6 3) (ad 6 4)) ws w) (ha : a2 = ad 6 4 ∨ px_lk ws a2 = none) (hl : LSA G w (ad 6 3) a2 EA') : CRg G R w o (up6 ad 4 a2) σ EA' DA := by
  obtain ⟨h1, h2, ⟨l1, l2, l3⟩, ⟨⟨s1, s2, s3⟩, ⟨p1, p2, p3⟩, s4⟩, h5, h6⟩ := h
  have hS : ∀ b x, px_lk ws b = some x → ¬ px_kd x = 6 → ¬ px_kd x = 1001 → ¬ lsS (ad 6 3) (ad 6 4) b := fun b x hb h6 h7 => lsS_nk hw l2 hb h6 h7
  have hap : ∀ {L ar : Nat} {xs : List Nat}, LSA G ws L ar xs → (ar = ad 6 4 → ar = g_sv G 0) → (ar = a2 → ar = g_sv G 0) := by
    intro L ar xs hls hh z
    rcases ha with ha | ha
    · exact hh (z.trans ha)
    · obtain ⟨mc, -, hmode⟩ := hls
      rcases hmode with ⟨q, -⟩ | ⟨cap, f, q, -⟩
      · exact q
      · rw [z, ha] at q
        cases q
  exact ⟨hf _ _ (hS _ _ h1 (Nat.ne_of_beq_eq_false rfl) (Nat.ne_of_beq_eq_false rfl)) h1, hf _ _ (hS _ _ h2 (Nat.ne_of_beq_eq_false rfl) (Nat.ne_of_beq_eq_false rfl)) h2, ⟨l1.other hw l2 hf s1 p1, hl, l3.other hw l2 hf (fun z => s3 z.symm) (fun z => z.trans (p3 z.symm))⟩, ⟨⟨s1, s2, s3⟩, ⟨hap l1 p1, p2, fun z => by
    have := hap l3 (fun z => z.trans (p3 z.symm)) z.symm
    exact z.trans this⟩, s4⟩, h5.fr hf hS, h6.fr hf hS⟩
theorem CRg.l3 {G : px_G} {R : Int32} {ws w : va_W} {o : Nat} {ad : Nat → Nat → Nat} {σ : Md} {EA DA DA' : List Nat} {a2 : Nat} (hw : WFs G ws) (h : CRg G R ws o ad σ EA DA) (hf : px_fr (lsS (ad 6 5) (ad 6 6)) ws w) (ha : a2 = ad 6 6 ∨ px_lk ws a2 = none) (hl : LSA G w (ad 6 5) a2 DA') : CRg G R w o (up6 ad 6 a2) σ EA DA' := by
  obtain ⟨h1, h2, ⟨l1, l2, l3⟩, ⟨⟨s1, s2, s3⟩, ⟨p1, p2, p3⟩, s4⟩, h5, h6⟩ := h
  have hS : ∀ b x, px_lk ws b = some x → ¬ px_kd x = 6 → ¬ px_kd x = 1001 → ¬ lsS (ad 6 5) (ad 6 6) b := fun b x hb h6 h7 => lsS_nk hw l3 hb h6 h7
  have hap : ∀ {L ar : Nat} {xs : List Nat}, LSA G ws L ar xs → (ar = ad 6 6 → ar = g_sv G 0) → (ar = a2 → ar = g_sv G 0) := by
    intro L ar xs hls hh z
    rcases ha with ha | ha
    · exact hh (z.trans ha)
    · obtain ⟨mc, -, hmode⟩ := hls
      rcases hmode with ⟨q, -⟩ | ⟨cap, f, q, -⟩
      · exact q
      · rw [z, ha] at q
        cases q
  exact ⟨hf _ _ (hS _ _ h1 (Nat.ne_of_beq_eq_false rfl) (Nat.ne_of_beq_eq_false rfl)) h1, hf _ _ (hS _ _ h2 (Nat.ne_of_beq_eq_false rfl) (Nat.ne_of_beq_eq_false rfl)) h2, ⟨l1.other hw l3 hf s2 p2, l2.other hw l3 hf s3 p3, hl⟩, ⟨⟨s1, s2, s3⟩, ⟨p1, hap l1 p2, hap l2 p3⟩, s4⟩, h5.fr hf hS, h6.fr hf hS⟩
/-- what is in a list is an object -/
theorem CR.obE {G : px_G} {R : Int32} {ws : va_W} {o : Nat} {ad : Nat → Nat → Nat} {σ : Md} (h : CR G R ws o ad σ) : ∀ x ∈ (e_c σ).map (ad 3), px_ob ws x := by
  intro x hx
  obtain ⟨i, hi, rfl⟩ := List.mem_map.mp hx
  obtain ⟨q, hq, rfl⟩ := List.mem_map.mp hi
  exact ⟨_, _, _, _, _, (h.2.2.2.2.2 q hq).1, rfl, w_690⟩
theorem CR.obC {G : px_G} {R : Int32} {ws : va_W} {o : Nat} {ad : Nat → Nat → Nat} {σ : Md} (h : CR G R ws o ad σ) {i : Nat} (hi : i < d_n σ) : px_ob ws (ad 0 i) := ⟨_, _, _, _, _, (h.2.2.2.2.1 i hi).1, rfl, w_687⟩
abbrev stE (σ : Md) (es : List En4) : Md := (d_n σ, d_A σ, d_p σ, es, d_d σ, d_g σ)
def dropE (es : List En4) (i : Nat) : List En4 := es.filter (fun x => !(Nat.beq x.1 i))
theorem dropE_none {es : List En4} {i : Nat} (h : i ∉ es.map (fun x => x.1)) : dropE es i = es := by
  unfold dropE
  rw [List.filter_eq_self]
  intro x hx
  have hne : x.1 ≠ i := fun z => h (List.mem_map.mpr ⟨x, hx, z⟩)
  cases hb : Nat.beq x.1 i with
  | false => rfl
  | true => exact absurd (Nat.eq_of_beq_eq_true hb) hne
theorem dropE_mem {es : List En4} {i : Nat} {x : En4} : x ∈ dropE es i ↔ x ∈ es ∧ x.1 ≠ i := by
  unfold dropE
  rw [List.mem_filter]
  constructor
  · rintro ⟨h1, h2⟩
    refine ⟨h1, fun z => ?_⟩
    rw [z] at h2
    simp at h2
  · rintro ⟨h1, h2⟩
    refine ⟨h1, ?_⟩
    cases hb : Nat.beq x.1 i with
    | false => rfl
    | true => exact absurd (Nat.eq_of_beq_eq_true hb) h2
theorem dropE_erase : ∀ (es : List En4) (i k : Nat), (es.map (fun x => x.1)).Nodup → (es.map (fun x => x.1))[k]? = some i → dropE es i = es.eraseIdx k
  | [], i, k, _, h => by simp at h
  | x :: es, i, 0, hn, h => by
    simp only [List.map_cons, List.getElem?_cons_zero, Option.some.injEq] at h
    rw [List.map_cons, List.nodup_cons] at hn
    show (x :: es).filter _ = es
    rw [List.filter_cons_of_neg (by rw [h]; simp)]
    exact dropE_none (by rw [← h]; exact hn.1)
  | x :: es, i, k + 1, hn, h => by
    rw [List.map_cons, List.getElem?_cons_succ] at h
    rw [List.map_cons, List.nodup_cons] at hn
    have hne : x.1 ≠ i := fun z => hn.1 (by rw [z]; exact List.mem_of_getElem? h)
    have hb : (!(Nat.beq x.1 i)) = true := by
      cases hb : Nat.beq x.1 i with
      | false => rfl
      | true => exact absurd (Nat.eq_of_beq_eq_true hb) hne
    show (x :: es).filter _ = (x :: es).eraseIdx (k + 1)
    rw [List.filter_cons_of_pos (p := fun x : En4 => !(Nat.beq x.1 i)) hb, List.eraseIdx_cons_succ, ← dropE_erase es i k hn.2 h]
    rfl
end
section
/-! THE CLASS: drop -/
theorem nd_inj : ∀ (l : List Nat), l.Nodup → ∀ (i j a : Nat), l[i]? = some a → l[j]? = some a → i = j
  | [], _, i, j, a, h, _ => by simp at h
  | x :: l, hn, i, j, a, h1, h2 => by
    rw [List.nodup_cons] at hn
    cases i with
    | zero =>
      cases j with
      | zero => rfl
      | succ j =>
        rw [List.getElem?_cons_zero] at h1
        rw [List.getElem?_cons_succ] at h2
        cases h1
        exact absurd (List.mem_of_getElem? h2) hn.1
    | succ i =>
      cases j with
      | zero =>
        rw [List.getElem?_cons_zero] at h2
        rw [List.getElem?_cons_succ] at h1
        cases h2
        exact absurd (List.mem_of_getElem? h1) hn.1
      | succ j =>
        rw [List.getElem?_cons_succ] at h1 h2
        rw [nd_inj l hn.2 i j a h1 h2]
theorem up6_self {ad : Nat → Nat → Nat} (j : Nat) : up6 ad j (ad 6 j) = ad := by
  funext k i
  unfold up6
  by_cases hk : k = 6
  · rw [if_pos hk]
    by_cases hi : i = j
    · rw [if_pos hi, hk, hi]
    · rw [if_neg hi, hk]
  · rw [if_neg hk]
theorem er_map {α β : Type} (f : α → β) : ∀ (l : List α) (k : Nat), (l.map f).eraseIdx k = (l.eraseIdx k).map f
  | [], _ => rfl
  | _ :: _, 0 => rfl
  | x :: l, k + 1 => by
    rw [List.map_cons, List.eraseIdx_cons_succ, List.eraseIdx_cons_succ, List.map_cons, er_map f l k]
theorem dropE_codes {es : List En4} {i j : Nat} : j ∈ (dropE es i).map (fun x => x.1) ↔ j ∈ es.map (fun x => x.1) ∧ j ≠ i := by
  constructor
  · intro h
    obtain ⟨x, hx, rfl⟩ := List.mem_map.mp h
    obtain ⟨h1, h2⟩ := dropE_mem.mp hx
    exact ⟨List.mem_map.mpr ⟨x, h1, rfl⟩, h2⟩
  · rintro ⟨h1, h2⟩
    obtain ⟨x, hx, rfl⟩ := List.mem_map.mp h1
    exact List.mem_map.mpr ⟨x, dropE_mem.mpr ⟨hx, h2⟩, rfl⟩
theorem c_en_in {ad : Nat → Nat → Nat} {es : List Nat} {i : Nat} (h : i ∈ es) : c_en ad es i = some (ad 3 i) := if_pos h
theorem c_en_out {ad : Nat → Nat → Nat} {es : List Nat} {i : Nat} (h : i ∉ es) : c_en ad es i = none := if_neg h
/-- behind the taking out of the list: the code's own cell forgets its entry -/
theorem CRg.dropped {G : px_G} {R : Int32} {ws : va_W} {o : Nat} {ad : Nat → Nat → Nat} {σ : Md} {i : Nat} {EA : List Nat} (h : CRg G R ws o ad σ EA ((d_d σ).map (ad 0))) (hi : i < d_n σ) (hE : EA = ((dropE (d_e σ) i).map (fun x => x.1)).map (ad 3)) : CR G R (px_up ws (ad 0 i) (c_cd ad (stE σ (dropE (d_e σ) i)) i)) o ad (stE σ (dropE (d_e σ) i)) := by
  subst hE
  obtain ⟨h1, h2, hl, ⟨q1, q2, s0, q4, q5, q6, s7⟩, h5, h6⟩ := h
  have hx := (h5 i hi).1
  have hl : c_lists G ws ad (d_n σ) ((dropE (d_e σ) i).map (fun x => x.1)) (d_d σ) := hl
  have h6' : c_ents ws ad (dropE (d_e σ) i) := fun x hx => h6 x (dropE_mem.mp hx).1
  refine ⟨px_keepK hx h1 (Nat.ne_of_beq_eq_false rfl), px_keepK hx h2 (Nat.ne_of_beq_eq_false rfl), hl.up hx (Nat.ne_of_beq_eq_false rfl) (Nat.ne_of_beq_eq_false rfl), ⟨q1, q2, s0, q4, q5, q6, fun a b ha hb => s7 a b (dropE_codes.mp ha).1 (dropE_codes.mp hb).1⟩, fun j hj => ⟨?_, px_keepK hx (h5 j hj).2.1 (Nat.ne_of_beq_eq_false rfl), px_keepK hx (h5 j hj).2.2 (Nat.ne_of_beq_eq_false rfl)⟩, h6'.up hx (Nat.ne_of_beq_eq_false rfl) (Nat.ne_of_beq_eq_false rfl)⟩
  by_cases hji : j = i
  · subst hji
    exact px_lk_same _ _ _ _ hx
  · have he : c_en ad (e_c (stE σ (dropE (d_e σ) i))) j = c_en ad (e_c σ) j := by
      by_cases hm : j ∈ e_c σ
      · rw [c_en_in hm]
        exact c_en_in (dropE_codes.mpr ⟨hm, hji⟩)
      · rw [c_en_out hm]
        exact c_en_out (fun z => hm (dropE_codes.mp z).1)
    show px_lk _ (ad 0 j) = some (oCd _ _ _ _ _ _ _ _ (c_en ad (e_c (stE σ (dropE (d_e σ) i))) j))
    rw [he]
    exact px_keep (h5 j hj).1 (fun z => hji (s0 j i hj hi z))
set_option maxHeartbeats 2000000 in
theorem c_drop_loop {G : px_G} {ws : va_W} {d : Nat} {R : Int32} {o : Nat} {ad : Nat → Nat → Nat} {σ : Md} (h : CR G R ws o ad σ) (hw : WFs G ws) (hnd : (e_c σ).Nodup) (hlen : (e_c σ).length ≤ 512) {i k : Nat} (hi : i < d_n σ) (hk : (e_c σ)[k]? = some i) : ∀ (f j : Nat) (x2 : Int32), j + f = k → x2 = nI j → px G m_Mem_drop 10 [(2, .int x2), (0, .ref (ad 6 0)), (1, .ref (ad 0 i))] [] ws (d + 3) 0 0 (fun v w => v = none ∧ CR G R w o ad (stE σ (dropE (d_e σ) i)) ∧ px_kp Kr ws w) := by
  have hL2 := h.2.2.1.2.1
  obtain ⟨sz, mc, hL2c⟩ := hL2.cell
  have hkl : k < (e_c σ).length := (List.getElem?_eq_some_iff.mp hk).1
  have him : i ∈ e_c σ := List.mem_of_getElem? hk
  have hen : c_en ad (e_c σ) i = some (ad 3 i) := c_en_in him
  have hci := (h.2.2.2.2.1 i hi).1
  intro f
  induction f with
  | zero =>
    intro j x2 hjf h2
    subst h2
    have hjk : j = k := by omega
    subst hjk
    refine p_s rfl rfl ?_
    refine p_s rfl rfl ?_
    refine p_get rfl f_Mem_12 h.2.1 rfl ?_
    refine p_callV rfl c_Mem_37 rfl hL2c g_AL_size rfl rfl rfl (c_size hL2) (fun v w hq => ?_)
    obtain ⟨rfl, rfl⟩ := hq
    refine p_icmpF rfl (show ¬ nI ((e_c σ).map (ad 3)).length ≤ nI j by rw [List.length_map]; exact nI_ge (by omega) (by omega)) ?_
    refine p_s rfl rfl ?_
    refine p_get rfl f_Mem_12 h.2.1 rfl ?_
    refine p_s rfl rfl ?_
    refine p_callV rfl c_Mem_52 rfl hL2c g_AL_get rfl rfl rfl (c_get (i := j) (y := ad 3 i) hL2 (by rw [List.getElem?_map, hk]; rfl)) (fun v w hq => ?_)
    obtain ⟨rfl, rfl⟩ := hq
    refine p_s rfl rfl ?_
    refine p_get rfl f_Mem_25 hci rfl ?_
    rw [hen]
    refine p_acmpneR rfl (fun c => absurd rfl c) (fun _ => ?_)
    refine p_s rfl rfl ?_
    refine p_get rfl f_Mem_12 h.2.1 rfl ?_
    refine p_s rfl rfl ?_
    refine p_callV rfl c_Mem_71 rfl hL2c g_AL_remove rfl rfl rfl (c_remove hL2 (by rw [List.length_map]; omega) h.obE) (fun v w hq => ?_)
    obtain ⟨⟨y, rfl⟩, hl2, hf2⟩ := hq
    have hg := CRg.l2 hw h.g hf2 (Or.inl rfl) hl2
    rw [up6_self] at hg
    have hkp := hL2.kp hw hf2
    have hE : ((e_c σ).map (ad 3)).eraseIdx j = ((dropE (d_e σ) i).map (fun x => x.1)).map (ad 3) := by
      rw [dropE_erase (d_e σ) i j hnd hk, er_map, er_map]
    refine p_s rfl rfl ?_
    refine p_goto rfl ?_
    refine p_s rfl rfl ?_
    refine p_s rfl rfl ?_
    refine p_put rfl fp_Mem_25 (hg.2.2.2.2.1 i hi).1 rfl rfl (by exact Nat.le_of_ble_eq_true rfl) ?_
    refine p_vret rfl rfl ⟨rfl, ?_, hkp.tr (px_kp.up (hg.2.2.2.2.1 i hi).1 rfl)⟩
    have hfin := hg.dropped hi hE
    have hno : c_en ad (e_c (stE σ (dropE (d_e σ) i))) i = none := c_en_out (fun z => (dropE_codes.mp z).2 rfl)
    rw [show c_cd ad (stE σ (dropE (d_e σ) i)) i = oCd (nI (i + 1)) (d_A σ 0 i) (d_A σ 1 i) (d_A σ 2 i) (ad 1 i) (ad 2 i) (d_A σ 11 i) (c_pa ad (d_p σ i)) none by show oCd _ _ _ _ _ _ _ _ (c_en ad (e_c (stE σ (dropE (d_e σ) i))) i) = _; rw [hno]] at hfin
    exact hfin
  | succ f ih =>
    intro j x2 hjf h2
    subst h2
    have hjl : j < (e_c σ).length := by omega
    obtain ⟨c2, hc2⟩ : ∃ c2, (e_c σ)[j]? = some c2 := ⟨_, List.getElem?_eq_getElem hjl⟩
    have hne : c2 ≠ i := by
      intro z
      rw [z] at hc2
      have := nd_inj (e_c σ) hnd j k i hc2 hk
      omega
    refine p_s rfl rfl ?_
    refine p_s rfl rfl ?_
    refine p_get rfl f_Mem_12 h.2.1 rfl ?_
    refine p_callV rfl c_Mem_37 rfl hL2c g_AL_size rfl rfl rfl (c_size hL2) (fun v w hq => ?_)
    obtain ⟨rfl, rfl⟩ := hq
    refine p_icmpF rfl (show ¬ nI ((e_c σ).map (ad 3)).length ≤ nI j by rw [List.length_map]; exact nI_ge (by omega) (by omega)) ?_
    refine p_s rfl rfl ?_
    refine p_get rfl f_Mem_12 h.2.1 rfl ?_
    refine p_s rfl rfl ?_
    refine p_callV rfl c_Mem_52 rfl hL2c g_AL_get rfl rfl rfl (c_get (i := j) (y := ad 3 c2) hL2 (by rw [List.getElem?_map, hc2]; rfl)) (fun v w hq => ?_)
    obtain ⟨rfl, rfl⟩ := hq
    refine p_s rfl rfl ?_
    refine p_get rfl f_Mem_25 hci rfl ?_
    rw [hen]
    refine p_acmpneR rfl (fun _ => ?_) (fun c => absurd (h.2.2.2.1.2.2.2.2.2.2 c2 i (List.mem_of_getElem? hc2) him c) hne)
    refine p_s rfl rfl ?_
    refine p_goto rfl ?_
    exact ih (j + 1) _ (by omega) (nI_1 j)
set_option maxHeartbeats 2000000 in
theorem c_drop {G : px_G} {ws : va_W} {d : Nat} {R : Int32} {o : Nat} {ad : Nat → Nat → Nat} {σ : Md} (h : CR G R ws o ad σ) (hnd : (e_c σ).Nodup) (hlen : (e_c σ).length ≤ 512) {i : Nat} (hi : i < d_n σ) : px G m_Mem_drop 0 (lv_args 0 [.ref (ad 6 0), .ref (ad 0 i)]) [] ws (d + 3) 0 0 (fun v w => v = none ∧ CR G R w o ad (stE σ (dropE (d_e σ) i)) ∧ px_kp Kr ws w) := by
  refine p_wf (fun hw => ?_)
  have hci := (h.2.2.2.2.1 i hi).1
  by_cases him : i ∈ e_c σ
  · obtain ⟨k, hk⟩ := List.getElem?_of_mem him
    refine p_s rfl rfl ?_
    refine p_get rfl f_Mem_25 hci rfl ?_
    rw [c_en_in him]
    refine p_ifnonnull (r := some (ad 3 i)) rfl (fun _ => ?_) (fun c => by cases c)
    refine p_s rfl rfl ?_
    refine p_s rfl rfl ?_
    exact c_drop_loop h hw hnd hlen hi hk k 0 _ (by omega) rfl
  · refine p_s rfl rfl ?_
    refine p_get rfl f_Mem_25 hci rfl ?_
    rw [c_en_out him]
    refine p_ifnonnull (r := none) rfl (fun c => absurd rfl c) (fun _ => ?_)
    exact p_vret rfl rfl ⟨rfl, by rw [dropE_none him]; exact h, px_kp.rf⟩
end
section
/-! THE CLASS: which entry goes -/
abbrev mayE (A : Nat → Nat → Int32) (c x : Nat) : Prop := A 0 c < A 0 x ∨ (A 0 x = A 0 c ∧ sHas (A 3 x) 1 = 0)
abbrev befE (A : Nat → Nat → Int32) (x y : Nat) : Prop := A 0 y < A 0 x ∨ (A 0 x = A 0 y ∧ sHas (A 3 x) 1 = 0 ∧ ¬ sHas (A 3 y) 1 = 0)
def vicS (A : Nat → Nat → Int32) (c : Nat) (g : Option Nat) (x : Nat) : Option Nat := match g with
  | none => if mayE A c x then some x else none
  | some y => if mayE A c x ∧ befE A x y then some x else some y
def vicF (A : Nat → Nat → Int32) (c : Nat) : Option Nat → List Nat → Option Nat
  | g, [] => g
  | g, x :: l => vicF A c (vicS A c g x) l
theorem vicF_mem {A : Nat → Nat → Int32} {c : Nat} : ∀ (l : List Nat) (g : Option Nat) (y : Nat), vicF A c g l = some y → g = some y ∨ y ∈ l
  | [], g, y, h => Or.inl h
  | x :: l, g, y, h => by
    rcases vicF_mem l _ y h with h1 | h1
    · cases g with
      | none =>
        simp only [vicS] at h1
        split at h1
        · cases h1
          exact Or.inr List.mem_cons_self
        · cases h1
      | some z =>
        simp only [vicS] at h1
        split at h1
        · cases h1
          exact Or.inr List.mem_cons_self
        · exact Or.inl h1
    · exact Or.inr (List.mem_cons_of_mem _ h1)
abbrev stD (σ : Md) (ds : List Nat) : Md := (d_n σ, d_A σ, d_p σ, d_e σ, ds, d_g σ)
/-- addresses stay, but for the lists' arrays -/
def AdS (ad ad' : Nat → Nat → Nat) : Prop := (∀ k i, k ≠ 6 → ad' k i = ad k i) ∧ ∀ j, j ≠ 2 → j ≠ 4 → j ≠ 6 → ad' 6 j = ad 6 j
theorem AdS.rf {ad : Nat → Nat → Nat} : AdS ad ad := ⟨fun _ _ _ => rfl, fun _ _ _ _ => rfl⟩
theorem AdS.tr {a b c : Nat → Nat → Nat} (h1 : AdS a b) (h2 : AdS b c) : AdS a c := ⟨fun k i hk => (h2.1 k i hk).trans (h1.1 k i hk), fun j x y z => (h2.2 j x y z).trans (h1.2 j x y z)⟩
theorem AdS.u {ad : Nat → Nat → Nat} {j x : Nat} (hj : j = 2 ∨ j = 4 ∨ j = 6) : AdS ad (up6 ad j x) := by
  refine ⟨fun k i hk => if_neg hk, fun i h1 h2 h3 => ?_⟩
  show (if (6 : Nat) = 6 then _ else _) = _
  rw [if_pos rfl, if_neg (by omega)]
theorem CR.entOf {G : px_G} {R : Int32} {ws : va_W} {o : Nat} {ad : Nat → Nat → Nat} {σ : Md} (h : CR G R ws o ad σ) {x : Nat} (hx : x ∈ e_c σ) : ∃ hp, px_lk ws (ad 3 x) = some (oEn (ad 0 x) (ad 4 x) (ad 5 x) hp) := by
  obtain ⟨q, hq, rfl⟩ := List.mem_map.mp hx
  exact ⟨_, (h.2.2.2.2.2 q hq).1⟩
set_option maxHeartbeats 4000000 in
theorem c_vic_loop {G : px_G} {ws : va_W} {d : Nat} {R : Int32} {o : Nat} {ad : Nat → Nat → Nat} {σ : Md} (h : CR G R ws o ad σ) (hen : ∀ x ∈ e_c σ, x < d_n σ) (hlen : (e_c σ).length ≤ 512) {c : Nat} (hc : c < d_n σ) {bc bs : Nat} {Q : Option Value → va_W → Prop} (hK : ∀ (V : Value) (x3 : Int32), V = va_rf ((vicF (d_A σ) c none (e_c σ)).map (ad 3)) → px G m_Mem_displaceFor 59 [(3, .int x3), (2, V), (0, .ref (ad 6 0)), (1, .ref (ad 0 c))] [] ws (d + 7) bc bs Q) : ∀ (l : List Nat) (j : Nat) (g : Option Nat) (V : Value) (x3 : Int32), (e_c σ).drop j = l → j < 2 ^ 31 → vicF (d_A σ) c g l = vicF (d_A σ) c none (e_c σ) → (∀ y, g = some y → y ∈ e_c σ) → V = va_rf (g.map (ad 3)) → x3 = nI j → px G m_Mem_displaceFor 4 [(3, .int x3), (2, V), (0, .ref (ad 6 0)), (1, .ref (ad 0 c))] [] ws (d + 7) bc bs Q := by
  have hL2 := h.2.2.1.2.1
  obtain ⟨sz, mc, hL2c⟩ := hL2.cell
  have hcc := (h.2.2.2.2.1 c hc).1
  intro l
  induction l with
  | nil =>
    intro j g V x3 hd hjb hv hg hV h3
    subst h3
    have hj : (e_c σ).length ≤ j := List.drop_eq_nil_iff.mp hd
    rw [show vicF (d_A σ) c g [] = g from rfl] at hv
    refine p_s rfl rfl ?_
    refine p_s rfl rfl ?_
    refine p_get rfl f_Mem_12 h.2.1 rfl ?_
    refine p_callV rfl c_Mem_37 rfl hL2c g_AL_size rfl rfl rfl (c_size hL2) (fun v w hq => ?_)
    obtain ⟨rfl, rfl⟩ := hq
    refine p_icmpT rfl (show nI ((e_c σ).map (ad 3)).length ≤ nI j by rw [List.length_map]; exact (nI_leI (by omega) hjb).mpr hj) ?_
    exact hK V _ (by rw [hV, hv])
  | cons x l ih =>
    intro j g V x3 hd hjb hv hg hV h3
    subst h3
    have hjl : j < (e_c σ).length := by
      apply Nat.not_le.mp
      intro z
      rw [List.drop_eq_nil_iff.mpr z] at hd
      cases hd
    have hxj : (e_c σ)[j]? = some x := by
      have := congrArg (fun q => q[0]?) hd
      simp only [List.getElem?_drop, Nat.add_zero, List.getElem?_cons_zero] at this
      exact this
    have hd2 : (e_c σ).drop (j + 1) = l := by
      have := congrArg (fun q => q.drop 1) hd
      simp only [List.drop_drop, List.drop_succ_cons, List.drop_zero] at this
      exact this
    have hxm : x ∈ e_c σ := List.mem_of_getElem? hxj
    have hxn := hen x hxm
    have hv2 : vicF (d_A σ) c (vicS (d_A σ) c g x) l = vicF (d_A σ) c none (e_c σ) := hv
    obtain ⟨hp, hent⟩ := h.entOf hxm
    have hxc := h.2.2.2.2.1 x hxn
    cases g with
    | none =>
      subst hV
      by_cases hm : mayE (d_A σ) c x
      · skip
        refine p_s rfl rfl ?_
        refine p_s rfl rfl ?_
        refine p_get rfl f_Mem_12 h.2.1 rfl ?_
        refine p_callV rfl c_Mem_37 rfl hL2c g_AL_size rfl rfl rfl (c_size hL2) (fun v w hq => ?_)
        obtain ⟨rfl, rfl⟩ := hq
        refine p_icmpF rfl (show ¬ nI ((e_c σ).map (ad 3)).length ≤ nI j by rw [List.length_map]; exact nI_ge hjl (by omega)) ?_
        refine p_s rfl rfl ?_
        refine p_get rfl f_Mem_12 h.2.1 rfl ?_
        refine p_s rfl rfl ?_
        refine p_callV rfl c_Mem_52 rfl hL2c g_AL_get rfl rfl rfl (c_get (i := j) (y := ad 3 x) hL2 (by rw [List.getElem?_map, hxj]; rfl)) (fun v w hq => ?_)
        obtain ⟨rfl, rfl⟩ := hq
        refine p_castS rfl cs_Mem_32 hent ?_
        refine p_s rfl rfl ?_
        refine p_s rfl rfl ?_
        refine p_s rfl rfl ?_
        refine p_callV rfl c_Mem_56 rfl hent g_En_mayGoFor rfl rfl rfl (c_mayGoFor hent hxc.1 hxc.2.1 hcc) (fun v w hq => ?_)
        obtain ⟨rfl, rfl⟩ := hq
        rw [if_pos hm]
        refine p_ifF rfl (show ¬ (1 : Int32) = 0 by decide) ?_
        refine p_s rfl rfl ?_
        refine p_ifnull (r := none) rfl (fun _ => ?_) (fun c => absurd rfl c)
        refine p_s rfl rfl ?_
        refine p_s rfl rfl ?_
        refine p_s rfl rfl ?_
        refine p_goto rfl ?_
        refine p_lv (lv2 := [(3, .int (nI j + 1)), (2, .ref (ad 3 x)), (0, .ref (ad 6 0)), (1, .ref (ad 0 c))]) (ks := [0, 1, 3, 4]) rfl ?_
        exact ih (j + 1) (some x) _ _ hd2 (by omega) (by rw [← hv2]; rw [show vicS (d_A σ) c none x = some x from if_pos hm]) (fun y z => by cases z; exact hxm) rfl (nI_1 j)
      · skip
        refine p_s rfl rfl ?_
        refine p_s rfl rfl ?_
        refine p_get rfl f_Mem_12 h.2.1 rfl ?_
        refine p_callV rfl c_Mem_37 rfl hL2c g_AL_size rfl rfl rfl (c_size hL2) (fun v w hq => ?_)
        obtain ⟨rfl, rfl⟩ := hq
        refine p_icmpF rfl (show ¬ nI ((e_c σ).map (ad 3)).length ≤ nI j by rw [List.length_map]; exact nI_ge hjl (by omega)) ?_
        refine p_s rfl rfl ?_
        refine p_get rfl f_Mem_12 h.2.1 rfl ?_
        refine p_s rfl rfl ?_
        refine p_callV rfl c_Mem_52 rfl hL2c g_AL_get rfl rfl rfl (c_get (i := j) (y := ad 3 x) hL2 (by rw [List.getElem?_map, hxj]; rfl)) (fun v w hq => ?_)
        obtain ⟨rfl, rfl⟩ := hq
        refine p_castS rfl cs_Mem_32 hent ?_
        refine p_s rfl rfl ?_
        refine p_s rfl rfl ?_
        refine p_s rfl rfl ?_
        refine p_callV rfl c_Mem_56 rfl hent g_En_mayGoFor rfl rfl rfl (c_mayGoFor hent hxc.1 hxc.2.1 hcc) (fun v w hq => ?_)
        obtain ⟨rfl, rfl⟩ := hq
        rw [if_neg hm]
        refine p_ifT rfl (show (0 : Int32) = 0 from rfl) ?_
        refine p_s rfl rfl ?_
        refine p_goto rfl ?_
        refine p_lv (lv2 := [(3, .int (nI j + 1)), (2, .null), (0, .ref (ad 6 0)), (1, .ref (ad 0 c))]) (ks := [0, 2, 3, 4]) rfl ?_
        exact ih (j + 1) none _ _ hd2 (by omega) (by rw [← hv2]; rw [show vicS (d_A σ) c none x = none from if_neg hm]) (fun y z => by cases z) rfl (nI_1 j)
    | some y =>
      subst hV
      have hym := hg y rfl
      have hyn := hen y hym
      obtain ⟨hp2, hent2⟩ := h.entOf hym
      have hyc := h.2.2.2.2.1 y hyn
      by_cases hm : mayE (d_A σ) c x
      · by_cases hb : befE (d_A σ) x y
        · skip
          refine p_s rfl rfl ?_
          refine p_s rfl rfl ?_
          refine p_get rfl f_Mem_12 h.2.1 rfl ?_
          refine p_callV rfl c_Mem_37 rfl hL2c g_AL_size rfl rfl rfl (c_size hL2) (fun v w hq => ?_)
          obtain ⟨rfl, rfl⟩ := hq
          refine p_icmpF rfl (show ¬ nI ((e_c σ).map (ad 3)).length ≤ nI j by rw [List.length_map]; exact nI_ge hjl (by omega)) ?_
          refine p_s rfl rfl ?_
          refine p_get rfl f_Mem_12 h.2.1 rfl ?_
          refine p_s rfl rfl ?_
          refine p_callV rfl c_Mem_52 rfl hL2c g_AL_get rfl rfl rfl (c_get (i := j) (y := ad 3 x) hL2 (by rw [List.getElem?_map, hxj]; rfl)) (fun v w hq => ?_)
          obtain ⟨rfl, rfl⟩ := hq
          refine p_castS rfl cs_Mem_32 hent ?_
          refine p_s rfl rfl ?_
          refine p_s rfl rfl ?_
          refine p_s rfl rfl ?_
          refine p_callV rfl c_Mem_56 rfl hent g_En_mayGoFor rfl rfl rfl (c_mayGoFor hent hxc.1 hxc.2.1 hcc) (fun v w hq => ?_)
          obtain ⟨rfl, rfl⟩ := hq
          rw [if_pos hm]
          refine p_ifF rfl (show ¬ (1 : Int32) = 0 by decide) ?_
          refine p_s rfl rfl ?_
          refine p_ifnull (r := some (ad 3 y)) rfl (fun c => by cases c) (fun _ => ?_)
          refine p_s rfl rfl ?_
          refine p_s rfl rfl ?_
          refine p_callV rfl c_Mem_59 rfl hent g_En_goesBefore rfl rfl rfl (c_goesBefore hent hent2 hxc.1 hxc.2.1 hyc.1 hyc.2.1) (fun v w hq => ?_)
          obtain ⟨rfl, rfl⟩ := hq
          rw [if_pos hb]
          refine p_ifF rfl (show ¬ (1 : Int32) = 0 by decide) ?_
          refine p_s rfl rfl ?_
          refine p_s rfl rfl ?_
          refine p_s rfl rfl ?_
          refine p_goto rfl ?_
          refine p_lv (lv2 := [(3, .int (nI j + 1)), (2, .ref (ad 3 x)), (0, .ref (ad 6 0)), (1, .ref (ad 0 c))]) (ks := [0, 1, 3, 4]) rfl ?_
          exact ih (j + 1) (some x) _ _ hd2 (by omega) (by rw [← hv2]; rw [show vicS (d_A σ) c (some y) x = some x from if_pos ⟨hm, hb⟩]) (fun y z => by cases z; exact hxm) rfl (nI_1 j)
        · skip
          refine p_s rfl rfl ?_
          refine p_s rfl rfl ?_
          refine p_get rfl f_Mem_12 h.2.1 rfl ?_
          refine p_callV rfl c_Mem_37 rfl hL2c g_AL_size rfl rfl rfl (c_size hL2) (fun v w hq => ?_)
          obtain ⟨rfl, rfl⟩ := hq
          refine p_icmpF rfl (show ¬ nI ((e_c σ).map (ad 3)).length ≤ nI j by rw [List.length_map]; exact nI_ge hjl (by omega)) ?_
          refine p_s rfl rfl ?_
          refine p_get rfl f_Mem_12 h.2.1 rfl ?_
          refine p_s rfl rfl ?_
          refine p_callV rfl c_Mem_52 rfl hL2c g_AL_get rfl rfl rfl (c_get (i := j) (y := ad 3 x) hL2 (by rw [List.getElem?_map, hxj]; rfl)) (fun v w hq => ?_)
          obtain ⟨rfl, rfl⟩ := hq
          refine p_castS rfl cs_Mem_32 hent ?_
          refine p_s rfl rfl ?_
          refine p_s rfl rfl ?_
          refine p_s rfl rfl ?_
          refine p_callV rfl c_Mem_56 rfl hent g_En_mayGoFor rfl rfl rfl (c_mayGoFor hent hxc.1 hxc.2.1 hcc) (fun v w hq => ?_)
          obtain ⟨rfl, rfl⟩ := hq
          rw [if_pos hm]
          refine p_ifF rfl (show ¬ (1 : Int32) = 0 by decide) ?_
          refine p_s rfl rfl ?_
          refine p_ifnull (r := some (ad 3 y)) rfl (fun c => by cases c) (fun _ => ?_)
          refine p_s rfl rfl ?_
          refine p_s rfl rfl ?_
          refine p_callV rfl c_Mem_59 rfl hent g_En_goesBefore rfl rfl rfl (c_goesBefore hent hent2 hxc.1 hxc.2.1 hyc.1 hyc.2.1) (fun v w hq => ?_)
          obtain ⟨rfl, rfl⟩ := hq
          rw [if_neg hb]
          refine p_ifT rfl (show (0 : Int32) = 0 from rfl) ?_
          refine p_s rfl rfl ?_
          refine p_goto rfl ?_
          refine p_lv (lv2 := [(3, .int (nI j + 1)), (2, .ref (ad 3 y)), (0, .ref (ad 6 0)), (1, .ref (ad 0 c))]) (ks := [0, 2, 3, 4]) rfl ?_
          exact ih (j + 1) (some y) _ _ hd2 (by omega) (by rw [← hv2]; rw [show vicS (d_A σ) c (some y) x = some y from if_neg (fun z => hb z.2)]) (fun y z => hg y z) rfl (nI_1 j)
      · skip
        refine p_s rfl rfl ?_
        refine p_s rfl rfl ?_
        refine p_get rfl f_Mem_12 h.2.1 rfl ?_
        refine p_callV rfl c_Mem_37 rfl hL2c g_AL_size rfl rfl rfl (c_size hL2) (fun v w hq => ?_)
        obtain ⟨rfl, rfl⟩ := hq
        refine p_icmpF rfl (show ¬ nI ((e_c σ).map (ad 3)).length ≤ nI j by rw [List.length_map]; exact nI_ge hjl (by omega)) ?_
        refine p_s rfl rfl ?_
        refine p_get rfl f_Mem_12 h.2.1 rfl ?_
        refine p_s rfl rfl ?_
        refine p_callV rfl c_Mem_52 rfl hL2c g_AL_get rfl rfl rfl (c_get (i := j) (y := ad 3 x) hL2 (by rw [List.getElem?_map, hxj]; rfl)) (fun v w hq => ?_)
        obtain ⟨rfl, rfl⟩ := hq
        refine p_castS rfl cs_Mem_32 hent ?_
        refine p_s rfl rfl ?_
        refine p_s rfl rfl ?_
        refine p_s rfl rfl ?_
        refine p_callV rfl c_Mem_56 rfl hent g_En_mayGoFor rfl rfl rfl (c_mayGoFor hent hxc.1 hxc.2.1 hcc) (fun v w hq => ?_)
        obtain ⟨rfl, rfl⟩ := hq
        rw [if_neg hm]
        refine p_ifT rfl (show (0 : Int32) = 0 from rfl) ?_
        refine p_s rfl rfl ?_
        refine p_goto rfl ?_
        refine p_lv (lv2 := [(3, .int (nI j + 1)), (2, .ref (ad 3 y)), (0, .ref (ad 6 0)), (1, .ref (ad 0 c))]) (ks := [0, 2, 3, 4]) rfl ?_
        exact ih (j + 1) (some y) _ _ hd2 (by omega) (by rw [← hv2]; rw [show vicS (d_A σ) c (some y) x = some y from if_neg (fun z => hm z.1)]) (fun y z => hg y z) rfl (nI_1 j)
end
section
/-! THE CLASS: displaceFor -/
def dspA (ds : List Nat) (x : Nat) : List Nat := if ds.length < 500 then ds ++ [x] else ds
set_option maxHeartbeats 2000000 in
theorem c_displaceN {G : px_G} {ws : va_W} {d : Nat} {R : Int32} {o : Nat} {ad : Nat → Nat → Nat} {σ : Md} (h : CR G R ws o ad σ) (hen : ∀ x ∈ e_c σ, x < d_n σ) (hlen : (e_c σ).length ≤ 500) (hnd : (e_c σ).Nodup) (hdn : ∀ x ∈ d_d σ, x < d_n σ) {c : Nat} (hc : c < d_n σ) (hv : vicF (d_A σ) c none (e_c σ) = none) {bc bs : Nat} : px G m_Mem_displaceFor 0 (lv_args 0 [.ref (ad 6 0), .ref (ad 0 c)]) [] ws (d + 7) bc bs (fun v w => v = some (.int 0) ∧ w = ws) := by
  refine p_s rfl rfl ?_
  refine p_s rfl rfl ?_
  refine p_s rfl rfl ?_
  refine p_s rfl rfl ?_
  refine c_vic_loop h hen (by omega) hc (fun V x3 hV => ?_) (e_c σ) 0 none .null 0 rfl (by decide) rfl (fun y z => by cases z) rfl rfl
  rw [hv] at hV
  subst hV
  refine p_s rfl rfl ?_
  refine p_ifnonnull (r := none) rfl (fun c => absurd rfl c) (fun _ => ?_)
  refine p_s rfl rfl ?_
  exact p_iret rfl rfl rfl ⟨rfl, rfl⟩
theorem CR.obD {G : px_G} {R : Int32} {ws : va_W} {o : Nat} {ad : Nat → Nat → Nat} {σ : Md} (h : CR G R ws o ad σ) (hdn : ∀ x ∈ d_d σ, x < d_n σ) : ∀ x ∈ (d_d σ).map (ad 0), px_ob ws x := by
  intro x hx
  obtain ⟨i, hi, rfl⟩ := List.mem_map.mp hx
  exact h.obC (hdn i hi)
set_option maxHeartbeats 2000000 in
theorem c_displaceS {G : px_G} {ws : va_W} {d : Nat} {R : Int32} {o : Nat} {ad : Nat → Nat → Nat} {σ : Md} (h : CR G R ws o ad σ) (hen : ∀ x ∈ e_c σ, x < d_n σ) (hlen : (e_c σ).length ≤ 500) (hnd : (e_c σ).Nodup) (hdn : ∀ x ∈ d_d σ, x < d_n σ) {c : Nat} (hc : c < d_n σ) {x : Nat} (hv : vicF (d_A σ) c none (e_c σ) = some x) (hdb : (d_d σ).length ≤ 500) : px G m_Mem_displaceFor 0 (lv_args 0 [.ref (ad 6 0), .ref (ad 0 c)]) [] ws (d + 7) 1 1000 (fun v w => v = some (.int 1) ∧ ∃ ad2, AdS ad ad2 ∧ CR G R w o ad2 (stE (stD σ (dspA (d_d σ) x)) (dropE (d_e σ) x)) ∧ px_kp Kr ws w) := by
  refine p_wf (fun hw => ?_)
  refine p_s rfl rfl ?_
  refine p_s rfl rfl ?_
  refine p_s rfl rfl ?_
  refine p_s rfl rfl ?_
  refine c_vic_loop h hen (by omega) hc (fun V x3 hV => ?_) (e_c σ) 0 none .null 0 rfl (by decide) rfl (fun y z => by cases z) rfl rfl
  rw [hv] at hV
  subst hV
  have hxm : x ∈ e_c σ := by
    rcases vicF_mem _ _ _ hv with z | z
    · cases z
    · exact z
  have hxn := hen x hxm
  obtain ⟨hp, hent⟩ := h.entOf hxm
  have hL3 := h.2.2.1.2.2
  obtain ⟨sz, mc, hL3c⟩ := hL3.cell
  by_cases hdl : (d_d σ).length < 500
  · skip
    refine p_s rfl rfl ?_
    refine p_ifnonnull (r := some (ad 3 x)) rfl (fun _ => ?_) (fun c => by cases c)
    refine p_s rfl rfl ?_
    refine p_get rfl f_Mem_18 h.2.1 rfl ?_
    refine p_callV rfl c_Mem_37 rfl hL3c g_AL_size rfl rfl rfl (c_size hL3) (fun v w hq => ?_)
    obtain ⟨rfl, rfl⟩ := hq
    refine p_s rfl rfl ?_
    refine p_icmpF rfl (show ¬ (500 : Int32) ≤ nI ((d_d σ).map (ad 0)).length by rw [List.length_map, show (500 : Int32) = nI 500 from rfl]; exact nI_ge hdl (by decide)) ?_
    refine p_s rfl rfl ?_
    refine p_get rfl f_Mem_18 h.2.1 rfl ?_
    refine p_s rfl rfl ?_
    refine p_get rfl f_Mem_63 hent rfl ?_
    refine p_callV rfl c_Mem_48 rfl hL3c g_AL_add1 rfl rfl rfl (p_le (by omega) (Nat.le_refl _) (Nat.le_refl _) (c_add (d := d) hL3 (by rw [List.length_map]; omega) (h.obD hdn) (h.obC hxn))) (fun v w hq => ?_)
    obtain ⟨rfl, a3, ha3, hl3, hf3⟩ := hq
    have hg := CRg.l3 hw h.g hf3 ha3 hl3
    have h2 : CR G R w o (up6 ad 6 a3) (stD σ (d_d σ ++ [x])) := by
      have e : (d_d σ ++ [x]).map (up6 ad 6 a3 0) = (d_d σ).map (ad 0) ++ [ad 0 x] := by rw [List.map_append]; rfl
      have hg2 : CRg G R w o (up6 ad 6 a3) (stD σ (d_d σ ++ [x])) ((e_c σ).map (ad 3)) ((d_d σ ++ [x]).map (up6 ad 6 a3 0)) := by rw [e]; exact hg
      exact hg2
    have hkp := hL3.kp hw hf3
    obtain ⟨hp2, hent2⟩ := h2.entOf hxm
    refine p_s rfl rfl ?_
    refine p_s rfl rfl ?_
    refine p_s rfl rfl ?_
    refine p_get rfl f_Mem_63 hent2 rfl ?_
    refine p_callV rfl c_Mem_67 rfl h2.2.1 g_Mem_drop rfl rfl rfl (c_drop h2 hnd (Nat.le_trans hlen (by decide)) hxn) (fun v w hq => ?_)
    obtain ⟨rfl, hcr, hkp2⟩ := hq
    refine p_s rfl rfl ?_
    refine p_iret rfl rfl rfl ⟨rfl, up6 ad 6 a3, AdS.u (Or.inr (Or.inr rfl)), ?_, hkp.tr hkp2⟩
    rw [dspA, if_pos hdl]
    exact hcr
  · skip
    refine p_s rfl rfl ?_
    refine p_ifnonnull (r := some (ad 3 x)) rfl (fun _ => ?_) (fun c => by cases c)
    refine p_s rfl rfl ?_
    refine p_get rfl f_Mem_18 h.2.1 rfl ?_
    refine p_callV rfl c_Mem_37 rfl hL3c g_AL_size rfl rfl rfl (c_size hL3) (fun v w hq => ?_)
    obtain ⟨rfl, rfl⟩ := hq
    refine p_s rfl rfl ?_
    refine p_icmpT rfl (show (500 : Int32) ≤ nI ((d_d σ).map (ad 0)).length by rw [List.length_map, show (500 : Int32) = nI 500 from rfl]; exact (nI_leI (by decide) (by omega)).mpr (by omega)) ?_
    refine p_s rfl rfl ?_
    refine p_s rfl rfl ?_
    refine p_get rfl f_Mem_63 hent rfl ?_
    refine p_callV rfl c_Mem_67 rfl h.2.1 g_Mem_drop rfl rfl rfl (c_drop h hnd (Nat.le_trans hlen (by decide)) hxn) (fun v w hq => ?_)
    obtain ⟨rfl, hcr, hkp2⟩ := hq
    refine p_s rfl rfl ?_
    refine p_iret rfl rfl rfl ⟨rfl, ad, AdS.rf, ?_, hkp2⟩
    rw [dspA, if_neg hdl]
    exact hcr
end
section
/-! THE CLASS: store -/
def upA (ad : Nat → Nat → Nat) (k0 i0 x : Nat) : Nat → Nat → Nat := fun k i => if k = k0 then (if i = i0 then x else ad k0 i) else ad k i
def hapE (es : List En4) (c : Nat) (F : Sn4) : List En4 := es.map (fun x => if x.1 = c then (x.1, mn255 (x.2.1 + 1), x.2.2.1, F) else x)
theorem hapE_codes {es : List En4} {c : Nat} {F : Sn4} : (hapE es c F).map (fun x => x.1) = es.map (fun x => x.1) := by
  unfold hapE
  rw [List.map_map]
  apply List.map_congr_left
  intro x _
  show (if x.1 = c then (x.1, mn255 (x.2.1 + 1), x.2.2.1, F) else x).1 = x.1
  split <;> rfl
/-- addresses of codes and standings stay, and the object's own cells -/
def AdW (ad ad2 : Nat → Nat → Nat) : Prop := (∀ k i, k ≤ 2 → ad2 k i = ad k i) ∧ ∀ j, j ≠ 2 → j ≠ 4 → j ≠ 6 → ad2 6 j = ad 6 j
theorem AdW.rf {ad : Nat → Nat → Nat} : AdW ad ad := ⟨fun _ _ _ => rfl, fun _ _ _ _ => rfl⟩
theorem AdW.tr {a b c : Nat → Nat → Nat} (h1 : AdW a b) (h2 : AdW b c) : AdW a c := ⟨fun k i hk => (h2.1 k i hk).trans (h1.1 k i hk), fun j x y z => (h2.2 j x y z).trans (h1.2 j x y z)⟩
theorem AdS.w {a b : Nat → Nat → Nat} (h : AdS a b) : AdW a b := ⟨fun k i hk => h.1 k i (by omega), h.2⟩
theorem AdW.uA {ad : Nat → Nat → Nat} {k0 i0 x : Nat} (h : 3 ≤ k0) (h5 : k0 ≤ 5) : AdW ad (upA ad k0 i0 x) := ⟨fun k i hk => if_neg (by omega), fun j _ _ _ => if_neg (by omega)⟩
/-- it has happened once more -/
theorem CR.happen {G : px_G} {R : Int32} {ws : va_W} {o : Nat} {ad : Nat → Nat → Nat} {σ : Md} (h : CR G R ws o ad σ) {c sn : Nat} {F : Sn4} {hp : Int32} (hcm : c ∈ e_c σ) (hent : px_lk ws (ad 3 c) = some (oEn (ad 0 c) (ad 4 c) (ad 5 c) hp)) (hsn : px_lk ws sn = some (oSn4 F)) : CR G R (px_up ws (ad 3 c) (oEn (ad 0 c) (ad 4 c) sn (mn255 (hp + 1)))) o (upA ad 5 c sn) (stE σ (hapE (d_e σ) c F)) := by
  obtain ⟨h1, h2, hl, ⟨q1, q2, s0, q4, q5, q6, s7⟩, h5, h6⟩ := h
  have ec : e_c (stE σ (hapE (d_e σ) c F)) = e_c σ := hapE_codes
  refine ⟨px_keepK hent h1 (Nat.ne_of_beq_eq_false rfl), px_keepK hent h2 (Nat.ne_of_beq_eq_false rfl), ?_, ?_, fun j hj => ⟨?_, px_keepK hent (h5 j hj).2.1 (Nat.ne_of_beq_eq_false rfl), px_keepK hent (h5 j hj).2.2 (Nat.ne_of_beq_eq_false rfl)⟩, ?_⟩
  · rw [ec]
    exact hl.up hent (Nat.ne_of_beq_eq_false rfl) (Nat.ne_of_beq_eq_false rfl)
  · rw [ec]
    exact ⟨q1, q2, s0, q4, q5, q6, s7⟩
  · show px_lk _ (ad 0 j) = some (oCd _ _ _ _ _ _ _ _ (c_en (upA ad 5 c sn) (e_c (stE σ (hapE (d_e σ) c F))) j))
    rw [ec]
    exact px_keepK hent (h5 j hj).1 (Nat.ne_of_beq_eq_false rfl)
  · intro y hy
    obtain ⟨x, hx, rfl⟩ := List.mem_map.mp hy
    obtain ⟨e1, e2, e3⟩ := h6 x hx
    by_cases hxc : x.1 = c
    · rw [if_pos hxc]
      rw [hxc] at e1 e2
      have := Option.some.inj (e1.symm.trans hent)
      have hhp : x.2.1 = hp := by injection this with q; injection q with _ q; simp at q; exact q
      refine ⟨?_, ?_, ?_⟩
      · show px_lk _ (ad 3 x.1) = some (oEn (ad 0 x.1) (ad 4 x.1) (if x.1 = c then sn else ad 5 x.1) (mn255 (x.2.1 + 1)))
        rw [hxc, if_pos rfl, hhp]
        exact px_lk_same _ _ _ _ hent
      · show px_lk _ (ad 4 x.1) = some (oSn4 x.2.2.1)
        rw [hxc]
        exact px_keepK hent e2 (Nat.ne_of_beq_eq_false rfl)
      · show px_lk _ (if x.1 = c then sn else ad 5 x.1) = some (oSn4 F)
        rw [if_pos hxc]
        exact px_keepK hent hsn (Nat.ne_of_beq_eq_false rfl)
    · rw [if_neg hxc]
      refine ⟨?_, px_keepK hent e2 (Nat.ne_of_beq_eq_false rfl), ?_⟩
      · show px_lk _ (ad 3 x.1) = some (oEn (ad 0 x.1) (ad 4 x.1) (if x.1 = c then sn else ad 5 x.1) x.2.1)
        rw [if_neg hxc]
        exact px_keep e1 (fun z => hxc (s7 x.1 c (List.mem_map.mpr ⟨x, hx, rfl⟩) hcm z))
      · show px_lk _ (if x.1 = c then sn else ad 5 x.1) = some (oSn4 x.2.2.2)
        rw [if_neg hxc]
        exact px_keepK hent e3 (Nat.ne_of_beq_eq_false rfl)
abbrev adE (ad : Nat → Nat → Nat) (c e sn : Nat) : Nat → Nat → Nat := upA (upA (upA ad 3 c e) 4 c sn) 5 c sn
/-- a new entry's cells, ahead of its place in the list -/
theorem CRg.stored {G : px_G} {R : Int32} {ws : va_W} {o : Nat} {ad : Nat → Nat → Nat} {σ : Md} (h : CR G R ws o ad σ) {c sn e : Nat} {F : Sn4} (hc : c < d_n σ) (hcm : c ∉ e_c σ) (he : px_lk ws e = none) (hsn : px_lk ws sn = some (oSn4 F)) :
    CRg G R (px_up (px_up (ws ++ [(e, .inr (4, [.null, .null, .null, .int 0]))]) e (oEn (ad 0 c) sn sn 1)) (ad 0 c) (oCd (nI (c + 1)) (d_A σ 0 c) (d_A σ 1 c) (d_A σ 2 c) (ad 1 c) (ad 2 c) (d_A σ 11 c) (c_pa ad (d_p σ c)) (some e))) o (adE ad c e sn) (stE σ (d_e σ ++ [(c, 1, F, F)])) ((e_c σ).map (ad 3)) ((d_d σ).map (ad 0)) := by
  obtain ⟨h1, h2, hl, ⟨q1, q2, s0, q4, q5, q6, s7⟩, h5, h6⟩ := h
  have hcc := (h5 c hc).1
  generalize hw1 : px_up (ws ++ [(e, .inr (4, [.null, .null, .null, .int 0]))]) e (oEn (ad 0 c) sn sn 1) = w1
  have fr : px_fr (fun _ => False) ws w1 := by rw [← hw1]; exact px_fr.upn he
  have K : ∀ {b : Nat} {x : va_E}, px_lk ws b = some x → px_lk w1 b = some x := fun hb => fr _ _ (fun z => z) hb
  have hE1 : px_lk w1 e = some (oEn (ad 0 c) sn sn 1) := by rw [← hw1]; exact px_lk_same _ _ _ _ (px_lk_new _ _ _ he)
  have hc1 := K hcc
  have ec : e_c (stE σ (d_e σ ++ [(c, 1, F, F)])) = e_c σ ++ [c] := by
    show (d_e σ ++ [(c, 1, F, F)]).map (fun x : En4 => x.1) = _
    rw [List.map_append]; rfl
  have hl1 : c_lists G w1 ad (d_n σ) (e_c σ) (d_d σ) := ⟨hl.1.fr fr (fun z => z) (fun z => z), hl.2.1.fr fr (fun z => z) (fun z => z), hl.2.2.fr fr (fun z => z) (fun z => z)⟩
  refine ⟨px_keepK hc1 (K h1) (Nat.ne_of_beq_eq_false rfl), px_keepK hc1 (K h2) (Nat.ne_of_beq_eq_false rfl), hl1.up hc1 (Nat.ne_of_beq_eq_false rfl) (Nat.ne_of_beq_eq_false rfl), ?_, fun j hj => ⟨?_, px_keepK hc1 (K (h5 j hj).2.1) (Nat.ne_of_beq_eq_false rfl), px_keepK hc1 (K (h5 j hj).2.2) (Nat.ne_of_beq_eq_false rfl)⟩, ?_⟩
  · rw [ec]
    refine ⟨q1, q2, s0, q4, q5, q6, ?_⟩
    have hfre : ∀ j, j ∈ e_c σ → ad 3 j ≠ e := by
      intro j hj z
      obtain ⟨x, hx, rfl⟩ := List.mem_map.mp hj
      have := (h6 x hx).1
      rw [z, he] at this
      cases this
    intro a b ha hb hab
    have hab : (if a = c then e else ad 3 a) = (if b = c then e else ad 3 b) := hab
    rcases List.mem_append.mp ha with ha | ha <;> rcases List.mem_append.mp hb with hb | hb
    · rw [if_neg (fun z : a = c => hcm (z ▸ ha)), if_neg (fun z : b = c => hcm (z ▸ hb))] at hab
      exact s7 a b ha hb hab
    · have hbc := List.mem_singleton.mp hb
      rw [if_neg (fun z : a = c => hcm (z ▸ ha)), if_pos hbc] at hab
      exact absurd hab (hfre a ha)
    · have hac := List.mem_singleton.mp ha
      rw [if_pos hac, if_neg (fun z : b = c => hcm (z ▸ hb))] at hab
      exact absurd hab.symm (hfre b hb)
    · rw [List.mem_singleton.mp ha, List.mem_singleton.mp hb]
  · by_cases hjc : j = c
    · subst hjc
      have hen : c_en (adE ad j e sn) (e_c (stE σ (d_e σ ++ [(j, 1, F, F)]))) j = some e := by
        rw [ec, c_en, if_pos (List.mem_append_right _ (List.mem_singleton.mpr rfl))]
        show some (if j = j then e else ad 3 j) = some e
        rw [if_pos rfl]
      show px_lk _ (ad 0 j) = some (oCd _ _ _ _ _ _ _ _ (c_en (adE ad j e sn) (e_c (stE σ (d_e σ ++ [(j, 1, F, F)]))) j))
      rw [hen]
      exact px_lk_same _ _ _ _ hc1
    · have hen : c_en (adE ad c e sn) (e_c (stE σ (d_e σ ++ [(c, 1, F, F)]))) j = c_en ad (e_c σ) j := by
        rw [ec]
        by_cases hm : j ∈ e_c σ
        · rw [c_en_in hm, c_en, if_pos (List.mem_append_left _ hm)]
          show some (if j = c then e else ad 3 j) = some (ad 3 j)
          rw [if_neg hjc]
        · rw [c_en_out hm]
          exact c_en_out (fun z => (List.mem_append.mp z).elim hm (fun z => hjc (List.mem_singleton.mp z)))
      show px_lk _ (ad 0 j) = some (oCd _ _ _ _ _ _ _ _ (c_en (adE ad c e sn) (e_c (stE σ (d_e σ ++ [(c, 1, F, F)]))) j))
      rw [hen]
      exact px_keep (K (h5 j hj).1) (fun z => hjc (s0 j c hj hc z))
  · intro x hx
    rcases List.mem_append.mp hx with hx | hx
    · have hxc : x.1 ≠ c := fun z => hcm (List.mem_map.mpr ⟨x, hx, z⟩)
      obtain ⟨e1, e2, e3⟩ := h6 x hx
      refine ⟨?_, ?_, ?_⟩
      · show px_lk _ (if x.1 = c then e else ad 3 x.1) = some (oEn (ad 0 x.1) (if x.1 = c then sn else ad 4 x.1) (if x.1 = c then sn else ad 5 x.1) x.2.1)
        rw [if_neg hxc, if_neg hxc, if_neg hxc]
        exact px_keepK hc1 (K e1) (Nat.ne_of_beq_eq_false rfl)
      · show px_lk _ (if x.1 = c then sn else ad 4 x.1) = _
        rw [if_neg hxc]
        exact px_keepK hc1 (K e2) (Nat.ne_of_beq_eq_false rfl)
      · show px_lk _ (if x.1 = c then sn else ad 5 x.1) = _
        rw [if_neg hxc]
        exact px_keepK hc1 (K e3) (Nat.ne_of_beq_eq_false rfl)
    · have hxe := List.mem_singleton.mp hx
      subst hxe
      refine ⟨?_, ?_, ?_⟩
      · show px_lk _ (if c = c then e else ad 3 c) = some (oEn (ad 0 c) (if c = c then sn else ad 4 c) (if c = c then sn else ad 5 c) 1)
        rw [if_pos rfl, if_pos rfl, if_pos rfl]
        exact px_keepK hc1 hE1 (Nat.ne_of_beq_eq_false rfl)
      · show px_lk _ (if c = c then sn else ad 4 c) = _
        rw [if_pos rfl]
        exact px_keepK hc1 (K hsn) (Nat.ne_of_beq_eq_false rfl)
      · show px_lk _ (if c = c then sn else ad 5 c) = _
        rw [if_pos rfl]
        exact px_keepK hc1 (K hsn) (Nat.ne_of_beq_eq_false rfl)
set_option maxHeartbeats 4000000 in
theorem c_store_new {G : px_G} {ws : va_W} {d : Nat} {R : Int32} {o : Nat} {ad : Nat → Nat → Nat} {σ : Md} (h : CR G R ws o ad σ) (hlen : (e_c σ).length ≤ 500) {c sn : Nat} {F : Sn4} (hc : c < d_n σ) (hcm : c ∉ e_c σ) (hsn : px_lk ws sn = some (oSn4 F)) : px G m_Mem_store 40 [(0, .ref (ad 6 0)), (1, .ref (ad 0 c)), (2, .ref sn)] [] ws (d + 8) 2 1004 (fun v w => v = none ∧ ∃ ad2, AdW ad ad2 ∧ CR G R w o ad2 (stE σ (d_e σ ++ [(c, 1, F, F)])) ∧ px_kp Kr ws w) := by
  have hcc := (h.2.2.2.2.1 c hc).1
  refine p_s rfl rfl ?_
  refine p_new (N := 4) rfl nc_Mem_32 (fun e he hel => ?_)
  refine p_s rfl rfl ?_
  refine p_s rfl rfl ?_
  refine p_s rfl rfl ?_
  refine p_callI rfl c_Mem_45 g_En_init rfl rfl rfl (p_le (by omega) (Nat.le_refl _) (Nat.le_refl _) (c_EnInit (d := d) (px_lk_new _ _ _ he))) (fun v w hq => ?_)
  obtain ⟨rfl, rfl⟩ := hq
  have hc1 := px_keep (e := oEn (ad 0 c) sn sn 1) (px_lk_old ws e (ad 0 c) (.inr (4, [.null, .null, .null, .int 0])) _ hcc) (px_nn hcc he)
  refine p_put rfl fp_Mem_25 hc1 rfl rfl (by exact Nat.le_of_ble_eq_true rfl) ?_
  have hg := CRg.stored h hc hcm he hsn
  have hkp0 : px_kp Kr ws (px_up (px_up (ws ++ [(e, .inr (4, [.null, .null, .null, .int 0]))]) e (oEn (ad 0 c) sn sn 1)) (ad 0 c) (oCd (nI (c + 1)) (d_A σ 0 c) (d_A σ 1 c) (d_A σ 2 c) (ad 1 c) (ad 2 c) (d_A σ 11 c) (c_pa ad (d_p σ c)) (some e))) := (px_kp.nw.tr (px_kp.up (px_lk_new _ _ _ he) rfl)).tr (px_kp.up hc1 rfl)
  have hc2 := px_lk_same _ _ _ (oCd (nI (c + 1)) (d_A σ 0 c) (d_A σ 1 c) (d_A σ 2 c) (ad 1 c) (ad 2 c) (d_A σ 11 c) (c_pa ad (d_p σ c)) (some e)) hc1
  have he2 : px_ob (px_up (px_up (ws ++ [(e, .inr (4, [.null, .null, .null, .int 0]))]) e (oEn (ad 0 c) sn sn 1)) (ad 0 c) (oCd (nI (c + 1)) (d_A σ 0 c) (d_A σ 1 c) (d_A σ 2 c) (ad 1 c) (ad 2 c) (d_A σ 11 c) (c_pa ad (d_p σ c)) (some e))) e := ⟨_, _, _, _, _, px_keepK hc1 (px_lk_same _ _ _ (oEn (ad 0 c) sn sn 1) (px_lk_new ws e (.inr (4, [.null, .null, .null, .int 0])) he)) (Nat.ne_of_beq_eq_false rfl), rfl, w_690⟩
  have hobs : ∀ x ∈ (e_c σ).map (ad 3), px_ob (px_up (px_up (ws ++ [(e, .inr (4, [.null, .null, .null, .int 0]))]) e (oEn (ad 0 c) sn sn 1)) (ad 0 c) (oCd (nI (c + 1)) (d_A σ 0 c) (d_A σ 1 c) (d_A σ 2 c) (ad 1 c) (ad 2 c) (d_A σ 11 c) (c_pa ad (d_p σ c)) (some e))) x := fun x hx => (((h.obE x hx).old (q := e) (e := .inr (4, [.null, .null, .null, .int 0]))).up (px_lk_new _ _ _ he) (e := oEn (ad 0 c) sn sn 1) ⟨rfl, Or.inl (by exact Nat.le_of_ble_eq_true rfl)⟩).up hc1 (e := oCd (nI (c + 1)) (d_A σ 0 c) (d_A σ 1 c) (d_A σ 2 c) (ad 1 c) (ad 2 c) (d_A σ 11 c) (c_pa ad (d_p σ c)) (some e)) ⟨rfl, Or.inl (by exact Nat.le_of_ble_eq_true rfl)⟩
  refine p_wf (fun hw => ?_)
  have hg2 := hg.2.1
  have hL2 := hg.2.2.1.2.1
  obtain ⟨sz, mc, hL2c⟩ := hL2.cell
  refine p_s rfl rfl ?_
  refine p_get rfl f_Mem_12 hg2 rfl ?_
  refine p_s rfl rfl ?_
  refine p_get rfl f_Mem_25 hc2 rfl ?_
  refine p_callV rfl c_Mem_48 rfl hL2c g_AL_add1 rfl rfl rfl (p_le (by omega) (Nat.le_refl _) (Nat.le_refl _) (c_add (d := d) hL2 (by rw [List.length_map]; omega) hobs he2)) (fun v w hq => ?_)
  obtain ⟨rfl, a2, ha2, hl2, hf2⟩ := hq
  have hg3 := CRg.l2 hw hg hf2 ha2 hl2
  have hkp := hL2.kp hw hf2
  refine p_s rfl rfl ?_
  refine p_vret rfl rfl ⟨rfl, up6 (adE ad c e sn) 4 a2, ?_, ?_, hkp0.tr hkp⟩
  · exact ((((AdW.uA (ad := ad) (k0 := 3) (by omega) (by omega)).tr (AdW.uA (k0 := 4) (by omega) (by omega))).tr (AdW.uA (k0 := 5) (by omega) (by omega))).tr (AdS.u (Or.inr (Or.inl rfl))).w)
  · have e1 : (e_c (stE σ (d_e σ ++ [(c, 1, F, F)]))).map (up6 (adE ad c e sn) 4 a2 3) = (e_c σ).map (ad 3) ++ [e] := by
      show ((d_e σ ++ [(c, 1, F, F)]).map (fun x : En4 => x.1)).map _ = _
      rw [List.map_append, List.map_append]
      congr 1
      · apply List.map_congr_left
        intro j hj
        show (if j = c then e else ad 3 j) = ad 3 j
        exact if_neg (fun z : j = c => hcm (z ▸ hj))
      · show [if c = c then e else ad 3 c] = [e]
        rw [if_pos rfl]
    have hg4 : CRg G R w o (up6 (adE ad c e sn) 4 a2) (stE σ (d_e σ ++ [(c, 1, F, F)])) ((e_c (stE σ (d_e σ ++ [(c, 1, F, F)]))).map (up6 (adE ad c e sn) 4 a2 3)) ((d_d σ).map (ad 0)) := by rw [e1]; exact hg3
    exact hg4
end
section
/-! THE CLASS: store, snapshots, judge -/
/-- what the class relies on -/
def Wf (σ : Md) : Prop := d_n σ ≤ 200 ∧ (∀ i, i < d_n σ → d_p σ i ≤ d_n σ) ∧ (∀ x ∈ e_c σ, x < d_n σ) ∧ (e_c σ).length ≤ 200 ∧ (e_c σ).Nodup ∧ (∀ x ∈ d_d σ, x < d_n σ) ∧ (d_d σ).length ≤ 500
def storeM (R : Int32) (σ : Md) (c : Nat) (F : Sn4) : Md :=
  if c ∈ e_c σ then stE σ (hapE (d_e σ) c F)
  else if nI (e_c σ).length < R then stE σ (d_e σ ++ [(c, 1, F, F)])
  else match vicF (d_A σ) c none (e_c σ) with
    | none => σ
    | some x => stE (stD σ (dspA (d_d σ) x)) (dropE (d_e σ) x ++ [(c, 1, F, F)])
theorem dropE_len {es : List En4} {i : Nat} : (dropE es i).length ≤ es.length := List.length_filter_le _ _
set_option maxHeartbeats 4000000 in
theorem c_store {G : px_G} {ws : va_W} {d : Nat} {R : Int32} {o : Nat} {ad : Nat → Nat → Nat} {σ : Md} (h : CR G R ws o ad σ) (hwf : Wf σ) {c sn : Nat} {F : Sn4} (hc : c < d_n σ) (hsn : px_lk ws sn = some (oSn4 F)) : px G m_Mem_store 0 (lv_args 0 [.ref (ad 6 0), .ref (ad 0 c), .ref sn]) [] ws (d + 8) 3 2004 (fun v w => v = none ∧ ∃ ad2, AdW ad ad2 ∧ CR G R w o ad2 (storeM R σ c F) ∧ px_kp Kr ws w) := by
  obtain ⟨w1, w2, w3, w4, w5, w6, w7⟩ := hwf
  have hcc := (h.2.2.2.2.1 c hc).1
  have hL2 := h.2.2.1.2.1
  obtain ⟨sz, mc, hL2c⟩ := hL2.cell
  by_cases hcm : c ∈ e_c σ
  · obtain ⟨hp, hent⟩ := h.entOf hcm
    refine p_s rfl rfl ?_
    refine p_get rfl f_Mem_25 hcc rfl ?_
    rw [c_en_in hcm]
    refine p_ifnull (r := some (ad 3 c)) rfl (fun c => by cases c) (fun _ => ?_)
    refine p_s rfl rfl ?_
    refine p_get rfl f_Mem_25 hcc rfl ?_
    rw [c_en_in hcm]
    refine p_s rfl rfl ?_
    refine p_callV rfl c_Mem_31 rfl hent g_En_happenAgain rfl rfl rfl (p_le (by omega) (Nat.le_refl _) (Nat.le_refl _) (c_happenAgain (d := d) (sn := sn) hent)) (fun v w hq => ?_)
    obtain ⟨rfl, rfl⟩ := hq
    refine p_goto rfl ?_
    refine p_vret rfl rfl ⟨rfl, upA ad 5 c sn, AdW.uA (by omega) (by omega), ?_, px_kp.up hent rfl⟩
    rw [storeM, if_pos hcm]
    exact h.happen hcm hent hsn
  · by_cases hr : nI (e_c σ).length < R
    · skip
      refine p_s rfl rfl ?_
      refine p_get rfl f_Mem_25 hcc rfl ?_
      rw [c_en_out hcm]
      refine p_ifnull (r := none) rfl (fun _ => ?_) (fun c => absurd rfl c)
      refine p_s rfl rfl ?_
      refine p_get rfl f_Mem_12 h.2.1 rfl ?_
      refine p_callV rfl c_Mem_37 rfl hL2c g_AL_size rfl rfl rfl (c_size hL2) (fun v w hq => ?_)
      obtain ⟨rfl, rfl⟩ := hq
      rw [List.length_map]
      refine p_s rfl rfl ?_
      refine p_get rfl f_Mem_21 h.2.1 rfl ?_
      refine p_icmpT rfl hr ?_
      refine p_le (Nat.le_refl _) (by omega) (by omega) (p_post (fun v w hq => ?_) (c_store_new (d := d) h (by omega) hc hcm hsn))
      obtain ⟨rfl, ad2, a1, a2, a3⟩ := hq
      refine ⟨rfl, ad2, a1, ?_, a3⟩
      rw [storeM, if_neg hcm, if_pos hr]
      exact a2
    · cases hv : vicF (d_A σ) c none (e_c σ) with
      | none =>
        refine p_s rfl rfl ?_
        refine p_get rfl f_Mem_25 hcc rfl ?_
        rw [c_en_out hcm]
        refine p_ifnull (r := none) rfl (fun _ => ?_) (fun c => absurd rfl c)
        refine p_s rfl rfl ?_
        refine p_get rfl f_Mem_12 h.2.1 rfl ?_
        refine p_callV rfl c_Mem_37 rfl hL2c g_AL_size rfl rfl rfl (c_size hL2) (fun v w hq => ?_)
        obtain ⟨rfl, rfl⟩ := hq
        rw [List.length_map]
        refine p_s rfl rfl ?_
        refine p_get rfl f_Mem_21 h.2.1 rfl ?_
        refine p_icmpF rfl hr ?_
        refine p_s rfl rfl ?_
        refine p_s rfl rfl ?_
        refine p_callV rfl c_Mem_41 rfl h.2.1 g_Mem_displaceFor rfl rfl rfl (c_displaceN (bc := 0) (bs := 0) h w3 (by omega) w5 w6 hc hv) (fun v w hq => ?_)
        obtain ⟨rfl, rfl⟩ := hq
        refine p_ifT rfl (show (0 : Int32) = 0 from rfl) ?_
        refine p_vret rfl rfl ⟨rfl, ad, AdW.rf, ?_, px_kp.rf⟩
        rw [storeM, if_neg hcm, if_neg hr, hv]
        exact h
      | some x =>
        refine p_s rfl rfl ?_
        refine p_get rfl f_Mem_25 hcc rfl ?_
        rw [c_en_out hcm]
        refine p_ifnull (r := none) rfl (fun _ => ?_) (fun c => absurd rfl c)
        refine p_s rfl rfl ?_
        refine p_get rfl f_Mem_12 h.2.1 rfl ?_
        refine p_callV rfl c_Mem_37 rfl hL2c g_AL_size rfl rfl rfl (c_size hL2) (fun v w hq => ?_)
        obtain ⟨rfl, rfl⟩ := hq
        rw [List.length_map]
        refine p_s rfl rfl ?_
        refine p_get rfl f_Mem_21 h.2.1 rfl ?_
        refine p_icmpF rfl hr ?_
        refine p_s rfl rfl ?_
        refine p_s rfl rfl ?_
        refine p_callV rfl c_Mem_41 rfl h.2.1 g_Mem_displaceFor rfl rfl rfl (c_displaceS h w3 (by omega) w5 w6 hc hv w7) (fun v w hq => ?_)
        obtain ⟨rfl, ad2, b1, b2, b3⟩ := hq
        refine p_ifF rfl (show ¬ (1 : Int32) = 0 by decide) ?_
        have hsn2 : px_lk w sn = some (oSn4 F) := b3 sn _ hsn rfl
        have hcm2 : c ∉ e_c (stE (stD σ (dspA (d_d σ) x)) (dropE (d_e σ) x)) := fun z => hcm (dropE_codes.mp z).1
        have e0 : ad2 0 c = ad 0 c := b1.1 0 c (by decide)
        have e6 : ad2 6 0 = ad 6 0 := b1.2 0 (by decide) (by decide) (by decide)
        have hnew := c_store_new (d := d) (c := c) b2 (Nat.le_trans (by rw [List.length_map]; exact dropE_len) (Nat.le_trans (by rw [← List.length_map (f := fun x : En4 => x.1)]; exact w4) (by decide))) hc hcm2 hsn2
        rw [e0, e6] at hnew
        refine p_le (Nat.le_refl _) (by omega) (by omega) (p_post (fun v w2 hq => ?_) hnew)
        obtain ⟨rfl, ad3, a1, a2, a3⟩ := hq
        refine ⟨rfl, ad3, b1.w.tr a1, ?_, b3.tr a3⟩
        rw [storeM, if_neg hcm, if_neg hr, hv]
        exact a2
end
section
/-! THE CLASS: snapshots, judge -/
def snapOf (σ : Md) (c : Nat) : Sn4 := (d_g σ 2, d_g σ 3, nI (cntB (d_A σ) 1 (d_n σ)), d_A σ 1 c)
/-- whatever keeps all cells keeps the relation -/
theorem CR.mono {G : px_G} {R : Int32} {ws w : va_W} {o : Nat} {ad : Nat → Nat → Nat} {σ : Md} (h : CR G R ws o ad σ) (hf : px_fr (fun _ => False) ws w) : CR G R w o ad σ := by
  have K : ∀ {b : Nat} {x : va_E}, px_lk ws b = some x → px_lk w b = some x := fun hb => hf _ _ (fun z => z) hb
  obtain ⟨h1, h2, hl, h4, h5, h6⟩ := h
  exact ⟨K h1, K h2, ⟨hl.1.fr hf (fun z => z) (fun z => z), hl.2.1.fr hf (fun z => z) (fun z => z), hl.2.2.fr hf (fun z => z) (fun z => z)⟩, h4, fun i hi => ⟨K (h5 i hi).1, K (h5 i hi).2.1, K (h5 i hi).2.2⟩, fun x hx => ⟨K (h6 x hx).1, K (h6 x hx).2.1, K (h6 x hx).2.2⟩⟩
theorem px_kp.mono {K : va_E → Bool} {ws w : va_W} (h : px_fr (fun _ => False) ws w) : px_kp K ws w := fun b x hb _ => h b x (fun z => z) hb
set_option maxHeartbeats 2000000 in
theorem c_takeSnapshot {G : px_G} {ws : va_W} {d : Nat} {R : Int32} {o : Nat} {ad : Nat → Nat → Nat} {σ : Md} (h : CR G R ws o ad σ) (hn : d_n σ ≤ 200) {c : Nat} (hc : c < d_n σ) : px G m_TM_takeSnapshot 0 (lv_args 0 [.ref o, .ref (ad 0 c)]) [] ws (d + 4) 1 4 (fun v w => ∃ q, v = some (.ref q) ∧ px_lk ws q = none ∧ px_lk w q = some (oSn4 (snapOf σ c)) ∧ px_fr (fun _ => False) ws w) := by
  refine p_new (N := 4) rfl nc_TM_120 (fun q hq hql => ?_)
  have h1 : CR G R (ws ++ [(q, oSn 0 0 0 0)]) o ad σ := h.mono px_fr.nw
  refine p_s rfl rfl ?_
  refine p_s rfl rfl ?_
  refine p_get rfl f_TM_24 h1.1 rfl ?_
  refine p_s rfl rfl ?_
  refine p_get rfl f_TM_27 h1.1 rfl ?_
  refine p_s rfl rfl ?_
  refine p_s rfl rfl ?_
  refine p_callV rfl c_TM_149 rfl h1.1 g_TM_countCodesWith rfl rfl rfl (c_countCodesWith h1 hn) (fun v w hq2 => ?_)
  obtain ⟨rfl, rfl⟩ := hq2
  refine p_s rfl rfl ?_
  refine p_get rfl f_TM_194 (h1.2.2.2.2.1 c hc).1 rfl ?_
  refine p_callI rfl c_TM_197 g_Sn_init rfl rfl rfl (p_le (by omega) (Nat.le_refl _) (Nat.le_refl _) (c_SnInit (d := d) (px_lk_new _ _ _ hq))) (fun v w hq2 => ?_)
  obtain ⟨rfl, rfl⟩ := hq2
  exact p_aretR rfl rfl (Or.inl ⟨_, rfl⟩) ⟨q, rfl, hq, px_lk_same _ _ _ _ (px_lk_new _ _ _ hq), px_fr.upn hq⟩
def failM (R : Int32) (σ : Md) (c : Nat) (l : Int32) : Md :=
  if sHas (d_A σ 3 c) 1 = 0 ∧ hidF (d_A (stA σ 3 c (sFailS l (d_A σ 3 c) (d_A σ 4 c)) (sFailT (d_A σ 3 c) (d_A σ 4 c)) 0 0)) (d_p σ) 200 (d_p σ c) = 0 then storeM R (stA σ 3 c (sFailS l (d_A σ 3 c) (d_A σ 4 c)) (sFailT (d_A σ 3 c) (d_A σ 4 c)) 0 0) c (snapOf (stA σ 3 c (sFailS l (d_A σ 3 c) (d_A σ 4 c)) (sFailT (d_A σ 3 c) (d_A σ 4 c)) 0 0) c) else stA σ 3 c (sFailS l (d_A σ 3 c) (d_A σ 4 c)) (sFailT (d_A σ 3 c) (d_A σ 4 c)) 0 0
def judgeM (R : Int32) (σ : Md) (c : Nat) : Md :=
  if d_A σ 11 c = -128 then stA σ 3 c (d_A σ 3 c &&& -82) (d_A σ 4 c) (d_A σ 5 c) (d_A σ 6 c)
  else if d_A σ 11 c = 127 then failM R σ c (if 64 < d_A σ 0 c then 0 else 1)
  else σ
set_option maxHeartbeats 4000000 in
theorem c_judge_tail {G : px_G} {ws : va_W} {d : Nat} {R : Int32} {o : Nat} {ad : Nat → Nat → Nat} {σ : Md} (h : CR G R ws o ad σ) (hwf : Wf σ) {c : Nat} (hc : c < d_n σ) (l : Int32) : px G m_TM_judge 55 [(2, .int (sHas (d_A σ 3 c) 1)), (0, .ref o), (1, .ref (ad 0 c))] [.int l, .ref (ad 1 c)] ws (d + 9) 4 2008 (fun v w => v = none ∧ ∃ ad2, AdW ad ad2 ∧ CR G R w o ad2 (failM R σ c l) ∧ px_kp Kr ws w) := by
  obtain ⟨w1, w2, w3, w4, w5, w6, w7⟩ := id hwf
  have hcc := h.2.2.2.2.1 c hc
  have h1 : CR G R (px_up ws (ad 1 c) (oSg (sFailS l (d_A σ 3 c) (d_A σ 4 c)) (sFailT (d_A σ 3 c) (d_A σ 4 c)) 0 0)) o ad (stA σ 3 c (sFailS l (d_A σ 3 c) (d_A σ 4 c)) (sFailT (d_A σ 3 c) (d_A σ 4 c)) 0 0) := h.st (b := 3) (Or.inl rfl) hc (s := sFailS l (d_A σ 3 c) (d_A σ 4 c)) (t := sFailT (d_A σ 3 c) (d_A σ 4 c)) (a := 0) (g := 0)
  have hk1 : px_kp Kr ws (px_up ws (ad 1 c) (oSg (sFailS l (d_A σ 3 c) (d_A σ 4 c)) (sFailT (d_A σ 3 c) (d_A σ 4 c)) 0 0)) := px_kp.up hcc.2.1 rfl
  refine p_callV rfl c_TM_179 rfl hcc.2.1 g_Sg_fail rfl rfl rfl (p_le (by omega) (Nat.le_refl _) (Nat.le_refl _) (c_fail (d := d) hcc.2.1)) (fun v w hq => ?_)
  obtain ⟨rfl, rfl⟩ := hq
  refine p_s rfl rfl ?_
  refine p_if rfl (fun k1 => ?_) (fun k1 => ?_)
  · simp only [px_cmp] at k1
    refine p_vret rfl rfl ⟨rfl, ad, AdW.rf, ?_, hk1⟩
    rw [failM, if_neg (fun z => k1 z.1)]
    exact h1
  · simp only [px_ncmp] at k1
    refine p_s rfl rfl ?_
    refine p_callV rfl c_TM_182 rfl (h1.2.2.2.2.1 c hc).1 g_Cd_isHidden rfl rfl rfl (p_le (by omega) (Nat.le_refl _) (Nat.le_refl _) (c_isHidden (d := d) h1.2.2.2.2.1 w2 hc)) (fun v w hq => ?_)
    obtain ⟨rfl, rfl⟩ := hq
    refine p_if rfl (fun c2 => ?_) (fun c2 => ?_)
    · simp only [px_cmp] at c2
      refine p_vret rfl rfl ⟨rfl, ad, AdW.rf, ?_, hk1⟩
      rw [failM, if_neg (fun z => c2 z.2)]
      exact h1
    · simp only [px_ncmp] at c2
      refine p_s rfl rfl ?_
      refine p_get rfl f_TM_40 h1.1 rfl ?_
      refine p_s rfl rfl ?_
      refine p_s rfl rfl ?_
      refine p_s rfl rfl ?_
      refine p_callV rfl c_TM_186 rfl h1.1 g_TM_takeSnapshot rfl rfl rfl (p_le (by omega) (Nat.le_refl _) (Nat.le_refl _) (c_takeSnapshot (d := d) h1 w1 hc)) (fun v w hq => ?_)
      obtain ⟨q, rfl, hq0, hq1, hq2⟩ := hq
      refine p_callV rfl c_TM_190 rfl (h1.mono hq2).2.1 g_Mem_store rfl rfl rfl (c_store (h1.mono hq2) hwf hc hq1) (fun v w hq => ?_)
      obtain ⟨rfl, ad2, a1, a2, a3⟩ := hq
      refine p_vret rfl rfl ⟨rfl, ad2, a1, ?_, (hk1.tr (px_kp.mono hq2)).tr a3⟩
      rw [failM, if_pos ⟨k1, c2⟩]
      exact a2
set_option maxHeartbeats 4000000 in
theorem c_judge {G : px_G} {ws : va_W} {d : Nat} {R : Int32} {o : Nat} {ad : Nat → Nat → Nat} {σ : Md} (h : CR G R ws o ad σ) (hwf : Wf σ) {c : Nat} (hc : c < d_n σ) : px G m_TM_judge 0 (lv_args 0 [.ref o, .ref (ad 0 c)]) [] ws (d + 9) 4 2008 (fun v w => v = none ∧ ∃ ad2, AdW ad ad2 ∧ CR G R w o ad2 (judgeM R σ c) ∧ px_kp Kr ws w) := by
  have hcc := h.2.2.2.2.1 c hc
  refine p_s rfl rfl ?_
  refine p_get rfl f_TM_164 hcc.1 rfl ?_
  refine p_s rfl rfl ?_
  refine p_icmp rfl (fun k1 => ?_) (fun k1 => ?_)
  · simp only [px_cmp] at k1
    refine p_s rfl rfl ?_
    refine p_get rfl f_TM_164 hcc.1 rfl ?_
    refine p_s rfl rfl ?_
    refine p_icmp rfl (fun k2 => ?_) (fun k2 => ?_)
    · simp only [px_cmp] at k2
      refine p_vret rfl rfl ⟨rfl, ad, AdW.rf, ?_, px_kp.rf⟩
      rw [judgeM, if_neg k1, if_neg k2]
      exact h
    · simp only [px_ncmp] at k2
      refine p_s rfl rfl ?_
      refine p_get rfl f_TM_79 hcc.1 rfl ?_
      refine p_s rfl rfl ?_
      refine p_callV rfl c_TM_173 rfl hcc.2.1 g_Sg_has rfl rfl rfl (c_has hcc.2.1) (fun v w hq => ?_)
      obtain ⟨rfl, rfl⟩ := hq
      refine p_s rfl rfl ?_
      refine p_s rfl rfl ?_
      refine p_get rfl f_TM_79 hcc.1 rfl ?_
      refine p_s rfl rfl ?_
      refine p_get rfl f_TM_161 hcc.1 rfl ?_
      refine p_s rfl rfl ?_
      refine p_icmp rfl (fun k3 => ?_) (fun k3 => ?_)
      · simp only [px_cmp] at k3
        refine p_s rfl rfl ?_
        rw [judgeM, if_neg k1, if_pos k2, if_pos k3]
        exact c_judge_tail h hwf hc 0
      · simp only [px_ncmp] at k3
        refine p_s rfl rfl ?_
        refine p_goto rfl ?_
        rw [judgeM, if_neg k1, if_pos k2, if_neg k3]
        exact c_judge_tail h hwf hc 1
  · simp only [px_ncmp] at k1
    refine p_s rfl rfl ?_
    refine p_get rfl f_TM_79 hcc.1 rfl ?_
    refine p_callV rfl c_TM_176 rfl hcc.2.1 g_Sg_pass rfl rfl rfl (c_pass hcc.2.1) (fun v w hq => ?_)
    obtain ⟨rfl, rfl⟩ := hq
    refine p_goto rfl ?_
    refine p_vret rfl rfl ⟨rfl, ad, AdW.rf, ?_, px_kp.up hcc.2.1 rfl⟩
    rw [judgeM, if_pos k1]
    exact h.st (b := 3) (Or.inl rfl) hc
end
section
/-! THE CLASS: event -/
theorem storeM_n (R : Int32) (σ : Md) (c : Nat) (F : Sn4) : d_n (storeM R σ c F) = d_n σ := by
  unfold storeM
  split
  · rfl
  · split
    · rfl
    · split <;> rfl
theorem failM_n (R : Int32) (σ : Md) (c : Nat) (l : Int32) : d_n (failM R σ c l) = d_n σ := by
  unfold failM
  split
  · exact storeM_n _ _ _ _
  · rfl
theorem judgeM_n (R : Int32) (σ : Md) (c : Nat) : d_n (judgeM R σ c) = d_n σ := by
  unfold judgeM
  split
  · rfl
  · split
    · exact failM_n _ _ _ _
    · rfl
theorem c_cd_cnt {ad : Nat → Nat → Nat} {σ : Md} {i : Nat} {x : Int32} : c_cd ad (stX σ 11 i x) i = oCd (nI (i + 1)) (d_A σ 0 i) (d_A σ 1 i) (d_A σ 2 i) (ad 1 i) (ad 2 i) x (c_pa ad (d_p σ i)) (c_en ad (e_c σ) i) := by
  show oCd _ (up1 (d_A σ) 11 i x 0 i) (up1 (d_A σ) 11 i x 1 i) (up1 (d_A σ) 11 i x 2 i) _ _ (up1 (d_A σ) 11 i x 11 i) _ _ = _
  rw [up1_same, up1_ne (Or.inl (by decide)), up1_ne (Or.inl (by decide)), up1_ne (Or.inl (by decide))]
theorem CR.cnt {G : px_G} {R : Int32} {ws : va_W} {o : Nat} {ad : Nat → Nat → Nat} {σ : Md} (h : CR G R ws o ad σ) {i : Nat} (hi : i < d_n σ) (x : Int32) : CR G R (px_up ws (ad 0 i) (oCd (nI (i + 1)) (d_A σ 0 i) (d_A σ 1 i) (d_A σ 2 i) (ad 1 i) (ad 2 i) x (c_pa ad (d_p σ i)) (c_en ad (e_c σ) i))) o ad (stX σ 11 i x) := by
  rw [← c_cd_cnt]
  refine h.cd (σ' := stX σ 11 i x) hi rfl rfl rfl rfl (fun j hj => ?_) (fun j => ?_) (fun j => ?_)
  · show oCd _ (up1 (d_A σ) 11 i x 0 j) (up1 (d_A σ) 11 i x 1 j) (up1 (d_A σ) 11 i x 2 j) _ _ (up1 (d_A σ) 11 i x 11 j) _ _ = _
    rw [up1_ne (Or.inr hj), up1_ne (Or.inr hj), up1_ne (Or.inr hj), up1_ne (Or.inr hj)]
  · show oSg (up1 (d_A σ) 11 i x 3 j) (up1 (d_A σ) 11 i x 4 j) (up1 (d_A σ) 11 i x 5 j) (up1 (d_A σ) 11 i x 6 j) = _
    rw [up1_ne (Or.inl (by decide)), up1_ne (Or.inl (by decide)), up1_ne (Or.inl (by decide)), up1_ne (Or.inl (by decide))]
  · show oSg (up1 (d_A σ) 11 i x 7 j) (up1 (d_A σ) 11 i x 8 j) (up1 (d_A σ) 11 i x 9 j) (up1 (d_A σ) 11 i x 10 j) = _
    rw [up1_ne (Or.inl (by decide)), up1_ne (Or.inl (by decide)), up1_ne (Or.inl (by decide)), up1_ne (Or.inl (by decide))]
def upG (g : Nat → Int32) (k0 : Nat) (x : Int32) : Nat → Int32 := fun k => if k = k0 then x else g k
/-- how a call ends: its answer, and the state that the cells stand for -/
abbrev OPc (G : px_G) (R : Int32) (o : Nat) (ws : va_W) (ans : Int32) (σ : Md) : Option Value → va_W → Prop := fun v w => v = some (.int ans) ∧ ∃ ad, CR G R w o ad σ ∧ px_kp Kr ws w
def condOf (i : Nat) : Int32 := nI (i + 1) - nI (i + 1) / 32 * 32
def eventM (R : Int32) (σ : Md) (i : Nat) (f : Int32) : Md :=
  if sHas (d_g σ 0) (1 <<< (condOf i &&& 31)) = 0 then stG σ (upG (d_g σ) 3 (d_g σ 3 + 1))
  else judgeM R (stX (stG σ (upG (d_g σ) 3 (d_g σ 3 + 1))) 11 i (cCnt f (d_A σ 11 i) (d_A σ 1 i) (d_A σ 2 i))) i
set_option maxHeartbeats 4000000 in
theorem o_eventN {G : px_G} {ws : va_W} {d : Nat} {R : Int32} {o : Nat} {ad : Nat → Nat → Nat} {σ : Md} (h : CR G R ws o ad σ) {x f : Int32} (hx : x < 1 ∨ nI (d_n σ) < x) : px G m_TM_event 0 (lv_args 0 [.ref o, .int x, .int f]) [] ws (d + 10) 4 2008 (OPc G R o ws (-1) (σ)) := by
  refine p_s rfl rfl ?_
  refine p_s rfl rfl ?_
  refine p_callV rfl c_TM_60 rfl h.1 g_TM_find rfl rfl rfl (p_le (by omega) (Nat.le_refl _) (Nat.le_refl _) (c_findN (d := d) h hx)) (fun v w hq => ?_)
  obtain ⟨rfl, hw9⟩ := hq
  have hw9 := hw9.symm
  subst hw9
  refine p_s rfl rfl ?_
  refine p_s rfl rfl ?_
  refine p_ifnonnull (r := none) rfl (fun c => absurd rfl c) (fun _ => ?_)
  refine p_s rfl rfl ?_
  exact p_iret rfl rfl rfl ⟨rfl, ad, h, px_kp.rf⟩
set_option maxHeartbeats 4000000 in
theorem o_eventC {G : px_G} {ws : va_W} {d : Nat} {R : Int32} {o : Nat} {ad : Nat → Nat → Nat} {σ : Md} (h : CR G R ws o ad σ) {f : Int32} (hn : d_n σ ≤ 200) {i : Nat} (hi : i < d_n σ) (hp : d_g σ 1 = 0) : px G m_TM_event 0 (lv_args 0 [.ref o, .int (nI (i + 1)), .int f]) [] ws (d + 10) 4 2008 (OPc G R o ws (-3) (σ)) := by
  refine p_s rfl rfl ?_
  refine p_s rfl rfl ?_
  refine p_callV rfl c_TM_60 rfl h.1 g_TM_find rfl rfl rfl (p_le (by omega) (Nat.le_refl _) (Nat.le_refl _) (c_findS (d := d) h hn hi)) (fun v w hq => ?_)
  obtain ⟨rfl, hw9⟩ := hq
  have hw9 := hw9.symm
  subst hw9
  refine p_s rfl rfl ?_
  refine p_s rfl rfl ?_
  refine p_ifnonnull (r := some (ad 0 i)) rfl (fun _ => ?_) (fun c => by cases c)
  refine p_s rfl rfl ?_
  refine p_get rfl f_TM_20 h.1 rfl ?_
  refine p_ifF rfl hp ?_
  refine p_s rfl rfl ?_
  exact p_iret rfl rfl rfl ⟨rfl, ad, h, px_kp.rf⟩
set_option maxHeartbeats 4000000 in
theorem o_event {G : px_G} {ws : va_W} {d : Nat} {R : Int32} {o : Nat} {ad : Nat → Nat → Nat} {σ : Md} (h : CR G R ws o ad σ) {f : Int32} (hwf : Wf σ) {i : Nat} (hi : i < d_n σ) (hp : ¬ d_g σ 1 = 0) : px G m_TM_event 0 (lv_args 0 [.ref o, .int (nI (i + 1)), .int f]) [] ws (d + 10) 4 2008 (OPc G R o ws (d_A (eventM R σ i f) 3 i) (eventM R σ i f)) := by
  have hn := hwf.1
  refine p_s rfl rfl ?_
  refine p_s rfl rfl ?_
  refine p_callV rfl c_TM_60 rfl h.1 g_TM_find rfl rfl rfl (p_le (by omega) (Nat.le_refl _) (Nat.le_refl _) (c_findS (d := d) h hn hi)) (fun v w hq => ?_)
  obtain ⟨rfl, hw9⟩ := hq
  have hw9 := hw9.symm
  subst hw9
  refine p_s rfl rfl ?_
  refine p_s rfl rfl ?_
  refine p_ifnonnull (r := some (ad 0 i)) rfl (fun _ => ?_) (fun c => by cases c)
  refine p_s rfl rfl ?_
  refine p_get rfl f_TM_20 h.1 rfl ?_
  refine p_ifT rfl hp ?_
  refine p_s rfl rfl ?_
  refine p_s rfl rfl ?_
  refine p_get rfl f_TM_27 h.1 rfl ?_
  refine p_s rfl rfl ?_
  refine p_s rfl rfl ?_
  refine p_put rfl fp_TM_27 h.1 rfl rfl (by exact Nat.le_of_ble_eq_true rfl) ?_
  have h1 : CR G R (px_up ws o (oTM (ad 6 1) (ad 6 0) (d_g σ 0) (d_g σ 1) (d_g σ 2) (d_g σ 3 + 1))) o ad (stG σ (upG (d_g σ) 3 (d_g σ 3 + 1))) := h.tm (upG (d_g σ) 3 (d_g σ 3 + 1))
  have k1 : px_kp Kr ws (px_up ws o (oTM (ad 6 1) (ad 6 0) (d_g σ 0) (d_g σ 1) (d_g σ 2) (d_g σ 3 + 1))) := px_kp.up h.1 rfl
  have hc1 := h1.2.2.2.2.1 i hi
  refine p_s rfl rfl ?_
  refine p_s rfl rfl ?_
  refine p_callV rfl c_TM_64 rfl hc1.1 g_Cd_condition rfl rfl rfl (p_le (by omega) (Nat.le_refl _) (Nat.le_refl _) (c_condition (d := d) hc1.1)) (fun v w hq => ?_)
  obtain ⟨rfl, hw9⟩ := hq
  have hw9 := hw9.symm
  subst hw9
  refine p_callV rfl c_TM_67 rfl h1.1 g_TM_isOn rfl rfl rfl (c_isOn h1.1) (fun v w hq => ?_)
  obtain ⟨rfl, hw9⟩ := hq
  have hw9 := hw9.symm
  subst hw9
  refine p_if rfl (fun c => ?_) (fun c => ?_)
  · simp only [px_cmp] at c
    refine p_s rfl rfl ?_
    refine p_get rfl f_TM_79 hc1.1 rfl ?_
    refine p_get rfl f_TM_83 hc1.2.1 rfl ?_
    refine p_iret rfl rfl rfl ⟨?_, ad, ?_, k1⟩
    · rw [eventM, if_pos (show sHas (d_g σ 0) (1 <<< (condOf i &&& 31)) = 0 from c)]
    · rw [eventM, if_pos (show sHas (d_g σ 0) (1 <<< (condOf i &&& 31)) = 0 from c)]
      exact h1
  · simp only [px_ncmp] at c
    refine p_s rfl rfl ?_
    refine p_s rfl rfl ?_
    refine p_callV rfl c_TM_71 rfl hc1.1 g_Cd_count rfl rfl rfl (p_le (by omega) (Nat.le_refl _) (Nat.le_refl _) (c_count (d := d) hc1.1)) (fun v w hq => ?_)
    obtain ⟨rfl, hw9⟩ := hq
    subst hw9
    have h2 := h1.cnt hi (cCnt f (d_A σ 11 i) (d_A σ 1 i) (d_A σ 2 i))
    have k2 := px_kp.up (K := Kr) (e := oCd (nI (i + 1)) (d_A σ 0 i) (d_A σ 1 i) (d_A σ 2 i) (ad 1 i) (ad 2 i) (cCnt f (d_A σ 11 i) (d_A σ 1 i) (d_A σ 2 i)) (c_pa ad (d_p σ i)) (c_en ad (e_c σ) i)) hc1.1 rfl
    refine p_s rfl rfl ?_
    refine p_s rfl rfl ?_
    refine p_callV rfl c_TM_75 rfl h2.1 g_TM_judge rfl rfl rfl (c_judge h2 hwf hi) (fun v w hq => ?_)
    obtain ⟨rfl, ad2, a1, a2, a3⟩ := hq
    have hi2 : i < d_n (judgeM R (stX (stG σ (upG (d_g σ) 3 (d_g σ 3 + 1))) 11 i (cCnt f (d_A σ 11 i) (d_A σ 1 i) (d_A σ 2 i))) i) := by rw [judgeM_n]; exact hi
    have hc3 := a2.2.2.2.2.1 i hi2
    have e0 := hc3.1
    rw [a1.1 0 i (by omega)] at e0
    refine p_s rfl rfl ?_
    refine p_get rfl f_TM_79 e0 rfl ?_
    refine p_get rfl f_TM_83 hc3.2.1 rfl ?_
    refine p_iret rfl rfl rfl ⟨?_, ad2, ?_, (k1.tr k2).tr a3⟩
    · rw [eventM, if_neg (show ¬ sHas (d_g σ 0) (1 <<< (condOf i &&& 31)) = 0 from c)]
    · rw [eventM, if_neg (show ¬ sHas (d_g σ 0) (1 <<< (condOf i &&& 31)) = 0 from c)]
      exact a2
end
section
/-! THE CLASS: what only tells; cut -/
theorem gt3 {x : Int32} (z : 3 < x) : (3 : Int) < x.toInt := by
  have e : (3 : Int32).toInt = 3 := by decide
  rw [← e]
  exact Int32.lt_iff_toInt_lt.mp z
theorem gt2 {x : Int32} (z : 2 < x) : (2 : Int) < x.toInt := by
  have e : (2 : Int32).toInt = 2 := by decide
  rw [← e]
  exact Int32.lt_iff_toInt_lt.mp z
set_option maxHeartbeats 4000000 in
theorem o_statusN {G : px_G} {ws : va_W} {d : Nat} {R : Int32} {o : Nat} {ad : Nat → Nat → Nat} {σ : Md} (h : CR G R ws o ad σ) {x : Int32} (hx : x < 1 ∨ nI (d_n σ) < x) : px G m_TM_status 0 (lv_args 0 [.ref o, .int x]) [] ws (d + 10) 4 2008 (OPc G R o ws (-1) (σ)) := by
  refine p_s rfl rfl ?_
  refine p_s rfl rfl ?_
  refine p_callV rfl c_TM_60 rfl h.1 g_TM_find rfl rfl rfl (p_le (by omega) (Nat.le_refl _) (Nat.le_refl _) (c_findN (d := d) h hx)) (fun v w hq => ?_)
  obtain ⟨rfl, hw9⟩ := hq
  have hw9 := hw9.symm
  subst hw9
  refine p_s rfl rfl ?_
  refine p_s rfl rfl ?_
  refine p_ifnonnull (r := none) rfl (fun c => absurd rfl c) (fun _ => ?_)
  refine p_s rfl rfl ?_
  refine p_goto rfl ?_
  exact p_iret rfl rfl rfl ⟨rfl, ad, h, px_kp.rf⟩
set_option maxHeartbeats 4000000 in
theorem o_status {G : px_G} {ws : va_W} {d : Nat} {R : Int32} {o : Nat} {ad : Nat → Nat → Nat} {σ : Md} (h : CR G R ws o ad σ) (hn : d_n σ ≤ 200) {i : Nat} (hi : i < d_n σ) : px G m_TM_status 0 (lv_args 0 [.ref o, .int (nI (i + 1))]) [] ws (d + 10) 4 2008 (OPc G R o ws (d_A σ 3 i) (σ)) := by
  refine p_s rfl rfl ?_
  refine p_s rfl rfl ?_
  refine p_callV rfl c_TM_60 rfl h.1 g_TM_find rfl rfl rfl (p_le (by omega) (Nat.le_refl _) (Nat.le_refl _) (c_findS (d := d) h hn hi)) (fun v w hq => ?_)
  obtain ⟨rfl, hw9⟩ := hq
  have hw9 := hw9.symm
  subst hw9
  refine p_s rfl rfl ?_
  refine p_s rfl rfl ?_
  refine p_ifnonnull (r := some (ad 0 i)) rfl (fun _ => ?_) (fun c => by cases c)
  refine p_s rfl rfl ?_
  refine p_get rfl f_TM_79 (h.2.2.2.2.1 i hi).1 rfl ?_
  refine p_get rfl f_TM_83 (h.2.2.2.2.1 i hi).2.1 rfl ?_
  exact p_iret rfl rfl rfl ⟨rfl, ad, h, px_kp.rf⟩
set_option maxHeartbeats 4000000 in
theorem o_ageN {G : px_G} {ws : va_W} {d : Nat} {R : Int32} {o : Nat} {ad : Nat → Nat → Nat} {σ : Md} (h : CR G R ws o ad σ) {x : Int32} (hx : x < 1 ∨ nI (d_n σ) < x) : px G m_TM_age 0 (lv_args 0 [.ref o, .int x]) [] ws (d + 10) 4 2008 (OPc G R o ws (-1) (σ)) := by
  refine p_s rfl rfl ?_
  refine p_s rfl rfl ?_
  refine p_callV rfl c_TM_60 rfl h.1 g_TM_find rfl rfl rfl (p_le (by omega) (Nat.le_refl _) (Nat.le_refl _) (c_findN (d := d) h hx)) (fun v w hq => ?_)
  obtain ⟨rfl, hw9⟩ := hq
  have hw9 := hw9.symm
  subst hw9
  refine p_s rfl rfl ?_
  refine p_s rfl rfl ?_
  refine p_ifnonnull (r := none) rfl (fun c => absurd rfl c) (fun _ => ?_)
  refine p_s rfl rfl ?_
  refine p_goto rfl ?_
  exact p_iret rfl rfl rfl ⟨rfl, ad, h, px_kp.rf⟩
set_option maxHeartbeats 4000000 in
theorem o_age {G : px_G} {ws : va_W} {d : Nat} {R : Int32} {o : Nat} {ad : Nat → Nat → Nat} {σ : Md} (h : CR G R ws o ad σ) (hn : d_n σ ≤ 200) {i : Nat} (hi : i < d_n σ) : px G m_TM_age 0 (lv_args 0 [.ref o, .int (nI (i + 1))]) [] ws (d + 10) 4 2008 (OPc G R o ws (d_A σ 5 i) (σ)) := by
  refine p_s rfl rfl ?_
  refine p_s rfl rfl ?_
  refine p_callV rfl c_TM_60 rfl h.1 g_TM_find rfl rfl rfl (p_le (by omega) (Nat.le_refl _) (Nat.le_refl _) (c_findS (d := d) h hn hi)) (fun v w hq => ?_)
  obtain ⟨rfl, hw9⟩ := hq
  have hw9 := hw9.symm
  subst hw9
  refine p_s rfl rfl ?_
  refine p_s rfl rfl ?_
  refine p_ifnonnull (r := some (ad 0 i)) rfl (fun _ => ?_) (fun c => by cases c)
  refine p_s rfl rfl ?_
  refine p_get rfl f_TM_79 (h.2.2.2.2.1 i hi).1 rfl ?_
  refine p_get rfl f_TM_170 (h.2.2.2.2.1 i hi).2.1 rfl ?_
  exact p_iret rfl rfl rfl ⟨rfl, ad, h, px_kp.rf⟩
set_option maxHeartbeats 4000000 in
theorem o_lampO {G : px_G} {ws : va_W} {d : Nat} {R : Int32} {o : Nat} {ad : Nat → Nat → Nat} {σ : Md} (h : CR G R ws o ad σ) {x : Int32} (hx : x < 0 ∨ 3 < x) : px G m_TM_lamp 0 (lv_args 0 [.ref o, .int x]) [] ws (d + 10) 4 2008 (OPc G R o ws (-2) (σ)) := by
  refine p_s rfl rfl ?_
  refine p_tabO (t := 67) rfl (hx.imp (fun z => Int32.lt_iff_toInt_lt.mp z) gt3) (by decide) ?_
  refine p_s rfl rfl ?_
  exact p_iret rfl rfl rfl ⟨rfl, ad, h, px_kp.rf⟩
set_option maxHeartbeats 4000000 in
theorem o_lamp0 {G : px_G} {ws : va_W} {d : Nat} {R : Int32} {o : Nat} {ad : Nat → Nat → Nat} {σ : Md} (h : CR G R ws o ad σ) (hn : d_n σ ≤ 200) : px G m_TM_lamp 0 (lv_args 0 [.ref o, .int 0]) [] ws (d + 10) 4 2008 (OPc G R o ws (if 0 < cntB (d_A σ) 128 (d_n σ) then 1 else 0) (σ)) := by
  refine p_s rfl rfl ?_
  refine p_tabI (of := 31) (t := 32) rfl (by decide) (by decide) (by decide) (by decide) ?_
  refine p_s rfl rfl ?_
  refine p_s rfl rfl ?_
  refine p_callV rfl c_TM_149 rfl h.1 g_TM_countCodesWith rfl rfl rfl (p_le (by omega) (Nat.le_refl _) (Nat.le_refl _) (c_countCodesWith (d := d) h hn)) (fun v w hq => ?_)
  obtain ⟨rfl, hw9⟩ := hq
  have hw9 := hw9.symm
  subst hw9
  refine p_if rfl (fun c => ?_) (fun c => ?_)
  · simp only [px_cmp] at c
    refine p_s rfl rfl ?_
    exact p_iret rfl rfl rfl ⟨by rw [if_neg (fun z => absurd c (nI_nle z (by have := cntB_le (d_A σ) 128 (d_n σ); omega)))], ad, h, px_kp.rf⟩
  · simp only [px_ncmp] at c
    refine p_s rfl rfl ?_
    refine p_goto rfl ?_
    exact p_iret rfl rfl rfl ⟨by rw [if_pos (Nat.pos_of_ne_zero (fun z => c (by rw [z]; decide)))], ad, h, px_kp.rf⟩
set_option maxHeartbeats 4000000 in
theorem o_lamp1 {G : px_G} {ws : va_W} {d : Nat} {R : Int32} {o : Nat} {ad : Nat → Nat → Nat} {σ : Md} (h : CR G R ws o ad σ) (hn : d_n σ ≤ 200) : px G m_TM_lamp 0 (lv_args 0 [.ref o, .int 1]) [] ws (d + 10) 4 2008 (OPc G R o ws (nI (cntB (d_A σ) 8 (d_n σ))) (σ)) := by
  refine p_s rfl rfl ?_
  refine p_tabI (of := 47) (t := 48) rfl (by decide) (by decide) (by decide) (by decide) ?_
  refine p_s rfl rfl ?_
  refine p_s rfl rfl ?_
  refine p_callV rfl c_TM_149 rfl h.1 g_TM_countCodesWith rfl rfl rfl (p_le (by omega) (Nat.le_refl _) (Nat.le_refl _) (c_countCodesWith (d := d) h hn)) (fun v w hq => ?_)
  obtain ⟨rfl, hw9⟩ := hq
  have hw9 := hw9.symm
  subst hw9
  exact p_iret rfl rfl rfl ⟨rfl, ad, h, px_kp.rf⟩
set_option maxHeartbeats 4000000 in
theorem o_lamp2 {G : px_G} {ws : va_W} {d : Nat} {R : Int32} {o : Nat} {ad : Nat → Nat → Nat} {σ : Md} (h : CR G R ws o ad σ) (hn : d_n σ ≤ 200) : px G m_TM_lamp 0 (lv_args 0 [.ref o, .int 2]) [] ws (d + 10) 4 2008 (OPc G R o ws (nI (cntB (d_A σ) 4 (d_n σ))) (σ)) := by
  refine p_s rfl rfl ?_
  refine p_tabI (of := 54) (t := 55) rfl (by decide) (by decide) (by decide) (by decide) ?_
  refine p_s rfl rfl ?_
  refine p_s rfl rfl ?_
  refine p_callV rfl c_TM_149 rfl h.1 g_TM_countCodesWith rfl rfl rfl (p_le (by omega) (Nat.le_refl _) (Nat.le_refl _) (c_countCodesWith (d := d) h hn)) (fun v w hq => ?_)
  obtain ⟨rfl, hw9⟩ := hq
  have hw9 := hw9.symm
  subst hw9
  exact p_iret rfl rfl rfl ⟨rfl, ad, h, px_kp.rf⟩
set_option maxHeartbeats 4000000 in
theorem o_lamp3 {G : px_G} {ws : va_W} {d : Nat} {R : Int32} {o : Nat} {ad : Nat → Nat → Nat} {σ : Md} (h : CR G R ws o ad σ) (hn : d_n σ ≤ 200) : px G m_TM_lamp 0 (lv_args 0 [.ref o, .int 3]) [] ws (d + 10) 4 2008 (OPc G R o ws (nI (cntB (d_A σ) 1 (d_n σ))) (σ)) := by
  refine p_s rfl rfl ?_
  refine p_tabI (of := 60) (t := 61) rfl (by decide) (by decide) (by decide) (by decide) ?_
  refine p_s rfl rfl ?_
  refine p_s rfl rfl ?_
  refine p_callV rfl c_TM_149 rfl h.1 g_TM_countCodesWith rfl rfl rfl (p_le (by omega) (Nat.le_refl _) (Nat.le_refl _) (c_countCodesWith (d := d) h hn)) (fun v w hq => ?_)
  obtain ⟨rfl, hw9⟩ := hq
  have hw9 := hw9.symm
  subst hw9
  exact p_iret rfl rfl rfl ⟨rfl, ad, h, px_kp.rf⟩
set_option maxHeartbeats 4000000 in
theorem o_cutC {G : px_G} {ws : va_W} {d : Nat} {R : Int32} {o : Nat} {ad : Nat → Nat → Nat} {σ : Md} (h : CR G R ws o ad σ) (hp : d_g σ 1 = 0) : px G m_TM_cut 0 (lv_args 0 [.ref o]) [] ws (d + 10) 4 2008 (OPc G R o ws (-3) (σ)) := by
  refine p_s rfl rfl ?_
  refine p_get rfl f_TM_20 h.1 rfl ?_
  refine p_ifF rfl hp ?_
  refine p_s rfl rfl ?_
  exact p_iret rfl rfl rfl ⟨rfl, ad, h, px_kp.rf⟩
set_option maxHeartbeats 4000000 in
theorem o_cut {G : px_G} {ws : va_W} {d : Nat} {R : Int32} {o : Nat} {ad : Nat → Nat → Nat} {σ : Md} (h : CR G R ws o ad σ) (hp : ¬ d_g σ 1 = 0) : px G m_TM_cut 0 (lv_args 0 [.ref o]) [] ws (d + 10) 4 2008 (OPc G R o ws (nI (e_c σ).length) (stG σ (upG (d_g σ) 1 0))) := by
  refine p_s rfl rfl ?_
  refine p_get rfl f_TM_20 h.1 rfl ?_
  refine p_ifT rfl hp ?_
  refine p_s rfl rfl ?_
  refine p_s rfl rfl ?_
  refine p_put rfl fp_TM_20 h.1 rfl rfl (by exact Nat.le_of_ble_eq_true rfl) ?_
  have h1 : CR G R (px_up ws o (oTM (ad 6 1) (ad 6 0) (d_g σ 0) 0 (d_g σ 2) (d_g σ 3))) o ad (stG σ (upG (d_g σ) 1 0)) := h.tm (upG (d_g σ) 1 0)
  have k1 : px_kp Kr ws (px_up ws o (oTM (ad 6 1) (ad 6 0) (d_g σ 0) 0 (d_g σ 2) (d_g σ 3))) := px_kp.up h.1 rfl
  have hL2 := h1.2.2.1.2.1
  obtain ⟨sz, mc, hL2c⟩ := hL2.cell
  refine p_s rfl rfl ?_
  refine p_get rfl f_TM_40 h1.1 rfl ?_
  refine p_get rfl f_TM_152 h1.2.1 rfl ?_
  refine p_callV rfl c_TM_44 rfl hL2c g_AL_size rfl rfl rfl (c_size hL2) (fun v w hq => ?_)
  obtain ⟨rfl, hw9⟩ := hq
  subst hw9
  rw [List.length_map]
  exact p_iret rfl rfl rfl ⟨rfl, ad, h1, k1⟩
theorem isw_out {x : Int32} {n : Nat} (hn : n ≤ 1000) (hx : x < 0 ∨ nI n ≤ x) : isw x 0 (nI n - 1) = 0 := by
  rw [isw, if_pos]
  rcases hx with hx | hx
  · exact Or.inl hx
  · right
    rw [Int32.lt_iff_toInt_lt]
    have h1 := Int32.le_iff_toInt_le.mp hx
    rw [nI_toInt (by omega)] at h1
    have h2 : (nI n - 1).toInt = (n : Int) - 1 := by
      rw [show (1 : Int32) = nI 1 from rfl]
      exact pk_sub_toInt (by omega) (by decide)
    omega
theorem isw_at {k n : Nat} (hn : n ≤ 1000) (hk : k < n) : ¬ isw (nI k) 0 (nI n - 1) = 0 := by
  rw [isw, if_neg]
  · decide
  · rintro (z | z)
    · exact nI_pos (by omega) z
    · rw [Int32.lt_iff_toInt_lt, nI_toInt (by omega), show (nI n - 1).toInt = (n : Int) - 1 by rw [show (1 : Int32) = nI 1 from rfl]; exact pk_sub_toInt (by omega) (by decide)] at z
      omega
set_option maxHeartbeats 4000000 in
theorem o_displacedN {G : px_G} {ws : va_W} {d : Nat} {R : Int32} {o : Nat} {ad : Nat → Nat → Nat} {σ : Md} (h : CR G R ws o ad σ) {x : Int32} (hd : (d_d σ).length ≤ 500) (hx : x < 0 ∨ nI (d_d σ).length ≤ x) : px G m_TM_displaced 0 (lv_args 0 [.ref o, .int x]) [] ws (d + 10) 4 2008 (OPc G R o ws (-1) (σ)) := by
  have hL3 := h.2.2.1.2.2
  obtain ⟨sz, mc, hL3c⟩ := hL3.cell
  refine p_s rfl rfl ?_
  refine p_s rfl rfl ?_
  refine p_s rfl rfl ?_
  refine p_get rfl f_TM_40 h.1 rfl ?_
  refine p_get rfl f_TM_167 h.2.1 rfl ?_
  refine p_callV rfl c_TM_44 rfl hL3c g_AL_size rfl rfl rfl (c_size hL3) (fun v w hq => ?_)
  obtain ⟨rfl, hw9⟩ := hq
  have hw9 := hw9.symm
  subst hw9
  rw [List.length_map]
  refine p_s rfl rfl ?_
  refine p_s rfl rfl ?_
  refine p_callS rfl c_TM_33 g_TM_isWithin rfl rfl rfl (c_isWithin) (fun v w hq => ?_)
  obtain ⟨rfl, hw9⟩ := hq
  have hw9 := hw9.symm
  subst hw9
  refine p_ifF rfl (isw_out (by omega) hx) ?_
  refine p_s rfl rfl ?_
  exact p_iret rfl rfl rfl ⟨rfl, ad, h, px_kp.rf⟩
set_option maxHeartbeats 4000000 in
theorem o_displaced {G : px_G} {ws : va_W} {d : Nat} {R : Int32} {o : Nat} {ad : Nat → Nat → Nat} {σ : Md} (h : CR G R ws o ad σ) {k c : Nat} (hd : (d_d σ).length ≤ 500) (hk : (d_d σ)[k]? = some c) (hc : c < d_n σ) : px G m_TM_displaced 0 (lv_args 0 [.ref o, .int (nI k)]) [] ws (d + 10) 4 2008 (OPc G R o ws (nI (c + 1)) (σ)) := by
  have hL3 := h.2.2.1.2.2
  obtain ⟨sz, mc, hL3c⟩ := hL3.cell
  have hkl : k < (d_d σ).length := (List.getElem?_eq_some_iff.mp hk).1
  refine p_s rfl rfl ?_
  refine p_s rfl rfl ?_
  refine p_s rfl rfl ?_
  refine p_get rfl f_TM_40 h.1 rfl ?_
  refine p_get rfl f_TM_167 h.2.1 rfl ?_
  refine p_callV rfl c_TM_44 rfl hL3c g_AL_size rfl rfl rfl (c_size hL3) (fun v w hq => ?_)
  obtain ⟨rfl, hw9⟩ := hq
  have hw9 := hw9.symm
  subst hw9
  rw [List.length_map]
  refine p_s rfl rfl ?_
  refine p_s rfl rfl ?_
  refine p_callS rfl c_TM_33 g_TM_isWithin rfl rfl rfl (c_isWithin) (fun v w hq => ?_)
  obtain ⟨rfl, hw9⟩ := hq
  have hw9 := hw9.symm
  subst hw9
  refine p_ifT rfl (isw_at (by omega) hkl) ?_
  refine p_s rfl rfl ?_
  refine p_get rfl f_TM_40 h.1 rfl ?_
  refine p_get rfl f_TM_167 h.2.1 rfl ?_
  refine p_s rfl rfl ?_
  refine p_callV rfl c_TM_88 rfl hL3c g_AL_get rfl rfl rfl (p_le (by omega) (Nat.le_refl _) (Nat.le_refl _) (c_get (d := d) (i := k) (y := ad 0 c) hL3 (by rw [List.getElem?_map, hk]; rfl))) (fun v w hq => ?_)
  obtain ⟨rfl, hw9⟩ := hq
  have hw9 := hw9.symm
  subst hw9
  refine p_castS rfl cs_TM_48 (h.2.2.2.2.1 c hc).1 ?_
  refine p_get rfl f_TM_57 (h.2.2.2.2.1 c hc).1 rfl ?_
  exact p_iret rfl rfl rfl ⟨rfl, ad, h, px_kp.rf⟩
set_option maxHeartbeats 4000000 in
theorem o_storedA {G : px_G} {ws : va_W} {d : Nat} {R : Int32} {o : Nat} {ad : Nat → Nat → Nat} {σ : Md} (h : CR G R ws o ad σ) : px G m_TM_stored 0 (lv_args 0 [.ref o, .int (-1), .int 0]) [] ws (d + 10) 4 2008 (OPc G R o ws (nI (e_c σ).length) (σ)) := by
  have hL2 := h.2.2.1.2.1
  obtain ⟨sz, mc, hL2c⟩ := hL2.cell
  refine p_s rfl rfl ?_
  refine p_s rfl rfl ?_
  refine p_icmpF rfl (show (-1 : Int32) = -1 from rfl) ?_
  refine p_s rfl rfl ?_
  refine p_ifF rfl (show (0 : Int32) = 0 from rfl) ?_
  refine p_s rfl rfl ?_
  refine p_get rfl f_TM_40 h.1 rfl ?_
  refine p_get rfl f_TM_152 h.2.1 rfl ?_
  refine p_callV rfl c_TM_44 rfl hL2c g_AL_size rfl rfl rfl (c_size hL2) (fun v w hq => ?_)
  obtain ⟨rfl, hw9⟩ := hq
  have hw9 := hw9.symm
  subst hw9
  rw [List.length_map]
  exact p_iret rfl rfl rfl ⟨rfl, ad, h, px_kp.rf⟩
set_option maxHeartbeats 4000000 in
theorem o_storedN {G : px_G} {ws : va_W} {d : Nat} {R : Int32} {o : Nat} {ad : Nat → Nat → Nat} {σ : Md} (h : CR G R ws o ad σ) {x y : Int32} (hl : (e_c σ).length ≤ 200) (hxy : ¬ (x = -1 ∧ y = 0)) (hx : x < 0 ∨ nI (e_c σ).length ≤ x) : px G m_TM_stored 0 (lv_args 0 [.ref o, .int x, .int y]) [] ws (d + 10) 4 2008 (OPc G R o ws (-1) (σ)) := by
  have hL2 := h.2.2.1.2.1
  obtain ⟨sz, mc, hL2c⟩ := hL2.cell
  have go : px G m_TM_stored 20 (lv_args 0 [.ref o, .int x, .int y]) [] ws (d + 10) 4 2008 (OPc G R o ws (-1) σ) := by
    refine p_s rfl rfl ?_
    refine p_s rfl rfl ?_
    refine p_s rfl rfl ?_
    refine p_get rfl f_TM_40 h.1 rfl ?_
    refine p_get rfl f_TM_152 h.2.1 rfl ?_
    refine p_callV rfl c_TM_44 rfl hL2c g_AL_size rfl rfl rfl (c_size hL2) (fun v w hq => ?_)
    obtain ⟨rfl, hw9⟩ := hq
    have hw9 := hw9.symm
    subst hw9
    rw [List.length_map]
    refine p_s rfl rfl ?_
    refine p_s rfl rfl ?_
    refine p_callS rfl c_TM_33 g_TM_isWithin rfl rfl rfl (c_isWithin) (fun v w hq => ?_)
    obtain ⟨rfl, hw9⟩ := hq
    have hw9 := hw9.symm
    subst hw9
    refine p_ifF rfl (isw_out (by omega) hx) ?_
    refine p_s rfl rfl ?_
    exact p_iret rfl rfl rfl ⟨rfl, ad, h, px_kp.rf⟩
  by_cases h1 : x = -1
  · refine p_s rfl rfl ?_
    refine p_s rfl rfl ?_
    refine p_icmpF rfl h1 ?_
    refine p_s rfl rfl ?_
    refine p_ifT rfl (fun z => hxy ⟨h1, z⟩) ?_
    exact go
  · refine p_s rfl rfl ?_
    refine p_s rfl rfl ?_
    refine p_icmpT rfl h1 ?_
    exact go
set_option maxHeartbeats 4000000 in
theorem o_stored0 {G : px_G} {ws : va_W} {d : Nat} {R : Int32} {o : Nat} {ad : Nat → Nat → Nat} {σ : Md} (h : CR G R ws o ad σ) {k : Nat} {q : En4} (hl : (e_c σ).length ≤ 200) (hen : ∀ x ∈ e_c σ, x < d_n σ) (hk : (d_e σ)[k]? = some q) : px G m_TM_stored 0 (lv_args 0 [.ref o, .int (nI k), .int 0]) [] ws (d + 10) 4 2008 (OPc G R o ws (nI (q.1 + 1)) (σ)) := by
  have hL2 := h.2.2.1.2.1
  obtain ⟨sz, mc, hL2c⟩ := hL2.cell
  have hkl : k < (d_e σ).length := (List.getElem?_eq_some_iff.mp hk).1
  have hlm : (e_c σ).length = (d_e σ).length := List.length_map ..
  have hent := h.2.2.2.2.2 q (List.mem_of_getElem? hk)
  have hq1 : q.1 < d_n σ := hen q.1 (List.mem_map.mpr ⟨q, List.mem_of_getElem? hk, rfl⟩)
  refine p_s rfl rfl ?_
  refine p_s rfl rfl ?_
  refine p_icmpT rfl (show ¬ nI k = -1 from fun z => absurd (by rw [z]; decide : nI k < 0) (nI_pos (by omega))) ?_
  refine p_s rfl rfl ?_
  refine p_s rfl rfl ?_
  refine p_s rfl rfl ?_
  refine p_get rfl f_TM_40 h.1 rfl ?_
  refine p_get rfl f_TM_152 h.2.1 rfl ?_
  refine p_callV rfl c_TM_44 rfl hL2c g_AL_size rfl rfl rfl (c_size hL2) (fun v w hq => ?_)
  obtain ⟨rfl, hw9⟩ := hq
  have hw9 := hw9.symm
  subst hw9
  rw [List.length_map]
  refine p_s rfl rfl ?_
  refine p_s rfl rfl ?_
  refine p_callS rfl c_TM_33 g_TM_isWithin rfl rfl rfl (c_isWithin) (fun v w hq => ?_)
  obtain ⟨rfl, hw9⟩ := hq
  have hw9 := hw9.symm
  subst hw9
  refine p_ifT rfl (isw_at (by omega) (by rw [List.length_map]; exact hkl)) ?_
  refine p_s rfl rfl ?_
  refine p_get rfl f_TM_40 h.1 rfl ?_
  refine p_get rfl f_TM_152 h.2.1 rfl ?_
  refine p_s rfl rfl ?_
  refine p_callV rfl c_TM_88 rfl hL2c g_AL_get rfl rfl rfl (p_le (by omega) (Nat.le_refl _) (Nat.le_refl _) (c_get (d := d) (i := k) (y := ad 3 q.1) hL2 (by rw [List.getElem?_map, List.getElem?_map, hk]; rfl))) (fun v w hq => ?_)
  obtain ⟨rfl, hw9⟩ := hq
  have hw9 := hw9.symm
  subst hw9
  refine p_castS rfl cs_TM_111 hent.1 ?_
  refine p_s rfl rfl ?_
  refine p_s rfl rfl ?_
  refine p_tabI (of := 26) (t := 84) rfl (by decide) (by decide) (by decide) (by decide) ?_
  refine p_s rfl rfl ?_
  refine p_get rfl f_TM_155 hent.1 rfl ?_
  refine p_get rfl f_TM_57 (h.2.2.2.2.1 q.1 hq1).1 rfl ?_
  exact p_iret rfl rfl rfl ⟨rfl, ad, h, px_kp.rf⟩
set_option maxHeartbeats 4000000 in
theorem o_stored1 {G : px_G} {ws : va_W} {d : Nat} {R : Int32} {o : Nat} {ad : Nat → Nat → Nat} {σ : Md} (h : CR G R ws o ad σ) {k : Nat} {q : En4} (hl : (e_c σ).length ≤ 200) (hen : ∀ x ∈ e_c σ, x < d_n σ) (hk : (d_e σ)[k]? = some q) : px G m_TM_stored 0 (lv_args 0 [.ref o, .int (nI k), .int 1]) [] ws (d + 10) 4 2008 (OPc G R o ws (q.2.1) (σ)) := by
  have hL2 := h.2.2.1.2.1
  obtain ⟨sz, mc, hL2c⟩ := hL2.cell
  have hkl : k < (d_e σ).length := (List.getElem?_eq_some_iff.mp hk).1
  have hlm : (e_c σ).length = (d_e σ).length := List.length_map ..
  have hent := h.2.2.2.2.2 q (List.mem_of_getElem? hk)
  have hq1 : q.1 < d_n σ := hen q.1 (List.mem_map.mpr ⟨q, List.mem_of_getElem? hk, rfl⟩)
  refine p_s rfl rfl ?_
  refine p_s rfl rfl ?_
  refine p_icmpT rfl (show ¬ nI k = -1 from fun z => absurd (by rw [z]; decide : nI k < 0) (nI_pos (by omega))) ?_
  refine p_s rfl rfl ?_
  refine p_s rfl rfl ?_
  refine p_s rfl rfl ?_
  refine p_get rfl f_TM_40 h.1 rfl ?_
  refine p_get rfl f_TM_152 h.2.1 rfl ?_
  refine p_callV rfl c_TM_44 rfl hL2c g_AL_size rfl rfl rfl (c_size hL2) (fun v w hq => ?_)
  obtain ⟨rfl, hw9⟩ := hq
  have hw9 := hw9.symm
  subst hw9
  rw [List.length_map]
  refine p_s rfl rfl ?_
  refine p_s rfl rfl ?_
  refine p_callS rfl c_TM_33 g_TM_isWithin rfl rfl rfl (c_isWithin) (fun v w hq => ?_)
  obtain ⟨rfl, hw9⟩ := hq
  have hw9 := hw9.symm
  subst hw9
  refine p_ifT rfl (isw_at (by omega) (by rw [List.length_map]; exact hkl)) ?_
  refine p_s rfl rfl ?_
  refine p_get rfl f_TM_40 h.1 rfl ?_
  refine p_get rfl f_TM_152 h.2.1 rfl ?_
  refine p_s rfl rfl ?_
  refine p_callV rfl c_TM_88 rfl hL2c g_AL_get rfl rfl rfl (p_le (by omega) (Nat.le_refl _) (Nat.le_refl _) (c_get (d := d) (i := k) (y := ad 3 q.1) hL2 (by rw [List.getElem?_map, List.getElem?_map, hk]; rfl))) (fun v w hq => ?_)
  obtain ⟨rfl, hw9⟩ := hq
  have hw9 := hw9.symm
  subst hw9
  refine p_castS rfl cs_TM_111 hent.1 ?_
  refine p_s rfl rfl ?_
  refine p_s rfl rfl ?_
  refine p_tabI (of := 34) (t := 92) rfl (by decide) (by decide) (by decide) (by decide) ?_
  refine p_s rfl rfl ?_
  refine p_get rfl f_TM_158 hent.1 rfl ?_
  exact p_iret rfl rfl rfl ⟨rfl, ad, h, px_kp.rf⟩
set_option maxHeartbeats 4000000 in
theorem o_stored2 {G : px_G} {ws : va_W} {d : Nat} {R : Int32} {o : Nat} {ad : Nat → Nat → Nat} {σ : Md} (h : CR G R ws o ad σ) {k : Nat} {q : En4} (hl : (e_c σ).length ≤ 200) (hen : ∀ x ∈ e_c σ, x < d_n σ) (hk : (d_e σ)[k]? = some q) : px G m_TM_stored 0 (lv_args 0 [.ref o, .int (nI k), .int 2]) [] ws (d + 10) 4 2008 (OPc G R o ws (d_A σ 0 q.1) (σ)) := by
  have hL2 := h.2.2.1.2.1
  obtain ⟨sz, mc, hL2c⟩ := hL2.cell
  have hkl : k < (d_e σ).length := (List.getElem?_eq_some_iff.mp hk).1
  have hlm : (e_c σ).length = (d_e σ).length := List.length_map ..
  have hent := h.2.2.2.2.2 q (List.mem_of_getElem? hk)
  have hq1 : q.1 < d_n σ := hen q.1 (List.mem_map.mpr ⟨q, List.mem_of_getElem? hk, rfl⟩)
  refine p_s rfl rfl ?_
  refine p_s rfl rfl ?_
  refine p_icmpT rfl (show ¬ nI k = -1 from fun z => absurd (by rw [z]; decide : nI k < 0) (nI_pos (by omega))) ?_
  refine p_s rfl rfl ?_
  refine p_s rfl rfl ?_
  refine p_s rfl rfl ?_
  refine p_get rfl f_TM_40 h.1 rfl ?_
  refine p_get rfl f_TM_152 h.2.1 rfl ?_
  refine p_callV rfl c_TM_44 rfl hL2c g_AL_size rfl rfl rfl (c_size hL2) (fun v w hq => ?_)
  obtain ⟨rfl, hw9⟩ := hq
  have hw9 := hw9.symm
  subst hw9
  rw [List.length_map]
  refine p_s rfl rfl ?_
  refine p_s rfl rfl ?_
  refine p_callS rfl c_TM_33 g_TM_isWithin rfl rfl rfl (c_isWithin) (fun v w hq => ?_)
  obtain ⟨rfl, hw9⟩ := hq
  have hw9 := hw9.symm
  subst hw9
  refine p_ifT rfl (isw_at (by omega) (by rw [List.length_map]; exact hkl)) ?_
  refine p_s rfl rfl ?_
  refine p_get rfl f_TM_40 h.1 rfl ?_
  refine p_get rfl f_TM_152 h.2.1 rfl ?_
  refine p_s rfl rfl ?_
  refine p_callV rfl c_TM_88 rfl hL2c g_AL_get rfl rfl rfl (p_le (by omega) (Nat.le_refl _) (Nat.le_refl _) (c_get (d := d) (i := k) (y := ad 3 q.1) hL2 (by rw [List.getElem?_map, List.getElem?_map, hk]; rfl))) (fun v w hq => ?_)
  obtain ⟨rfl, hw9⟩ := hq
  have hw9 := hw9.symm
  subst hw9
  refine p_castS rfl cs_TM_111 hent.1 ?_
  refine p_s rfl rfl ?_
  refine p_s rfl rfl ?_
  refine p_tabI (of := 39) (t := 97) rfl (by decide) (by decide) (by decide) (by decide) ?_
  refine p_s rfl rfl ?_
  refine p_get rfl f_TM_155 hent.1 rfl ?_
  refine p_get rfl f_TM_161 (h.2.2.2.2.1 q.1 hq1).1 rfl ?_
  exact p_iret rfl rfl rfl ⟨rfl, ad, h, px_kp.rf⟩
set_option maxHeartbeats 4000000 in
theorem o_storedX {G : px_G} {ws : va_W} {d : Nat} {R : Int32} {o : Nat} {ad : Nat → Nat → Nat} {σ : Md} (h : CR G R ws o ad σ) {k : Nat} {q : En4} {y : Int32} (hl : (e_c σ).length ≤ 200) (hk : (d_e σ)[k]? = some q) (hy : y < 0 ∨ 2 < y) : px G m_TM_stored 0 (lv_args 0 [.ref o, .int (nI k), .int y]) [] ws (d + 10) 4 2008 (OPc G R o ws (-2) (σ)) := by
  have hL2 := h.2.2.1.2.1
  obtain ⟨sz, mc, hL2c⟩ := hL2.cell
  have hkl : k < (d_e σ).length := (List.getElem?_eq_some_iff.mp hk).1
  have hlm : (e_c σ).length = (d_e σ).length := List.length_map ..
  have hent := h.2.2.2.2.2 q (List.mem_of_getElem? hk)
  refine p_s rfl rfl ?_
  refine p_s rfl rfl ?_
  refine p_icmpT rfl (show ¬ nI k = -1 from fun z => absurd (by rw [z]; decide : nI k < 0) (nI_pos (by omega))) ?_
  refine p_s rfl rfl ?_
  refine p_s rfl rfl ?_
  refine p_s rfl rfl ?_
  refine p_get rfl f_TM_40 h.1 rfl ?_
  refine p_get rfl f_TM_152 h.2.1 rfl ?_
  refine p_callV rfl c_TM_44 rfl hL2c g_AL_size rfl rfl rfl (c_size hL2) (fun v w hq => ?_)
  obtain ⟨rfl, hw9⟩ := hq
  have hw9 := hw9.symm
  subst hw9
  rw [List.length_map]
  refine p_s rfl rfl ?_
  refine p_s rfl rfl ?_
  refine p_callS rfl c_TM_33 g_TM_isWithin rfl rfl rfl (c_isWithin) (fun v w hq => ?_)
  obtain ⟨rfl, hw9⟩ := hq
  have hw9 := hw9.symm
  subst hw9
  refine p_ifT rfl (isw_at (by omega) (by rw [List.length_map]; exact hkl)) ?_
  refine p_s rfl rfl ?_
  refine p_get rfl f_TM_40 h.1 rfl ?_
  refine p_get rfl f_TM_152 h.2.1 rfl ?_
  refine p_s rfl rfl ?_
  refine p_callV rfl c_TM_88 rfl hL2c g_AL_get rfl rfl rfl (p_le (by omega) (Nat.le_refl _) (Nat.le_refl _) (c_get (d := d) (i := k) (y := ad 3 q.1) hL2 (by rw [List.getElem?_map, List.getElem?_map, hk]; rfl))) (fun v w hq => ?_)
  obtain ⟨rfl, hw9⟩ := hq
  have hw9 := hw9.symm
  subst hw9
  refine p_castS rfl cs_TM_111 hent.1 ?_
  refine p_s rfl rfl ?_
  refine p_s rfl rfl ?_
  refine p_tabO (t := 105) rfl (hy.imp (fun z => Int32.lt_iff_toInt_lt.mp z) gt2) (by decide) ?_
  refine p_s rfl rfl ?_
  exact p_iret rfl rfl rfl ⟨rfl, ad, h, px_kp.rf⟩
end
section
/-! THE CLASS: snapshot, parent, enable -/
def snK (F : Sn4) (k : Nat) : Int32 := match k with
  | 0 => F.1
  | 1 => F.2.1
  | 2 => F.2.2.1
  | _ => F.2.2.2
theorem isw4 : ∀ k, k < 4 → ¬ isw (nI k) 0 3 = 0 := by decide +kernel
set_option maxHeartbeats 4000000 in
theorem c_number0 {G : px_G} {ws : va_W} {d : Nat} {a : Nat} {F : Sn4} (h : px_lk ws a = some (oSn4 F)) : px G m_Sn_number 0 (lv_args 0 [.ref a, .int 0]) [] ws d 0 0 (fun v w => v = some (.int (snK F 0)) ∧ w = ws) := by
  refine p_s rfl rfl ?_
  refine p_tabI (of := 27) (t := 28) rfl (by decide) (by decide) (by decide) (by decide) ?_
  refine p_s rfl rfl ?_
  refine p_get rfl f_Sn_7 h rfl ?_
  exact p_iret rfl rfl rfl ⟨rfl, rfl⟩
set_option maxHeartbeats 4000000 in
theorem c_number1 {G : px_G} {ws : va_W} {d : Nat} {a : Nat} {F : Sn4} (h : px_lk ws a = some (oSn4 F)) : px G m_Sn_number 0 (lv_args 0 [.ref a, .int 1]) [] ws d 0 0 (fun v w => v = some (.int (snK F 1)) ∧ w = ws) := by
  refine p_s rfl rfl ?_
  refine p_tabI (of := 32) (t := 33) rfl (by decide) (by decide) (by decide) (by decide) ?_
  refine p_s rfl rfl ?_
  refine p_get rfl f_Sn_13 h rfl ?_
  exact p_iret rfl rfl rfl ⟨rfl, rfl⟩
set_option maxHeartbeats 4000000 in
theorem c_number2 {G : px_G} {ws : va_W} {d : Nat} {a : Nat} {F : Sn4} (h : px_lk ws a = some (oSn4 F)) : px G m_Sn_number 0 (lv_args 0 [.ref a, .int 2]) [] ws d 0 0 (fun v w => v = some (.int (snK F 2)) ∧ w = ws) := by
  refine p_s rfl rfl ?_
  refine p_tabI (of := 37) (t := 38) rfl (by decide) (by decide) (by decide) (by decide) ?_
  refine p_s rfl rfl ?_
  refine p_get rfl f_Sn_16 h rfl ?_
  exact p_iret rfl rfl rfl ⟨rfl, rfl⟩
set_option maxHeartbeats 4000000 in
theorem c_number3 {G : px_G} {ws : va_W} {d : Nat} {a : Nat} {F : Sn4} (h : px_lk ws a = some (oSn4 F)) : px G m_Sn_number 0 (lv_args 0 [.ref a, .int 3]) [] ws d 0 0 (fun v w => v = some (.int (snK F 3)) ∧ w = ws) := by
  refine p_s rfl rfl ?_
  refine p_tabO (t := 43) rfl (Or.inr (by decide)) (by decide) ?_
  refine p_s rfl rfl ?_
  refine p_get rfl f_Sn_19 h rfl ?_
  exact p_iret rfl rfl rfl ⟨rfl, rfl⟩
theorem c_number {G : px_G} {ws : va_W} {d a : Nat} {F : Sn4} (h : px_lk ws a = some (oSn4 F)) : ∀ k, k < 4 → px G m_Sn_number 0 (lv_args 0 [.ref a, .int (nI k)]) [] ws d 0 0 (fun v w => v = some (.int (snK F k)) ∧ w = ws)
  | 0, _ => c_number0 h
  | 1, _ => c_number1 h
  | 2, _ => c_number2 h
  | 3, _ => c_number3 h
  | k + 4, hk => absurd hk (by omega)
set_option maxHeartbeats 4000000 in
theorem o_snapshotN {G : px_G} {ws : va_W} {d : Nat} {R : Int32} {o : Nat} {ad : Nat → Nat → Nat} {σ : Md} (h : CR G R ws o ad σ) {y z : Int32} {x : Int32} (hx : x < 1 ∨ nI (d_n σ) < x) : px G m_TM_snapshot 0 (lv_args 0 [.ref o, .int x, .int y, .int z]) [] ws (d + 10) 4 2008 (OPc G R o ws (-1) (σ)) := by
  refine p_s rfl rfl ?_
  refine p_s rfl rfl ?_
  refine p_callV rfl c_TM_60 rfl h.1 g_TM_find rfl rfl rfl (p_le (by omega) (Nat.le_refl _) (Nat.le_refl _) (c_findN (d := d) h hx)) (fun v w hq => ?_)
  obtain ⟨rfl, hw9⟩ := hq
  have hw9 := hw9.symm
  subst hw9
  refine p_s rfl rfl ?_
  refine p_s rfl rfl ?_
  refine p_ifnull (r := none) rfl (fun _ => ?_) (fun c => absurd rfl c)
  refine p_s rfl rfl ?_
  exact p_iret rfl rfl rfl ⟨rfl, ad, h, px_kp.rf⟩
set_option maxHeartbeats 4000000 in
theorem o_snapshotM {G : px_G} {ws : va_W} {d : Nat} {R : Int32} {o : Nat} {ad : Nat → Nat → Nat} {σ : Md} (h : CR G R ws o ad σ) {y z : Int32} (hn : d_n σ ≤ 200) {i : Nat} (hi : i < d_n σ) (hm : i ∉ e_c σ) : px G m_TM_snapshot 0 (lv_args 0 [.ref o, .int (nI (i + 1)), .int y, .int z]) [] ws (d + 10) 4 2008 (OPc G R o ws (-1) (σ)) := by
  refine p_s rfl rfl ?_
  refine p_s rfl rfl ?_
  refine p_callV rfl c_TM_60 rfl h.1 g_TM_find rfl rfl rfl (p_le (by omega) (Nat.le_refl _) (Nat.le_refl _) (c_findS (d := d) h hn hi)) (fun v w hq => ?_)
  obtain ⟨rfl, hw9⟩ := hq
  have hw9 := hw9.symm
  subst hw9
  refine p_s rfl rfl ?_
  refine p_s rfl rfl ?_
  refine p_ifnull (r := some (ad 0 i)) rfl (fun c => by cases c) (fun _ => ?_)
  refine p_s rfl rfl ?_
  refine p_get rfl f_TM_106 (h.2.2.2.2.1 i hi).1 rfl ?_
  rw [c_en_out hm]
  refine p_ifnonnull (r := none) rfl (fun c => absurd rfl c) (fun _ => ?_)
  refine p_s rfl rfl ?_
  exact p_iret rfl rfl rfl ⟨rfl, ad, h, px_kp.rf⟩
set_option maxHeartbeats 4000000 in
theorem o_snapshotY {G : px_G} {ws : va_W} {d : Nat} {R : Int32} {o : Nat} {ad : Nat → Nat → Nat} {σ : Md} (h : CR G R ws o ad σ) {y z : Int32} (hn : d_n σ ≤ 200) {i : Nat} (hi : i < d_n σ) (hm : i ∈ e_c σ) (hy : isw y 0 1 = 0) : px G m_TM_snapshot 0 (lv_args 0 [.ref o, .int (nI (i + 1)), .int y, .int z]) [] ws (d + 10) 4 2008 (OPc G R o ws (-2) (σ)) := by
  refine p_s rfl rfl ?_
  refine p_s rfl rfl ?_
  refine p_callV rfl c_TM_60 rfl h.1 g_TM_find rfl rfl rfl (p_le (by omega) (Nat.le_refl _) (Nat.le_refl _) (c_findS (d := d) h hn hi)) (fun v w hq => ?_)
  obtain ⟨rfl, hw9⟩ := hq
  have hw9 := hw9.symm
  subst hw9
  refine p_s rfl rfl ?_
  refine p_s rfl rfl ?_
  refine p_ifnull (r := some (ad 0 i)) rfl (fun c => by cases c) (fun _ => ?_)
  refine p_s rfl rfl ?_
  refine p_get rfl f_TM_106 (h.2.2.2.2.1 i hi).1 rfl ?_
  rw [c_en_in hm]
  refine p_ifnonnull (r := some (ad 3 i)) rfl (fun _ => ?_) (fun c => by cases c)
  refine p_s rfl rfl ?_
  refine p_s rfl rfl ?_
  refine p_s rfl rfl ?_
  refine p_callS rfl c_TM_33 g_TM_isWithin rfl rfl rfl (c_isWithin) (fun v w hq => ?_)
  obtain ⟨rfl, hw9⟩ := hq
  have hw9 := hw9.symm
  subst hw9
  refine p_ifT rfl hy ?_
  refine p_s rfl rfl ?_
  exact p_iret rfl rfl rfl ⟨rfl, ad, h, px_kp.rf⟩
set_option maxHeartbeats 4000000 in
theorem o_snapshotZ {G : px_G} {ws : va_W} {d : Nat} {R : Int32} {o : Nat} {ad : Nat → Nat → Nat} {σ : Md} (h : CR G R ws o ad σ) {y z : Int32} (hn : d_n σ ≤ 200) {i : Nat} (hi : i < d_n σ) (hm : i ∈ e_c σ) (hy : ¬ isw y 0 1 = 0) (hz : isw z 0 3 = 0) : px G m_TM_snapshot 0 (lv_args 0 [.ref o, .int (nI (i + 1)), .int y, .int z]) [] ws (d + 10) 4 2008 (OPc G R o ws (-2) (σ)) := by
  refine p_s rfl rfl ?_
  refine p_s rfl rfl ?_
  refine p_callV rfl c_TM_60 rfl h.1 g_TM_find rfl rfl rfl (p_le (by omega) (Nat.le_refl _) (Nat.le_refl _) (c_findS (d := d) h hn hi)) (fun v w hq => ?_)
  obtain ⟨rfl, hw9⟩ := hq
  have hw9 := hw9.symm
  subst hw9
  refine p_s rfl rfl ?_
  refine p_s rfl rfl ?_
  refine p_ifnull (r := some (ad 0 i)) rfl (fun c => by cases c) (fun _ => ?_)
  refine p_s rfl rfl ?_
  refine p_get rfl f_TM_106 (h.2.2.2.2.1 i hi).1 rfl ?_
  rw [c_en_in hm]
  refine p_ifnonnull (r := some (ad 3 i)) rfl (fun _ => ?_) (fun c => by cases c)
  refine p_s rfl rfl ?_
  refine p_s rfl rfl ?_
  refine p_s rfl rfl ?_
  refine p_callS rfl c_TM_33 g_TM_isWithin rfl rfl rfl (c_isWithin) (fun v w hq => ?_)
  obtain ⟨rfl, hw9⟩ := hq
  have hw9 := hw9.symm
  subst hw9
  refine p_ifF rfl hy ?_
  refine p_s rfl rfl ?_
  refine p_s rfl rfl ?_
  refine p_s rfl rfl ?_
  refine p_callS rfl c_TM_33 g_TM_isWithin rfl rfl rfl (c_isWithin) (fun v w hq => ?_)
  obtain ⟨rfl, hw9⟩ := hq
  have hw9 := hw9.symm
  subst hw9
  refine p_ifF rfl hz ?_
  refine p_s rfl rfl ?_
  exact p_iret rfl rfl rfl ⟨rfl, ad, h, px_kp.rf⟩
set_option maxHeartbeats 4000000 in
theorem o_snapshot0 {G : px_G} {ws : va_W} {d : Nat} {R : Int32} {o : Nat} {ad : Nat → Nat → Nat} {σ : Md} (h : CR G R ws o ad σ) (hn : d_n σ ≤ 200) {i : Nat} (hi : i < d_n σ) {k : Nat} (hk : k < 4) {q : En4} (hq : q ∈ d_e σ) (hqi : q.1 = i) : px G m_TM_snapshot 0 (lv_args 0 [.ref o, .int (nI (i + 1)), .int 0, .int (nI k)]) [] ws (d + 10) 4 2008 (OPc G R o ws (snK q.2.2.1 k) (σ)) := by
  have hm : i ∈ e_c σ := List.mem_map.mpr ⟨q, hq, hqi⟩
  have hent := h.2.2.2.2.2 q hq
  rw [hqi] at hent
  refine p_s rfl rfl ?_
  refine p_s rfl rfl ?_
  refine p_callV rfl c_TM_60 rfl h.1 g_TM_find rfl rfl rfl (p_le (by omega) (Nat.le_refl _) (Nat.le_refl _) (c_findS (d := d) h hn hi)) (fun v w hq9 => ?_)
  obtain ⟨rfl, hw9⟩ := hq9
  have hw9 := hw9.symm
  subst hw9
  refine p_s rfl rfl ?_
  refine p_s rfl rfl ?_
  refine p_ifnull (r := some (ad 0 i)) rfl (fun c => by cases c) (fun _ => ?_)
  refine p_s rfl rfl ?_
  refine p_get rfl f_TM_106 (h.2.2.2.2.1 i hi).1 rfl ?_
  rw [c_en_in hm]
  refine p_ifnonnull (r := some (ad 3 i)) rfl (fun _ => ?_) (fun c => by cases c)
  refine p_s rfl rfl ?_
  refine p_s rfl rfl ?_
  refine p_s rfl rfl ?_
  refine p_callS rfl c_TM_33 g_TM_isWithin rfl rfl rfl (c_isWithin) (fun v w hq9 => ?_)
  obtain ⟨rfl, hw9⟩ := hq9
  have hw9 := hw9.symm
  subst hw9
  refine p_ifF rfl (show ¬ isw 0 0 1 = 0 by decide) ?_
  refine p_s rfl rfl ?_
  refine p_s rfl rfl ?_
  refine p_s rfl rfl ?_
  refine p_callS rfl c_TM_33 g_TM_isWithin rfl rfl rfl (c_isWithin) (fun v w hq9 => ?_)
  obtain ⟨rfl, hw9⟩ := hq9
  have hw9 := hw9.symm
  subst hw9
  refine p_ifT rfl (isw4 k hk) ?_
  refine p_s rfl rfl ?_
  refine p_ifF rfl (show (0 : Int32) = 0 from rfl) ?_
  refine p_s rfl rfl ?_
  refine p_get rfl f_TM_106 (h.2.2.2.2.1 i hi).1 rfl ?_
  rw [c_en_in hm]
  refine p_get rfl f_TM_110 hent.1 rfl ?_
  refine p_goto rfl ?_
  refine p_s rfl rfl ?_
  refine p_s rfl rfl ?_
  refine p_s rfl rfl ?_
  refine p_callV rfl c_TM_119 rfl hent.2.1 g_Sn_number rfl rfl rfl (p_le (by omega) (Nat.le_refl _) (Nat.le_refl _) (c_number (d := d) hent.2.1 k hk)) (fun v w hq9 => ?_)
  obtain ⟨rfl, hw9⟩ := hq9
  have hw9 := hw9.symm
  subst hw9
  exact p_iret rfl rfl rfl ⟨rfl, ad, h, px_kp.rf⟩
set_option maxHeartbeats 4000000 in
theorem o_snapshot1 {G : px_G} {ws : va_W} {d : Nat} {R : Int32} {o : Nat} {ad : Nat → Nat → Nat} {σ : Md} (h : CR G R ws o ad σ) (hn : d_n σ ≤ 200) {i : Nat} (hi : i < d_n σ) {k : Nat} (hk : k < 4) {q : En4} (hq : q ∈ d_e σ) (hqi : q.1 = i) : px G m_TM_snapshot 0 (lv_args 0 [.ref o, .int (nI (i + 1)), .int 1, .int (nI k)]) [] ws (d + 10) 4 2008 (OPc G R o ws (snK q.2.2.2 k) (σ)) := by
  have hm : i ∈ e_c σ := List.mem_map.mpr ⟨q, hq, hqi⟩
  have hent := h.2.2.2.2.2 q hq
  rw [hqi] at hent
  refine p_s rfl rfl ?_
  refine p_s rfl rfl ?_
  refine p_callV rfl c_TM_60 rfl h.1 g_TM_find rfl rfl rfl (p_le (by omega) (Nat.le_refl _) (Nat.le_refl _) (c_findS (d := d) h hn hi)) (fun v w hq9 => ?_)
  obtain ⟨rfl, hw9⟩ := hq9
  have hw9 := hw9.symm
  subst hw9
  refine p_s rfl rfl ?_
  refine p_s rfl rfl ?_
  refine p_ifnull (r := some (ad 0 i)) rfl (fun c => by cases c) (fun _ => ?_)
  refine p_s rfl rfl ?_
  refine p_get rfl f_TM_106 (h.2.2.2.2.1 i hi).1 rfl ?_
  rw [c_en_in hm]
  refine p_ifnonnull (r := some (ad 3 i)) rfl (fun _ => ?_) (fun c => by cases c)
  refine p_s rfl rfl ?_
  refine p_s rfl rfl ?_
  refine p_s rfl rfl ?_
  refine p_callS rfl c_TM_33 g_TM_isWithin rfl rfl rfl (c_isWithin) (fun v w hq9 => ?_)
  obtain ⟨rfl, hw9⟩ := hq9
  have hw9 := hw9.symm
  subst hw9
  refine p_ifF rfl (show ¬ isw 1 0 1 = 0 by decide) ?_
  refine p_s rfl rfl ?_
  refine p_s rfl rfl ?_
  refine p_s rfl rfl ?_
  refine p_callS rfl c_TM_33 g_TM_isWithin rfl rfl rfl (c_isWithin) (fun v w hq9 => ?_)
  obtain ⟨rfl, hw9⟩ := hq9
  have hw9 := hw9.symm
  subst hw9
  refine p_ifT rfl (isw4 k hk) ?_
  refine p_s rfl rfl ?_
  refine p_ifT rfl (show ¬ (1 : Int32) = 0 by decide) ?_
  refine p_s rfl rfl ?_
  refine p_get rfl f_TM_106 (h.2.2.2.2.1 i hi).1 rfl ?_
  rw [c_en_in hm]
  refine p_get rfl f_TM_116 hent.1 rfl ?_
  refine p_s rfl rfl ?_
  refine p_s rfl rfl ?_
  refine p_s rfl rfl ?_
  refine p_callV rfl c_TM_119 rfl hent.2.2 g_Sn_number rfl rfl rfl (p_le (by omega) (Nat.le_refl _) (Nat.le_refl _) (c_number (d := d) hent.2.2 k hk)) (fun v w hq9 => ?_)
  obtain ⟨rfl, hw9⟩ := hq9
  have hw9 := hw9.symm
  subst hw9
  exact p_iret rfl rfl rfl ⟨rfl, ad, h, px_kp.rf⟩
theorem c_cd_par {ad : Nat → Nat → Nat} {σ : Md} {i p : Nat} : c_cd ad (stP σ i p) i = oCd (nI (i + 1)) (d_A σ 0 i) (d_A σ 1 i) (d_A σ 2 i) (ad 1 i) (ad 2 i) (d_A σ 11 i) (c_pa ad p) (c_en ad (e_c σ) i) := by
  show oCd _ _ _ _ _ _ _ (c_pa ad (if i = i then p else d_p σ i)) _ = _
  rw [if_pos rfl]
theorem CR.par {G : px_G} {R : Int32} {ws : va_W} {o : Nat} {ad : Nat → Nat → Nat} {σ : Md} (h : CR G R ws o ad σ) {i : Nat} (hi : i < d_n σ) (p : Nat) : CR G R (px_up ws (ad 0 i) (oCd (nI (i + 1)) (d_A σ 0 i) (d_A σ 1 i) (d_A σ 2 i) (ad 1 i) (ad 2 i) (d_A σ 11 i) (c_pa ad p) (c_en ad (e_c σ) i))) o ad (stP σ i p) := by
  rw [← c_cd_par]
  refine h.cd (σ' := stP σ i p) hi rfl rfl rfl rfl (fun j hj => ?_) (fun j => rfl) (fun j => rfl)
  show oCd _ _ _ _ _ _ _ (c_pa ad (if j = i then p else d_p σ j)) _ = _
  rw [if_neg hj]
set_option maxHeartbeats 4000000 in
theorem o_parentNN {G : px_G} {ws : va_W} {d : Nat} {R : Int32} {o : Nat} {ad : Nat → Nat → Nat} {σ : Md} (h : CR G R ws o ad σ) {x : Int32} (hx : x < 1 ∨ nI (d_n σ) < x) {y : Int32} (hy : y < 1 ∨ nI (d_n σ) < y) : px G m_TM_parent 0 (lv_args 0 [.ref o, .int x, .int y]) [] ws (d + 10) 4 2008 (OPc G R o ws (-1) (σ)) := by
  refine p_s rfl rfl ?_
  refine p_s rfl rfl ?_
  refine p_callV rfl c_TM_60 rfl h.1 g_TM_find rfl rfl rfl (p_le (by omega) (Nat.le_refl _) (Nat.le_refl _) (c_findN (d := d) h hx)) (fun v w hq => ?_)
  obtain ⟨rfl, hw9⟩ := hq
  have hw9 := hw9.symm
  subst hw9
  refine p_s rfl rfl ?_
  refine p_s rfl rfl ?_
  refine p_s rfl rfl ?_
  refine p_callV rfl c_TM_60 rfl h.1 g_TM_find rfl rfl rfl (p_le (by omega) (Nat.le_refl _) (Nat.le_refl _) (c_findN (d := d) h hy)) (fun v w hq => ?_)
  obtain ⟨rfl, hw9⟩ := hq
  have hw9 := hw9.symm
  subst hw9
  refine p_s rfl rfl ?_
  refine p_s rfl rfl ?_
  refine p_ifnull (r := none) rfl (fun _ => ?_) (fun c => absurd rfl c)
  refine p_s rfl rfl ?_
  exact p_iret rfl rfl rfl ⟨rfl, ad, h, px_kp.rf⟩
set_option maxHeartbeats 4000000 in
theorem o_parentNS {G : px_G} {ws : va_W} {d : Nat} {R : Int32} {o : Nat} {ad : Nat → Nat → Nat} {σ : Md} (h : CR G R ws o ad σ) {x : Int32} (hx : x < 1 ∨ nI (d_n σ) < x) (hn : d_n σ ≤ 200) {j : Nat} (hj : j < d_n σ) : px G m_TM_parent 0 (lv_args 0 [.ref o, .int x, .int (nI (j + 1))]) [] ws (d + 10) 4 2008 (OPc G R o ws (-1) (σ)) := by
  refine p_s rfl rfl ?_
  refine p_s rfl rfl ?_
  refine p_callV rfl c_TM_60 rfl h.1 g_TM_find rfl rfl rfl (p_le (by omega) (Nat.le_refl _) (Nat.le_refl _) (c_findN (d := d) h hx)) (fun v w hq => ?_)
  obtain ⟨rfl, hw9⟩ := hq
  have hw9 := hw9.symm
  subst hw9
  refine p_s rfl rfl ?_
  refine p_s rfl rfl ?_
  refine p_s rfl rfl ?_
  refine p_callV rfl c_TM_60 rfl h.1 g_TM_find rfl rfl rfl (p_le (by omega) (Nat.le_refl _) (Nat.le_refl _) (c_findS (d := d) h hn hj)) (fun v w hq => ?_)
  obtain ⟨rfl, hw9⟩ := hq
  have hw9 := hw9.symm
  subst hw9
  refine p_s rfl rfl ?_
  refine p_s rfl rfl ?_
  refine p_ifnull (r := none) rfl (fun _ => ?_) (fun c => absurd rfl c)
  refine p_s rfl rfl ?_
  exact p_iret rfl rfl rfl ⟨rfl, ad, h, px_kp.rf⟩
set_option maxHeartbeats 4000000 in
theorem o_parentSN {G : px_G} {ws : va_W} {d : Nat} {R : Int32} {o : Nat} {ad : Nat → Nat → Nat} {σ : Md} (h : CR G R ws o ad σ) (hn : d_n σ ≤ 200) {i : Nat} (hi : i < d_n σ) {y : Int32} (hy : y < 1 ∨ nI (d_n σ) < y) (h0 : ¬ y = 0) : px G m_TM_parent 0 (lv_args 0 [.ref o, .int (nI (i + 1)), .int y]) [] ws (d + 10) 4 2008 (OPc G R o ws (-1) (σ)) := by
  refine p_s rfl rfl ?_
  refine p_s rfl rfl ?_
  refine p_callV rfl c_TM_60 rfl h.1 g_TM_find rfl rfl rfl (p_le (by omega) (Nat.le_refl _) (Nat.le_refl _) (c_findS (d := d) h hn hi)) (fun v w hq => ?_)
  obtain ⟨rfl, hw9⟩ := hq
  have hw9 := hw9.symm
  subst hw9
  refine p_s rfl rfl ?_
  refine p_s rfl rfl ?_
  refine p_s rfl rfl ?_
  refine p_callV rfl c_TM_60 rfl h.1 g_TM_find rfl rfl rfl (p_le (by omega) (Nat.le_refl _) (Nat.le_refl _) (c_findN (d := d) h hy)) (fun v w hq => ?_)
  obtain ⟨rfl, hw9⟩ := hq
  have hw9 := hw9.symm
  subst hw9
  refine p_s rfl rfl ?_
  refine p_s rfl rfl ?_
  refine p_ifnull (r := some (ad 0 i)) rfl (fun c => by cases c) (fun _ => ?_)
  refine p_s rfl rfl ?_
  refine p_ifnonnull (r := none) rfl (fun c => absurd rfl c) (fun _ => ?_)
  refine p_s rfl rfl ?_
  refine p_ifF rfl h0 ?_
  refine p_s rfl rfl ?_
  exact p_iret rfl rfl rfl ⟨rfl, ad, h, px_kp.rf⟩
set_option maxHeartbeats 4000000 in
theorem o_parent0C {G : px_G} {ws : va_W} {d : Nat} {R : Int32} {o : Nat} {ad : Nat → Nat → Nat} {σ : Md} (h : CR G R ws o ad σ) (hn : d_n σ ≤ 200) {i : Nat} (hi : i < d_n σ) (hp : d_g σ 1 = 0) : px G m_TM_parent 0 (lv_args 0 [.ref o, .int (nI (i + 1)), .int 0]) [] ws (d + 10) 4 2008 (OPc G R o ws (-3) (σ)) := by
  refine p_s rfl rfl ?_
  refine p_s rfl rfl ?_
  refine p_callV rfl c_TM_60 rfl h.1 g_TM_find rfl rfl rfl (p_le (by omega) (Nat.le_refl _) (Nat.le_refl _) (c_findS (d := d) h hn hi)) (fun v w hq => ?_)
  obtain ⟨rfl, hw9⟩ := hq
  have hw9 := hw9.symm
  subst hw9
  refine p_s rfl rfl ?_
  refine p_s rfl rfl ?_
  refine p_s rfl rfl ?_
  refine p_callV rfl c_TM_60 rfl h.1 g_TM_find rfl rfl rfl (p_le (by omega) (Nat.le_refl _) (Nat.le_refl _) (c_findN (d := d) h (x := 0) (Or.inl (by decide)))) (fun v w hq => ?_)
  obtain ⟨rfl, hw9⟩ := hq
  have hw9 := hw9.symm
  subst hw9
  refine p_s rfl rfl ?_
  refine p_s rfl rfl ?_
  refine p_ifnull (r := some (ad 0 i)) rfl (fun c => by cases c) (fun _ => ?_)
  refine p_s rfl rfl ?_
  refine p_ifnonnull (r := none) rfl (fun c => absurd rfl c) (fun _ => ?_)
  refine p_s rfl rfl ?_
  refine p_ifT rfl (show (0 : Int32) = 0 from rfl) ?_
  refine p_s rfl rfl ?_
  refine p_s rfl rfl ?_
  refine p_acmpne (rx := some (ad 0 i)) (ry := none) rfl (fun _ => ?_) (fun c => by cases c)
  refine p_s rfl rfl ?_
  refine p_get rfl f_TM_20 h.1 rfl ?_
  refine p_ifT rfl hp ?_
  refine p_s rfl rfl ?_
  exact p_iret rfl rfl rfl ⟨rfl, ad, h, px_kp.rf⟩
set_option maxHeartbeats 4000000 in
theorem o_parent0 {G : px_G} {ws : va_W} {d : Nat} {R : Int32} {o : Nat} {ad : Nat → Nat → Nat} {σ : Md} (h : CR G R ws o ad σ) (hn : d_n σ ≤ 200) {i : Nat} (hi : i < d_n σ) (hpp : ∀ q, q < d_n σ → d_p σ q ≤ d_n σ) (hp : ¬ d_g σ 1 = 0) : px G m_TM_parent 0 (lv_args 0 [.ref o, .int (nI (i + 1)), .int 0]) [] ws (d + 10) 4 2008 (OPc G R o ws (nI (cntF (d_p (stP σ i 0)) 200 0)) (stP σ i 0)) := by
  refine p_s rfl rfl ?_
  refine p_s rfl rfl ?_
  refine p_callV rfl c_TM_60 rfl h.1 g_TM_find rfl rfl rfl (p_le (by omega) (Nat.le_refl _) (Nat.le_refl _) (c_findS (d := d) h hn hi)) (fun v w hq => ?_)
  obtain ⟨rfl, hw9⟩ := hq
  have hw9 := hw9.symm
  subst hw9
  refine p_s rfl rfl ?_
  refine p_s rfl rfl ?_
  refine p_s rfl rfl ?_
  refine p_callV rfl c_TM_60 rfl h.1 g_TM_find rfl rfl rfl (p_le (by omega) (Nat.le_refl _) (Nat.le_refl _) (c_findN (d := d) h (x := 0) (Or.inl (by decide)))) (fun v w hq => ?_)
  obtain ⟨rfl, hw9⟩ := hq
  have hw9 := hw9.symm
  subst hw9
  refine p_s rfl rfl ?_
  refine p_s rfl rfl ?_
  refine p_ifnull (r := some (ad 0 i)) rfl (fun c => by cases c) (fun _ => ?_)
  refine p_s rfl rfl ?_
  refine p_ifnonnull (r := none) rfl (fun c => absurd rfl c) (fun _ => ?_)
  refine p_s rfl rfl ?_
  refine p_ifT rfl (show (0 : Int32) = 0 from rfl) ?_
  refine p_s rfl rfl ?_
  refine p_s rfl rfl ?_
  refine p_acmpne (rx := some (ad 0 i)) (ry := none) rfl (fun _ => ?_) (fun c => by cases c)
  refine p_s rfl rfl ?_
  refine p_get rfl f_TM_20 h.1 rfl ?_
  refine p_ifF rfl hp ?_
  refine p_s rfl rfl ?_
  refine p_ifnull (r := none) rfl (fun _ => ?_) (fun c => absurd rfl c)
  refine p_s rfl rfl ?_
  refine p_s rfl rfl ?_
  refine p_put rfl fp_TM_137 (h.2.2.2.2.1 i hi).1 rfl rfl (by exact Nat.le_of_ble_eq_true rfl) ?_
  have h1 := h.par hi 0
  have k1 := px_kp.up (K := Kr) (e := oCd (nI (i + 1)) (d_A σ 0 i) (d_A σ 1 i) (d_A σ 2 i) (ad 1 i) (ad 2 i) (d_A σ 11 i) (c_pa ad 0) (c_en ad (e_c σ) i)) (h.2.2.2.2.1 i hi).1 rfl
  have hpw : ∀ q, q < d_n σ → d_p (stP σ i 0) q ≤ d_n σ := by
    intro q hq
    show (if q = i then 0 else d_p σ q) ≤ _
    split
    · exact Nat.zero_le _
    · exact hpp q hq
  refine p_s rfl rfl ?_
  refine p_callV rfl c_TM_141 rfl (h1.2.2.2.2.1 i hi).1 g_Cd_countAbove rfl rfl rfl (p_le (by omega) (Nat.le_refl _) (Nat.le_refl _) (c_countAbove (d := d) h1.2.2.2.2.1 hpw hi)) (fun v w hq => ?_)
  obtain ⟨rfl, hw9⟩ := hq
  subst hw9
  exact p_iret rfl rfl rfl ⟨by rw [show d_p (stP σ i 0) i = 0 from if_pos rfl], ad, h1, k1⟩
set_option maxHeartbeats 4000000 in
theorem o_parentE {G : px_G} {ws : va_W} {d : Nat} {R : Int32} {o : Nat} {ad : Nat → Nat → Nat} {σ : Md} (h : CR G R ws o ad σ) (hn : d_n σ ≤ 200) {i : Nat} (hi : i < d_n σ) : px G m_TM_parent 0 (lv_args 0 [.ref o, .int (nI (i + 1)), .int (nI (i + 1))]) [] ws (d + 10) 4 2008 (OPc G R o ws (-2) (σ)) := by
  refine p_s rfl rfl ?_
  refine p_s rfl rfl ?_
  refine p_callV rfl c_TM_60 rfl h.1 g_TM_find rfl rfl rfl (p_le (by omega) (Nat.le_refl _) (Nat.le_refl _) (c_findS (d := d) h hn hi)) (fun v w hq => ?_)
  obtain ⟨rfl, hw9⟩ := hq
  have hw9 := hw9.symm
  subst hw9
  refine p_s rfl rfl ?_
  refine p_s rfl rfl ?_
  refine p_s rfl rfl ?_
  refine p_callV rfl c_TM_60 rfl h.1 g_TM_find rfl rfl rfl (p_le (by omega) (Nat.le_refl _) (Nat.le_refl _) (c_findS (d := d) h hn hi)) (fun v w hq => ?_)
  obtain ⟨rfl, hw9⟩ := hq
  have hw9 := hw9.symm
  subst hw9
  refine p_s rfl rfl ?_
  refine p_s rfl rfl ?_
  refine p_ifnull (r := some (ad 0 i)) rfl (fun c => by cases c) (fun _ => ?_)
  refine p_s rfl rfl ?_
  refine p_ifnonnull (r := some (ad 0 i)) rfl (fun _ => ?_) (fun c => by cases c)
  refine p_s rfl rfl ?_
  refine p_s rfl rfl ?_
  refine p_acmpneR rfl (fun c => absurd rfl c) (fun _ => ?_)
  refine p_s rfl rfl ?_
  exact p_iret rfl rfl rfl ⟨rfl, ad, h, px_kp.rf⟩
set_option maxHeartbeats 4000000 in
theorem o_parentC {G : px_G} {ws : va_W} {d : Nat} {R : Int32} {o : Nat} {ad : Nat → Nat → Nat} {σ : Md} (h : CR G R ws o ad σ) (hn : d_n σ ≤ 200) {i : Nat} (hi : i < d_n σ) {j : Nat} (hj : j < d_n σ) (hij : ¬ i = j) (hp : d_g σ 1 = 0) : px G m_TM_parent 0 (lv_args 0 [.ref o, .int (nI (i + 1)), .int (nI (j + 1))]) [] ws (d + 10) 4 2008 (OPc G R o ws (-3) (σ)) := by
  refine p_s rfl rfl ?_
  refine p_s rfl rfl ?_
  refine p_callV rfl c_TM_60 rfl h.1 g_TM_find rfl rfl rfl (p_le (by omega) (Nat.le_refl _) (Nat.le_refl _) (c_findS (d := d) h hn hi)) (fun v w hq => ?_)
  obtain ⟨rfl, hw9⟩ := hq
  have hw9 := hw9.symm
  subst hw9
  refine p_s rfl rfl ?_
  refine p_s rfl rfl ?_
  refine p_s rfl rfl ?_
  refine p_callV rfl c_TM_60 rfl h.1 g_TM_find rfl rfl rfl (p_le (by omega) (Nat.le_refl _) (Nat.le_refl _) (c_findS (d := d) h hn hj)) (fun v w hq => ?_)
  obtain ⟨rfl, hw9⟩ := hq
  have hw9 := hw9.symm
  subst hw9
  refine p_s rfl rfl ?_
  refine p_s rfl rfl ?_
  refine p_ifnull (r := some (ad 0 i)) rfl (fun c => by cases c) (fun _ => ?_)
  refine p_s rfl rfl ?_
  refine p_ifnonnull (r := some (ad 0 j)) rfl (fun _ => ?_) (fun c => by cases c)
  refine p_s rfl rfl ?_
  refine p_s rfl rfl ?_
  refine p_acmpneR rfl (fun _ => ?_) (fun c => absurd (h.2.2.2.1.2.2.1 i j hi hj c) hij)
  refine p_s rfl rfl ?_
  refine p_get rfl f_TM_20 h.1 rfl ?_
  refine p_ifT rfl hp ?_
  refine p_s rfl rfl ?_
  exact p_iret rfl rfl rfl ⟨rfl, ad, h, px_kp.rf⟩
set_option maxHeartbeats 4000000 in
theorem o_parentB {G : px_G} {ws : va_W} {d : Nat} {R : Int32} {o : Nat} {ad : Nat → Nat → Nat} {σ : Md} (h : CR G R ws o ad σ) (hn : d_n σ ≤ 200) {i : Nat} (hi : i < d_n σ) {j : Nat} (hj : j < d_n σ) (hpp : ∀ q, q < d_n σ → d_p σ q ≤ d_n σ) (hij : ¬ i = j) (hp : ¬ d_g σ 1 = 0) (hb : ¬ belF (d_p σ) i 200 (d_p σ j) = 0) : px G m_TM_parent 0 (lv_args 0 [.ref o, .int (nI (i + 1)), .int (nI (j + 1))]) [] ws (d + 10) 4 2008 (OPc G R o ws (-3) (σ)) := by
  refine p_s rfl rfl ?_
  refine p_s rfl rfl ?_
  refine p_callV rfl c_TM_60 rfl h.1 g_TM_find rfl rfl rfl (p_le (by omega) (Nat.le_refl _) (Nat.le_refl _) (c_findS (d := d) h hn hi)) (fun v w hq => ?_)
  obtain ⟨rfl, hw9⟩ := hq
  have hw9 := hw9.symm
  subst hw9
  refine p_s rfl rfl ?_
  refine p_s rfl rfl ?_
  refine p_s rfl rfl ?_
  refine p_callV rfl c_TM_60 rfl h.1 g_TM_find rfl rfl rfl (p_le (by omega) (Nat.le_refl _) (Nat.le_refl _) (c_findS (d := d) h hn hj)) (fun v w hq => ?_)
  obtain ⟨rfl, hw9⟩ := hq
  have hw9 := hw9.symm
  subst hw9
  refine p_s rfl rfl ?_
  refine p_s rfl rfl ?_
  refine p_ifnull (r := some (ad 0 i)) rfl (fun c => by cases c) (fun _ => ?_)
  refine p_s rfl rfl ?_
  refine p_ifnonnull (r := some (ad 0 j)) rfl (fun _ => ?_) (fun c => by cases c)
  refine p_s rfl rfl ?_
  refine p_s rfl rfl ?_
  refine p_acmpneR rfl (fun _ => ?_) (fun c => absurd (h.2.2.2.1.2.2.1 i j hi hj c) hij)
  refine p_s rfl rfl ?_
  refine p_get rfl f_TM_20 h.1 rfl ?_
  refine p_ifF rfl hp ?_
  refine p_s rfl rfl ?_
  refine p_ifnull (r := some (ad 0 j)) rfl (fun c => by cases c) (fun _ => ?_)
  refine p_s rfl rfl ?_
  refine p_s rfl rfl ?_
  refine p_callV rfl c_TM_133 rfl (h.2.2.2.2.1 j hj).1 g_Cd_isBelow rfl rfl rfl (p_le (by omega) (Nat.le_refl _) (Nat.le_refl _) (c_isBelow (d := d) h.2.2.2.2.1 hpp hi h.2.2.2.1.2.2.1 hj)) (fun v w hq => ?_)
  obtain ⟨rfl, hw9⟩ := hq
  have hw9 := hw9.symm
  subst hw9
  refine p_ifF rfl hb ?_
  refine p_s rfl rfl ?_
  exact p_iret rfl rfl rfl ⟨rfl, ad, h, px_kp.rf⟩
set_option maxHeartbeats 4000000 in
theorem o_parent {G : px_G} {ws : va_W} {d : Nat} {R : Int32} {o : Nat} {ad : Nat → Nat → Nat} {σ : Md} (h : CR G R ws o ad σ) (hn : d_n σ ≤ 200) {i : Nat} (hi : i < d_n σ) {j : Nat} (hj : j < d_n σ) (hpp : ∀ q, q < d_n σ → d_p σ q ≤ d_n σ) (hij : ¬ i = j) (hp : ¬ d_g σ 1 = 0) (hb : belF (d_p σ) i 200 (d_p σ j) = 0) : px G m_TM_parent 0 (lv_args 0 [.ref o, .int (nI (i + 1)), .int (nI (j + 1))]) [] ws (d + 10) 4 2008 (OPc G R o ws (nI (cntF (d_p (stP σ i (j + 1))) 200 (j + 1))) (stP σ i (j + 1))) := by
  refine p_s rfl rfl ?_
  refine p_s rfl rfl ?_
  refine p_callV rfl c_TM_60 rfl h.1 g_TM_find rfl rfl rfl (p_le (by omega) (Nat.le_refl _) (Nat.le_refl _) (c_findS (d := d) h hn hi)) (fun v w hq => ?_)
  obtain ⟨rfl, hw9⟩ := hq
  have hw9 := hw9.symm
  subst hw9
  refine p_s rfl rfl ?_
  refine p_s rfl rfl ?_
  refine p_s rfl rfl ?_
  refine p_callV rfl c_TM_60 rfl h.1 g_TM_find rfl rfl rfl (p_le (by omega) (Nat.le_refl _) (Nat.le_refl _) (c_findS (d := d) h hn hj)) (fun v w hq => ?_)
  obtain ⟨rfl, hw9⟩ := hq
  have hw9 := hw9.symm
  subst hw9
  refine p_s rfl rfl ?_
  refine p_s rfl rfl ?_
  refine p_ifnull (r := some (ad 0 i)) rfl (fun c => by cases c) (fun _ => ?_)
  refine p_s rfl rfl ?_
  refine p_ifnonnull (r := some (ad 0 j)) rfl (fun _ => ?_) (fun c => by cases c)
  refine p_s rfl rfl ?_
  refine p_s rfl rfl ?_
  refine p_acmpneR rfl (fun _ => ?_) (fun c => absurd (h.2.2.2.1.2.2.1 i j hi hj c) hij)
  refine p_s rfl rfl ?_
  refine p_get rfl f_TM_20 h.1 rfl ?_
  refine p_ifF rfl hp ?_
  refine p_s rfl rfl ?_
  refine p_ifnull (r := some (ad 0 j)) rfl (fun c => by cases c) (fun _ => ?_)
  refine p_s rfl rfl ?_
  refine p_s rfl rfl ?_
  refine p_callV rfl c_TM_133 rfl (h.2.2.2.2.1 j hj).1 g_Cd_isBelow rfl rfl rfl (p_le (by omega) (Nat.le_refl _) (Nat.le_refl _) (c_isBelow (d := d) h.2.2.2.2.1 hpp hi h.2.2.2.1.2.2.1 hj)) (fun v w hq => ?_)
  obtain ⟨rfl, hw9⟩ := hq
  have hw9 := hw9.symm
  subst hw9
  refine p_ifT rfl hb ?_
  refine p_s rfl rfl ?_
  refine p_s rfl rfl ?_
  refine p_put rfl fp_TM_137 (h.2.2.2.2.1 i hi).1 rfl rfl (by exact Nat.le_of_ble_eq_true rfl) ?_
  have h1 := h.par hi (j + 1)
  have k1 := px_kp.up (K := Kr) (e := oCd (nI (i + 1)) (d_A σ 0 i) (d_A σ 1 i) (d_A σ 2 i) (ad 1 i) (ad 2 i) (d_A σ 11 i) (c_pa ad (j + 1)) (c_en ad (e_c σ) i)) (h.2.2.2.2.1 i hi).1 rfl
  have hpw : ∀ q, q < d_n σ → d_p (stP σ i (j + 1)) q ≤ d_n σ := by
    intro q hq
    show (if q = i then (j + 1) else d_p σ q) ≤ _
    split
    · exact hj
    · exact hpp q hq
  refine p_s rfl rfl ?_
  refine p_callV rfl c_TM_141 rfl (h1.2.2.2.2.1 i hi).1 g_Cd_countAbove rfl rfl rfl (p_le (by omega) (Nat.le_refl _) (Nat.le_refl _) (c_countAbove (d := d) h1.2.2.2.2.1 hpw hi)) (fun v w hq => ?_)
  obtain ⟨rfl, hw9⟩ := hq
  subst hw9
  exact p_iret rfl rfl rfl ⟨by rw [show d_p (stP σ i (j + 1)) i = (j + 1) from if_pos rfl], ad, h1, k1⟩
end
section
/-! THE CLASS: enable, start -/
def ush (x k : Int32) : Int32 := (x.toUInt32 >>> (k.toUInt32 &&& Int32.toUInt32 31)).toInt32
def bc1 (x : Int32) : Int32 := x - (ush x 1 &&& 1431655765)
def bc2 (x : Int32) : Int32 := (x &&& 858993459) + (ush x 2 &&& 858993459)
def bc3 (x : Int32) : Int32 := (x + ush x 4) &&& 252645135
def bc4 (x : Int32) : Int32 := x + ush x 8
def bc5 (x : Int32) : Int32 := x + ush x 16
def bcF (x : Int32) : Int32 := bc5 (bc4 (bc3 (bc2 (bc1 x)))) &&& 63
set_option maxHeartbeats 4000000 in
theorem c_bitCount {G : px_G} {ws : va_W} {d : Nat} {x : Int32} : px G m_Itg_bitCount 0 (lv_args 0 [.int x]) [] ws d 0 0 (fun v w => v = some (.int (bcF x)) ∧ w = ws) := by
  refine p_s rfl rfl ?_
  refine p_s rfl rfl ?_
  refine p_s rfl rfl ?_
  refine p_s rfl rfl ?_
  refine p_ldcw rfl w_452 ?_
  refine p_s rfl rfl ?_
  refine p_s rfl rfl ?_
  refine p_s rfl rfl ?_
  refine p_s rfl rfl ?_
  refine p_ldcw rfl w_453 ?_
  refine p_s rfl rfl ?_
  refine p_s rfl rfl ?_
  refine p_s rfl rfl ?_
  refine p_s rfl rfl ?_
  refine p_ldcw rfl w_453 ?_
  refine p_s rfl rfl ?_
  refine p_s rfl rfl ?_
  refine p_s rfl rfl ?_
  refine p_s rfl rfl ?_
  refine p_s rfl rfl ?_
  refine p_s rfl rfl ?_
  refine p_s rfl rfl ?_
  refine p_s rfl rfl ?_
  refine p_ldcw rfl w_454 ?_
  refine p_s rfl rfl ?_
  refine p_s rfl rfl ?_
  refine p_s rfl rfl ?_
  refine p_s rfl rfl ?_
  refine p_s rfl rfl ?_
  refine p_s rfl rfl ?_
  refine p_s rfl rfl ?_
  refine p_s rfl rfl ?_
  refine p_s rfl rfl ?_
  refine p_s rfl rfl ?_
  refine p_s rfl rfl ?_
  refine p_s rfl rfl ?_
  refine p_s rfl rfl ?_
  refine p_s rfl rfl ?_
  refine p_s rfl rfl ?_
  refine p_s rfl rfl ?_
  refine p_s rfl rfl ?_
  exact p_iret rfl rfl rfl ⟨rfl, rfl⟩
set_option maxHeartbeats 4000000 in
theorem o_enableN {G : px_G} {ws : va_W} {d : Nat} {R : Int32} {o : Nat} {ad : Nat → Nat → Nat} {σ : Md} (h : CR G R ws o ad σ) {x y : Int32} (hx : isw x 0 31 = 0) : px G m_TM_enable 0 (lv_args 0 [.ref o, .int x, .int y]) [] ws (d + 10) 4 2008 (OPc G R o ws (-1) (σ)) := by
  refine p_s rfl rfl ?_
  refine p_s rfl rfl ?_
  refine p_s rfl rfl ?_
  refine p_callS rfl c_TM_33 g_TM_isWithin rfl rfl rfl (p_le (by omega) (Nat.le_refl _) (Nat.le_refl _) (c_isWithin (d := d))) (fun v w hq => ?_)
  obtain ⟨rfl, hw9⟩ := hq
  have hw9 := hw9.symm
  subst hw9
  refine p_ifF rfl hx ?_
  refine p_s rfl rfl ?_
  exact p_iret rfl rfl rfl ⟨rfl, ad, h, px_kp.rf⟩
set_option maxHeartbeats 4000000 in
theorem o_enableC {G : px_G} {ws : va_W} {d : Nat} {R : Int32} {o : Nat} {ad : Nat → Nat → Nat} {σ : Md} (h : CR G R ws o ad σ) {x y : Int32} (hx : ¬ isw x 0 31 = 0) (hp : d_g σ 1 = 0) : px G m_TM_enable 0 (lv_args 0 [.ref o, .int x, .int y]) [] ws (d + 10) 4 2008 (OPc G R o ws (-3) (σ)) := by
  refine p_s rfl rfl ?_
  refine p_s rfl rfl ?_
  refine p_s rfl rfl ?_
  refine p_callS rfl c_TM_33 g_TM_isWithin rfl rfl rfl (p_le (by omega) (Nat.le_refl _) (Nat.le_refl _) (c_isWithin (d := d))) (fun v w hq => ?_)
  obtain ⟨rfl, hw9⟩ := hq
  have hw9 := hw9.symm
  subst hw9
  refine p_ifT rfl hx ?_
  refine p_s rfl rfl ?_
  refine p_get rfl f_TM_20 h.1 rfl ?_
  refine p_ifF rfl hp ?_
  refine p_s rfl rfl ?_
  exact p_iret rfl rfl rfl ⟨rfl, ad, h, px_kp.rf⟩
set_option maxHeartbeats 4000000 in
theorem o_enable1 {G : px_G} {ws : va_W} {d : Nat} {R : Int32} {o : Nat} {ad : Nat → Nat → Nat} {σ : Md} (h : CR G R ws o ad σ) {x y : Int32} (hx : ¬ isw x 0 31 = 0) (hp : ¬ d_g σ 1 = 0) (hy : ¬ y = 0) : px G m_TM_enable 0 (lv_args 0 [.ref o, .int x, .int y]) [] ws (d + 10) 4 2008 (OPc G R o ws (bcF (d_g σ 0 ||| (1 <<< (x &&& 31)))) (stG σ (upG (d_g σ) 0 (d_g σ 0 ||| (1 <<< (x &&& 31)))))) := by
  refine p_s rfl rfl ?_
  refine p_s rfl rfl ?_
  refine p_s rfl rfl ?_
  refine p_callS rfl c_TM_33 g_TM_isWithin rfl rfl rfl (p_le (by omega) (Nat.le_refl _) (Nat.le_refl _) (c_isWithin (d := d))) (fun v w hq => ?_)
  obtain ⟨rfl, hw9⟩ := hq
  have hw9 := hw9.symm
  subst hw9
  refine p_ifT rfl hx ?_
  refine p_s rfl rfl ?_
  refine p_get rfl f_TM_20 h.1 rfl ?_
  refine p_ifT rfl hp ?_
  refine p_s rfl rfl ?_
  refine p_s rfl rfl ?_
  refine p_s rfl rfl ?_
  refine p_s rfl rfl ?_
  refine p_s rfl rfl ?_
  refine p_s rfl rfl ?_
  refine p_ifF rfl hy ?_
  refine p_s rfl rfl ?_
  refine p_get rfl f_TM_16 h.1 rfl ?_
  refine p_s rfl rfl ?_
  refine p_s rfl rfl ?_
  refine p_goto rfl ?_
  refine p_put rfl fp_TM_16 h.1 rfl rfl (by exact Nat.le_of_ble_eq_true rfl) ?_
  have h1 : CR G R (px_up ws o (oTM (ad 6 1) (ad 6 0) (d_g σ 0 ||| (1 <<< (x &&& 31))) (d_g σ 1) (d_g σ 2) (d_g σ 3))) o ad (stG σ (upG (d_g σ) 0 (d_g σ 0 ||| (1 <<< (x &&& 31))))) := h.tm (upG (d_g σ) 0 (d_g σ 0 ||| (1 <<< (x &&& 31))))
  have k1 : px_kp Kr ws (px_up ws o (oTM (ad 6 1) (ad 6 0) (d_g σ 0 ||| (1 <<< (x &&& 31))) (d_g σ 1) (d_g σ 2) (d_g σ 3))) := px_kp.up h.1 rfl
  refine p_s rfl rfl ?_
  refine p_get rfl f_TM_16 h1.1 rfl ?_
  refine p_callS rfl c_TM_144 g_Itg_bitCount rfl rfl rfl (p_le (by omega) (Nat.le_refl _) (Nat.le_refl _) (c_bitCount (d := d))) (fun v w hq => ?_)
  obtain ⟨rfl, hw9⟩ := hq
  subst hw9
  exact p_iret rfl rfl rfl ⟨rfl, ad, h1, k1⟩
set_option maxHeartbeats 4000000 in
theorem o_enable0 {G : px_G} {ws : va_W} {d : Nat} {R : Int32} {o : Nat} {ad : Nat → Nat → Nat} {σ : Md} (h : CR G R ws o ad σ) {x y : Int32} (hx : ¬ isw x 0 31 = 0) (hp : ¬ d_g σ 1 = 0) (hy : y = 0) : px G m_TM_enable 0 (lv_args 0 [.ref o, .int x, .int y]) [] ws (d + 10) 4 2008 (OPc G R o ws (bcF (d_g σ 0 &&& ((1 <<< (x &&& 31)) ^^^ -1))) (stG σ (upG (d_g σ) 0 (d_g σ 0 &&& ((1 <<< (x &&& 31)) ^^^ -1))))) := by
  refine p_s rfl rfl ?_
  refine p_s rfl rfl ?_
  refine p_s rfl rfl ?_
  refine p_callS rfl c_TM_33 g_TM_isWithin rfl rfl rfl (p_le (by omega) (Nat.le_refl _) (Nat.le_refl _) (c_isWithin (d := d))) (fun v w hq => ?_)
  obtain ⟨rfl, hw9⟩ := hq
  have hw9 := hw9.symm
  subst hw9
  refine p_ifT rfl hx ?_
  refine p_s rfl rfl ?_
  refine p_get rfl f_TM_20 h.1 rfl ?_
  refine p_ifT rfl hp ?_
  refine p_s rfl rfl ?_
  refine p_s rfl rfl ?_
  refine p_s rfl rfl ?_
  refine p_s rfl rfl ?_
  refine p_s rfl rfl ?_
  refine p_s rfl rfl ?_
  refine p_ifT rfl hy ?_
  refine p_s rfl rfl ?_
  refine p_get rfl f_TM_16 h.1 rfl ?_
  refine p_s rfl rfl ?_
  refine p_s rfl rfl ?_
  refine p_s rfl rfl ?_
  refine p_s rfl rfl ?_
  refine p_put rfl fp_TM_16 h.1 rfl rfl (by exact Nat.le_of_ble_eq_true rfl) ?_
  have h1 : CR G R (px_up ws o (oTM (ad 6 1) (ad 6 0) (d_g σ 0 &&& ((1 <<< (x &&& 31)) ^^^ -1)) (d_g σ 1) (d_g σ 2) (d_g σ 3))) o ad (stG σ (upG (d_g σ) 0 (d_g σ 0 &&& ((1 <<< (x &&& 31)) ^^^ -1)))) := h.tm (upG (d_g σ) 0 (d_g σ 0 &&& ((1 <<< (x &&& 31)) ^^^ -1)))
  have k1 : px_kp Kr ws (px_up ws o (oTM (ad 6 1) (ad 6 0) (d_g σ 0 &&& ((1 <<< (x &&& 31)) ^^^ -1)) (d_g σ 1) (d_g σ 2) (d_g σ 3))) := px_kp.up h.1 rfl
  refine p_s rfl rfl ?_
  refine p_get rfl f_TM_16 h1.1 rfl ?_
  refine p_callS rfl c_TM_144 g_Itg_bitCount rfl rfl rfl (p_le (by omega) (Nat.le_refl _) (Nat.le_refl _) (c_bitCount (d := d))) (fun v w hq => ?_)
  obtain ⟨rfl, hw9⟩ := hq
  subst hw9
  exact p_iret rfl rfl rfl ⟨rfl, ad, h1, k1⟩
/-- f at i, i + 1, .. k times -/
def fdR (f : Md → Nat → Md) : Nat → Nat → Md → Md
  | 0, _, σ => σ
  | k + 1, i, σ => fdR f k (i + 1) (f σ i)
def startM (σ : Md) (i : Nat) : Md := stX (stA σ 3 i (d_A σ 7 i) (d_A σ 8 i) (d_A σ 9 i) (d_A σ 10 i)) 11 i 0
abbrev startF (σ : Md) : Md := stG (fdR startM (d_n σ) 0 σ) (upG (upG (d_g (fdR startM (d_n σ) 0 σ)) 0 (-1)) 1 1)
set_option maxHeartbeats 4000000 in
theorem c_start_loop {G : px_G} {d : Nat} {R : Int32} {o : Nat} {ad : Nat → Nat → Nat} {bc bs : Nat} {Q : Option Value → va_W → Prop} : ∀ (k i : Nat) (ws : va_W) (σ : Md) (x1 : Int32), CR G R ws o ad σ → d_n σ ≤ 200 → i + k = d_n σ → x1 = nI i → (∀ (w : va_W) (y : Int32), CR G R w o ad (fdR startM k i σ) → px_kp Kr ws w → px G m_TM_start 57 [(1, .int y), (0, .ref o)] [] w (d + 10) bc bs Q) → px G m_TM_start 12 [(1, .int x1), (0, .ref o)] [] ws (d + 10) bc bs Q := by
  intro k
  induction k with
  | zero =>
    intro i ws σ x1 h hn hik h1 hK
    subst h1
    have hin : i = d_n σ := by omega
    have hL1 := h.2.2.1.1
    obtain ⟨sz, mc, hL1c⟩ := hL1.cell
    refine p_s rfl rfl ?_
    refine p_s rfl rfl ?_
    refine p_get rfl f_TM_12 h.1 rfl ?_
    refine p_callV rfl c_TM_44 rfl hL1c g_AL_size rfl rfl rfl (p_le (by omega) (Nat.le_refl _) (Nat.le_refl _) (c_size (d := d) hL1)) (fun v w hq => ?_)
    obtain ⟨rfl, hw9⟩ := hq
    have hw9 := hw9.symm
    subst hw9
    rw [c_len]
    refine p_icmpT rfl (show nI (d_n σ) ≤ nI i by rw [hin]; exact Int32.le_refl _) ?_
    exact hK ws _ h px_kp.rf
  | succ k ih =>
    intro i ws σ x1 h hn hik h1 hK
    subst h1
    have hin : i < d_n σ := by omega
    have hL1 := h.2.2.1.1
    obtain ⟨sz, mc, hL1c⟩ := hL1.cell
    have hc := h.2.2.2.2.1 i hin
    refine p_s rfl rfl ?_
    refine p_s rfl rfl ?_
    refine p_get rfl f_TM_12 h.1 rfl ?_
    refine p_callV rfl c_TM_44 rfl hL1c g_AL_size rfl rfl rfl (p_le (by omega) (Nat.le_refl _) (Nat.le_refl _) (c_size (d := d) hL1)) (fun v w hq => ?_)
    obtain ⟨rfl, hw9⟩ := hq
    have hw9 := hw9.symm
    subst hw9
    rw [c_len]
    refine p_icmpF rfl (show ¬ nI (d_n σ) ≤ nI i from nI_ge hin (by omega)) ?_
    refine p_s rfl rfl ?_
    refine p_get rfl f_TM_12 h.1 rfl ?_
    refine p_s rfl rfl ?_
    refine p_callV rfl c_TM_88 rfl hL1c g_AL_get rfl rfl rfl (p_le (by omega) (Nat.le_refl _) (Nat.le_refl _) (c_get (d := d) hL1 (c_at ad hin))) (fun v w hq => ?_)
    obtain ⟨rfl, hw9⟩ := hq
    have hw9 := hw9.symm
    subst hw9
    refine p_castS rfl cs_TM_48 hc.1 ?_
    refine p_s rfl rfl ?_
    refine p_s rfl rfl ?_
    refine p_get rfl f_TM_79 hc.1 rfl ?_
    refine p_s rfl rfl ?_
    refine p_get rfl f_TM_99 hc.1 rfl ?_
    refine p_callV rfl c_TM_102 rfl hc.2.1 g_Sg_copyFrom rfl rfl rfl (p_le (by omega) (Nat.le_refl _) (Nat.le_refl _) (c_copyFrom (d := d) hc.2.1 hc.2.2 (fun z => h.2.2.2.1.2.2.2.2.2.1 i i hin hin z.symm))) (fun v w hq => ?_)
    obtain ⟨rfl, hw9⟩ := hq
    subst hw9
    have h2 : CR G R (px_up ws (ad 1 i) (c_st σ 7 i)) o ad (stA σ 3 i (d_A σ 7 i) (d_A σ 8 i) (d_A σ 9 i) (d_A σ 10 i)) := h.st (b := 3) (Or.inl rfl) hin
    have k2 := px_kp.up (K := Kr) (e := c_st σ 7 i) hc.2.1 rfl
    have hc2 := h2.2.2.2.2.1 i hin
    refine p_s rfl rfl ?_
    refine p_s rfl rfl ?_
    refine p_put rfl fp_TM_164 hc2.1 rfl rfl (by exact Nat.le_of_ble_eq_true rfl) ?_
    have h3 := h2.cnt hin 0
    have k3 := px_kp.up (K := Kr) (e := oCd (nI (i + 1)) (d_A (stA σ 3 i (d_A σ 7 i) (d_A σ 8 i) (d_A σ 9 i) (d_A σ 10 i)) 0 i) (d_A (stA σ 3 i (d_A σ 7 i) (d_A σ 8 i) (d_A σ 9 i) (d_A σ 10 i)) 1 i) (d_A (stA σ 3 i (d_A σ 7 i) (d_A σ 8 i) (d_A σ 9 i) (d_A σ 10 i)) 2 i) (ad 1 i) (ad 2 i) 0 (c_pa ad (d_p σ i)) (c_en ad (e_c σ) i)) hc2.1 rfl
    refine p_s rfl rfl ?_
    refine p_goto rfl ?_
    refine p_lv (lv2 := [(1, .int (nI i + 1)), (0, .ref o)]) (ks := [0, 2]) rfl ?_
    exact ih (i + 1) _ (startM σ i) _ h3 hn (by show i + 1 + k = d_n σ; omega) (nI_1 i) (fun w y a1 a2 => hK w y a1 ((k2.tr k3).tr a2))
set_option maxHeartbeats 4000000 in
theorem o_startC {G : px_G} {ws : va_W} {d : Nat} {R : Int32} {o : Nat} {ad : Nat → Nat → Nat} {σ : Md} (h : CR G R ws o ad σ) (hp : ¬ d_g σ 1 = 0) : px G m_TM_start 0 (lv_args 0 [.ref o]) [] ws (d + 10) 4 2008 (OPc G R o ws (-3) (σ)) := by
  refine p_s rfl rfl ?_
  refine p_get rfl f_TM_20 h.1 rfl ?_
  refine p_ifF rfl hp ?_
  refine p_s rfl rfl ?_
  exact p_iret rfl rfl rfl ⟨rfl, ad, h, px_kp.rf⟩
theorem fdR_e (f : Md → Nat → Md) (P : Md → Md → Prop) (hr : ∀ σ, P σ σ) (ht : ∀ a b c, P a b → P b c → P a c) (hf : ∀ σ i, P σ (f σ i)) : ∀ (k i : Nat) (σ : Md), P σ (fdR f k i σ)
  | 0, _, σ => hr σ
  | k + 1, i, σ => ht _ _ _ (hf σ i) (fdR_e f P hr ht hf k (i + 1) (f σ i))
theorem fdR_start_e (k i : Nat) (σ : Md) : e_c (fdR startM k i σ) = e_c σ := fdR_e startM (fun a b => e_c b = e_c a) (fun _ => rfl) (fun _ _ _ h1 h2 => h2.trans h1) (fun _ _ => rfl) k i σ
set_option maxHeartbeats 4000000 in
theorem o_start {G : px_G} {ws : va_W} {d : Nat} {R : Int32} {o : Nat} {ad : Nat → Nat → Nat} {σ : Md} (h : CR G R ws o ad σ) (hn : d_n σ ≤ 200) (hp : d_g σ 1 = 0) : px G m_TM_start 0 (lv_args 0 [.ref o]) [] ws (d + 10) 4 2008 (OPc G R o ws (nI (e_c σ).length) (startF σ)) := by
  refine p_s rfl rfl ?_
  refine p_get rfl f_TM_20 h.1 rfl ?_
  refine p_ifT rfl hp ?_
  refine p_s rfl rfl ?_
  refine p_s rfl rfl ?_
  refine c_start_loop (d_n σ) 0 ws σ _ h hn (by omega) rfl (fun w y h1 k1 => ?_)
  refine p_s rfl rfl ?_
  refine p_s rfl rfl ?_
  refine p_put rfl fp_TM_16 h1.1 rfl rfl (by exact Nat.le_of_ble_eq_true rfl) ?_
  have h2 : CR G R (px_up w o (oTM (ad 6 1) (ad 6 0) (-1) (d_g (fdR startM (d_n σ) 0 σ) 1) (d_g (fdR startM (d_n σ) 0 σ) 2) (d_g (fdR startM (d_n σ) 0 σ) 3))) o ad (stG (fdR startM (d_n σ) 0 σ) (upG (d_g (fdR startM (d_n σ) 0 σ)) 0 (-1))) := h1.tm (upG (d_g (fdR startM (d_n σ) 0 σ)) 0 (-1))
  have k2 := px_kp.up (K := Kr) (e := oTM (ad 6 1) (ad 6 0) (-1) (d_g (fdR startM (d_n σ) 0 σ) 1) (d_g (fdR startM (d_n σ) 0 σ) 2) (d_g (fdR startM (d_n σ) 0 σ) 3)) h1.1 rfl
  refine p_s rfl rfl ?_
  refine p_s rfl rfl ?_
  refine p_put rfl fp_TM_20 h2.1 rfl rfl (by exact Nat.le_of_ble_eq_true rfl) ?_
  have h3 := h2.tm (upG (upG (d_g (fdR startM (d_n σ) 0 σ)) 0 (-1)) 1 1)
  have k3 := px_kp.up (K := Kr) (e := oTM (ad 6 1) (ad 6 0) (-1) 1 (d_g (fdR startM (d_n σ) 0 σ) 2) (d_g (fdR startM (d_n σ) 0 σ) 3)) h2.1 rfl
  have hL2 := h3.2.2.1.2.1
  obtain ⟨sz, mc, hL2c⟩ := hL2.cell
  refine p_s rfl rfl ?_
  refine p_get rfl f_TM_40 h3.1 rfl ?_
  refine p_get rfl f_TM_152 h3.2.1 rfl ?_
  refine p_callV rfl c_TM_44 rfl hL2c g_AL_size rfl rfl rfl (p_le (by omega) (Nat.le_refl _) (Nat.le_refl _) (c_size (d := d) hL2)) (fun v w hq => ?_)
  obtain ⟨rfl, hw9⟩ := hq
  subst hw9
  rw [List.length_map]
  exact p_iret rfl rfl rfl ⟨by rw [show e_c (stG (stG (fdR startM (d_n σ) 0 σ) (upG (d_g (fdR startM (d_n σ) 0 σ)) 0 (-1))) (upG (upG (d_g (fdR startM (d_n σ) 0 σ)) 0 (-1)) 1 1)) = e_c σ from fdR_start_e _ _ _], ad, h3, (k1.tr k2).tr k3⟩
end
section
/-! THE CLASS: cycle -/
abbrev g_S (σ : Md) (i : Nat) : Int32 := sGoodS (d_A σ 3 i) (d_A σ 6 i)
abbrev g_T (σ : Md) (i : Nat) : Int32 := sGoodT (d_A σ 3 i) (d_A σ 4 i)
abbrev g_G (σ : Md) (i : Nat) : Int32 := mn255 (d_A σ 6 i + 1)
def endM (t : Int32) (σ : Md) (i : Nat) : Md :=
  if sHas (d_A σ 3 i) 2 = 0 ∧ sHas (d_A σ 3 i) 64 = 0 then
    if t = 0 then stA σ 3 i (g_S σ i) (g_T σ i) (d_A σ 5 i) (g_G σ i)
    else if ¬ sHas (g_S σ i) 8 = 0 ∧ sHas (g_S σ i) 1 = 0 then
      if d_A σ 5 i + 1 < 40 then stA σ 3 i (g_S σ i) (g_T σ i) (d_A σ 5 i + 1) (g_G σ i)
      else stE (stA σ 3 i (g_S σ i &&& -9) 0 0 0) (dropE (d_e σ) i)
    else stA σ 3 i (g_S σ i) (g_T σ i) (d_A σ 5 i) (g_G σ i)
  else σ
theorem endM_n (t : Int32) (σ : Md) (i : Nat) : d_n (endM t σ i) = d_n σ := by
  unfold endM
  split
  · split
    · rfl
    · split
      · split <;> rfl
      · rfl
  · rfl
set_option maxHeartbeats 4000000 in
theorem c_endCycle {G : px_G} {ws : va_W} {d : Nat} {R : Int32} {o : Nat} {ad : Nat → Nat → Nat} {σ : Md} (h : CR G R ws o ad σ) (hnd : (e_c σ).Nodup) (hlen : (e_c σ).length ≤ 500) {i : Nat} (hi : i < d_n σ) {t : Int32} : px G m_TM_endCycle 0 (lv_args 0 [.ref o, .ref (ad 0 i), .int t]) [] ws (d + 8) 0 0 (fun v w => v = none ∧ CR G R w o ad (endM t σ i) ∧ px_kp Kr ws w) := by
  have hc := h.2.2.2.2.1 i hi
  have hcd : ∀ e, px_lk (px_up ws (ad 1 i) e) (ad 0 i) = some (c_cd ad σ i) := fun e => px_keepK hc.2.1 hc.1 (Nat.ne_of_beq_eq_false rfl)
  have ht : px_lk (px_up ws (ad 1 i) (oSg (g_S σ i) (g_T σ i) (d_A σ 5 i) (g_G σ i))) (ad 1 i) = some (oSg (g_S σ i) (g_T σ i) (d_A σ 5 i) (g_G σ i)) := px_lk_same _ _ _ _ hc.2.1
  have s1 : ∀ s t a g, CR G R (px_up ws (ad 1 i) (oSg s t a g)) o ad (stA σ 3 i s t a g) := fun s t a g => h.st (b := 3) (Or.inl rfl) hi
  have k1 : ∀ e, px_kp Kr ws (px_up ws (ad 1 i) e) := fun e => px_kp.up hc.2.1 rfl
  by_cases hg : sHas (d_A σ 3 i) 2 = 0 ∧ sHas (d_A σ 3 i) 64 = 0
  · by_cases h0 : t = 0
    · skip
      refine p_s rfl rfl ?_
      refine p_get rfl f_TM_79 hc.1 rfl ?_
      refine p_callV rfl c_TM_198 rfl hc.2.1 g_Sg_wasOnlyGood rfl rfl rfl (p_le (by omega) (Nat.le_refl _) (Nat.le_refl _) (c_wasOnlyGood (d := d) hc.2.1)) (fun v w hq => ?_)
      obtain ⟨rfl, hw9⟩ := hq
      have hw9 := hw9.symm
      subst hw9
      rw [if_pos hg]
      refine p_ifT rfl (show ¬ (1 : Int32) = 0 by decide) ?_
      refine p_s rfl rfl ?_
      refine p_get rfl f_TM_79 hc.1 rfl ?_
      refine p_callV rfl c_TM_201 rfl hc.2.1 g_Sg_addGoodCycle rfl rfl rfl (p_le (by omega) (Nat.le_refl _) (Nat.le_refl _) (c_addGoodCycle (d := d) hc.2.1)) (fun v w hq => ?_)
      obtain ⟨rfl, hw9⟩ := hq
      subst hw9
      refine p_s rfl rfl ?_
      refine p_ifT rfl h0 ?_
      refine p_vret rfl rfl ⟨rfl, ?_, k1 _⟩
      rw [endM, if_pos hg, if_pos h0]
      exact s1 _ _ _ _
    · by_cases ha : ¬ sHas (g_S σ i) 8 = 0 ∧ sHas (g_S σ i) 1 = 0
      · by_cases h4 : d_A σ 5 i + 1 < 40
        · skip
          refine p_s rfl rfl ?_
          refine p_get rfl f_TM_79 hc.1 rfl ?_
          refine p_callV rfl c_TM_198 rfl hc.2.1 g_Sg_wasOnlyGood rfl rfl rfl (p_le (by omega) (Nat.le_refl _) (Nat.le_refl _) (c_wasOnlyGood (d := d) hc.2.1)) (fun v w hq => ?_)
          obtain ⟨rfl, hw9⟩ := hq
          have hw9 := hw9.symm
          subst hw9
          rw [if_pos hg]
          refine p_ifT rfl (show ¬ (1 : Int32) = 0 by decide) ?_
          refine p_s rfl rfl ?_
          refine p_get rfl f_TM_79 hc.1 rfl ?_
          refine p_callV rfl c_TM_201 rfl hc.2.1 g_Sg_addGoodCycle rfl rfl rfl (p_le (by omega) (Nat.le_refl _) (Nat.le_refl _) (c_addGoodCycle (d := d) hc.2.1)) (fun v w hq => ?_)
          obtain ⟨rfl, hw9⟩ := hq
          subst hw9
          refine p_s rfl rfl ?_
          refine p_ifF rfl h0 ?_
          refine p_s rfl rfl ?_
          refine p_get rfl f_TM_79 (hcd _) rfl ?_
          refine p_callV rfl c_TM_204 rfl ht g_Sg_ages rfl rfl rfl (p_le (by omega) (Nat.le_refl _) (Nat.le_refl _) (c_ages (d := d) ht)) (fun v w hq => ?_)
          obtain ⟨rfl, hw9⟩ := hq
          subst hw9
          rw [if_pos ha]
          refine p_ifF rfl (show ¬ (1 : Int32) = 0 by decide) ?_
          refine p_s rfl rfl ?_
          refine p_get rfl f_TM_79 (hcd _) rfl ?_
          refine p_s rfl rfl ?_
          refine p_get2 rfl f_TM_170 hc.2.1 rfl ?_
          refine p_s rfl rfl ?_
          refine p_s rfl rfl ?_
          refine p_put2 rfl fp_TM_170 hc.2.1 rfl rfl (by exact Nat.le_of_ble_eq_true rfl) ?_
          refine p_s rfl rfl ?_
          refine p_get rfl f_TM_79 (hcd _) rfl ?_
          refine p_get2 rfl f_TM_170 hc.2.1 rfl ?_
          refine p_s rfl rfl ?_
          refine p_icmpT rfl h4 ?_
          refine p_vret rfl rfl ⟨rfl, ?_, k1 _⟩
          rw [endM, if_pos hg, if_neg h0, if_pos ha, if_pos h4]
          exact s1 _ _ _ _
        · skip
          refine p_s rfl rfl ?_
          refine p_get rfl f_TM_79 hc.1 rfl ?_
          refine p_callV rfl c_TM_198 rfl hc.2.1 g_Sg_wasOnlyGood rfl rfl rfl (p_le (by omega) (Nat.le_refl _) (Nat.le_refl _) (c_wasOnlyGood (d := d) hc.2.1)) (fun v w hq => ?_)
          obtain ⟨rfl, hw9⟩ := hq
          have hw9 := hw9.symm
          subst hw9
          rw [if_pos hg]
          refine p_ifT rfl (show ¬ (1 : Int32) = 0 by decide) ?_
          refine p_s rfl rfl ?_
          refine p_get rfl f_TM_79 hc.1 rfl ?_
          refine p_callV rfl c_TM_201 rfl hc.2.1 g_Sg_addGoodCycle rfl rfl rfl (p_le (by omega) (Nat.le_refl _) (Nat.le_refl _) (c_addGoodCycle (d := d) hc.2.1)) (fun v w hq => ?_)
          obtain ⟨rfl, hw9⟩ := hq
          subst hw9
          refine p_s rfl rfl ?_
          refine p_ifF rfl h0 ?_
          refine p_s rfl rfl ?_
          refine p_get rfl f_TM_79 (hcd _) rfl ?_
          refine p_callV rfl c_TM_204 rfl ht g_Sg_ages rfl rfl rfl (p_le (by omega) (Nat.le_refl _) (Nat.le_refl _) (c_ages (d := d) ht)) (fun v w hq => ?_)
          obtain ⟨rfl, hw9⟩ := hq
          subst hw9
          rw [if_pos ha]
          refine p_ifF rfl (show ¬ (1 : Int32) = 0 by decide) ?_
          refine p_s rfl rfl ?_
          refine p_get rfl f_TM_79 (hcd _) rfl ?_
          refine p_s rfl rfl ?_
          refine p_get2 rfl f_TM_170 hc.2.1 rfl ?_
          refine p_s rfl rfl ?_
          refine p_s rfl rfl ?_
          refine p_put2 rfl fp_TM_170 hc.2.1 rfl rfl (by exact Nat.le_of_ble_eq_true rfl) ?_
          refine p_s rfl rfl ?_
          refine p_get rfl f_TM_79 (hcd _) rfl ?_
          refine p_get2 rfl f_TM_170 hc.2.1 rfl ?_
          refine p_s rfl rfl ?_
          refine p_icmpF rfl h4 ?_
          refine p_s rfl rfl ?_
          refine p_get rfl f_TM_79 (hcd _) rfl ?_
          refine p_callV rfl c_TM_207 rfl (px_lk_same _ _ _ _ hc.2.1) g_Sg_heal rfl rfl rfl (p_le (by omega) (Nat.le_refl _) (Nat.le_refl _) (c_heal (d := d) (px_lk_same ws (ad 1 i) _ (oSg (g_S σ i) (g_T σ i) (d_A σ 5 i + 1) (g_G σ i)) hc.2.1))) (fun v w hq => ?_)
          obtain ⟨rfl, hw9⟩ := hq
          rw [px_up_up] at hw9
          subst hw9
          have h3 := s1 (g_S σ i &&& -9) 0 0 0
          refine p_s rfl rfl ?_
          refine p_get rfl f_TM_40 h3.1 rfl ?_
          refine p_s rfl rfl ?_
          refine p_callV rfl c_TM_130 rfl h3.2.1 g_Mem_drop rfl rfl rfl (p_le (by omega) (Nat.le_refl _) (Nat.le_refl _) (c_drop (d := d) h3 hnd (Nat.le_trans hlen (by decide)) hi)) (fun v w hq => ?_)
          obtain ⟨rfl, hcr, hkp⟩ := hq
          refine p_vret rfl rfl ⟨rfl, ?_, (k1 _).tr hkp⟩
          rw [endM, if_pos hg, if_neg h0, if_pos ha, if_neg h4]
          exact hcr
      · skip
        refine p_s rfl rfl ?_
        refine p_get rfl f_TM_79 hc.1 rfl ?_
        refine p_callV rfl c_TM_198 rfl hc.2.1 g_Sg_wasOnlyGood rfl rfl rfl (p_le (by omega) (Nat.le_refl _) (Nat.le_refl _) (c_wasOnlyGood (d := d) hc.2.1)) (fun v w hq => ?_)
        obtain ⟨rfl, hw9⟩ := hq
        have hw9 := hw9.symm
        subst hw9
        rw [if_pos hg]
        refine p_ifT rfl (show ¬ (1 : Int32) = 0 by decide) ?_
        refine p_s rfl rfl ?_
        refine p_get rfl f_TM_79 hc.1 rfl ?_
        refine p_callV rfl c_TM_201 rfl hc.2.1 g_Sg_addGoodCycle rfl rfl rfl (p_le (by omega) (Nat.le_refl _) (Nat.le_refl _) (c_addGoodCycle (d := d) hc.2.1)) (fun v w hq => ?_)
        obtain ⟨rfl, hw9⟩ := hq
        subst hw9
        refine p_s rfl rfl ?_
        refine p_ifF rfl h0 ?_
        refine p_s rfl rfl ?_
        refine p_get rfl f_TM_79 (hcd _) rfl ?_
        refine p_callV rfl c_TM_204 rfl ht g_Sg_ages rfl rfl rfl (p_le (by omega) (Nat.le_refl _) (Nat.le_refl _) (c_ages (d := d) ht)) (fun v w hq => ?_)
        obtain ⟨rfl, hw9⟩ := hq
        subst hw9
        rw [if_neg ha]
        refine p_ifT rfl (show (0 : Int32) = 0 from rfl) ?_
        refine p_vret rfl rfl ⟨rfl, ?_, k1 _⟩
        rw [endM, if_pos hg, if_neg h0, if_neg ha]
        exact s1 _ _ _ _
  · skip
    refine p_s rfl rfl ?_
    refine p_get rfl f_TM_79 hc.1 rfl ?_
    refine p_callV rfl c_TM_198 rfl hc.2.1 g_Sg_wasOnlyGood rfl rfl rfl (p_le (by omega) (Nat.le_refl _) (Nat.le_refl _) (c_wasOnlyGood (d := d) hc.2.1)) (fun v w hq => ?_)
    obtain ⟨rfl, hw9⟩ := hq
    have hw9 := hw9.symm
    subst hw9
    rw [if_neg hg]
    refine p_ifF rfl (show (0 : Int32) = 0 from rfl) ?_
    refine p_vret rfl rfl ⟨rfl, ?_, px_kp.rf⟩
    rw [endM, if_neg hg]
    exact h
abbrev b_S (σ : Md) (i : Nat) : Int32 := (d_A σ 3 i &&& -3) ||| 64
def begM (σ : Md) (i : Nat) : Md := stA (stA σ 3 i (b_S σ i) (d_A σ 4 i) (d_A σ 5 i) (d_A σ 6 i)) 7 i (b_S σ i) (d_A σ 4 i) (d_A σ 5 i) (d_A σ 6 i)
theorem endM_e (t : Int32) (σ : Md) (i : Nat) : e_c (endM t σ i) = e_c σ ∨ e_c (endM t σ i) = (dropE (d_e σ) i).map (fun x => x.1) := by
  unfold endM
  split
  · split
    · exact Or.inl rfl
    · split
      · split
        · exact Or.inl rfl
        · exact Or.inr rfl
      · exact Or.inl rfl
  · exact Or.inl rfl
theorem dropE_nd {es : List En4} {i : Nat} (h : (es.map (fun x => x.1)).Nodup) : ((dropE es i).map (fun x => x.1)).Nodup := List.Nodup.sublist (List.Sublist.map _ List.filter_sublist) h
theorem endM_ok (t : Int32) (σ : Md) (i : Nat) (hnd : (e_c σ).Nodup) (hlen : (e_c σ).length ≤ 500) : (e_c (endM t σ i)).Nodup ∧ (e_c (endM t σ i)).length ≤ 500 := by
  rcases endM_e t σ i with e | e
  · rw [e]; exact ⟨hnd, hlen⟩
  · rw [e]
    refine ⟨dropE_nd hnd, Nat.le_trans ?_ hlen⟩
    rw [List.length_map, List.length_map]
    exact dropE_len
set_option maxHeartbeats 4000000 in
theorem c_cyc1 {G : px_G} {d : Nat} {R : Int32} {o : Nat} {ad : Nat → Nat → Nat} {t : Int32} {bc bs : Nat} {Q : Option Value → va_W → Prop} : ∀ (k i : Nat) (ws : va_W) (σ : Md) (x1 : Int32), CR G R ws o ad σ → d_n σ ≤ 200 → (e_c σ).Nodup → (e_c σ).length ≤ 500 → i + k = d_n σ → x1 = nI i → (∀ (w : va_W) (y : Int32), CR G R w o ad (fdR (endM t) k i σ) → px_kp Kr ws w → px G m_TM_cycle 45 [(2, .int y), (0, .ref o), (1, .int t)] [] w (d + 10) bc bs Q) → px G m_TM_cycle 12 [(2, .int x1), (0, .ref o), (1, .int t)] [] ws (d + 10) bc bs Q := by
  intro k
  induction k with
  | zero =>
    intro i ws σ x1 h hn hnd hlen hik h1 hK
    subst h1
    have hin : i = d_n σ := by omega
    have hL1 := h.2.2.1.1
    obtain ⟨sz, mc, hL1c⟩ := hL1.cell
    refine p_s rfl rfl ?_
    refine p_s rfl rfl ?_
    refine p_get rfl f_TM_12 h.1 rfl ?_
    refine p_callV rfl c_TM_44 rfl hL1c g_AL_size rfl rfl rfl (p_le (by omega) (Nat.le_refl _) (Nat.le_refl _) (c_size (d := d) hL1)) (fun v w hq => ?_)
    obtain ⟨rfl, hw9⟩ := hq
    have hw9 := hw9.symm
    subst hw9
    rw [c_len]
    refine p_icmpT rfl (show nI (d_n σ) ≤ nI i by rw [hin]; exact Int32.le_refl _) ?_
    exact hK ws _ h px_kp.rf
  | succ k ih =>
    intro i ws σ x1 h hn hnd hlen hik h1 hK
    subst h1
    have hin : i < d_n σ := by omega
    have hL1 := h.2.2.1.1
    obtain ⟨sz, mc, hL1c⟩ := hL1.cell
    have hc := h.2.2.2.2.1 i hin
    refine p_s rfl rfl ?_
    refine p_s rfl rfl ?_
    refine p_get rfl f_TM_12 h.1 rfl ?_
    refine p_callV rfl c_TM_44 rfl hL1c g_AL_size rfl rfl rfl (p_le (by omega) (Nat.le_refl _) (Nat.le_refl _) (c_size (d := d) hL1)) (fun v w hq => ?_)
    obtain ⟨rfl, hw9⟩ := hq
    have hw9 := hw9.symm
    subst hw9
    rw [c_len]
    refine p_icmpF rfl (show ¬ nI (d_n σ) ≤ nI i from nI_ge hin (by omega)) ?_
    refine p_s rfl rfl ?_
    refine p_s rfl rfl ?_
    refine p_get rfl f_TM_12 h.1 rfl ?_
    refine p_s rfl rfl ?_
    refine p_callV rfl c_TM_88 rfl hL1c g_AL_get rfl rfl rfl (p_le (by omega) (Nat.le_refl _) (Nat.le_refl _) (c_get (d := d) hL1 (c_at ad hin))) (fun v w hq => ?_)
    obtain ⟨rfl, hw9⟩ := hq
    have hw9 := hw9.symm
    subst hw9
    refine p_castS rfl cs_TM_48 hc.1 ?_
    refine p_s rfl rfl ?_
    refine p_callV rfl c_TM_92 rfl h.1 g_TM_endCycle rfl rfl rfl (p_le (by omega) (Nat.le_refl _) (Nat.le_refl _) (c_endCycle (d := d) h hnd hlen hin)) (fun v w hq => ?_)
    obtain ⟨rfl, h2, k2⟩ := hq
    refine p_s rfl rfl ?_
    refine p_goto rfl ?_
    have hok := endM_ok t σ i hnd hlen
    exact ih (i + 1) _ (endM t σ i) _ h2 (by rw [endM_n]; exact hn) hok.1 hok.2 (by rw [endM_n]; omega) (nI_1 i) (fun w y a1 a2 => hK w y a1 (k2.tr a2))
set_option maxHeartbeats 4000000 in
theorem c_cyc2 {G : px_G} {d : Nat} {R : Int32} {o : Nat} {ad : Nat → Nat → Nat} {t : Int32} {bc bs : Nat} {Q : Option Value → va_W → Prop} : ∀ (k i : Nat) (ws : va_W) (σ : Md) (x1 : Int32), CR G R ws o ad σ → d_n σ ≤ 200 → i + k = d_n σ → x1 = nI i → (∀ (w : va_W) (y : Int32), CR G R w o ad (fdR begM k i σ) → px_kp Kr ws w → px G m_TM_cycle 94 [(2, .int y), (0, .ref o), (1, .int t)] [] w (d + 10) bc bs Q) → px G m_TM_cycle 47 [(2, .int x1), (0, .ref o), (1, .int t)] [] ws (d + 10) bc bs Q := by
  intro k
  induction k with
  | zero =>
    intro i ws σ x1 h hn hik h1 hK
    subst h1
    have hin : i = d_n σ := by omega
    have hL1 := h.2.2.1.1
    obtain ⟨sz, mc, hL1c⟩ := hL1.cell
    refine p_s rfl rfl ?_
    refine p_s rfl rfl ?_
    refine p_get rfl f_TM_12 h.1 rfl ?_
    refine p_callV rfl c_TM_44 rfl hL1c g_AL_size rfl rfl rfl (p_le (by omega) (Nat.le_refl _) (Nat.le_refl _) (c_size (d := d) hL1)) (fun v w hq => ?_)
    obtain ⟨rfl, hw9⟩ := hq
    have hw9 := hw9.symm
    subst hw9
    rw [c_len]
    refine p_icmpT rfl (show nI (d_n σ) ≤ nI i by rw [hin]; exact Int32.le_refl _) ?_
    exact hK ws _ h px_kp.rf
  | succ k ih =>
    intro i ws σ x1 h hn hik h1 hK
    subst h1
    have hin : i < d_n σ := by omega
    have hL1 := h.2.2.1.1
    obtain ⟨sz, mc, hL1c⟩ := hL1.cell
    have hc := h.2.2.2.2.1 i hin
    refine p_s rfl rfl ?_
    refine p_s rfl rfl ?_
    refine p_get rfl f_TM_12 h.1 rfl ?_
    refine p_callV rfl c_TM_44 rfl hL1c g_AL_size rfl rfl rfl (p_le (by omega) (Nat.le_refl _) (Nat.le_refl _) (c_size (d := d) hL1)) (fun v w hq => ?_)
    obtain ⟨rfl, hw9⟩ := hq
    have hw9 := hw9.symm
    subst hw9
    rw [c_len]
    refine p_icmpF rfl (show ¬ nI (d_n σ) ≤ nI i from nI_ge hin (by omega)) ?_
    refine p_s rfl rfl ?_
    refine p_get rfl f_TM_12 h.1 rfl ?_
    refine p_s rfl rfl ?_
    refine p_callV rfl c_TM_88 rfl hL1c g_AL_get rfl rfl rfl (p_le (by omega) (Nat.le_refl _) (Nat.le_refl _) (c_get (d := d) hL1 (c_at ad hin))) (fun v w hq => ?_)
    obtain ⟨rfl, hw9⟩ := hq
    have hw9 := hw9.symm
    subst hw9
    refine p_castS rfl cs_TM_48 hc.1 ?_
    refine p_s rfl rfl ?_
    refine p_s rfl rfl ?_
    refine p_get rfl f_TM_79 hc.1 rfl ?_
    refine p_callV rfl c_TM_96 rfl hc.2.1 g_Sg_beginCycle rfl rfl rfl (p_le (by omega) (Nat.le_refl _) (Nat.le_refl _) (c_beginCycle (d := d) hc.2.1)) (fun v w hq => ?_)
    obtain ⟨rfl, hw9⟩ := hq
    subst hw9
    have h2 : CR G R (px_up ws (ad 1 i) (oSg (b_S σ i) (d_A σ 4 i) (d_A σ 5 i) (d_A σ 6 i))) o ad (stA σ 3 i (b_S σ i) (d_A σ 4 i) (d_A σ 5 i) (d_A σ 6 i)) := h.st (b := 3) (Or.inl rfl) hin
    have k2 := px_kp.up (K := Kr) (e := oSg (b_S σ i) (d_A σ 4 i) (d_A σ 5 i) (d_A σ 6 i)) hc.2.1 rfl
    have hc2 := h2.2.2.2.2.1 i hin
    have hn2 := px_lk_same ws (ad 1 i) _ (oSg (b_S σ i) (d_A σ 4 i) (d_A σ 5 i) (d_A σ 6 i)) hc.2.1
    refine p_s rfl rfl ?_
    refine p_get rfl f_TM_99 hc2.1 rfl ?_
    refine p_s rfl rfl ?_
    refine p_get rfl f_TM_79 hc2.1 rfl ?_
    refine p_callV rfl c_TM_102 rfl hc2.2.2 g_Sg_copyFrom rfl rfl rfl (p_le (by omega) (Nat.le_refl _) (Nat.le_refl _) (c_copyFrom (d := d) hc2.2.2 hn2 (h.2.2.2.1.2.2.2.2.2.1 i i hin hin))) (fun v w hq => ?_)
    obtain ⟨rfl, hw9⟩ := hq
    subst hw9
    have h3 : CR G R (px_up (px_up ws (ad 1 i) (oSg (b_S σ i) (d_A σ 4 i) (d_A σ 5 i) (d_A σ 6 i))) (ad 2 i) (oSg (b_S σ i) (d_A σ 4 i) (d_A σ 5 i) (d_A σ 6 i))) o ad (begM σ i) := h2.st (b := 7) (Or.inr rfl) hin
    have k3 := px_kp.up (K := Kr) (e := oSg (b_S σ i) (d_A σ 4 i) (d_A σ 5 i) (d_A σ 6 i)) hc2.2.2 rfl
    refine p_s rfl rfl ?_
    refine p_goto rfl ?_
    refine p_lv (lv2 := [(2, .int (nI i + 1)), (0, .ref o), (1, .int t)]) (ks := [0, 2, 3]) rfl ?_
    exact ih (i + 1) _ (begM σ i) _ h3 hn (by show i + 1 + k = d_n σ; omega) (nI_1 i) (fun w y a1 a2 => hK w y a1 ((k2.tr k3).tr a2))
theorem fdR_end_n (t : Int32) (k i : Nat) (σ : Md) : d_n (fdR (endM t) k i σ) = d_n σ := fdR_e (endM t) (fun a b => d_n b = d_n a) (fun _ => rfl) (fun _ _ _ h1 h2 => h2.trans h1) (fun σ i => endM_n t σ i) k i σ
/-- a cycle's end -/
abbrev cycA (t : Int32) (σ : Md) : Md := fdR (endM t) (d_n σ) 0 σ
abbrev cycB (t : Int32) (σ : Md) : Md := fdR begM (d_n σ) 0 (cycA t σ)
abbrev cycF (t : Int32) (σ : Md) : Md := stG (cycB t σ) (upG (d_g (cycB t σ)) 2 (d_g (cycB t σ) 2 + 1))
set_option maxHeartbeats 4000000 in
theorem o_cycleC {G : px_G} {ws : va_W} {d : Nat} {R : Int32} {o : Nat} {ad : Nat → Nat → Nat} {σ : Md} (h : CR G R ws o ad σ) {t : Int32} (hp : d_g σ 1 = 0) : px G m_TM_cycle 0 (lv_args 0 [.ref o, .int t]) [] ws (d + 10) 4 2008 (OPc G R o ws (-3) (σ)) := by
  refine p_s rfl rfl ?_
  refine p_get rfl f_TM_20 h.1 rfl ?_
  refine p_ifF rfl hp ?_
  refine p_s rfl rfl ?_
  exact p_iret rfl rfl rfl ⟨rfl, ad, h, px_kp.rf⟩
set_option maxHeartbeats 4000000 in
theorem o_cycle {G : px_G} {ws : va_W} {d : Nat} {R : Int32} {o : Nat} {ad : Nat → Nat → Nat} {σ : Md} (h : CR G R ws o ad σ) {t : Int32} (hn : d_n σ ≤ 200) (hnd : (e_c σ).Nodup) (hlen : (e_c σ).length ≤ 500) (hp : ¬ d_g σ 1 = 0) : px G m_TM_cycle 0 (lv_args 0 [.ref o, .int t]) [] ws (d + 10) 4 2008 (OPc G R o ws (d_g (cycF t σ) 2) (cycF t σ)) := by
  refine p_s rfl rfl ?_
  refine p_get rfl f_TM_20 h.1 rfl ?_
  refine p_ifT rfl hp ?_
  refine p_s rfl rfl ?_
  refine p_s rfl rfl ?_
  refine c_cyc1 (d_n σ) 0 ws σ _ h hn hnd hlen (by omega) rfl (fun w y h1 k1 => ?_)
  refine p_s rfl rfl ?_
  refine p_s rfl rfl ?_
  refine c_cyc2 (d_n σ) 0 w (cycA t σ) _ h1 (by rw [fdR_end_n]; exact hn) (by rw [fdR_end_n]; omega) rfl (fun w2 y2 h2 k2 => ?_)
  refine p_s rfl rfl ?_
  refine p_s rfl rfl ?_
  refine p_get rfl f_TM_24 h2.1 rfl ?_
  refine p_s rfl rfl ?_
  refine p_s rfl rfl ?_
  refine p_put rfl fp_TM_24 h2.1 rfl rfl (by exact Nat.le_of_ble_eq_true rfl) ?_
  have h3 := h2.tm (upG (d_g (cycB t σ)) 2 (d_g (cycB t σ) 2 + 1))
  have k3 := px_kp.up (K := Kr) (e := oTM (ad 6 1) (ad 6 0) (d_g (cycB t σ) 0) (d_g (cycB t σ) 1) (d_g (cycB t σ) 2 + 1) (d_g (cycB t σ) 3)) h2.1 rfl
  refine p_s rfl rfl ?_
  refine p_get rfl f_TM_24 h3.1 rfl ?_
  exact p_iret rfl rfl rfl ⟨rfl, ad, h3, (k1.tr k2).tr k3⟩
end
section
/-! THE CLASS: clear -/
abbrev frsM (σ : Md) (i : Nat) : Md := stX (stA (stA σ 3 i 80 0 0 0) 7 i 80 0 0 0) 11 i 0
abbrev inG (A : Nat → Nat → Int32) (g : Int32) (i : Nat) : Prop := g = 0 ∨ 1 + (A 0 i - 1) / 32 = g
def clrM (g : Int32) (σ : Md) (i : Nat) : Md := if inG (d_A σ) g i then stE (frsM σ i) (dropE (d_e σ) i) else σ
def clrN (A : Nat → Nat → Int32) (g : Int32) : Nat → Nat
  | 0 => 0
  | k + 1 => clrN A g k + (if inG A g k then 1 else 0)
theorem clrM_n (g : Int32) (σ : Md) (i : Nat) : d_n (clrM g σ i) = d_n σ := by
  unfold clrM
  split <;> rfl
theorem frs_pr (σ : Md) (i j : Nat) : d_A (frsM σ i) 0 j = d_A σ 0 j := by
  show up1 (up4 (up4 (d_A σ) 3 i 80 0 0 0) 7 i 80 0 0 0) 11 i 0 0 j = _
  rw [up1_ne (Or.inl (by decide)), up4_out (by omega), up4_out (by omega)]
theorem clrM_pr (g : Int32) (σ : Md) (i j : Nat) : d_A (clrM g σ i) 0 j = d_A σ 0 j := by
  unfold clrM
  split
  · exact frs_pr σ i j
  · rfl
theorem clrM_e (g : Int32) (σ : Md) (i : Nat) : e_c (clrM g σ i) = e_c σ ∨ e_c (clrM g σ i) = (dropE (d_e σ) i).map (fun x => x.1) := by
  unfold clrM
  split
  · exact Or.inr rfl
  · exact Or.inl rfl
theorem clrM_ok (g : Int32) (σ : Md) (i : Nat) (hnd : (e_c σ).Nodup) (hlen : (e_c σ).length ≤ 500) : (e_c (clrM g σ i)).Nodup ∧ (e_c (clrM g σ i)).length ≤ 500 := by
  rcases clrM_e g σ i with e | e
  · rw [e]; exact ⟨hnd, hlen⟩
  · rw [e]
    refine ⟨dropE_nd hnd, Nat.le_trans ?_ hlen⟩
    rw [List.length_map, List.length_map]
    exact dropE_len
theorem CR.frs {G : px_G} {R : Int32} {ws : va_W} {o : Nat} {ad : Nat → Nat → Nat} {σ : Md} (h : CR G R ws o ad σ) {i : Nat} (hi : i < d_n σ) : CR G R (px_up (px_up (px_up ws (ad 1 i) (oSg 80 0 0 0)) (ad 2 i) (oSg 80 0 0 0)) (ad 0 i) (oCd (nI (i + 1)) (d_A σ 0 i) (d_A σ 1 i) (d_A σ 2 i) (ad 1 i) (ad 2 i) 0 (c_pa ad (d_p σ i)) (c_en ad (e_c σ) i))) o ad (frsM σ i) := by
  have h1 : CR G R (px_up ws (ad 1 i) (oSg 80 0 0 0)) o ad (stA σ 3 i 80 0 0 0) := h.st (b := 3) (Or.inl rfl) hi
  have h2 : CR G R (px_up (px_up ws (ad 1 i) (oSg 80 0 0 0)) (ad 2 i) (oSg 80 0 0 0)) o ad (stA (stA σ 3 i 80 0 0 0) 7 i 80 0 0 0) := h1.st (b := 7) (Or.inr rfl) hi
  have h3 := h2.cnt hi 0
  have e : ∀ k, k < 3 → d_A (stA (stA σ 3 i 80 0 0 0) 7 i 80 0 0 0) k i = d_A σ k i := fun k hk => (up4_out (by omega)).trans (up4_out (by omega))
  rw [e 0 (by omega), e 1 (by omega), e 2 (by omega)] at h3
  exact h3
set_option maxHeartbeats 4000000 in
theorem c_clr_loop {G : px_G} {d : Nat} {R : Int32} {o : Nat} {ad : Nat → Nat → Nat} {g : Int32} {A : Nat → Nat → Int32} {bc bs n : Nat} {Q : Option Value → va_W → Prop} : ∀ (k i : Nat) (ws : va_W) (σ : Md) (x2 x3 : Int32), CR G R ws o ad σ → d_n σ = n → n ≤ 200 → (e_c σ).Nodup → (e_c σ).length ≤ 500 → (∀ j, d_A σ 0 j = A 0 j) → i + k = n → x3 = nI i → x2 = nI (clrN A g i) → (∀ (w : va_W), CR G R w o ad (fdR (clrM g) k i σ) → px_kp Kr ws w → Q (some (.int (nI (clrN A g n)))) w) → px G m_TM_clear 36 [(3, .int x3), (2, .int x2), (0, .ref o), (1, .int g)] [] ws (d + 10) bc bs Q := by
  intro k
  induction k with
  | zero =>
    intro i ws σ x2 x3 h hnn hn hnd hlen hA hik h3 h2 hK
    subst h3
    subst h2
    subst hnn
    have hin : i = d_n σ := by omega
    have hL1 := h.2.2.1.1
    obtain ⟨sz, mc, hL1c⟩ := hL1.cell
    refine p_s rfl rfl ?_
    refine p_s rfl rfl ?_
    refine p_get rfl f_TM_12 h.1 rfl ?_
    refine p_callV rfl c_TM_44 rfl hL1c g_AL_size rfl rfl rfl (p_le (by omega) (Nat.le_refl _) (Nat.le_refl _) (c_size (d := d) hL1)) (fun v w hq => ?_)
    obtain ⟨rfl, hw9⟩ := hq
    have hw9 := hw9.symm
    subst hw9
    rw [c_len]
    refine p_icmpT rfl (show nI (d_n σ) ≤ nI i by rw [hin]; exact Int32.le_refl _) ?_
    refine p_s rfl rfl ?_
    refine p_iret rfl rfl rfl ?_
    rw [hin]
    exact hK ws h px_kp.rf
  | succ k ih =>
    intro i ws σ x2 x3 h hnn hn hnd hlen hA hik h3 h2 hK
    subst h3
    subst h2
    subst hnn
    have hin : i < d_n σ := by omega
    have hL1 := h.2.2.1.1
    obtain ⟨sz, mc, hL1c⟩ := hL1.cell
    have hc := h.2.2.2.2.1 i hin
    have hok := clrM_ok g σ i hnd hlen
    have hA2 : ∀ j, d_A (clrM g σ i) 0 j = A 0 j := fun j => (clrM_pr g σ i j).trans (hA j)
    have hAi := hA i
    by_cases hg0 : g = 0
    · skip
      refine p_s rfl rfl ?_
      refine p_s rfl rfl ?_
      refine p_get rfl f_TM_12 h.1 rfl ?_
      refine p_callV rfl c_TM_44 rfl hL1c g_AL_size rfl rfl rfl (p_le (by omega) (Nat.le_refl _) (Nat.le_refl _) (c_size (d := d) hL1)) (fun v w hq => ?_)
      obtain ⟨rfl, hw9⟩ := hq
      have hw9 := hw9.symm
      subst hw9
      rw [c_len]
      refine p_icmpF rfl (show ¬ nI (d_n σ) ≤ nI i from nI_ge hin (by omega)) ?_
      refine p_s rfl rfl ?_
      refine p_get rfl f_TM_12 h.1 rfl ?_
      refine p_s rfl rfl ?_
      refine p_callV rfl c_TM_88 rfl hL1c g_AL_get rfl rfl rfl (p_le (by omega) (Nat.le_refl _) (Nat.le_refl _) (c_get (d := d) hL1 (c_at ad hin))) (fun v w hq => ?_)
      obtain ⟨rfl, hw9⟩ := hq
      have hw9 := hw9.symm
      subst hw9
      refine p_castS rfl cs_TM_48 hc.1 ?_
      refine p_s rfl rfl ?_
      refine p_s rfl rfl ?_
      refine p_ifT rfl hg0 ?_
      refine p_s rfl rfl ?_
      refine p_callV rfl c_TM_127 rfl hc.1 g_Cd_forget rfl rfl rfl (p_le (by omega) (Nat.le_refl _) (Nat.le_refl _) (c_forget (d := d) hc.1 hc.2.1 hc.2.2 (fun z => h.2.2.2.1.2.2.2.2.2.1 i i hin hin z.symm))) (fun v w hq => ?_)
      obtain ⟨rfl, hw9⟩ := hq
      subst hw9
      have h2 := h.frs hin
      have k2 : px_kp Kr ws (px_up (px_up (px_up ws (ad 1 i) (oSg 80 0 0 0)) (ad 2 i) (oSg 80 0 0 0)) (ad 0 i) (oCd (nI (i + 1)) (d_A σ 0 i) (d_A σ 1 i) (d_A σ 2 i) (ad 1 i) (ad 2 i) 0 (c_pa ad (d_p σ i)) (c_en ad (e_c σ) i))) := ((px_kp.up hc.2.1 rfl).tr (px_kp.up (px_keep hc.2.2 (fun z => h.2.2.2.1.2.2.2.2.2.1 i i hin hin z.symm)) rfl)).tr (px_kp.up (px_keepK (px_keep hc.2.2 (fun z => h.2.2.2.1.2.2.2.2.2.1 i i hin hin z.symm)) (px_keepK hc.2.1 hc.1 (Nat.ne_of_beq_eq_false rfl)) (Nat.ne_of_beq_eq_false rfl)) rfl)
      refine p_s rfl rfl ?_
      refine p_get rfl f_TM_40 h2.1 rfl ?_
      refine p_s rfl rfl ?_
      refine p_callV rfl c_TM_130 rfl h2.2.1 g_Mem_drop rfl rfl rfl (p_le (by omega) (Nat.le_refl _) (Nat.le_refl _) (c_drop (d := d) h2 hnd (Nat.le_trans hlen (by decide)) hin)) (fun v w hq => ?_)
      obtain ⟨rfl, h3, k3⟩ := hq
      have hg : inG (d_A σ) g i := Or.inl hg0
      have h4 : CR G R w o ad (clrM g σ i) := by rw [clrM, if_pos hg]; exact h3
      have hgA : inG A g i := by rw [inG, ← hAi]; exact hg
      refine p_s rfl rfl ?_
      refine p_s rfl rfl ?_
      refine p_goto rfl ?_
      refine p_lv (lv2 := [(3, .int (nI i + 1)), (2, .int (nI (clrN A g i) + 1)), (0, .ref o), (1, .int g)]) (ks := [0, 1, 3, 4]) rfl ?_
      exact ih (i + 1) _ (clrM g σ i) _ _ h4 (clrM_n g σ i) hn hok.1 hok.2 hA2 (by omega) (nI_1 i) (by rw [clrN, if_pos hgA]; exact nI_1 _) (fun w a1 a2 => hK w a1 ((k2.tr k3).tr a2))
    · by_cases hg1 : 1 + (d_A σ 0 i - 1) / 32 = g
      · skip
        refine p_s rfl rfl ?_
        refine p_s rfl rfl ?_
        refine p_get rfl f_TM_12 h.1 rfl ?_
        refine p_callV rfl c_TM_44 rfl hL1c g_AL_size rfl rfl rfl (p_le (by omega) (Nat.le_refl _) (Nat.le_refl _) (c_size (d := d) hL1)) (fun v w hq => ?_)
        obtain ⟨rfl, hw9⟩ := hq
        have hw9 := hw9.symm
        subst hw9
        rw [c_len]
        refine p_icmpF rfl (show ¬ nI (d_n σ) ≤ nI i from nI_ge hin (by omega)) ?_
        refine p_s rfl rfl ?_
        refine p_get rfl f_TM_12 h.1 rfl ?_
        refine p_s rfl rfl ?_
        refine p_callV rfl c_TM_88 rfl hL1c g_AL_get rfl rfl rfl (p_le (by omega) (Nat.le_refl _) (Nat.le_refl _) (c_get (d := d) hL1 (c_at ad hin))) (fun v w hq => ?_)
        obtain ⟨rfl, hw9⟩ := hq
        have hw9 := hw9.symm
        subst hw9
        refine p_castS rfl cs_TM_48 hc.1 ?_
        refine p_s rfl rfl ?_
        refine p_s rfl rfl ?_
        refine p_ifF rfl hg0 ?_
        refine p_s rfl rfl ?_
        refine p_callV rfl c_TM_124 rfl hc.1 g_Cd_group rfl rfl rfl (p_le (by omega) (Nat.le_refl _) (Nat.le_refl _) (c_group (d := d) hc.1)) (fun v w hq => ?_)
        obtain ⟨rfl, hw9⟩ := hq
        have hw9 := hw9.symm
        subst hw9
        refine p_s rfl rfl ?_
        refine p_icmpF rfl hg1 ?_
        refine p_s rfl rfl ?_
        refine p_callV rfl c_TM_127 rfl hc.1 g_Cd_forget rfl rfl rfl (p_le (by omega) (Nat.le_refl _) (Nat.le_refl _) (c_forget (d := d) hc.1 hc.2.1 hc.2.2 (fun z => h.2.2.2.1.2.2.2.2.2.1 i i hin hin z.symm))) (fun v w hq => ?_)
        obtain ⟨rfl, hw9⟩ := hq
        subst hw9
        have h2 := h.frs hin
        have k2 : px_kp Kr ws (px_up (px_up (px_up ws (ad 1 i) (oSg 80 0 0 0)) (ad 2 i) (oSg 80 0 0 0)) (ad 0 i) (oCd (nI (i + 1)) (d_A σ 0 i) (d_A σ 1 i) (d_A σ 2 i) (ad 1 i) (ad 2 i) 0 (c_pa ad (d_p σ i)) (c_en ad (e_c σ) i))) := ((px_kp.up hc.2.1 rfl).tr (px_kp.up (px_keep hc.2.2 (fun z => h.2.2.2.1.2.2.2.2.2.1 i i hin hin z.symm)) rfl)).tr (px_kp.up (px_keepK (px_keep hc.2.2 (fun z => h.2.2.2.1.2.2.2.2.2.1 i i hin hin z.symm)) (px_keepK hc.2.1 hc.1 (Nat.ne_of_beq_eq_false rfl)) (Nat.ne_of_beq_eq_false rfl)) rfl)
        refine p_s rfl rfl ?_
        refine p_get rfl f_TM_40 h2.1 rfl ?_
        refine p_s rfl rfl ?_
        refine p_callV rfl c_TM_130 rfl h2.2.1 g_Mem_drop rfl rfl rfl (p_le (by omega) (Nat.le_refl _) (Nat.le_refl _) (c_drop (d := d) h2 hnd (Nat.le_trans hlen (by decide)) hin)) (fun v w hq => ?_)
        obtain ⟨rfl, h3, k3⟩ := hq
        have hg : inG (d_A σ) g i := Or.inr hg1
        have h4 : CR G R w o ad (clrM g σ i) := by rw [clrM, if_pos hg]; exact h3
        have hgA : inG A g i := by rw [inG, ← hAi]; exact hg
        refine p_s rfl rfl ?_
        refine p_s rfl rfl ?_
        refine p_goto rfl ?_
        refine p_lv (lv2 := [(3, .int (nI i + 1)), (2, .int (nI (clrN A g i) + 1)), (0, .ref o), (1, .int g)]) (ks := [0, 1, 3, 4]) rfl ?_
        exact ih (i + 1) _ (clrM g σ i) _ _ h4 (clrM_n g σ i) hn hok.1 hok.2 hA2 (by omega) (nI_1 i) (by rw [clrN, if_pos hgA]; exact nI_1 _) (fun w a1 a2 => hK w a1 ((k2.tr k3).tr a2))
      · skip
        refine p_s rfl rfl ?_
        refine p_s rfl rfl ?_
        refine p_get rfl f_TM_12 h.1 rfl ?_
        refine p_callV rfl c_TM_44 rfl hL1c g_AL_size rfl rfl rfl (p_le (by omega) (Nat.le_refl _) (Nat.le_refl _) (c_size (d := d) hL1)) (fun v w hq => ?_)
        obtain ⟨rfl, hw9⟩ := hq
        have hw9 := hw9.symm
        subst hw9
        rw [c_len]
        refine p_icmpF rfl (show ¬ nI (d_n σ) ≤ nI i from nI_ge hin (by omega)) ?_
        refine p_s rfl rfl ?_
        refine p_get rfl f_TM_12 h.1 rfl ?_
        refine p_s rfl rfl ?_
        refine p_callV rfl c_TM_88 rfl hL1c g_AL_get rfl rfl rfl (p_le (by omega) (Nat.le_refl _) (Nat.le_refl _) (c_get (d := d) hL1 (c_at ad hin))) (fun v w hq => ?_)
        obtain ⟨rfl, hw9⟩ := hq
        have hw9 := hw9.symm
        subst hw9
        refine p_castS rfl cs_TM_48 hc.1 ?_
        refine p_s rfl rfl ?_
        refine p_s rfl rfl ?_
        refine p_ifF rfl hg0 ?_
        refine p_s rfl rfl ?_
        refine p_callV rfl c_TM_124 rfl hc.1 g_Cd_group rfl rfl rfl (p_le (by omega) (Nat.le_refl _) (Nat.le_refl _) (c_group (d := d) hc.1)) (fun v w hq => ?_)
        obtain ⟨rfl, hw9⟩ := hq
        have hw9 := hw9.symm
        subst hw9
        refine p_s rfl rfl ?_
        refine p_icmpT rfl hg1 ?_
        refine p_s rfl rfl ?_
        have hg : ¬ inG (d_A σ) g i := fun z => z.elim hg0 hg1
        have h4 : CR G R ws o ad (clrM g σ i) := by rw [clrM, if_neg hg]; exact h
        have hgA : ¬ inG A g i := by rw [inG, ← hAi]; exact hg
        refine p_goto rfl ?_
        refine p_lv (lv2 := [(3, .int (nI i + 1)), (2, .int (nI (clrN A g i))), (0, .ref o), (1, .int g)]) (ks := [0, 2, 3, 4]) rfl ?_
        exact ih (i + 1) _ (clrM g σ i) _ _ h4 (clrM_n g σ i) hn hok.1 hok.2 hA2 (by omega) (nI_1 i) (by rw [clrN, if_neg hgA]; rfl) (fun w a1 a2 => hK w a1 a2)
set_option maxHeartbeats 4000000 in
theorem o_clearN {G : px_G} {ws : va_W} {d : Nat} {R : Int32} {o : Nat} {ad : Nat → Nat → Nat} {σ : Md} (h : CR G R ws o ad σ) {g : Int32} (hx : isw g 0 8 = 0) : px G m_TM_clear 0 (lv_args 0 [.ref o, .int g]) [] ws (d + 10) 4 2008 (OPc G R o ws (-2) (σ)) := by
  refine p_s rfl rfl ?_
  refine p_s rfl rfl ?_
  refine p_s rfl rfl ?_
  refine p_callS rfl c_TM_33 g_TM_isWithin rfl rfl rfl (p_le (by omega) (Nat.le_refl _) (Nat.le_refl _) (c_isWithin (d := d))) (fun v w hq => ?_)
  obtain ⟨rfl, hw9⟩ := hq
  have hw9 := hw9.symm
  subst hw9
  refine p_ifF rfl hx ?_
  refine p_s rfl rfl ?_
  exact p_iret rfl rfl rfl ⟨rfl, ad, h, px_kp.rf⟩
set_option maxHeartbeats 4000000 in
theorem o_clearC {G : px_G} {ws : va_W} {d : Nat} {R : Int32} {o : Nat} {ad : Nat → Nat → Nat} {σ : Md} (h : CR G R ws o ad σ) {g : Int32} (hx : ¬ isw g 0 8 = 0) (hp : d_g σ 1 = 0) : px G m_TM_clear 0 (lv_args 0 [.ref o, .int g]) [] ws (d + 10) 4 2008 (OPc G R o ws (-3) (σ)) := by
  refine p_s rfl rfl ?_
  refine p_s rfl rfl ?_
  refine p_s rfl rfl ?_
  refine p_callS rfl c_TM_33 g_TM_isWithin rfl rfl rfl (p_le (by omega) (Nat.le_refl _) (Nat.le_refl _) (c_isWithin (d := d))) (fun v w hq => ?_)
  obtain ⟨rfl, hw9⟩ := hq
  have hw9 := hw9.symm
  subst hw9
  refine p_ifT rfl hx ?_
  refine p_s rfl rfl ?_
  refine p_get rfl f_TM_20 h.1 rfl ?_
  refine p_ifT rfl hp ?_
  refine p_s rfl rfl ?_
  exact p_iret rfl rfl rfl ⟨rfl, ad, h, px_kp.rf⟩
set_option maxHeartbeats 4000000 in
theorem o_clearO {G : px_G} {ws : va_W} {d : Nat} {R : Int32} {o : Nat} {ad : Nat → Nat → Nat} {σ : Md} (h : CR G R ws o ad σ) {g : Int32} (hx : ¬ isw g 0 8 = 0) (hp : ¬ d_g σ 1 = 0) (ho : sHas (d_g σ 0) (1 <<< ((31 : Int32) &&& 31)) = 0) : px G m_TM_clear 0 (lv_args 0 [.ref o, .int g]) [] ws (d + 10) 4 2008 (OPc G R o ws (-3) (σ)) := by
  refine p_s rfl rfl ?_
  refine p_s rfl rfl ?_
  refine p_s rfl rfl ?_
  refine p_callS rfl c_TM_33 g_TM_isWithin rfl rfl rfl (p_le (by omega) (Nat.le_refl _) (Nat.le_refl _) (c_isWithin (d := d))) (fun v w hq => ?_)
  obtain ⟨rfl, hw9⟩ := hq
  have hw9 := hw9.symm
  subst hw9
  refine p_ifT rfl hx ?_
  refine p_s rfl rfl ?_
  refine p_get rfl f_TM_20 h.1 rfl ?_
  refine p_ifF rfl hp ?_
  refine p_s rfl rfl ?_
  refine p_s rfl rfl ?_
  refine p_callV rfl c_TM_67 rfl h.1 g_TM_isOn rfl rfl rfl (p_le (by omega) (Nat.le_refl _) (Nat.le_refl _) (c_isOn (d := d) h.1)) (fun v w hq => ?_)
  obtain ⟨rfl, hw9⟩ := hq
  have hw9 := hw9.symm
  subst hw9
  refine p_ifF rfl ho ?_
  refine p_s rfl rfl ?_
  exact p_iret rfl rfl rfl ⟨rfl, ad, h, px_kp.rf⟩
set_option maxHeartbeats 4000000 in
theorem o_clear {G : px_G} {ws : va_W} {d : Nat} {R : Int32} {o : Nat} {ad : Nat → Nat → Nat} {σ : Md} (h : CR G R ws o ad σ) {g : Int32} (hn : d_n σ ≤ 200) (hnd : (e_c σ).Nodup) (hlen : (e_c σ).length ≤ 500) (hx : ¬ isw g 0 8 = 0) (hp : ¬ d_g σ 1 = 0) (ho : ¬ sHas (d_g σ 0) (1 <<< ((31 : Int32) &&& 31)) = 0) : px G m_TM_clear 0 (lv_args 0 [.ref o, .int g]) [] ws (d + 10) 4 2008 (OPc G R o ws (nI (clrN (d_A σ) g (d_n σ))) (fdR (clrM g) (d_n σ) 0 σ)) := by
  refine p_s rfl rfl ?_
  refine p_s rfl rfl ?_
  refine p_s rfl rfl ?_
  refine p_callS rfl c_TM_33 g_TM_isWithin rfl rfl rfl (p_le (by omega) (Nat.le_refl _) (Nat.le_refl _) (c_isWithin (d := d))) (fun v w hq => ?_)
  obtain ⟨rfl, hw9⟩ := hq
  have hw9 := hw9.symm
  subst hw9
  refine p_ifT rfl hx ?_
  refine p_s rfl rfl ?_
  refine p_get rfl f_TM_20 h.1 rfl ?_
  refine p_ifF rfl hp ?_
  refine p_s rfl rfl ?_
  refine p_s rfl rfl ?_
  refine p_callV rfl c_TM_67 rfl h.1 g_TM_isOn rfl rfl rfl (p_le (by omega) (Nat.le_refl _) (Nat.le_refl _) (c_isOn (d := d) h.1)) (fun v w hq => ?_)
  obtain ⟨rfl, hw9⟩ := hq
  have hw9 := hw9.symm
  subst hw9
  refine p_ifT rfl ho ?_
  refine p_s rfl rfl ?_
  refine p_s rfl rfl ?_
  refine p_s rfl rfl ?_
  refine p_s rfl rfl ?_
  exact c_clr_loop (d_n σ) 0 ws σ _ _ h rfl hn hnd hlen (fun _ => rfl) (by omega) rfl rfl (fun w a1 a2 => ⟨rfl, ad, a1, a2⟩)
end
section
/-! THE CLASS: code, the constructor -/
def newA (A : Nat → Nat → Int32) (n : Nat) (p u v : Int32) : Nat → Nat → Int32 := fun k j => if j = n then (if k = 0 then p else if k = 1 then u else if k = 2 then v else if k = 3 then 80 else if k = 7 then 80 else 0) else A k j
abbrev codeM (σ : Md) (p u v : Int32) : Md := (d_n σ + 1, newA (d_A σ) (d_n σ) p u v, (fun j => if j = d_n σ then 0 else d_p σ j), d_e σ, d_d σ, d_g σ)
abbrev adC (ad : Nat → Nat → Nat) (n a na ka a1 : Nat) : Nat → Nat → Nat := up6 (upA (upA (upA ad 0 n a) 1 n na) 2 n ka) 2 a1
theorem newA_ne {A : Nat → Nat → Int32} {n k j : Nat} {p u v : Int32} (h : j ≠ n) : newA A n p u v k j = A k j := if_neg h
/-- a code more: its cells stand, and the list of codes has taken it in -/
theorem CR.newCode {G : px_G} {R : Int32} {ws w w2 : va_W} {o : Nat} {ad : Nat → Nat → Nat} {σ : Md} (h : CR G R ws o ad σ) (hen : ∀ x ∈ e_c σ, x < d_n σ) (hdn : ∀ x ∈ d_d σ, x < d_n σ) (hpp : ∀ q, q < d_n σ → d_p σ q ≤ d_n σ) {a na ka a1 : Nat} {p u v : Int32} (hf : px_fr (fun _ => False) ws w) (hfa : px_lk ws a = none) (hfn : px_lk ws na = none) (hfk : px_lk ws ka = none) (hnk : ka ≠ na)
    (ha : px_lk w a = some (oCd (nI (d_n σ + 1)) p u v na ka 0 none none)) (hna : px_lk w na = some (oSg 80 0 0 0)) (hka : px_lk w ka = some (oSg 80 0 0 0)) (hw : WFs G w) (hl : LSA G w2 (ad 6 1) a1 ((List.range (d_n σ)).map (ad 0) ++ [a])) (ha1 : a1 = ad 6 2 ∨ px_lk w a1 = none) (hf2 : px_fr (lsS (ad 6 1) (ad 6 2)) w w2) : CR G R w2 o (adC ad (d_n σ) a na ka a1) (codeM σ p u v) := by
  have K0 : ∀ {b : Nat} {x : va_E}, px_lk ws b = some x → px_lk w b = some x := fun hb => hf _ _ (fun z => z) hb
  obtain ⟨h1, h2, ⟨l1, l2, l3⟩, ⟨⟨s1, s2, s3⟩, ⟨p1, p2, p3⟩, j0, j1, j2, j12, s7⟩, h5, h6⟩ := h
  have l1w := l1.fr hf (fun z => z) (fun z => z)
  have l2w := l2.fr hf (fun z => z) (fun z => z)
  have l3w := l3.fr hf (fun z => z) (fun z => z)
  have hS : ∀ b x, px_lk w b = some x → ¬ px_kd x = 6 → ¬ px_kd x = 1001 → px_lk w2 b = some x := fun b x hb h6 h7 => hf2 b x (lsS_nk hw l1w hb h6 h7) hb
  have K : ∀ {b : Nat} {x : va_E}, px_lk ws b = some x → ¬ px_kd x = 6 → ¬ px_kd x = 1001 → px_lk w2 b = some x := fun hb h6 h7 => hS _ _ (K0 hb) h6 h7
  have hap : ∀ {L ar : Nat} {xs : List Nat}, LSA G w L ar xs → (ar = ad 6 2 → ar = g_sv G 0) → (ar = a1 → ar = g_sv G 0) := by
    intro L ar xs hls hh z
    rcases ha1 with hx | hx
    · exact hh (z.trans hx)
    · obtain ⟨mc, -, hmode⟩ := hls
      rcases hmode with ⟨q, -⟩ | ⟨cap, f, q, -⟩
      · exact q
      · rw [z, hx] at q
        cases q
  have a0 : ∀ i, i < d_n σ → adC ad (d_n σ) a na ka a1 0 i = ad 0 i := fun i hi => show (if i = d_n σ then a else ad 0 i) = ad 0 i from if_neg (by omega)
  have a1' : ∀ i, i < d_n σ → adC ad (d_n σ) a na ka a1 1 i = ad 1 i := fun i hi => show (if i = d_n σ then na else ad 1 i) = ad 1 i from if_neg (by omega)
  have a2' : ∀ i, i < d_n σ → adC ad (d_n σ) a na ka a1 2 i = ad 2 i := fun i hi => show (if i = d_n σ then ka else ad 2 i) = ad 2 i from if_neg (by omega)
  have b0 : adC ad (d_n σ) a na ka a1 0 (d_n σ) = a := if_pos rfl
  have b1 : adC ad (d_n σ) a na ka a1 1 (d_n σ) = na := if_pos rfl
  have b2 : adC ad (d_n σ) a na ka a1 2 (d_n σ) = ka := if_pos rfl
  have r0 : (List.range (d_n σ + 1)).map (adC ad (d_n σ) a na ka a1 0) = (List.range (d_n σ)).map (ad 0) ++ [a] := by
    rw [List.range_succ, List.map_append]
    congr 1
    · apply List.map_congr_left
      intro i hi
      exact a0 i (List.mem_range.mp hi)
    · show [adC ad (d_n σ) a na ka a1 0 (d_n σ)] = [a]
      rw [b0]
  have r3 : (d_d σ).map (adC ad (d_n σ) a na ka a1 0) = (d_d σ).map (ad 0) := by
    apply List.map_congr_left
    intro i hi
    exact a0 i (hdn i hi)
  have fo : ∀ {b c : Nat} {x : va_E}, px_lk ws b = some x → px_lk ws c = none → b ≠ c := fun hb hc => px_nn hb hc
  refine ⟨K h1 (Nat.ne_of_beq_eq_false rfl) (Nat.ne_of_beq_eq_false rfl), K h2 (Nat.ne_of_beq_eq_false rfl) (Nat.ne_of_beq_eq_false rfl), ⟨?_, l2w.other hw l1w hf2 (fun z => s1 z.symm) (fun z => z.trans (p1 z.symm)), ?_⟩, ⟨⟨s1, s2, s3⟩, ⟨fun z => ?_, fun z => ?_, p3⟩, ?_, ?_, ?_, ?_, s7⟩, fun i hi => ?_, fun x hx => ?_⟩
  · show LSA G w2 (ad 6 1) a1 ((List.range (d_n σ + 1)).map (adC ad (d_n σ) a na ka a1 0))
    rw [r0]
    exact hl
  · show LSA G w2 (ad 6 5) (ad 6 6) ((d_d σ).map (adC ad (d_n σ) a na ka a1 0))
    rw [r3]
    exact l3w.other hw l1w hf2 (fun z => s2 z.symm) (fun z => z.trans (p2 z.symm))
  · exact z.trans (hap l2w (fun q => q.trans (p1 q.symm)) z.symm)
  · exact z.trans (hap l3w (fun q => q.trans (p2 q.symm)) z.symm)
  · intro i j hi hj hij
    have hi : i < d_n σ + 1 := hi
    have hj : j < d_n σ + 1 := hj
    rcases Nat.lt_or_ge i (d_n σ) with hi2 | hi2 <;> rcases Nat.lt_or_ge j (d_n σ) with hj2 | hj2
    · rw [a0 i hi2, a0 j hj2] at hij
      exact j0 i j hi2 hj2 hij
    · rw [a0 i hi2, show j = d_n σ by omega, b0] at hij
      exact absurd hij (fo (h5 i hi2).1 hfa)
    · rw [a0 j hj2, show i = d_n σ by omega, b0] at hij
      exact absurd hij.symm (fo (h5 j hj2).1 hfa)
    · omega
  · intro i j hi hj hij
    have hi : i < d_n σ + 1 := hi
    have hj : j < d_n σ + 1 := hj
    rcases Nat.lt_or_ge i (d_n σ) with hi2 | hi2 <;> rcases Nat.lt_or_ge j (d_n σ) with hj2 | hj2
    · rw [a1' i hi2, a1' j hj2] at hij
      exact j1 i j hi2 hj2 hij
    · rw [a1' i hi2, show j = d_n σ by omega, b1] at hij
      exact absurd hij (fo (h5 i hi2).2.1 hfn)
    · rw [a1' j hj2, show i = d_n σ by omega, b1] at hij
      exact absurd hij.symm (fo (h5 j hj2).2.1 hfn)
    · omega
  · intro i j hi hj hij
    have hi : i < d_n σ + 1 := hi
    have hj : j < d_n σ + 1 := hj
    rcases Nat.lt_or_ge i (d_n σ) with hi2 | hi2 <;> rcases Nat.lt_or_ge j (d_n σ) with hj2 | hj2
    · rw [a2' i hi2, a2' j hj2] at hij
      exact j2 i j hi2 hj2 hij
    · rw [a2' i hi2, show j = d_n σ by omega, b2] at hij
      exact absurd hij (fo (h5 i hi2).2.2 hfk)
    · rw [a2' j hj2, show i = d_n σ by omega, b2] at hij
      exact absurd hij.symm (fo (h5 j hj2).2.2 hfk)
    · omega
  · intro i j hi hj hij
    have hi : i < d_n σ + 1 := hi
    have hj : j < d_n σ + 1 := hj
    rcases Nat.lt_or_ge i (d_n σ) with hi2 | hi2 <;> rcases Nat.lt_or_ge j (d_n σ) with hj2 | hj2
    · rw [a1' i hi2, a2' j hj2] at hij
      exact j12 i j hi2 hj2 hij
    · rw [a1' i hi2, show j = d_n σ by omega, b2] at hij
      exact fo (h5 i hi2).2.1 hfk hij
    · rw [a2' j hj2, show i = d_n σ by omega, b1] at hij
      exact fo (h5 j hj2).2.2 hfn hij.symm
    · rw [show i = d_n σ by omega, show j = d_n σ by omega, b1, b2] at hij
      exact hnk hij.symm
  · have hi : i < d_n σ + 1 := hi
    rcases Nat.lt_or_ge i (d_n σ) with hi2 | hi2
    · obtain ⟨e1, e2, e3⟩ := h5 i hi2
      have hne : i ≠ d_n σ := by omega
      have hp := hpp i hi2
      have ecd : c_cd (adC ad (d_n σ) a na ka a1) (codeM σ p u v) i = c_cd ad σ i := by
        show oCd _ (newA (d_A σ) (d_n σ) p u v 0 i) (newA (d_A σ) (d_n σ) p u v 1 i) (newA (d_A σ) (d_n σ) p u v 2 i) (adC ad (d_n σ) a na ka a1 1 i) (adC ad (d_n σ) a na ka a1 2 i) (newA (d_A σ) (d_n σ) p u v 11 i) (c_pa (adC ad (d_n σ) a na ka a1) (if i = d_n σ then 0 else d_p σ i)) (c_en ad (e_c σ) i) = _
        have hpa : c_pa (adC ad (d_n σ) a na ka a1) (d_p σ i) = c_pa ad (d_p σ i) := by
          by_cases hp0 : d_p σ i = 0
          · rw [c_pa0 hp0, c_pa0 hp0]
          · rw [c_pa1 hp0, c_pa1 hp0, a0 _ (by omega)]
        rw [newA_ne hne, newA_ne hne, newA_ne hne, newA_ne hne, a1' i hi2, a2' i hi2, if_neg hne, hpa]
      have est : ∀ b, c_st (codeM σ p u v) b i = c_st σ b i := by
        intro b
        show oSg (newA (d_A σ) (d_n σ) p u v b i) (newA (d_A σ) (d_n σ) p u v (b + 1) i) (newA (d_A σ) (d_n σ) p u v (b + 2) i) (newA (d_A σ) (d_n σ) p u v (b + 3) i) = _
        rw [newA_ne hne, newA_ne hne, newA_ne hne, newA_ne hne]
      rw [a0 i hi2, a1' i hi2, a2' i hi2, ecd, est 3, est 7]
      exact ⟨K e1 (Nat.ne_of_beq_eq_false rfl) (Nat.ne_of_beq_eq_false rfl), K e2 (Nat.ne_of_beq_eq_false rfl) (Nat.ne_of_beq_eq_false rfl), K e3 (Nat.ne_of_beq_eq_false rfl) (Nat.ne_of_beq_eq_false rfl)⟩
    · have hin : i = d_n σ := by omega
      subst hin
      have hno : d_n σ ∉ e_c σ := fun z => absurd (hen _ z) (Nat.lt_irrefl _)
      have ecd : c_cd (adC ad (d_n σ) a na ka a1) (codeM σ p u v) (d_n σ) = oCd (nI (d_n σ + 1)) p u v na ka 0 none none := by
        show oCd _ (newA (d_A σ) (d_n σ) p u v 0 (d_n σ)) (newA (d_A σ) (d_n σ) p u v 1 (d_n σ)) (newA (d_A σ) (d_n σ) p u v 2 (d_n σ)) (adC ad (d_n σ) a na ka a1 1 (d_n σ)) (adC ad (d_n σ) a na ka a1 2 (d_n σ)) (newA (d_A σ) (d_n σ) p u v 11 (d_n σ)) (c_pa (adC ad (d_n σ) a na ka a1) (if d_n σ = d_n σ then 0 else d_p σ (d_n σ))) (c_en ad (e_c σ) (d_n σ)) = _
        rw [c_en_out hno, b1, b2, if_pos rfl, c_pa0 rfl]
        unfold newA
        simp
      have est : ∀ b, (b = 3 ∨ b = 7) → c_st (codeM σ p u v) b (d_n σ) = oSg 80 0 0 0 := by
        intro b hb
        show oSg (newA (d_A σ) (d_n σ) p u v b (d_n σ)) (newA (d_A σ) (d_n σ) p u v (b + 1) (d_n σ)) (newA (d_A σ) (d_n σ) p u v (b + 2) (d_n σ)) (newA (d_A σ) (d_n σ) p u v (b + 3) (d_n σ)) = _
        unfold newA
        rcases hb with rfl | rfl <;> simp
      rw [b0, b1, b2, ecd, est 3 (Or.inl rfl), est 7 (Or.inr rfl)]
      exact ⟨hS _ _ ha (Nat.ne_of_beq_eq_false rfl) (Nat.ne_of_beq_eq_false rfl), hS _ _ hna (Nat.ne_of_beq_eq_false rfl) (Nat.ne_of_beq_eq_false rfl), hS _ _ hka (Nat.ne_of_beq_eq_false rfl) (Nat.ne_of_beq_eq_false rfl)⟩
  · obtain ⟨e1, e2, e3⟩ := h6 x hx
    have hx1 : x.1 < d_n σ := hen x.1 (List.mem_map.mpr ⟨x, hx, rfl⟩)
    refine ⟨?_, K e2 (Nat.ne_of_beq_eq_false rfl) (Nat.ne_of_beq_eq_false rfl), K e3 (Nat.ne_of_beq_eq_false rfl) (Nat.ne_of_beq_eq_false rfl)⟩
    show px_lk w2 (ad 3 x.1) = some (oEn (adC ad (d_n σ) a na ka a1 0 x.1) (ad 4 x.1) (ad 5 x.1) x.2.1)
    rw [a0 x.1 hx1]
    exact K e1 (Nat.ne_of_beq_eq_false rfl) (Nat.ne_of_beq_eq_false rfl)
set_option maxHeartbeats 4000000 in
theorem o_codeP {G : px_G} {ws : va_W} {d : Nat} {R : Int32} {o : Nat} {ad : Nat → Nat → Nat} {σ : Md} (h : CR G R ws o ad σ) {p u v : Int32} (hx : isw p 1 255 = 0) : px G m_TM_code 0 (lv_args 0 [.ref o, .int p, .int u, .int v]) [] ws (d + 10) 4 2008 (OPc G R o ws (-2) (σ)) := by
  refine p_s rfl rfl ?_
  refine p_s rfl rfl ?_
  refine p_s rfl rfl ?_
  refine p_callS rfl c_TM_33 g_TM_isWithin rfl rfl rfl (p_le (by omega) (Nat.le_refl _) (Nat.le_refl _) (c_isWithin (d := d))) (fun v w hq => ?_)
  obtain ⟨rfl, hw9⟩ := hq
  have hw9 := hw9.symm
  subst hw9
  refine p_ifT rfl hx ?_
  refine p_s rfl rfl ?_
  exact p_iret rfl rfl rfl ⟨rfl, ad, h, px_kp.rf⟩
set_option maxHeartbeats 4000000 in
theorem o_codeU {G : px_G} {ws : va_W} {d : Nat} {R : Int32} {o : Nat} {ad : Nat → Nat → Nat} {σ : Md} (h : CR G R ws o ad σ) {p u v : Int32} (hx : ¬ isw p 1 255 = 0) (hu : isw u 1 127 = 0) : px G m_TM_code 0 (lv_args 0 [.ref o, .int p, .int u, .int v]) [] ws (d + 10) 4 2008 (OPc G R o ws (-2) (σ)) := by
  refine p_s rfl rfl ?_
  refine p_s rfl rfl ?_
  refine p_s rfl rfl ?_
  refine p_callS rfl c_TM_33 g_TM_isWithin rfl rfl rfl (p_le (by omega) (Nat.le_refl _) (Nat.le_refl _) (c_isWithin (d := d))) (fun v w hq => ?_)
  obtain ⟨rfl, hw9⟩ := hq
  have hw9 := hw9.symm
  subst hw9
  refine p_ifF rfl hx ?_
  refine p_s rfl rfl ?_
  refine p_s rfl rfl ?_
  refine p_s rfl rfl ?_
  refine p_callS rfl c_TM_33 g_TM_isWithin rfl rfl rfl (p_le (by omega) (Nat.le_refl _) (Nat.le_refl _) (c_isWithin (d := d))) (fun v w hq => ?_)
  obtain ⟨rfl, hw9⟩ := hq
  have hw9 := hw9.symm
  subst hw9
  refine p_ifT rfl hu ?_
  refine p_s rfl rfl ?_
  exact p_iret rfl rfl rfl ⟨rfl, ad, h, px_kp.rf⟩
set_option maxHeartbeats 4000000 in
theorem o_codeV {G : px_G} {ws : va_W} {d : Nat} {R : Int32} {o : Nat} {ad : Nat → Nat → Nat} {σ : Md} (h : CR G R ws o ad σ) {p u v : Int32} (hx : ¬ isw p 1 255 = 0) (hu : ¬ isw u 1 127 = 0) (hv : isw v 1 127 = 0) : px G m_TM_code 0 (lv_args 0 [.ref o, .int p, .int u, .int v]) [] ws (d + 10) 4 2008 (OPc G R o ws (-2) (σ)) := by
  refine p_s rfl rfl ?_
  refine p_s rfl rfl ?_
  refine p_s rfl rfl ?_
  refine p_callS rfl c_TM_33 g_TM_isWithin rfl rfl rfl (p_le (by omega) (Nat.le_refl _) (Nat.le_refl _) (c_isWithin (d := d))) (fun v w hq => ?_)
  obtain ⟨rfl, hw9⟩ := hq
  have hw9 := hw9.symm
  subst hw9
  refine p_ifF rfl hx ?_
  refine p_s rfl rfl ?_
  refine p_s rfl rfl ?_
  refine p_s rfl rfl ?_
  refine p_callS rfl c_TM_33 g_TM_isWithin rfl rfl rfl (p_le (by omega) (Nat.le_refl _) (Nat.le_refl _) (c_isWithin (d := d))) (fun v w hq => ?_)
  obtain ⟨rfl, hw9⟩ := hq
  have hw9 := hw9.symm
  subst hw9
  refine p_ifF rfl hu ?_
  refine p_s rfl rfl ?_
  refine p_s rfl rfl ?_
  refine p_s rfl rfl ?_
  refine p_callS rfl c_TM_33 g_TM_isWithin rfl rfl rfl (p_le (by omega) (Nat.le_refl _) (Nat.le_refl _) (c_isWithin (d := d))) (fun v w hq => ?_)
  obtain ⟨rfl, hw9⟩ := hq
  have hw9 := hw9.symm
  subst hw9
  refine p_ifF rfl hv ?_
  refine p_s rfl rfl ?_
  exact p_iret rfl rfl rfl ⟨rfl, ad, h, px_kp.rf⟩
set_option maxHeartbeats 4000000 in
theorem o_codeC {G : px_G} {ws : va_W} {d : Nat} {R : Int32} {o : Nat} {ad : Nat → Nat → Nat} {σ : Md} (h : CR G R ws o ad σ) {p u v : Int32} (hx : ¬ isw p 1 255 = 0) (hu : ¬ isw u 1 127 = 0) (hv : ¬ isw v 1 127 = 0) (hp : d_g σ 1 = 0) : px G m_TM_code 0 (lv_args 0 [.ref o, .int p, .int u, .int v]) [] ws (d + 10) 4 2008 (OPc G R o ws (-3) (σ)) := by
  refine p_s rfl rfl ?_
  refine p_s rfl rfl ?_
  refine p_s rfl rfl ?_
  refine p_callS rfl c_TM_33 g_TM_isWithin rfl rfl rfl (p_le (by omega) (Nat.le_refl _) (Nat.le_refl _) (c_isWithin (d := d))) (fun v w hq => ?_)
  obtain ⟨rfl, hw9⟩ := hq
  have hw9 := hw9.symm
  subst hw9
  refine p_ifF rfl hx ?_
  refine p_s rfl rfl ?_
  refine p_s rfl rfl ?_
  refine p_s rfl rfl ?_
  refine p_callS rfl c_TM_33 g_TM_isWithin rfl rfl rfl (p_le (by omega) (Nat.le_refl _) (Nat.le_refl _) (c_isWithin (d := d))) (fun v w hq => ?_)
  obtain ⟨rfl, hw9⟩ := hq
  have hw9 := hw9.symm
  subst hw9
  refine p_ifF rfl hu ?_
  refine p_s rfl rfl ?_
  refine p_s rfl rfl ?_
  refine p_s rfl rfl ?_
  refine p_callS rfl c_TM_33 g_TM_isWithin rfl rfl rfl (p_le (by omega) (Nat.le_refl _) (Nat.le_refl _) (c_isWithin (d := d))) (fun v w hq => ?_)
  obtain ⟨rfl, hw9⟩ := hq
  have hw9 := hw9.symm
  subst hw9
  refine p_ifT rfl hv ?_
  refine p_s rfl rfl ?_
  refine p_get rfl f_TM_20 h.1 rfl ?_
  refine p_ifF rfl hp ?_
  refine p_s rfl rfl ?_
  exact p_iret rfl rfl rfl ⟨rfl, ad, h, px_kp.rf⟩
set_option maxHeartbeats 4000000 in
theorem o_codeF {G : px_G} {ws : va_W} {d : Nat} {R : Int32} {o : Nat} {ad : Nat → Nat → Nat} {σ : Md} (h : CR G R ws o ad σ) {p u v : Int32} (hx : ¬ isw p 1 255 = 0) (hu : ¬ isw u 1 127 = 0) (hv : ¬ isw v 1 127 = 0) (hp : ¬ d_g σ 1 = 0) (hn : d_n σ = 200) : px G m_TM_code 0 (lv_args 0 [.ref o, .int p, .int u, .int v]) [] ws (d + 10) 4 2008 (OPc G R o ws (-4) (σ)) := by
  have hL1 := h.2.2.1.1
  obtain ⟨sz, mc, hL1c⟩ := hL1.cell
  refine p_s rfl rfl ?_
  refine p_s rfl rfl ?_
  refine p_s rfl rfl ?_
  refine p_callS rfl c_TM_33 g_TM_isWithin rfl rfl rfl (p_le (by omega) (Nat.le_refl _) (Nat.le_refl _) (c_isWithin (d := d))) (fun v w hq => ?_)
  obtain ⟨rfl, hw9⟩ := hq
  have hw9 := hw9.symm
  subst hw9
  refine p_ifF rfl hx ?_
  refine p_s rfl rfl ?_
  refine p_s rfl rfl ?_
  refine p_s rfl rfl ?_
  refine p_callS rfl c_TM_33 g_TM_isWithin rfl rfl rfl (p_le (by omega) (Nat.le_refl _) (Nat.le_refl _) (c_isWithin (d := d))) (fun v w hq => ?_)
  obtain ⟨rfl, hw9⟩ := hq
  have hw9 := hw9.symm
  subst hw9
  refine p_ifF rfl hu ?_
  refine p_s rfl rfl ?_
  refine p_s rfl rfl ?_
  refine p_s rfl rfl ?_
  refine p_callS rfl c_TM_33 g_TM_isWithin rfl rfl rfl (p_le (by omega) (Nat.le_refl _) (Nat.le_refl _) (c_isWithin (d := d))) (fun v w hq => ?_)
  obtain ⟨rfl, hw9⟩ := hq
  have hw9 := hw9.symm
  subst hw9
  refine p_ifT rfl hv ?_
  refine p_s rfl rfl ?_
  refine p_get rfl f_TM_20 h.1 rfl ?_
  refine p_ifT rfl hp ?_
  refine p_s rfl rfl ?_
  refine p_get rfl f_TM_12 h.1 rfl ?_
  refine p_callV rfl c_TM_44 rfl hL1c g_AL_size rfl rfl rfl (p_le (by omega) (Nat.le_refl _) (Nat.le_refl _) (c_size (d := d) hL1)) (fun v w hq => ?_)
  obtain ⟨rfl, hw9⟩ := hq
  have hw9 := hw9.symm
  subst hw9
  rw [c_len]
  refine p_s rfl rfl ?_
  refine p_icmpF rfl (show ¬ nI (d_n σ) < 200 by rw [hn]; decide) ?_
  refine p_s rfl rfl ?_
  exact p_iret rfl rfl rfl ⟨rfl, ad, h, px_kp.rf⟩
set_option maxHeartbeats 4000000 in
theorem o_code {G : px_G} {ws : va_W} {d : Nat} {R : Int32} {o : Nat} {ad : Nat → Nat → Nat} {σ : Md} (h : CR G R ws o ad σ) {p u v : Int32} (hx : ¬ isw p 1 255 = 0) (hu : ¬ isw u 1 127 = 0) (hv : ¬ isw v 1 127 = 0) (hp : ¬ d_g σ 1 = 0) (hn : d_n σ < 200) (hen : ∀ x ∈ e_c σ, x < d_n σ) (hdn : ∀ x ∈ d_d σ, x < d_n σ) (hpp : ∀ q, q < d_n σ → d_p σ q ≤ d_n σ) : px G m_TM_code 0 (lv_args 0 [.ref o, .int p, .int u, .int v]) [] ws (d + 10) 4 2008 (OPc G R o ws (nI (d_n σ + 1)) (codeM σ p u v)) := by
  have hL1 := h.2.2.1.1
  obtain ⟨sz, mc, hL1c⟩ := hL1.cell
  refine p_s rfl rfl ?_
  refine p_s rfl rfl ?_
  refine p_s rfl rfl ?_
  refine p_callS rfl c_TM_33 g_TM_isWithin rfl rfl rfl (p_le (by omega) (Nat.le_refl _) (Nat.le_refl _) (c_isWithin (d := d))) (fun v w hq => ?_)
  obtain ⟨rfl, hw9⟩ := hq
  have hw9 := hw9.symm
  subst hw9
  refine p_ifF rfl hx ?_
  refine p_s rfl rfl ?_
  refine p_s rfl rfl ?_
  refine p_s rfl rfl ?_
  refine p_callS rfl c_TM_33 g_TM_isWithin rfl rfl rfl (p_le (by omega) (Nat.le_refl _) (Nat.le_refl _) (c_isWithin (d := d))) (fun v w hq => ?_)
  obtain ⟨rfl, hw9⟩ := hq
  have hw9 := hw9.symm
  subst hw9
  refine p_ifF rfl hu ?_
  refine p_s rfl rfl ?_
  refine p_s rfl rfl ?_
  refine p_s rfl rfl ?_
  refine p_callS rfl c_TM_33 g_TM_isWithin rfl rfl rfl (p_le (by omega) (Nat.le_refl _) (Nat.le_refl _) (c_isWithin (d := d))) (fun v w hq => ?_)
  obtain ⟨rfl, hw9⟩ := hq
  have hw9 := hw9.symm
  subst hw9
  refine p_ifT rfl hv ?_
  refine p_s rfl rfl ?_
  refine p_get rfl f_TM_20 h.1 rfl ?_
  refine p_ifT rfl hp ?_
  refine p_s rfl rfl ?_
  refine p_get rfl f_TM_12 h.1 rfl ?_
  refine p_callV rfl c_TM_44 rfl hL1c g_AL_size rfl rfl rfl (p_le (by omega) (Nat.le_refl _) (Nat.le_refl _) (c_size (d := d) hL1)) (fun v w hq => ?_)
  obtain ⟨rfl, hw9⟩ := hq
  have hw9 := hw9.symm
  subst hw9
  rw [c_len]
  refine p_s rfl rfl ?_
  refine p_icmpT rfl (show nI (d_n σ) < 200 by rw [show (200 : Int32) = nI 200 from rfl, nI_ltI (by omega) (by decide)]; exact hn) ?_
  refine p_new (N := 9) rfl nc_TM_48 (fun a ha hal => ?_)
  have h1 : CR G R (ws ++ [(a, .inr (2, [.int 0, .int 0, .int 0, .int 0, .null, .null, .int 0, .null, .null]))]) o ad σ := h.mono px_fr.nw
  have hL1b := h1.2.2.1.1
  obtain ⟨sz2, mc2, hL1d⟩ := hL1b.cell
  refine p_s rfl rfl ?_
  refine p_s rfl rfl ?_
  refine p_get rfl f_TM_12 h1.1 rfl ?_
  refine p_callV rfl c_TM_44 rfl hL1d g_AL_size rfl rfl rfl (p_le (by omega) (Nat.le_refl _) (Nat.le_refl _) (c_size (d := d) hL1b)) (fun v w hq => ?_)
  obtain ⟨rfl, hw9⟩ := hq
  have hw9 := hw9.symm
  subst hw9
  rw [c_len]
  refine p_s rfl rfl ?_
  refine p_s rfl rfl ?_
  refine p_s rfl rfl ?_
  refine p_s rfl rfl ?_
  refine p_s rfl rfl ?_
  rw [show (fun x y : Int32 => x + y) (nI (d_n σ)) 1 = nI (d_n σ + 1) from nI_1 _]
  refine p_callI rfl c_TM_50 g_Cd_init rfl rfl rfl (p_le (by omega) (Nat.le_refl _) (Nat.le_refl _) (c_CdInit (d := d) (px_lk_new _ _ _ ha))) (fun v9 w hq => ?_)
  obtain ⟨rfl, na, ka, q1, q2, q3, q4, q5, q6, q7⟩ := hq
  have nn : ∀ b, px_lk (ws ++ [(a, .inr (2, [.int 0, .int 0, .int 0, .int 0, .null, .null, .int 0, .null, .null]))]) b = none → px_lk ws b = none := fun b hb => by
    cases hz : px_lk ws b with
    | none => rfl
    | some x => rw [px_lk_old _ _ _ _ _ hz] at hb; cases hb
  have hfr : px_fr (fun _ => False) ws w := fun b x _ hb => q7 b x (px_nn hb ha) (px_lk_old _ _ _ _ _ hb)
  have h2 : CR G R w o ad σ := h.mono hfr
  have hL1e := h2.2.2.1.1
  obtain ⟨sz3, mc3, hL1f⟩ := hL1e.cell
  refine p_wf (fun hw => ?_)
  refine p_s rfl rfl ?_
  refine p_s rfl rfl ?_
  refine p_get rfl f_TM_12 h2.1 rfl ?_
  refine p_s rfl rfl ?_
  refine p_callV rfl c_TM_53 rfl hL1f g_AL_add1 rfl rfl rfl (p_le (by omega) (Nat.le_refl _) (Nat.le_refl _) (c_add (d := d) hL1e (by rw [c_len]; omega) (fun x hx => by obtain ⟨i, hi, rfl⟩ := List.mem_map.mp hx; exact h2.obC (List.mem_range.mp hi)) ⟨_, _, _, _, _, q4, rfl, w_687⟩)) (fun v9 w2 hq => ?_)
  obtain ⟨rfl, a1, ha1, hl1, hf1⟩ := hq
  have h3 := h.newCode hen hdn hpp hfr ha (nn na q1) (nn ka q2) q3 q4 q5 q6 hw hl1 ha1 hf1
  have hkp : px_kp Kr ws w2 := (px_kp.mono hfr).tr (hL1e.kp hw hf1)
  have hcell := hf1 a _ (lsS_nk hw hL1e q4 (Nat.ne_of_beq_eq_false rfl) (Nat.ne_of_beq_eq_false rfl)) q4
  refine p_s rfl rfl ?_
  refine p_s rfl rfl ?_
  refine p_get rfl f_TM_57 hcell rfl ?_
  exact p_iret rfl rfl rfl ⟨rfl, _, h3, hkp⟩
end
section
/-! THE CLASS: the constructor -/
theorem px_old {S : Nat → Prop} {ws w : va_W} {q : Nat} (hf : px_fr S ws w) (hS : ¬ S q) (h : px_lk w q = none) : px_lk ws q = none := by
  cases hz : px_lk ws q with
  | none => rfl
  | some x => rw [hf q x hS hz] at h; cases h
set_option maxHeartbeats 4000000 in
theorem c_MemInit {G : px_G} {ws : va_W} {d a : Nat} {R : Int32} (h : px_lk ws a = some (.inr (1, [.int 0, .null, .null]))) : px G m_Mem_init 0 (lv_args 0 [.ref a, .int R]) [] ws (d + 4) 2 6 (fun v w => v = none ∧ ∃ L2 L3, px_lk ws L2 = none ∧ px_lk ws L3 = none ∧ L3 ≠ L2 ∧ px_lk w a = some (oMem R L2 L3) ∧ px_lk w L2 = some (oAL (g_sv G 0) 0 0) ∧ px_lk w L3 = some (oAL (g_sv G 0) 0 0) ∧ px_fr (fun b => b = a) ws w) := by
  refine p_s rfl rfl ?_
  refine p_objI rfl w_61 w_24 w_25 (by exact Nat.le_of_ble_eq_true rfl) ?_
  refine p_s rfl rfl ?_
  refine p_new (N := 3) rfl nc_Mem_9 (fun q1 hq1 hl1 => ?_)
  refine p_s rfl rfl ?_
  refine p_callI rfl c_Mem_11 g_AL_init rfl rfl rfl (p_le (by omega) (Nat.le_refl _) (Nat.le_refl _) (c_ALInit (d := d) (px_lk_new _ _ _ hq1))) (fun v w hq => ?_)
  obtain ⟨rfl, hw9⟩ := hq
  obtain ⟨w1, hw1⟩ : ∃ w1, w1 = w := ⟨_, rfl⟩
  have A1 : px_lk w1 a = some (.inr (1, [.int 0, .null, .null])) := by rw [hw1, hw9]; exact px_keep (px_lk_old _ _ _ _ _ h) (px_nn h hq1)
  have B1 : px_lk w1 q1 = some (oAL (g_sv G 0) 0 0) := by rw [hw1, hw9]; exact px_lk_same _ _ _ _ (px_lk_new _ _ _ hq1)
  have F1 : px_fr (fun _ => False) ws w1 := by rw [hw1, hw9]; exact px_fr.upn hq1
  rw [← hw1]
  clear hw9
  refine p_putF rfl fF_Mem_12 rfl A1 rfl rfl (by exact Nat.le_of_ble_eq_true rfl) ?_
  have C1 := px_lk_same w1 a _ (.inr (1, [.int 0, .ref q1, .null])) A1
  have D1 := px_keep (e := .inr (1, [.int 0, .ref q1, .null])) B1 (px_nek B1 A1 (Nat.ne_of_beq_eq_false rfl))
  refine p_s rfl rfl ?_
  refine p_new (N := 3) rfl nc_Mem_9 (fun q2 hq2 hl2 => ?_)
  refine p_s rfl rfl ?_
  refine p_callI rfl c_Mem_11 g_AL_init rfl rfl rfl (p_le (by omega) (Nat.le_refl _) (Nat.le_refl _) (c_ALInit (d := d) (px_lk_new _ _ _ hq2))) (fun v w hq => ?_)
  obtain ⟨rfl, hw9⟩ := hq
  obtain ⟨w2, hw2⟩ : ∃ w2, w2 = w := ⟨_, rfl⟩
  have A2 : px_lk w2 a = some (.inr (1, [.int 0, .ref q1, .null])) := by rw [hw2, hw9]; exact px_keep (px_lk_old _ _ _ _ _ C1) (px_nn C1 hq2)
  have B2 : px_lk w2 q2 = some (oAL (g_sv G 0) 0 0) := by rw [hw2, hw9]; exact px_lk_same _ _ _ _ (px_lk_new _ _ _ hq2)
  have F2 : px_fr (fun _ => False) (px_up w1 a (.inr (1, [.int 0, .ref q1, .null]))) w2 := by rw [hw2, hw9]; exact px_fr.upn hq2
  rw [← hw2]
  clear hw9
  have E2 : px_lk w2 q1 = some (oAL (g_sv G 0) 0 0) := F2 _ _ (fun z => z) D1
  refine p_own A2 ?_
  refine p_putF2 rfl fF_Mem_18 rfl A2 rfl rfl (by exact Nat.le_of_ble_eq_true rfl) ?_
  refine p_s rfl rfl ?_
  refine p_s rfl rfl ?_
  refine p_putF2 rfl fF_Mem_21 rfl A2 rfl rfl (by exact Nat.le_of_ble_eq_true rfl) ?_
  refine p_vret rfl rfl ⟨rfl, q1, q2, hq1, ?_, fun z => px_nn D1 hq2 z.symm, px_lk_same _ _ _ _ A2, px_keep E2 (px_nek E2 A2 (Nat.ne_of_beq_eq_false rfl)), px_keep B2 (px_nek B2 A2 (Nat.ne_of_beq_eq_false rfl)), ?_⟩
  · exact px_old F1 (fun z => z) (px_old (px_fr.up (S := fun b => b = a) (a := a) (e := .inr (1, [.int 0, .ref q1, .null])) rfl) (fun z => px_nn C1 hq2 z.symm) hq2)
  · exact ((F1.wk (T := fun b => b = a) (fun _ z => z.elim)).tr (px_fr.up rfl)).tr ((F2.wk (T := fun b => b = a) (fun _ z => z.elim)).tr (px_fr.up (S := fun b => b = a) rfl))
def g0M : Nat → Int32 := fun k => if k = 0 then -1 else if k = 1 then 1 else 0
abbrev m0 : Md := (0, (fun _ _ => 0), (fun _ => 0), [], [], g0M)
def roomOf (x : Int32) : Int32 := if isw x 0 65536 = 0 then 8 else x
def ad0 (G : px_G) (mm l1 l2 l3 : Nat) : Nat → Nat → Nat := fun _ i => if i = 0 then mm else if i = 1 then l1 else if i = 3 then l2 else if i = 5 then l3 else g_sv G 0
theorem CR.first {G : px_G} {R : Int32} {ws : va_W} {o mm l1 l2 l3 : Nat} (h1 : px_lk ws o = some (oTM l1 mm (-1) 1 0 0)) (h2 : px_lk ws mm = some (oMem R l2 l3)) (h3 : px_lk ws l1 = some (oAL (g_sv G 0) 0 0)) (h4 : px_lk ws l2 = some (oAL (g_sv G 0) 0 0)) (h5 : px_lk ws l3 = some (oAL (g_sv G 0) 0 0)) (n12 : l1 ≠ l2) (n13 : l1 ≠ l3) (n23 : l2 ≠ l3) : CR G R ws o (ad0 G mm l1 l2 l3) m0 :=
  ⟨h1, h2, ⟨⟨0, h3, Or.inl ⟨rfl, rfl⟩⟩, ⟨0, h4, Or.inl ⟨rfl, rfl⟩⟩, ⟨0, h5, Or.inl ⟨rfl, rfl⟩⟩⟩, ⟨⟨n12, n13, n23⟩, ⟨fun _ => rfl, fun _ => rfl, fun _ => rfl⟩, fun i j hi => absurd hi (Nat.not_lt_zero _), fun i j hi => absurd hi (Nat.not_lt_zero _), fun i j hi => absurd hi (Nat.not_lt_zero _), fun i j hi => absurd hi (Nat.not_lt_zero _), fun i j hi => absurd hi List.not_mem_nil⟩, fun i hi => absurd hi (Nat.not_lt_zero _), fun x hx => absurd hx List.not_mem_nil⟩
set_option maxHeartbeats 4000000 in
theorem o_init {G : px_G} {ws : va_W} {d o : Nat} {x : Int32} (h : px_lk ws o = some (.inr (0, [.null, .null, .int 0, .int 0, .int 0, .int 0]))) : px G m_TM_init 0 (lv_args 0 [.ref o, .int x]) [] ws (d + 10) 4 12 (fun v w => v = none ∧ ∃ ad, CR G (roomOf x) w o ad m0 ∧ px_fr (fun b => b = o) ws w) := by
  by_cases hx : isw x 0 65536 = 0
  · skip
    refine p_s rfl rfl ?_
    refine p_objI rfl w_23 w_24 w_25 (by exact Nat.le_of_ble_eq_true rfl) ?_
    refine p_s rfl rfl ?_
    refine p_new (N := 3) rfl nc_TM_9 (fun q1 hq1 hl1 => ?_)
    refine p_s rfl rfl ?_
    refine p_callI rfl c_TM_11 g_AL_init rfl rfl rfl (p_le (by omega) (Nat.le_refl _) (Nat.le_refl _) (c_ALInit (d := d) (px_lk_new _ _ _ hq1))) (fun v w hq => ?_)
    obtain ⟨rfl, hw9⟩ := hq
    obtain ⟨w1, hw1⟩ : ∃ w1, w1 = w := ⟨_, rfl⟩
    have A1 : px_lk w1 o = some (.inr (0, [.null, .null, .int 0, .int 0, .int 0, .int 0])) := by rw [hw1, hw9]; exact px_keep (px_lk_old _ _ _ _ _ h) (px_nn h hq1)
    have B1 : px_lk w1 q1 = some (oAL (g_sv G 0) 0 0) := by rw [hw1, hw9]; exact px_lk_same _ _ _ _ (px_lk_new _ _ _ hq1)
    have F1 : px_fr (fun _ => False) ws w1 := by rw [hw1, hw9]; exact px_fr.upn hq1
    rw [← hw1]
    clear hw9
    refine p_own A1 ?_
    refine p_putF2 rfl fF_TM_12 rfl A1 rfl rfl (by exact Nat.le_of_ble_eq_true rfl) ?_
    refine p_s rfl rfl ?_
    refine p_s rfl rfl ?_
    refine p_put2 rfl fp_TM_16 A1 rfl rfl (by exact Nat.le_of_ble_eq_true rfl) ?_
    refine p_s rfl rfl ?_
    refine p_s rfl rfl ?_
    refine p_put2 rfl fp_TM_20 A1 rfl rfl (by exact Nat.le_of_ble_eq_true rfl) ?_
    refine p_s rfl rfl ?_
    refine p_s rfl rfl ?_
    refine p_put2 rfl fp_TM_24 A1 rfl rfl (by exact Nat.le_of_ble_eq_true rfl) ?_
    refine p_s rfl rfl ?_
    refine p_s rfl rfl ?_
    refine p_put2 rfl fp_TM_27 A1 rfl rfl (by exact Nat.le_of_ble_eq_true rfl) ?_
    have C1 := px_lk_same w1 o _ (.inr (0, [.ref q1, .null, .int (-1), .int 1, .int 0, .int 0])) A1
    have D1 := px_keep (e := .inr (0, [.ref q1, .null, .int (-1), .int 1, .int 0, .int 0])) B1 (px_nek B1 A1 (Nat.ne_of_beq_eq_false rfl))
    refine p_s rfl rfl ?_
    refine p_new (N := 3) rfl nc_TM_30 (fun mm hm hml => ?_)
    refine p_s rfl rfl ?_
    refine p_s rfl rfl ?_
    refine p_s rfl rfl ?_
    refine p_ldc rfl w_54 ?_
    refine p_callS rfl c_TM_33 g_TM_isWithin rfl rfl rfl (p_le (by omega) (Nat.le_refl _) (Nat.le_refl _) (c_isWithin (d := d))) (fun v w hq => ?_)
    obtain ⟨rfl, hw9⟩ := hq
    subst hw9
    refine p_ifT rfl hx ?_
    refine p_s rfl rfl ?_
    refine p_callI rfl c_TM_37 g_Mem_init rfl rfl rfl (p_le (by omega) (Nat.le_refl _) (Nat.le_refl _) (c_MemInit (d := d) (R := 8) (px_lk_new _ _ _ hm))) (fun v w hq => ?_)
    obtain ⟨rfl, L2, L3, r1, r2, r3, r4, r5, r6, r7⟩ := hq
    have A3 : px_lk w o = some (.inr (0, [.ref q1, .null, .int (-1), .int 1, .int 0, .int 0])) := r7 _ _ (px_nn C1 hm) (px_lk_old _ _ _ _ _ C1)
    have D3 : px_lk w q1 = some (oAL (g_sv G 0) 0 0) := r7 _ _ (px_nn D1 hm) (px_lk_old _ _ _ _ _ D1)
    have n12 : q1 ≠ L2 := px_nn (px_lk_old _ _ _ _ _ D1) r1
    have n13 : q1 ≠ L3 := px_nn (px_lk_old _ _ _ _ _ D1) r2
    refine p_own A3 ?_
    refine p_putF2 rfl fF_TM_40 rfl A3 rfl rfl (by exact Nat.le_of_ble_eq_true rfl) ?_
    refine p_vret rfl rfl ⟨rfl, ad0 G mm q1 L2 L3, ?_, ?_⟩
    · rw [roomOf, if_pos hx]
      exact CR.first (px_lk_same _ _ _ _ A3) (px_keep r4 (px_nek r4 A3 (Nat.ne_of_beq_eq_false rfl))) (px_keep D3 (px_nek D3 A3 (Nat.ne_of_beq_eq_false rfl))) (px_keep r5 (px_nek r5 A3 (Nat.ne_of_beq_eq_false rfl))) (px_keep r6 (px_nek r6 A3 (Nat.ne_of_beq_eq_false rfl))) n12 n13 (fun z => r3 z.symm)
    · refine (((F1.wk (T := fun b => b = o) (fun _ z => z.elim)).tr (px_fr.up (a := o) (e := .inr (0, [.ref q1, .null, .int (-1), .int 1, .int 0, .int 0])) rfl)).tr ?_).tr (px_fr.up (S := fun b => b = o) rfl)
      intro b x hb hx
      exact r7 b x (px_nn hx hm) (px_lk_old _ _ _ _ _ hx)
  · skip
    refine p_s rfl rfl ?_
    refine p_objI rfl w_23 w_24 w_25 (by exact Nat.le_of_ble_eq_true rfl) ?_
    refine p_s rfl rfl ?_
    refine p_new (N := 3) rfl nc_TM_9 (fun q1 hq1 hl1 => ?_)
    refine p_s rfl rfl ?_
    refine p_callI rfl c_TM_11 g_AL_init rfl rfl rfl (p_le (by omega) (Nat.le_refl _) (Nat.le_refl _) (c_ALInit (d := d) (px_lk_new _ _ _ hq1))) (fun v w hq => ?_)
    obtain ⟨rfl, hw9⟩ := hq
    obtain ⟨w1, hw1⟩ : ∃ w1, w1 = w := ⟨_, rfl⟩
    have A1 : px_lk w1 o = some (.inr (0, [.null, .null, .int 0, .int 0, .int 0, .int 0])) := by rw [hw1, hw9]; exact px_keep (px_lk_old _ _ _ _ _ h) (px_nn h hq1)
    have B1 : px_lk w1 q1 = some (oAL (g_sv G 0) 0 0) := by rw [hw1, hw9]; exact px_lk_same _ _ _ _ (px_lk_new _ _ _ hq1)
    have F1 : px_fr (fun _ => False) ws w1 := by rw [hw1, hw9]; exact px_fr.upn hq1
    rw [← hw1]
    clear hw9
    refine p_own A1 ?_
    refine p_putF2 rfl fF_TM_12 rfl A1 rfl rfl (by exact Nat.le_of_ble_eq_true rfl) ?_
    refine p_s rfl rfl ?_
    refine p_s rfl rfl ?_
    refine p_put2 rfl fp_TM_16 A1 rfl rfl (by exact Nat.le_of_ble_eq_true rfl) ?_
    refine p_s rfl rfl ?_
    refine p_s rfl rfl ?_
    refine p_put2 rfl fp_TM_20 A1 rfl rfl (by exact Nat.le_of_ble_eq_true rfl) ?_
    refine p_s rfl rfl ?_
    refine p_s rfl rfl ?_
    refine p_put2 rfl fp_TM_24 A1 rfl rfl (by exact Nat.le_of_ble_eq_true rfl) ?_
    refine p_s rfl rfl ?_
    refine p_s rfl rfl ?_
    refine p_put2 rfl fp_TM_27 A1 rfl rfl (by exact Nat.le_of_ble_eq_true rfl) ?_
    have C1 := px_lk_same w1 o _ (.inr (0, [.ref q1, .null, .int (-1), .int 1, .int 0, .int 0])) A1
    have D1 := px_keep (e := .inr (0, [.ref q1, .null, .int (-1), .int 1, .int 0, .int 0])) B1 (px_nek B1 A1 (Nat.ne_of_beq_eq_false rfl))
    refine p_s rfl rfl ?_
    refine p_new (N := 3) rfl nc_TM_30 (fun mm hm hml => ?_)
    refine p_s rfl rfl ?_
    refine p_s rfl rfl ?_
    refine p_s rfl rfl ?_
    refine p_ldc rfl w_54 ?_
    refine p_callS rfl c_TM_33 g_TM_isWithin rfl rfl rfl (p_le (by omega) (Nat.le_refl _) (Nat.le_refl _) (c_isWithin (d := d))) (fun v w hq => ?_)
    obtain ⟨rfl, hw9⟩ := hq
    subst hw9
    refine p_ifF rfl hx ?_
    refine p_s rfl rfl ?_
    refine p_goto rfl ?_
    refine p_callI rfl c_TM_37 g_Mem_init rfl rfl rfl (p_le (by omega) (Nat.le_refl _) (Nat.le_refl _) (c_MemInit (d := d) (R := x) (px_lk_new _ _ _ hm))) (fun v w hq => ?_)
    obtain ⟨rfl, L2, L3, r1, r2, r3, r4, r5, r6, r7⟩ := hq
    have A3 : px_lk w o = some (.inr (0, [.ref q1, .null, .int (-1), .int 1, .int 0, .int 0])) := r7 _ _ (px_nn C1 hm) (px_lk_old _ _ _ _ _ C1)
    have D3 : px_lk w q1 = some (oAL (g_sv G 0) 0 0) := r7 _ _ (px_nn D1 hm) (px_lk_old _ _ _ _ _ D1)
    have n12 : q1 ≠ L2 := px_nn (px_lk_old _ _ _ _ _ D1) r1
    have n13 : q1 ≠ L3 := px_nn (px_lk_old _ _ _ _ _ D1) r2
    refine p_own A3 ?_
    refine p_putF2 rfl fF_TM_40 rfl A3 rfl rfl (by exact Nat.le_of_ble_eq_true rfl) ?_
    refine p_vret rfl rfl ⟨rfl, ad0 G mm q1 L2 L3, ?_, ?_⟩
    · rw [roomOf, if_neg hx]
      exact CR.first (px_lk_same _ _ _ _ A3) (px_keep r4 (px_nek r4 A3 (Nat.ne_of_beq_eq_false rfl))) (px_keep D3 (px_nek D3 A3 (Nat.ne_of_beq_eq_false rfl))) (px_keep r5 (px_nek r5 A3 (Nat.ne_of_beq_eq_false rfl))) (px_keep r6 (px_nek r6 A3 (Nat.ne_of_beq_eq_false rfl))) n12 n13 (fun z => r3 z.symm)
    · refine (((F1.wk (T := fun b => b = o) (fun _ z => z.elim)).tr (px_fr.up (a := o) (e := .inr (0, [.ref q1, .null, .int (-1), .int 1, .int 0, .int 0])) rfl)).tr ?_).tr (px_fr.up (S := fun b => b = o) rfl)
      intro b x hb hx
      exact r7 b x (px_nn hx hm) (px_lk_old _ _ _ _ _ hx)
end
section
/-! THE REFERENCE: its cells; none, is, set, statusOf, many, entries -/
/-- the reference's object: arrays at aa k (0 priority, 1 up, 2 down, 3 parent, 4 counter, 5 bit, 6 trips, 7 age, 8 good, 9 keptBit, 10 keptTrips, 11 keptAge, 12 keptGood, 13 stored, 14 happened, 15 snapshot, 16 displaced, 17 offCondition), numbers s k (0 code, 1 room, 2 codes, 3 last, 4 gone, 5 cut, 6 cycles, 7 events) -/
abbrev oRf (aa : Nat → Nat) (s : Nat → Int32) : va_E := .inr (7, [.int (s 0), .int (s 1), .int (s 2), .ref (aa 0), .ref (aa 1), .ref (aa 2), .ref (aa 3), .ref (aa 4), .ref (aa 5), .ref (aa 6), .ref (aa 7), .ref (aa 8), .ref (aa 9), .ref (aa 10), .ref (aa 11), .ref (aa 12), .ref (aa 13), .ref (aa 14), .ref (aa 15), .int (s 3), .int (s 4), .ref (aa 16), .ref (aa 17), .int (s 5), .int (s 6), .int (s 7)])
def rcell (G : px_G) (k : Nat) (f : Nat → Int32) : va_E := match k with
  | 5 => oZA G 1608 f
  | 9 => oZA G 1608 f
  | 17 => oZA G 32 f
  | 15 => oIA G 1608 f
  | 16 => oIA G 500 f
  | _ => oIA G 201 f
theorem rcell_kd (G : px_G) (k : Nat) (f : Nat → Int32) : px_kd (rcell G k f) = 1000 := by
  unfold rcell
  split <;> rfl
abbrev isZ (x : Int32) : Prop := x = 0 ∨ x = 1
def RH (G : px_G) (ws : va_W) (m : Nat) (aa : Nat → Nat) (fa : Nat → Nat → Int32) (s : Nat → Int32) : Prop :=
  px_lk ws m = some (oRf aa s) ∧ (∀ k, k < 18 → px_lk ws (aa k) = some (rcell G k (fa k))) ∧ (∀ i j, i < 18 → j < 18 → aa i = aa j → i = j) ∧ (∀ j, isZ (fa 5 j)) ∧ (∀ j, isZ (fa 9 j)) ∧ (∀ j, isZ (fa 17 j))
def upF (fa : Nat → Nat → Int32) (k i : Nat) (v : Int32) : Nat → Nat → Int32 := fun k' => if k' = k then upd (fa k) i v else fa k'
/-- the class's cells -/
def Kc (x : va_E) : Bool := Nat.ble (px_kd x) 6 || Nat.beq (px_kd x) 1001
theorem RH.put {G : px_G} {ws : va_W} {m : Nat} {aa : Nat → Nat} {fa : Nat → Nat → Int32} {s : Nat → Int32} (h : RH G ws m aa fa s) {k i : Nat} {v : Int32} (hk : k < 18) (hz : (k = 5 ∨ k = 9 ∨ k = 17) → isZ v) : RH G (px_up ws (aa k) (rcell G k (upd (fa k) i v))) m aa (upF fa k i v) s := by
  obtain ⟨h1, h2, h3, z5, z9, z17⟩ := h
  have hc := h2 k hk
  have hkd : ¬ px_kd (oRf aa s) = px_kd (rcell G k (fa k)) := by rw [rcell_kd]; exact Nat.ne_of_beq_eq_false rfl
  have zz : ∀ c, (c = 5 ∨ c = 9 ∨ c = 17) → (∀ j, isZ (fa c j)) → ∀ j, isZ (upF fa k i v c j) := by
    intro c hc hh j
    unfold upF
    by_cases hck : c = k
    · rw [if_pos hck]
      unfold upd
      by_cases hj : j = i
      · rw [if_pos hj]
        exact hz (hck ▸ hc)
      · rw [if_neg hj, ← hck]
        exact hh j
    · rw [if_neg hck]
      exact hh j
  refine ⟨px_keepK hc h1 hkd, fun c hcl => ?_, h3, zz 5 (by omega) z5, zz 9 (by omega) z9, zz 17 (by omega) z17⟩
  unfold upF
  by_cases hck : c = k
  · subst hck
    rw [if_pos rfl]
    exact px_lk_same _ _ _ _ hc
  · rw [if_neg hck]
    exact px_keep (h2 c hcl) (fun z => hck (h3 c k hcl hk z))
theorem RH.kp {G : px_G} {ws : va_W} {m : Nat} {aa : Nat → Nat} {fa : Nat → Nat → Int32} {s : Nat → Int32} (h : RH G ws m aa fa s) {k : Nat} (hk : k < 18) {e : va_E} : px_kp Kc ws (px_up ws (aa k) e) := px_kp.up (h.2.1 k hk) (by
  unfold Kc
  rw [rcell_kd]
  rfl)
theorem RH.sc {G : px_G} {ws : va_W} {m : Nat} {aa : Nat → Nat} {fa : Nat → Nat → Int32} {s : Nat → Int32} (h : RH G ws m aa fa s) (s' : Nat → Int32) : RH G (px_up ws m (oRf aa s')) m aa fa s' := by
  obtain ⟨h1, h2, h3⟩ := h
  refine ⟨px_lk_same _ _ _ _ h1, fun c hcl => px_keepK h1 (h2 c hcl) ?_, h3⟩
  rw [rcell_kd]
  exact Nat.ne_of_beq_eq_false rfl
theorem RH.kps {G : px_G} {ws : va_W} {m : Nat} {aa : Nat → Nat} {fa : Nat → Nat → Int32} {s : Nat → Int32} (h : RH G ws m aa fa s) {e : va_E} : px_kp Kc ws (px_up ws m e) := px_kp.up h.1 rfl
theorem nz_bool {x : Int32} (h : isZ x) : narrow .boolean (.int x) = .int x := by
  rcases h with rfl | rfl <;> rfl
theorem ix8 (c b : Nat) : (8 : Int32) * nI c + nI b = nI (8 * c + b) := by rw [show (8 : Int32) = nI 8 from rfl, pk_mul, nI_add]
set_option maxHeartbeats 4000000 in
theorem r_is {G : px_G} {ws : va_W} {d m : Nat} {aa : Nat → Nat} {fa : Nat → Nat → Int32} {s : Nat → Int32} (h : RH G ws m aa fa s) {c b : Nat} (hc : c ≤ 200) (hb : b < 8) : px G m_Rf_is 0 (lv_args 0 [.ref m, .int (nI c), .int (nI b)]) [] ws d 0 0 (fun v w => v = some (.int (fa 5 (8 * c + b))) ∧ w = ws) := by
  refine p_s rfl rfl ?_
  refine p_get rfl f_Rf_25 h.1 rfl ?_
  refine p_s rfl rfl ?_
  refine p_s rfl rfl ?_
  refine p_s rfl rfl ?_
  refine p_s rfl rfl ?_
  refine p_s rfl rfl ?_
  refine p_zaldS rfl (h.2.1 5 (by decide)) (ix8 c b) (by omega) (by decide) ?_
  exact p_iret rfl rfl (nz_bool (h.2.2.2.1 _)) ⟨rfl, rfl⟩
set_option maxHeartbeats 4000000 in
theorem r_set {G : px_G} {ws : va_W} {d m : Nat} {aa : Nat → Nat} {fa : Nat → Nat → Int32} {s : Nat → Int32} (h : RH G ws m aa fa s) {c b : Nat} {x : Int32} (hc : c ≤ 200) (hb : b < 8) (hx : isZ x) : px G m_Rf_set 0 (lv_args 0 [.ref m, .int (nI c), .int (nI b), .int x]) [] ws d 0 0 (fun v w => v = none ∧ RH G w m aa (upF fa 5 (8 * c + b) x) s ∧ px_kp Kc ws w) := by
  refine p_s rfl rfl ?_
  refine p_get rfl f_Rf_25 h.1 rfl ?_
  refine p_s rfl rfl ?_
  refine p_s rfl rfl ?_
  refine p_s rfl rfl ?_
  refine p_s rfl rfl ?_
  refine p_s rfl rfl ?_
  refine p_s rfl rfl ?_
  refine p_zastS rfl (h.2.1 5 (by decide)) (ix8 c b) (by omega) (by decide) hx ?_
  exact p_vret rfl rfl ⟨rfl, h.put (by decide) (fun _ => hx), h.kp (by decide)⟩
def upS (s : Nat → Int32) (k0 : Nat) (x : Int32) : Nat → Int32 := fun k => if k = k0 then x else s k
set_option maxHeartbeats 4000000 in
theorem r_noneT {G : px_G} {ws : va_W} {d m : Nat} {aa : Nat → Nat} {fa : Nat → Nat → Int32} {s : Nat → Int32} (h : RH G ws m aa fa s) {x : Int32} (hx : x < 1 ∨ s 2 < x) : px G m_Rf_none 0 (lv_args 0 [.ref m, .int x]) [] ws d 0 0 (fun v w => v = some (.int 1) ∧ RH G w m aa fa (upS s 0 0) ∧ px_kp Kc ws w) := by
  refine p_s rfl rfl ?_
  refine p_s rfl rfl ?_
  refine p_put rfl fp_Rf_70 h.1 rfl rfl (by exact Nat.le_of_ble_eq_true rfl) ?_
  have h1 : RH G (px_up ws m (oRf aa (upS s 0 0))) m aa fa (upS s 0 0) := h.sc (upS s 0 0)
  refine p_s rfl rfl ?_
  refine p_s rfl rfl ?_
  refine p_icmp rfl (fun c => ?_) (fun c => ?_)
  · simp only [px_cmp] at c
    refine p_s rfl rfl ?_
    refine p_goto rfl ?_
    exact p_iret rfl rfl rfl ⟨rfl, h1, h.kps⟩
  · simp only [px_ncmp] at c
    refine p_s rfl rfl ?_
    refine p_s rfl rfl ?_
    refine p_get rfl f_Rf_73 h1.1 rfl ?_
    refine p_icmp rfl (fun c2 => ?_) (fun c2 => ?_)
    · simp only [px_cmp] at c2
      refine p_s rfl rfl ?_
      exact absurd hx (fun z => z.elim c (fun z => absurd c2 (Int32.not_le.mpr z)))
    · simp only [px_ncmp] at c2
      refine p_s rfl rfl ?_
      refine p_goto rfl ?_
      exact p_iret rfl rfl rfl ⟨rfl, h1, h.kps⟩
set_option maxHeartbeats 4000000 in
theorem r_noneF {G : px_G} {ws : va_W} {d m : Nat} {aa : Nat → Nat} {fa : Nat → Nat → Int32} {s : Nat → Int32} (h : RH G ws m aa fa s) {x : Int32} (hx : ¬ (x < 1 ∨ s 2 < x)) : px G m_Rf_none 0 (lv_args 0 [.ref m, .int x]) [] ws d 0 0 (fun v w => v = some (.int 0) ∧ RH G w m aa fa (upS s 0 0) ∧ px_kp Kc ws w) := by
  refine p_s rfl rfl ?_
  refine p_s rfl rfl ?_
  refine p_put rfl fp_Rf_70 h.1 rfl rfl (by exact Nat.le_of_ble_eq_true rfl) ?_
  have h1 : RH G (px_up ws m (oRf aa (upS s 0 0))) m aa fa (upS s 0 0) := h.sc (upS s 0 0)
  refine p_s rfl rfl ?_
  refine p_s rfl rfl ?_
  refine p_icmpF rfl (fun z => hx (Or.inl z)) ?_
  refine p_s rfl rfl ?_
  refine p_s rfl rfl ?_
  refine p_get rfl f_Rf_73 h1.1 rfl ?_
  refine p_icmpT rfl (Int32.not_lt.mp (fun z => hx (Or.inr z))) ?_
  refine p_s rfl rfl ?_
  exact p_iret rfl rfl rfl ⟨rfl, h1, h.kps⟩
def stR (g : Nat → Int32) : Nat → Int32
  | 0 => 0
  | b + 1 => if g b = 0 then stR g b else stR g b + (1 <<< (nI b &&& 31))
set_option maxHeartbeats 4000000 in
theorem r_st_loop {G : px_G} {ws : va_W} {d m : Nat} {aa : Nat → Nat} {fa : Nat → Nat → Int32} {s : Nat → Int32} (h : RH G ws m aa fa s) {c : Nat} (hc : c ≤ 200) : ∀ (k b : Nat) (x2 x3 : Int32), b + k = 8 → x3 = nI b → x2 = stR (fun b => fa 5 (8 * c + b)) b → px G m_Rf_statusOf 4 [(3, .int x3), (2, .int x2), (0, .ref m), (1, .int (nI c))] [] ws (d + 1) 0 0 (fun v w => v = some (.int (stR (fun b => fa 5 (8 * c + b)) 8)) ∧ w = ws) := by
  intro k
  induction k with
  | zero =>
    intro b x2 x3 hbk h3 h2
    subst h3
    subst h2
    have hb : b = 8 := by omega
    subst hb
    refine p_s rfl rfl ?_
    refine p_s rfl rfl ?_
    refine p_icmpT rfl (show (8 : Int32) ≤ nI 8 by decide) ?_
    refine p_s rfl rfl ?_
    exact p_iret rfl rfl rfl ⟨rfl, rfl⟩
  | succ k ih =>
    intro b x2 x3 hbk h3 h2
    subst h3
    subst h2
    have hb : b < 8 := by omega
    refine p_s rfl rfl ?_
    refine p_s rfl rfl ?_
    refine p_icmpF rfl (show ¬ (8 : Int32) ≤ nI b by rw [show (8 : Int32) = nI 8 from rfl, nI_leI (by decide) (by omega)]; omega) ?_
    refine p_s rfl rfl ?_
    refine p_s rfl rfl ?_
    refine p_s rfl rfl ?_
    refine p_callV rfl c_Rf_76 rfl h.1 g_Rf_is rfl rfl rfl (r_is h hc hb) (fun v w hq => ?_)
    obtain ⟨rfl, hw9⟩ := hq
    have hw9 := hw9.symm
    subst hw9
    refine p_if rfl (fun c2 => ?_) (fun c2 => ?_)
    · simp only [px_cmp] at c2
      refine p_s rfl rfl ?_
      refine p_s rfl rfl ?_
      refine p_s rfl rfl ?_
      refine p_goto rfl ?_
      exact ih (b + 1) _ _ (by omega) (nI_1 b) (by rw [stR, if_pos c2])
    · simp only [px_ncmp] at c2
      refine p_s rfl rfl ?_
      refine p_s rfl rfl ?_
      refine p_s rfl rfl ?_
      refine p_s rfl rfl ?_
      refine p_s rfl rfl ?_
      refine p_goto rfl ?_
      refine p_s rfl rfl ?_
      refine p_s rfl rfl ?_
      refine p_goto rfl ?_
      exact ih (b + 1) _ _ (by omega) (nI_1 b) (by rw [stR, if_neg c2])
theorem r_statusOf {G : px_G} {ws : va_W} {d m : Nat} {aa : Nat → Nat} {fa : Nat → Nat → Int32} {s : Nat → Int32} (h : RH G ws m aa fa s) {c : Nat} (hc : c ≤ 200) : px G m_Rf_statusOf 0 (lv_args 0 [.ref m, .int (nI c)]) [] ws (d + 1) 0 0 (fun v w => v = some (.int (stR (fun b => fa 5 (8 * c + b)) 8)) ∧ w = ws) := by
  refine p_s rfl rfl ?_
  refine p_s rfl rfl ?_
  refine p_s rfl rfl ?_
  refine p_s rfl rfl ?_
  exact r_st_loop h hc 8 0 _ _ (by omega) rfl rfl
/-- how many of 1 .. k have g -/
def cnR (g : Nat → Int32) : Nat → Nat
  | 0 => 0
  | k + 1 => cnR g k + (if g (k + 1) = 0 then 0 else 1)
def cnP (g : Nat → Int32) : Nat → Nat
  | 0 => 0
  | k + 1 => cnP g k + (if g (k + 1) ≤ 0 then 0 else 1)
set_option maxHeartbeats 4000000 in
theorem r_many_loop {G : px_G} {ws : va_W} {d m : Nat} {aa : Nat → Nat} {fa : Nat → Nat → Int32} {s : Nat → Int32} (h : RH G ws m aa fa s) {b : Nat} (hb : b < 8) {n : Nat} (hn : n ≤ 200) (hs : s 2 = nI n) : ∀ (k c : Nat) (x2 x3 : Int32), c + k = n → x3 = nI (c + 1) → x2 = nI ((cnR (fun c => fa 5 (8 * c + b))) c) → px G m_Rf_many 4 [(3, .int x3), (2, .int x2), (0, .ref m), (1, .int (nI b))] [] ws (d + 1) 0 0 (fun v w => v = some (.int (nI ((cnR (fun c => fa 5 (8 * c + b))) n))) ∧ w = ws) := by
  intro k
  induction k with
  | zero =>
    intro c x2 x3 hck h3 h2
    subst h3
    subst h2
    have hcn : c = n := by omega
    subst hcn
    refine p_s rfl rfl ?_
    refine p_s rfl rfl ?_
    refine p_get rfl f_Rf_73 h.1 rfl ?_
    rw [hs]
    refine p_icmpT rfl (show nI c < nI (c + 1) from nI_lt (by omega) (by omega)) ?_
    refine p_s rfl rfl ?_
    exact p_iret rfl rfl rfl ⟨rfl, rfl⟩
  | succ k ih =>
    intro c x2 x3 hck h3 h2
    subst h3
    subst h2
    have hcn : c < n := by omega
    refine p_s rfl rfl ?_
    refine p_s rfl rfl ?_
    refine p_get rfl f_Rf_73 h.1 rfl ?_
    rw [hs]
    refine p_icmpF rfl (show ¬ nI n < nI (c + 1) from nI_nlt (by omega) (by omega)) ?_
    refine p_s rfl rfl ?_
    refine p_s rfl rfl ?_
    refine p_s rfl rfl ?_
    refine p_callV rfl c_Rf_76 rfl h.1 g_Rf_is rfl rfl rfl (r_is h (by omega) hb) (fun v w hq => ?_)
    obtain ⟨rfl, hw9⟩ := hq
    have hw9 := hw9.symm
    subst hw9
    refine p_if rfl (fun c2 => ?_) (fun c2 => ?_)
    · simp only [px_cmp] at c2
      refine p_s rfl rfl ?_
      refine p_s rfl rfl ?_
      refine p_s rfl rfl ?_
      refine p_goto rfl ?_
      exact ih (c + 1) _ _ (by omega) (nI_1 (c + 1)) (by rw [cnR, if_pos c2, Nat.add_zero])
    · simp only [px_ncmp] at c2
      refine p_s rfl rfl ?_
      refine p_s rfl rfl ?_
      refine p_s rfl rfl ?_
      refine p_goto rfl ?_
      refine p_s rfl rfl ?_
      refine p_s rfl rfl ?_
      refine p_goto rfl ?_
      exact ih (c + 1) _ _ (by omega) (nI_1 (c + 1)) (by rw [cnR, if_neg c2]; exact nI_1 _)
theorem r_many {G : px_G} {ws : va_W} {d m : Nat} {aa : Nat → Nat} {fa : Nat → Nat → Int32} {s : Nat → Int32} (h : RH G ws m aa fa s) {b : Nat} (hb : b < 8) {n : Nat} (hn : n ≤ 200) (hs : s 2 = nI n) : px G m_Rf_many 0 (lv_args 0 [.ref m, .int (nI b)]) [] ws (d + 1) 0 0 (fun v w => v = some (.int (nI ((cnR (fun c => fa 5 (8 * c + b))) n))) ∧ w = ws) := by
  refine p_s rfl rfl ?_
  refine p_s rfl rfl ?_
  refine p_s rfl rfl ?_
  refine p_s rfl rfl ?_
  exact r_many_loop h hb hn hs n 0 _ _ (by omega) rfl rfl
set_option maxHeartbeats 4000000 in
theorem r_entries_loop {G : px_G} {ws : va_W} {d m : Nat} {aa : Nat → Nat} {fa : Nat → Nat → Int32} {s : Nat → Int32} (h : RH G ws m aa fa s) {n : Nat} (hn : n ≤ 200) (hs : s 2 = nI n) : ∀ (k c : Nat) (x2 x3 : Int32), c + k = n → x3 = nI (c + 1) → x2 = nI ((cnP (fa 13)) c) → px G m_Rf_entries 4 [(2, .int x3), (1, .int x2), (0, .ref m)] [] ws d 0 0 (fun v w => v = some (.int (nI ((cnP (fa 13)) n))) ∧ w = ws) := by
  intro k
  induction k with
  | zero =>
    intro c x2 x3 hck h3 h2
    subst h3
    subst h2
    have hcn : c = n := by omega
    subst hcn
    refine p_s rfl rfl ?_
    refine p_s rfl rfl ?_
    refine p_get rfl f_Rf_73 h.1 rfl ?_
    rw [hs]
    refine p_icmpT rfl (show nI c < nI (c + 1) from nI_lt (by omega) (by omega)) ?_
    refine p_s rfl rfl ?_
    exact p_iret rfl rfl rfl ⟨rfl, rfl⟩
  | succ k ih =>
    intro c x2 x3 hck h3 h2
    subst h3
    subst h2
    have hcn : c < n := by omega
    refine p_s rfl rfl ?_
    refine p_s rfl rfl ?_
    refine p_get rfl f_Rf_73 h.1 rfl ?_
    rw [hs]
    refine p_icmpF rfl (show ¬ nI n < nI (c + 1) from nI_nlt (by omega) (by omega)) ?_
    refine p_s rfl rfl ?_
    refine p_get rfl f_Rf_50 h.1 rfl ?_
    refine p_s rfl rfl ?_
    refine p_ialdS rfl (h.2.1 13 (by decide)) rfl (by omega) (by decide) ?_
    refine p_if rfl (fun c2 => ?_) (fun c2 => ?_)
    · simp only [px_cmp] at c2
      refine p_s rfl rfl ?_
      refine p_s rfl rfl ?_
      refine p_s rfl rfl ?_
      refine p_goto rfl ?_
      exact ih (c + 1) _ _ (by omega) (nI_1 (c + 1)) (by rw [cnP, if_pos c2, Nat.add_zero])
    · simp only [px_ncmp] at c2
      refine p_s rfl rfl ?_
      refine p_s rfl rfl ?_
      refine p_s rfl rfl ?_
      refine p_goto rfl ?_
      refine p_s rfl rfl ?_
      refine p_s rfl rfl ?_
      refine p_goto rfl ?_
      exact ih (c + 1) _ _ (by omega) (nI_1 (c + 1)) (by rw [cnP, if_neg c2]; exact nI_1 _)
theorem r_entries {G : px_G} {ws : va_W} {d m : Nat} {aa : Nat → Nat} {fa : Nat → Nat → Int32} {s : Nat → Int32} (h : RH G ws m aa fa s) {n : Nat} (hn : n ≤ 200) (hs : s 2 = nI n) : px G m_Rf_entries 0 (lv_args 0 [.ref m]) [] ws d 0 0 (fun v w => v = some (.int (nI ((cnP (fa 13)) n))) ∧ w = ws) := by
  refine p_s rfl rfl ?_
  refine p_s rfl rfl ?_
  refine p_s rfl rfl ?_
  refine p_s rfl rfl ?_
  exact r_entries_loop h hn hs n 0 _ _ (by omega) rfl rfl
end
section
/-! THE REFERENCE'S NUMBERS AND THE MODEL -/
def pw (b : Nat) : Int32 := nI (2 ^ b)
def setB (s : Int32) (b : Nat) (x : Int32) : Int32 := if x = 0 then s &&& (pw b ^^^ -1) else s ||| pw b
theorem setB_h0 : ∀ k, k < 256 → ∀ b, b < 8 → ∀ c, c < 8 → sHas (setB (nI k) b 0) (pw c) = if c = b then 0 else sHas (nI k) (pw c) := by decide +kernel
theorem setB_h1 : ∀ k, k < 256 → ∀ b, b < 8 → ∀ c, c < 8 → sHas (setB (nI k) b 1) (pw c) = if c = b then 1 else sHas (nI k) (pw c) := by decide +kernel
theorem setB_r0 : ∀ k, k < 256 → ∀ b, b < 8 → (setB (nI k) b 0).toNatClampNeg < 256 ∧ setB (nI k) b 0 = nI (setB (nI k) b 0).toNatClampNeg := by decide +kernel
theorem setB_r1 : ∀ k, k < 256 → ∀ b, b < 8 → (setB (nI k) b 1).toNatClampNeg < 256 ∧ setB (nI k) b 1 = nI (setB (nI k) b 1).toNatClampNeg := by decide +kernel
theorem stR_s : ∀ k, k < 256 → stR (fun b => sHas (nI k) (pw b)) 8 = nI k := by decide +kernel
abbrev isB (s : Int32) : Prop := ∃ k, k < 256 ∧ s = nI k
theorem setB_has {s x : Int32} {b c : Nat} (hs : isB s) (hx : isZ x) (hb : b < 8) (hc : c < 8) : sHas (setB s b x) (pw c) = if c = b then x else sHas s (pw c) := by
  obtain ⟨k, hk, rfl⟩ := hs
  rcases hx with rfl | rfl
  · exact setB_h0 k hk b hb c hc
  · exact setB_h1 k hk b hb c hc
theorem setB_is {s x : Int32} {b : Nat} (hs : isB s) (hx : isZ x) (hb : b < 8) : isB (setB s b x) := by
  obtain ⟨k, hk, rfl⟩ := hs
  rcases hx with rfl | rfl
  · exact ⟨_, (setB_r0 k hk b hb).1, (setB_r0 k hk b hb).2⟩
  · exact ⟨_, (setB_r1 k hk b hb).1, (setB_r1 k hk b hb).2⟩
def att (k : Nat) : Nat := match k with
  | 0 => 0
  | 1 => 1
  | 2 => 2
  | 4 => 11
  | 6 => 4
  | 7 => 5
  | 8 => 6
  | 10 => 8
  | 11 => 9
  | _ => 10
abbrev isAt (k : Nat) : Prop := k = 0 ∨ k = 1 ∨ k = 2 ∨ k = 4 ∨ k = 6 ∨ k = 7 ∨ k = 8 ∨ k = 10 ∨ k = 11 ∨ k = 12
theorem att_ne {k : Nat} (h : isAt k) : att k ≠ 3 ∧ att k ≠ 7 := by
  rcases h with rfl | rfl | rfl | rfl | rfl | rfl | rfl | rfl | rfl | rfl <;> decide
theorem att_inj {k c : Nat} (h : isAt k) (h2 : isAt c) (hn : c ≠ k) : att c ≠ att k := by
  rcases h with rfl | rfl | rfl | rfl | rfl | rfl | rfl | rfl | rfl | rfl <;> rcases h2 with rfl | rfl | rfl | rfl | rfl | rfl | rfl | rfl | rfl | rfl <;> first | exact absurd rfl hn | decide
theorem upF_ne {fa : Nat → Nat → Int32} {k i c : Nat} {x : Int32} (h : c ≠ k) : upF fa k i x c = fa c := if_neg h
theorem upF_at {fa : Nat → Nat → Int32} {k i j : Nat} {x : Int32} : upF fa k i x k j = if j = i then x else fa k j := by
  unfold upF
  rw [if_pos rfl]
  rfl
def RSa (fa : Nat → Nat → Int32) (n : Nat) (A : Nat → Nat → Int32) : Prop := ∀ k, isAt k → ∀ i, i < n → fa k (i + 1) = A (att k) i
def RSb (fa : Nat → Nat → Int32) (n : Nat) (A : Nat → Nat → Int32) : Prop := ∀ i, i < n → ∀ b, b < 8 → fa 5 (8 * (i + 1) + b) = sHas (A 3 i) (pw b) ∧ fa 9 (8 * (i + 1) + b) = sHas (A 7 i) (pw b)
def RSr (n : Nat) (A : Nat → Nat → Int32) : Prop := ∀ i, i < n → isB (A 3 i) ∧ isB (A 7 i)
def RSp (fa : Nat → Nat → Int32) (n : Nat) (p : Nat → Nat) : Prop := (∀ i, i < n → fa 3 (i + 1) = nI (p i)) ∧ ∀ i, n ≤ i → i < 200 → fa 3 (i + 1) = 0
/-- stored: numbers N in the order of the entries, la the last one given, q a bound -/
def RSe (q : Nat) (fa : Nat → Nat → Int32) (s : Nat → Int32) (es : List En4) : Prop := ∃ (N : Nat → Nat) (la : Nat), s 3 = nI la ∧ la ≤ q ∧ (∀ i, i < 200 → fa 13 (i + 1) = nI (N i) ∧ N i ≤ la ∧ (N i = 0 ↔ i ∉ es.map (fun x => x.1))) ∧ (es.map (fun x => x.1)).Pairwise (fun a b => N a < N b) ∧
  ∀ x ∈ es, fa 14 (x.1 + 1) = x.2.1 ∧ ∀ j, j < 4 → fa 15 (8 * (x.1 + 1) + j) = snK x.2.2.1 j ∧ fa 15 (8 * (x.1 + 1) + 4 + j) = snK x.2.2.2 j
def RSd (fa : Nat → Nat → Int32) (s : Nat → Int32) (ds : List Nat) : Prop := s 4 = nI ds.length ∧ ∀ k c, ds[k]? = some c → fa 16 k = nI (c + 1)
def RSo (fa : Nat → Nat → Int32) (g : Nat → Int32) : Prop := ∀ j, j < 32 → fa 17 j = if sHas (g 0) (1 <<< (nI j &&& 31)) = 0 then 1 else 0
def RSs (R : Int32) (s : Nat → Int32) (n : Nat) (g : Nat → Int32) : Prop := s 1 = R ∧ s 2 = nI n ∧ s 5 = (if g 1 = 0 then 1 else 0) ∧ s 6 = g 2 ∧ s 7 = g 3 ∧ isZ (g 1)
def RS (R : Int32) (q : Nat) (fa : Nat → Nat → Int32) (s : Nat → Int32) (σ : Md) : Prop :=
  d_n σ ≤ 200 ∧ RSa fa (d_n σ) (d_A σ) ∧ RSb fa (d_n σ) (d_A σ) ∧ RSr (d_n σ) (d_A σ) ∧ RSp fa (d_n σ) (d_p σ) ∧ RSe q fa s (d_e σ) ∧ RSd fa s (d_d σ) ∧ RSo fa (d_g σ) ∧ RSs R s (d_n σ) (d_g σ)
/-- one number of a code -/
theorem RS.at {R : Int32} {q : Nat} {fa : Nat → Nat → Int32} {s : Nat → Int32} {σ : Md} (h : RS R q fa s σ) {k i : Nat} {x : Int32} (hk : isAt k) (hi : i < d_n σ) : RS R q (upF fa k (i + 1) x) s (stX σ (att k) i x) := by
  obtain ⟨h0, ha, hb, hr, hp, he, hd, ho, hs⟩ := h
  have hne := att_ne hk
  have e5 : upF fa k (i + 1) x 5 = fa 5 := upF_ne (by omega)
  have e9 : upF fa k (i + 1) x 9 = fa 9 := upF_ne (by omega)
  have e3 : upF fa k (i + 1) x 3 = fa 3 := upF_ne (by omega)
  have e13 : upF fa k (i + 1) x 13 = fa 13 := upF_ne (by omega)
  have e14 : upF fa k (i + 1) x 14 = fa 14 := upF_ne (by omega)
  have e15 : upF fa k (i + 1) x 15 = fa 15 := upF_ne (by omega)
  have e16 : upF fa k (i + 1) x 16 = fa 16 := upF_ne (by omega)
  have e17 : upF fa k (i + 1) x 17 = fa 17 := upF_ne (by omega)
  refine ⟨h0, fun c hc j hj => ?_, fun j hj b hb2 => ?_, fun j hj => ?_, ?_, ?_, ?_, ?_, hs⟩
  · show upF fa k (i + 1) x c (j + 1) = up1 (d_A σ) (att k) i x (att c) j
    by_cases hck : c = k
    · subst hck
      rw [upF_at]
      by_cases hji : j = i
      · subst hji
        rw [if_pos rfl, up1_same]
      · rw [if_neg (by omega), up1_ne (Or.inr hji)]
        exact ha c hk j hj
    · rw [upF_ne hck, up1_ne (Or.inl (att_inj hk hc hck))]
      exact ha c hc j hj
  · show upF fa k (i + 1) x 5 _ = sHas (up1 (d_A σ) (att k) i x 3 j) _ ∧ upF fa k (i + 1) x 9 _ = sHas (up1 (d_A σ) (att k) i x 7 j) _
    rw [e5, e9, up1_ne (Or.inl (fun z => hne.1 z.symm)), up1_ne (Or.inl (fun z => hne.2 z.symm))]
    exact hb j hj b hb2
  · show isB (up1 (d_A σ) (att k) i x 3 j) ∧ isB (up1 (d_A σ) (att k) i x 7 j)
    rw [up1_ne (Or.inl (fun z => hne.1 z.symm)), up1_ne (Or.inl (fun z => hne.2 z.symm))]
    exact hr j hj
  · unfold RSp
    rw [e3]
    exact hp
  · unfold RSe
    rw [e13, e14, e15]
    exact he
  · unfold RSd
    rw [e16]
    exact hd
  · unfold RSo
    rw [e17]
    exact ho
/-- one bit of a code's status (5, 3) or kept status (9, 7) -/
theorem RS.bit {R : Int32} {q : Nat} {fa : Nat → Nat → Int32} {s : Nat → Int32} {σ : Md} (h : RS R q fa s σ) {k a i b : Nat} {x : Int32} (hk : (k = 5 ∧ a = 3) ∨ (k = 9 ∧ a = 7)) (hi : i < d_n σ) (hb8 : b < 8) (hx : isZ x) : RS R q (upF fa k (8 * (i + 1) + b) x) s (stX σ a i (setB (d_A σ a i) b x)) := by
  obtain ⟨h0, ha, hb, hr, hp, he, hd, ho, hs⟩ := h
  have e3 : upF fa k (8 * (i + 1) + b) x 3 = fa 3 := upF_ne (by omega)
  have e13 : upF fa k (8 * (i + 1) + b) x 13 = fa 13 := upF_ne (by omega)
  have e14 : upF fa k (8 * (i + 1) + b) x 14 = fa 14 := upF_ne (by omega)
  have e15 : upF fa k (8 * (i + 1) + b) x 15 = fa 15 := upF_ne (by omega)
  have e16 : upF fa k (8 * (i + 1) + b) x 16 = fa 16 := upF_ne (by omega)
  have e17 : upF fa k (8 * (i + 1) + b) x 17 = fa 17 := upF_ne (by omega)
  refine ⟨h0, fun c hc j hj => ?_, fun j hj c hc => ?_, fun j hj => ?_, ?_, ?_, ?_, ?_, hs⟩
  · show upF fa k (8 * (i + 1) + b) x c (j + 1) = up1 (d_A σ) a i _ (att c) j
    have hca := att_ne hc
    rw [upF_ne (by omega), up1_ne (Or.inl (by omega))]
    exact ha c hc j hj
  · show upF fa k (8 * (i + 1) + b) x 5 _ = sHas (up1 (d_A σ) a i (setB (d_A σ a i) b x) 3 j) _ ∧ upF fa k (8 * (i + 1) + b) x 9 _ = sHas (up1 (d_A σ) a i (setB (d_A σ a i) b x) 7 j) _
    obtain ⟨b5, b9⟩ := hb j hj c hc
    rcases hk with ⟨rfl, rfl⟩ | ⟨rfl, rfl⟩
    · rw [upF_ne (c := 9) (by decide), up1_ne (k := 7) (Or.inl (by decide)), upF_at]
      refine ⟨?_, b9⟩
      by_cases hji : j = i
      · subst hji
        rw [up1_same, setB_has (hr j hj).1 hx hb8 hc]
        by_cases hcb : c = b
        · rw [if_pos (by omega), if_pos hcb]
        · rw [if_neg (by omega), if_neg hcb]
          exact b5
      · rw [if_neg (by omega), up1_ne (Or.inr hji)]
        exact b5
    · rw [upF_ne (c := 5) (by decide), up1_ne (k := 3) (Or.inl (by decide)), upF_at]
      refine ⟨b5, ?_⟩
      by_cases hji : j = i
      · subst hji
        rw [up1_same, setB_has (hr j hj).2 hx hb8 hc]
        by_cases hcb : c = b
        · rw [if_pos (by omega), if_pos hcb]
        · rw [if_neg (by omega), if_neg hcb]
          exact b9
      · rw [if_neg (by omega), up1_ne (Or.inr hji)]
        exact b9
  · show isB (up1 (d_A σ) a i (setB (d_A σ a i) b x) 3 j) ∧ isB (up1 (d_A σ) a i (setB (d_A σ a i) b x) 7 j)
    obtain ⟨r3, r7⟩ := hr j hj
    rcases hk with ⟨rfl, rfl⟩ | ⟨rfl, rfl⟩
    · rw [up1_ne (k := 7) (Or.inl (by decide))]
      refine ⟨?_, r7⟩
      by_cases hji : j = i
      · subst hji
        rw [up1_same]
        exact setB_is r3 hx hb8
      · rw [up1_ne (Or.inr hji)]
        exact r3
    · rw [up1_ne (k := 3) (Or.inl (by decide))]
      refine ⟨r3, ?_⟩
      by_cases hji : j = i
      · subst hji
        rw [up1_same]
        exact setB_is r7 hx hb8
      · rw [up1_ne (Or.inr hji)]
        exact r7
  · unfold RSp
    rw [e3]
    exact hp
  · unfold RSe
    rw [e13, e14, e15]
    exact he
  · unfold RSd
    rw [e16]
    exact hd
  · unfold RSo
    rw [e17]
    exact ho
/-- the reference's object at m stands for the state σ -/
def RR (G : px_G) (R : Int32) (q : Nat) (ws : va_W) (m : Nat) (σ : Md) : Prop := ∃ aa fa s, RH G ws m aa fa s ∧ RS R q fa s σ
end
section
/-! THE REFERENCE OVER THE MODEL: rows; is, set, statusOf, many, none, freshen, keep -/
def RX (G : px_G) (R : Int32) (q : Nat) (ws0 ws : va_W) (m : Nat) (aa : Nat → Nat) (σ : Md) : Prop := ∃ fa s, RH G ws m aa fa s ∧ RS R q fa s σ ∧ px_kp Kc ws0 ws
theorem RX.cong {G : px_G} {R : Int32} {q : Nat} {ws0 ws : va_W} {m : Nat} {aa : Nat → Nat} {σ σ' : Md} (h : RX G R q ws0 ws m aa σ) (e : σ = σ') : RX G R q ws0 ws m aa σ' := e ▸ h
theorem sHas_z (s b : Int32) : isZ (sHas s b) := by
  unfold sHas
  split
  · exact Or.inl rfl
  · exact Or.inr rfl
theorem up1_34 {A : Nat → Nat → Int32} {i : Nat} {s t a g x : Int32} : up1 (up4 A 3 i s t a g) 3 i x = up4 A 3 i x t a g ∧ up1 (up4 A 3 i s t a g) 4 i x = up4 A 3 i s x a g ∧ up1 (up4 A 3 i s t a g) 5 i x = up4 A 3 i s t x g ∧ up1 (up4 A 3 i s t a g) 6 i x = up4 A 3 i s t a x := by
  refine ⟨?_, ?_, ?_, ?_⟩ <;> funext k j <;> unfold up1 up4 <;> (repeat' split) <;> first | rfl | (exfalso; omega)
theorem stA_X3 {σ : Md} {i : Nat} {s t a g x : Int32} : stX (stA σ 3 i s t a g) 3 i x = stA σ 3 i x t a g := by show (_, up1 _ _ _ _, _) = (_, up4 _ _ _ _ _ _ _, _); rw [up1_34.1]
theorem stA_X4 {σ : Md} {i : Nat} {s t a g x : Int32} : stX (stA σ 3 i s t a g) 4 i x = stA σ 3 i s x a g := by show (_, up1 _ _ _ _, _) = (_, up4 _ _ _ _ _ _ _, _); rw [up1_34.2.1]
theorem stA_X5 {σ : Md} {i : Nat} {s t a g x : Int32} : stX (stA σ 3 i s t a g) 5 i x = stA σ 3 i s t x g := by show (_, up1 _ _ _ _, _) = (_, up4 _ _ _ _ _ _ _, _); rw [up1_34.2.2.1]
theorem stA_X6 {σ : Md} {i : Nat} {s t a g x : Int32} : stX (stA σ 3 i s t a g) 6 i x = stA σ 3 i s t a x := by show (_, up1 _ _ _ _, _) = (_, up4 _ _ _ _ _ _ _, _); rw [up1_34.2.2.2]
theorem stA_3 {σ : Md} {i : Nat} {s t a g : Int32} : d_A (stA σ 3 i s t a g) 3 i = s := by show up4 _ _ _ _ _ _ _ _ _ = _; simp [up4]
theorem stA_4 {σ : Md} {i : Nat} {s t a g : Int32} : d_A (stA σ 3 i s t a g) 4 i = t := by show up4 _ _ _ _ _ _ _ _ _ = _; simp [up4]
theorem stA_5 {σ : Md} {i : Nat} {s t a g : Int32} : d_A (stA σ 3 i s t a g) 5 i = a := by show up4 _ _ _ _ _ _ _ _ _ = _; simp [up4]
theorem stA_6 {σ : Md} {i : Nat} {s t a g : Int32} : d_A (stA σ 3 i s t a g) 6 i = g := by show up4 _ _ _ _ _ _ _ _ _ = _; simp [up4]
theorem stA_id {σ : Md} {i : Nat} : stA σ 3 i (d_A σ 3 i) (d_A σ 4 i) (d_A σ 5 i) (d_A σ 6 i) = σ := by
  have e : up4 (d_A σ) 3 i (d_A σ 3 i) (d_A σ 4 i) (d_A σ 5 i) (d_A σ 6 i) = d_A σ := by
    funext k j
    unfold up4
    (repeat' split) <;> first | rfl | (subst_vars; rfl)
  show (_, up4 _ _ _ _ _ _ _, _) = σ
  rw [e]
theorem stX_X {σ : Md} {k i : Nat} {x y : Int32} : stX (stX σ k i x) k i y = stX σ k i y := by
  have e : up1 (up1 (d_A σ) k i x) k i y = up1 (d_A σ) k i y := by
    funext c j
    unfold up1
    (repeat' split) <;> rfl
  show (_, up1 _ _ _ _, _) = (_, up1 _ _ _ _, _)
  rw [e]
theorem stX_s {σ : Md} {k i : Nat} {x : Int32} : d_A (stX σ k i x) k i = x := up1_same
theorem stX_id {σ : Md} {k i : Nat} : stX σ k i (d_A σ k i) = σ := by
  have e : up1 (d_A σ) k i (d_A σ k i) = d_A σ := by
    funext c j
    unfold up1
    split
    · next h => rw [h.1, h.2]
    · rfl
  show (_, up1 _ _ _ _, _) = σ
  rw [e]
section RXW
variable {G : px_G} {M : px_M} {pc nx d bc bs : Nat} {tg : List Nat} {z : Int32} {lv : List (Nat × Value)} {st : List Value} {ws ws0 : va_W} {Q : Option Value → va_W → Prop}
variable {R : Int32} {q m : Nat} {aa : Nat → Nat} {fa : Nat → Nat → Int32} {s : Nat → Int32} {σ σ' : Md}
theorem rc201 {k : Nat} (hk : isAt k) (f : Nat → Int32) : rcell G k f = oIA G 201 f := by
  rcases hk with rfl | rfl | rfl | rfl | rfl | rfl | rfl | rfl | rfl | rfl <;> rfl
theorem p_rld {k a i : Nat} {j x : Int32} (ha : px_at M pc = some (.iaload, nx, tg, z)) (hr : RH G ws m aa fa s) (hs : RS R q fa s σ) (hk : isAt k) (hat : att k = a) (hx : d_A σ a i = x) (hi : i < d_n σ) (hj : j = nI (i + 1)) (kk : px G M nx lv (.int x :: st) ws d bc bs Q) : px G M pc lv (.int j :: .ref (aa k) :: st) ws d bc bs Q := by
  have hc := hr.2.1 k (by omega)
  rw [rc201 hk] at hc
  have hn := hs.1
  subst hat
  subst hx
  refine p_ialdS ha hc hj (by omega) (by decide) ?_
  rw [hs.2.1 k hk i hi]
  exact kk
theorem p_rst {k a i : Nat} {j x : Int32} (ha : px_at M pc = some (.iastore, nx, tg, z)) (hr : RH G ws m aa fa s) (hs : RS R q fa s σ) (h0 : px_kp Kc ws0 ws) (hk : isAt k) (hat : att k = a) (he : stX σ a i x = σ') (hi : i < d_n σ) (hj : j = nI (i + 1)) (kk : ∀ ws fa s, RH G ws m aa fa s → RS R q fa s σ' → px_kp Kc ws0 ws → px G M nx lv st ws d bc bs Q) : px G M pc lv (.int x :: .int j :: .ref (aa k) :: st) ws d bc bs Q := by
  have hc := hr.2.1 k (by omega)
  have hp := hr.put (k := k) (i := i + 1) (v := x) (by omega) (fun z => by omega)
  have hkp := hr.kp (k := k) (e := rcell G k (upd (fa k) (i + 1) x)) (by omega)
  rw [rc201 hk] at hc hp hkp
  have hn := hs.1
  subst hat
  subst he
  refine p_iastS ha hc hj (by omega) (by decide) ?_
  exact kk _ _ _ hp (hs.at hk hi) (h0.tr hkp)
theorem p_rzst {i b : Nat} {j x : Int32} (ha : px_at M pc = some (.bastore, nx, tg, z)) (hr : RH G ws m aa fa s) (hs : RS R q fa s σ) (h0 : px_kp Kc ws0 ws) (he : stX σ 7 i (setB (d_A σ 7 i) b x) = σ') (hi : i < d_n σ) (hb : b < 8) (hx : isZ x) (hj : j = nI (8 * (i + 1) + b)) (kk : ∀ ws fa s, RH G ws m aa fa s → RS R q fa s σ' → px_kp Kc ws0 ws → px G M nx lv st ws d bc bs Q) : px G M pc lv (.int x :: .int j :: .ref (aa 9) :: st) ws d bc bs Q := by
  have hn := hs.1
  subst he
  refine p_zastS ha (hr.2.1 9 (by decide)) hj (by omega) (by decide) hx ?_
  exact kk _ _ _ (hr.put (k := 9) (by decide) (fun _ => hx)) (hs.bit (Or.inr ⟨rfl, rfl⟩) hi hb hx) (h0.tr (hr.kp (k := 9) (by decide)))
abbrev oRl (aa : Nat → Nat) (s : Nat → Int32) : List Value := [.int (s 0), .int (s 1), .int (s 2), .ref (aa 0), .ref (aa 1), .ref (aa 2), .ref (aa 3), .ref (aa 4), .ref (aa 5), .ref (aa 6), .ref (aa 7), .ref (aa 8), .ref (aa 9), .ref (aa 10), .ref (aa 11), .ref (aa 12), .ref (aa 13), .ref (aa 14), .ref (aa 15), .int (s 3), .int (s 4), .ref (aa 16), .ref (aa 17), .int (s 5), .int (s 6), .int (s 7)]
/-- a number of the object is set -/
theorem p_rput {idx kf k : Nat} {x : Int32} {ty : FieldType} (ha : px_at M pc = some (.putfield idx, nx, tg, z)) (hF : px_Fp (px_y M).cls idx 7 kf ty) (hr : RH G ws m aa fa s) (h0 : px_kp Kc ws0 ws) (hn : narrow ty (.int x) = .int x) (hf : fits ty (.int x) = true) (hkl : kf < 26) (hset : (oRl aa s).set kf (.int x) = oRl aa (upS s k x)) (hs : RS R q fa (upS s k x) σ') (kk : ∀ ws s, RH G ws m aa fa s → RS R q fa s σ' → px_kp Kc ws0 ws → px G M nx lv st ws d bc bs Q) : px G M pc lv (.int x :: .ref m :: st) ws d bc bs Q := by
  refine p_put (fs := oRl aa s) ha hF hr.1 hn hf hkl ?_
  rw [hset]
  exact kk _ _ (hr.sc (upS s k x)) hs (h0.tr hr.kps)
theorem RS.cod (hs : RS R q fa s σ) : RS R q fa (upS s 0 0) σ := hs
theorem RS.s2 (hs : RS R q fa s σ) : s 2 = nI (d_n σ) := hs.2.2.2.2.2.2.2.2.2.1
theorem RS.s1 (hs : RS R q fa s σ) : s 1 = R := hs.2.2.2.2.2.2.2.2.1
theorem RS.s5 (hs : RS R q fa s σ) : s 5 = if d_g σ 1 = 0 then 1 else 0 := hs.2.2.2.2.2.2.2.2.2.2.1
theorem RS.s6 (hs : RS R q fa s σ) : s 6 = d_g σ 2 := hs.2.2.2.2.2.2.2.2.2.2.2.1
theorem RS.s7 (hs : RS R q fa s σ) : s 7 = d_g σ 3 := hs.2.2.2.2.2.2.2.2.2.2.2.2.1
theorem RS.b (hs : RS R q fa s σ) {i b : Nat} (hi : i < d_n σ) (hb : b < 8) : fa 5 (8 * (i + 1) + b) = sHas (d_A σ 3 i) (pw b) := (hs.2.2.1 i hi b hb).1
theorem RS.is3 (hs : RS R q fa s σ) {i : Nat} (hi : i < d_n σ) : isB (d_A σ 3 i) := (hs.2.2.2.1 i hi).1
theorem RS.is7 (hs : RS R q fa s σ) {i : Nat} (hi : i < d_n σ) : isB (d_A σ 7 i) := (hs.2.2.2.1 i hi).2
theorem RS.cutT (hs : RS R q fa s σ) (hp : d_g σ 1 = 0) : s 5 = 1 := by rw [hs.s5, if_pos hp]
theorem RS.cutF (hs : RS R q fa s σ) (hp : ¬ d_g σ 1 = 0) : s 5 = 0 := by rw [hs.s5, if_neg hp]
theorem r_isX (hr : RH G ws m aa fa s) (hs : RS R q fa s σ) {i b : Nat} {x : Int32} (hi : i < d_n σ) (hb : b < 8) (hx : d_A σ 3 i = x) : px G m_Rf_is 0 (lv_args 0 [.ref m, .int (nI (i + 1)), .int (nI b)]) [] ws d 0 0 (fun v w => v = some (.int (sHas x (pw b))) ∧ w = ws) := by
  have hn := hs.1
  have h := r_is (d := d) hr (c := i + 1) (b := b) (by omega) hb
  rw [hs.b hi hb, hx] at h
  exact h
theorem r_setX (hr : RH G ws m aa fa s) (hs : RS R q fa s σ) (h0 : px_kp Kc ws0 ws) {i b : Nat} {x : Int32} (hi : i < d_n σ) (hb : b < 8) (hx : isZ x) (he : stX σ 3 i (setB (d_A σ 3 i) b x) = σ') : px G m_Rf_set 0 (lv_args 0 [.ref m, .int (nI (i + 1)), .int (nI b), .int x]) [] ws d 0 0 (fun v w => v = none ∧ RX G R q ws0 w m aa σ') := by
  have hn := hs.1
  subst he
  exact p_post (fun v w hq => ⟨hq.1, _, _, hq.2.1, hs.bit (Or.inl ⟨rfl, rfl⟩) hi hb hx, h0.tr hq.2.2⟩) (r_set hr (c := i + 1) (b := b) (by omega) hb hx)
theorem stA_B {i b : Nat} {t a g x v : Int32} : stX (stA σ 3 i v t a g) 3 i (setB (d_A (stA σ 3 i v t a g) 3 i) b x) = stA σ 3 i (setB v b x) t a g := by rw [stA_3, stA_X3]
theorem isB_stR {x : Int32} (hx : isB x) : stR (fun b => sHas x (pw b)) 8 = x := by
  obtain ⟨k, hk, rfl⟩ := hx
  exact stR_s k hk
theorem stR_cong {f g : Nat → Int32} : ∀ n, (∀ b, b < n → f b = g b) → stR f n = stR g n
  | 0, _ => rfl
  | n + 1, h => by rw [stR, stR, stR_cong n (fun b hb => h b (by omega)), h n (by omega)]
theorem isB_ext {x y : Int32} (hx : isB x) (hy : isB y) (h : ∀ b, b < 8 → sHas x (pw b) = sHas y (pw b)) : x = y := by
  rw [← isB_stR hx, ← isB_stR hy]
  exact stR_cong 8 h
theorem r_statusX (hr : RH G ws m aa fa s) (hs : RS R q fa s σ) {i : Nat} {x : Int32} (hi : i < d_n σ) (hx : d_A σ 3 i = x) : px G m_Rf_statusOf 0 (lv_args 0 [.ref m, .int (nI (i + 1))]) [] ws (d + 1) 0 0 (fun v w => v = some (.int x) ∧ w = ws) := by
  have hn := hs.1
  have h := r_statusOf (d := d) hr (c := i + 1) (by omega)
  rw [stR_cong (g := fun b => sHas (d_A σ 3 i) (pw b)) 8 (fun b hb => hs.b hi hb), isB_stR (hs.is3 hi), hx] at h
  exact h
theorem cnR_cntB {A : Nat → Nat → Int32} {f : Nat → Int32} {b : Nat} : ∀ n, (∀ i, i < n → f (i + 1) = sHas (A 3 i) (pw b)) → cnR f n = cntB A (pw b) n
  | 0, _ => rfl
  | n + 1, h => by rw [cnR, cntB, cnR_cntB n (fun i hi => h i (by omega)), h n (by omega)]
theorem r_manyX (hr : RH G ws m aa fa s) (hs : RS R q fa s σ) {b : Nat} (hb : b < 8) : px G m_Rf_many 0 (lv_args 0 [.ref m, .int (nI b)]) [] ws (d + 1) 0 0 (fun v w => v = some (.int (nI (cntB (d_A σ) (pw b) (d_n σ)))) ∧ w = ws) := by
  have h := r_many (d := d) hr hb hs.1 hs.s2
  rw [cnR_cntB (A := d_A σ) (b := b) (d_n σ) (fun i hi => hs.b hi hb)] at h
  exact h
theorem r_noneX1 (hr : RH G ws m aa fa s) (hs : RS R q fa s σ) (h0 : px_kp Kc ws0 ws) {x : Int32} (hx : x < 1 ∨ nI (d_n σ) < x) : px G m_Rf_none 0 (lv_args 0 [.ref m, .int x]) [] ws d 0 0 (fun v w => v = some (.int 1) ∧ RX G R q ws0 w m aa σ) := p_post (fun v w hq => ⟨hq.1, _, _, hq.2.1, hs.cod, h0.tr hq.2.2⟩) (r_noneT hr (by rw [hs.s2]; exact hx))
theorem r_noneX0 (hr : RH G ws m aa fa s) (hs : RS R q fa s σ) (h0 : px_kp Kc ws0 ws) {i : Nat} (hi : i < d_n σ) : px G m_Rf_none 0 (lv_args 0 [.ref m, .int (nI (i + 1))]) [] ws d 0 0 (fun v w => v = some (.int 0) ∧ RX G R q ws0 w m aa σ) := p_post (fun v w hq => ⟨hq.1, _, _, hq.2.1, hs.cod, h0.tr hq.2.2⟩) (r_noneF hr (by
  have hn := hs.1
  rw [hs.s2]
  rintro (z | z)
  · rw [show (1 : Int32) = nI 1 from rfl, nI_ltI (by omega) (by omega)] at z
    omega
  · rw [nI_ltI (by omega) (by omega)] at z
    omega))
end RXW
def frX (b : Nat) : Int32 := if nI b = 4 ∨ nI b = 6 then 1 else 0
def frB (v : Int32) : Nat → Int32
  | 0 => v
  | b + 1 => setB (frB v b) b (frX b)
theorem frX_z (b : Nat) : isZ (frX b) := by
  unfold frX
  split
  · exact Or.inr rfl
  · exact Or.inl rfl
theorem frB_k : ∀ k, k < 256 → frB (nI k) 8 = 80 := by decide +kernel
theorem frB_8 {v : Int32} (h : isB v) : frB v 8 = 80 := by
  obtain ⟨k, hk, rfl⟩ := h
  exact frB_k k hk
set_option maxHeartbeats 4000000 in
theorem r_fresh_loop {G : px_G} {ws0 : va_W} {d m : Nat} {R : Int32} {q : Nat} {aa : Nat → Nat} {σ : Md} {i : Nat} (hi : i < d_n σ) {bc bs : Nat} {Q : Option Value → va_W → Prop} : ∀ (k b : Nat) (ws : va_W) (x2 : Int32), b + k = 8 → x2 = nI b → RX G R q ws0 ws m aa (stX σ 3 i (frB (d_A σ 3 i) b)) → (∀ (w : va_W) (x2 : Int32), RX G R q ws0 w m aa (stX σ 3 i (frB (d_A σ 3 i) 8)) → px G m_Rf_freshen 36 [(2, .int x2), (0, .ref m), (1, .int (nI (i + 1)))] [] w (d + 1) bc bs Q) → px G m_Rf_freshen 2 [(2, .int x2), (0, .ref m), (1, .int (nI (i + 1)))] [] ws (d + 1) bc bs Q := by
  intro k
  induction k with
  | zero =>
    intro b ws x2 hbk h2 hX hK
    subst h2
    have hb : b = 8 := by omega
    subst hb
    refine p_s rfl rfl ?_
    refine p_s rfl rfl ?_
    refine p_icmpT rfl (show (8 : Int32) ≤ nI 8 by decide) ?_
    exact hK _ _ hX
  | succ k ih =>
    intro b ws x2 hbk h2 hX hK
    subst h2
    have hb : b < 8 := by omega
    obtain ⟨fa, s, hr, hs, hk⟩ := hX
    refine p_s rfl rfl ?_
    refine p_s rfl rfl ?_
    refine p_icmpF rfl (show ¬ (8 : Int32) ≤ nI b by rw [show (8 : Int32) = nI 8 from rfl, nI_leI (by decide) (by omega)]; omega) ?_
    refine p_s rfl rfl ?_
    refine p_s rfl rfl ?_
    refine p_s rfl rfl ?_
    refine p_s rfl rfl ?_
    refine p_s rfl rfl ?_
    refine p_icmp rfl (fun c => ?_) (fun c => ?_)
    · simp only [px_cmp] at c
      refine p_s rfl rfl ?_
      refine p_goto rfl ?_
      refine p_callV rfl c_Rf_80 rfl hr.1 g_Rf_set rfl rfl rfl (p_le (by omega) (Nat.le_refl _) (Nat.le_refl _) (r_setX (d := d) (b := b) hr hs hk hi hb (Or.inr rfl) (by rw [stX_s, stX_X]))) (fun v w hq => ?_)
      obtain ⟨rfl, hq⟩ := hq
      refine p_s rfl rfl ?_
      refine p_goto rfl ?_
      exact ih (b + 1) _ _ (by omega) (nI_1 b) (by rw [frB, show frX b = 1 from if_pos (Or.inl c)]; exact hq) hK
    · simp only [px_ncmp] at c
      refine p_s rfl rfl ?_
      refine p_s rfl rfl ?_
      refine p_icmp rfl (fun c2 => ?_) (fun c2 => ?_)
      · simp only [px_cmp] at c2
        refine p_s rfl rfl ?_
        refine p_callV rfl c_Rf_80 rfl hr.1 g_Rf_set rfl rfl rfl (p_le (by omega) (Nat.le_refl _) (Nat.le_refl _) (r_setX (d := d) (b := b) hr hs hk hi hb (Or.inl rfl) (by rw [stX_s, stX_X]))) (fun v w hq => ?_)
        obtain ⟨rfl, hq⟩ := hq
        refine p_s rfl rfl ?_
        refine p_goto rfl ?_
        exact ih (b + 1) _ _ (by omega) (nI_1 b) (by rw [frB, show frX b = 0 from if_neg (fun z => z.elim c c2)]; exact hq) hK
      · simp only [px_ncmp] at c2
        refine p_s rfl rfl ?_
        refine p_goto rfl ?_
        refine p_callV rfl c_Rf_80 rfl hr.1 g_Rf_set rfl rfl rfl (p_le (by omega) (Nat.le_refl _) (Nat.le_refl _) (r_setX (d := d) (b := b) hr hs hk hi hb (Or.inr rfl) (by rw [stX_s, stX_X]))) (fun v w hq => ?_)
        obtain ⟨rfl, hq⟩ := hq
        refine p_s rfl rfl ?_
        refine p_goto rfl ?_
        exact ih (b + 1) _ _ (by omega) (nI_1 b) (by rw [frB, show frX b = 1 from if_pos (Or.inr (by simpa using c2))]; exact hq) hK
theorem frs_eq {σ : Md} {i : Nat} : stX (stX (stX (stX (stX σ 3 i 80) 11 i 0) 4 i 0) 5 i 0) 6 i 0 = stX (stA σ 3 i 80 0 0 0) 11 i 0 := by
  have e : up1 (up1 (up1 (up1 (up1 (d_A σ) 3 i 80) 11 i 0) 4 i 0) 5 i 0) 6 i 0 = up1 (up4 (d_A σ) 3 i 80 0 0 0) 11 i 0 := by
    funext k j
    unfold up1 up4
    (repeat' split) <;> first | rfl | (exfalso; omega)
  show (_, up1 _ _ _ _, _) = (_, up1 _ _ _ _, _)
  rw [e]
set_option maxHeartbeats 4000000 in
theorem r_freshen {G : px_G} {ws0 : va_W} {d m : Nat} {R : Int32} {q : Nat} {aa : Nat → Nat} {ws : va_W} {fa : Nat → Nat → Int32} {s : Nat → Int32} {σ : Md} (hr : RH G ws m aa fa s) (hs : RS R q fa s σ) (hk : px_kp Kc ws0 ws) {i : Nat} (hi : i < d_n σ) : px G m_Rf_freshen 0 (lv_args 0 [.ref m, .int (nI (i + 1))]) [] ws (d + 1) 0 0 (fun v w => v = none ∧ RX G R q ws0 w m aa (stX (stA σ 3 i 80 0 0 0) 11 i 0)) := by
  refine p_s rfl rfl ?_
  refine p_s rfl rfl ?_
  refine r_fresh_loop hi 8 0 ws _ (by omega) rfl ⟨fa, s, hr, by rw [frB, stX_id]; exact hs, hk⟩ (fun ws x2 hX => ?_)
  rw [frB_8 (hs.is3 hi)] at hX
  clear hr hs hk
  obtain ⟨fa, s, hr, hs, hk⟩ := hX
  refine p_s rfl rfl ?_
  refine p_get rfl f_Rf_22 hr.1 rfl ?_
  refine p_s rfl rfl ?_
  refine p_s rfl rfl ?_
  refine p_rst rfl hr hs hk (k := 4) (i := i) (by decide) rfl rfl hi rfl (fun ws fa s hr hs hk => ?_)
  refine p_s rfl rfl ?_
  refine p_get rfl f_Rf_29 hr.1 rfl ?_
  refine p_s rfl rfl ?_
  refine p_s rfl rfl ?_
  refine p_rst rfl hr hs hk (k := 6) (i := i) (by decide) rfl rfl hi rfl (fun ws fa s hr hs hk => ?_)
  refine p_s rfl rfl ?_
  refine p_get rfl f_Rf_32 hr.1 rfl ?_
  refine p_s rfl rfl ?_
  refine p_s rfl rfl ?_
  refine p_rst rfl hr hs hk (k := 7) (i := i) (by decide) rfl rfl hi rfl (fun ws fa s hr hs hk => ?_)
  refine p_s rfl rfl ?_
  refine p_get rfl f_Rf_35 hr.1 rfl ?_
  refine p_s rfl rfl ?_
  refine p_s rfl rfl ?_
  refine p_rst rfl hr hs hk (k := 8) (i := i) (by decide) rfl rfl hi rfl (fun ws fa s hr hs hk => ?_)
  exact p_vret rfl rfl ⟨rfl, fa, s, hr, by rw [← frs_eq]; exact hs, hk⟩
def kpB (v y : Int32) : Nat → Int32
  | 0 => y
  | b + 1 => setB (kpB v y b) b (sHas v (pw b))
theorem kpB_is {v y : Int32} (hy : isB y) : ∀ b, b ≤ 8 → isB (kpB v y b)
  | 0, _ => hy
  | b + 1, h => setB_is (kpB_is hy b (by omega)) (sHas_z _ _) (by omega)
theorem kpB_has {v y : Int32} (hy : isB y) : ∀ b, b ≤ 8 → ∀ c, c < 8 → sHas (kpB v y b) (pw c) = if c < b then sHas v (pw c) else sHas y (pw c)
  | 0, _, c, _ => by rw [kpB, if_neg (by omega)]
  | b + 1, h, c, hc => by
    rw [kpB, setB_has (kpB_is hy b (by omega)) (sHas_z _ _) (by omega) hc, kpB_has hy b (by omega) c hc]
    by_cases h1 : c = b
    · rw [if_pos h1, if_pos (by omega), h1]
    · rw [if_neg h1]
      by_cases h2 : c < b
      · rw [if_pos h2, if_pos (by omega)]
      · rw [if_neg h2, if_neg (by omega)]
theorem kpB_8 {v y : Int32} (hv : isB v) (hy : isB y) : kpB v y 8 = v := isB_ext (kpB_is hy 8 (by omega)) hv (fun b hb => by rw [kpB_has hy 8 (by omega) b hb, if_pos hb])
theorem kee_eq {σ : Md} {i : Nat} {s t a g : Int32} : stX (stX (stX (stX σ 7 i s) 8 i t) 9 i a) 10 i g = stA σ 7 i s t a g := by
  have e : up1 (up1 (up1 (up1 (d_A σ) 7 i s) 8 i t) 9 i a) 10 i g = up4 (d_A σ) 7 i s t a g := by
    funext k j
    unfold up1 up4
    (repeat' split) <;> first | rfl | (exfalso; omega)
  show (_, up1 _ _ _ _, _) = (_, up4 _ _ _ _ _ _ _, _)
  rw [e]
theorem stX_o {σ : Md} {k i c : Nat} {x : Int32} (h : c ≠ k) : d_A (stX σ k i x) c i = d_A σ c i := up1_ne (Or.inl h)
set_option maxHeartbeats 4000000 in
theorem r_keep_loop {G : px_G} {ws0 : va_W} {d m : Nat} {R : Int32} {q : Nat} {aa : Nat → Nat} {σ : Md} {i : Nat} (hi : i < d_n σ) {bc bs : Nat} {Q : Option Value → va_W → Prop} : ∀ (k b : Nat) (ws : va_W) (x2 : Int32), b + k = 8 → x2 = nI b → RX G R q ws0 ws m aa (stX σ 7 i (kpB (d_A σ 3 i) (d_A σ 7 i) b)) → (∀ (w : va_W) (x2 : Int32), RX G R q ws0 w m aa (stX σ 7 i (kpB (d_A σ 3 i) (d_A σ 7 i) 8)) → px G m_Rf_keep 31 [(2, .int x2), (0, .ref m), (1, .int (nI (i + 1)))] [] w (d + 1) bc bs Q) → px G m_Rf_keep 2 [(2, .int x2), (0, .ref m), (1, .int (nI (i + 1)))] [] ws (d + 1) bc bs Q := by
  intro k
  induction k with
  | zero =>
    intro b ws x2 hbk h2 hX hK
    subst h2
    have hb : b = 8 := by omega
    subst hb
    refine p_s rfl rfl ?_
    refine p_s rfl rfl ?_
    refine p_icmpT rfl (show (8 : Int32) ≤ nI 8 by decide) ?_
    exact hK _ _ hX
  | succ k ih =>
    intro b ws x2 hbk h2 hX hK
    subst h2
    have hb : b < 8 := by omega
    obtain ⟨fa, s, hr, hs, hk⟩ := hX
    refine p_s rfl rfl ?_
    refine p_s rfl rfl ?_
    refine p_icmpF rfl (show ¬ (8 : Int32) ≤ nI b by rw [show (8 : Int32) = nI 8 from rfl, nI_leI (by decide) (by omega)]; omega) ?_
    refine p_s rfl rfl ?_
    refine p_get rfl f_Rf_38 hr.1 rfl ?_
    refine p_s rfl rfl ?_
    refine p_s rfl rfl ?_
    refine p_s rfl rfl ?_
    refine p_s rfl rfl ?_
    refine p_s rfl rfl ?_
    refine p_s rfl rfl ?_
    refine p_s rfl rfl ?_
    refine p_s rfl rfl ?_
    refine p_callV rfl c_Rf_76 rfl hr.1 g_Rf_is rfl rfl rfl (p_le (by omega) (Nat.le_refl _) (Nat.le_refl _) (r_isX (d := d) (b := b) hr hs hi hb (stX_o (by decide)))) (fun v w hq => ?_)
    obtain ⟨rfl, hw9⟩ := hq
    have hw9 := hw9.symm
    subst hw9
    refine p_rzst rfl hr hs hk (by rw [stX_s, stX_X]) hi hb (sHas_z _ _) (ix8 (i + 1) b) (fun ws fa s hr hs hk => ?_)
    refine p_s rfl rfl ?_
    refine p_goto rfl ?_
    exact ih (b + 1) _ _ (by omega) (nI_1 b) (by rw [kpB]; exact ⟨fa, s, hr, hs, hk⟩) hK
set_option maxHeartbeats 4000000 in
theorem r_keep {G : px_G} {ws0 : va_W} {d m : Nat} {R : Int32} {q : Nat} {aa : Nat → Nat} {ws : va_W} {fa : Nat → Nat → Int32} {s : Nat → Int32} {σ : Md} (hr : RH G ws m aa fa s) (hs : RS R q fa s σ) (hk : px_kp Kc ws0 ws) {i : Nat} (hi : i < d_n σ) {v t a g : Int32} (h3 : d_A σ 3 i = v) (h4 : d_A σ 4 i = t) (h5 : d_A σ 5 i = a) (h6 : d_A σ 6 i = g) : px G m_Rf_keep 0 (lv_args 0 [.ref m, .int (nI (i + 1))]) [] ws (d + 1) 0 0 (fun v2 w => v2 = none ∧ RX G R q ws0 w m aa (stA σ 7 i v t a g)) := by
  refine p_s rfl rfl ?_
  refine p_s rfl rfl ?_
  subst h3
  subst h4
  subst h5
  subst h6
  refine r_keep_loop hi 8 0 ws _ (by omega) rfl ⟨fa, s, hr, by rw [kpB, stX_id]; exact hs, hk⟩ (fun ws x2 hX => ?_)
  rw [kpB_8 (hs.is3 hi) (hs.is7 hi)] at hX
  clear hr hs hk
  obtain ⟨fa, s, hr, hs, hk⟩ := hX
  refine p_s rfl rfl ?_
  refine p_get rfl f_Rf_41 hr.1 rfl ?_
  refine p_s rfl rfl ?_
  refine p_s rfl rfl ?_
  refine p_get rfl f_Rf_29 hr.1 rfl ?_
  refine p_s rfl rfl ?_
  refine p_rld rfl hr hs (k := 6) (i := i) (by decide) rfl (stX_o (by decide)) hi rfl ?_
  refine p_rst rfl hr hs hk (k := 10) (i := i) (by decide) rfl rfl hi rfl (fun ws fa s hr hs hk => ?_)
  refine p_s rfl rfl ?_
  refine p_get rfl f_Rf_44 hr.1 rfl ?_
  refine p_s rfl rfl ?_
  refine p_s rfl rfl ?_
  refine p_get rfl f_Rf_32 hr.1 rfl ?_
  refine p_s rfl rfl ?_
  refine p_rld rfl hr hs (k := 7) (i := i) (by decide) rfl ((stX_o (by decide)).trans (stX_o (by decide))) hi rfl ?_
  refine p_rst rfl hr hs hk (k := 11) (i := i) (by decide) rfl rfl hi rfl (fun ws fa s hr hs hk => ?_)
  refine p_s rfl rfl ?_
  refine p_get rfl f_Rf_47 hr.1 rfl ?_
  refine p_s rfl rfl ?_
  refine p_s rfl rfl ?_
  refine p_get rfl f_Rf_35 hr.1 rfl ?_
  refine p_s rfl rfl ?_
  refine p_rld rfl hr hs (k := 8) (i := i) (by decide) rfl ((stX_o (by decide)).trans ((stX_o (by decide)).trans (stX_o (by decide)))) hi rfl ?_
  refine p_rst rfl hr hs hk (k := 12) (i := i) (by decide) rfl rfl hi rfl (fun ws fa s hr hs hk => ?_)
  exact p_vret rfl rfl ⟨rfl, fa, s, hr, by rw [← kee_eq]; exact hs, hk⟩
end
section
/-! THE REFERENCE: chains of parents; hidden, parent -/
abbrev OPr (G : px_G) (R : Int32) (q m : Nat) (aa : Nat → Nat) (ws : va_W) (ans : Int32) (σ : Md) : Option Value → va_W → Prop := fun v w => v = some (.int ans) ∧ RX G R q ws w m aa σ
/-- the chain from p ends after just f steps -/
def ends (P : Nat → Nat) : Nat → Nat → Prop
  | 0, p => p = 0
  | f + 1, p => p ≠ 0 ∧ ends P f (P (p - 1))
theorem ends_fun {P : Nat → Nat} : ∀ (f g p : Nat), ends P f p → ends P g p → f = g
  | 0, 0, _, _, _ => rfl
  | 0, _ + 1, _, h1, h2 => absurd h1 h2.1
  | _ + 1, 0, _, h1, h2 => absurd h2 h1.1
  | f + 1, g + 1, p, h1, h2 => by rw [ends_fun f g _ h1.2 h2.2]
theorem nodup_le : ∀ (n : Nat) (l : List Nat), l.Nodup → (∀ x ∈ l, x < n) → l.length ≤ n
  | 0, l, _, h => by
    cases l with
    | nil => exact Nat.le_refl _
    | cons a t => exact absurd (h a List.mem_cons_self) (Nat.not_lt_zero _)
  | n + 1, l, hd, h => by
    by_cases hn : n ∈ l
    · have h1 := nodup_le n (l.erase n) (hd.erase n) (fun x hx => by
        have h2 := (hd.mem_erase_iff).mp hx
        have h3 := h x h2.2
        have h4 := h2.1
        omega)
      rw [List.length_erase_of_mem hn] at h1
      omega
    · have h1 := nodup_le n l hd (fun x hx => by
        have h3 := h x hx
        have h4 : x ≠ n := fun z => hn (z ▸ hx)
        omega)
      omega
theorem ends_list {P : Nat → Nat} {n : Nat} (hP : ∀ i, i < n → P i ≤ n) : ∀ (f p : Nat), ends P f p → p ≤ n → ∃ l : List Nat, l.length = f ∧ l.Nodup ∧ ∀ x ∈ l, x < n ∧ ∃ g, g ≤ f ∧ ends P g (x + 1)
  | 0, p, h, hp => ⟨[], rfl, List.nodup_nil, fun x hx => by cases hx⟩
  | f + 1, p, h, hp => by
    have hp0 := h.1
    obtain ⟨l, h1, h2, h3⟩ := ends_list hP f (P (p - 1)) h.2 (hP (p - 1) (by omega))
    have e : p - 1 + 1 = p := by omega
    refine ⟨(p - 1) :: l, by rw [List.length_cons, h1], List.nodup_cons.mpr ⟨fun z => ?_, h2⟩, fun x hx => ?_⟩
    · obtain ⟨-, g, hg, hge⟩ := h3 _ z
      rw [e] at hge
      have := ends_fun _ _ _ h hge
      omega
    · rcases List.mem_cons.mp hx with rfl | hx
      · exact ⟨by omega, f + 1, Nat.le_refl _, by rw [e]; exact h⟩
      · obtain ⟨a1, g, a2, a3⟩ := h3 x hx
        exact ⟨a1, g, by omega, a3⟩
theorem ends_le {P : Nat → Nat} {n f p : Nat} (hP : ∀ i, i < n → P i ≤ n) (h : ends P f p) (hp : p ≤ n) : f ≤ n := by
  obtain ⟨l, h1, h2, h3⟩ := ends_list hP f p h hp
  rw [← h1]
  exact nodup_le n l h2 (fun x hx => (h3 x hx).1)
theorem hidF_ge {A : Nat → Nat → Int32} {P : Nat → Nat} : ∀ (f F p : Nat), ends P f p → f ≤ F → hidF A P F p = hidF A P f p
  | 0, 0, _, _, _ => rfl
  | 0, F + 1, p, h, _ => if_pos (show p = 0 from h)
  | f + 1, 0, p, h, hF => absurd hF (by omega)
  | f + 1, F + 1, p, h, hF => by rw [hidF, hidF, hidF_ge f F _ h.2 (by omega)]
theorem cntF_ge {P : Nat → Nat} : ∀ (f F p : Nat), ends P f p → f ≤ F → cntF P F p = cntF P f p
  | 0, 0, _, _, _ => rfl
  | 0, F + 1, p, h, _ => if_pos (show p = 0 from h)
  | f + 1, 0, p, h, hF => absurd hF (by omega)
  | f + 1, F + 1, p, h, hF => by rw [cntF, cntF, cntF_ge f F _ h.2 (by omega)]
theorem belF_ge {P : Nat → Nat} {c : Nat} : ∀ (f F p : Nat), ends P f p → f ≤ F → belF P c F p = belF P c f p
  | 0, 0, _, _, _ => rfl
  | 0, F + 1, p, h, _ => if_pos (show p = 0 from h)
  | f + 1, 0, p, h, hF => absurd hF (by omega)
  | f + 1, F + 1, p, h, hF => by rw [belF, belF, belF_ge f F _ h.2 (by omega)]
def Ac (n : Nat) (P : Nat → Nat) : Prop := (∀ i, i < n → P i ≤ n) ∧ ∀ p, p ≤ n → ∃ f, ends P f p
theorem Ac.f {n : Nat} {P : Nat → Nat} (h : Ac n P) {p : Nat} (hp : p ≤ n) (hn : n ≤ 200) : ∃ f, f ≤ 200 ∧ ends P f p := by
  obtain ⟨f, hf⟩ := h.2 p hp
  exact ⟨f, Nat.le_trans (ends_le h.1 hf hp) hn, hf⟩
abbrev upP (P : Nat → Nat) (c p : Nat) : Nat → Nat := fun j => if j = c then p else P j
theorem ends_avoid {P : Nat → Nat} {c r : Nat} : ∀ (f p : Nat), ends P f p → belF P c f p = 0 → ends (upP P c r) f p
  | 0, _, h, _ => h
  | f + 1, p, h, hb => by
    have h0 := h.1
    rw [belF, if_neg h0] at hb
    by_cases hc : p = c + 1
    · rw [if_pos hc] at hb
      exact absurd hb (by decide)
    · rw [if_neg hc] at hb
      refine ⟨h0, ?_⟩
      rw [show upP P c r (p - 1) = P (p - 1) from if_neg (by omega)]
      exact ends_avoid f _ h.2 hb
theorem Ac.par {n : Nat} {P : Nat → Nat} (h : Ac n P) {c r : Nat} (hr : r ≤ n) {g : Nat} (hg : ends (upP P c r) g r) : Ac n (upP P c r) := by
  refine ⟨fun i hi => ?_, fun p hp => ?_⟩
  · by_cases hc : i = c
    · rw [show upP P c r i = r from if_pos hc]
      exact hr
    · rw [show upP P c r i = P i from if_neg hc]
      exact h.1 i hi
  · obtain ⟨f, hf⟩ := h.2 p hp
    clear hp
    induction f generalizing p with
    | zero => exact ⟨0, hf⟩
    | succ f ih =>
      have h0 := hf.1
      by_cases hc : p - 1 = c
      · exact ⟨g + 1, h0, by rw [show upP P c r (p - 1) = r from if_pos hc]; exact hg⟩
      · obtain ⟨g2, hg2⟩ := ih _ hf.2
        exact ⟨g2 + 1, h0, by rw [show upP P c r (p - 1) = P (p - 1) from if_neg hc]; exact hg2⟩
theorem ends_same {P P2 : Nat → Nat} {n : Nat} (hP : ∀ i, i < n → P i ≤ n) (h2 : ∀ i, i < n → P2 i = P i) : ∀ (f p : Nat), p ≤ n → ends P f p → ends P2 f p
  | 0, _, _, h => h
  | f + 1, p, hp, h => by
    have h0 := h.1
    refine ⟨h0, ?_⟩
    rw [h2 (p - 1) (by omega)]
    exact ends_same hP h2 f _ (hP _ (by omega)) h.2
theorem Ac.code {n : Nat} {P : Nat → Nat} (h : Ac n P) : Ac (n + 1) (upP P n 0) := by
  have e : ∀ i, i < n → upP P n 0 i = P i := fun i hi => if_neg (by omega)
  refine ⟨fun i hi => ?_, fun p hp => ?_⟩
  · by_cases hc : i = n
    · rw [show upP P n 0 i = 0 from if_pos hc]
      omega
    · rw [e i (by omega)]
      have := h.1 i (by omega)
      omega
  · by_cases hc : p = n + 1
    · exact ⟨1, by omega, by subst hc; exact if_pos rfl⟩
    · obtain ⟨f, hf⟩ := h.2 p (by omega)
      exact ⟨f, ends_same h.1 e f p (by omega) hf⟩
theorem RS.pa {R : Int32} {q : Nat} {fa : Nat → Nat → Int32} {s : Nat → Int32} {σ : Md} (hs : RS R q fa s σ) {i : Nat} (hi : i < d_n σ) : fa 3 (i + 1) = nI (d_p σ i) := hs.2.2.2.2.1.1 i hi
theorem RS.par {R : Int32} {q : Nat} {fa : Nat → Nat → Int32} {s : Nat → Int32} {σ : Md} (h : RS R q fa s σ) {i p : Nat} (hi : i < d_n σ) : RS R q (upF fa 3 (i + 1) (nI p)) s (stP σ i p) := by
  obtain ⟨h0, ha, hb, hr, hp, he, hd, ho, hs⟩ := h
  refine ⟨h0, fun c hc j hj => ?_, fun j hj b hb2 => ?_, hr, ⟨fun j hj => ?_, fun j hj h2 => ?_⟩, ?_, ?_, ?_, hs⟩
  · rw [upF_ne (by omega)]
    exact ha c hc j hj
  · rw [upF_ne (c := 5) (by omega), upF_ne (c := 9) (by omega)]
    exact hb j hj b hb2
  · show upF fa 3 (i + 1) (nI p) 3 (j + 1) = nI (if j = i then p else d_p σ j)
    rw [upF_at]
    by_cases hji : j = i
    · rw [if_pos (by omega), if_pos hji]
    · rw [if_neg (by omega), if_neg hji]
      exact hp.1 j hj
  · have h1 : d_n σ ≤ j := hj
    rw [upF_at, if_neg (by omega)]
    exact hp.2 j hj h2
  · unfold RSe
    rw [upF_ne (c := 13) (by omega), upF_ne (c := 14) (by omega), upF_ne (c := 15) (by omega)]
    exact he
  · unfold RSd
    rw [upF_ne (c := 16) (by omega)]
    exact hd
  · unfold RSo
    rw [upF_ne (c := 17) (by omega)]
    exact ho
set_option maxHeartbeats 4000000 in
theorem r_hid_loop {G : px_G} {d m : Nat} {R : Int32} {q : Nat} {aa : Nat → Nat} {ws : va_W} {fa : Nat → Nat → Int32} {s : Nat → Int32} {σ : Md} (hr : RH G ws m aa fa s) (hs : RS R q fa s σ) (hP : ∀ i, i < d_n σ → d_p σ i ≤ d_n σ) : ∀ (f p : Nat) (x2 y : Int32), ends (d_p σ) f p → p ≤ d_n σ → x2 = nI p → px G m_Rf_hidden 7 [(2, .int x2), (0, .ref m), (1, .int y)] [] ws (d + 1) 0 0 (fun v w => v = some (.int (hidF (d_A σ) (d_p σ) f p)) ∧ w = ws) := by
  have hn := hs.1
  intro f
  induction f with
  | zero =>
    intro p x2 y he hp h2
    subst h2
    have hp0 : p = 0 := he
    subst hp0
    refine p_s rfl rfl ?_
    refine p_ifT rfl (show nI 0 ≤ (0 : Int32) by decide) ?_
    refine p_s rfl rfl ?_
    exact p_iret rfl rfl rfl ⟨rfl, rfl⟩
  | succ f ih =>
    intro p x2 y he hp h2
    obtain ⟨i, rfl⟩ : ∃ i, p = i + 1 := ⟨p - 1, by have := he.1; omega⟩
    subst h2
    have hi : i < d_n σ := by omega
    have h3 := hP i hi
    refine p_s rfl rfl ?_
    refine p_ifF rfl (nI_nle (Nat.succ_pos i) (by omega)) ?_
    refine p_s rfl rfl ?_
    refine p_s rfl rfl ?_
    refine p_s rfl rfl ?_
    refine p_callV rfl c_Rf_76 rfl hr.1 g_Rf_is rfl rfl rfl (p_le (by omega) (Nat.le_refl _) (Nat.le_refl _) (r_isX (d := d) (b := 0) hr hs hi (by decide) rfl)) (fun v w hq => ?_)
    obtain ⟨rfl, hw9⟩ := hq
    have hw9 := hw9.symm
    subst hw9
    refine p_if rfl (fun c => ?_) (fun c => ?_)
    · simp only [px_cmp] at c
      refine p_s rfl rfl ?_
      refine p_get rfl f_Rf_19 hr.1 rfl ?_
      refine p_s rfl rfl ?_
      refine p_ialdS rfl (hr.2.1 3 (by decide)) rfl (show i + 1 < 201 by omega) (by decide) ?_
      rw [hs.pa hi]
      refine p_s rfl rfl ?_
      refine p_goto rfl ?_
      refine p_post (fun v w hq => ⟨?_, hq.2⟩) (ih _ _ _ he.2 h3 rfl)
      rw [hq.1, hidF, if_neg (by omega), if_pos (show sHas (d_A σ 3 (i + 1 - 1)) 1 = 0 from c)]
    · simp only [px_ncmp] at c
      refine p_s rfl rfl ?_
      exact p_iret rfl rfl rfl ⟨by rw [hidF, if_neg (by omega), if_neg (show ¬ sHas (d_A σ 3 (i + 1 - 1)) 1 = 0 from c)], rfl⟩
set_option maxHeartbeats 4000000 in
theorem r_hidden {G : px_G} {d m : Nat} {R : Int32} {q : Nat} {aa : Nat → Nat} {ws : va_W} {fa : Nat → Nat → Int32} {s : Nat → Int32} {σ : Md} (hr : RH G ws m aa fa s) (hs : RS R q fa s σ) (hA : Ac (d_n σ) (d_p σ)) {i : Nat} (hi : i < d_n σ) : px G m_Rf_hidden 0 (lv_args 0 [.ref m, .int (nI (i + 1))]) [] ws (d + 1) 0 0 (fun v w => v = some (.int (hidF (d_A σ) (d_p σ) 200 (d_p σ i))) ∧ w = ws) := by
  have hn := hs.1
  obtain ⟨f, hf1, hf2⟩ := hA.f (hA.1 i hi) hn
  refine p_s rfl rfl ?_
  refine p_get rfl f_Rf_19 hr.1 rfl ?_
  refine p_s rfl rfl ?_
  refine p_ialdS rfl (hr.2.1 3 (by decide)) rfl (show i + 1 < 201 by omega) (by decide) ?_
  rw [hs.pa hi]
  refine p_s rfl rfl ?_
  rw [hidF_ge f 200 _ hf2 hf1]
  exact r_hid_loop hr hs hA.1 f _ _ _ hf2 (hA.1 i hi) rfl
set_option maxHeartbeats 4000000 in
theorem r_parentN {G : px_G} {d m : Nat} {R : Int32} {q : Nat} {aa : Nat → Nat} {ws : va_W} {fa : Nat → Nat → Int32} {s : Nat → Int32} {σ : Md} (hr : RH G ws m aa fa s) (hs : RS R q fa s σ) {x y : Int32} (hx : x < 1 ∨ nI (d_n σ) < x) : px G m_Rf_parent 0 (lv_args 0 [.ref m, .int x, .int y]) [] ws (d + 10) 0 0 (OPr G R q m aa ws (-1) (σ)) := by
  have hk : px_kp Kc ws ws := px_kp.rf
  refine p_s rfl rfl ?_
  refine p_s rfl rfl ?_
  refine p_callV rfl c_Rf_129 rfl hr.1 g_Rf_none rfl rfl rfl (p_le (by omega) (Nat.le_refl _) (Nat.le_refl _) (r_noneX1 (d := d) hr hs hk hx)) (fun v w hq => ?_)
  obtain ⟨rfl, fa, s, hr, hs, hk⟩ := hq
  refine p_ifT rfl (show ¬ (1 : Int32) = 0 by decide) ?_
  refine p_s rfl rfl ?_
  exact p_iret rfl rfl rfl ⟨rfl, fa, s, hr, hs, hk⟩
theorem lt1 {y w : Int32} (h0 : ¬ y = 0) (c : ¬ y < 0) (z : y ≤ w) (h : y < 1 ∨ w < y) : False := by
  rcases h with h | h
  · have h1 := Int32.lt_iff_toInt_lt.mp h
    have h2 : ¬ y.toInt < 0 := fun k => c (Int32.lt_iff_toInt_lt.mpr k)
    have e1 : (1 : Int32).toInt = 1 := rfl
    exact h0 (Int32.toInt_inj.mp (by rw [show (0 : Int32).toInt = 0 from rfl]; omega))
  · exact absurd h (Int32.not_lt.mpr z)
set_option maxHeartbeats 4000000 in
theorem r_parentSN {G : px_G} {d m : Nat} {R : Int32} {q : Nat} {aa : Nat → Nat} {ws : va_W} {fa : Nat → Nat → Int32} {s : Nat → Int32} {σ : Md} (hr : RH G ws m aa fa s) (hs : RS R q fa s σ) {i : Nat} (hi : i < d_n σ) {y : Int32} (hy : y < 1 ∨ nI (d_n σ) < y) (h0 : ¬ y = 0) : px G m_Rf_parent 0 (lv_args 0 [.ref m, .int (nI (i + 1)), .int y]) [] ws (d + 10) 0 0 (OPr G R q m aa ws (-1) (σ)) := by
  have hk : px_kp Kc ws ws := px_kp.rf
  refine p_s rfl rfl ?_
  refine p_s rfl rfl ?_
  refine p_callV rfl c_Rf_129 rfl hr.1 g_Rf_none rfl rfl rfl (p_le (by omega) (Nat.le_refl _) (Nat.le_refl _) (r_noneX0 (d := d) hr hs hk hi)) (fun v w hq => ?_)
  obtain ⟨rfl, fa, s, hr, hs, hk⟩ := hq
  refine p_ifF rfl (show (0 : Int32) = 0 from rfl) ?_
  refine p_s rfl rfl ?_
  refine p_if rfl (fun c => ?_) (fun c => ?_)
  · simp only [px_cmp] at c
    refine p_s rfl rfl ?_
    exact p_iret rfl rfl rfl ⟨rfl, fa, s, hr, hs, hk⟩
  · simp only [px_ncmp] at c
    refine p_s rfl rfl ?_
    refine p_s rfl rfl ?_
    refine p_get rfl f_Rf_73 hr.1 rfl ?_
    rw [hs.s2]
    refine p_icmpF rfl (show ¬ y ≤ nI (d_n σ) from fun z => lt1 h0 c z hy) ?_
    refine p_s rfl rfl ?_
    exact p_iret rfl rfl rfl ⟨rfl, fa, s, hr, hs, hk⟩
set_option maxHeartbeats 4000000 in
theorem r_parent0C {G : px_G} {d m : Nat} {R : Int32} {q : Nat} {aa : Nat → Nat} {ws : va_W} {fa : Nat → Nat → Int32} {s : Nat → Int32} {σ : Md} (hr : RH G ws m aa fa s) (hs : RS R q fa s σ) {i : Nat} (hi : i < d_n σ) (hp : d_g σ 1 = 0) : px G m_Rf_parent 0 (lv_args 0 [.ref m, .int (nI (i + 1)), .int 0]) [] ws (d + 10) 0 0 (OPr G R q m aa ws (-3) (σ)) := by
  have hk : px_kp Kc ws ws := px_kp.rf
  have hn := hs.1
  refine p_s rfl rfl ?_
  refine p_s rfl rfl ?_
  refine p_callV rfl c_Rf_129 rfl hr.1 g_Rf_none rfl rfl rfl (p_le (by omega) (Nat.le_refl _) (Nat.le_refl _) (r_noneX0 (d := d) hr hs hk hi)) (fun v w hq => ?_)
  obtain ⟨rfl, fa, s, hr, hs, hk⟩ := hq
  refine p_ifF rfl (show (0 : Int32) = 0 from rfl) ?_
  refine p_s rfl rfl ?_
  refine p_ifF rfl (show ¬ (0 : Int32) < 0 by decide) ?_
  refine p_s rfl rfl ?_
  refine p_s rfl rfl ?_
  refine p_get rfl f_Rf_73 hr.1 rfl ?_
  rw [hs.s2]
  refine p_icmpT rfl (show (0 : Int32) ≤ nI (d_n σ) from nI_pos' (by omega)) ?_
  refine p_s rfl rfl ?_
  refine p_s rfl rfl ?_
  refine p_icmpT rfl (show ¬ nI (i + 1) = 0 from nI_ne0 (Nat.succ_pos i) (by omega)) ?_
  refine p_s rfl rfl ?_
  refine p_get rfl f_Rf_84 hr.1 rfl ?_
  rw [hs.cutT hp]
  refine p_ifF rfl (show ¬ (1 : Int32) = 0 by decide) ?_
  refine p_s rfl rfl ?_
  exact p_iret rfl rfl rfl ⟨rfl, fa, s, hr, hs, hk⟩
set_option maxHeartbeats 4000000 in
theorem r_parent0 {G : px_G} {d m : Nat} {R : Int32} {q : Nat} {aa : Nat → Nat} {ws : va_W} {fa : Nat → Nat → Int32} {s : Nat → Int32} {σ : Md} (hr : RH G ws m aa fa s) (hs : RS R q fa s σ) {i : Nat} (hi : i < d_n σ) (hp : ¬ d_g σ 1 = 0) : px G m_Rf_parent 0 (lv_args 0 [.ref m, .int (nI (i + 1)), .int 0]) [] ws (d + 10) 0 0 (OPr G R q m aa ws (nI (cntF (d_p (stP σ i 0)) 200 0)) (stP σ i 0)) := by
  have hk : px_kp Kc ws ws := px_kp.rf
  have hn := hs.1
  refine p_s rfl rfl ?_
  refine p_s rfl rfl ?_
  refine p_callV rfl c_Rf_129 rfl hr.1 g_Rf_none rfl rfl rfl (p_le (by omega) (Nat.le_refl _) (Nat.le_refl _) (r_noneX0 (d := d) hr hs hk hi)) (fun v w hq => ?_)
  obtain ⟨rfl, fa, s, hr, hs, hk⟩ := hq
  refine p_ifF rfl (show (0 : Int32) = 0 from rfl) ?_
  refine p_s rfl rfl ?_
  refine p_ifF rfl (show ¬ (0 : Int32) < 0 by decide) ?_
  refine p_s rfl rfl ?_
  refine p_s rfl rfl ?_
  refine p_get rfl f_Rf_73 hr.1 rfl ?_
  rw [hs.s2]
  refine p_icmpT rfl (show (0 : Int32) ≤ nI (d_n σ) from nI_pos' (by omega)) ?_
  refine p_s rfl rfl ?_
  refine p_s rfl rfl ?_
  refine p_icmpT rfl (show ¬ nI (i + 1) = 0 from nI_ne0 (Nat.succ_pos i) (by omega)) ?_
  refine p_s rfl rfl ?_
  refine p_get rfl f_Rf_84 hr.1 rfl ?_
  rw [hs.cutF hp]
  refine p_ifT rfl (show (0 : Int32) = 0 from rfl) ?_
  refine p_s rfl rfl ?_
  refine p_s rfl rfl ?_
  refine p_s rfl rfl ?_
  refine p_ifT rfl (show (0 : Int32) ≤ 0 by decide) ?_
  refine p_s rfl rfl ?_
  refine p_get rfl f_Rf_19 hr.1 rfl ?_
  refine p_s rfl rfl ?_
  refine p_s rfl rfl ?_
  refine p_iastS rfl (hr.2.1 3 (by decide)) rfl (show i + 1 < 201 by omega) (by decide) ?_
  have hr2 := hr.put (k := 3) (i := i + 1) (v := nI (0)) (by decide) (fun z => by omega)
  have hk2 := hk.tr (hr.kp (k := 3) (e := rcell G 3 (upd (fa 3) (i + 1) (nI (0)))) (by decide))
  have hs2 := hs.par (i := i) (p := 0) hi
  refine p_s rfl rfl ?_
  refine p_s rfl rfl ?_
  refine p_s rfl rfl ?_
  refine p_s rfl rfl ?_
  refine p_s rfl rfl ?_
  refine p_ifT rfl (show (0 : Int32) ≤ 0 by decide) ?_
  refine p_s rfl rfl ?_
  exact p_iret rfl rfl rfl ⟨rfl, _, _, hr2, hs2, hk2⟩
set_option maxHeartbeats 4000000 in
theorem r_parentE {G : px_G} {d m : Nat} {R : Int32} {q : Nat} {aa : Nat → Nat} {ws : va_W} {fa : Nat → Nat → Int32} {s : Nat → Int32} {σ : Md} (hr : RH G ws m aa fa s) (hs : RS R q fa s σ) {i : Nat} (hi : i < d_n σ) : px G m_Rf_parent 0 (lv_args 0 [.ref m, .int (nI (i + 1)), .int (nI (i + 1))]) [] ws (d + 10) 0 0 (OPr G R q m aa ws (-2) (σ)) := by
  have hk : px_kp Kc ws ws := px_kp.rf
  have hn := hs.1
  refine p_s rfl rfl ?_
  refine p_s rfl rfl ?_
  refine p_callV rfl c_Rf_129 rfl hr.1 g_Rf_none rfl rfl rfl (p_le (by omega) (Nat.le_refl _) (Nat.le_refl _) (r_noneX0 (d := d) hr hs hk hi)) (fun v w hq => ?_)
  obtain ⟨rfl, fa, s, hr, hs, hk⟩ := hq
  refine p_ifF rfl (show (0 : Int32) = 0 from rfl) ?_
  refine p_s rfl rfl ?_
  refine p_ifF rfl (nI_pos (show i + 1 < 2 ^ 31 by omega)) ?_
  refine p_s rfl rfl ?_
  refine p_s rfl rfl ?_
  refine p_get rfl f_Rf_73 hr.1 rfl ?_
  rw [hs.s2]
  refine p_icmpT rfl (nI_le (show i + 1 ≤ d_n σ by omega) (by omega)) ?_
  refine p_s rfl rfl ?_
  refine p_s rfl rfl ?_
  refine p_icmpF rfl rfl ?_
  refine p_s rfl rfl ?_
  exact p_iret rfl rfl rfl ⟨rfl, fa, s, hr, hs, hk⟩
set_option maxHeartbeats 4000000 in
theorem r_parentC {G : px_G} {d m : Nat} {R : Int32} {q : Nat} {aa : Nat → Nat} {ws : va_W} {fa : Nat → Nat → Int32} {s : Nat → Int32} {σ : Md} (hr : RH G ws m aa fa s) (hs : RS R q fa s σ) {i : Nat} (hi : i < d_n σ) {j : Nat} (hj : j < d_n σ) (hij : ¬ i = j) (hp : d_g σ 1 = 0) : px G m_Rf_parent 0 (lv_args 0 [.ref m, .int (nI (i + 1)), .int (nI (j + 1))]) [] ws (d + 10) 0 0 (OPr G R q m aa ws (-3) (σ)) := by
  have hk : px_kp Kc ws ws := px_kp.rf
  have hn := hs.1
  refine p_s rfl rfl ?_
  refine p_s rfl rfl ?_
  refine p_callV rfl c_Rf_129 rfl hr.1 g_Rf_none rfl rfl rfl (p_le (by omega) (Nat.le_refl _) (Nat.le_refl _) (r_noneX0 (d := d) hr hs hk hi)) (fun v w hq => ?_)
  obtain ⟨rfl, fa, s, hr, hs, hk⟩ := hq
  refine p_ifF rfl (show (0 : Int32) = 0 from rfl) ?_
  refine p_s rfl rfl ?_
  refine p_ifF rfl (nI_pos (show j + 1 < 2 ^ 31 by omega)) ?_
  refine p_s rfl rfl ?_
  refine p_s rfl rfl ?_
  refine p_get rfl f_Rf_73 hr.1 rfl ?_
  rw [hs.s2]
  refine p_icmpT rfl (nI_le (show j + 1 ≤ d_n σ by omega) (by omega)) ?_
  refine p_s rfl rfl ?_
  refine p_s rfl rfl ?_
  refine p_icmpT rfl (show ¬ nI (i + 1) = nI (j + 1) by rw [nI_eq (by omega) (by omega)]; omega) ?_
  refine p_s rfl rfl ?_
  refine p_get rfl f_Rf_84 hr.1 rfl ?_
  rw [hs.cutT hp]
  refine p_ifF rfl (show ¬ (1 : Int32) = 0 by decide) ?_
  refine p_s rfl rfl ?_
  exact p_iret rfl rfl rfl ⟨rfl, fa, s, hr, hs, hk⟩
set_option maxHeartbeats 4000000 in
theorem r_par_loop {G : px_G} {d m : Nat} {R : Int32} {q : Nat} {aa : Nat → Nat} {ws : va_W} {fa : Nat → Nat → Int32} {s : Nat → Int32} {σ : Md} (hr : RH G ws m aa fa s) (hs : RS R q fa s σ) (hP : ∀ i, i < d_n σ → d_p σ i ≤ d_n σ) {i : Nat} (hi : i < d_n σ) {y : Int32} {Q : Option Value → va_W → Prop} : ∀ (f p : Nat) (x3 : Int32), ends (d_p σ) f p → p ≤ d_n σ → x3 = nI p → (¬ belF (d_p σ) i f p = 0 → Q (some (.int (-3))) ws) → (belF (d_p σ) i f p = 0 → ∀ x3, px G m_Rf_parent 64 [(3, .int x3), (0, .ref m), (1, .int (nI (i + 1))), (2, .int y)] [] ws d 0 0 Q) → px G m_Rf_parent 42 [(3, .int x3), (0, .ref m), (1, .int (nI (i + 1))), (2, .int y)] [] ws d 0 0 Q := by
  have hn := hs.1
  intro f
  induction f with
  | zero =>
    intro p x3 he hp h3 h1 h2
    subst h3
    have hp0 : p = 0 := he
    subst hp0
    refine p_s rfl rfl ?_
    refine p_ifT rfl (show nI 0 ≤ (0 : Int32) by decide) ?_
    exact h2 rfl _
  | succ f ih =>
    intro p x3 he hp h3 h1 h2
    obtain ⟨k, rfl⟩ : ∃ k, p = k + 1 := ⟨p - 1, by have := he.1; omega⟩
    subst h3
    have hkn : k < d_n σ := by omega
    have h4 := hP k hkn
    rw [belF, if_neg (Nat.succ_ne_zero k)] at h1 h2
    refine p_s rfl rfl ?_
    refine p_ifF rfl (nI_nle (Nat.succ_pos k) (by omega)) ?_
    refine p_s rfl rfl ?_
    refine p_s rfl rfl ?_
    refine p_icmp rfl (fun c => ?_) (fun c => ?_)
    · simp only [px_cmp] at c
      refine p_s rfl rfl ?_
      refine p_get rfl f_Rf_19 hr.1 rfl ?_
      refine p_s rfl rfl ?_
      refine p_ialdS rfl (hr.2.1 3 (by decide)) rfl (show k + 1 < 201 by omega) (by decide) ?_
      rw [hs.pa hkn]
      refine p_s rfl rfl ?_
      rw [nI_eq (by omega) (by omega)] at c
      rw [if_neg c] at h1 h2
      refine p_goto rfl ?_
      exact ih _ _ he.2 h4 rfl h1 h2
    · simp only [px_ncmp] at c
      refine p_s rfl rfl ?_
      rw [nI_eq (by omega) (by omega)] at c
      rw [if_pos c] at h1
      exact p_iret rfl rfl rfl (h1 (by decide))
set_option maxHeartbeats 4000000 in
theorem r_cnt_loop {G : px_G} {d m : Nat} {R : Int32} {q : Nat} {aa : Nat → Nat} {ws : va_W} {fa : Nat → Nat → Int32} {s : Nat → Int32} {σ : Md} (hr : RH G ws m aa fa s) (hs : RS R q fa s σ) (hP : ∀ i, i < d_n σ → d_p σ i ≤ d_n σ) {i : Nat} {y : Int32} {Q : Option Value → va_W → Prop} : ∀ (f p k : Nat) (x3 x4 : Int32), ends (d_p σ) f p → p ≤ d_n σ → x4 = nI p → x3 = nI k → Q (some (.int (nI (k + cntF (d_p σ) f p)))) ws → px G m_Rf_parent 76 [(4, .int x4), (3, .int x3), (0, .ref m), (1, .int (nI (i + 1))), (2, .int y)] [] ws d 0 0 Q := by
  have hn := hs.1
  intro f
  induction f with
  | zero =>
    intro p k x3 x4 he hp h4 h3 h1
    subst h3
    subst h4
    have hp0 : p = 0 := he
    subst hp0
    refine p_s rfl rfl ?_
    refine p_ifT rfl (show nI 0 ≤ (0 : Int32) by decide) ?_
    refine p_s rfl rfl ?_
    exact p_iret rfl rfl rfl h1
  | succ f ih =>
    intro p k x3 x4 he hp h4 h3 h1
    obtain ⟨c, rfl⟩ : ∃ c, p = c + 1 := ⟨p - 1, by have := he.1; omega⟩
    subst h3
    subst h4
    have hkn : c < d_n σ := by omega
    have h5 := hP c hkn
    rw [cntF, if_neg (Nat.succ_ne_zero c)] at h1
    refine p_s rfl rfl ?_
    refine p_ifF rfl (nI_nle (Nat.succ_pos c) (by omega)) ?_
    refine p_s rfl rfl ?_
    refine p_s rfl rfl ?_
    refine p_get rfl f_Rf_19 hr.1 rfl ?_
    refine p_s rfl rfl ?_
    refine p_ialdS rfl (hr.2.1 3 (by decide)) rfl (show c + 1 < 201 by omega) (by decide) ?_
    rw [hs.pa hkn]
    refine p_s rfl rfl ?_
    refine p_goto rfl ?_
    exact ih _ (k + 1) _ _ he.2 h5 rfl (nI_1 k) (by rw [Nat.add_assoc k 1, Nat.add_comm 1]; exact h1)
set_option maxHeartbeats 4000000 in
theorem r_parentB {G : px_G} {d m : Nat} {R : Int32} {q : Nat} {aa : Nat → Nat} {ws : va_W} {fa : Nat → Nat → Int32} {s : Nat → Int32} {σ : Md} (hr : RH G ws m aa fa s) (hs : RS R q fa s σ) (hA : Ac (d_n σ) (d_p σ)) {i : Nat} (hi : i < d_n σ) {j : Nat} (hj : j < d_n σ) (hij : ¬ i = j) (hp : ¬ d_g σ 1 = 0) (hb : ¬ belF (d_p σ) i 200 (d_p σ j) = 0) : px G m_Rf_parent 0 (lv_args 0 [.ref m, .int (nI (i + 1)), .int (nI (j + 1))]) [] ws (d + 10) 0 0 (OPr G R q m aa ws (-3) (σ)) := by
  have hk : px_kp Kc ws ws := px_kp.rf
  have hn := hs.1
  obtain ⟨f, hf1, hf2⟩ := hA.f (hA.1 j hj) hn
  have hbe : belF (d_p σ) i (f + 1) (j + 1) = belF (d_p σ) i 200 (d_p σ j) := by
    rw [belF, if_neg (Nat.succ_ne_zero j), if_neg (show ¬ j + 1 = i + 1 by omega), Nat.add_sub_cancel, belF_ge f 200 _ hf2 hf1]
  refine p_s rfl rfl ?_
  refine p_s rfl rfl ?_
  refine p_callV rfl c_Rf_129 rfl hr.1 g_Rf_none rfl rfl rfl (p_le (by omega) (Nat.le_refl _) (Nat.le_refl _) (r_noneX0 (d := d) hr hs hk hi)) (fun v w hq => ?_)
  obtain ⟨rfl, fa, s, hr, hs, hk⟩ := hq
  refine p_ifF rfl (show (0 : Int32) = 0 from rfl) ?_
  refine p_s rfl rfl ?_
  refine p_ifF rfl (nI_pos (show j + 1 < 2 ^ 31 by omega)) ?_
  refine p_s rfl rfl ?_
  refine p_s rfl rfl ?_
  refine p_get rfl f_Rf_73 hr.1 rfl ?_
  rw [hs.s2]
  refine p_icmpT rfl (nI_le (show j + 1 ≤ d_n σ by omega) (by omega)) ?_
  refine p_s rfl rfl ?_
  refine p_s rfl rfl ?_
  refine p_icmpT rfl (show ¬ nI (i + 1) = nI (j + 1) by rw [nI_eq (by omega) (by omega)]; omega) ?_
  refine p_s rfl rfl ?_
  refine p_get rfl f_Rf_84 hr.1 rfl ?_
  rw [hs.cutF hp]
  refine p_ifT rfl (show (0 : Int32) = 0 from rfl) ?_
  refine p_s rfl rfl ?_
  refine p_s rfl rfl ?_
  exact r_par_loop hr hs hA.1 hi (f + 1) (j + 1) _ ⟨Nat.succ_ne_zero j, hf2⟩ (by omega) rfl (fun _ => ⟨rfl, fa, s, hr, hs, hk⟩) (fun z => absurd (hbe.symm.trans z) hb)
set_option maxHeartbeats 4000000 in
theorem r_parent {G : px_G} {d m : Nat} {R : Int32} {q : Nat} {aa : Nat → Nat} {ws : va_W} {fa : Nat → Nat → Int32} {s : Nat → Int32} {σ : Md} (hr : RH G ws m aa fa s) (hs : RS R q fa s σ) (hA : Ac (d_n σ) (d_p σ)) {i : Nat} (hi : i < d_n σ) {j : Nat} (hj : j < d_n σ) (hij : ¬ i = j) (hp : ¬ d_g σ 1 = 0) (hb : belF (d_p σ) i 200 (d_p σ j) = 0) : px G m_Rf_parent 0 (lv_args 0 [.ref m, .int (nI (i + 1)), .int (nI (j + 1))]) [] ws (d + 10) 0 0 (OPr G R q m aa ws (nI (cntF (d_p (stP σ i (j + 1))) 200 (j + 1))) (stP σ i (j + 1))) := by
  have hk : px_kp Kc ws ws := px_kp.rf
  have hn := hs.1
  obtain ⟨f, hf1, hf2⟩ := hA.f (hA.1 j hj) hn
  have hbe : belF (d_p σ) i (f + 1) (j + 1) = belF (d_p σ) i 200 (d_p σ j) := by
    rw [belF, if_neg (Nat.succ_ne_zero j), if_neg (show ¬ j + 1 = i + 1 by omega), Nat.add_sub_cancel, belF_ge f 200 _ hf2 hf1]
  have hg : ends (d_p (stP σ i (j + 1))) (f + 1) (j + 1) := ends_avoid (f + 1) (j + 1) ⟨Nat.succ_ne_zero j, hf2⟩ (hbe.trans hb)
  refine p_s rfl rfl ?_
  refine p_s rfl rfl ?_
  refine p_callV rfl c_Rf_129 rfl hr.1 g_Rf_none rfl rfl rfl (p_le (by omega) (Nat.le_refl _) (Nat.le_refl _) (r_noneX0 (d := d) hr hs hk hi)) (fun v w hq => ?_)
  obtain ⟨rfl, fa, s, hr, hs, hk⟩ := hq
  refine p_ifF rfl (show (0 : Int32) = 0 from rfl) ?_
  refine p_s rfl rfl ?_
  refine p_ifF rfl (nI_pos (show j + 1 < 2 ^ 31 by omega)) ?_
  refine p_s rfl rfl ?_
  refine p_s rfl rfl ?_
  refine p_get rfl f_Rf_73 hr.1 rfl ?_
  rw [hs.s2]
  refine p_icmpT rfl (nI_le (show j + 1 ≤ d_n σ by omega) (by omega)) ?_
  refine p_s rfl rfl ?_
  refine p_s rfl rfl ?_
  refine p_icmpT rfl (show ¬ nI (i + 1) = nI (j + 1) by rw [nI_eq (by omega) (by omega)]; omega) ?_
  refine p_s rfl rfl ?_
  refine p_get rfl f_Rf_84 hr.1 rfl ?_
  rw [hs.cutF hp]
  refine p_ifT rfl (show (0 : Int32) = 0 from rfl) ?_
  refine p_s rfl rfl ?_
  refine p_s rfl rfl ?_
  refine r_par_loop hr hs hA.1 hi (f + 1) (j + 1) _ ⟨Nat.succ_ne_zero j, hf2⟩ (by omega) rfl (fun z => absurd (hbe.trans hb) z) (fun _ x3 => ?_)
  refine p_s rfl rfl ?_
  refine p_get rfl f_Rf_19 hr.1 rfl ?_
  refine p_s rfl rfl ?_
  refine p_s rfl rfl ?_
  refine p_iastS rfl (hr.2.1 3 (by decide)) rfl (show i + 1 < 201 by omega) (by decide) ?_
  have hr2 := hr.put (k := 3) (i := i + 1) (v := nI (j + 1)) (by decide) (fun z => by omega)
  have hk2 := hk.tr (hr.kp (k := 3) (e := rcell G 3 (upd (fa 3) (i + 1) (nI (j + 1)))) (by decide))
  have hs2 := hs.par (i := i) (p := j + 1) hi
  refine p_s rfl rfl ?_
  refine p_s rfl rfl ?_
  refine p_s rfl rfl ?_
  refine p_s rfl rfl ?_
  have hA2 : Ac (d_n (stP σ i (j + 1))) (d_p (stP σ i (j + 1))) := hA.par (by omega) hg
  rw [cntF_ge (f + 1) 200 (j + 1) hg (Nat.le_trans (ends_le hA2.1 hg (by show j + 1 ≤ d_n σ; omega)) hn)]
  refine p_lv (lv2 := [(4, .int (nI (j + 1))), (3, .int 0), (0, .ref m), (1, .int (nI (i + 1))), (2, .int (nI (j + 1)))]) (ks := [0, 1, 2, 3, 4]) rfl ?_
  exact r_cnt_loop hr2 hs2 hA2.1 (f + 1) (j + 1) 0 _ _ hg (by show j + 1 ≤ d_n σ; omega) rfl rfl ⟨by rw [Nat.zero_add], _, _, hr2, hs2, hk2⟩
end
section
/-! WHICH ENTRY GOES: the class's scan and the reference's three scans -/
theorem pw_lt {es : List Nat} {N : Nat → Nat} (h : es.Pairwise (fun a b => N a < N b)) : ∀ a b, a ∈ es → b ∈ es → N a = N b → a = b := by
  induction es with
  | nil => intro a b ha; cases ha
  | cons x t ih =>
    intro a b ha hb e
    obtain ⟨h1, h2⟩ := List.pairwise_cons.mp h
    rcases List.mem_cons.mp ha with z1 | z1
    · rcases List.mem_cons.mp hb with z2 | z2
      · rw [z1, z2]
      · have := h1 b z2
        rw [z1] at e
        omega
    · rcases List.mem_cons.mp hb with z2 | z2
      · have := h1 a z1
        rw [z2] at e
        omega
      · exact ih h2 a b z1 z2 e
def cnI (es : List Nat) : Nat → Nat
  | 0 => 0
  | k + 1 => cnI es k + (if k ∈ es then 1 else 0)
theorem cnI_nil : ∀ n, cnI [] n = 0
  | 0 => rfl
  | n + 1 => by rw [cnI, cnI_nil n, if_neg (by intro z; cases z)]
theorem cnI_cons {a : Nat} {t : List Nat} (ha : a ∉ t) : ∀ n, cnI (a :: t) n = cnI t n + (if a < n then 1 else 0)
  | 0 => by rw [cnI, cnI, if_neg (by omega)]
  | n + 1 => by
    rw [cnI, cnI, cnI_cons ha n]
    by_cases h1 : n = a
    · rw [if_pos (List.mem_cons.mpr (Or.inl h1)), if_neg (show ¬ n ∈ t by rw [h1]; exact ha), if_neg (show ¬ a < n by omega), if_pos (show a < n + 1 by omega)]
    · by_cases h2 : n ∈ t
      · rw [if_pos (List.mem_cons.mpr (Or.inr h2)), if_pos h2]
        by_cases h3 : a < n
        · rw [if_pos h3, if_pos (by omega)]
        · rw [if_neg h3, if_neg (by omega)]
      · rw [if_neg (fun z => (List.mem_cons.mp z).elim h1 h2), if_neg h2]
        by_cases h3 : a < n
        · rw [if_pos h3, if_pos (by omega)]
        · rw [if_neg h3, if_neg (by omega)]
theorem cnI_len {n : Nat} : ∀ es : List Nat, es.Nodup → (∀ x ∈ es, x < n) → cnI es n = es.length
  | [], _, _ => cnI_nil n
  | a :: t, hd, h => by
    obtain ⟨h1, h2⟩ := List.nodup_cons.mp hd
    rw [cnI_cons h1, cnI_len t h2 (fun x hx => h x (List.mem_cons_of_mem _ hx)), if_pos (h a List.mem_cons_self), List.length_cons]
section BEST
variable {A : Nat → Nat → Int32} {N pr : Nat → Nat} {c n : Nat}
abbrev nfE (A : Nat → Nat → Int32) (x : Nat) : Prop := sHas (A 3 x) 1 = 0
def kyE (A : Nat → Nat → Int32) (pr : Nat → Nat) (x : Nat) : Nat := 2 * pr x + (if nfE A x then 1 else 0)
theorem ky_t {x : Nat} (h : nfE A x) : kyE A pr x = 2 * pr x + 1 := by rw [kyE, if_pos h]
theorem ky_f {x : Nat} (h : ¬ nfE A x) : kyE A pr x = 2 * pr x := by rw [kyE, if_neg h, Nat.add_zero]
abbrev PrOk (A : Nat → Nat → Int32) (pr : Nat → Nat) (n : Nat) : Prop := ∀ i, i < n → A 0 i = nI (pr i) ∧ 1 ≤ pr i ∧ pr i ≤ 255
theorem mayE_ky (hp : PrOk A pr n) (hc : c < n) {x : Nat} (hx : x < n) : mayE A c x ↔ 2 * pr c + 1 ≤ kyE A pr x := by
  obtain ⟨a1, a2, a3⟩ := hp c hc
  obtain ⟨b1, b2, b3⟩ := hp x hx
  unfold mayE
  rw [a1, b1, nI_ltI (by omega) (by omega), nI_eq (by omega) (by omega)]
  by_cases hf : nfE A x
  · rw [ky_t hf]
    constructor
    · intro z
      omega
    · intro z
      by_cases h : pr c < pr x
      · exact Or.inl h
      · exact Or.inr ⟨by omega, hf⟩
  · rw [ky_f hf]
    constructor
    · rintro (z | z)
      · omega
      · exact absurd z.2 hf
    · intro z
      exact Or.inl (by omega)
theorem befE_ky (hp : PrOk A pr n) {x y : Nat} (hx : x < n) (hy : y < n) : befE A x y ↔ kyE A pr y < kyE A pr x := by
  obtain ⟨a1, a2, a3⟩ := hp x hx
  obtain ⟨b1, b2, b3⟩ := hp y hy
  unfold befE
  rw [a1, b1, nI_ltI (by omega) (by omega), nI_eq (by omega) (by omega)]
  by_cases hf : nfE A x
  · rw [ky_t hf]
    by_cases hg : nfE A y
    · rw [ky_t hg]
      constructor
      · rintro (z | z)
        · omega
        · exact absurd hg z.2.2
      · intro z
        exact Or.inl (by omega)
    · rw [ky_f hg]
      constructor
      · rintro (z | z)
        · omega
        · omega
      · intro z
        by_cases h : pr y < pr x
        · exact Or.inl h
        · exact Or.inr ⟨by omega, hf, hg⟩
  · rw [ky_f hf]
    constructor
    · rintro (z | z)
      · by_cases hg : nfE A y
        · rw [ky_t hg]
          omega
        · rw [ky_f hg]
          omega
      · exact absurd z.2.1 hf
    · intro z
      by_cases hg : nfE A y
      · rw [ky_t hg] at z
        exact Or.inl (by omega)
      · rw [ky_f hg] at z
        exact Or.inl (by omega)
/-- y is the one to go of the list -/
def BestV (A : Nat → Nat → Int32) (pr N : Nat → Nat) (c : Nat) (l : List Nat) (y : Nat) : Prop := y ∈ l ∧ 2 * pr c + 1 ≤ kyE A pr y ∧ ∀ x ∈ l, 2 * pr c + 1 ≤ kyE A pr x → kyE A pr x < kyE A pr y ∨ (kyE A pr x = kyE A pr y ∧ N y ≤ N x)
theorem BestV.uniq {l : List Nat} {y z : Nat} (hN : l.Pairwise (fun a b => N a < N b)) (h1 : BestV A pr N c l y) (h2 : BestV A pr N c l z) : y = z := by
  have a := h1.2.2 z h2.1 h2.2.1
  have b := h2.2.2 y h1.1 h1.2.1
  exact pw_lt hN y z h1.1 h2.1 (by omega)
theorem vicF_best (hp : PrOk A pr n) (hc : c < n) : ∀ (l pre : List Nat) (g : Option Nat), (pre ++ l).Pairwise (fun a b => N a < N b) → (∀ x ∈ pre ++ l, x < n) → ((g = none ∧ ∀ x ∈ pre, ¬ 2 * pr c + 1 ≤ kyE A pr x) ∨ ∃ y, g = some y ∧ BestV A pr N c pre y) →
    (vicF A c g l = none ∧ ∀ x ∈ pre ++ l, ¬ 2 * pr c + 1 ≤ kyE A pr x) ∨ ∃ y, vicF A c g l = some y ∧ BestV A pr N c (pre ++ l) y
  | [], pre, g, hN, hn, h => by
    rw [List.append_nil]
    exact h
  | x :: l, pre, g, hN, hn, h => by
    have hx : x < n := hn x (List.mem_append_right _ List.mem_cons_self)
    have e : pre ++ x :: l = (pre ++ [x]) ++ l := by rw [List.append_assoc]; rfl
    have hNx : ∀ z ∈ pre, N z < N x := fun z hz => (List.pairwise_append.mp hN).2.2 z hz x List.mem_cons_self
    rw [e] at hN hn ⊢
    refine vicF_best hp hc l (pre ++ [x]) (vicS A c g x) hN hn ?_
    rcases h with ⟨rfl, hno⟩ | ⟨y, rfl, hy1, hy2, hy3⟩
    · show (vicS A c none x = none ∧ _) ∨ _
      rw [vicS]
      by_cases hm : mayE A c x
      · rw [if_pos hm]
        rw [mayE_ky hp hc hx] at hm
        refine Or.inr ⟨x, rfl, List.mem_append_right _ List.mem_cons_self, hm, fun z hz hz2 => ?_⟩
        rcases List.mem_append.mp hz with hz | hz
        · exact absurd hz2 (hno z hz)
        · rw [List.mem_singleton.mp hz]
          exact Or.inr ⟨rfl, Nat.le_refl _⟩
      · rw [if_neg hm]
        rw [mayE_ky hp hc hx] at hm
        refine Or.inl ⟨rfl, fun z hz => ?_⟩
        rcases List.mem_append.mp hz with hz | hz
        · exact hno z hz
        · rw [List.mem_singleton.mp hz]
          exact hm
    · have hy : y < n := hn y (List.mem_append_left _ (List.mem_append_left _ hy1))
      have hNy := hNx y hy1
      rw [vicS]
      by_cases hm : mayE A c x ∧ befE A x y
      · rw [if_pos hm]
        rw [mayE_ky hp hc hx, befE_ky hp hx hy] at hm
        refine Or.inr ⟨x, rfl, List.mem_append_right _ List.mem_cons_self, hm.1, fun z hz hz2 => ?_⟩
        rcases List.mem_append.mp hz with hz | hz
        · have := hy3 z hz hz2
          omega
        · rw [List.mem_singleton.mp hz]
          exact Or.inr ⟨rfl, Nat.le_refl _⟩
      · rw [if_neg hm]
        rw [mayE_ky hp hc hx, befE_ky hp hx hy] at hm
        refine Or.inr ⟨y, rfl, List.mem_append_left _ hy1, hy2, fun z hz hz2 => ?_⟩
        rcases List.mem_append.mp hz with hz | hz
        · exact hy3 z hz hz2
        · rw [List.mem_singleton.mp hz] at hz2 ⊢
          have : ¬ kyE A pr y < kyE A pr x := fun k => hm ⟨hz2, k⟩
          omega
/-- the reference's three scans -/
abbrev mayR (A : Nat → Nat → Int32) (pr N : Nat → Nat) (c e : Nat) : Prop := 0 < N e ∧ (pr c < pr e ∨ (pr e = pr c ∧ nfE A e))
def lowF (A : Nat → Nat → Int32) (pr N : Nat → Nat) (c : Nat) : Nat → Nat
  | 0 => 0
  | k + 1 => if mayR A pr N c k ∧ lowF A pr N c k < pr k then pr k else lowF A pr N c k
abbrev somR (A : Nat → Nat → Int32) (pr N : Nat → Nat) (low e : Nat) : Prop := 0 < N e ∧ pr e = low ∧ nfE A e
def somF (A : Nat → Nat → Int32) (pr N : Nat → Nat) (low : Nat) : Nat → Int32
  | 0 => 0
  | k + 1 => if ¬ somF A pr N low k = 0 ∨ somR A pr N low k then 1 else 0
abbrev canR (A : Nat → Nat → Int32) (pr N : Nat → Nat) (low : Nat) (sm : Int32) (e : Nat) : Prop := 0 < N e ∧ pr e = low ∧ (sm = 0 ∨ nfE A e)
def besF (A : Nat → Nat → Int32) (pr N : Nat → Nat) (low : Nat) (sm : Int32) : Nat → Nat
  | 0 => 0
  | k + 1 => if canR A pr N low sm k ∧ (besF A pr N low sm k = 0 ∨ N k < N (besF A pr N low sm k - 1)) then k + 1 else besF A pr N low sm k
theorem lowF_sp (h1 : ∀ i, i < n → 1 ≤ pr i) : ∀ k, k ≤ n → (∀ e, e < k → mayR A pr N c e → pr e ≤ lowF A pr N c k) ∧ (lowF A pr N c k = 0 ∨ ∃ e, e < k ∧ mayR A pr N c e ∧ pr e = lowF A pr N c k)
  | 0, _ => ⟨fun e h => by omega, Or.inl rfl⟩
  | k + 1, hk => by
    obtain ⟨a, b⟩ := lowF_sp h1 k (by omega)
    rw [lowF]
    by_cases h : mayR A pr N c k ∧ lowF A pr N c k < pr k
    · rw [if_pos h]
      refine ⟨fun e he hm => ?_, Or.inr ⟨k, by omega, h.1, rfl⟩⟩
      by_cases hek : e = k
      · rw [hek]
        exact Nat.le_refl _
      · have := a e (by omega) hm
        omega
    · rw [if_neg h]
      refine ⟨fun e he hm => ?_, b.imp id (fun ⟨e, e1, e2⟩ => ⟨e, by omega, e2⟩)⟩
      by_cases hek : e = k
      · subst hek
        have : ¬ lowF A pr N c e < pr e := fun z => h ⟨hm, z⟩
        omega
      · exact a e (by omega) hm
theorem somF_sp {low : Nat} : ∀ k, (somF A pr N low k = 0 ∧ ∀ e, e < k → ¬ somR A pr N low e) ∨ (somF A pr N low k = 1 ∧ ∃ e, e < k ∧ somR A pr N low e)
  | 0 => Or.inl ⟨rfl, fun e h => by omega⟩
  | k + 1 => by
    rw [somF]
    rcases somF_sp k with ⟨a, b⟩ | ⟨a, e, b1, b2⟩
    · by_cases h : somR A pr N low k
      · rw [if_pos (Or.inr h)]
        exact Or.inr ⟨rfl, k, by omega, h⟩
      · rw [if_neg (fun z => z.elim (fun w => w a) h)]
        refine Or.inl ⟨rfl, fun e he => ?_⟩
        by_cases hek : e = k
        · rw [hek]
          exact h
        · exact b e (by omega)
    · rw [if_pos (Or.inl (by rw [a]; decide))]
      exact Or.inr ⟨rfl, e, by omega, b2⟩
theorem besF_sp {low : Nat} {sm : Int32} : ∀ k, (besF A pr N low sm k = 0 ∧ ∀ e, e < k → ¬ canR A pr N low sm e) ∨ ∃ y, besF A pr N low sm k = y + 1 ∧ y < k ∧ canR A pr N low sm y ∧ ∀ e, e < k → canR A pr N low sm e → N y ≤ N e
  | 0 => Or.inl ⟨rfl, fun e h => by omega⟩
  | k + 1 => by
    rw [besF]
    rcases besF_sp k with ⟨a, b⟩ | ⟨y, a, b1, b2, b3⟩
    · by_cases h : canR A pr N low sm k
      · rw [if_pos ⟨h, Or.inl a⟩]
        refine Or.inr ⟨k, rfl, by omega, h, fun e he hc => ?_⟩
        by_cases hek : e = k
        · rw [hek]
          exact Nat.le_refl _
        · exact absurd hc (b e (by omega))
      · rw [if_neg (fun z => h z.1)]
        refine Or.inl ⟨a, fun e he => ?_⟩
        by_cases hek : e = k
        · rw [hek]
          exact h
        · exact b e (by omega)
    · rw [a, Nat.add_sub_cancel]
      by_cases h : canR A pr N low sm k ∧ (y + 1 = 0 ∨ N k < N y)
      · rw [if_pos h]
        refine Or.inr ⟨k, rfl, by omega, h.1, fun e he hc => ?_⟩
        by_cases hek : e = k
        · rw [hek]
          exact Nat.le_refl _
        · have := b3 e (by omega) hc
          omega
      · rw [if_neg h]
        refine Or.inr ⟨y, rfl, by omega, b2, fun e he hc => ?_⟩
        by_cases hek : e = k
        · subst hek
          have : ¬ N e < N y := fun z => h ⟨hc, Or.inr z⟩
          omega
        · exact b3 e (by omega) hc
def goR (A : Nat → Nat → Int32) (pr N : Nat → Nat) (c n : Nat) : Nat := if lowF A pr N c n = 0 then 0 else besF A pr N (lowF A pr N c n) (somF A pr N (lowF A pr N c n) n) n
theorem goR_vic {es : List Nat} (hp : PrOk A pr n) (hc : c < n) (hN : es.Pairwise (fun a b => N a < N b)) (hes : ∀ x ∈ es, x < n) (hz : ∀ i, i < n → (N i = 0 ↔ i ∉ es)) : (vicF A c none es = none ∧ goR A pr N c n = 0) ∨ ∃ y, vicF A c none es = some y ∧ goR A pr N c n = y + 1 := by
  have hst : ∀ e, e < n → (0 < N e ↔ e ∈ es) := fun e he => by
    have := hz e he
    by_cases h : e ∈ es
    · have h2 : N e ≠ 0 := fun z => (this.mp z) h
      exact ⟨fun _ => h, fun _ => by omega⟩
    · have h2 := this.mpr h
      exact ⟨fun z => by omega, fun z => absurd z h⟩
  have hmay : ∀ e, e < n → (mayR A pr N c e ↔ e ∈ es ∧ 2 * pr c + 1 ≤ kyE A pr e) := fun e he => by
    unfold mayR
    rw [hst e he]
    refine and_congr_right (fun _ => ?_)
    by_cases hf : nfE A e
    · rw [ky_t hf]
      constructor
      · rintro (z | z) <;> omega
      · intro z
        by_cases h : pr c < pr e
        · exact Or.inl h
        · exact Or.inr ⟨by omega, hf⟩
    · rw [ky_f hf]
      constructor
      · rintro (z | z)
        · omega
        · exact absurd z.2 hf
      · intro z
        exact Or.inl (by omega)
  obtain ⟨l1, l2⟩ := lowF_sp (A := A) (N := N) (c := c) (fun i hi => (hp i hi).2.1) n (Nat.le_refl _)
  have hv := vicF_best (N := N) hp hc es [] none (by rw [List.nil_append]; exact hN) (by rw [List.nil_append]; exact hes) (Or.inl ⟨rfl, fun x hx => by cases hx⟩)
  rw [List.nil_append] at hv
  rcases hv with ⟨v1, v2⟩ | ⟨y0, v1, v2⟩
  · refine Or.inl ⟨v1, ?_⟩
    have h0 : lowF A pr N c n = 0 := by
      rcases l2 with h | ⟨e, e1, e2, e3⟩
      · exact h
      · have := (hmay e e1).mp e2
        exact absurd this.2 (v2 e this.1)
    rw [goR, if_pos h0]
  · have hy0 : y0 < n := hes y0 v2.1
    have hm0 := (hmay y0 hy0).mpr ⟨v2.1, v2.2.1⟩
    have hlow := l1 y0 hy0 hm0
    have hpy0 := (hp y0 hy0).2.1
    have h0 : ¬ lowF A pr N c n = 0 := by omega
    obtain ⟨e0, e1, e2, e3⟩ := l2.resolve_left h0
    rw [goR, if_neg h0]
    refine Or.inr ⟨y0, v1, ?_⟩
    generalize lowF A pr N c n = low at *
    have hsm := somF_sp (A := A) (pr := pr) (N := N) (low := low) n
    generalize somF A pr N low n = sm at *
    rcases besF_sp (A := A) (pr := pr) (N := N) (low := low) (sm := sm) n with ⟨b1, b2⟩ | ⟨y, b1, b2, b3, b4⟩
    · refine absurd ?_ (b2 e0 e1)
      rcases hsm with ⟨s1, s2⟩ | ⟨s1, e, s2, s3⟩
      · exact ⟨e2.1, e3, Or.inl s1⟩
      · exact absurd ⟨s3.1, s3.2.1, Or.inr s3.2.2⟩ (b2 e s2)
    · rw [b1]
      congr 1
      have hyes := (hst y b2).mp b3.1
      refine BestV.uniq hN ⟨hyes, ?_, fun x hx hx2 => ?_⟩ v2
      · refine ((hmay y b2).mp ⟨b3.1, ?_⟩).2
        rcases e2.2 with h | h
        · exact Or.inl (by have := b3.2.1; omega)
        · refine Or.inr ⟨by have := b3.2.1; omega, b3.2.2.elim (fun z => ?_) id⟩
          rcases hsm with ⟨s1, s2⟩ | ⟨s1, -⟩
          · exact absurd ⟨e2.1, e3, h.2⟩ (s2 e0 e1)
          · exact absurd (z.symm.trans s1) (by decide)
      · have hxn := hes x hx
        have hxl := l1 x hxn ((hmay x hxn).mpr ⟨hx, hx2⟩)
        have hNx := (hst x hxn).mpr hx
        have hy2 := b3.2.1
        by_cases hxp : pr x = low
        · by_cases hf : nfE A x
          · have hs1 : ¬ sm = 0 := by
              rcases hsm with ⟨s1, s2⟩ | ⟨s1, -⟩
              · exact absurd ⟨hNx, hxp, hf⟩ (s2 x hxn)
              · rw [s1]; decide
            have hfy : nfE A y := b3.2.2.resolve_left hs1
            rw [ky_t hf, ky_t hfy]
            exact Or.inr ⟨by omega, b4 x hxn ⟨hNx, hxp, Or.inr hf⟩⟩
          · by_cases hfy : nfE A y
            · rw [ky_f hf, ky_t hfy]
              exact Or.inl (by omega)
            · have hs0 : sm = 0 := b3.2.2.resolve_right hfy
              rw [ky_f hf, ky_f hfy]
              exact Or.inr ⟨by omega, b4 x hxn ⟨hNx, hxp, Or.inl hs0⟩⟩
        · left
          have k1 : kyE A pr x ≤ 2 * pr x + 1 := by
            by_cases hf : nfE A x
            · rw [ky_t hf]
              omega
            · rw [ky_f hf]
              omega
          have k2 : 2 * pr y ≤ kyE A pr y := by
            by_cases hf : nfE A y
            · rw [ky_t hf]
              omega
            · rw [ky_f hf]
              omega
          omega
end BEST
end
section
/-! THE REFERENCE: entries, goes, shoot -/
theorem RS.st {R : Int32} {q : Nat} {fa : Nat → Nat → Int32} {s : Nat → Int32} {σ : Md} (hs : RS R q fa s σ) : RSe q fa s (d_e σ) := hs.2.2.2.2.2.1
theorem cnP_cnI {f : Nat → Int32} {N : Nat → Nat} {es : List Nat} : ∀ n, n ≤ 200 → (∀ i, i < 200 → f (i + 1) = nI (N i) ∧ N i < 2 ^ 31 ∧ (N i = 0 ↔ i ∉ es)) → cnP f n = cnI es n
  | 0, _, _ => rfl
  | n + 1, hn, h => by
    obtain ⟨h1, h2, h3⟩ := h n (by omega)
    rw [cnP, cnI, cnP_cnI n (by omega) h, h1]
    by_cases hm : n ∈ es
    · have h0 : 0 < N n := Nat.pos_of_ne_zero (fun z => h3.mp z hm)
      rw [if_neg (nI_nle h0 h2), if_pos hm]
    · rw [h3.mpr hm, if_pos (by decide), if_neg hm]
theorem RS.cnt {R : Int32} {q : Nat} {fa : Nat → Nat → Int32} {s : Nat → Int32} {σ : Md} (hs : RS R q fa s σ) (hq : q < 100000) (hd : (e_c σ).Nodup) (hl : ∀ x ∈ e_c σ, x < d_n σ) : cnP (fa 13) (d_n σ) = (e_c σ).length := by
  obtain ⟨N, la, -, h2, h3, -⟩ := hs.st
  rw [cnP_cnI (N := N) (es := e_c σ) (d_n σ) hs.1 (fun i hi => ⟨(h3 i hi).1, by have := (h3 i hi).2.1; omega, (h3 i hi).2.2⟩), cnI_len _ hd hl]
theorem r_entriesX {G : px_G} {d m : Nat} {R : Int32} {q : Nat} {aa : Nat → Nat} {ws : va_W} {fa : Nat → Nat → Int32} {s : Nat → Int32} {σ : Md} (hr : RH G ws m aa fa s) (hs : RS R q fa s σ) (hq : q < 100000) (hd : (e_c σ).Nodup) (hl : ∀ x ∈ e_c σ, x < d_n σ) : px G m_Rf_entries 0 (lv_args 0 [.ref m]) [] ws d 0 0 (fun v w => v = some (.int (nI (e_c σ).length)) ∧ w = ws) := by
  have h := r_entries (d := d) hr hs.1 hs.s2
  rw [hs.cnt hq hd hl] at h
  exact h
set_option maxHeartbeats 4000000 in
theorem r_low_loop {G : px_G} {d m : Nat} {R : Int32} {q : Nat} {aa : Nat → Nat} {ws : va_W} {fa : Nat → Nat → Int32} {s : Nat → Int32} {σ : Md} (hr : RH G ws m aa fa s) (hs : RS R q fa s σ) {N pr : Nat → Nat} (hN : ∀ i, i < 200 → fa 13 (i + 1) = nI (N i) ∧ N i < 2 ^ 31) (hpr : PrOk (d_A σ) pr (d_n σ)) {i : Nat} (hi : i < d_n σ) {Q : Option Value → va_W → Prop} : ∀ (k e : Nat) (x2 x3 : Int32), e + k = d_n σ → x3 = nI (e + 1) → x2 = nI (lowF (d_A σ) pr N i e) → (∀ x3 x2, x2 = nI (lowF (d_A σ) pr N i (d_n σ)) → px G m_Rf_goes 99 [(3, .int x3), (2, .int x2), (0, .ref m), (1, .int (nI (i + 1)))] [] ws (d + 1) 0 0 Q) → px G m_Rf_goes 4 [(3, .int x3), (2, .int x2), (0, .ref m), (1, .int (nI (i + 1)))] [] ws (d + 1) 0 0 Q := by
  have hn := hs.1
  intro k
  induction k with
  | zero =>
    intro e x2 x3 hek h3 h2 hK
    subst h3
    have hen : e = d_n σ := by omega
    rw [hen] at h2
    refine p_s rfl rfl ?_
    refine p_s rfl rfl ?_
    refine p_get rfl f_Rf_73 hr.1 rfl ?_
    rw [hs.s2]
    refine p_icmpT rfl (show nI (d_n σ) < nI (e + 1) from nI_lt (by omega) (by omega)) ?_
    exact hK _ _ h2
  | succ k ih =>
    intro e x2 x3 hek h3 h2 hK
    subst h3
    subst h2
    have he : e < d_n σ := by omega
    obtain ⟨-, pe1, pe2⟩ := hpr e he
    obtain ⟨-, pc1, pc2⟩ := hpr i hi
    have hlow : lowF (d_A σ) pr N i e ≤ 255 := by
      rcases (lowF_sp (A := d_A σ) (N := N) (c := i) (fun j hj => (hpr j hj).2.1) e (by omega)).2 with h | ⟨e2, e3, -, e4⟩
      · omega
      · have := (hpr e2 (by omega)).2.2
        omega
    have H : ∀ y : Int32, y = (if mayR (d_A σ) pr N i e then 1 else 0) → px G m_Rf_goes 65 [(3, .int (nI (e + 1))), (2, .int (nI (lowF (d_A σ) pr N i e))), (0, .ref m), (1, .int (nI (i + 1)))] [.int y] ws (d + 1) 0 0 Q := by
      intro y hy
      refine p_s rfl rfl ?_
      refine p_s rfl rfl ?_
      refine p_if rfl (fun c => ?_) (fun c => ?_)
      · simp only [px_cmp] at c
        refine p_s rfl rfl ?_
        refine p_s rfl rfl ?_
        refine p_s rfl rfl ?_
        refine p_goto rfl ?_
        refine p_lv (lv2 := [(3, .int (nI (e + 1) + 1)), (2, .int _), (0, .ref m), (1, .int (nI (i + 1)))]) (ks := [0, 1, 3, 4]) rfl ?_
        exact ih (e + 1) _ _ (by omega) (nI_1 (e + 1)) (by rw [lowF, if_neg (fun z => by rw [if_pos z.1] at hy; rw [hy] at c; exact absurd c (by decide))]) hK
      · simp only [px_ncmp] at c
        refine p_s rfl rfl ?_
        refine p_get rfl f_Rf_7 hr.1 rfl ?_
        refine p_s rfl rfl ?_
        refine p_rld rfl hr hs (k := 0) (i := e) (by decide) rfl (hpr e he).1 he rfl ?_
        refine p_s rfl rfl ?_
        refine p_icmp rfl (fun c2 => ?_) (fun c2 => ?_)
        · simp only [px_cmp] at c2
          refine p_s rfl rfl ?_
          refine p_s rfl rfl ?_
          refine p_s rfl rfl ?_
          refine p_goto rfl ?_
          refine p_lv (lv2 := [(3, .int (nI (e + 1) + 1)), (2, .int _), (0, .ref m), (1, .int (nI (i + 1)))]) (ks := [0, 1, 3, 4]) rfl ?_
          exact ih (e + 1) _ _ (by omega) (nI_1 (e + 1)) (by rw [lowF, if_neg (fun z => by rw [nI_leI (by omega) (by omega)] at c2; omega)]) hK
        · simp only [px_ncmp] at c2
          refine p_s rfl rfl ?_
          refine p_get rfl f_Rf_7 hr.1 rfl ?_
          refine p_s rfl rfl ?_
          refine p_rld rfl hr hs (k := 0) (i := e) (by decide) rfl (hpr e he).1 he rfl ?_
          refine p_goto rfl ?_
          refine p_s rfl rfl ?_
          refine p_s rfl rfl ?_
          refine p_goto rfl ?_
          refine p_lv (lv2 := [(3, .int (nI (e + 1) + 1)), (2, .int _), (0, .ref m), (1, .int (nI (i + 1)))]) (ks := [0, 1, 3, 4]) rfl ?_
          exact ih (e + 1) _ _ (by omega) (nI_1 (e + 1)) (by rw [lowF, if_pos ⟨Classical.byContradiction (fun z => c (by rw [hy, if_neg z])), by rw [nI_leI (by omega) (by omega)] at c2; omega⟩]) hK
    refine p_s rfl rfl ?_
    refine p_s rfl rfl ?_
    refine p_get rfl f_Rf_73 hr.1 rfl ?_
    rw [hs.s2]
    refine p_icmpF rfl (show ¬ nI (d_n σ) < nI (e + 1) from nI_nlt (by omega) (by omega)) ?_
    refine p_s rfl rfl ?_
    refine p_get rfl f_Rf_50 hr.1 rfl ?_
    refine p_s rfl rfl ?_
    refine p_ialdS rfl (hr.2.1 13 (by decide)) rfl (show e + 1 < 201 by omega) (by decide) ?_
    rw [(hN e (by omega)).1]
    refine p_if rfl (fun c => ?_) (fun c => ?_)
    · simp only [px_cmp] at c
      refine p_s rfl rfl ?_
      exact H 0 (by rw [if_neg (fun z => nI_nle z.1 (hN e (by omega)).2 c)])
    · simp only [px_ncmp] at c
      refine p_s rfl rfl ?_
      refine p_get rfl f_Rf_7 hr.1 rfl ?_
      refine p_s rfl rfl ?_
      refine p_rld rfl hr hs (k := 0) (i := e) (by decide) rfl (hpr e he).1 he rfl ?_
      refine p_s rfl rfl ?_
      refine p_get rfl f_Rf_7 hr.1 rfl ?_
      refine p_s rfl rfl ?_
      refine p_rld rfl hr hs (k := 0) (i := i) (by decide) rfl (hpr i hi).1 hi rfl ?_
      refine p_icmp rfl (fun c1 => ?_) (fun c1 => ?_)
      · simp only [px_cmp] at c1
        refine p_s rfl rfl ?_
        refine p_goto rfl ?_
        exact H 1 (by rw [if_pos (by rw [nI_ltI (by omega) (by omega)] at c1; exact ⟨Nat.pos_of_ne_zero (fun z => c (by rw [z]; decide)), Or.inl c1⟩)])
      · simp only [px_ncmp] at c1
        refine p_s rfl rfl ?_
        refine p_get rfl f_Rf_7 hr.1 rfl ?_
        refine p_s rfl rfl ?_
        refine p_rld rfl hr hs (k := 0) (i := e) (by decide) rfl (hpr e he).1 he rfl ?_
        refine p_s rfl rfl ?_
        refine p_get rfl f_Rf_7 hr.1 rfl ?_
        refine p_s rfl rfl ?_
        refine p_rld rfl hr hs (k := 0) (i := i) (by decide) rfl (hpr i hi).1 hi rfl ?_
        refine p_icmp rfl (fun c2 => ?_) (fun c2 => ?_)
        · simp only [px_cmp] at c2
          refine p_s rfl rfl ?_
          exact H 0 (by rw [if_neg (fun z => by rw [nI_ltI (by omega) (by omega)] at c1; exact c2 (by rw [show pr e = pr i by have := z.2; omega]))])
        · simp only [px_ncmp] at c2
          refine p_s rfl rfl ?_
          refine p_s rfl rfl ?_
          refine p_s rfl rfl ?_
          refine p_callV rfl c_Rf_76 rfl hr.1 g_Rf_is rfl rfl rfl (p_le (by omega) (Nat.le_refl _) (Nat.le_refl _) (r_isX (d := d) (b := 0) hr hs he (by decide) rfl)) (fun v w hq => ?_)
          obtain ⟨rfl, hw9⟩ := hq
          have hw9 := hw9.symm
          subst hw9
          refine p_if rfl (fun c3 => ?_) (fun c3 => ?_)
          · simp only [px_cmp] at c3
            refine p_s rfl rfl ?_
            exact H 0 (by rw [if_neg (fun z => by rw [nI_ltI (by omega) (by omega)] at c1; exact z.2.elim c1 (fun k => c3 k.2))])
          · simp only [px_ncmp] at c3
            refine p_s rfl rfl ?_
            refine p_goto rfl ?_
            exact H 1 (by rw [if_pos (by rw [nI_eq (by omega) (by omega)] at c2; exact ⟨Nat.pos_of_ne_zero (fun z => c (by rw [z]; decide)), Or.inr ⟨c2, c3⟩⟩)])
set_option maxHeartbeats 4000000 in
theorem r_som_loop {G : px_G} {d m : Nat} {R : Int32} {q : Nat} {aa : Nat → Nat} {ws : va_W} {fa : Nat → Nat → Int32} {s : Nat → Int32} {σ : Md} (hr : RH G ws m aa fa s) (hs : RS R q fa s σ) {N pr : Nat → Nat} (hN : ∀ i, i < 200 → fa 13 (i + 1) = nI (N i) ∧ N i < 2 ^ 31) (hpr : PrOk (d_A σ) pr (d_n σ)) {low : Nat} (hlow : low ≤ 255) {y1 : Int32} {Q : Option Value → va_W → Prop} : ∀ (k e : Nat) (x3 x4 : Int32), e + k = d_n σ → x4 = nI (e + 1) → x3 = somF (d_A σ) pr N low e → (∀ x4 x3, x3 = somF (d_A σ) pr N low (d_n σ) → px G m_Rf_goes 160 [(4, .int x4), (3, .int x3), (2, .int (nI low)), (0, .ref m), (1, .int y1)] [] ws (d + 1) 0 0 Q) → px G m_Rf_goes 104 [(4, .int x4), (3, .int x3), (2, .int (nI low)), (0, .ref m), (1, .int y1)] [] ws (d + 1) 0 0 Q := by
  have hn := hs.1
  intro k
  induction k with
  | zero =>
    intro e x3 x4 hek h4 h3 hK
    subst h4
    have hen : e = d_n σ := by omega
    rw [hen] at h3
    refine p_s rfl rfl ?_
    refine p_s rfl rfl ?_
    refine p_get rfl f_Rf_73 hr.1 rfl ?_
    rw [hs.s2]
    refine p_icmpT rfl (show nI (d_n σ) < nI (e + 1) from nI_lt (by omega) (by omega)) ?_
    exact hK _ _ h3
  | succ k ih =>
    intro e x3 x4 hek h4 h3 hK
    subst h4
    subst h3
    have he : e < d_n σ := by omega
    obtain ⟨-, pe1, pe2⟩ := hpr e he
    have H : ∀ y : Int32, y = somF (d_A σ) pr N low (e + 1) → px G m_Rf_goes 153 [(4, .int (nI (e + 1))), (3, .int (somF (d_A σ) pr N low e)), (2, .int (nI low)), (0, .ref m), (1, .int y1)] [.int y] ws (d + 1) 0 0 Q := by
      intro y hy
      refine p_s rfl rfl ?_
      refine p_s rfl rfl ?_
      refine p_goto rfl ?_
      exact ih (e + 1) _ _ (by omega) (nI_1 (e + 1)) hy hK
    refine p_s rfl rfl ?_
    refine p_s rfl rfl ?_
    refine p_get rfl f_Rf_73 hr.1 rfl ?_
    rw [hs.s2]
    refine p_icmpF rfl (show ¬ nI (d_n σ) < nI (e + 1) from nI_nlt (by omega) (by omega)) ?_
    refine p_s rfl rfl ?_
    refine p_if rfl (fun c => ?_) (fun c => ?_)
    · simp only [px_cmp] at c
      refine p_s rfl rfl ?_
      refine p_goto rfl ?_
      exact H 1 (by rw [somF, if_pos (Or.inl c)])
    · simp only [px_ncmp] at c
      refine p_s rfl rfl ?_
      refine p_get rfl f_Rf_50 hr.1 rfl ?_
      refine p_s rfl rfl ?_
      refine p_ialdS rfl (hr.2.1 13 (by decide)) rfl (show e + 1 < 201 by omega) (by decide) ?_
      rw [(hN e (by omega)).1]
      refine p_if rfl (fun c1 => ?_) (fun c1 => ?_)
      · simp only [px_cmp] at c1
        refine p_s rfl rfl ?_
        exact H 0 (by rw [somF, if_neg (fun z => z.elim (fun w => w c) (fun w => nI_nle w.1 (hN e (by omega)).2 c1))])
      · simp only [px_ncmp] at c1
        refine p_s rfl rfl ?_
        refine p_get rfl f_Rf_7 hr.1 rfl ?_
        refine p_s rfl rfl ?_
        refine p_rld rfl hr hs (k := 0) (i := e) (by decide) rfl (hpr e he).1 he rfl ?_
        refine p_s rfl rfl ?_
        refine p_icmp rfl (fun c2 => ?_) (fun c2 => ?_)
        · simp only [px_cmp] at c2
          refine p_s rfl rfl ?_
          exact H 0 (by rw [somF, if_neg (fun z => z.elim (fun w => w c) (fun w => c2 (by rw [w.2.1])))])
        · simp only [px_ncmp] at c2
          refine p_s rfl rfl ?_
          refine p_s rfl rfl ?_
          refine p_s rfl rfl ?_
          refine p_callV rfl c_Rf_76 rfl hr.1 g_Rf_is rfl rfl rfl (p_le (by omega) (Nat.le_refl _) (Nat.le_refl _) (r_isX (d := d) (b := 0) hr hs he (by decide) rfl)) (fun v w hq => ?_)
          obtain ⟨rfl, hw9⟩ := hq
          have hw9 := hw9.symm
          subst hw9
          refine p_if rfl (fun c3 => ?_) (fun c3 => ?_)
          · simp only [px_cmp] at c3
            refine p_s rfl rfl ?_
            exact H 0 (by rw [somF, if_neg (fun z => z.elim (fun w => w c) (fun w => c3 w.2.2))])
          · simp only [px_ncmp] at c3
            refine p_s rfl rfl ?_
            refine p_goto rfl ?_
            exact H 1 (by rw [somF, if_pos (by rw [nI_eq (by omega) (by omega)] at c2; exact Or.inr ⟨Nat.pos_of_ne_zero (fun z => c1 (by rw [z]; decide)), c2, c3⟩)])
set_option maxHeartbeats 4000000 in
theorem r_bes_loop {G : px_G} {d m : Nat} {R : Int32} {q : Nat} {aa : Nat → Nat} {ws : va_W} {fa : Nat → Nat → Int32} {s : Nat → Int32} {σ : Md} (hr : RH G ws m aa fa s) (hs : RS R q fa s σ) {N pr : Nat → Nat} (hN : ∀ i, i < 200 → fa 13 (i + 1) = nI (N i) ∧ N i < 2 ^ 31) (hpr : PrOk (d_A σ) pr (d_n σ)) {low : Nat} (hlow : low ≤ 255) (hl0 : 0 < low) {sm y1 : Int32} {Q : Option Value → va_W → Prop} (hQ : Q (some (.int (nI (besF (d_A σ) pr N low sm (d_n σ))))) ws) : ∀ (k e : Nat) (x4 x5 : Int32), e + k = d_n σ → x5 = nI (e + 1) → x4 = nI (besF (d_A σ) pr N low sm e) → px G m_Rf_goes 166 [(5, .int x5), (4, .int x4), (3, .int sm), (2, .int (nI low)), (0, .ref m), (1, .int y1)] [] ws (d + 1) 0 0 Q := by
  have hn := hs.1
  intro k
  induction k with
  | zero =>
    intro e x4 x5 hek h5 h4
    subst h5
    subst h4
    have hen : e = d_n σ := by omega
    refine p_s rfl rfl ?_
    refine p_s rfl rfl ?_
    refine p_get rfl f_Rf_73 hr.1 rfl ?_
    rw [hs.s2]
    refine p_icmpT rfl (show nI (d_n σ) < nI (e + 1) from nI_lt (by omega) (by omega)) ?_
    refine p_s rfl rfl ?_
    exact p_iret rfl rfl rfl (by rw [hen]; exact hQ)
  | succ k ih =>
    intro e x4 x5 hek h5 h4
    subst h5
    subst h4
    have he : e < d_n σ := by omega
    obtain ⟨-, pe1, pe2⟩ := hpr e he
    have hb : besF (d_A σ) pr N low sm e = 0 ∨ ∃ y, besF (d_A σ) pr N low sm e = y + 1 ∧ y < e := by
      rcases besF_sp (A := d_A σ) (pr := pr) (N := N) (low := low) (sm := sm) e with ⟨a, -⟩ | ⟨y, a, b, -⟩
      · exact Or.inl a
      · exact Or.inr ⟨y, a, b⟩
    have H : ∀ y : Int32, y = (if canR (d_A σ) pr N low sm e then 1 else 0) → px G m_Rf_goes 219 [(5, .int (nI (e + 1))), (4, .int (nI (besF (d_A σ) pr N low sm e))), (3, .int sm), (2, .int (nI low)), (0, .ref m), (1, .int y1)] [.int y] ws (d + 1) 0 0 Q := by
      intro y hy
      refine p_s rfl rfl ?_
      refine p_s rfl rfl ?_
      refine p_if rfl (fun c => ?_) (fun c => ?_)
      · simp only [px_cmp] at c
        refine p_s rfl rfl ?_
        refine p_s rfl rfl ?_
        refine p_s rfl rfl ?_
        refine p_goto rfl ?_
        refine p_lv (lv2 := [(5, .int (nI (e + 1) + 1)), (4, .int _), (3, .int sm), (2, .int (nI low)), (0, .ref m), (1, .int y1)]) (ks := [0, 1, 3, 4, 5, 6]) rfl ?_
        exact ih (e + 1) _ _ (by omega) (nI_1 (e + 1)) (by rw [besF, if_neg (fun z => by rw [if_pos z.1] at hy; rw [hy] at c; exact absurd c (by decide))])
      · simp only [px_ncmp] at c
        refine p_s rfl rfl ?_
        refine p_if rfl (fun c1 => ?_) (fun c1 => ?_)
        · simp only [px_cmp] at c1
          refine p_s rfl rfl ?_
          refine p_goto rfl ?_
          refine p_s rfl rfl ?_
          refine p_s rfl rfl ?_
          refine p_goto rfl ?_
          refine p_lv (lv2 := [(5, .int (nI (e + 1) + 1)), (4, .int _), (3, .int sm), (2, .int (nI low)), (0, .ref m), (1, .int y1)]) (ks := [0, 1, 3, 4, 5, 6]) rfl ?_
          exact ih (e + 1) _ _ (by omega) (nI_1 (e + 1)) (by rw [besF, if_pos ⟨Classical.byContradiction (fun z => c (by rw [hy, if_neg z])), Or.inl (hb.elim id (fun ⟨y2, e1, e2⟩ => absurd c1 (by rw [e1]; exact nI_ne0 (Nat.succ_pos y2) (by omega))))⟩])
        · simp only [px_ncmp] at c1
          obtain ⟨y2, e1, e2⟩ := hb.resolve_left (fun z => c1 (by rw [z]; rfl))
          refine p_s rfl rfl ?_
          refine p_get rfl f_Rf_50 hr.1 rfl ?_
          refine p_s rfl rfl ?_
          refine p_ialdS rfl (hr.2.1 13 (by decide)) rfl (show e + 1 < 201 by omega) (by decide) ?_
          rw [(hN e (by omega)).1]
          refine p_s rfl rfl ?_
          refine p_get rfl f_Rf_50 hr.1 rfl ?_
          refine p_s rfl rfl ?_
          refine p_ialdS rfl (hr.2.1 13 (by decide)) (congrArg nI e1) (show y2 + 1 < 201 by omega) (by decide) ?_
          rw [(hN y2 (by omega)).1]
          refine p_icmp rfl (fun c2 => ?_) (fun c2 => ?_)
          · simp only [px_cmp] at c2
            refine p_s rfl rfl ?_
            refine p_s rfl rfl ?_
            refine p_s rfl rfl ?_
            refine p_goto rfl ?_
            refine p_lv (lv2 := [(5, .int (nI (e + 1) + 1)), (4, .int _), (3, .int sm), (2, .int (nI low)), (0, .ref m), (1, .int y1)]) (ks := [0, 1, 3, 4, 5, 6]) rfl ?_
            exact ih (e + 1) _ _ (by omega) (nI_1 (e + 1)) (by rw [besF, if_neg (fun z => by rw [nI_leI (hN y2 (by omega)).2 (hN e (by omega)).2] at c2; have w := z.2; rw [e1, Nat.add_sub_cancel] at w; omega)])
          · simp only [px_ncmp] at c2
            refine p_s rfl rfl ?_
            refine p_goto rfl ?_
            refine p_s rfl rfl ?_
            refine p_s rfl rfl ?_
            refine p_goto rfl ?_
            refine p_lv (lv2 := [(5, .int (nI (e + 1) + 1)), (4, .int _), (3, .int sm), (2, .int (nI low)), (0, .ref m), (1, .int y1)]) (ks := [0, 1, 3, 4, 5, 6]) rfl ?_
            exact ih (e + 1) _ _ (by omega) (nI_1 (e + 1)) (by rw [besF, if_pos ⟨Classical.byContradiction (fun z => c (by rw [hy, if_neg z])), by rw [nI_leI (hN y2 (by omega)).2 (hN e (by omega)).2] at c2; rw [e1, Nat.add_sub_cancel]; omega⟩])
    refine p_s rfl rfl ?_
    refine p_s rfl rfl ?_
    refine p_get rfl f_Rf_73 hr.1 rfl ?_
    rw [hs.s2]
    refine p_icmpF rfl (show ¬ nI (d_n σ) < nI (e + 1) from nI_nlt (by omega) (by omega)) ?_
    refine p_s rfl rfl ?_
    refine p_ifF rfl (nI_nle hl0 (by omega)) ?_
    refine p_s rfl rfl ?_
    refine p_get rfl f_Rf_50 hr.1 rfl ?_
    refine p_s rfl rfl ?_
    refine p_ialdS rfl (hr.2.1 13 (by decide)) rfl (show e + 1 < 201 by omega) (by decide) ?_
    rw [(hN e (by omega)).1]
    refine p_if rfl (fun c => ?_) (fun c => ?_)
    · simp only [px_cmp] at c
      refine p_s rfl rfl ?_
      exact H 0 (by rw [if_neg (fun z => nI_nle z.1 (hN e (by omega)).2 c)])
    · simp only [px_ncmp] at c
      refine p_s rfl rfl ?_
      refine p_get rfl f_Rf_7 hr.1 rfl ?_
      refine p_s rfl rfl ?_
      refine p_rld rfl hr hs (k := 0) (i := e) (by decide) rfl (hpr e he).1 he rfl ?_
      refine p_s rfl rfl ?_
      refine p_icmp rfl (fun c1 => ?_) (fun c1 => ?_)
      · simp only [px_cmp] at c1
        refine p_s rfl rfl ?_
        exact H 0 (by rw [if_neg (fun z => c1 (by rw [z.2.1]))])
      · simp only [px_ncmp] at c1
        rw [nI_eq (by omega) (by omega)] at c1
        refine p_s rfl rfl ?_
        refine p_if rfl (fun c2 => ?_) (fun c2 => ?_)
        · simp only [px_cmp] at c2
          refine p_s rfl rfl ?_
          refine p_goto rfl ?_
          exact H 1 (by rw [if_pos (⟨Nat.pos_of_ne_zero (fun z => c (by rw [z]; decide)), c1, Or.inl c2⟩)])
        · simp only [px_ncmp] at c2
          refine p_s rfl rfl ?_
          refine p_s rfl rfl ?_
          refine p_s rfl rfl ?_
          refine p_callV rfl c_Rf_76 rfl hr.1 g_Rf_is rfl rfl rfl (p_le (by omega) (Nat.le_refl _) (Nat.le_refl _) (r_isX (d := d) (b := 0) hr hs he (by decide) rfl)) (fun v w hq => ?_)
          obtain ⟨rfl, hw9⟩ := hq
          have hw9 := hw9.symm
          subst hw9
          refine p_if rfl (fun c3 => ?_) (fun c3 => ?_)
          · simp only [px_cmp] at c3
            refine p_s rfl rfl ?_
            exact H 0 (by rw [if_neg (fun z => z.2.2.elim c2 c3)])
          · simp only [px_ncmp] at c3
            refine p_s rfl rfl ?_
            refine p_goto rfl ?_
            exact H 1 (by rw [if_pos (⟨Nat.pos_of_ne_zero (fun z => c (by rw [z]; decide)), c1, Or.inr c3⟩)])
set_option maxHeartbeats 4000000 in
theorem r_goes {G : px_G} {d m : Nat} {R : Int32} {q : Nat} {aa : Nat → Nat} {ws : va_W} {fa : Nat → Nat → Int32} {s : Nat → Int32} {σ : Md} (hr : RH G ws m aa fa s) (hs : RS R q fa s σ) {N pr : Nat → Nat} (hN : ∀ i, i < 200 → fa 13 (i + 1) = nI (N i) ∧ N i < 2 ^ 31) (hpr : PrOk (d_A σ) pr (d_n σ)) {i : Nat} (hi : i < d_n σ) : px G m_Rf_goes 0 (lv_args 0 [.ref m, .int (nI (i + 1))]) [] ws (d + 1) 0 0 (fun v w => v = some (.int (nI (goR (d_A σ) pr N i (d_n σ)))) ∧ w = ws) := by
  have hn := hs.1
  refine p_s rfl rfl ?_
  refine p_s rfl rfl ?_
  refine p_s rfl rfl ?_
  refine p_s rfl rfl ?_
  refine r_low_loop hr hs hN hpr hi (d_n σ) 0 _ _ (by omega) rfl rfl (fun x3 x2 h2 => ?_)
  subst h2
  have hlow : lowF (d_A σ) pr N i (d_n σ) ≤ 255 := by
    rcases (lowF_sp (A := d_A σ) (N := N) (c := i) (fun j hj => (hpr j hj).2.1) (d_n σ) (Nat.le_refl _)).2 with h | ⟨e2, e3, -, e4⟩
    · omega
    · have := (hpr e2 (by omega)).2.2
      omega
  refine p_s rfl rfl ?_
  refine p_s rfl rfl ?_
  refine p_s rfl rfl ?_
  refine p_s rfl rfl ?_
  refine r_som_loop hr hs hN hpr hlow (d_n σ) 0 _ _ (by omega) rfl rfl (fun x4 x3 h3 => ?_)
  subst h3
  refine p_s rfl rfl ?_
  refine p_s rfl rfl ?_
  refine p_s rfl rfl ?_
  refine p_s rfl rfl ?_
  refine p_lv (lv2 := [(5, .int 1), (4, .int 0), (3, .int (somF (d_A σ) pr N (lowF (d_A σ) pr N i (d_n σ)) (d_n σ))), (2, .int (nI (lowF (d_A σ) pr N i (d_n σ)))), (0, .ref m), (1, .int (nI (i + 1)))]) (ks := [0, 1, 2, 3, 4, 5]) rfl ?_
  by_cases hl0 : lowF (d_A σ) pr N i (d_n σ) = 0
  · rw [hl0]
    refine p_s rfl rfl ?_
    refine p_s rfl rfl ?_
    refine p_get rfl f_Rf_73 hr.1 rfl ?_
    rw [hs.s2]
    refine p_icmp rfl (fun c => ?_) (fun c => ?_)
    · simp only [px_cmp] at c
      refine p_s rfl rfl ?_
      exact p_iret rfl rfl rfl ⟨by rw [goR, if_pos hl0]; rfl, rfl⟩
    · simp only [px_ncmp] at c
      refine p_s rfl rfl ?_
      refine p_ifT rfl (show nI 0 ≤ (0 : Int32) by decide) ?_
      refine p_s rfl rfl ?_
      exact p_iret rfl rfl rfl ⟨by rw [goR, if_pos hl0]; rfl, rfl⟩
  · exact r_bes_loop hr hs hN hpr hlow (by omega) ⟨by rw [goR, if_neg hl0], rfl⟩ (d_n σ) 0 _ _ (by omega) rfl rfl
end
section
/-! THE REFERENCE: shoot, store -/
section RHW
variable {G : px_G} {M : px_M} {pc nx d bc bs : Nat} {tg : List Nat} {z : Int32} {lv : List (Nat × Value)} {st : List Value} {ws ws0 : va_W} {Q : Option Value → va_W → Prop}
variable {R : Int32} {q m : Nat} {aa : Nat → Nat} {fa : Nat → Nat → Int32} {s : Nat → Int32}
theorem p_hst {k n i : Nat} {j x y : Int32} (ha : px_at M pc = some (.iastore, nx, tg, z)) (hr : RH G ws m aa fa s) (h0 : px_kp Kc ws0 ws) (hk : k < 18) (hc : ∀ f, rcell G k f = oIA G n f) (hz : ¬ (k = 5 ∨ k = 9 ∨ k = 17)) (hx : x = y) (hj : j = nI i) (hi : i < n) (hn : n < 2 ^ 31) (kk : ∀ ws, RH G ws m aa (upF fa k i y) s → px_kp Kc ws0 ws → px G M nx lv st ws d bc bs Q) : px G M pc lv (.int x :: .int j :: .ref (aa k) :: st) ws d bc bs Q := by
  have hcl := hr.2.1 k hk
  have hp := hr.put (k := k) (i := i) (v := y) hk (fun w => absurd w hz)
  have hkp := hr.kp (k := k) (e := rcell G k (upd (fa k) i y)) hk
  rw [hc] at hcl hp hkp
  subst hx
  exact p_iastS ha hcl hj hi hn (kk _ hp (h0.tr hkp))
theorem p_hld {k n i : Nat} {j x : Int32} (ha : px_at M pc = some (.iaload, nx, tg, z)) (hr : RH G ws m aa fa s) (hk : k < 18) (hc : ∀ f, rcell G k f = oIA G n f) (hx : fa k i = x) (hj : j = nI i) (hi : i < n) (hn : n < 2 ^ 31) (kk : px G M nx lv (.int x :: st) ws d bc bs Q) : px G M pc lv (.int j :: .ref (aa k) :: st) ws d bc bs Q := by
  have hcl := hr.2.1 k hk
  rw [hc] at hcl
  subst hx
  exact p_ialdS ha hcl hj hi hn kk
theorem p_hput {idx kf k : Nat} {x y : Int32} {ty : FieldType} (ha : px_at M pc = some (.putfield idx, nx, tg, z)) (hF : px_Fp (px_y M).cls idx 7 kf ty) (hr : RH G ws m aa fa s) (h0 : px_kp Kc ws0 ws) (hx : x = y) (hn : narrow ty (.int y) = .int y) (hf : fits ty (.int y) = true) (hkl : kf < 26) (hset : (oRl aa s).set kf (.int y) = oRl aa (upS s k y)) (kk : ∀ ws, RH G ws m aa fa (upS s k y) → px_kp Kc ws0 ws → px G M nx lv st ws d bc bs Q) : px G M pc lv (.int x :: .ref m :: st) ws d bc bs Q := by
  subst hx
  refine p_put (fs := oRl aa s) ha hF hr.1 hn hf hkl ?_
  rw [hset]
  exact kk _ (hr.sc (upS s k x)) (h0.tr hr.kps)
theorem r_manyV (hr : RH G ws m aa fa s) {n : Nat} (hn : n ≤ 200) (hs : s 2 = nI n) {v : Int32} (hv : nI (cnR (fun c => fa 5 (8 * c + 0)) n) = v) : px G m_Rf_many 0 (lv_args 0 [.ref m, .int (nI 0)]) [] ws (d + 1) 0 0 (fun v2 w => v2 = some (.int v) ∧ w = ws) := by
  subst hv
  exact r_many hr (b := 0) (by decide) hn hs
end RHW
def shF (fa : Nat → Nat → Int32) (p : Nat) (F : Sn4) : Nat → Nat → Int32 := upF (upF (upF (upF fa 15 p F.1) 15 (p + 1) F.2.1) 15 (p + 2) F.2.2.1) 15 (p + 3) F.2.2.2
theorem shF_ne {fa : Nat → Nat → Int32} {p : Nat} {F : Sn4} {k : Nat} (h : k ≠ 15) : shF fa p F k = fa k := by
  unfold shF
  rw [upF_ne h, upF_ne h, upF_ne h, upF_ne h]
theorem shF_in {fa : Nat → Nat → Int32} {p : Nat} {F : Sn4} {j : Nat} (h : j < 4) : shF fa p F 15 (p + j) = snK F j := by
  unfold shF
  rw [upF_at, upF_at, upF_at, upF_at]
  rcases (show j = 0 ∨ j = 1 ∨ j = 2 ∨ j = 3 by omega) with rfl | rfl | rfl | rfl
  · rw [if_neg (by omega), if_neg (by omega), if_neg (by omega), if_pos (by omega)]; rfl
  · rw [if_neg (by omega), if_neg (by omega), if_pos (by omega)]; rfl
  · rw [if_neg (by omega), if_pos (by omega)]; rfl
  · rw [if_pos (by omega)]; rfl
theorem shF_out {fa : Nat → Nat → Int32} {p : Nat} {F : Sn4} {j : Nat} (h : j < p ∨ p + 4 ≤ j) : shF fa p F 15 j = fa 15 j := by
  unfold shF
  rw [upF_at, upF_at, upF_at, upF_at, if_neg (by omega), if_neg (by omega), if_neg (by omega), if_neg (by omega)]
set_option maxHeartbeats 4000000 in
theorem r_shoot {G : px_G} {ws0 : va_W} {d m : Nat} {aa : Nat → Nat} {ws : va_W} {fa : Nat → Nat → Int32} {s : Nat → Int32} (hr : RH G ws m aa fa s) (hk : px_kp Kc ws0 ws) {c w n : Nat} (hc : c ≤ 200) (hw : w ≤ 1) (hn : n ≤ 200) (hs2 : s 2 = nI n) {F : Sn4} (h6 : s 6 = F.1) (h7 : s 7 = F.2.1) (h2 : nI (cnR (fun c => fa 5 (8 * c + 0)) n) = F.2.2.1) (h3 : fa 1 c = F.2.2.2) : px G m_Rf_shoot 0 (lv_args 0 [.ref m, .int (nI c), .int (nI w)]) [] ws (d + 2) 0 0 (fun v w2 => v = none ∧ RH G w2 m aa (shF fa (8 * c + 4 * w) F) s ∧ px_kp Kc ws0 w2) := by
  have hat : (8 : Int32) * nI c + 4 * nI w = nI (8 * c + 4 * w) := by rw [show (8 : Int32) = nI 8 from rfl, show (4 : Int32) = nI 4 from rfl, pk_mul, pk_mul, nI_add]
  refine p_s rfl rfl ?_
  refine p_s rfl rfl ?_
  refine p_s rfl rfl ?_
  refine p_s rfl rfl ?_
  refine p_s rfl rfl ?_
  refine p_s rfl rfl ?_
  refine p_s rfl rfl ?_
  refine p_s rfl rfl ?_
  refine p_s rfl rfl ?_
  refine p_get rfl f_Rf_56 hr.1 rfl ?_
  refine p_s rfl rfl ?_
  refine p_s rfl rfl ?_
  refine p_get rfl f_Rf_95 hr.1 rfl ?_
  refine p_hst (k := 15) (n := 1608) rfl hr hk (by decide) (fun _ => rfl) (by decide) h6 hat (show 8 * c + 4 * w < 1608 by omega) (by decide) (fun ws hr hk => ?_)
  refine p_s rfl rfl ?_
  refine p_get rfl f_Rf_56 hr.1 rfl ?_
  refine p_s rfl rfl ?_
  refine p_s rfl rfl ?_
  refine p_s rfl rfl ?_
  refine p_s rfl rfl ?_
  refine p_get rfl f_Rf_98 hr.1 rfl ?_
  refine p_hst (k := 15) (n := 1608) rfl hr hk (by decide) (fun _ => rfl) (by decide) h7 ((congrArg (· + 1) hat).trans (nI_1 _)) (show 8 * c + 4 * w + 1 < 1608 by omega) (by decide) (fun ws hr hk => ?_)
  refine p_s rfl rfl ?_
  refine p_get rfl f_Rf_56 hr.1 rfl ?_
  refine p_s rfl rfl ?_
  refine p_s rfl rfl ?_
  refine p_s rfl rfl ?_
  refine p_s rfl rfl ?_
  refine p_s rfl rfl ?_
  refine p_callV rfl c_Rf_101 rfl hr.1 g_Rf_many rfl rfl rfl (p_le (by omega) (Nat.le_refl _) (Nat.le_refl _) (r_manyV (d := d) (v := F.2.2.1) hr hn hs2 h2)) (fun v w hq => ?_)
  obtain ⟨rfl, hw9⟩ := hq
  have hw9 := hw9.symm
  subst hw9
  refine p_hst (k := 15) (n := 1608) rfl hr hk (by decide) (fun _ => rfl) (by decide) rfl ((congrArg (· + 2) hat).trans (nI_add _ 2)) (show 8 * c + 4 * w + 2 < 1608 by omega) (by decide) (fun ws hr hk => ?_)
  refine p_s rfl rfl ?_
  refine p_get rfl f_Rf_56 hr.1 rfl ?_
  refine p_s rfl rfl ?_
  refine p_s rfl rfl ?_
  refine p_s rfl rfl ?_
  refine p_s rfl rfl ?_
  refine p_get rfl f_Rf_13 hr.1 rfl ?_
  refine p_s rfl rfl ?_
  refine p_hld (k := 1) (n := 201) rfl hr (by decide) (fun _ => rfl) h3 rfl (by omega) (by decide) ?_
  refine p_hst (k := 15) (n := 1608) rfl hr hk (by decide) (fun _ => rfl) (by decide) rfl ((congrArg (· + 3) hat).trans (nI_add _ 3)) (show 8 * c + 4 * w + 3 < 1608 by omega) (by decide) (fun ws hr hk => ?_)
  exact p_vret rfl rfl ⟨rfl, hr, hk⟩
def upN (N : Nat → Nat) (x v : Nat) : Nat → Nat := fun i => if i = x then v else N i
theorem upN_s {N : Nat → Nat} {x v i : Nat} (h : i = x) : upN N x v i = v := if_pos h
theorem upN_n {N : Nat → Nat} {x v i : Nat} (h : ¬ i = x) : upN N x v i = N i := if_neg h
section RSM
variable {R : Int32} {q q2 : Nat} {fa fa2 : Nat → Nat → Int32} {s s2 : Nat → Int32} {σ : Md}
/-- only the memory has changed -/
theorem RS.mem (h : RS R q fa s σ) {es : List En4} {ds : List Nat} (hf : ∀ k, k ≠ 13 → k ≠ 14 → k ≠ 15 → k ≠ 16 → fa2 k = fa k) (hs : ∀ k, k ≠ 3 → k ≠ 4 → s2 k = s k) (he : RSe q2 fa2 s2 es) (hd : RSd fa2 s2 ds) : RS R q2 fa2 s2 (d_n σ, d_A σ, d_p σ, es, ds, d_g σ) := by
  obtain ⟨h0, ha, hb, hr, hp, -, -, ho, hsc⟩ := h
  refine ⟨h0, fun c hc j hj => ?_, fun j hj b hb2 => ?_, hr, ?_, he, hd, ?_, ?_⟩
  · rw [hf c (by omega) (by omega) (by omega) (by omega)]
    exact ha c hc j hj
  · rw [hf 5 (by omega) (by omega) (by omega) (by omega), hf 9 (by omega) (by omega) (by omega) (by omega)]
    exact hb j hj b hb2
  · unfold RSp
    rw [hf 3 (by omega) (by omega) (by omega) (by omega)]
    exact hp
  · unfold RSo
    rw [hf 17 (by omega) (by omega) (by omega) (by omega)]
    exact ho
  · unfold RSs
    rw [hs 1 (by omega) (by omega), hs 2 (by omega) (by omega), hs 5 (by omega) (by omega), hs 6 (by omega) (by omega), hs 7 (by omega) (by omega)]
    exact hsc
theorem RS.dd (h : RS R q fa s σ) : RSd fa s (d_d σ) := h.2.2.2.2.2.2.1
theorem RS.mono (h : RS R q fa s σ) (hq : q ≤ q2) : RS R q2 fa s σ := by
  obtain ⟨N, la, a1, a2, a3⟩ := h.st
  exact h.mem (fun _ _ _ _ _ => rfl) (fun _ _ _ => rfl) ⟨N, la, a1, by omega, a3⟩ h.dd
theorem pw_cong {N N2 : Nat → Nat} : ∀ l : List Nat, (∀ x ∈ l, N2 x = N x) → l.Pairwise (fun a b => N a < N b) → l.Pairwise (fun a b => N2 a < N2 b)
  | [], _, _ => List.Pairwise.nil
  | x :: t, h, hp => by
    obtain ⟨h1, h2⟩ := List.pairwise_cons.mp hp
    refine List.pairwise_cons.mpr ⟨fun b hb => ?_, pw_cong t (fun y hy => h y (List.mem_cons_of_mem _ hy)) h2⟩
    rw [h x List.mem_cons_self, h b (List.mem_cons_of_mem _ hb)]
    exact h1 b hb
theorem RS.drp (h : RS R q fa s σ) {x : Nat} (hx : x < 200) : RS R q (upF fa 13 (x + 1) 0) s (stE σ (dropE (d_e σ) x)) := by
  obtain ⟨N, la, a1, a2, a3, a4, a5⟩ := h.st
  refine h.mem (fun k h1 _ _ _ => upF_ne h1) (fun _ _ _ => rfl) ⟨upN N x 0, la, a1, a2, fun i hi => ?_, ?_, fun y hy => ?_⟩ ?_
  · obtain ⟨b1, b2, b3⟩ := a3 i hi
    rw [upF_at]
    by_cases hix : i = x
    · rw [if_pos (by omega), upN_s hix]
      exact ⟨rfl, Nat.zero_le _, fun _ z => (dropE_codes.mp z).2 hix, fun _ => rfl⟩
    · rw [if_neg (by omega), upN_n hix]
      refine ⟨b1, b2, fun z w => b3.mp z (dropE_codes.mp w).1, fun z => b3.mpr (fun w => z (dropE_codes.mpr ⟨w, hix⟩))⟩
  · refine pw_cong _ (fun y hy => upN_n (dropE_codes.mp hy).2) ?_
    unfold dropE
    exact List.Pairwise.sublist (List.Sublist.map _ List.filter_sublist) a4
  · have hy2 := dropE_mem.mp hy
    rw [upF_ne (c := 14) (by omega), upF_ne (c := 15) (by omega)]
    exact a5 y hy2.1
  · unfold RSd
    rw [upF_ne (c := 16) (by omega)]
    exact h.dd
theorem RS.dsp (h : RS R q fa s σ) {x : Nat} : RS R q (upF fa 16 (d_d σ).length (nI (x + 1))) (upS s 4 (nI ((d_d σ).length + 1))) (stD σ (d_d σ ++ [x])) := by
  obtain ⟨N, la, a1, a2, a3, a4, a5⟩ := h.st
  refine h.mem (fun k _ _ _ h1 => upF_ne h1) (fun k _ h1 => if_neg h1) ⟨N, la, a1, a2, ?_, a4, ?_⟩ ⟨?_, fun k c hk => ?_⟩
  · rw [upF_ne (c := 13) (by omega)]
    exact a3
  · rw [upF_ne (c := 14) (by omega), upF_ne (c := 15) (by omega)]
    exact a5
  · rw [List.length_append]
    rfl
  · rw [upF_at]
    by_cases hl : k = (d_d σ).length
    · rw [if_pos hl]
      rw [hl, List.getElem?_append_right (Nat.le_refl _), Nat.sub_self] at hk
      cases hk
      rfl
    · rw [if_neg hl]
      have hkl : k < (d_d σ).length := by
        have := (List.getElem?_eq_some_iff.mp hk).1
        rw [List.length_append, List.length_singleton] at this
        omega
      rw [List.getElem?_append_left hkl] at hk
      exact h.dd.2 k c hk
theorem RS.new (h : RS R q fa s σ) {i la : Nat} {F : Sn4} (hi : i < 200) (hm : i ∉ e_c σ) (hen : ∀ x ∈ e_c σ, x < d_n σ) (hla : s 3 = nI la) (hq : q < 100000) : RS R (q + 1) (shF (shF (upF (upF fa 13 (i + 1) (nI (la + 1))) 14 (i + 1) 1) (8 * (i + 1) + 4 * 0) F) (8 * (i + 1) + 4 * 1) F) (upS s 3 (nI (la + 1))) (stE σ (d_e σ ++ [(i, 1, F, F)])) := by
  obtain ⟨N, l2, a1, a2, a3, a4, a5⟩ := h.st
  have hlb : la < 2 ^ 31 → l2 = la := fun hl => by
    rw [hla, nI_eq hl (by omega)] at a1
    exact a1.symm
  have e13 : ∀ j, shF (shF (upF (upF fa 13 (i + 1) (nI (la + 1))) 14 (i + 1) 1) (8 * (i + 1) + 4 * 0) F) (8 * (i + 1) + 4 * 1) F 13 j = if j = i + 1 then nI (la + 1) else fa 13 j := fun j => by rw [shF_ne (by omega), shF_ne (by omega), upF_ne (c := 13) (k := 14) (by omega), upF_at]
  have e14 : ∀ j, shF (shF (upF (upF fa 13 (i + 1) (nI (la + 1))) 14 (i + 1) 1) (8 * (i + 1) + 4 * 0) F) (8 * (i + 1) + 4 * 1) F 14 j = if j = i + 1 then 1 else fa 14 j := fun j => by rw [shF_ne (by omega), shF_ne (by omega), upF_at, upF_ne (c := 14) (k := 13) (by omega)]
  have hnl : nI (la + 1) = nI (l2 + 1) := by rw [← nI_1, ← nI_1, ← hla, a1]
  refine h.mem (fun k h1 h2 h3 h4 => by rw [shF_ne h3, shF_ne h3, upF_ne h2, upF_ne h1]) (fun k h1 _ => if_neg h1) ⟨upN N i (l2 + 1), l2 + 1, hnl, by omega, fun j hj => ?_, ?_, fun x hx => ?_⟩ ?_
  · obtain ⟨b1, b2, b3⟩ := a3 j hj
    rw [e13, List.map_append]
    by_cases hji : j = i
    · rw [if_pos (by omega), upN_s hji]
      exact ⟨hnl, Nat.le_refl _, fun z => by omega, fun z => absurd (List.mem_append_right _ (by rw [hji]; exact List.mem_cons_self)) z⟩
    · rw [if_neg (by omega), upN_n hji]
      refine ⟨b1, by omega, fun z w => ?_, fun z => b3.mpr (fun w => z (List.mem_append_left _ w))⟩
      rcases List.mem_append.mp w with w | w
      · exact b3.mp z w
      · exact hji (List.mem_singleton.mp w)
  · rw [List.map_append]
    refine List.pairwise_append.mpr ⟨pw_cong _ (fun x hx => upN_n (fun z => hm (z ▸ hx))) a4, List.pairwise_singleton _ _, fun a ha b hb => ?_⟩
    rw [List.mem_singleton.mp hb, upN_s rfl, upN_n (fun z : a = i => hm (z ▸ ha))]
    have h200 := hen a ha
    have h201 := h.1
    have := (a3 a (by omega)).2.1
    omega
  · rw [e14]
    rcases List.mem_append.mp hx with hx | hx
    · have hxi : x.1 ≠ i := fun z => hm (List.mem_map.mpr ⟨x, hx, z⟩)
      rw [if_neg (by omega)]
      obtain ⟨b1, b2⟩ := a5 x hx
      refine ⟨b1, fun j hj => ?_⟩
      rw [shF_out (by omega), shF_out (by omega), shF_out (by omega), shF_out (by omega), upF_ne (c := 15) (by omega), upF_ne (c := 15) (by omega)]
      exact b2 j hj
    · rw [List.mem_singleton.mp hx, if_pos rfl]
      refine ⟨rfl, fun j hj => ⟨?_, ?_⟩⟩
      · rw [shF_out (by omega), show 8 * (i + 1) + j = 8 * (i + 1) + 4 * 0 + j by omega, shF_in hj]
      · rw [show 8 * (i + 1) + 4 + j = 8 * (i + 1) + 4 * 1 + j by omega, shF_in hj]
  · unfold RSd
    rw [shF_ne (by omega), shF_ne (by omega), upF_ne (c := 16) (by omega), upF_ne (c := 16) (by omega)]
    exact h.dd
theorem RS.hap (h : RS R q fa s σ) {i : Nat} {F : Sn4} : RS R q (shF (upF fa 14 (i + 1) (mn255 (fa 14 (i + 1) + 1))) (8 * (i + 1) + 4 * 1) F) s (stE σ (hapE (d_e σ) i F)) := by
  obtain ⟨N, la, a1, a2, a3, a4, a5⟩ := h.st
  refine h.mem (fun k h1 h2 h3 h4 => by rw [shF_ne h3, upF_ne h2]) (fun k _ _ => rfl) ⟨N, la, a1, a2, fun j hj => ?_, ?_, fun x hx => ?_⟩ ?_
  · rw [shF_ne (by omega), upF_ne (c := 13) (by omega), hapE_codes]
    exact a3 j hj
  · rw [hapE_codes]
    exact a4
  · obtain ⟨y, hy, rfl⟩ := List.mem_map.mp hx
    obtain ⟨b1, b2⟩ := a5 y hy
    rw [shF_ne (k := 14) (by omega), upF_at]
    by_cases hyi : y.1 = i
    · rw [if_pos hyi]
      refine ⟨?_, fun j hj => ⟨?_, ?_⟩⟩
      · show (if y.1 + 1 = i + 1 then _ else _) = _
        rw [if_pos (by omega), ← hyi, b1]
      · show shF _ _ _ 15 (8 * (y.1 + 1) + j) = _
        rw [shF_out (by omega), upF_ne (c := 15) (by omega)]
        exact (b2 j hj).1
      · show shF _ _ _ 15 (8 * (y.1 + 1) + 4 + j) = _
        rw [show 8 * (y.1 + 1) + 4 + j = 8 * (i + 1) + 4 * 1 + j by omega, shF_in hj]
    · rw [if_neg hyi, if_neg (by omega)]
      refine ⟨b1, fun j hj => ?_⟩
      rw [shF_out (by omega), shF_out (by omega), upF_ne (c := 15) (by omega)]
      exact b2 j hj
  · unfold RSd
    rw [shF_ne (by omega), upF_ne (c := 16) (by omega)]
    exact h.dd
theorem RS.scn (h : RS R q fa s σ) {i : Nat} : nI (cnR (fun c => fa 5 (8 * c + 0)) (d_n σ)) = (snapOf σ i).2.2.1 := by
  rw [cnR_cntB (A := d_A σ) (b := 0) (d_n σ) (fun i hi => h.b hi (by decide))]
  rfl
theorem RS.up (h : RS R q fa s σ) {i : Nat} (hi : i < d_n σ) : fa 1 (i + 1) = (snapOf σ i).2.2.2 := h.2.1 1 (by decide) i hi
end RSM
theorem hap1 : ∀ k, k ≤ 255 → nI k < 255 → nI k + 1 = mn255 (nI k + 1) := by decide +kernel
theorem hap2 : ∀ k, k ≤ 255 → ¬ nI k < 255 → 255 = mn255 (nI k + 1) := by decide +kernel
set_option maxHeartbeats 4000000 in
theorem r_store_new {G : px_G} {ws0 : va_W} {d m : Nat} {R : Int32} {q : Nat} {aa : Nat → Nat} {ws : va_W} {fa : Nat → Nat → Int32} {s : Nat → Int32} {σ : Md} (hr : RH G ws m aa fa s) (hs : RS R q fa s σ) (hk : px_kp Kc ws0 ws) (hq : q < 100000) {i : Nat} (hi : i < d_n σ) (hm : i ∉ e_c σ) (hen : ∀ x ∈ e_c σ, x < d_n σ) : px G m_Rf_store 107 [(0, .ref m), (1, .int (nI (i + 1)))] [] ws (d + 3) 0 0 (fun v w => v = none ∧ RX G R (q + 1) ws0 w m aa (stE σ (d_e σ ++ [(i, 1, snapOf σ i, snapOf σ i)]))) := by
  have hn := hs.1
  obtain ⟨N, la, hla, -⟩ := hs.st
  refine p_s rfl rfl ?_
  refine p_s rfl rfl ?_
  refine p_get rfl f_Rf_119 hr.1 rfl ?_
  rw [hla]
  refine p_s rfl rfl ?_
  refine p_s rfl rfl ?_
  refine p_hput (k := 3) (y := nI (la + 1)) rfl fp_Rf_119 hr hk (nI_1 la) rfl rfl (by decide) rfl (fun ws hr hk => ?_)
  refine p_s rfl rfl ?_
  refine p_get rfl f_Rf_50 hr.1 rfl ?_
  refine p_s rfl rfl ?_
  refine p_s rfl rfl ?_
  refine p_get rfl f_Rf_119 hr.1 rfl ?_
  refine p_hst (k := 13) (n := 201) rfl hr hk (by decide) (fun _ => rfl) (by decide) rfl rfl (show i + 1 < 201 by omega) (by decide) (fun ws hr hk => ?_)
  refine p_s rfl rfl ?_
  refine p_get rfl f_Rf_53 hr.1 rfl ?_
  refine p_s rfl rfl ?_
  refine p_s rfl rfl ?_
  refine p_hst (k := 14) (n := 201) rfl hr hk (by decide) (fun _ => rfl) (by decide) rfl rfl (show i + 1 < 201 by omega) (by decide) (fun ws hr hk => ?_)
  refine p_s rfl rfl ?_
  refine p_s rfl rfl ?_
  refine p_s rfl rfl ?_
  refine p_callV rfl c_Rf_105 rfl hr.1 g_Rf_shoot rfl rfl rfl (p_le (by omega) (Nat.le_refl _) (Nat.le_refl _) (r_shoot (d := d) (c := i + 1) (w := 0) (n := d_n σ) (F := snapOf σ i) hr hk (by omega) (by decide) hn hs.s2 hs.s6 hs.s7 (hs.scn (i := i)) (hs.up hi))) (fun v w hq => ?_)
  obtain ⟨rfl, hr, hk⟩ := hq
  refine p_s rfl rfl ?_
  refine p_s rfl rfl ?_
  refine p_s rfl rfl ?_
  refine p_callV rfl c_Rf_105 rfl hr.1 g_Rf_shoot rfl rfl rfl (p_le (by omega) (Nat.le_refl _) (Nat.le_refl _) (r_shoot (d := d) (c := i + 1) (w := 1) (n := d_n σ) (F := snapOf σ i) hr hk (by omega) (by decide) hn hs.s2 hs.s6 hs.s7 (hs.scn (i := i)) (hs.up hi))) (fun v w hq => ?_)
  obtain ⟨rfl, hr, hk⟩ := hq
  exact p_vret rfl rfl ⟨rfl, _, _, hr, hs.new (by omega) hm hen hla hq, hk⟩
set_option maxHeartbeats 4000000 in
theorem r_store {G : px_G} {ws0 : va_W} {d m : Nat} {R : Int32} {q : Nat} {aa : Nat → Nat} {ws : va_W} {fa : Nat → Nat → Int32} {s : Nat → Int32} {σ : Md} (hr : RH G ws m aa fa s) (hs : RS R q fa s σ) (hk : px_kp Kc ws0 ws) {pr : Nat → Nat} (hpr : PrOk (d_A σ) pr (d_n σ)) (hW : Wf σ) (hhp : ∀ x ∈ d_e σ, ∃ k, k ≤ 255 ∧ x.2.1 = nI k) (hq : q < 100000) {i : Nat} (hi : i < d_n σ) : px G m_Rf_store 0 (lv_args 0 [.ref m, .int (nI (i + 1))]) [] ws (d + 3) 0 0 (fun v w => v = none ∧ RX G R (q + 1) ws0 w m aa (storeM R σ i (snapOf σ i))) := by
  have hn := hs.1
  obtain ⟨w1, w2, w3, w4, w5, w6, w7⟩ := id hW
  obtain ⟨N, la, a1, a2, a3, a4, a5⟩ := hs.st
  have hNl : ∀ j, j < 200 → N j < 2 ^ 31 := fun j hj => by have := (a3 j hj).2.1; omega
  have hN : ∀ j, j < 200 → fa 13 (j + 1) = nI (N j) ∧ N j < 2 ^ 31 := fun j hj => ⟨(a3 j hj).1, hNl j hj⟩
  by_cases hm : i ∈ e_c σ
  · obtain ⟨x, hx, hxi⟩ := List.mem_map.mp hm
    obtain ⟨k, hk1, hk2⟩ := hhp x hx
    have hx14 : fa 14 (i + 1) = nI k := by rw [← hxi, (a5 x hx).1, hk2]
    have hN0 : 0 < N i := Nat.pos_of_ne_zero (fun z => (a3 i (by omega)).2.2.mp z hm)
    have hs2 := hs.hap (i := i) (F := snapOf σ i)
    rw [hx14] at hs2
    refine p_s rfl rfl ?_
    refine p_get rfl f_Rf_50 hr.1 rfl ?_
    refine p_s rfl rfl ?_
    refine p_ialdS rfl (hr.2.1 13 (by decide)) rfl (show i + 1 < 201 by omega) (by decide) ?_
    rw [(a3 i (by omega)).1]
    refine p_ifF rfl (nI_nle hN0 (hNl i (by omega))) ?_
    refine p_s rfl rfl ?_
    refine p_get rfl f_Rf_53 hr.1 rfl ?_
    refine p_s rfl rfl ?_
    refine p_s rfl rfl ?_
    refine p_get rfl f_Rf_53 hr.1 rfl ?_
    refine p_s rfl rfl ?_
    refine p_hld (k := 14) (n := 201) rfl hr (by decide) (fun _ => rfl) hx14 rfl (show i + 1 < 201 by omega) (by decide) ?_
    refine p_s rfl rfl ?_
    refine p_icmp rfl (fun c => ?_) (fun c => ?_)
    · simp only [px_cmp] at c
      refine p_s rfl rfl ?_
      refine p_hst (k := 14) (n := 201) (y := mn255 (nI k + 1)) rfl hr hk (by decide) (fun _ => rfl) (by decide) (hap2 k hk1 (Int32.not_lt.mpr c)) rfl (show i + 1 < 201 by omega) (by decide) (fun ws hr hk => ?_)
      refine p_s rfl rfl ?_
      refine p_s rfl rfl ?_
      refine p_s rfl rfl ?_
      refine p_callV rfl c_Rf_105 rfl hr.1 g_Rf_shoot rfl rfl rfl (p_le (by omega) (Nat.le_refl _) (Nat.le_refl _) (r_shoot (d := d) (c := i + 1) (w := 1) (n := d_n σ) (F := snapOf σ i) hr hk (by omega) (by decide) hn hs.s2 hs.s6 hs.s7 (hs.scn (i := i)) (hs.up hi))) (fun v w hq => ?_)
      obtain ⟨rfl, hr, hk⟩ := hq
      exact p_vret rfl rfl ⟨rfl, _, _, hr, by rw [storeM, if_pos hm]; exact hs2.mono (by omega), hk⟩
    · simp only [px_ncmp] at c
      refine p_s rfl rfl ?_
      refine p_get rfl f_Rf_53 hr.1 rfl ?_
      refine p_s rfl rfl ?_
      refine p_hld (k := 14) (n := 201) rfl hr (by decide) (fun _ => rfl) hx14 rfl (show i + 1 < 201 by omega) (by decide) ?_
      refine p_s rfl rfl ?_
      refine p_s rfl rfl ?_
      refine p_goto rfl ?_
      refine p_hst (k := 14) (n := 201) (y := mn255 (nI k + 1)) rfl hr hk (by decide) (fun _ => rfl) (by decide) (hap1 k hk1 (Int32.not_le.mp c)) rfl (show i + 1 < 201 by omega) (by decide) (fun ws hr hk => ?_)
      refine p_s rfl rfl ?_
      refine p_s rfl rfl ?_
      refine p_s rfl rfl ?_
      refine p_callV rfl c_Rf_105 rfl hr.1 g_Rf_shoot rfl rfl rfl (p_le (by omega) (Nat.le_refl _) (Nat.le_refl _) (r_shoot (d := d) (c := i + 1) (w := 1) (n := d_n σ) (F := snapOf σ i) hr hk (by omega) (by decide) hn hs.s2 hs.s6 hs.s7 (hs.scn (i := i)) (hs.up hi))) (fun v w hq => ?_)
      obtain ⟨rfl, hr, hk⟩ := hq
      exact p_vret rfl rfl ⟨rfl, _, _, hr, by rw [storeM, if_pos hm]; exact hs2.mono (by omega), hk⟩
  · have hN0 : N i = 0 := (a3 i (by omega)).2.2.mpr hm
    by_cases hroom : nI (e_c σ).length < R
    · skip
      refine p_s rfl rfl ?_
      refine p_get rfl f_Rf_50 hr.1 rfl ?_
      refine p_s rfl rfl ?_
      refine p_ialdS rfl (hr.2.1 13 (by decide)) rfl (show i + 1 < 201 by omega) (by decide) ?_
      rw [(a3 i (by omega)).1]
      refine p_ifT rfl (show nI (N i) ≤ 0 by rw [hN0]; decide) ?_
      refine p_s rfl rfl ?_
      refine p_callV rfl c_Rf_109 rfl hr.1 g_Rf_entries rfl rfl rfl (p_le (by omega) (Nat.le_refl _) (Nat.le_refl _) (r_entriesX (d := d) hr hs hq w5 w3)) (fun v w hq => ?_)
      obtain ⟨rfl, hw9⟩ := hq
      have hw9 := hw9.symm
      subst hw9
      refine p_s rfl rfl ?_
      refine p_get rfl f_Rf_66 hr.1 rfl ?_
      rw [hs.s1]
      refine p_icmpT rfl hroom ?_
      refine p_post (fun v w hq2 => ⟨hq2.1, ?_⟩) (r_store_new hr hs hk hq hi hm w3)
      rw [storeM, if_neg hm, if_pos hroom]
      exact hq2.2
    · have hgo := goR_vic (A := d_A σ) (pr := pr) (N := N) hpr hi a4 w3 (fun j hj => (a3 j (by omega)).2.2)
      rcases hgo with ⟨v1, v2⟩ | ⟨x, v1, v2⟩
      · skip
        refine p_s rfl rfl ?_
        refine p_get rfl f_Rf_50 hr.1 rfl ?_
        refine p_s rfl rfl ?_
        refine p_ialdS rfl (hr.2.1 13 (by decide)) rfl (show i + 1 < 201 by omega) (by decide) ?_
        rw [(a3 i (by omega)).1]
        refine p_ifT rfl (show nI (N i) ≤ 0 by rw [hN0]; decide) ?_
        refine p_s rfl rfl ?_
        refine p_callV rfl c_Rf_109 rfl hr.1 g_Rf_entries rfl rfl rfl (p_le (by omega) (Nat.le_refl _) (Nat.le_refl _) (r_entriesX (d := d) hr hs hq w5 w3)) (fun v w hq => ?_)
        obtain ⟨rfl, hw9⟩ := hq
        have hw9 := hw9.symm
        subst hw9
        refine p_s rfl rfl ?_
        refine p_get rfl f_Rf_66 hr.1 rfl ?_
        rw [hs.s1]
        refine p_icmpF rfl hroom ?_
        refine p_s rfl rfl ?_
        refine p_s rfl rfl ?_
        refine p_callV rfl c_Rf_113 rfl hr.1 g_Rf_goes rfl rfl rfl (p_le (by omega) (Nat.le_refl _) (Nat.le_refl _) (r_goes (d := d) hr hs hN hpr hi)) (fun v w hq => ?_)
        obtain ⟨rfl, hw9⟩ := hq
        have hw9 := hw9.symm
        subst hw9
        rw [v2]
        refine p_s rfl rfl ?_
        refine p_s rfl rfl ?_
        refine p_ifF rfl (show nI 0 = 0 from rfl) ?_
        exact p_vret rfl rfl ⟨rfl, _, _, hr, by rw [storeM, if_neg hm, if_neg hroom, v1]; exact hs.mono (by omega), hk⟩
      · have hxm : x ∈ e_c σ := by
          rcases vicF_mem _ _ _ v1 with z | z
          · cases z
          · exact z
        have hxn := w3 x hxm
        have hm2 : i ∉ (dropE (d_e σ) x).map (fun y => y.1) := fun z => hm (dropE_codes.mp z).1
        have hen2 : ∀ y ∈ (dropE (d_e σ) x).map (fun y => y.1), y < d_n σ := fun y hy => w3 y (dropE_codes.mp hy).1
        have hd4 : s 4 = nI (d_d σ).length := hs.dd.1
        have hs2 := hs.drp (x := x) (by omega)
        have hs3 : RS R q _ _ _ := hs2.dsp (x := x)
        by_cases hl : (d_d σ).length < 500
        · skip
          refine p_s rfl rfl ?_
          refine p_get rfl f_Rf_50 hr.1 rfl ?_
          refine p_s rfl rfl ?_
          refine p_ialdS rfl (hr.2.1 13 (by decide)) rfl (show i + 1 < 201 by omega) (by decide) ?_
          rw [(a3 i (by omega)).1]
          refine p_ifT rfl (show nI (N i) ≤ 0 by rw [hN0]; decide) ?_
          refine p_s rfl rfl ?_
          refine p_callV rfl c_Rf_109 rfl hr.1 g_Rf_entries rfl rfl rfl (p_le (by omega) (Nat.le_refl _) (Nat.le_refl _) (r_entriesX (d := d) hr hs hq w5 w3)) (fun v w hq => ?_)
          obtain ⟨rfl, hw9⟩ := hq
          have hw9 := hw9.symm
          subst hw9
          refine p_s rfl rfl ?_
          refine p_get rfl f_Rf_66 hr.1 rfl ?_
          rw [hs.s1]
          refine p_icmpF rfl hroom ?_
          refine p_s rfl rfl ?_
          refine p_s rfl rfl ?_
          refine p_callV rfl c_Rf_113 rfl hr.1 g_Rf_goes rfl rfl rfl (p_le (by omega) (Nat.le_refl _) (Nat.le_refl _) (r_goes (d := d) hr hs hN hpr hi)) (fun v w hq => ?_)
          obtain ⟨rfl, hw9⟩ := hq
          have hw9 := hw9.symm
          subst hw9
          rw [v2]
          refine p_s rfl rfl ?_
          refine p_s rfl rfl ?_
          refine p_ifT rfl (nI_ne0 (Nat.succ_pos x) (by omega)) ?_
          refine p_s rfl rfl ?_
          refine p_get rfl f_Rf_50 hr.1 rfl ?_
          refine p_s rfl rfl ?_
          refine p_s rfl rfl ?_
          refine p_hst (k := 13) (n := 201) rfl hr hk (by decide) (fun _ => rfl) (by decide) rfl rfl (show x + 1 < 201 by omega) (by decide) (fun ws hr hk => ?_)
          refine p_s rfl rfl ?_
          refine p_get rfl f_Rf_116 hr.1 rfl ?_
          rw [hd4]
          refine p_s rfl rfl ?_
          refine p_icmpF rfl (show ¬ (500 : Int32) ≤ nI (d_d σ).length from nI_ge (b := 500) hl (by decide)) ?_
          refine p_s rfl rfl ?_
          refine p_get rfl f_Rf_59 hr.1 rfl ?_
          refine p_s rfl rfl ?_
          refine p_get rfl f_Rf_116 hr.1 rfl ?_
          rw [hd4]
          refine p_s rfl rfl ?_
          refine p_hst (k := 16) (n := 500) rfl hr hk (by decide) (fun _ => rfl) (by decide) rfl rfl hl (by decide) (fun ws hr hk => ?_)
          refine p_s rfl rfl ?_
          refine p_s rfl rfl ?_
          refine p_get rfl f_Rf_116 hr.1 rfl ?_
          rw [hd4]
          refine p_s rfl rfl ?_
          refine p_s rfl rfl ?_
          refine p_hput (k := 4) (y := nI ((d_d σ).length + 1)) rfl fp_Rf_116 hr hk (nI_1 _) rfl rfl (by decide) rfl (fun ws hr hk => ?_)
          refine p_lv (lv2 := [(0, .ref m), (1, .int (nI (i + 1)))]) (ks := [1, 2]) rfl ?_
          refine p_post (fun v w hq2 => ⟨hq2.1, ?_⟩) (r_store_new (σ := stE (stD σ (dspA (d_d σ) x)) (dropE (d_e σ) x)) hr (by rw [show dspA (d_d σ) x = d_d σ ++ [x] from if_pos hl]; exact hs3) hk hq hi hm2 hen2)
          rw [storeM, if_neg hm, if_neg hroom, v1]
          exact hq2.2
        · skip
          refine p_s rfl rfl ?_
          refine p_get rfl f_Rf_50 hr.1 rfl ?_
          refine p_s rfl rfl ?_
          refine p_ialdS rfl (hr.2.1 13 (by decide)) rfl (show i + 1 < 201 by omega) (by decide) ?_
          rw [(a3 i (by omega)).1]
          refine p_ifT rfl (show nI (N i) ≤ 0 by rw [hN0]; decide) ?_
          refine p_s rfl rfl ?_
          refine p_callV rfl c_Rf_109 rfl hr.1 g_Rf_entries rfl rfl rfl (p_le (by omega) (Nat.le_refl _) (Nat.le_refl _) (r_entriesX (d := d) hr hs hq w5 w3)) (fun v w hq => ?_)
          obtain ⟨rfl, hw9⟩ := hq
          have hw9 := hw9.symm
          subst hw9
          refine p_s rfl rfl ?_
          refine p_get rfl f_Rf_66 hr.1 rfl ?_
          rw [hs.s1]
          refine p_icmpF rfl hroom ?_
          refine p_s rfl rfl ?_
          refine p_s rfl rfl ?_
          refine p_callV rfl c_Rf_113 rfl hr.1 g_Rf_goes rfl rfl rfl (p_le (by omega) (Nat.le_refl _) (Nat.le_refl _) (r_goes (d := d) hr hs hN hpr hi)) (fun v w hq => ?_)
          obtain ⟨rfl, hw9⟩ := hq
          have hw9 := hw9.symm
          subst hw9
          rw [v2]
          refine p_s rfl rfl ?_
          refine p_s rfl rfl ?_
          refine p_ifT rfl (nI_ne0 (Nat.succ_pos x) (by omega)) ?_
          refine p_s rfl rfl ?_
          refine p_get rfl f_Rf_50 hr.1 rfl ?_
          refine p_s rfl rfl ?_
          refine p_s rfl rfl ?_
          refine p_hst (k := 13) (n := 201) rfl hr hk (by decide) (fun _ => rfl) (by decide) rfl rfl (show x + 1 < 201 by omega) (by decide) (fun ws hr hk => ?_)
          refine p_s rfl rfl ?_
          refine p_get rfl f_Rf_116 hr.1 rfl ?_
          rw [hd4]
          refine p_s rfl rfl ?_
          refine p_icmpT rfl (show (500 : Int32) ≤ nI (d_d σ).length from nI_le (a := 500) (by omega) (by omega)) ?_
          refine p_lv (lv2 := [(0, .ref m), (1, .int (nI (i + 1)))]) (ks := [1, 2]) rfl ?_
          refine p_post (fun v w hq2 => ⟨hq2.1, ?_⟩) (r_store_new (σ := stE (stD σ (dspA (d_d σ) x)) (dropE (d_e σ) x)) hr (by rw [show dspA (d_d σ) x = d_d σ from if_neg hl]; exact hs2) hk hq hi hm2 hen2)
          rw [storeM, if_neg hm, if_neg hroom, v1]
          exact hq2.2
end
section
/-! THE REFERENCE: fails, event; the ranges that hold of every state -/
abbrev bdN (x : Int32) (a b : Nat) : Prop := ∃ k, a ≤ k ∧ k ≤ b ∧ x = nI k
abbrev bdZ (x : Int32) : Prop := -128 ≤ x.toInt ∧ x.toInt ≤ 127
def IvC (A : Nat → Nat → Int32) (i : Nat) : Prop := bdN (A 0 i) 1 255 ∧ bdN (A 1 i) 1 127 ∧ bdN (A 2 i) 1 127 ∧ (bdN (A 4 i) 0 255 ∧ bdN (A 5 i) 0 39 ∧ bdN (A 6 i) 0 255) ∧ (bdN (A 8 i) 0 255 ∧ bdN (A 9 i) 0 39 ∧ bdN (A 10 i) 0 255) ∧ bdZ (A 11 i)
def Iv (σ : Md) : Prop := Wf σ ∧ Ac (d_n σ) (d_p σ) ∧ (∀ x ∈ d_e σ, ∃ k, k ≤ 255 ∧ x.2.1 = nI k) ∧ ∀ i, i < d_n σ → IvC (d_A σ) i
def prA (A : Nat → Nat → Int32) : Nat → Nat := fun i => (A 0 i).toNatClampNeg
theorem prA_ok {A : Nat → Nat → Int32} {n : Nat} (h : ∀ i, i < n → bdN (A 0 i) 1 255) : PrOk A (prA A) n := fun i hi => by
  obtain ⟨k, h1, h2, h3⟩ := h i hi
  have e : prA A i = k := by
    show (A 0 i).toNatClampNeg = k
    rw [h3, nI_clamp (by omega)]
  rw [e]
  exact ⟨h3, h1, h2⟩
theorem stA_0 {σ : Md} {i j : Nat} {s t a g : Int32} : d_A (stA σ 3 i s t a g) 0 j = d_A σ 0 j := up4_out (Or.inl (by omega))
theorem stA_lo {σ : Md} {i j k : Nat} {s t a g : Int32} (h : k < 3 ∨ 7 ≤ k) : d_A (stA σ 3 i s t a g) k j = d_A σ k j := up4_out (by omega)
theorem PrOk.st {σ : Md} {pr : Nat → Nat} {n i : Nat} {s t a g : Int32} (h : PrOk (d_A σ) pr n) : PrOk (d_A (stA σ 3 i s t a g)) pr n := fun j hj => by
  rw [stA_0]
  exact h j hj
abbrev fC (v : Int32) : Int32 := setB (setB v 4 0) 6 0
abbrev fD (v : Int32) : Int32 := setB (setB (setB v 1 1) 2 1) 5 1
theorem fC_k : ∀ k, k < 256 → fC (nI k) = nI k &&& -81 := by decide +kernel
theorem fA_k : ∀ k, k < 256 → setB (fD (fC (nI k))) 0 1 = (nI k &&& -81) ||| 39 ∧ sHas (fD (fC (nI k))) (pw 0) = sHas (nI k) 1 := by decide +kernel
theorem fB_k : ∀ k, k < 256 → setB (fD (setB (fC (nI k)) 3 1)) 0 1 = ((nI k &&& -81) ||| 8) ||| 39 ∧ sHas (fD (setB (fC (nI k)) 3 1)) (pw 0) = sHas (nI k) 1 := by decide +kernel
theorem fE_k : ∀ k, k < 256 → setB (fD (setB (setB (fC (nI k)) 3 1) 7 1)) 0 1 = ((nI k &&& -81) ||| 136) ||| 39 ∧ sHas (fD (setB (setB (fC (nI k)) 3 1) 7 1)) (pw 0) = sHas (nI k) 1 := by decide +kernel
theorem fP_k : ∀ k, k < 256 → setB (setB (setB (nI k) 0 0) 4 0) 6 0 = nI k &&& -82 := by decide +kernel
def aftF (R : Int32) (σ σ1 : Md) (i : Nat) : Md := if sHas (d_A σ 3 i) 1 = 0 ∧ hidF (d_A σ1) (d_p σ) 200 (d_p σ i) = 0 then storeM R σ1 i (snapOf σ1 i) else σ1
set_option maxHeartbeats 4000000 in
theorem r_fails82 {G : px_G} {ws0 : va_W} {d m : Nat} {R : Int32} {q : Nat} {aa : Nat → Nat} {ws : va_W} {fa : Nat → Nat → Int32} {s : Nat → Int32} {σ : Md} {pr : Nat → Nat} (hpr : PrOk (d_A σ) pr (d_n σ)) (hW : Wf σ) (hAc : Ac (d_n σ) (d_p σ)) (hhp : ∀ x ∈ d_e σ, ∃ k, k ≤ 255 ∧ x.2.1 = nI k) (hq : q < 100000) {i : Nat} (hi : i < d_n σ) {V T a g S1 : Int32} (hr : RH G ws m aa fa s) (hs : RS R q fa s (stA σ 3 i V T a g)) (hk : px_kp Kc ws0 ws) (hf : setB (fD V) 0 1 = S1) (hg : sHas (fD V) (pw 0) = sHas (d_A σ 3 i) 1) : px G m_Rf_fails 82 [(0, .ref m), (1, .int (nI (i + 1)))] [] ws (d + 4) 0 0 (fun v w => v = none ∧ RX G R (q + 1) ws0 w m aa (aftF R σ (stA σ 3 i S1 T 0 0) i)) := by
  refine p_s rfl rfl ?_
  refine p_s rfl rfl ?_
  refine p_s rfl rfl ?_
  refine p_s rfl rfl ?_
  refine p_callV rfl c_Rf_80 rfl hr.1 g_Rf_set rfl rfl rfl (p_le (by omega) (Nat.le_refl _) (Nat.le_refl _) (r_setX (d := d) (b := 1) hr hs hk hi (by decide) (by decide) stA_B)) (fun v w hq => ?_)
  obtain ⟨rfl, fa, s, hr, hs, hk⟩ := hq
  refine p_s rfl rfl ?_
  refine p_s rfl rfl ?_
  refine p_s rfl rfl ?_
  refine p_s rfl rfl ?_
  refine p_callV rfl c_Rf_80 rfl hr.1 g_Rf_set rfl rfl rfl (p_le (by omega) (Nat.le_refl _) (Nat.le_refl _) (r_setX (d := d) (b := 2) hr hs hk hi (by decide) (by decide) stA_B)) (fun v w hq => ?_)
  obtain ⟨rfl, fa, s, hr, hs, hk⟩ := hq
  refine p_s rfl rfl ?_
  refine p_s rfl rfl ?_
  refine p_s rfl rfl ?_
  refine p_s rfl rfl ?_
  refine p_callV rfl c_Rf_80 rfl hr.1 g_Rf_set rfl rfl rfl (p_le (by omega) (Nat.le_refl _) (Nat.le_refl _) (r_setX (d := d) (b := 5) hr hs hk hi (by decide) (by decide) stA_B)) (fun v w hq => ?_)
  obtain ⟨rfl, fa, s, hr, hs, hk⟩ := hq
  refine p_s rfl rfl ?_
  refine p_get rfl f_Rf_32 hr.1 rfl ?_
  refine p_s rfl rfl ?_
  refine p_s rfl rfl ?_
  refine p_rst rfl hr hs hk (k := 7) (i := i) (by decide) rfl stA_X5 hi rfl (fun ws fa s hr hs hk => ?_)
  refine p_s rfl rfl ?_
  refine p_get rfl f_Rf_35 hr.1 rfl ?_
  refine p_s rfl rfl ?_
  refine p_s rfl rfl ?_
  refine p_rst rfl hr hs hk (k := 8) (i := i) (by decide) rfl stA_X6 hi rfl (fun ws fa s hr hs hk => ?_)
  refine p_s rfl rfl ?_
  refine p_s rfl rfl ?_
  refine p_s rfl rfl ?_
  refine p_callV rfl c_Rf_76 rfl hr.1 g_Rf_is rfl rfl rfl (p_le (by omega) (Nat.le_refl _) (Nat.le_refl _) (r_isX (d := d) (b := 0) hr hs hi (by decide) stA_3)) (fun v w hq => ?_)
  obtain ⟨rfl, hw9⟩ := hq
  have hw9 := hw9.symm
  subst hw9
  refine p_s rfl rfl ?_
  refine p_s rfl rfl ?_
  refine p_s rfl rfl ?_
  refine p_s rfl rfl ?_
  refine p_s rfl rfl ?_
  refine p_callV rfl c_Rf_80 rfl hr.1 g_Rf_set rfl rfl rfl (p_le (by omega) (Nat.le_refl _) (Nat.le_refl _) (r_setX (d := d) (b := 0) hr hs hk hi (by decide) (by decide) stA_B)) (fun v w hq => ?_)
  obtain ⟨rfl, fa, s, hr, hs, hk⟩ := hq
  rw [hg]
  rw [hf] at hs
  refine p_s rfl rfl ?_
  refine p_if rfl (fun c => ?_) (fun c => ?_)
  · simp only [px_cmp] at c
    exact p_vret rfl rfl ⟨rfl, fa, s, hr, by rw [aftF, if_neg (fun z => c z.1)]; exact hs.mono (by omega), hk⟩
  · simp only [px_ncmp] at c
    refine p_s rfl rfl ?_
    refine p_s rfl rfl ?_
    refine p_callV rfl c_Rf_122 rfl hr.1 g_Rf_hidden rfl rfl rfl (p_le (by omega) (Nat.le_refl _) (Nat.le_refl _) (r_hidden (d := d) hr hs hAc hi)) (fun v w hq => ?_)
    obtain ⟨rfl, hw9⟩ := hq
    have hw9 := hw9.symm
    subst hw9
    refine p_if rfl (fun c2 => ?_) (fun c2 => ?_)
    · simp only [px_cmp] at c2
      exact p_vret rfl rfl ⟨rfl, fa, s, hr, by rw [aftF, if_neg (fun z => c2 z.2)]; exact hs.mono (by omega), hk⟩
    · simp only [px_ncmp] at c2
      refine p_s rfl rfl ?_
      refine p_s rfl rfl ?_
      refine p_callV rfl c_Rf_126 rfl hr.1 g_Rf_store rfl rfl rfl (p_le (by omega) (Nat.le_refl _) (Nat.le_refl _) (r_store (d := d) (σ := stA σ 3 i S1 T 0 0) hr hs hk hpr.st hW hhp hq hi)) (fun v w hq => ?_)
      obtain ⟨rfl, hq2⟩ := hq
      exact p_vret rfl rfl ⟨rfl, by rw [aftF, if_pos ⟨c, c2⟩]; exact hq2⟩
set_option maxHeartbeats 4000000 in
theorem r_fails46 {G : px_G} {ws0 : va_W} {d m : Nat} {R : Int32} {q : Nat} {aa : Nat → Nat} {ws : va_W} {fa : Nat → Nat → Int32} {s : Nat → Int32} {σ : Md} {pr : Nat → Nat} (hpr : PrOk (d_A σ) pr (d_n σ)) (hW : Wf σ) (hAc : Ac (d_n σ) (d_p σ)) (hhp : ∀ x ∈ d_e σ, ∃ k, k ≤ 255 ∧ x.2.1 = nI k) (hq : q < 100000) {i : Nat} (hi : i < d_n σ) {t a g : Int32} {k : Nat} (hkb : k < 256) (h3 : d_A σ 3 i = nI k) (ht : bdN t 0 256) (hr : RH G ws m aa fa s) (hs : RS R q fa s (stA σ 3 i (fC (nI k)) t a g)) (hk : px_kp Kc ws0 ws) : px G m_Rf_fails 46 [(0, .ref m), (1, .int (nI (i + 1)))] [] ws (d + 4) 0 0 (fun v w => v = none ∧ RX G R (q + 1) ws0 w m aa (aftF R σ (stA σ 3 i ((if t < 2 then nI k &&& -81 else (nI k &&& -81) ||| (if (if 64 < d_A σ 0 i then (0 : Int32) else 1) = 0 then 8 else 136)) ||| 39) t 0 0) i)) := by
  obtain ⟨hp1, hp2, hp3⟩ := hpr i hi
  obtain ⟨tk, -, ht2, rfl⟩ := ht
  have t2 : nI tk ≤ 1 → nI tk < 2 := fun z => by
    rw [show (1 : Int32) = nI 1 from rfl, nI_leI (by omega) (by omega)] at z
    exact nI_lt (b := 2) (by omega) (by omega)
  have t3 : ¬ nI tk ≤ 1 → ¬ nI tk < 2 := fun z => by
    rw [show (1 : Int32) = nI 1 from rfl, nI_leI (by omega) (by omega)] at z
    exact nI_nlt (b := 2) (by omega) (by omega)
  have p65 : (65 : Int32) ≤ nI (pr i) → (64 : Int32) < nI (pr i) := fun z => by
    rw [show (65 : Int32) = nI 65 from rfl, nI_leI (by omega) (by omega)] at z
    exact nI_lt (a := 64) (by omega) (by omega)
  have p64 : (64 : Int32) < nI (pr i) → (65 : Int32) ≤ nI (pr i) := fun z => by
    rw [show (64 : Int32) = nI 64 from rfl, nI_ltI (by omega) (by omega)] at z
    exact nI_le (a := 65) (by omega) (by omega)
  refine p_s rfl rfl ?_
  refine p_get rfl f_Rf_29 hr.1 rfl ?_
  refine p_s rfl rfl ?_
  refine p_rld rfl hr hs (k := 6) (i := i) (by decide) rfl stA_4 hi rfl ?_
  refine p_s rfl rfl ?_
  refine p_icmp rfl (fun c => ?_) (fun c => ?_)
  · simp only [px_cmp] at c
    rw [if_pos (t2 c)]
    exact r_fails82 hpr hW hAc hhp hq hi hr hs hk (fA_k k hkb).1 ((fA_k k hkb).2.trans (by rw [h3]))
  · simp only [px_ncmp] at c
    refine p_s rfl rfl ?_
    refine p_s rfl rfl ?_
    refine p_s rfl rfl ?_
    refine p_s rfl rfl ?_
    refine p_callV rfl c_Rf_80 rfl hr.1 g_Rf_set rfl rfl rfl (p_le (by omega) (Nat.le_refl _) (Nat.le_refl _) (r_setX (d := d) (b := 3) hr hs hk hi (by decide) (by decide) stA_B)) (fun v w hq => ?_)
    obtain ⟨rfl, fa, s, hr, hs, hk⟩ := hq
    refine p_s rfl rfl ?_
    refine p_get rfl f_Rf_7 hr.1 rfl ?_
    refine p_s rfl rfl ?_
    refine p_rld rfl hr hs (k := 0) (i := i) (by decide) rfl (stA_0.trans hp1) hi rfl ?_
    refine p_s rfl rfl ?_
    refine p_icmp rfl (fun c2 => ?_) (fun c2 => ?_)
    · simp only [px_cmp] at c2
      rw [if_neg (t3 c), if_pos (show (if 64 < d_A σ 0 i then (0 : Int32) else 1) = 0 by rw [hp1, if_pos (show (64 : Int32) < nI (pr i) from p65 c2)])]
      exact r_fails82 hpr hW hAc hhp hq hi hr hs hk (fB_k k hkb).1 ((fB_k k hkb).2.trans (by rw [h3]))
    · simp only [px_ncmp] at c2
      refine p_s rfl rfl ?_
      refine p_s rfl rfl ?_
      refine p_s rfl rfl ?_
      refine p_s rfl rfl ?_
      refine p_callV rfl c_Rf_80 rfl hr.1 g_Rf_set rfl rfl rfl (p_le (by omega) (Nat.le_refl _) (Nat.le_refl _) (r_setX (d := d) (b := 7) hr hs hk hi (by decide) (by decide) stA_B)) (fun v w hq => ?_)
      obtain ⟨rfl, fa, s, hr, hs, hk⟩ := hq
      rw [if_neg (t3 c), if_neg (show ¬ (if 64 < d_A σ 0 i then (0 : Int32) else 1) = 0 by rw [hp1, if_neg (show ¬ (64 : Int32) < nI (pr i) from fun z => c2 (p64 z))]; decide)]
      exact r_fails82 hpr hW hAc hhp hq hi hr hs hk (fE_k k hkb).1 ((fE_k k hkb).2.trans (by rw [h3]))
theorem failM_aft {R : Int32} {σ : Md} {i : Nat} {l : Int32} : failM R σ i l = aftF R σ (stA σ 3 i (sFailS l (d_A σ 3 i) (d_A σ 4 i)) (sFailT (d_A σ 3 i) (d_A σ 4 i)) 0 0) i := rfl
theorem fT_k : ∀ k, k < 256 → sHas (fC (nI k)) (pw 1) = sHas (nI k &&& -81) 2 := by decide +kernel
set_option maxHeartbeats 4000000 in
theorem r_fails {G : px_G} {ws0 : va_W} {d m : Nat} {R : Int32} {q : Nat} {aa : Nat → Nat} {ws : va_W} {fa : Nat → Nat → Int32} {s : Nat → Int32} {σ : Md} (hr : RH G ws m aa fa s) (hs : RS R q fa s σ) (hk : px_kp Kc ws0 ws) {pr : Nat → Nat} (hpr : PrOk (d_A σ) pr (d_n σ)) (hW : Wf σ) (hAc : Ac (d_n σ) (d_p σ)) (hhp : ∀ x ∈ d_e σ, ∃ k, k ≤ 255 ∧ x.2.1 = nI k) (hq : q < 100000) {i : Nat} (hi : i < d_n σ) (hIv : IvC (d_A σ) i) : px G m_Rf_fails 0 (lv_args 0 [.ref m, .int (nI (i + 1))]) [] ws (d + 4) 0 0 (fun v w => v = none ∧ RX G R (q + 1) ws0 w m aa (failM R σ i (if 64 < d_A σ 0 i then 0 else 1))) := by
  obtain ⟨k, hkb, h3⟩ := hs.is3 hi
  obtain ⟨-, -, -, ⟨⟨t, -, ht, h4⟩, -⟩, -⟩ := hIv
  have hs : RS R q fa s (stA σ 3 i (d_A σ 3 i) (d_A σ 4 i) (d_A σ 5 i) (d_A σ 6 i)) := by rw [stA_id]; exact hs
  refine p_s rfl rfl ?_
  refine p_s rfl rfl ?_
  refine p_s rfl rfl ?_
  refine p_s rfl rfl ?_
  refine p_callV rfl c_Rf_80 rfl hr.1 g_Rf_set rfl rfl rfl (p_le (by omega) (Nat.le_refl _) (Nat.le_refl _) (r_setX (d := d) (b := 4) hr hs hk hi (by decide) (by decide) stA_B)) (fun v w hq => ?_)
  obtain ⟨rfl, fa, s, hr, hs, hk⟩ := hq
  refine p_s rfl rfl ?_
  refine p_s rfl rfl ?_
  refine p_s rfl rfl ?_
  refine p_s rfl rfl ?_
  refine p_callV rfl c_Rf_80 rfl hr.1 g_Rf_set rfl rfl rfl (p_le (by omega) (Nat.le_refl _) (Nat.le_refl _) (r_setX (d := d) (b := 6) hr hs hk hi (by decide) (by decide) stA_B)) (fun v w hq => ?_)
  obtain ⟨rfl, fa, s, hr, hs, hk⟩ := hq
  refine p_s rfl rfl ?_
  refine p_s rfl rfl ?_
  refine p_s rfl rfl ?_
  refine p_callV rfl c_Rf_76 rfl hr.1 g_Rf_is rfl rfl rfl (p_le (by omega) (Nat.le_refl _) (Nat.le_refl _) (r_isX (d := d) (b := 1) hr hs hi (by decide) stA_3)) (fun v w hq => ?_)
  obtain ⟨rfl, hw9⟩ := hq
  have hw9 := hw9.symm
  subst hw9
  rw [h3, h4] at hs
  refine p_if rfl (fun c => ?_) (fun c => ?_)
  · simp only [px_cmp] at c
    have hT : sFailT (nI k) (nI t) = nI t := by rw [sFailT, if_neg (fun z => c (by rw [h3, fT_k k hkb]; exact z))]
    refine p_post (fun v w hq2 => ⟨hq2.1, ?_⟩) (r_fails46 hpr hW hAc hhp hq hi hkb h3 (t := nI t) ⟨t, by omega, by omega, rfl⟩ hr hs hk)
    rw [failM_aft, h3, h4, sFailS, hT]
    exact hq2.2
  · simp only [px_ncmp] at c
    refine p_s rfl rfl ?_
    refine p_get rfl f_Rf_29 hr.1 rfl ?_
    refine p_s rfl rfl ?_
    refine p_rld rfl hr hs (k := 6) (i := i) (by decide) rfl stA_4 hi rfl ?_
    refine p_s rfl rfl ?_
    refine p_icmp rfl (fun c2 => ?_) (fun c2 => ?_)
    · simp only [px_cmp] at c2
      have hT : sFailT (nI k) (nI t) = nI t := by
        rw [sFailT, if_pos (by rw [← fT_k k hkb, ← h3]; exact c), ← hap2 t ht (Int32.not_lt.mpr c2)]
        rw [show (255 : Int32) = nI 255 from rfl, nI_leI (by omega) (by omega)] at c2
        exact show nI 255 = nI t from congrArg nI (by omega)
      refine p_post (fun v w hq2 => ⟨hq2.1, ?_⟩) (r_fails46 hpr hW hAc hhp hq hi hkb h3 (t := nI t) ⟨t, by omega, by omega, rfl⟩ hr hs hk)
      rw [failM_aft, h3, h4, sFailS, hT]
      exact hq2.2
    · simp only [px_ncmp] at c2
      refine p_s rfl rfl ?_
      refine p_get rfl f_Rf_29 hr.1 rfl ?_
      refine p_s rfl rfl ?_
      refine p_s rfl rfl ?_
      refine p_rld rfl hr hs (k := 6) (i := i) (by decide) rfl stA_4 hi rfl ?_
      refine p_s rfl rfl ?_
      refine p_s rfl rfl ?_
      refine p_rst rfl hr hs hk (k := 6) (i := i) (by decide) rfl stA_X4 hi rfl (fun ws fa s hr hs hk => ?_)
      have hT : sFailT (nI k) (nI t) = nI t + 1 := by rw [sFailT, if_pos (by rw [← fT_k k hkb, ← h3]; exact c), ← hap1 t ht (Int32.not_le.mp c2)]
      refine p_post (fun v w hq2 => ⟨hq2.1, ?_⟩) (r_fails46 hpr hW hAc hhp hq hi hkb h3 (t := nI t + 1) ⟨t + 1, by omega, by omega, nI_1 t⟩ hr hs hk)
      rw [failM_aft, h3, h4, sFailS, hT]
      exact hq2.2
end
