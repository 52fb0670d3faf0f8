section
-- ===== PART A: goes FIRST, ahead of the names: the tables' words, and 'selects' of the private methods out of them =====
/-- a private method of a class that the tables say can be made, by its rows of tables_1 -/
def lw_okq (q : MethodName × Nat) : Prop := (q.1.cls ≠ "java/lang/invoke/MethodHandle" ∧ q.1.cls ≠ "java/lang/invoke/VarHandle") ∧ Cond.instantiable q.1.cls q.2 ∈ tables_1 ∧ Cond.privateMethod q.1 ∈ tables_1 ∧ Cond.instanceMethod q.1 ∈ tables_1
theorem lw_p0 : lw_okq (⟨"BlockDesk", "handTakes", "(I)Z"⟩, 11) := ⟨⟨by decide +kernel, by decide +kernel⟩, List.mem_of_getElem? (i := 6) (by decide +kernel), List.mem_of_getElem? (i := 54) (by decide +kernel), List.mem_of_getElem? (i := 55) (by decide +kernel)⟩
theorem lw_p1 : lw_okq (⟨"BlockDesk", "usedPlaces", "()I"⟩, 11) := ⟨⟨by decide +kernel, by decide +kernel⟩, List.mem_of_getElem? (i := 6) (by decide +kernel), List.mem_of_getElem? (i := 72) (by decide +kernel), List.mem_of_getElem? (i := 73) (by decide +kernel)⟩
theorem lw_p2 : lw_okq (⟨"BlockDesk", "writeBlocks", "(I)Z"⟩, 11) := ⟨⟨by decide +kernel, by decide +kernel⟩, List.mem_of_getElem? (i := 6) (by decide +kernel), List.mem_of_getElem? (i := 76) (by decide +kernel), List.mem_of_getElem? (i := 77) (by decide +kernel)⟩
theorem lw_p3 : lw_okq (⟨"BlockDesk", "losePower", "()V"⟩, 11) := ⟨⟨by decide +kernel, by decide +kernel⟩, List.mem_of_getElem? (i := 6) (by decide +kernel), List.mem_of_getElem? (i := 80) (by decide +kernel), List.mem_of_getElem? (i := 81) (by decide +kernel)⟩
theorem lw_p4 : lw_okq (⟨"BlockDesk", "takeHandAsSnapshot", "()V"⟩, 11) := ⟨⟨by decide +kernel, by decide +kernel⟩, List.mem_of_getElem? (i := 6) (by decide +kernel), List.mem_of_getElem? (i := 94) (by decide +kernel), List.mem_of_getElem? (i := 95) (by decide +kernel)⟩
theorem lw_p5 : lw_okq (⟨"BlockDesk", "beginJournalAnew", "()V"⟩, 11) := ⟨⟨by decide +kernel, by decide +kernel⟩, List.mem_of_getElem? (i := 6) (by decide +kernel), List.mem_of_getElem? (i := 98) (by decide +kernel), List.mem_of_getElem? (i := 99) (by decide +kernel)⟩
theorem lw_p6 : lw_okq (⟨"BlockDeskModel", "hold", "(I)Z"⟩, 13) := ⟨⟨by decide +kernel, by decide +kernel⟩, List.mem_of_getElem? (i := 130) (by decide +kernel), List.mem_of_getElem? (i := 180) (by decide +kernel), List.mem_of_getElem? (i := 181) (by decide +kernel)⟩
theorem lw_p7 : lw_okq (⟨"BlockDeskModel", "write", "(I)Z"⟩, 13) := ⟨⟨by decide +kernel, by decide +kernel⟩, List.mem_of_getElem? (i := 130) (by decide +kernel), List.mem_of_getElem? (i := 192) (by decide +kernel), List.mem_of_getElem? (i := 193) (by decide +kernel)⟩
def lw_privs_1 : List (MethodName × Nat) := [(⟨"BlockDesk", "handTakes", "(I)Z"⟩, 11), (⟨"BlockDesk", "usedPlaces", "()I"⟩, 11), (⟨"BlockDesk", "writeBlocks", "(I)Z"⟩, 11), (⟨"BlockDesk", "losePower", "()V"⟩, 11), (⟨"BlockDesk", "takeHandAsSnapshot", "()V"⟩, 11), (⟨"BlockDesk", "beginJournalAnew", "()V"⟩, 11), (⟨"BlockDeskModel", "hold", "(I)Z"⟩, 13), (⟨"BlockDeskModel", "write", "(I)Z"⟩, 13)]
theorem lw_r1 : ∀ q ∈ lw_privs_1, lw_okq q := List.forall_mem_cons.mpr ⟨lw_p0, List.forall_mem_cons.mpr ⟨lw_p1, List.forall_mem_cons.mpr ⟨lw_p2, List.forall_mem_cons.mpr ⟨lw_p3, List.forall_mem_cons.mpr ⟨lw_p4, List.forall_mem_cons.mpr ⟨lw_p5, List.forall_mem_cons.mpr ⟨lw_p6, List.forall_mem_cons.mpr ⟨lw_p7, fun _ h => absurd h List.not_mem_nil⟩⟩⟩⟩⟩⟩⟩⟩
def lw_privs : List (MethodName × Nat) := lw_privs_1
def lw_tbl : List Cond := k2_sels lw_privs ++ tables_1
theorem lw_privs_ok : ∀ q ∈ lw_privs, lw_okq q := lw_r1
end
section
/-! THE CLAIM OUT OF ONE WALK OF THE LAW'S BODY. Your part is whole_start (and what it stands on); all else here is the same for every law, but numbers. -/
def R_law : String := "BlockDeskLaw"
def lw_P (b : Addr) (xs : List Int32) (args : Array Value) (s : State) : Prop := args = #[.ref b] ∧ s.IntsAt b xs ∧ xs.length ≤ 2049 ∧ (Jvm.Cond.and given_1 narrow_1).before args s = true
def lw_Q (_ : Array Value) (s : State) (o : Outcome) (t : State) : Prop := o = .returned (some (.int 1)) ∧ Framed s o t [] 600000 7302250
def lw_Z (below : List Frame) (a : Array Value) (s : State) : State → Prop := fun t => ∃ o, t.status = .running ∧ Ended t below o ∧ lw_Q a s o t
/-- the law's own end, with 1 on the stack, nothing written that was there before, its room as the claim has it -/
theorem lw_ret {p : Program} {l : Launch} {e : Env} {s : State} {m : MethodId} {below : List Frame} {meth : Method} {c : Code} {b : Nat} (hx : p.tables.exec = Jvm.exec) (hb : c.code = code) (hr : meth.sig.returnType = ret) (hlocks : meth.locks = false) {pc : Nat} {H : Heap} {ls : Array Slot} (hdg : decode code pc = .ok (.ireturn, 1)) : W p l e room_1 s m #[Value.ref b] below meth c H [] 600000 7302250 (lw_Z below #[Value.ref b] s) (F0 m pc ls [.int 1]) := by
  intro T hT X
  obtain ⟨fs, hret, hrun, hended, hW, hframe⟩ := X.leave (v := some (.int 1)) (hlocks := hlocks) (fun h => by rw [hr] at h; cases h)
  have hmeth' : T.vm.method? m = some meth := X.method'
  refine ⟨T.setFrames fs, ?_, .returned (some (.int 1)), hrun, hended, rfl, ⟨_, rfl⟩, hW, hframe⟩
  jvm_step X.here [X.here.top, hx, hb, hdg, hmeth', hr, ret, narrow_b1]
  (try refine ⟨rfl, ?_⟩); (try refine ⟨rfl, ?_⟩)
  first | (intro acts; rw [hret _ acts rfl rfl rfl]) | rw [hret _ _ rfl rfl rfl]
  exact Steps.refl _
/-- what holds at the law's entry: the machine, the code, the tables' words (any of lw_tbl by 'hts w (by decide +kernel)'), the script of L ints xs at the cell b, what the Statement gives of the start (any of its parts by flat_of_before) -/
def lw_At (p : Program) (s : State) (m : MethodId) (meth : Method) (c : Code) (b L : Nat) (xs : Nat → Int32) : Prop :=
  p.tables.exec = Jvm.exec ∧ c.code = code ∧ meth.sig.returnType = ret ∧ c.maxLocals = 4 ∧ s.vm.findClass R_law = some m.cls ∧ (∀ w ∈ lw_tbl, w.before #[Value.ref b] s = true) ∧ va_X b L xs s s.heap ∧ b < s.heap.size ∧ meth.locks = false ∧ (Jvm.Cond.and given_1 narrow_1).before #[Value.ref b] s = true
end
section
def R_Arrays : String := "java/util/Arrays"
def R_BlockDesk : String := "BlockDesk"
def F_BlockDesk : u_T := fun k => match k with
  | 0 => ("BlockDesk", "journal", "[B", true)
  | 1 => ("BlockDesk", "starts", "[I", true)
  | 2 => ("BlockDesk", "records", "I", false)
  | 3 => ("BlockDesk", "begin", "I", false)
  | 4 => ("BlockDesk", "snapshotBytes", "[B", false)
  | 5 => ("BlockDesk", "snapshotSize", "I", false)
  | 6 => ("BlockDesk", "handBytes", "[B", false)
  | 7 => ("BlockDesk", "handSize", "I", false)
  | 8 => ("BlockDesk", "up", "Z", false)
  | 9 => ("BlockDesk", "charge", "I", false)
  | _ => ("BlockDesk", "written", "I", false)
def t_BlockDesk : Nat → FieldType := fun k => match k with
  | 0 => .array .byte
  | 1 => .array .int
  | 2 => .int
  | 3 => .int
  | 4 => .array .byte
  | 5 => .int
  | 6 => .array .byte
  | 7 => .int
  | 8 => .boolean
  | 9 => .int
  | _ => .int
abbrev w_BlockDesk : List Cond := u_ws R_BlockDesk F_BlockDesk 11
def R_BlockDeskModel : String := "BlockDeskModel"
def F_BlockDeskModel : u_T := fun k => match k with
  | 0 => ("BlockDeskModel", "blocks", "I", true)
  | 1 => ("BlockDeskModel", "up", "Z", false)
  | 2 => ("BlockDeskModel", "charge", "I", false)
  | 3 => ("BlockDeskModel", "written", "I", false)
  | 4 => ("BlockDeskModel", "begin", "I", false)
  | 5 => ("BlockDeskModel", "end", "I", false)
  | 6 => ("BlockDeskModel", "hand", "[I", true)
  | 7 => ("BlockDeskModel", "inHand", "I", false)
  | 8 => ("BlockDeskModel", "shot", "[I", true)
  | 9 => ("BlockDeskModel", "shotSize", "I", false)
  | 10 => ("BlockDeskModel", "bytes", "[I", true)
  | 11 => ("BlockDeskModel", "starts", "[I", true)
  | _ => ("BlockDeskModel", "records", "I", false)
def t_BlockDeskModel : Nat → FieldType := fun k => match k with
  | 0 => .int
  | 1 => .boolean
  | 2 => .int
  | 3 => .int
  | 4 => .int
  | 5 => .int
  | 6 => .array .int
  | 7 => .int
  | 8 => .array .int
  | 9 => .int
  | 10 => .array .int
  | 11 => .array .int
  | _ => .int
abbrev w_BlockDeskModel : List Cond := u_ws R_BlockDeskModel F_BlockDeskModel 13
abbrev b_BlockDesk_handTakes : ByteArray := prog_1_method_12_code
def y_BlockDesk_handTakes : MethodName := ⟨R_BlockDesk, "handTakes", "(I)Z"⟩
abbrev b_BlockDesk_losePower : ByteArray := prog_1_method_16_code
def y_BlockDesk_losePower : MethodName := ⟨R_BlockDesk, "losePower", "()V"⟩
abbrev b_BlockDesk_usedPlaces : ByteArray := prog_1_method_13_code
def y_BlockDesk_usedPlaces : MethodName := ⟨R_BlockDesk, "usedPlaces", "()I"⟩
abbrev b_BlockDesk_blocksFor : ByteArray := prog_1_method_14_code
def y_BlockDesk_blocksFor : MethodName := ⟨R_BlockDesk, "blocksFor", "(I)I"⟩
abbrev b_BlockDesk_takeHandAsSnapshot : ByteArray := prog_1_method_17_code
def y_BlockDesk_takeHandAsSnapshot : MethodName := ⟨R_BlockDesk, "takeHandAsSnapshot", "()V"⟩
abbrev b_BlockDesk_writeBlocks : ByteArray := prog_1_method_15_code
def y_BlockDesk_writeBlocks : MethodName := ⟨R_BlockDesk, "writeBlocks", "(I)Z"⟩
abbrev b_BlockDesk_beginJournalAnew : ByteArray := prog_1_method_18_code
def y_BlockDesk_beginJournalAnew : MethodName := ⟨R_BlockDesk, "beginJournalAnew", "()V"⟩
abbrev b_BlockDesk_cut : ByteArray := prog_1_method_6_code
def y_BlockDesk_cut : MethodName := ⟨R_BlockDesk, "cut", "()Z"⟩
abbrev b_BlockDesk_start : ByteArray := prog_1_method_7_code
def y_BlockDesk_start : MethodName := ⟨R_BlockDesk, "start", "()I"⟩
abbrev b_BlockDesk_charge : ByteArray := prog_1_method_8_code
def y_BlockDesk_charge : MethodName := ⟨R_BlockDesk, "charge", "(I)Z"⟩
abbrev b_BlockDesk_size : ByteArray := prog_1_method_9_code
def y_BlockDesk_size : MethodName := ⟨R_BlockDesk, "size", "(I)I"⟩
abbrev b_BlockDesk_byteOf : ByteArray := prog_1_method_10_code
def y_BlockDesk_byteOf : MethodName := ⟨R_BlockDesk, "byteOf", "(II)I"⟩
abbrev b_BlockDesk_state : ByteArray := prog_1_method_11_code
def y_BlockDesk_state : MethodName := ⟨R_BlockDesk, "state", "(I)I"⟩
abbrev b_BlockDesk_put : ByteArray := prog_1_method_2_code
def y_BlockDesk_put : MethodName := ⟨R_BlockDesk, "put", "(JI)Z"⟩
abbrev b_Arrays_rangeCheck : ByteArray := prog_5_method_30_code
def y_Arrays_rangeCheck : MethodName := ⟨R_Arrays, "rangeCheck", "(III)V"⟩
abbrev b_Arrays_fill : ByteArray := prog_5_method_110_code
def y_Arrays_fill : MethodName := ⟨R_Arrays, "fill", "([BIIB)V"⟩
abbrev b_BlockDesk_fill : ByteArray := prog_1_method_3_code
def y_BlockDesk_fill : MethodName := ⟨R_BlockDesk, "fill", "(II)Z"⟩
abbrev b_BlockDesk_record : ByteArray := prog_1_method_4_code
def y_BlockDesk_record : MethodName := ⟨R_BlockDesk, "record", "()I"⟩
abbrev b_BlockDesk_snapshot : ByteArray := prog_1_method_5_code
def y_BlockDesk_snapshot : MethodName := ⟨R_BlockDesk, "snapshot", "()I"⟩
abbrev b_BlockDesk_init : ByteArray := prog_1_method_1_code
def y_BlockDesk_init : MethodName := ⟨R_BlockDesk, "<init>", "(I)V"⟩
abbrev b_BlockDeskModel_hold : ByteArray := prog_3_method_2_code
def y_BlockDeskModel_hold : MethodName := ⟨R_BlockDeskModel, "hold", "(I)Z"⟩
abbrev b_BlockDeskModel_write : ByteArray := prog_3_method_5_code
def y_BlockDeskModel_write : MethodName := ⟨R_BlockDeskModel, "write", "(I)Z"⟩
abbrev b_BlockDeskModel_cut : ByteArray := prog_3_method_8_code
def y_BlockDeskModel_cut : MethodName := ⟨R_BlockDeskModel, "cut", "()Z"⟩
abbrev b_BlockDeskModel_start : ByteArray := prog_3_method_9_code
def y_BlockDeskModel_start : MethodName := ⟨R_BlockDeskModel, "start", "()I"⟩
abbrev b_BlockDeskModel_charge : ByteArray := prog_3_method_10_code
def y_BlockDeskModel_charge : MethodName := ⟨R_BlockDeskModel, "charge", "(I)Z"⟩
abbrev b_BlockDeskModel_size : ByteArray := prog_3_method_11_code
def y_BlockDeskModel_size : MethodName := ⟨R_BlockDeskModel, "size", "(I)I"⟩
abbrev b_BlockDeskModel_byteOf : ByteArray := prog_3_method_12_code
def y_BlockDeskModel_byteOf : MethodName := ⟨R_BlockDeskModel, "byteOf", "(II)I"⟩
abbrev b_BlockDeskModel_state : ByteArray := prog_3_method_13_code
def y_BlockDeskModel_state : MethodName := ⟨R_BlockDeskModel, "state", "(I)I"⟩
abbrev b_BlockDeskModel_put : ByteArray := prog_3_method_3_code
def y_BlockDeskModel_put : MethodName := ⟨R_BlockDeskModel, "put", "(JI)Z"⟩
abbrev b_BlockDeskModel_fill : ByteArray := prog_3_method_4_code
def y_BlockDeskModel_fill : MethodName := ⟨R_BlockDeskModel, "fill", "(II)Z"⟩
abbrev b_BlockDeskModel_record : ByteArray := prog_3_method_6_code
def y_BlockDeskModel_record : MethodName := ⟨R_BlockDeskModel, "record", "()I"⟩
abbrev b_BlockDeskModel_snapshot : ByteArray := prog_3_method_7_code
def y_BlockDeskModel_snapshot : MethodName := ⟨R_BlockDeskModel, "snapshot", "()I"⟩
abbrev b_BlockDeskModel_init : ByteArray := prog_3_method_1_code
def y_BlockDeskModel_init : MethodName := ⟨R_BlockDeskModel, "<init>", "(I)V"⟩
abbrev b_law_cell : ByteArray := method_2_code
def y_law_cell : MethodName := ⟨R_law, "cell", "([II)I"⟩
def w_BlockDesk_handTakes : List Cond := .code y_BlockDesk_handTakes b_BlockDesk_handTakes 2 (some .boolean) :: ([.fieldLink R_BlockDesk 23 "BlockDesk" "up" "Z", .fieldLink R_BlockDesk 35 "BlockDesk" "handSize" "I"] ++ w_BlockDesk)
def w_BlockDesk_losePower : List Cond := .code y_BlockDesk_losePower b_BlockDesk_losePower 1 none :: ([.fieldLink R_BlockDesk 23 "BlockDesk" "up" "Z", .fieldLink R_BlockDesk 35 "BlockDesk" "handSize" "I", .fieldLink R_BlockDesk 27 "BlockDesk" "charge" "I"] ++ w_BlockDesk)
def w_BlockDesk_usedPlaces : List Cond := .code y_BlockDesk_usedPlaces b_BlockDesk_usedPlaces 1 (some .int) :: ([.fieldLink R_BlockDesk 13 "BlockDesk" "starts" "[I", .fieldLink R_BlockDesk 57 "BlockDesk" "records" "I"] ++ w_BlockDesk)
def w_BlockDesk_blocksFor : List Cond := .code y_BlockDesk_blocksFor b_BlockDesk_blocksFor 1 (some .int) :: ([])
def w_BlockDesk_takeHandAsSnapshot : List Cond := .code y_BlockDesk_takeHandAsSnapshot b_BlockDesk_takeHandAsSnapshot 2 none :: ([.fieldLink R_BlockDesk 17 "BlockDesk" "snapshotBytes" "[B", .fieldLink R_BlockDesk 20 "BlockDesk" "handBytes" "[B", .fieldLink R_BlockDesk 35 "BlockDesk" "handSize" "I", .fieldLink R_BlockDesk 73 "BlockDesk" "snapshotSize" "I"] ++ w_BlockDesk)
def w_BlockDesk_writeBlocks : List Cond := .code y_BlockDesk_writeBlocks b_BlockDesk_writeBlocks 2 (some .boolean) :: ([.fieldLink R_BlockDesk 27 "BlockDesk" "charge" "I", .fieldLink R_BlockDesk 79 "BlockDesk" "written" "I", .methodLink R_BlockDesk 70 y_BlockDesk_losePower, .instanceMethod y_BlockDesk_losePower, .selects R_BlockDesk y_BlockDesk_losePower y_BlockDesk_losePower, .initialized R_BlockDesk, .code y_BlockDesk_losePower b_BlockDesk_losePower 1 none, .fieldLink R_BlockDesk 23 "BlockDesk" "up" "Z", .fieldLink R_BlockDesk 35 "BlockDesk" "handSize" "I"] ++ w_BlockDesk)
def w_BlockDesk_beginJournalAnew : List Cond := .code y_BlockDesk_beginJournalAnew b_BlockDesk_beginJournalAnew 1 none :: ([.fieldLink R_BlockDesk 82 "BlockDesk" "begin" "I", .methodLink R_BlockDesk 44 y_BlockDesk_usedPlaces, .instanceMethod y_BlockDesk_usedPlaces, .selects R_BlockDesk y_BlockDesk_usedPlaces y_BlockDesk_usedPlaces, .initialized R_BlockDesk, .code y_BlockDesk_usedPlaces b_BlockDesk_usedPlaces 1 (some .int), .fieldLink R_BlockDesk 13 "BlockDesk" "starts" "[I", .fieldLink R_BlockDesk 57 "BlockDesk" "records" "I", .methodLink R_BlockDesk 60 y_BlockDesk_blocksFor, .static y_BlockDesk_blocksFor, .code y_BlockDesk_blocksFor b_BlockDesk_blocksFor 1 (some .int)] ++ w_BlockDesk)
def w_BlockDesk_cut : List Cond := .code y_BlockDesk_cut b_BlockDesk_cut 1 (some .boolean) :: ([.fieldLink R_BlockDesk 23 "BlockDesk" "up" "Z", .methodLink R_BlockDesk 70 y_BlockDesk_losePower, .instanceMethod y_BlockDesk_losePower, .selects R_BlockDesk y_BlockDesk_losePower y_BlockDesk_losePower, .initialized R_BlockDesk, .code y_BlockDesk_losePower b_BlockDesk_losePower 1 none, .fieldLink R_BlockDesk 35 "BlockDesk" "handSize" "I", .fieldLink R_BlockDesk 27 "BlockDesk" "charge" "I"] ++ w_BlockDesk)
def w_BlockDesk_start : List Cond := .code y_BlockDesk_start b_BlockDesk_start 1 (some .int) :: ([.fieldLink R_BlockDesk 23 "BlockDesk" "up" "Z", .methodLink R_BlockDesk 48 y_BlockDesk_writeBlocks, .instanceMethod y_BlockDesk_writeBlocks, .selects R_BlockDesk y_BlockDesk_writeBlocks y_BlockDesk_writeBlocks, .initialized R_BlockDesk, .code y_BlockDesk_writeBlocks b_BlockDesk_writeBlocks 2 (some .boolean), .fieldLink R_BlockDesk 27 "BlockDesk" "charge" "I", .fieldLink R_BlockDesk 79 "BlockDesk" "written" "I", .methodLink R_BlockDesk 70 y_BlockDesk_losePower, .instanceMethod y_BlockDesk_losePower, .selects R_BlockDesk y_BlockDesk_losePower y_BlockDesk_losePower, .code y_BlockDesk_losePower b_BlockDesk_losePower 1 none, .fieldLink R_BlockDesk 35 "BlockDesk" "handSize" "I"] ++ w_BlockDesk)
def w_BlockDesk_charge : List Cond := .code y_BlockDesk_charge b_BlockDesk_charge 2 (some .boolean) :: ([.fieldLink R_BlockDesk 27 "BlockDesk" "charge" "I"] ++ w_BlockDesk)
def w_BlockDesk_size : List Cond := .code y_BlockDesk_size b_BlockDesk_size 2 (some .int) :: ([.fieldLink R_BlockDesk 23 "BlockDesk" "up" "Z", .fieldLink R_BlockDesk 57 "BlockDesk" "records" "I", .fieldLink R_BlockDesk 73 "BlockDesk" "snapshotSize" "I", .fieldLink R_BlockDesk 13 "BlockDesk" "starts" "[I"] ++ w_BlockDesk)
def w_BlockDesk_byteOf : List Cond := .code y_BlockDesk_byteOf b_BlockDesk_byteOf 4 (some .int) :: ([.methodLink R_BlockDesk 76 y_BlockDesk_size, .instanceMethod y_BlockDesk_size, .selects R_BlockDesk y_BlockDesk_size y_BlockDesk_size, .initialized R_BlockDesk, .code y_BlockDesk_size b_BlockDesk_size 2 (some .int), .fieldLink R_BlockDesk 23 "BlockDesk" "up" "Z", .fieldLink R_BlockDesk 57 "BlockDesk" "records" "I", .fieldLink R_BlockDesk 73 "BlockDesk" "snapshotSize" "I", .fieldLink R_BlockDesk 13 "BlockDesk" "starts" "[I", .fieldLink R_BlockDesk 17 "BlockDesk" "snapshotBytes" "[B", .fieldLink R_BlockDesk 9 "BlockDesk" "journal" "[B"] ++ w_BlockDesk)
def w_BlockDesk_state : List Cond := .code y_BlockDesk_state b_BlockDesk_state 2 (some .int) :: ([.fieldLink R_BlockDesk 23 "BlockDesk" "up" "Z", .fieldLink R_BlockDesk 79 "BlockDesk" "written" "I", .fieldLink R_BlockDesk 57 "BlockDesk" "records" "I", .fieldLink R_BlockDesk 82 "BlockDesk" "begin" "I", .methodLink R_BlockDesk 44 y_BlockDesk_usedPlaces, .instanceMethod y_BlockDesk_usedPlaces, .selects R_BlockDesk y_BlockDesk_usedPlaces y_BlockDesk_usedPlaces, .initialized R_BlockDesk, .code y_BlockDesk_usedPlaces b_BlockDesk_usedPlaces 1 (some .int), .fieldLink R_BlockDesk 13 "BlockDesk" "starts" "[I", .fieldLink R_BlockDesk 35 "BlockDesk" "handSize" "I"] ++ w_BlockDesk)
def w_BlockDesk_put : List Cond := .code y_BlockDesk_put b_BlockDesk_put 5 (some .boolean) :: ([.methodLink R_BlockDesk 31 y_BlockDesk_handTakes, .instanceMethod y_BlockDesk_handTakes, .selects R_BlockDesk y_BlockDesk_handTakes y_BlockDesk_handTakes, .initialized R_BlockDesk, .code y_BlockDesk_handTakes b_BlockDesk_handTakes 2 (some .boolean), .fieldLink R_BlockDesk 23 "BlockDesk" "up" "Z", .fieldLink R_BlockDesk 35 "BlockDesk" "handSize" "I", .fieldLink R_BlockDesk 20 "BlockDesk" "handBytes" "[B"] ++ w_BlockDesk)
def w_Arrays_rangeCheck : List Cond := .code y_Arrays_rangeCheck b_Arrays_rangeCheck 3 none :: ([])
def w_Arrays_fill : List Cond := .code y_Arrays_fill b_Arrays_fill 5 none :: ([.methodLink R_Arrays 13 y_Arrays_rangeCheck, .static y_Arrays_rangeCheck, .initialized R_Arrays, .code y_Arrays_rangeCheck b_Arrays_rangeCheck 3 none])
def w_BlockDesk_fill : List Cond := .code y_BlockDesk_fill b_BlockDesk_fill 3 (some .boolean) :: ([.methodLink R_BlockDesk 31 y_BlockDesk_handTakes, .instanceMethod y_BlockDesk_handTakes, .selects R_BlockDesk y_BlockDesk_handTakes y_BlockDesk_handTakes, .initialized R_BlockDesk, .code y_BlockDesk_handTakes b_BlockDesk_handTakes 2 (some .boolean), .fieldLink R_BlockDesk 23 "BlockDesk" "up" "Z", .fieldLink R_BlockDesk 35 "BlockDesk" "handSize" "I", .fieldLink R_BlockDesk 20 "BlockDesk" "handBytes" "[B", .methodLink R_BlockDesk 38 y_Arrays_fill, .static y_Arrays_fill, .initialized R_Arrays, .code y_Arrays_fill b_Arrays_fill 5 none, .methodLink R_Arrays 13 y_Arrays_rangeCheck, .static y_Arrays_rangeCheck, .code y_Arrays_rangeCheck b_Arrays_rangeCheck 3 none] ++ w_BlockDesk)
def w_BlockDesk_record : List Cond := .code y_BlockDesk_record b_BlockDesk_record 5 (some .int) :: ([.fieldLink R_BlockDesk 23 "BlockDesk" "up" "Z", .methodLink R_BlockDesk 44 y_BlockDesk_usedPlaces, .instanceMethod y_BlockDesk_usedPlaces, .selects R_BlockDesk y_BlockDesk_usedPlaces y_BlockDesk_usedPlaces, .initialized R_BlockDesk, .code y_BlockDesk_usedPlaces b_BlockDesk_usedPlaces 1 (some .int), .fieldLink R_BlockDesk 13 "BlockDesk" "starts" "[I", .fieldLink R_BlockDesk 57 "BlockDesk" "records" "I", .fieldLink R_BlockDesk 35 "BlockDesk" "handSize" "I", .fieldLink R_BlockDesk 9 "BlockDesk" "journal" "[B", .methodLink R_BlockDesk 48 y_BlockDesk_writeBlocks, .instanceMethod y_BlockDesk_writeBlocks, .selects R_BlockDesk y_BlockDesk_writeBlocks y_BlockDesk_writeBlocks, .code y_BlockDesk_writeBlocks b_BlockDesk_writeBlocks 2 (some .boolean), .fieldLink R_BlockDesk 27 "BlockDesk" "charge" "I", .fieldLink R_BlockDesk 79 "BlockDesk" "written" "I", .methodLink R_BlockDesk 70 y_BlockDesk_losePower, .instanceMethod y_BlockDesk_losePower, .selects R_BlockDesk y_BlockDesk_losePower y_BlockDesk_losePower, .code y_BlockDesk_losePower b_BlockDesk_losePower 1 none, .fieldLink R_BlockDesk 20 "BlockDesk" "handBytes" "[B", .methodLink R_BlockDesk 51 arraycopyName, .native arraycopyName, .static arraycopyName, .initialized "java/lang/System"] ++ w_BlockDesk)
def w_BlockDesk_snapshot : List Cond := .code y_BlockDesk_snapshot b_BlockDesk_snapshot 1 (some .int) :: ([.fieldLink R_BlockDesk 23 "BlockDesk" "up" "Z", .fieldLink R_BlockDesk 35 "BlockDesk" "handSize" "I", .methodLink R_BlockDesk 60 y_BlockDesk_blocksFor, .static y_BlockDesk_blocksFor, .initialized R_BlockDesk, .code y_BlockDesk_blocksFor b_BlockDesk_blocksFor 1 (some .int), .methodLink R_BlockDesk 48 y_BlockDesk_writeBlocks, .instanceMethod y_BlockDesk_writeBlocks, .selects R_BlockDesk y_BlockDesk_writeBlocks y_BlockDesk_writeBlocks, .code y_BlockDesk_writeBlocks b_BlockDesk_writeBlocks 2 (some .boolean), .fieldLink R_BlockDesk 27 "BlockDesk" "charge" "I", .fieldLink R_BlockDesk 79 "BlockDesk" "written" "I", .methodLink R_BlockDesk 70 y_BlockDesk_losePower, .instanceMethod y_BlockDesk_losePower, .selects R_BlockDesk y_BlockDesk_losePower y_BlockDesk_losePower, .code y_BlockDesk_losePower b_BlockDesk_losePower 1 none, .methodLink R_BlockDesk 64 y_BlockDesk_takeHandAsSnapshot, .instanceMethod y_BlockDesk_takeHandAsSnapshot, .selects R_BlockDesk y_BlockDesk_takeHandAsSnapshot y_BlockDesk_takeHandAsSnapshot, .code y_BlockDesk_takeHandAsSnapshot b_BlockDesk_takeHandAsSnapshot 2 none, .fieldLink R_BlockDesk 17 "BlockDesk" "snapshotBytes" "[B", .fieldLink R_BlockDesk 20 "BlockDesk" "handBytes" "[B", .fieldLink R_BlockDesk 73 "BlockDesk" "snapshotSize" "I", .methodLink R_BlockDesk 67 y_BlockDesk_beginJournalAnew, .instanceMethod y_BlockDesk_beginJournalAnew, .selects R_BlockDesk y_BlockDesk_beginJournalAnew y_BlockDesk_beginJournalAnew, .code y_BlockDesk_beginJournalAnew b_BlockDesk_beginJournalAnew 1 none, .fieldLink R_BlockDesk 82 "BlockDesk" "begin" "I", .methodLink R_BlockDesk 44 y_BlockDesk_usedPlaces, .instanceMethod y_BlockDesk_usedPlaces, .selects R_BlockDesk y_BlockDesk_usedPlaces y_BlockDesk_usedPlaces, .code y_BlockDesk_usedPlaces b_BlockDesk_usedPlaces 1 (some .int), .fieldLink R_BlockDesk 13 "BlockDesk" "starts" "[I", .fieldLink R_BlockDesk 57 "BlockDesk" "records" "I"] ++ w_BlockDesk)
def w_BlockDesk_init : List Cond := .code y_BlockDesk_init b_BlockDesk_init 4 none :: ([.methodLink R_BlockDesk 1 objectInit, .instanceMethod objectInit, .code objectInit ⟨#[0xb1]⟩ 1 none, .arrayClass .byte, .fieldLink R_BlockDesk 9 "BlockDesk" "journal" "[B", .arrayClass .int, .fieldLink R_BlockDesk 13 "BlockDesk" "starts" "[I", .fieldLink R_BlockDesk 17 "BlockDesk" "snapshotBytes" "[B", .fieldLink R_BlockDesk 20 "BlockDesk" "handBytes" "[B", .fieldLink R_BlockDesk 23 "BlockDesk" "up" "Z", .fieldLink R_BlockDesk 27 "BlockDesk" "charge" "I"] ++ w_BlockDesk)
def w_BlockDeskModel_hold : List Cond := .code y_BlockDeskModel_hold b_BlockDeskModel_hold 2 (some .boolean) :: ([.fieldLink R_BlockDeskModel 17 "BlockDeskModel" "hand" "[I", .fieldLink R_BlockDeskModel 33 "BlockDeskModel" "inHand" "I"] ++ w_BlockDeskModel)
def w_BlockDeskModel_write : List Cond := .code y_BlockDeskModel_write b_BlockDeskModel_write 3 (some .boolean) :: ([.fieldLink R_BlockDeskModel 13 "BlockDeskModel" "charge" "I", .fieldLink R_BlockDeskModel 40 "BlockDeskModel" "written" "I", .fieldLink R_BlockDeskModel 7 "BlockDeskModel" "up" "Z", .fieldLink R_BlockDeskModel 33 "BlockDeskModel" "inHand" "I"] ++ w_BlockDeskModel)
def w_BlockDeskModel_cut : List Cond := .code y_BlockDeskModel_cut b_BlockDeskModel_cut 1 (some .boolean) :: ([.fieldLink R_BlockDeskModel 7 "BlockDeskModel" "up" "Z", .fieldLink R_BlockDeskModel 13 "BlockDeskModel" "charge" "I", .fieldLink R_BlockDeskModel 33 "BlockDeskModel" "inHand" "I"] ++ w_BlockDeskModel)
def w_BlockDeskModel_start : List Cond := .code y_BlockDeskModel_start b_BlockDeskModel_start 1 (some .int) :: ([.fieldLink R_BlockDeskModel 7 "BlockDeskModel" "up" "Z", .methodLink R_BlockDeskModel 49 y_BlockDeskModel_write, .instanceMethod y_BlockDeskModel_write, .selects R_BlockDeskModel y_BlockDeskModel_write y_BlockDeskModel_write, .initialized R_BlockDeskModel, .code y_BlockDeskModel_write b_BlockDeskModel_write 3 (some .boolean), .fieldLink R_BlockDeskModel 13 "BlockDeskModel" "charge" "I", .fieldLink R_BlockDeskModel 40 "BlockDeskModel" "written" "I", .fieldLink R_BlockDeskModel 33 "BlockDeskModel" "inHand" "I"] ++ w_BlockDeskModel)
def w_BlockDeskModel_charge : List Cond := .code y_BlockDeskModel_charge b_BlockDeskModel_charge 2 (some .boolean) :: ([.fieldLink R_BlockDeskModel 13 "BlockDeskModel" "charge" "I"] ++ w_BlockDeskModel)
def w_BlockDeskModel_size : List Cond := .code y_BlockDeskModel_size b_BlockDeskModel_size 2 (some .int) :: ([.fieldLink R_BlockDeskModel 7 "BlockDeskModel" "up" "Z", .fieldLink R_BlockDeskModel 52 "BlockDeskModel" "records" "I", .fieldLink R_BlockDeskModel 55 "BlockDeskModel" "shotSize" "I", .fieldLink R_BlockDeskModel 27 "BlockDeskModel" "starts" "[I"] ++ w_BlockDeskModel)
def w_BlockDeskModel_byteOf : List Cond := .code y_BlockDeskModel_byteOf b_BlockDeskModel_byteOf 3 (some .int) :: ([.methodLink R_BlockDeskModel 58 y_BlockDeskModel_size, .instanceMethod y_BlockDeskModel_size, .selects R_BlockDeskModel y_BlockDeskModel_size y_BlockDeskModel_size, .initialized R_BlockDeskModel, .code y_BlockDeskModel_size b_BlockDeskModel_size 2 (some .int), .fieldLink R_BlockDeskModel 7 "BlockDeskModel" "up" "Z", .fieldLink R_BlockDeskModel 52 "BlockDeskModel" "records" "I", .fieldLink R_BlockDeskModel 55 "BlockDeskModel" "shotSize" "I", .fieldLink R_BlockDeskModel 27 "BlockDeskModel" "starts" "[I", .fieldLink R_BlockDeskModel 21 "BlockDeskModel" "shot" "[I", .fieldLink R_BlockDeskModel 24 "BlockDeskModel" "bytes" "[I"] ++ w_BlockDeskModel)
def w_BlockDeskModel_state : List Cond := .code y_BlockDeskModel_state b_BlockDeskModel_state 2 (some .int) :: ([.fieldLink R_BlockDeskModel 7 "BlockDeskModel" "up" "Z", .fieldLink R_BlockDeskModel 40 "BlockDeskModel" "written" "I", .fieldLink R_BlockDeskModel 52 "BlockDeskModel" "records" "I", .fieldLink R_BlockDeskModel 46 "BlockDeskModel" "begin" "I", .fieldLink R_BlockDeskModel 43 "BlockDeskModel" "end" "I", .fieldLink R_BlockDeskModel 33 "BlockDeskModel" "inHand" "I"] ++ w_BlockDeskModel)
def w_BlockDeskModel_put : List Cond := .code y_BlockDeskModel_put b_BlockDeskModel_put 5 (some .boolean) :: ([.fieldLink R_BlockDeskModel 7 "BlockDeskModel" "up" "Z", .fieldLink R_BlockDeskModel 33 "BlockDeskModel" "inHand" "I", .methodLink R_BlockDeskModel 36 y_BlockDeskModel_hold, .instanceMethod y_BlockDeskModel_hold, .selects R_BlockDeskModel y_BlockDeskModel_hold y_BlockDeskModel_hold, .initialized R_BlockDeskModel, .code y_BlockDeskModel_hold b_BlockDeskModel_hold 2 (some .boolean), .fieldLink R_BlockDeskModel 17 "BlockDeskModel" "hand" "[I"] ++ w_BlockDeskModel)
def w_BlockDeskModel_fill : List Cond := .code y_BlockDeskModel_fill b_BlockDeskModel_fill 4 (some .boolean) :: ([.fieldLink R_BlockDeskModel 7 "BlockDeskModel" "up" "Z", .fieldLink R_BlockDeskModel 33 "BlockDeskModel" "inHand" "I", .methodLink R_BlockDeskModel 36 y_BlockDeskModel_hold, .instanceMethod y_BlockDeskModel_hold, .selects R_BlockDeskModel y_BlockDeskModel_hold y_BlockDeskModel_hold, .initialized R_BlockDeskModel, .code y_BlockDeskModel_hold b_BlockDeskModel_hold 2 (some .boolean), .fieldLink R_BlockDeskModel 17 "BlockDeskModel" "hand" "[I"] ++ w_BlockDeskModel)
def w_BlockDeskModel_record : List Cond := .code y_BlockDeskModel_record b_BlockDeskModel_record 3 (some .int) :: ([.fieldLink R_BlockDeskModel 43 "BlockDeskModel" "end" "I", .fieldLink R_BlockDeskModel 33 "BlockDeskModel" "inHand" "I", .fieldLink R_BlockDeskModel 7 "BlockDeskModel" "up" "Z", .fieldLink R_BlockDeskModel 46 "BlockDeskModel" "begin" "I", .fieldLink R_BlockDeskModel 30 "BlockDeskModel" "blocks" "I", .methodLink R_BlockDeskModel 49 y_BlockDeskModel_write, .instanceMethod y_BlockDeskModel_write, .selects R_BlockDeskModel y_BlockDeskModel_write y_BlockDeskModel_write, .initialized R_BlockDeskModel, .code y_BlockDeskModel_write b_BlockDeskModel_write 3 (some .boolean), .fieldLink R_BlockDeskModel 13 "BlockDeskModel" "charge" "I", .fieldLink R_BlockDeskModel 40 "BlockDeskModel" "written" "I", .fieldLink R_BlockDeskModel 24 "BlockDeskModel" "bytes" "[I", .fieldLink R_BlockDeskModel 27 "BlockDeskModel" "starts" "[I", .fieldLink R_BlockDeskModel 52 "BlockDeskModel" "records" "I", .fieldLink R_BlockDeskModel 17 "BlockDeskModel" "hand" "[I"] ++ w_BlockDeskModel)
def w_BlockDeskModel_snapshot : List Cond := .code y_BlockDeskModel_snapshot b_BlockDeskModel_snapshot 2 (some .int) :: ([.fieldLink R_BlockDeskModel 7 "BlockDeskModel" "up" "Z", .fieldLink R_BlockDeskModel 33 "BlockDeskModel" "inHand" "I", .methodLink R_BlockDeskModel 49 y_BlockDeskModel_write, .instanceMethod y_BlockDeskModel_write, .selects R_BlockDeskModel y_BlockDeskModel_write y_BlockDeskModel_write, .initialized R_BlockDeskModel, .code y_BlockDeskModel_write b_BlockDeskModel_write 3 (some .boolean), .fieldLink R_BlockDeskModel 13 "BlockDeskModel" "charge" "I", .fieldLink R_BlockDeskModel 40 "BlockDeskModel" "written" "I", .fieldLink R_BlockDeskModel 21 "BlockDeskModel" "shot" "[I", .fieldLink R_BlockDeskModel 17 "BlockDeskModel" "hand" "[I", .fieldLink R_BlockDeskModel 55 "BlockDeskModel" "shotSize" "I", .fieldLink R_BlockDeskModel 52 "BlockDeskModel" "records" "I", .fieldLink R_BlockDeskModel 43 "BlockDeskModel" "end" "I", .fieldLink R_BlockDeskModel 46 "BlockDeskModel" "begin" "I"] ++ w_BlockDeskModel)
def w_BlockDeskModel_init : List Cond := .code y_BlockDeskModel_init b_BlockDeskModel_init 2 none :: ([.methodLink R_BlockDeskModel 1 objectInit, .instanceMethod objectInit, .code objectInit ⟨#[0xb1]⟩ 1 none, .fieldLink R_BlockDeskModel 7 "BlockDeskModel" "up" "Z", .fieldLink R_BlockDeskModel 13 "BlockDeskModel" "charge" "I", .arrayClass .int, .fieldLink R_BlockDeskModel 17 "BlockDeskModel" "hand" "[I", .fieldLink R_BlockDeskModel 21 "BlockDeskModel" "shot" "[I", .fieldLink R_BlockDeskModel 24 "BlockDeskModel" "bytes" "[I", .fieldLink R_BlockDeskModel 27 "BlockDeskModel" "starts" "[I", .fieldLink R_BlockDeskModel 30 "BlockDeskModel" "blocks" "I"] ++ w_BlockDeskModel)
def w_law_cell : List Cond := .code y_law_cell b_law_cell 2 (some .int) :: ([])
abbrev classes : List vw_C := [(R_BlockDesk, F_BlockDesk, 11), (R_BlockDeskModel, F_BlockDeskModel, 13)]
theorem n_BlockDesk : ∀ a, a < 11 → ∀ b, b < 11 → a ≠ b → (F_BlockDesk a).2.1 ≠ (F_BlockDesk b).2.1 := by decide +kernel
theorem t_BlockDesk_ok : ∀ k, k < 11 → parseFieldDescriptor (F_BlockDesk k).2.2.1 = some (t_BlockDesk k) := by decide +kernel
theorem i_BlockDesk : ∀ w ∈ w_BlockDesk, w ∈ lw_tbl := by decide +kernel
theorem n_BlockDeskModel : ∀ a, a < 13 → ∀ b, b < 13 → a ≠ b → (F_BlockDeskModel a).2.1 ≠ (F_BlockDeskModel b).2.1 := by decide +kernel
theorem t_BlockDeskModel_ok : ∀ k, k < 13 → parseFieldDescriptor (F_BlockDeskModel k).2.2.1 = some (t_BlockDeskModel k) := by decide +kernel
theorem i_BlockDeskModel : ∀ w ∈ w_BlockDeskModel, w ∈ lw_tbl := by decide +kernel
theorem d_BlockDesk_handTakes_0 : decode b_BlockDesk_handTakes 0 = .ok (.aload_n 0, 1) := by decide +kernel
theorem d_BlockDesk_handTakes_1 : decode b_BlockDesk_handTakes 1 = .ok (.getfield 23, 3) := by decide +kernel
theorem d_BlockDesk_handTakes_4 : decode b_BlockDesk_handTakes 4 = .ok (.ifCond .eq 19, 3) := by decide +kernel
theorem d_BlockDesk_handTakes_7 : decode b_BlockDesk_handTakes 7 = .ok (.iload_n 1, 1) := by decide +kernel
theorem d_BlockDesk_handTakes_8 : decode b_BlockDesk_handTakes 8 = .ok (.sipush 8000, 3) := by decide +kernel
theorem d_BlockDesk_handTakes_11 : decode b_BlockDesk_handTakes 11 = .ok (.aload_n 0, 1) := by decide +kernel
theorem d_BlockDesk_handTakes_12 : decode b_BlockDesk_handTakes 12 = .ok (.getfield 35, 3) := by decide +kernel
theorem d_BlockDesk_handTakes_15 : decode b_BlockDesk_handTakes 15 = .ok (.isub, 1) := by decide +kernel
theorem d_BlockDesk_handTakes_16 : decode b_BlockDesk_handTakes 16 = .ok (.if_icmp .gt 7, 3) := by decide +kernel
theorem d_BlockDesk_handTakes_19 : decode b_BlockDesk_handTakes 19 = .ok (.iconst 1, 1) := by decide +kernel
theorem d_BlockDesk_handTakes_20 : decode b_BlockDesk_handTakes 20 = .ok (.goto 4, 3) := by decide +kernel
theorem d_BlockDesk_handTakes_23 : decode b_BlockDesk_handTakes 23 = .ok (.iconst 0, 1) := by decide +kernel
theorem d_BlockDesk_handTakes_24 : decode b_BlockDesk_handTakes 24 = .ok (.ireturn, 1) := by decide +kernel
theorem d_BlockDesk_losePower_0 : decode b_BlockDesk_losePower 0 = .ok (.aload_n 0, 1) := by decide +kernel
theorem d_BlockDesk_losePower_1 : decode b_BlockDesk_losePower 1 = .ok (.iconst 0, 1) := by decide +kernel
theorem d_BlockDesk_losePower_2 : decode b_BlockDesk_losePower 2 = .ok (.putfield 23, 3) := by decide +kernel
theorem d_BlockDesk_losePower_5 : decode b_BlockDesk_losePower 5 = .ok (.aload_n 0, 1) := by decide +kernel
theorem d_BlockDesk_losePower_6 : decode b_BlockDesk_losePower 6 = .ok (.iconst 0, 1) := by decide +kernel
theorem d_BlockDesk_losePower_7 : decode b_BlockDesk_losePower 7 = .ok (.putfield 35, 3) := by decide +kernel
theorem d_BlockDesk_losePower_10 : decode b_BlockDesk_losePower 10 = .ok (.aload_n 0, 1) := by decide +kernel
theorem d_BlockDesk_losePower_11 : decode b_BlockDesk_losePower 11 = .ok (.iconst (-1), 1) := by decide +kernel
theorem d_BlockDesk_losePower_12 : decode b_BlockDesk_losePower 12 = .ok (.putfield 27, 3) := by decide +kernel
theorem d_BlockDesk_losePower_15 : decode b_BlockDesk_losePower 15 = .ok (.return_, 1) := by decide +kernel
theorem d_BlockDesk_usedPlaces_0 : decode b_BlockDesk_usedPlaces 0 = .ok (.aload_n 0, 1) := by decide +kernel
theorem d_BlockDesk_usedPlaces_1 : decode b_BlockDesk_usedPlaces 1 = .ok (.getfield 13, 3) := by decide +kernel
theorem d_BlockDesk_usedPlaces_4 : decode b_BlockDesk_usedPlaces 4 = .ok (.aload_n 0, 1) := by decide +kernel
theorem d_BlockDesk_usedPlaces_5 : decode b_BlockDesk_usedPlaces 5 = .ok (.getfield 57, 3) := by decide +kernel
theorem d_BlockDesk_usedPlaces_8 : decode b_BlockDesk_usedPlaces 8 = .ok (.iaload, 1) := by decide +kernel
theorem d_BlockDesk_usedPlaces_9 : decode b_BlockDesk_usedPlaces 9 = .ok (.ireturn, 1) := by decide +kernel
theorem d_BlockDesk_blocksFor_0 : decode b_BlockDesk_blocksFor 0 = .ok (.iload_n 0, 1) := by decide +kernel
theorem d_BlockDesk_blocksFor_1 : decode b_BlockDesk_blocksFor 1 = .ok (.sipush 500, 3) := by decide +kernel
theorem d_BlockDesk_blocksFor_4 : decode b_BlockDesk_blocksFor 4 = .ok (.iadd, 1) := by decide +kernel
theorem d_BlockDesk_blocksFor_5 : decode b_BlockDesk_blocksFor 5 = .ok (.iconst 1, 1) := by decide +kernel
theorem d_BlockDesk_blocksFor_6 : decode b_BlockDesk_blocksFor 6 = .ok (.isub, 1) := by decide +kernel
theorem d_BlockDesk_blocksFor_7 : decode b_BlockDesk_blocksFor 7 = .ok (.sipush 500, 3) := by decide +kernel
theorem d_BlockDesk_blocksFor_10 : decode b_BlockDesk_blocksFor 10 = .ok (.idiv, 1) := by decide +kernel
theorem d_BlockDesk_blocksFor_11 : decode b_BlockDesk_blocksFor 11 = .ok (.ireturn, 1) := by decide +kernel
theorem d_BlockDesk_takeHandAsSnapshot_0 : decode b_BlockDesk_takeHandAsSnapshot 0 = .ok (.aload_n 0, 1) := by decide +kernel
theorem d_BlockDesk_takeHandAsSnapshot_1 : decode b_BlockDesk_takeHandAsSnapshot 1 = .ok (.getfield 17, 3) := by decide +kernel
theorem d_BlockDesk_takeHandAsSnapshot_4 : decode b_BlockDesk_takeHandAsSnapshot 4 = .ok (.astore_n 1, 1) := by decide +kernel
theorem d_BlockDesk_takeHandAsSnapshot_5 : decode b_BlockDesk_takeHandAsSnapshot 5 = .ok (.aload_n 0, 1) := by decide +kernel
theorem d_BlockDesk_takeHandAsSnapshot_6 : decode b_BlockDesk_takeHandAsSnapshot 6 = .ok (.aload_n 0, 1) := by decide +kernel
theorem d_BlockDesk_takeHandAsSnapshot_7 : decode b_BlockDesk_takeHandAsSnapshot 7 = .ok (.getfield 20, 3) := by decide +kernel
theorem d_BlockDesk_takeHandAsSnapshot_10 : decode b_BlockDesk_takeHandAsSnapshot 10 = .ok (.putfield 17, 3) := by decide +kernel
theorem d_BlockDesk_takeHandAsSnapshot_13 : decode b_BlockDesk_takeHandAsSnapshot 13 = .ok (.aload_n 0, 1) := by decide +kernel
theorem d_BlockDesk_takeHandAsSnapshot_14 : decode b_BlockDesk_takeHandAsSnapshot 14 = .ok (.aload_n 0, 1) := by decide +kernel
theorem d_BlockDesk_takeHandAsSnapshot_15 : decode b_BlockDesk_takeHandAsSnapshot 15 = .ok (.getfield 35, 3) := by decide +kernel
theorem d_BlockDesk_takeHandAsSnapshot_18 : decode b_BlockDesk_takeHandAsSnapshot 18 = .ok (.putfield 73, 3) := by decide +kernel
theorem d_BlockDesk_takeHandAsSnapshot_21 : decode b_BlockDesk_takeHandAsSnapshot 21 = .ok (.aload_n 0, 1) := by decide +kernel
theorem d_BlockDesk_takeHandAsSnapshot_22 : decode b_BlockDesk_takeHandAsSnapshot 22 = .ok (.aload_n 1, 1) := by decide +kernel
theorem d_BlockDesk_takeHandAsSnapshot_23 : decode b_BlockDesk_takeHandAsSnapshot 23 = .ok (.putfield 20, 3) := by decide +kernel
theorem d_BlockDesk_takeHandAsSnapshot_26 : decode b_BlockDesk_takeHandAsSnapshot 26 = .ok (.aload_n 0, 1) := by decide +kernel
theorem d_BlockDesk_takeHandAsSnapshot_27 : decode b_BlockDesk_takeHandAsSnapshot 27 = .ok (.iconst 0, 1) := by decide +kernel
theorem d_BlockDesk_takeHandAsSnapshot_28 : decode b_BlockDesk_takeHandAsSnapshot 28 = .ok (.putfield 35, 3) := by decide +kernel
theorem d_BlockDesk_takeHandAsSnapshot_31 : decode b_BlockDesk_takeHandAsSnapshot 31 = .ok (.return_, 1) := by decide +kernel
theorem d_BlockDesk_writeBlocks_0 : decode b_BlockDesk_writeBlocks 0 = .ok (.aload_n 0, 1) := by decide +kernel
theorem d_BlockDesk_writeBlocks_1 : decode b_BlockDesk_writeBlocks 1 = .ok (.getfield 27, 3) := by decide +kernel
theorem d_BlockDesk_writeBlocks_4 : decode b_BlockDesk_writeBlocks 4 = .ok (.iconst (-1), 1) := by decide +kernel
theorem d_BlockDesk_writeBlocks_5 : decode b_BlockDesk_writeBlocks 5 = .ok (.if_icmp .ne 15, 3) := by decide +kernel
theorem d_BlockDesk_writeBlocks_8 : decode b_BlockDesk_writeBlocks 8 = .ok (.aload_n 0, 1) := by decide +kernel
theorem d_BlockDesk_writeBlocks_9 : decode b_BlockDesk_writeBlocks 9 = .ok (.dup, 1) := by decide +kernel
theorem d_BlockDesk_writeBlocks_10 : decode b_BlockDesk_writeBlocks 10 = .ok (.getfield 79, 3) := by decide +kernel
theorem d_BlockDesk_writeBlocks_13 : decode b_BlockDesk_writeBlocks 13 = .ok (.iload_n 1, 1) := by decide +kernel
theorem d_BlockDesk_writeBlocks_14 : decode b_BlockDesk_writeBlocks 14 = .ok (.iadd, 1) := by decide +kernel
theorem d_BlockDesk_writeBlocks_15 : decode b_BlockDesk_writeBlocks 15 = .ok (.putfield 79, 3) := by decide +kernel
theorem d_BlockDesk_writeBlocks_18 : decode b_BlockDesk_writeBlocks 18 = .ok (.iconst 1, 1) := by decide +kernel
theorem d_BlockDesk_writeBlocks_19 : decode b_BlockDesk_writeBlocks 19 = .ok (.ireturn, 1) := by decide +kernel
theorem d_BlockDesk_writeBlocks_20 : decode b_BlockDesk_writeBlocks 20 = .ok (.iload_n 1, 1) := by decide +kernel
theorem d_BlockDesk_writeBlocks_21 : decode b_BlockDesk_writeBlocks 21 = .ok (.aload_n 0, 1) := by decide +kernel
theorem d_BlockDesk_writeBlocks_22 : decode b_BlockDesk_writeBlocks 22 = .ok (.getfield 27, 3) := by decide +kernel
theorem d_BlockDesk_writeBlocks_25 : decode b_BlockDesk_writeBlocks 25 = .ok (.if_icmp .gt 25, 3) := by decide +kernel
theorem d_BlockDesk_writeBlocks_28 : decode b_BlockDesk_writeBlocks 28 = .ok (.aload_n 0, 1) := by decide +kernel
theorem d_BlockDesk_writeBlocks_29 : decode b_BlockDesk_writeBlocks 29 = .ok (.dup, 1) := by decide +kernel
theorem d_BlockDesk_writeBlocks_30 : decode b_BlockDesk_writeBlocks 30 = .ok (.getfield 27, 3) := by decide +kernel
theorem d_BlockDesk_writeBlocks_33 : decode b_BlockDesk_writeBlocks 33 = .ok (.iload_n 1, 1) := by decide +kernel
theorem d_BlockDesk_writeBlocks_34 : decode b_BlockDesk_writeBlocks 34 = .ok (.isub, 1) := by decide +kernel
theorem d_BlockDesk_writeBlocks_35 : decode b_BlockDesk_writeBlocks 35 = .ok (.putfield 27, 3) := by decide +kernel
theorem d_BlockDesk_writeBlocks_38 : decode b_BlockDesk_writeBlocks 38 = .ok (.aload_n 0, 1) := by decide +kernel
theorem d_BlockDesk_writeBlocks_39 : decode b_BlockDesk_writeBlocks 39 = .ok (.dup, 1) := by decide +kernel
theorem d_BlockDesk_writeBlocks_40 : decode b_BlockDesk_writeBlocks 40 = .ok (.getfield 79, 3) := by decide +kernel
theorem d_BlockDesk_writeBlocks_43 : decode b_BlockDesk_writeBlocks 43 = .ok (.iload_n 1, 1) := by decide +kernel
theorem d_BlockDesk_writeBlocks_44 : decode b_BlockDesk_writeBlocks 44 = .ok (.iadd, 1) := by decide +kernel
theorem d_BlockDesk_writeBlocks_45 : decode b_BlockDesk_writeBlocks 45 = .ok (.putfield 79, 3) := by decide +kernel
theorem d_BlockDesk_writeBlocks_48 : decode b_BlockDesk_writeBlocks 48 = .ok (.iconst 1, 1) := by decide +kernel
theorem d_BlockDesk_writeBlocks_49 : decode b_BlockDesk_writeBlocks 49 = .ok (.ireturn, 1) := by decide +kernel
theorem d_BlockDesk_writeBlocks_50 : decode b_BlockDesk_writeBlocks 50 = .ok (.aload_n 0, 1) := by decide +kernel
theorem d_BlockDesk_writeBlocks_51 : decode b_BlockDesk_writeBlocks 51 = .ok (.dup, 1) := by decide +kernel
theorem d_BlockDesk_writeBlocks_52 : decode b_BlockDesk_writeBlocks 52 = .ok (.getfield 79, 3) := by decide +kernel
theorem d_BlockDesk_writeBlocks_55 : decode b_BlockDesk_writeBlocks 55 = .ok (.aload_n 0, 1) := by decide +kernel
theorem d_BlockDesk_writeBlocks_56 : decode b_BlockDesk_writeBlocks 56 = .ok (.getfield 27, 3) := by decide +kernel
theorem d_BlockDesk_writeBlocks_59 : decode b_BlockDesk_writeBlocks 59 = .ok (.iadd, 1) := by decide +kernel
theorem d_BlockDesk_writeBlocks_60 : decode b_BlockDesk_writeBlocks 60 = .ok (.putfield 79, 3) := by decide +kernel
theorem d_BlockDesk_writeBlocks_63 : decode b_BlockDesk_writeBlocks 63 = .ok (.aload_n 0, 1) := by decide +kernel
theorem d_BlockDesk_writeBlocks_64 : decode b_BlockDesk_writeBlocks 64 = .ok (.invokevirtual 70, 3) := by decide +kernel
theorem d_BlockDesk_writeBlocks_67 : decode b_BlockDesk_writeBlocks 67 = .ok (.iconst 0, 1) := by decide +kernel
theorem d_BlockDesk_writeBlocks_68 : decode b_BlockDesk_writeBlocks 68 = .ok (.ireturn, 1) := by decide +kernel
theorem d_BlockDesk_beginJournalAnew_0 : decode b_BlockDesk_beginJournalAnew 0 = .ok (.aload_n 0, 1) := by decide +kernel
theorem d_BlockDesk_beginJournalAnew_1 : decode b_BlockDesk_beginJournalAnew 1 = .ok (.dup, 1) := by decide +kernel
theorem d_BlockDesk_beginJournalAnew_2 : decode b_BlockDesk_beginJournalAnew 2 = .ok (.getfield 82, 3) := by decide +kernel
theorem d_BlockDesk_beginJournalAnew_5 : decode b_BlockDesk_beginJournalAnew 5 = .ok (.aload_n 0, 1) := by decide +kernel
theorem d_BlockDesk_beginJournalAnew_6 : decode b_BlockDesk_beginJournalAnew 6 = .ok (.invokevirtual 44, 3) := by decide +kernel
theorem d_BlockDesk_beginJournalAnew_9 : decode b_BlockDesk_beginJournalAnew 9 = .ok (.invokestatic 60, 3) := by decide +kernel
theorem d_BlockDesk_beginJournalAnew_12 : decode b_BlockDesk_beginJournalAnew 12 = .ok (.sipush 500, 3) := by decide +kernel
theorem d_BlockDesk_beginJournalAnew_15 : decode b_BlockDesk_beginJournalAnew 15 = .ok (.imul, 1) := by decide +kernel
theorem d_BlockDesk_beginJournalAnew_16 : decode b_BlockDesk_beginJournalAnew 16 = .ok (.iadd, 1) := by decide +kernel
theorem d_BlockDesk_beginJournalAnew_17 : decode b_BlockDesk_beginJournalAnew 17 = .ok (.putfield 82, 3) := by decide +kernel
theorem d_BlockDesk_beginJournalAnew_20 : decode b_BlockDesk_beginJournalAnew 20 = .ok (.aload_n 0, 1) := by decide +kernel
theorem d_BlockDesk_beginJournalAnew_21 : decode b_BlockDesk_beginJournalAnew 21 = .ok (.iconst 0, 1) := by decide +kernel
theorem d_BlockDesk_beginJournalAnew_22 : decode b_BlockDesk_beginJournalAnew 22 = .ok (.putfield 57, 3) := by decide +kernel
theorem d_BlockDesk_beginJournalAnew_25 : decode b_BlockDesk_beginJournalAnew 25 = .ok (.return_, 1) := by decide +kernel
theorem d_BlockDesk_cut_0 : decode b_BlockDesk_cut 0 = .ok (.aload_n 0, 1) := by decide +kernel
theorem d_BlockDesk_cut_1 : decode b_BlockDesk_cut 1 = .ok (.getfield 23, 3) := by decide +kernel
theorem d_BlockDesk_cut_4 : decode b_BlockDesk_cut 4 = .ok (.ifCond .ne 5, 3) := by decide +kernel
theorem d_BlockDesk_cut_7 : decode b_BlockDesk_cut 7 = .ok (.iconst 0, 1) := by decide +kernel
theorem d_BlockDesk_cut_8 : decode b_BlockDesk_cut 8 = .ok (.ireturn, 1) := by decide +kernel
theorem d_BlockDesk_cut_9 : decode b_BlockDesk_cut 9 = .ok (.aload_n 0, 1) := by decide +kernel
theorem d_BlockDesk_cut_10 : decode b_BlockDesk_cut 10 = .ok (.invokevirtual 70, 3) := by decide +kernel
theorem d_BlockDesk_cut_13 : decode b_BlockDesk_cut 13 = .ok (.iconst 1, 1) := by decide +kernel
theorem d_BlockDesk_cut_14 : decode b_BlockDesk_cut 14 = .ok (.ireturn, 1) := by decide +kernel
theorem d_BlockDesk_start_0 : decode b_BlockDesk_start 0 = .ok (.aload_n 0, 1) := by decide +kernel
theorem d_BlockDesk_start_1 : decode b_BlockDesk_start 1 = .ok (.getfield 23, 3) := by decide +kernel
theorem d_BlockDesk_start_4 : decode b_BlockDesk_start 4 = .ok (.ifCond .eq 5, 3) := by decide +kernel
theorem d_BlockDesk_start_7 : decode b_BlockDesk_start 7 = .ok (.iconst 0, 1) := by decide +kernel
theorem d_BlockDesk_start_8 : decode b_BlockDesk_start 8 = .ok (.ireturn, 1) := by decide +kernel
theorem d_BlockDesk_start_9 : decode b_BlockDesk_start 9 = .ok (.aload_n 0, 1) := by decide +kernel
theorem d_BlockDesk_start_10 : decode b_BlockDesk_start 10 = .ok (.iconst 1, 1) := by decide +kernel
theorem d_BlockDesk_start_11 : decode b_BlockDesk_start 11 = .ok (.invokevirtual 48, 3) := by decide +kernel
theorem d_BlockDesk_start_14 : decode b_BlockDesk_start 14 = .ok (.ifCond .ne 5, 3) := by decide +kernel
theorem d_BlockDesk_start_17 : decode b_BlockDesk_start 17 = .ok (.iconst 2, 1) := by decide +kernel
theorem d_BlockDesk_start_18 : decode b_BlockDesk_start 18 = .ok (.ireturn, 1) := by decide +kernel
theorem d_BlockDesk_start_19 : decode b_BlockDesk_start 19 = .ok (.aload_n 0, 1) := by decide +kernel
theorem d_BlockDesk_start_20 : decode b_BlockDesk_start 20 = .ok (.iconst 1, 1) := by decide +kernel
theorem d_BlockDesk_start_21 : decode b_BlockDesk_start 21 = .ok (.putfield 23, 3) := by decide +kernel
theorem d_BlockDesk_start_24 : decode b_BlockDesk_start 24 = .ok (.iconst 1, 1) := by decide +kernel
theorem d_BlockDesk_start_25 : decode b_BlockDesk_start 25 = .ok (.ireturn, 1) := by decide +kernel
theorem d_BlockDesk_charge_0 : decode b_BlockDesk_charge 0 = .ok (.iload_n 1, 1) := by decide +kernel
theorem d_BlockDesk_charge_1 : decode b_BlockDesk_charge 1 = .ok (.ifCond .lt 10, 3) := by decide +kernel
theorem d_BlockDesk_charge_4 : decode b_BlockDesk_charge 4 = .ok (.iload_n 1, 1) := by decide +kernel
theorem d_BlockDesk_charge_5 : decode b_BlockDesk_charge 5 = .ok (.sipush 999, 3) := by decide +kernel
theorem d_BlockDesk_charge_8 : decode b_BlockDesk_charge 8 = .ok (.if_icmp .le 5, 3) := by decide +kernel
theorem d_BlockDesk_charge_11 : decode b_BlockDesk_charge 11 = .ok (.iconst 0, 1) := by decide +kernel
theorem d_BlockDesk_charge_12 : decode b_BlockDesk_charge 12 = .ok (.ireturn, 1) := by decide +kernel
theorem d_BlockDesk_charge_13 : decode b_BlockDesk_charge 13 = .ok (.aload_n 0, 1) := by decide +kernel
theorem d_BlockDesk_charge_14 : decode b_BlockDesk_charge 14 = .ok (.iload_n 1, 1) := by decide +kernel
theorem d_BlockDesk_charge_15 : decode b_BlockDesk_charge 15 = .ok (.putfield 27, 3) := by decide +kernel
theorem d_BlockDesk_charge_18 : decode b_BlockDesk_charge 18 = .ok (.iconst 1, 1) := by decide +kernel
theorem d_BlockDesk_charge_19 : decode b_BlockDesk_charge 19 = .ok (.ireturn, 1) := by decide +kernel
theorem d_BlockDesk_size_0 : decode b_BlockDesk_size 0 = .ok (.aload_n 0, 1) := by decide +kernel
theorem d_BlockDesk_size_1 : decode b_BlockDesk_size 1 = .ok (.getfield 23, 3) := by decide +kernel
theorem d_BlockDesk_size_4 : decode b_BlockDesk_size 4 = .ok (.ifCond .eq 16, 3) := by decide +kernel
theorem d_BlockDesk_size_7 : decode b_BlockDesk_size 7 = .ok (.iload_n 1, 1) := by decide +kernel
theorem d_BlockDesk_size_8 : decode b_BlockDesk_size 8 = .ok (.iconst (-1), 1) := by decide +kernel
theorem d_BlockDesk_size_9 : decode b_BlockDesk_size 9 = .ok (.if_icmp .lt 11, 3) := by decide +kernel
theorem d_BlockDesk_size_12 : decode b_BlockDesk_size 12 = .ok (.iload_n 1, 1) := by decide +kernel
theorem d_BlockDesk_size_13 : decode b_BlockDesk_size 13 = .ok (.aload_n 0, 1) := by decide +kernel
theorem d_BlockDesk_size_14 : decode b_BlockDesk_size 14 = .ok (.getfield 57, 3) := by decide +kernel
theorem d_BlockDesk_size_17 : decode b_BlockDesk_size 17 = .ok (.if_icmp .lt 5, 3) := by decide +kernel
theorem d_BlockDesk_size_20 : decode b_BlockDesk_size 20 = .ok (.iconst (-1), 1) := by decide +kernel
theorem d_BlockDesk_size_21 : decode b_BlockDesk_size 21 = .ok (.ireturn, 1) := by decide +kernel
theorem d_BlockDesk_size_22 : decode b_BlockDesk_size 22 = .ok (.iload_n 1, 1) := by decide +kernel
theorem d_BlockDesk_size_23 : decode b_BlockDesk_size 23 = .ok (.iconst (-1), 1) := by decide +kernel
theorem d_BlockDesk_size_24 : decode b_BlockDesk_size 24 = .ok (.if_icmp .ne 8, 3) := by decide +kernel
theorem d_BlockDesk_size_27 : decode b_BlockDesk_size 27 = .ok (.aload_n 0, 1) := by decide +kernel
theorem d_BlockDesk_size_28 : decode b_BlockDesk_size 28 = .ok (.getfield 73, 3) := by decide +kernel
theorem d_BlockDesk_size_31 : decode b_BlockDesk_size 31 = .ok (.ireturn, 1) := by decide +kernel
theorem d_BlockDesk_size_32 : decode b_BlockDesk_size 32 = .ok (.aload_n 0, 1) := by decide +kernel
theorem d_BlockDesk_size_33 : decode b_BlockDesk_size 33 = .ok (.getfield 13, 3) := by decide +kernel
theorem d_BlockDesk_size_36 : decode b_BlockDesk_size 36 = .ok (.iload_n 1, 1) := by decide +kernel
theorem d_BlockDesk_size_37 : decode b_BlockDesk_size 37 = .ok (.iconst 1, 1) := by decide +kernel
theorem d_BlockDesk_size_38 : decode b_BlockDesk_size 38 = .ok (.iadd, 1) := by decide +kernel
theorem d_BlockDesk_size_39 : decode b_BlockDesk_size 39 = .ok (.iaload, 1) := by decide +kernel
theorem d_BlockDesk_size_40 : decode b_BlockDesk_size 40 = .ok (.aload_n 0, 1) := by decide +kernel
theorem d_BlockDesk_size_41 : decode b_BlockDesk_size 41 = .ok (.getfield 13, 3) := by decide +kernel
theorem d_BlockDesk_size_44 : decode b_BlockDesk_size 44 = .ok (.iload_n 1, 1) := by decide +kernel
theorem d_BlockDesk_size_45 : decode b_BlockDesk_size 45 = .ok (.iaload, 1) := by decide +kernel
theorem d_BlockDesk_size_46 : decode b_BlockDesk_size 46 = .ok (.isub, 1) := by decide +kernel
theorem d_BlockDesk_size_47 : decode b_BlockDesk_size 47 = .ok (.iconst 4, 1) := by decide +kernel
theorem d_BlockDesk_size_48 : decode b_BlockDesk_size 48 = .ok (.isub, 1) := by decide +kernel
theorem d_BlockDesk_size_49 : decode b_BlockDesk_size 49 = .ok (.ireturn, 1) := by decide +kernel
theorem d_BlockDesk_byteOf_0 : decode b_BlockDesk_byteOf 0 = .ok (.iload_n 2, 1) := by decide +kernel
theorem d_BlockDesk_byteOf_1 : decode b_BlockDesk_byteOf 1 = .ok (.ifCond .lt 12, 3) := by decide +kernel
theorem d_BlockDesk_byteOf_4 : decode b_BlockDesk_byteOf 4 = .ok (.iload_n 2, 1) := by decide +kernel
theorem d_BlockDesk_byteOf_5 : decode b_BlockDesk_byteOf 5 = .ok (.aload_n 0, 1) := by decide +kernel
theorem d_BlockDesk_byteOf_6 : decode b_BlockDesk_byteOf 6 = .ok (.iload_n 1, 1) := by decide +kernel
theorem d_BlockDesk_byteOf_7 : decode b_BlockDesk_byteOf 7 = .ok (.invokevirtual 76, 3) := by decide +kernel
theorem d_BlockDesk_byteOf_10 : decode b_BlockDesk_byteOf 10 = .ok (.if_icmp .lt 5, 3) := by decide +kernel
theorem d_BlockDesk_byteOf_13 : decode b_BlockDesk_byteOf 13 = .ok (.iconst (-1), 1) := by decide +kernel
theorem d_BlockDesk_byteOf_14 : decode b_BlockDesk_byteOf 14 = .ok (.ireturn, 1) := by decide +kernel
theorem d_BlockDesk_byteOf_15 : decode b_BlockDesk_byteOf 15 = .ok (.iload_n 1, 1) := by decide +kernel
theorem d_BlockDesk_byteOf_16 : decode b_BlockDesk_byteOf 16 = .ok (.iconst (-1), 1) := by decide +kernel
theorem d_BlockDesk_byteOf_17 : decode b_BlockDesk_byteOf 17 = .ok (.if_icmp .ne 12, 3) := by decide +kernel
theorem d_BlockDesk_byteOf_20 : decode b_BlockDesk_byteOf 20 = .ok (.aload_n 0, 1) := by decide +kernel
theorem d_BlockDesk_byteOf_21 : decode b_BlockDesk_byteOf 21 = .ok (.getfield 17, 3) := by decide +kernel
theorem d_BlockDesk_byteOf_24 : decode b_BlockDesk_byteOf 24 = .ok (.iload_n 2, 1) := by decide +kernel
theorem d_BlockDesk_byteOf_25 : decode b_BlockDesk_byteOf 25 = .ok (.baload, 1) := by decide +kernel
theorem d_BlockDesk_byteOf_26 : decode b_BlockDesk_byteOf 26 = .ok (.goto 18, 3) := by decide +kernel
theorem d_BlockDesk_byteOf_29 : decode b_BlockDesk_byteOf 29 = .ok (.aload_n 0, 1) := by decide +kernel
theorem d_BlockDesk_byteOf_30 : decode b_BlockDesk_byteOf 30 = .ok (.getfield 9, 3) := by decide +kernel
theorem d_BlockDesk_byteOf_33 : decode b_BlockDesk_byteOf 33 = .ok (.aload_n 0, 1) := by decide +kernel
theorem d_BlockDesk_byteOf_34 : decode b_BlockDesk_byteOf 34 = .ok (.getfield 13, 3) := by decide +kernel
theorem d_BlockDesk_byteOf_37 : decode b_BlockDesk_byteOf 37 = .ok (.iload_n 1, 1) := by decide +kernel
theorem d_BlockDesk_byteOf_38 : decode b_BlockDesk_byteOf 38 = .ok (.iaload, 1) := by decide +kernel
theorem d_BlockDesk_byteOf_39 : decode b_BlockDesk_byteOf 39 = .ok (.iconst 4, 1) := by decide +kernel
theorem d_BlockDesk_byteOf_40 : decode b_BlockDesk_byteOf 40 = .ok (.iadd, 1) := by decide +kernel
theorem d_BlockDesk_byteOf_41 : decode b_BlockDesk_byteOf 41 = .ok (.iload_n 2, 1) := by decide +kernel
theorem d_BlockDesk_byteOf_42 : decode b_BlockDesk_byteOf 42 = .ok (.iadd, 1) := by decide +kernel
theorem d_BlockDesk_byteOf_43 : decode b_BlockDesk_byteOf 43 = .ok (.baload, 1) := by decide +kernel
theorem d_BlockDesk_byteOf_44 : decode b_BlockDesk_byteOf 44 = .ok (.istore_n 3, 1) := by decide +kernel
theorem d_BlockDesk_byteOf_45 : decode b_BlockDesk_byteOf 45 = .ok (.iload_n 3, 1) := by decide +kernel
theorem d_BlockDesk_byteOf_46 : decode b_BlockDesk_byteOf 46 = .ok (.sipush 255, 3) := by decide +kernel
theorem d_BlockDesk_byteOf_49 : decode b_BlockDesk_byteOf 49 = .ok (.iand, 1) := by decide +kernel
theorem d_BlockDesk_byteOf_50 : decode b_BlockDesk_byteOf 50 = .ok (.ireturn, 1) := by decide +kernel
theorem d_BlockDesk_state_0 : decode b_BlockDesk_state 0 = .ok (.iload_n 1, 1) := by decide +kernel
theorem d_BlockDesk_state_1 : decode b_BlockDesk_state 1 = .ok (.ifCond .ne 16, 3) := by decide +kernel
theorem d_BlockDesk_state_4 : decode b_BlockDesk_state 4 = .ok (.aload_n 0, 1) := by decide +kernel
theorem d_BlockDesk_state_5 : decode b_BlockDesk_state 5 = .ok (.getfield 23, 3) := by decide +kernel
theorem d_BlockDesk_state_8 : decode b_BlockDesk_state 8 = .ok (.ifCond .eq 7, 3) := by decide +kernel
theorem d_BlockDesk_state_11 : decode b_BlockDesk_state 11 = .ok (.iconst 1, 1) := by decide +kernel
theorem d_BlockDesk_state_12 : decode b_BlockDesk_state 12 = .ok (.goto 4, 3) := by decide +kernel
theorem d_BlockDesk_state_15 : decode b_BlockDesk_state 15 = .ok (.iconst 0, 1) := by decide +kernel
theorem d_BlockDesk_state_16 : decode b_BlockDesk_state 16 = .ok (.ireturn, 1) := by decide +kernel
theorem d_BlockDesk_state_17 : decode b_BlockDesk_state 17 = .ok (.iload_n 1, 1) := by decide +kernel
theorem d_BlockDesk_state_18 : decode b_BlockDesk_state 18 = .ok (.iconst 5, 1) := by decide +kernel
theorem d_BlockDesk_state_19 : decode b_BlockDesk_state 19 = .ok (.if_icmp .ne 8, 3) := by decide +kernel
theorem d_BlockDesk_state_22 : decode b_BlockDesk_state 22 = .ok (.aload_n 0, 1) := by decide +kernel
theorem d_BlockDesk_state_23 : decode b_BlockDesk_state 23 = .ok (.getfield 79, 3) := by decide +kernel
theorem d_BlockDesk_state_26 : decode b_BlockDesk_state 26 = .ok (.ireturn, 1) := by decide +kernel
theorem d_BlockDesk_state_27 : decode b_BlockDesk_state 27 = .ok (.aload_n 0, 1) := by decide +kernel
theorem d_BlockDesk_state_28 : decode b_BlockDesk_state 28 = .ok (.getfield 23, 3) := by decide +kernel
theorem d_BlockDesk_state_31 : decode b_BlockDesk_state 31 = .ok (.ifCond .ne 5, 3) := by decide +kernel
theorem d_BlockDesk_state_34 : decode b_BlockDesk_state 34 = .ok (.iconst (-1), 1) := by decide +kernel
theorem d_BlockDesk_state_35 : decode b_BlockDesk_state 35 = .ok (.ireturn, 1) := by decide +kernel
theorem d_BlockDesk_state_36 : decode b_BlockDesk_state 36 = .ok (.iload_n 1, 1) := by decide +kernel
theorem d_BlockDesk_state_37 : decode b_BlockDesk_state 37 = .ok (.tableswitch 56 1 4 #[31, 36, 41, 51], 31) := by decide +kernel
theorem d_BlockDesk_state_68 : decode b_BlockDesk_state 68 = .ok (.aload_n 0, 1) := by decide +kernel
theorem d_BlockDesk_state_69 : decode b_BlockDesk_state 69 = .ok (.getfield 57, 3) := by decide +kernel
theorem d_BlockDesk_state_72 : decode b_BlockDesk_state 72 = .ok (.ireturn, 1) := by decide +kernel
theorem d_BlockDesk_state_73 : decode b_BlockDesk_state 73 = .ok (.aload_n 0, 1) := by decide +kernel
theorem d_BlockDesk_state_74 : decode b_BlockDesk_state 74 = .ok (.getfield 82, 3) := by decide +kernel
theorem d_BlockDesk_state_77 : decode b_BlockDesk_state 77 = .ok (.ireturn, 1) := by decide +kernel
theorem d_BlockDesk_state_78 : decode b_BlockDesk_state 78 = .ok (.aload_n 0, 1) := by decide +kernel
theorem d_BlockDesk_state_79 : decode b_BlockDesk_state 79 = .ok (.getfield 82, 3) := by decide +kernel
theorem d_BlockDesk_state_82 : decode b_BlockDesk_state 82 = .ok (.aload_n 0, 1) := by decide +kernel
theorem d_BlockDesk_state_83 : decode b_BlockDesk_state 83 = .ok (.invokevirtual 44, 3) := by decide +kernel
theorem d_BlockDesk_state_86 : decode b_BlockDesk_state 86 = .ok (.iadd, 1) := by decide +kernel
theorem d_BlockDesk_state_87 : decode b_BlockDesk_state 87 = .ok (.ireturn, 1) := by decide +kernel
theorem d_BlockDesk_state_88 : decode b_BlockDesk_state 88 = .ok (.aload_n 0, 1) := by decide +kernel
theorem d_BlockDesk_state_89 : decode b_BlockDesk_state 89 = .ok (.getfield 35, 3) := by decide +kernel
theorem d_BlockDesk_state_92 : decode b_BlockDesk_state 92 = .ok (.ireturn, 1) := by decide +kernel
theorem d_BlockDesk_state_93 : decode b_BlockDesk_state 93 = .ok (.iconst (-1), 1) := by decide +kernel
theorem d_BlockDesk_state_94 : decode b_BlockDesk_state 94 = .ok (.ireturn, 1) := by decide +kernel
theorem d_BlockDesk_put_0 : decode b_BlockDesk_put 0 = .ok (.iload_n 3, 1) := by decide +kernel
theorem d_BlockDesk_put_1 : decode b_BlockDesk_put 1 = .ok (.iconst 1, 1) := by decide +kernel
theorem d_BlockDesk_put_2 : decode b_BlockDesk_put 2 = .ok (.if_icmp .lt 17, 3) := by decide +kernel
theorem d_BlockDesk_put_5 : decode b_BlockDesk_put 5 = .ok (.iload_n 3, 1) := by decide +kernel
theorem d_BlockDesk_put_6 : decode b_BlockDesk_put 6 = .ok (.bipush 8, 2) := by decide +kernel
theorem d_BlockDesk_put_8 : decode b_BlockDesk_put 8 = .ok (.if_icmp .gt 11, 3) := by decide +kernel
theorem d_BlockDesk_put_11 : decode b_BlockDesk_put 11 = .ok (.aload_n 0, 1) := by decide +kernel
theorem d_BlockDesk_put_12 : decode b_BlockDesk_put 12 = .ok (.iload_n 3, 1) := by decide +kernel
theorem d_BlockDesk_put_13 : decode b_BlockDesk_put 13 = .ok (.invokevirtual 31, 3) := by decide +kernel
theorem d_BlockDesk_put_16 : decode b_BlockDesk_put 16 = .ok (.ifCond .ne 5, 3) := by decide +kernel
theorem d_BlockDesk_put_19 : decode b_BlockDesk_put 19 = .ok (.iconst 0, 1) := by decide +kernel
theorem d_BlockDesk_put_20 : decode b_BlockDesk_put 20 = .ok (.ireturn, 1) := by decide +kernel
theorem d_BlockDesk_put_21 : decode b_BlockDesk_put 21 = .ok (.iload_n 3, 1) := by decide +kernel
theorem d_BlockDesk_put_22 : decode b_BlockDesk_put 22 = .ok (.iconst 1, 1) := by decide +kernel
theorem d_BlockDesk_put_23 : decode b_BlockDesk_put 23 = .ok (.isub, 1) := by decide +kernel
theorem d_BlockDesk_put_24 : decode b_BlockDesk_put 24 = .ok (.istore 4, 2) := by decide +kernel
theorem d_BlockDesk_put_26 : decode b_BlockDesk_put 26 = .ok (.iload 4, 2) := by decide +kernel
theorem d_BlockDesk_put_28 : decode b_BlockDesk_put 28 = .ok (.ifCond .lt 37, 3) := by decide +kernel
theorem d_BlockDesk_put_31 : decode b_BlockDesk_put 31 = .ok (.aload_n 0, 1) := by decide +kernel
theorem d_BlockDesk_put_32 : decode b_BlockDesk_put 32 = .ok (.getfield 20, 3) := by decide +kernel
theorem d_BlockDesk_put_35 : decode b_BlockDesk_put 35 = .ok (.aload_n 0, 1) := by decide +kernel
theorem d_BlockDesk_put_36 : decode b_BlockDesk_put 36 = .ok (.getfield 35, 3) := by decide +kernel
theorem d_BlockDesk_put_39 : decode b_BlockDesk_put 39 = .ok (.lload_n 1, 1) := by decide +kernel
theorem d_BlockDesk_put_40 : decode b_BlockDesk_put 40 = .ok (.bipush 8, 2) := by decide +kernel
theorem d_BlockDesk_put_42 : decode b_BlockDesk_put 42 = .ok (.iload 4, 2) := by decide +kernel
theorem d_BlockDesk_put_44 : decode b_BlockDesk_put 44 = .ok (.imul, 1) := by decide +kernel
theorem d_BlockDesk_put_45 : decode b_BlockDesk_put 45 = .ok (.lshr, 1) := by decide +kernel
theorem d_BlockDesk_put_46 : decode b_BlockDesk_put 46 = .ok (.l2i, 1) := by decide +kernel
theorem d_BlockDesk_put_47 : decode b_BlockDesk_put 47 = .ok (.i2b, 1) := by decide +kernel
theorem d_BlockDesk_put_48 : decode b_BlockDesk_put 48 = .ok (.bastore, 1) := by decide +kernel
theorem d_BlockDesk_put_49 : decode b_BlockDesk_put 49 = .ok (.aload_n 0, 1) := by decide +kernel
theorem d_BlockDesk_put_50 : decode b_BlockDesk_put 50 = .ok (.dup, 1) := by decide +kernel
theorem d_BlockDesk_put_51 : decode b_BlockDesk_put 51 = .ok (.getfield 35, 3) := by decide +kernel
theorem d_BlockDesk_put_54 : decode b_BlockDesk_put 54 = .ok (.iconst 1, 1) := by decide +kernel
theorem d_BlockDesk_put_55 : decode b_BlockDesk_put 55 = .ok (.iadd, 1) := by decide +kernel
theorem d_BlockDesk_put_56 : decode b_BlockDesk_put 56 = .ok (.putfield 35, 3) := by decide +kernel
theorem d_BlockDesk_put_59 : decode b_BlockDesk_put 59 = .ok (.iinc 4 (-1), 3) := by decide +kernel
theorem d_BlockDesk_put_62 : decode b_BlockDesk_put 62 = .ok (.goto (-36), 3) := by decide +kernel
theorem d_BlockDesk_put_65 : decode b_BlockDesk_put 65 = .ok (.iconst 1, 1) := by decide +kernel
theorem d_BlockDesk_put_66 : decode b_BlockDesk_put 66 = .ok (.ireturn, 1) := by decide +kernel
theorem d_Arrays_rangeCheck_0 : decode b_Arrays_rangeCheck 0 = .ok (.iload_n 1, 1) := by decide +kernel
theorem d_Arrays_rangeCheck_1 : decode b_Arrays_rangeCheck 1 = .ok (.iload_n 2, 1) := by decide +kernel
theorem d_Arrays_rangeCheck_2 : decode b_Arrays_rangeCheck 2 = .ok (.if_icmp .le 44, 3) := by decide +kernel
theorem d_Arrays_rangeCheck_46 : decode b_Arrays_rangeCheck 46 = .ok (.iload_n 1, 1) := by decide +kernel
theorem d_Arrays_rangeCheck_47 : decode b_Arrays_rangeCheck 47 = .ok (.ifCond .ge 12, 3) := by decide +kernel
theorem d_Arrays_rangeCheck_59 : decode b_Arrays_rangeCheck 59 = .ok (.iload_n 2, 1) := by decide +kernel
theorem d_Arrays_rangeCheck_60 : decode b_Arrays_rangeCheck 60 = .ok (.iload_n 0, 1) := by decide +kernel
theorem d_Arrays_rangeCheck_61 : decode b_Arrays_rangeCheck 61 = .ok (.if_icmp .le 12, 3) := by decide +kernel
theorem d_Arrays_rangeCheck_73 : decode b_Arrays_rangeCheck 73 = .ok (.return_, 1) := by decide +kernel
theorem d_Arrays_fill_0 : decode b_Arrays_fill 0 = .ok (.aload_n 0, 1) := by decide +kernel
theorem d_Arrays_fill_1 : decode b_Arrays_fill 1 = .ok (.arraylength, 1) := by decide +kernel
theorem d_Arrays_fill_2 : decode b_Arrays_fill 2 = .ok (.iload_n 1, 1) := by decide +kernel
theorem d_Arrays_fill_3 : decode b_Arrays_fill 3 = .ok (.iload_n 2, 1) := by decide +kernel
theorem d_Arrays_fill_4 : decode b_Arrays_fill 4 = .ok (.invokestatic 13, 3) := by decide +kernel
theorem d_Arrays_fill_7 : decode b_Arrays_fill 7 = .ok (.iload_n 1, 1) := by decide +kernel
theorem d_Arrays_fill_8 : decode b_Arrays_fill 8 = .ok (.istore 4, 2) := by decide +kernel
theorem d_Arrays_fill_10 : decode b_Arrays_fill 10 = .ok (.iload 4, 2) := by decide +kernel
theorem d_Arrays_fill_12 : decode b_Arrays_fill 12 = .ok (.iload_n 2, 1) := by decide +kernel
theorem d_Arrays_fill_13 : decode b_Arrays_fill 13 = .ok (.if_icmp .ge 14, 3) := by decide +kernel
theorem d_Arrays_fill_16 : decode b_Arrays_fill 16 = .ok (.aload_n 0, 1) := by decide +kernel
theorem d_Arrays_fill_17 : decode b_Arrays_fill 17 = .ok (.iload 4, 2) := by decide +kernel
theorem d_Arrays_fill_19 : decode b_Arrays_fill 19 = .ok (.iload_n 3, 1) := by decide +kernel
theorem d_Arrays_fill_20 : decode b_Arrays_fill 20 = .ok (.bastore, 1) := by decide +kernel
theorem d_Arrays_fill_21 : decode b_Arrays_fill 21 = .ok (.iinc 4 1, 3) := by decide +kernel
theorem d_Arrays_fill_24 : decode b_Arrays_fill 24 = .ok (.goto (-14), 3) := by decide +kernel
theorem d_Arrays_fill_27 : decode b_Arrays_fill 27 = .ok (.return_, 1) := by decide +kernel
theorem d_BlockDesk_fill_0 : decode b_BlockDesk_fill 0 = .ok (.iload_n 2, 1) := by decide +kernel
theorem d_BlockDesk_fill_1 : decode b_BlockDesk_fill 1 = .ok (.iconst 1, 1) := by decide +kernel
theorem d_BlockDesk_fill_2 : decode b_BlockDesk_fill 2 = .ok (.if_icmp .lt 18, 3) := by decide +kernel
theorem d_BlockDesk_fill_5 : decode b_BlockDesk_fill 5 = .ok (.iload_n 2, 1) := by decide +kernel
theorem d_BlockDesk_fill_6 : decode b_BlockDesk_fill 6 = .ok (.sipush 8000, 3) := by decide +kernel
theorem d_BlockDesk_fill_9 : decode b_BlockDesk_fill 9 = .ok (.if_icmp .gt 11, 3) := by decide +kernel
theorem d_BlockDesk_fill_12 : decode b_BlockDesk_fill 12 = .ok (.aload_n 0, 1) := by decide +kernel
theorem d_BlockDesk_fill_13 : decode b_BlockDesk_fill 13 = .ok (.iload_n 2, 1) := by decide +kernel
theorem d_BlockDesk_fill_14 : decode b_BlockDesk_fill 14 = .ok (.invokevirtual 31, 3) := by decide +kernel
theorem d_BlockDesk_fill_17 : decode b_BlockDesk_fill 17 = .ok (.ifCond .ne 5, 3) := by decide +kernel
theorem d_BlockDesk_fill_20 : decode b_BlockDesk_fill 20 = .ok (.iconst 0, 1) := by decide +kernel
theorem d_BlockDesk_fill_21 : decode b_BlockDesk_fill 21 = .ok (.ireturn, 1) := by decide +kernel
theorem d_BlockDesk_fill_22 : decode b_BlockDesk_fill 22 = .ok (.aload_n 0, 1) := by decide +kernel
theorem d_BlockDesk_fill_23 : decode b_BlockDesk_fill 23 = .ok (.getfield 20, 3) := by decide +kernel
theorem d_BlockDesk_fill_26 : decode b_BlockDesk_fill 26 = .ok (.aload_n 0, 1) := by decide +kernel
theorem d_BlockDesk_fill_27 : decode b_BlockDesk_fill 27 = .ok (.getfield 35, 3) := by decide +kernel
theorem d_BlockDesk_fill_30 : decode b_BlockDesk_fill 30 = .ok (.aload_n 0, 1) := by decide +kernel
theorem d_BlockDesk_fill_31 : decode b_BlockDesk_fill 31 = .ok (.getfield 35, 3) := by decide +kernel
theorem d_BlockDesk_fill_34 : decode b_BlockDesk_fill 34 = .ok (.iload_n 2, 1) := by decide +kernel
theorem d_BlockDesk_fill_35 : decode b_BlockDesk_fill 35 = .ok (.iadd, 1) := by decide +kernel
theorem d_BlockDesk_fill_36 : decode b_BlockDesk_fill 36 = .ok (.iload_n 1, 1) := by decide +kernel
theorem d_BlockDesk_fill_37 : decode b_BlockDesk_fill 37 = .ok (.i2b, 1) := by decide +kernel
theorem d_BlockDesk_fill_38 : decode b_BlockDesk_fill 38 = .ok (.invokestatic 38, 3) := by decide +kernel
theorem d_BlockDesk_fill_41 : decode b_BlockDesk_fill 41 = .ok (.aload_n 0, 1) := by decide +kernel
theorem d_BlockDesk_fill_42 : decode b_BlockDesk_fill 42 = .ok (.dup, 1) := by decide +kernel
theorem d_BlockDesk_fill_43 : decode b_BlockDesk_fill 43 = .ok (.getfield 35, 3) := by decide +kernel
theorem d_BlockDesk_fill_46 : decode b_BlockDesk_fill 46 = .ok (.iload_n 2, 1) := by decide +kernel
theorem d_BlockDesk_fill_47 : decode b_BlockDesk_fill 47 = .ok (.iadd, 1) := by decide +kernel
theorem d_BlockDesk_fill_48 : decode b_BlockDesk_fill 48 = .ok (.putfield 35, 3) := by decide +kernel
theorem d_BlockDesk_fill_51 : decode b_BlockDesk_fill 51 = .ok (.iconst 1, 1) := by decide +kernel
theorem d_BlockDesk_fill_52 : decode b_BlockDesk_fill 52 = .ok (.ireturn, 1) := by decide +kernel
theorem d_BlockDesk_record_0 : decode b_BlockDesk_record 0 = .ok (.aload_n 0, 1) := by decide +kernel
theorem d_BlockDesk_record_1 : decode b_BlockDesk_record 1 = .ok (.getfield 23, 3) := by decide +kernel
theorem d_BlockDesk_record_4 : decode b_BlockDesk_record 4 = .ok (.ifCond .ne 5, 3) := by decide +kernel
theorem d_BlockDesk_record_7 : decode b_BlockDesk_record 7 = .ok (.iconst 0, 1) := by decide +kernel
theorem d_BlockDesk_record_8 : decode b_BlockDesk_record 8 = .ok (.ireturn, 1) := by decide +kernel
theorem d_BlockDesk_record_9 : decode b_BlockDesk_record 9 = .ok (.aload_n 0, 1) := by decide +kernel
theorem d_BlockDesk_record_10 : decode b_BlockDesk_record 10 = .ok (.invokevirtual 44, 3) := by decide +kernel
theorem d_BlockDesk_record_13 : decode b_BlockDesk_record 13 = .ok (.istore_n 1, 1) := by decide +kernel
theorem d_BlockDesk_record_14 : decode b_BlockDesk_record 14 = .ok (.iload_n 1, 1) := by decide +kernel
theorem d_BlockDesk_record_15 : decode b_BlockDesk_record 15 = .ok (.iconst 4, 1) := by decide +kernel
theorem d_BlockDesk_record_16 : decode b_BlockDesk_record 16 = .ok (.iadd, 1) := by decide +kernel
theorem d_BlockDesk_record_17 : decode b_BlockDesk_record 17 = .ok (.aload_n 0, 1) := by decide +kernel
theorem d_BlockDesk_record_18 : decode b_BlockDesk_record 18 = .ok (.getfield 35, 3) := by decide +kernel
theorem d_BlockDesk_record_21 : decode b_BlockDesk_record 21 = .ok (.iadd, 1) := by decide +kernel
theorem d_BlockDesk_record_22 : decode b_BlockDesk_record 22 = .ok (.istore_n 2, 1) := by decide +kernel
theorem d_BlockDesk_record_23 : decode b_BlockDesk_record 23 = .ok (.iload_n 2, 1) := by decide +kernel
theorem d_BlockDesk_record_24 : decode b_BlockDesk_record 24 = .ok (.aload_n 0, 1) := by decide +kernel
theorem d_BlockDesk_record_25 : decode b_BlockDesk_record 25 = .ok (.getfield 9, 3) := by decide +kernel
theorem d_BlockDesk_record_28 : decode b_BlockDesk_record 28 = .ok (.arraylength, 1) := by decide +kernel
theorem d_BlockDesk_record_29 : decode b_BlockDesk_record 29 = .ok (.if_icmp .le 5, 3) := by decide +kernel
theorem d_BlockDesk_record_32 : decode b_BlockDesk_record 32 = .ok (.iconst 0, 1) := by decide +kernel
theorem d_BlockDesk_record_33 : decode b_BlockDesk_record 33 = .ok (.ireturn, 1) := by decide +kernel
theorem d_BlockDesk_record_34 : decode b_BlockDesk_record 34 = .ok (.iload_n 1, 1) := by decide +kernel
theorem d_BlockDesk_record_35 : decode b_BlockDesk_record 35 = .ok (.sipush 500, 3) := by decide +kernel
theorem d_BlockDesk_record_38 : decode b_BlockDesk_record 38 = .ok (.idiv, 1) := by decide +kernel
theorem d_BlockDesk_record_39 : decode b_BlockDesk_record 39 = .ok (.istore_n 3, 1) := by decide +kernel
theorem d_BlockDesk_record_40 : decode b_BlockDesk_record 40 = .ok (.iload_n 2, 1) := by decide +kernel
theorem d_BlockDesk_record_41 : decode b_BlockDesk_record 41 = .ok (.iconst 1, 1) := by decide +kernel
theorem d_BlockDesk_record_42 : decode b_BlockDesk_record 42 = .ok (.isub, 1) := by decide +kernel
theorem d_BlockDesk_record_43 : decode b_BlockDesk_record 43 = .ok (.sipush 500, 3) := by decide +kernel
theorem d_BlockDesk_record_46 : decode b_BlockDesk_record 46 = .ok (.idiv, 1) := by decide +kernel
theorem d_BlockDesk_record_47 : decode b_BlockDesk_record 47 = .ok (.istore 4, 2) := by decide +kernel
theorem d_BlockDesk_record_49 : decode b_BlockDesk_record 49 = .ok (.aload_n 0, 1) := by decide +kernel
theorem d_BlockDesk_record_50 : decode b_BlockDesk_record 50 = .ok (.iload 4, 2) := by decide +kernel
theorem d_BlockDesk_record_52 : decode b_BlockDesk_record 52 = .ok (.iload_n 3, 1) := by decide +kernel
theorem d_BlockDesk_record_53 : decode b_BlockDesk_record 53 = .ok (.isub, 1) := by decide +kernel
theorem d_BlockDesk_record_54 : decode b_BlockDesk_record 54 = .ok (.iconst 1, 1) := by decide +kernel
theorem d_BlockDesk_record_55 : decode b_BlockDesk_record 55 = .ok (.iadd, 1) := by decide +kernel
theorem d_BlockDesk_record_56 : decode b_BlockDesk_record 56 = .ok (.invokevirtual 48, 3) := by decide +kernel
theorem d_BlockDesk_record_59 : decode b_BlockDesk_record 59 = .ok (.ifCond .ne 5, 3) := by decide +kernel
theorem d_BlockDesk_record_62 : decode b_BlockDesk_record 62 = .ok (.iconst 2, 1) := by decide +kernel
theorem d_BlockDesk_record_63 : decode b_BlockDesk_record 63 = .ok (.ireturn, 1) := by decide +kernel
theorem d_BlockDesk_record_64 : decode b_BlockDesk_record 64 = .ok (.aload_n 0, 1) := by decide +kernel
theorem d_BlockDesk_record_65 : decode b_BlockDesk_record 65 = .ok (.getfield 20, 3) := by decide +kernel
theorem d_BlockDesk_record_68 : decode b_BlockDesk_record 68 = .ok (.iconst 0, 1) := by decide +kernel
theorem d_BlockDesk_record_69 : decode b_BlockDesk_record 69 = .ok (.aload_n 0, 1) := by decide +kernel
theorem d_BlockDesk_record_70 : decode b_BlockDesk_record 70 = .ok (.getfield 9, 3) := by decide +kernel
theorem d_BlockDesk_record_73 : decode b_BlockDesk_record 73 = .ok (.iload_n 1, 1) := by decide +kernel
theorem d_BlockDesk_record_74 : decode b_BlockDesk_record 74 = .ok (.iconst 4, 1) := by decide +kernel
theorem d_BlockDesk_record_75 : decode b_BlockDesk_record 75 = .ok (.iadd, 1) := by decide +kernel
theorem d_BlockDesk_record_76 : decode b_BlockDesk_record 76 = .ok (.aload_n 0, 1) := by decide +kernel
theorem d_BlockDesk_record_77 : decode b_BlockDesk_record 77 = .ok (.getfield 35, 3) := by decide +kernel
theorem d_BlockDesk_record_80 : decode b_BlockDesk_record 80 = .ok (.invokestatic 51, 3) := by decide +kernel
theorem d_BlockDesk_record_83 : decode b_BlockDesk_record 83 = .ok (.aload_n 0, 1) := by decide +kernel
theorem d_BlockDesk_record_84 : decode b_BlockDesk_record 84 = .ok (.dup, 1) := by decide +kernel
theorem d_BlockDesk_record_85 : decode b_BlockDesk_record 85 = .ok (.getfield 57, 3) := by decide +kernel
theorem d_BlockDesk_record_88 : decode b_BlockDesk_record 88 = .ok (.iconst 1, 1) := by decide +kernel
theorem d_BlockDesk_record_89 : decode b_BlockDesk_record 89 = .ok (.iadd, 1) := by decide +kernel
theorem d_BlockDesk_record_90 : decode b_BlockDesk_record 90 = .ok (.putfield 57, 3) := by decide +kernel
theorem d_BlockDesk_record_93 : decode b_BlockDesk_record 93 = .ok (.aload_n 0, 1) := by decide +kernel
theorem d_BlockDesk_record_94 : decode b_BlockDesk_record 94 = .ok (.getfield 13, 3) := by decide +kernel
theorem d_BlockDesk_record_97 : decode b_BlockDesk_record 97 = .ok (.aload_n 0, 1) := by decide +kernel
theorem d_BlockDesk_record_98 : decode b_BlockDesk_record 98 = .ok (.getfield 57, 3) := by decide +kernel
theorem d_BlockDesk_record_101 : decode b_BlockDesk_record 101 = .ok (.iload_n 2, 1) := by decide +kernel
theorem d_BlockDesk_record_102 : decode b_BlockDesk_record 102 = .ok (.iastore, 1) := by decide +kernel
theorem d_BlockDesk_record_103 : decode b_BlockDesk_record 103 = .ok (.aload_n 0, 1) := by decide +kernel
theorem d_BlockDesk_record_104 : decode b_BlockDesk_record 104 = .ok (.iconst 0, 1) := by decide +kernel
theorem d_BlockDesk_record_105 : decode b_BlockDesk_record 105 = .ok (.putfield 35, 3) := by decide +kernel
theorem d_BlockDesk_record_108 : decode b_BlockDesk_record 108 = .ok (.iconst 1, 1) := by decide +kernel
theorem d_BlockDesk_record_109 : decode b_BlockDesk_record 109 = .ok (.ireturn, 1) := by decide +kernel
theorem d_BlockDesk_snapshot_0 : decode b_BlockDesk_snapshot 0 = .ok (.aload_n 0, 1) := by decide +kernel
theorem d_BlockDesk_snapshot_1 : decode b_BlockDesk_snapshot 1 = .ok (.getfield 23, 3) := by decide +kernel
theorem d_BlockDesk_snapshot_4 : decode b_BlockDesk_snapshot 4 = .ok (.ifCond .ne 5, 3) := by decide +kernel
theorem d_BlockDesk_snapshot_7 : decode b_BlockDesk_snapshot 7 = .ok (.iconst 0, 1) := by decide +kernel
theorem d_BlockDesk_snapshot_8 : decode b_BlockDesk_snapshot 8 = .ok (.ireturn, 1) := by decide +kernel
theorem d_BlockDesk_snapshot_9 : decode b_BlockDesk_snapshot 9 = .ok (.aload_n 0, 1) := by decide +kernel
theorem d_BlockDesk_snapshot_10 : decode b_BlockDesk_snapshot 10 = .ok (.aload_n 0, 1) := by decide +kernel
theorem d_BlockDesk_snapshot_11 : decode b_BlockDesk_snapshot 11 = .ok (.getfield 35, 3) := by decide +kernel
theorem d_BlockDesk_snapshot_14 : decode b_BlockDesk_snapshot 14 = .ok (.invokestatic 60, 3) := by decide +kernel
theorem d_BlockDesk_snapshot_17 : decode b_BlockDesk_snapshot 17 = .ok (.iconst 1, 1) := by decide +kernel
theorem d_BlockDesk_snapshot_18 : decode b_BlockDesk_snapshot 18 = .ok (.iadd, 1) := by decide +kernel
theorem d_BlockDesk_snapshot_19 : decode b_BlockDesk_snapshot 19 = .ok (.invokevirtual 48, 3) := by decide +kernel
theorem d_BlockDesk_snapshot_22 : decode b_BlockDesk_snapshot 22 = .ok (.ifCond .ne 5, 3) := by decide +kernel
theorem d_BlockDesk_snapshot_25 : decode b_BlockDesk_snapshot 25 = .ok (.iconst 2, 1) := by decide +kernel
theorem d_BlockDesk_snapshot_26 : decode b_BlockDesk_snapshot 26 = .ok (.ireturn, 1) := by decide +kernel
theorem d_BlockDesk_snapshot_27 : decode b_BlockDesk_snapshot 27 = .ok (.aload_n 0, 1) := by decide +kernel
theorem d_BlockDesk_snapshot_28 : decode b_BlockDesk_snapshot 28 = .ok (.invokevirtual 64, 3) := by decide +kernel
theorem d_BlockDesk_snapshot_31 : decode b_BlockDesk_snapshot 31 = .ok (.aload_n 0, 1) := by decide +kernel
theorem d_BlockDesk_snapshot_32 : decode b_BlockDesk_snapshot 32 = .ok (.invokevirtual 67, 3) := by decide +kernel
theorem d_BlockDesk_snapshot_35 : decode b_BlockDesk_snapshot 35 = .ok (.iconst 1, 1) := by decide +kernel
theorem d_BlockDesk_snapshot_36 : decode b_BlockDesk_snapshot 36 = .ok (.ireturn, 1) := by decide +kernel
theorem d_BlockDesk_init_0 : decode b_BlockDesk_init 0 = .ok (.aload_n 0, 1) := by decide +kernel
theorem d_BlockDesk_init_1 : decode b_BlockDesk_init 1 = .ok (.invokespecial 1, 3) := by decide +kernel
theorem d_BlockDesk_init_4 : decode b_BlockDesk_init 4 = .ok (.iload_n 1, 1) := by decide +kernel
theorem d_BlockDesk_init_5 : decode b_BlockDesk_init 5 = .ok (.iconst 2, 1) := by decide +kernel
theorem d_BlockDesk_init_6 : decode b_BlockDesk_init 6 = .ok (.if_icmp .lt 13, 3) := by decide +kernel
theorem d_BlockDesk_init_9 : decode b_BlockDesk_init 9 = .ok (.iload_n 1, 1) := by decide +kernel
theorem d_BlockDesk_init_10 : decode b_BlockDesk_init 10 = .ok (.bipush 32, 2) := by decide +kernel
theorem d_BlockDesk_init_12 : decode b_BlockDesk_init 12 = .ok (.if_icmp .gt 7, 3) := by decide +kernel
theorem d_BlockDesk_init_15 : decode b_BlockDesk_init 15 = .ok (.iconst 1, 1) := by decide +kernel
theorem d_BlockDesk_init_16 : decode b_BlockDesk_init 16 = .ok (.goto 4, 3) := by decide +kernel
theorem d_BlockDesk_init_19 : decode b_BlockDesk_init 19 = .ok (.iconst 0, 1) := by decide +kernel
theorem d_BlockDesk_init_20 : decode b_BlockDesk_init 20 = .ok (.istore_n 2, 1) := by decide +kernel
theorem d_BlockDesk_init_21 : decode b_BlockDesk_init 21 = .ok (.iload_n 2, 1) := by decide +kernel
theorem d_BlockDesk_init_22 : decode b_BlockDesk_init 22 = .ok (.ifCond .eq 7, 3) := by decide +kernel
theorem d_BlockDesk_init_25 : decode b_BlockDesk_init 25 = .ok (.iload_n 1, 1) := by decide +kernel
theorem d_BlockDesk_init_26 : decode b_BlockDesk_init 26 = .ok (.goto 5, 3) := by decide +kernel
theorem d_BlockDesk_init_29 : decode b_BlockDesk_init 29 = .ok (.bipush 32, 2) := by decide +kernel
theorem d_BlockDesk_init_31 : decode b_BlockDesk_init 31 = .ok (.sipush 500, 3) := by decide +kernel
theorem d_BlockDesk_init_34 : decode b_BlockDesk_init 34 = .ok (.imul, 1) := by decide +kernel
theorem d_BlockDesk_init_35 : decode b_BlockDesk_init 35 = .ok (.istore_n 3, 1) := by decide +kernel
theorem d_BlockDesk_init_36 : decode b_BlockDesk_init 36 = .ok (.aload_n 0, 1) := by decide +kernel
theorem d_BlockDesk_init_37 : decode b_BlockDesk_init 37 = .ok (.iload_n 3, 1) := by decide +kernel
theorem d_BlockDesk_init_38 : decode b_BlockDesk_init 38 = .ok (.newarray .byte, 2) := by decide +kernel
theorem d_BlockDesk_init_40 : decode b_BlockDesk_init 40 = .ok (.putfield 9, 3) := by decide +kernel
theorem d_BlockDesk_init_43 : decode b_BlockDesk_init 43 = .ok (.aload_n 0, 1) := by decide +kernel
theorem d_BlockDesk_init_44 : decode b_BlockDesk_init 44 = .ok (.iload_n 3, 1) := by decide +kernel
theorem d_BlockDesk_init_45 : decode b_BlockDesk_init 45 = .ok (.iconst 4, 1) := by decide +kernel
theorem d_BlockDesk_init_46 : decode b_BlockDesk_init 46 = .ok (.idiv, 1) := by decide +kernel
theorem d_BlockDesk_init_47 : decode b_BlockDesk_init 47 = .ok (.iconst 1, 1) := by decide +kernel
theorem d_BlockDesk_init_48 : decode b_BlockDesk_init 48 = .ok (.iadd, 1) := by decide +kernel
theorem d_BlockDesk_init_49 : decode b_BlockDesk_init 49 = .ok (.newarray .int, 2) := by decide +kernel
theorem d_BlockDesk_init_51 : decode b_BlockDesk_init 51 = .ok (.putfield 13, 3) := by decide +kernel
theorem d_BlockDesk_init_54 : decode b_BlockDesk_init 54 = .ok (.aload_n 0, 1) := by decide +kernel
theorem d_BlockDesk_init_55 : decode b_BlockDesk_init 55 = .ok (.sipush 8000, 3) := by decide +kernel
theorem d_BlockDesk_init_58 : decode b_BlockDesk_init 58 = .ok (.newarray .byte, 2) := by decide +kernel
theorem d_BlockDesk_init_60 : decode b_BlockDesk_init 60 = .ok (.putfield 17, 3) := by decide +kernel
theorem d_BlockDesk_init_63 : decode b_BlockDesk_init 63 = .ok (.aload_n 0, 1) := by decide +kernel
theorem d_BlockDesk_init_64 : decode b_BlockDesk_init 64 = .ok (.sipush 8000, 3) := by decide +kernel
theorem d_BlockDesk_init_67 : decode b_BlockDesk_init 67 = .ok (.newarray .byte, 2) := by decide +kernel
theorem d_BlockDesk_init_69 : decode b_BlockDesk_init 69 = .ok (.putfield 20, 3) := by decide +kernel
theorem d_BlockDesk_init_72 : decode b_BlockDesk_init 72 = .ok (.aload_n 0, 1) := by decide +kernel
theorem d_BlockDesk_init_73 : decode b_BlockDesk_init 73 = .ok (.iconst 1, 1) := by decide +kernel
theorem d_BlockDesk_init_74 : decode b_BlockDesk_init 74 = .ok (.putfield 23, 3) := by decide +kernel
theorem d_BlockDesk_init_77 : decode b_BlockDesk_init 77 = .ok (.aload_n 0, 1) := by decide +kernel
theorem d_BlockDesk_init_78 : decode b_BlockDesk_init 78 = .ok (.iconst (-1), 1) := by decide +kernel
theorem d_BlockDesk_init_79 : decode b_BlockDesk_init 79 = .ok (.putfield 27, 3) := by decide +kernel
theorem d_BlockDesk_init_82 : decode b_BlockDesk_init 82 = .ok (.return_, 1) := by decide +kernel
theorem d_BlockDeskModel_hold_0 : decode b_BlockDeskModel_hold 0 = .ok (.aload_n 0, 1) := by decide +kernel
theorem d_BlockDeskModel_hold_1 : decode b_BlockDeskModel_hold 1 = .ok (.getfield 17, 3) := by decide +kernel
theorem d_BlockDeskModel_hold_4 : decode b_BlockDeskModel_hold 4 = .ok (.aload_n 0, 1) := by decide +kernel
theorem d_BlockDeskModel_hold_5 : decode b_BlockDeskModel_hold 5 = .ok (.getfield 33, 3) := by decide +kernel
theorem d_BlockDeskModel_hold_8 : decode b_BlockDeskModel_hold 8 = .ok (.iload_n 1, 1) := by decide +kernel
theorem d_BlockDeskModel_hold_9 : decode b_BlockDeskModel_hold 9 = .ok (.sipush 255, 3) := by decide +kernel
theorem d_BlockDeskModel_hold_12 : decode b_BlockDeskModel_hold 12 = .ok (.iand, 1) := by decide +kernel
theorem d_BlockDeskModel_hold_13 : decode b_BlockDeskModel_hold 13 = .ok (.iastore, 1) := by decide +kernel
theorem d_BlockDeskModel_hold_14 : decode b_BlockDeskModel_hold 14 = .ok (.aload_n 0, 1) := by decide +kernel
theorem d_BlockDeskModel_hold_15 : decode b_BlockDeskModel_hold 15 = .ok (.aload_n 0, 1) := by decide +kernel
theorem d_BlockDeskModel_hold_16 : decode b_BlockDeskModel_hold 16 = .ok (.getfield 33, 3) := by decide +kernel
theorem d_BlockDeskModel_hold_19 : decode b_BlockDeskModel_hold 19 = .ok (.iconst 1, 1) := by decide +kernel
theorem d_BlockDeskModel_hold_20 : decode b_BlockDeskModel_hold 20 = .ok (.iadd, 1) := by decide +kernel
theorem d_BlockDeskModel_hold_21 : decode b_BlockDeskModel_hold 21 = .ok (.putfield 33, 3) := by decide +kernel
theorem d_BlockDeskModel_hold_24 : decode b_BlockDeskModel_hold 24 = .ok (.iconst 1, 1) := by decide +kernel
theorem d_BlockDeskModel_hold_25 : decode b_BlockDeskModel_hold 25 = .ok (.ireturn, 1) := by decide +kernel
theorem d_BlockDeskModel_write_0 : decode b_BlockDeskModel_write 0 = .ok (.aload_n 0, 1) := by decide +kernel
theorem d_BlockDeskModel_write_1 : decode b_BlockDeskModel_write 1 = .ok (.getfield 13, 3) := by decide +kernel
theorem d_BlockDeskModel_write_4 : decode b_BlockDeskModel_write 4 = .ok (.ifCond .lt 11, 3) := by decide +kernel
theorem d_BlockDeskModel_write_7 : decode b_BlockDeskModel_write 7 = .ok (.aload_n 0, 1) := by decide +kernel
theorem d_BlockDeskModel_write_8 : decode b_BlockDeskModel_write 8 = .ok (.getfield 13, 3) := by decide +kernel
theorem d_BlockDeskModel_write_11 : decode b_BlockDeskModel_write 11 = .ok (.iload_n 1, 1) := by decide +kernel
theorem d_BlockDeskModel_write_12 : decode b_BlockDeskModel_write 12 = .ok (.if_icmp .lt 7, 3) := by decide +kernel
theorem d_BlockDeskModel_write_15 : decode b_BlockDeskModel_write 15 = .ok (.iconst 1, 1) := by decide +kernel
theorem d_BlockDeskModel_write_16 : decode b_BlockDeskModel_write 16 = .ok (.goto 4, 3) := by decide +kernel
theorem d_BlockDeskModel_write_19 : decode b_BlockDeskModel_write 19 = .ok (.iconst 0, 1) := by decide +kernel
theorem d_BlockDeskModel_write_20 : decode b_BlockDeskModel_write 20 = .ok (.istore_n 2, 1) := by decide +kernel
theorem d_BlockDeskModel_write_21 : decode b_BlockDeskModel_write 21 = .ok (.aload_n 0, 1) := by decide +kernel
theorem d_BlockDeskModel_write_22 : decode b_BlockDeskModel_write 22 = .ok (.aload_n 0, 1) := by decide +kernel
theorem d_BlockDeskModel_write_23 : decode b_BlockDeskModel_write 23 = .ok (.getfield 40, 3) := by decide +kernel
theorem d_BlockDeskModel_write_26 : decode b_BlockDeskModel_write 26 = .ok (.iload_n 2, 1) := by decide +kernel
theorem d_BlockDeskModel_write_27 : decode b_BlockDeskModel_write 27 = .ok (.ifCond .eq 7, 3) := by decide +kernel
theorem d_BlockDeskModel_write_30 : decode b_BlockDeskModel_write 30 = .ok (.iload_n 1, 1) := by decide +kernel
theorem d_BlockDeskModel_write_31 : decode b_BlockDeskModel_write 31 = .ok (.goto 7, 3) := by decide +kernel
theorem d_BlockDeskModel_write_34 : decode b_BlockDeskModel_write 34 = .ok (.aload_n 0, 1) := by decide +kernel
theorem d_BlockDeskModel_write_35 : decode b_BlockDeskModel_write 35 = .ok (.getfield 13, 3) := by decide +kernel
theorem d_BlockDeskModel_write_38 : decode b_BlockDeskModel_write 38 = .ok (.iadd, 1) := by decide +kernel
theorem d_BlockDeskModel_write_39 : decode b_BlockDeskModel_write 39 = .ok (.putfield 40, 3) := by decide +kernel
theorem d_BlockDeskModel_write_42 : decode b_BlockDeskModel_write 42 = .ok (.aload_n 0, 1) := by decide +kernel
theorem d_BlockDeskModel_write_43 : decode b_BlockDeskModel_write 43 = .ok (.iload_n 2, 1) := by decide +kernel
theorem d_BlockDeskModel_write_44 : decode b_BlockDeskModel_write 44 = .ok (.ifCond .eq 19, 3) := by decide +kernel
theorem d_BlockDeskModel_write_47 : decode b_BlockDeskModel_write 47 = .ok (.aload_n 0, 1) := by decide +kernel
theorem d_BlockDeskModel_write_48 : decode b_BlockDeskModel_write 48 = .ok (.getfield 13, 3) := by decide +kernel
theorem d_BlockDeskModel_write_51 : decode b_BlockDeskModel_write 51 = .ok (.ifCond .lt 12, 3) := by decide +kernel
theorem d_BlockDeskModel_write_54 : decode b_BlockDeskModel_write 54 = .ok (.aload_n 0, 1) := by decide +kernel
theorem d_BlockDeskModel_write_55 : decode b_BlockDeskModel_write 55 = .ok (.getfield 13, 3) := by decide +kernel
theorem d_BlockDeskModel_write_58 : decode b_BlockDeskModel_write 58 = .ok (.iload_n 1, 1) := by decide +kernel
theorem d_BlockDeskModel_write_59 : decode b_BlockDeskModel_write 59 = .ok (.isub, 1) := by decide +kernel
theorem d_BlockDeskModel_write_60 : decode b_BlockDeskModel_write 60 = .ok (.goto 4, 3) := by decide +kernel
theorem d_BlockDeskModel_write_63 : decode b_BlockDeskModel_write 63 = .ok (.iconst (-1), 1) := by decide +kernel
theorem d_BlockDeskModel_write_64 : decode b_BlockDeskModel_write 64 = .ok (.putfield 13, 3) := by decide +kernel
theorem d_BlockDeskModel_write_67 : decode b_BlockDeskModel_write 67 = .ok (.iload_n 2, 1) := by decide +kernel
theorem d_BlockDeskModel_write_68 : decode b_BlockDeskModel_write 68 = .ok (.ifCond .ne 13, 3) := by decide +kernel
theorem d_BlockDeskModel_write_71 : decode b_BlockDeskModel_write 71 = .ok (.aload_n 0, 1) := by decide +kernel
theorem d_BlockDeskModel_write_72 : decode b_BlockDeskModel_write 72 = .ok (.iconst 0, 1) := by decide +kernel
theorem d_BlockDeskModel_write_73 : decode b_BlockDeskModel_write 73 = .ok (.putfield 7, 3) := by decide +kernel
theorem d_BlockDeskModel_write_76 : decode b_BlockDeskModel_write 76 = .ok (.aload_n 0, 1) := by decide +kernel
theorem d_BlockDeskModel_write_77 : decode b_BlockDeskModel_write 77 = .ok (.iconst 0, 1) := by decide +kernel
theorem d_BlockDeskModel_write_78 : decode b_BlockDeskModel_write 78 = .ok (.putfield 33, 3) := by decide +kernel
theorem d_BlockDeskModel_write_81 : decode b_BlockDeskModel_write 81 = .ok (.iload_n 2, 1) := by decide +kernel
theorem d_BlockDeskModel_write_82 : decode b_BlockDeskModel_write 82 = .ok (.ireturn, 1) := by decide +kernel
theorem d_BlockDeskModel_cut_0 : decode b_BlockDeskModel_cut 0 = .ok (.aload_n 0, 1) := by decide +kernel
theorem d_BlockDeskModel_cut_1 : decode b_BlockDeskModel_cut 1 = .ok (.getfield 7, 3) := by decide +kernel
theorem d_BlockDeskModel_cut_4 : decode b_BlockDeskModel_cut 4 = .ok (.ifCond .ne 5, 3) := by decide +kernel
theorem d_BlockDeskModel_cut_7 : decode b_BlockDeskModel_cut 7 = .ok (.iconst 0, 1) := by decide +kernel
theorem d_BlockDeskModel_cut_8 : decode b_BlockDeskModel_cut 8 = .ok (.ireturn, 1) := by decide +kernel
theorem d_BlockDeskModel_cut_9 : decode b_BlockDeskModel_cut 9 = .ok (.aload_n 0, 1) := by decide +kernel
theorem d_BlockDeskModel_cut_10 : decode b_BlockDeskModel_cut 10 = .ok (.iconst 0, 1) := by decide +kernel
theorem d_BlockDeskModel_cut_11 : decode b_BlockDeskModel_cut 11 = .ok (.putfield 7, 3) := by decide +kernel
theorem d_BlockDeskModel_cut_14 : decode b_BlockDeskModel_cut 14 = .ok (.aload_n 0, 1) := by decide +kernel
theorem d_BlockDeskModel_cut_15 : decode b_BlockDeskModel_cut 15 = .ok (.iconst (-1), 1) := by decide +kernel
theorem d_BlockDeskModel_cut_16 : decode b_BlockDeskModel_cut 16 = .ok (.putfield 13, 3) := by decide +kernel
theorem d_BlockDeskModel_cut_19 : decode b_BlockDeskModel_cut 19 = .ok (.aload_n 0, 1) := by decide +kernel
theorem d_BlockDeskModel_cut_20 : decode b_BlockDeskModel_cut 20 = .ok (.iconst 0, 1) := by decide +kernel
theorem d_BlockDeskModel_cut_21 : decode b_BlockDeskModel_cut 21 = .ok (.putfield 33, 3) := by decide +kernel
theorem d_BlockDeskModel_cut_24 : decode b_BlockDeskModel_cut 24 = .ok (.iconst 1, 1) := by decide +kernel
theorem d_BlockDeskModel_cut_25 : decode b_BlockDeskModel_cut 25 = .ok (.ireturn, 1) := by decide +kernel
theorem d_BlockDeskModel_start_0 : decode b_BlockDeskModel_start 0 = .ok (.aload_n 0, 1) := by decide +kernel
theorem d_BlockDeskModel_start_1 : decode b_BlockDeskModel_start 1 = .ok (.getfield 7, 3) := by decide +kernel
theorem d_BlockDeskModel_start_4 : decode b_BlockDeskModel_start 4 = .ok (.ifCond .eq 5, 3) := by decide +kernel
theorem d_BlockDeskModel_start_7 : decode b_BlockDeskModel_start 7 = .ok (.iconst 0, 1) := by decide +kernel
theorem d_BlockDeskModel_start_8 : decode b_BlockDeskModel_start 8 = .ok (.ireturn, 1) := by decide +kernel
theorem d_BlockDeskModel_start_9 : decode b_BlockDeskModel_start 9 = .ok (.aload_n 0, 1) := by decide +kernel
theorem d_BlockDeskModel_start_10 : decode b_BlockDeskModel_start 10 = .ok (.iconst 1, 1) := by decide +kernel
theorem d_BlockDeskModel_start_11 : decode b_BlockDeskModel_start 11 = .ok (.invokevirtual 49, 3) := by decide +kernel
theorem d_BlockDeskModel_start_14 : decode b_BlockDeskModel_start 14 = .ok (.ifCond .ne 5, 3) := by decide +kernel
theorem d_BlockDeskModel_start_17 : decode b_BlockDeskModel_start 17 = .ok (.iconst 2, 1) := by decide +kernel
theorem d_BlockDeskModel_start_18 : decode b_BlockDeskModel_start 18 = .ok (.ireturn, 1) := by decide +kernel
theorem d_BlockDeskModel_start_19 : decode b_BlockDeskModel_start 19 = .ok (.aload_n 0, 1) := by decide +kernel
theorem d_BlockDeskModel_start_20 : decode b_BlockDeskModel_start 20 = .ok (.iconst 1, 1) := by decide +kernel
theorem d_BlockDeskModel_start_21 : decode b_BlockDeskModel_start 21 = .ok (.putfield 7, 3) := by decide +kernel
theorem d_BlockDeskModel_start_24 : decode b_BlockDeskModel_start 24 = .ok (.iconst 1, 1) := by decide +kernel
theorem d_BlockDeskModel_start_25 : decode b_BlockDeskModel_start 25 = .ok (.ireturn, 1) := by decide +kernel
theorem d_BlockDeskModel_charge_0 : decode b_BlockDeskModel_charge 0 = .ok (.iload_n 1, 1) := by decide +kernel
theorem d_BlockDeskModel_charge_1 : decode b_BlockDeskModel_charge 1 = .ok (.ifCond .lt 10, 3) := by decide +kernel
theorem d_BlockDeskModel_charge_4 : decode b_BlockDeskModel_charge 4 = .ok (.iload_n 1, 1) := by decide +kernel
theorem d_BlockDeskModel_charge_5 : decode b_BlockDeskModel_charge 5 = .ok (.sipush 999, 3) := by decide +kernel
theorem d_BlockDeskModel_charge_8 : decode b_BlockDeskModel_charge 8 = .ok (.if_icmp .le 5, 3) := by decide +kernel
theorem d_BlockDeskModel_charge_11 : decode b_BlockDeskModel_charge 11 = .ok (.iconst 0, 1) := by decide +kernel
theorem d_BlockDeskModel_charge_12 : decode b_BlockDeskModel_charge 12 = .ok (.ireturn, 1) := by decide +kernel
theorem d_BlockDeskModel_charge_13 : decode b_BlockDeskModel_charge 13 = .ok (.aload_n 0, 1) := by decide +kernel
theorem d_BlockDeskModel_charge_14 : decode b_BlockDeskModel_charge 14 = .ok (.iload_n 1, 1) := by decide +kernel
theorem d_BlockDeskModel_charge_15 : decode b_BlockDeskModel_charge 15 = .ok (.putfield 13, 3) := by decide +kernel
theorem d_BlockDeskModel_charge_18 : decode b_BlockDeskModel_charge 18 = .ok (.iconst 1, 1) := by decide +kernel
theorem d_BlockDeskModel_charge_19 : decode b_BlockDeskModel_charge 19 = .ok (.ireturn, 1) := by decide +kernel
theorem d_BlockDeskModel_size_0 : decode b_BlockDeskModel_size 0 = .ok (.aload_n 0, 1) := by decide +kernel
theorem d_BlockDeskModel_size_1 : decode b_BlockDeskModel_size 1 = .ok (.getfield 7, 3) := by decide +kernel
theorem d_BlockDeskModel_size_4 : decode b_BlockDeskModel_size 4 = .ok (.ifCond .eq 16, 3) := by decide +kernel
theorem d_BlockDeskModel_size_7 : decode b_BlockDeskModel_size 7 = .ok (.iload_n 1, 1) := by decide +kernel
theorem d_BlockDeskModel_size_8 : decode b_BlockDeskModel_size 8 = .ok (.iconst (-1), 1) := by decide +kernel
theorem d_BlockDeskModel_size_9 : decode b_BlockDeskModel_size 9 = .ok (.if_icmp .lt 11, 3) := by decide +kernel
theorem d_BlockDeskModel_size_12 : decode b_BlockDeskModel_size 12 = .ok (.iload_n 1, 1) := by decide +kernel
theorem d_BlockDeskModel_size_13 : decode b_BlockDeskModel_size 13 = .ok (.aload_n 0, 1) := by decide +kernel
theorem d_BlockDeskModel_size_14 : decode b_BlockDeskModel_size 14 = .ok (.getfield 52, 3) := by decide +kernel
theorem d_BlockDeskModel_size_17 : decode b_BlockDeskModel_size 17 = .ok (.if_icmp .lt 5, 3) := by decide +kernel
theorem d_BlockDeskModel_size_20 : decode b_BlockDeskModel_size 20 = .ok (.iconst (-1), 1) := by decide +kernel
theorem d_BlockDeskModel_size_21 : decode b_BlockDeskModel_size 21 = .ok (.ireturn, 1) := by decide +kernel
theorem d_BlockDeskModel_size_22 : decode b_BlockDeskModel_size 22 = .ok (.iload_n 1, 1) := by decide +kernel
theorem d_BlockDeskModel_size_23 : decode b_BlockDeskModel_size 23 = .ok (.iconst (-1), 1) := by decide +kernel
theorem d_BlockDeskModel_size_24 : decode b_BlockDeskModel_size 24 = .ok (.if_icmp .ne 10, 3) := by decide +kernel
theorem d_BlockDeskModel_size_27 : decode b_BlockDeskModel_size 27 = .ok (.aload_n 0, 1) := by decide +kernel
theorem d_BlockDeskModel_size_28 : decode b_BlockDeskModel_size 28 = .ok (.getfield 55, 3) := by decide +kernel
theorem d_BlockDeskModel_size_31 : decode b_BlockDeskModel_size 31 = .ok (.goto 18, 3) := by decide +kernel
theorem d_BlockDeskModel_size_34 : decode b_BlockDeskModel_size 34 = .ok (.aload_n 0, 1) := by decide +kernel
theorem d_BlockDeskModel_size_35 : decode b_BlockDeskModel_size 35 = .ok (.getfield 27, 3) := by decide +kernel
theorem d_BlockDeskModel_size_38 : decode b_BlockDeskModel_size 38 = .ok (.iload_n 1, 1) := by decide +kernel
theorem d_BlockDeskModel_size_39 : decode b_BlockDeskModel_size 39 = .ok (.iconst 1, 1) := by decide +kernel
theorem d_BlockDeskModel_size_40 : decode b_BlockDeskModel_size 40 = .ok (.iadd, 1) := by decide +kernel
theorem d_BlockDeskModel_size_41 : decode b_BlockDeskModel_size 41 = .ok (.iaload, 1) := by decide +kernel
theorem d_BlockDeskModel_size_42 : decode b_BlockDeskModel_size 42 = .ok (.aload_n 0, 1) := by decide +kernel
theorem d_BlockDeskModel_size_43 : decode b_BlockDeskModel_size 43 = .ok (.getfield 27, 3) := by decide +kernel
theorem d_BlockDeskModel_size_46 : decode b_BlockDeskModel_size 46 = .ok (.iload_n 1, 1) := by decide +kernel
theorem d_BlockDeskModel_size_47 : decode b_BlockDeskModel_size 47 = .ok (.iaload, 1) := by decide +kernel
theorem d_BlockDeskModel_size_48 : decode b_BlockDeskModel_size 48 = .ok (.isub, 1) := by decide +kernel
theorem d_BlockDeskModel_size_49 : decode b_BlockDeskModel_size 49 = .ok (.ireturn, 1) := by decide +kernel
theorem d_BlockDeskModel_byteOf_0 : decode b_BlockDeskModel_byteOf 0 = .ok (.iload_n 2, 1) := by decide +kernel
theorem d_BlockDeskModel_byteOf_1 : decode b_BlockDeskModel_byteOf 1 = .ok (.ifCond .lt 12, 3) := by decide +kernel
theorem d_BlockDeskModel_byteOf_4 : decode b_BlockDeskModel_byteOf 4 = .ok (.iload_n 2, 1) := by decide +kernel
theorem d_BlockDeskModel_byteOf_5 : decode b_BlockDeskModel_byteOf 5 = .ok (.aload_n 0, 1) := by decide +kernel
theorem d_BlockDeskModel_byteOf_6 : decode b_BlockDeskModel_byteOf 6 = .ok (.iload_n 1, 1) := by decide +kernel
theorem d_BlockDeskModel_byteOf_7 : decode b_BlockDeskModel_byteOf 7 = .ok (.invokevirtual 58, 3) := by decide +kernel
theorem d_BlockDeskModel_byteOf_10 : decode b_BlockDeskModel_byteOf 10 = .ok (.if_icmp .lt 5, 3) := by decide +kernel
theorem d_BlockDeskModel_byteOf_13 : decode b_BlockDeskModel_byteOf 13 = .ok (.iconst (-1), 1) := by decide +kernel
theorem d_BlockDeskModel_byteOf_14 : decode b_BlockDeskModel_byteOf 14 = .ok (.ireturn, 1) := by decide +kernel
theorem d_BlockDeskModel_byteOf_15 : decode b_BlockDeskModel_byteOf 15 = .ok (.iload_n 1, 1) := by decide +kernel
theorem d_BlockDeskModel_byteOf_16 : decode b_BlockDeskModel_byteOf 16 = .ok (.iconst (-1), 1) := by decide +kernel
theorem d_BlockDeskModel_byteOf_17 : decode b_BlockDeskModel_byteOf 17 = .ok (.if_icmp .ne 12, 3) := by decide +kernel
theorem d_BlockDeskModel_byteOf_20 : decode b_BlockDeskModel_byteOf 20 = .ok (.aload_n 0, 1) := by decide +kernel
theorem d_BlockDeskModel_byteOf_21 : decode b_BlockDeskModel_byteOf 21 = .ok (.getfield 21, 3) := by decide +kernel
theorem d_BlockDeskModel_byteOf_24 : decode b_BlockDeskModel_byteOf 24 = .ok (.iload_n 2, 1) := by decide +kernel
theorem d_BlockDeskModel_byteOf_25 : decode b_BlockDeskModel_byteOf 25 = .ok (.iaload, 1) := by decide +kernel
theorem d_BlockDeskModel_byteOf_26 : decode b_BlockDeskModel_byteOf 26 = .ok (.goto 16, 3) := by decide +kernel
theorem d_BlockDeskModel_byteOf_29 : decode b_BlockDeskModel_byteOf 29 = .ok (.aload_n 0, 1) := by decide +kernel
theorem d_BlockDeskModel_byteOf_30 : decode b_BlockDeskModel_byteOf 30 = .ok (.getfield 24, 3) := by decide +kernel
theorem d_BlockDeskModel_byteOf_33 : decode b_BlockDeskModel_byteOf 33 = .ok (.aload_n 0, 1) := by decide +kernel
theorem d_BlockDeskModel_byteOf_34 : decode b_BlockDeskModel_byteOf 34 = .ok (.getfield 27, 3) := by decide +kernel
theorem d_BlockDeskModel_byteOf_37 : decode b_BlockDeskModel_byteOf 37 = .ok (.iload_n 1, 1) := by decide +kernel
theorem d_BlockDeskModel_byteOf_38 : decode b_BlockDeskModel_byteOf 38 = .ok (.iaload, 1) := by decide +kernel
theorem d_BlockDeskModel_byteOf_39 : decode b_BlockDeskModel_byteOf 39 = .ok (.iload_n 2, 1) := by decide +kernel
theorem d_BlockDeskModel_byteOf_40 : decode b_BlockDeskModel_byteOf 40 = .ok (.iadd, 1) := by decide +kernel
theorem d_BlockDeskModel_byteOf_41 : decode b_BlockDeskModel_byteOf 41 = .ok (.iaload, 1) := by decide +kernel
theorem d_BlockDeskModel_byteOf_42 : decode b_BlockDeskModel_byteOf 42 = .ok (.ireturn, 1) := by decide +kernel
theorem d_BlockDeskModel_state_0 : decode b_BlockDeskModel_state 0 = .ok (.iload_n 1, 1) := by decide +kernel
theorem d_BlockDeskModel_state_1 : decode b_BlockDeskModel_state 1 = .ok (.ifCond .ne 16, 3) := by decide +kernel
theorem d_BlockDeskModel_state_4 : decode b_BlockDeskModel_state 4 = .ok (.aload_n 0, 1) := by decide +kernel
theorem d_BlockDeskModel_state_5 : decode b_BlockDeskModel_state 5 = .ok (.getfield 7, 3) := by decide +kernel
theorem d_BlockDeskModel_state_8 : decode b_BlockDeskModel_state 8 = .ok (.ifCond .eq 7, 3) := by decide +kernel
theorem d_BlockDeskModel_state_11 : decode b_BlockDeskModel_state 11 = .ok (.iconst 1, 1) := by decide +kernel
theorem d_BlockDeskModel_state_12 : decode b_BlockDeskModel_state 12 = .ok (.goto 4, 3) := by decide +kernel
theorem d_BlockDeskModel_state_15 : decode b_BlockDeskModel_state 15 = .ok (.iconst 0, 1) := by decide +kernel
theorem d_BlockDeskModel_state_16 : decode b_BlockDeskModel_state 16 = .ok (.ireturn, 1) := by decide +kernel
theorem d_BlockDeskModel_state_17 : decode b_BlockDeskModel_state 17 = .ok (.iload_n 1, 1) := by decide +kernel
theorem d_BlockDeskModel_state_18 : decode b_BlockDeskModel_state 18 = .ok (.iconst 5, 1) := by decide +kernel
theorem d_BlockDeskModel_state_19 : decode b_BlockDeskModel_state 19 = .ok (.if_icmp .ne 8, 3) := by decide +kernel
theorem d_BlockDeskModel_state_22 : decode b_BlockDeskModel_state 22 = .ok (.aload_n 0, 1) := by decide +kernel
theorem d_BlockDeskModel_state_23 : decode b_BlockDeskModel_state 23 = .ok (.getfield 40, 3) := by decide +kernel
theorem d_BlockDeskModel_state_26 : decode b_BlockDeskModel_state 26 = .ok (.ireturn, 1) := by decide +kernel
theorem d_BlockDeskModel_state_27 : decode b_BlockDeskModel_state 27 = .ok (.aload_n 0, 1) := by decide +kernel
theorem d_BlockDeskModel_state_28 : decode b_BlockDeskModel_state 28 = .ok (.getfield 7, 3) := by decide +kernel
theorem d_BlockDeskModel_state_31 : decode b_BlockDeskModel_state 31 = .ok (.ifCond .ne 5, 3) := by decide +kernel
theorem d_BlockDeskModel_state_34 : decode b_BlockDeskModel_state 34 = .ok (.iconst (-1), 1) := by decide +kernel
theorem d_BlockDeskModel_state_35 : decode b_BlockDeskModel_state 35 = .ok (.ireturn, 1) := by decide +kernel
theorem d_BlockDeskModel_state_36 : decode b_BlockDeskModel_state 36 = .ok (.iload_n 1, 1) := by decide +kernel
theorem d_BlockDeskModel_state_37 : decode b_BlockDeskModel_state 37 = .ok (.tableswitch 51 1 4 #[31, 36, 41, 46], 31) := by decide +kernel
theorem d_BlockDeskModel_state_68 : decode b_BlockDeskModel_state 68 = .ok (.aload_n 0, 1) := by decide +kernel
theorem d_BlockDeskModel_state_69 : decode b_BlockDeskModel_state 69 = .ok (.getfield 52, 3) := by decide +kernel
theorem d_BlockDeskModel_state_72 : decode b_BlockDeskModel_state 72 = .ok (.ireturn, 1) := by decide +kernel
theorem d_BlockDeskModel_state_73 : decode b_BlockDeskModel_state 73 = .ok (.aload_n 0, 1) := by decide +kernel
theorem d_BlockDeskModel_state_74 : decode b_BlockDeskModel_state 74 = .ok (.getfield 46, 3) := by decide +kernel
theorem d_BlockDeskModel_state_77 : decode b_BlockDeskModel_state 77 = .ok (.ireturn, 1) := by decide +kernel
theorem d_BlockDeskModel_state_78 : decode b_BlockDeskModel_state 78 = .ok (.aload_n 0, 1) := by decide +kernel
theorem d_BlockDeskModel_state_79 : decode b_BlockDeskModel_state 79 = .ok (.getfield 43, 3) := by decide +kernel
theorem d_BlockDeskModel_state_82 : decode b_BlockDeskModel_state 82 = .ok (.ireturn, 1) := by decide +kernel
theorem d_BlockDeskModel_state_83 : decode b_BlockDeskModel_state 83 = .ok (.aload_n 0, 1) := by decide +kernel
theorem d_BlockDeskModel_state_84 : decode b_BlockDeskModel_state 84 = .ok (.getfield 33, 3) := by decide +kernel
theorem d_BlockDeskModel_state_87 : decode b_BlockDeskModel_state 87 = .ok (.ireturn, 1) := by decide +kernel
theorem d_BlockDeskModel_state_88 : decode b_BlockDeskModel_state 88 = .ok (.iconst (-1), 1) := by decide +kernel
theorem d_BlockDeskModel_state_89 : decode b_BlockDeskModel_state 89 = .ok (.ireturn, 1) := by decide +kernel
theorem d_BlockDeskModel_put_0 : decode b_BlockDeskModel_put 0 = .ok (.aload_n 0, 1) := by decide +kernel
theorem d_BlockDeskModel_put_1 : decode b_BlockDeskModel_put 1 = .ok (.getfield 7, 3) := by decide +kernel
theorem d_BlockDeskModel_put_4 : decode b_BlockDeskModel_put 4 = .ok (.ifCond .eq 26, 3) := by decide +kernel
theorem d_BlockDeskModel_put_7 : decode b_BlockDeskModel_put 7 = .ok (.iload_n 3, 1) := by decide +kernel
theorem d_BlockDeskModel_put_8 : decode b_BlockDeskModel_put 8 = .ok (.iconst 1, 1) := by decide +kernel
theorem d_BlockDeskModel_put_9 : decode b_BlockDeskModel_put 9 = .ok (.if_icmp .lt 21, 3) := by decide +kernel
theorem d_BlockDeskModel_put_12 : decode b_BlockDeskModel_put 12 = .ok (.iload_n 3, 1) := by decide +kernel
theorem d_BlockDeskModel_put_13 : decode b_BlockDeskModel_put 13 = .ok (.bipush 8, 2) := by decide +kernel
theorem d_BlockDeskModel_put_15 : decode b_BlockDeskModel_put 15 = .ok (.if_icmp .gt 15, 3) := by decide +kernel
theorem d_BlockDeskModel_put_18 : decode b_BlockDeskModel_put 18 = .ok (.aload_n 0, 1) := by decide +kernel
theorem d_BlockDeskModel_put_19 : decode b_BlockDeskModel_put 19 = .ok (.getfield 33, 3) := by decide +kernel
theorem d_BlockDeskModel_put_22 : decode b_BlockDeskModel_put 22 = .ok (.iload_n 3, 1) := by decide +kernel
theorem d_BlockDeskModel_put_23 : decode b_BlockDeskModel_put 23 = .ok (.iadd, 1) := by decide +kernel
theorem d_BlockDeskModel_put_24 : decode b_BlockDeskModel_put 24 = .ok (.sipush 8000, 3) := by decide +kernel
theorem d_BlockDeskModel_put_27 : decode b_BlockDeskModel_put 27 = .ok (.if_icmp .le 5, 3) := by decide +kernel
theorem d_BlockDeskModel_put_30 : decode b_BlockDeskModel_put 30 = .ok (.iconst 0, 1) := by decide +kernel
theorem d_BlockDeskModel_put_31 : decode b_BlockDeskModel_put 31 = .ok (.ireturn, 1) := by decide +kernel
theorem d_BlockDeskModel_put_32 : decode b_BlockDeskModel_put 32 = .ok (.iload_n 3, 1) := by decide +kernel
theorem d_BlockDeskModel_put_33 : decode b_BlockDeskModel_put 33 = .ok (.iconst 1, 1) := by decide +kernel
theorem d_BlockDeskModel_put_34 : decode b_BlockDeskModel_put 34 = .ok (.isub, 1) := by decide +kernel
theorem d_BlockDeskModel_put_35 : decode b_BlockDeskModel_put 35 = .ok (.istore 4, 2) := by decide +kernel
theorem d_BlockDeskModel_put_37 : decode b_BlockDeskModel_put 37 = .ok (.iload 4, 2) := by decide +kernel
theorem d_BlockDeskModel_put_39 : decode b_BlockDeskModel_put 39 = .ok (.ifCond .lt 22, 3) := by decide +kernel
theorem d_BlockDeskModel_put_42 : decode b_BlockDeskModel_put 42 = .ok (.aload_n 0, 1) := by decide +kernel
theorem d_BlockDeskModel_put_43 : decode b_BlockDeskModel_put 43 = .ok (.lload_n 1, 1) := by decide +kernel
theorem d_BlockDeskModel_put_44 : decode b_BlockDeskModel_put 44 = .ok (.bipush 8, 2) := by decide +kernel
theorem d_BlockDeskModel_put_46 : decode b_BlockDeskModel_put 46 = .ok (.iload 4, 2) := by decide +kernel
theorem d_BlockDeskModel_put_48 : decode b_BlockDeskModel_put 48 = .ok (.imul, 1) := by decide +kernel
theorem d_BlockDeskModel_put_49 : decode b_BlockDeskModel_put 49 = .ok (.lshr, 1) := by decide +kernel
theorem d_BlockDeskModel_put_50 : decode b_BlockDeskModel_put 50 = .ok (.l2i, 1) := by decide +kernel
theorem d_BlockDeskModel_put_51 : decode b_BlockDeskModel_put 51 = .ok (.invokevirtual 36, 3) := by decide +kernel
theorem d_BlockDeskModel_put_54 : decode b_BlockDeskModel_put 54 = .ok (.pop, 1) := by decide +kernel
theorem d_BlockDeskModel_put_55 : decode b_BlockDeskModel_put 55 = .ok (.iinc 4 (-1), 3) := by decide +kernel
theorem d_BlockDeskModel_put_58 : decode b_BlockDeskModel_put 58 = .ok (.goto (-21), 3) := by decide +kernel
theorem d_BlockDeskModel_put_61 : decode b_BlockDeskModel_put 61 = .ok (.iconst 1, 1) := by decide +kernel
theorem d_BlockDeskModel_put_62 : decode b_BlockDeskModel_put 62 = .ok (.ireturn, 1) := by decide +kernel
theorem d_BlockDeskModel_fill_0 : decode b_BlockDeskModel_fill 0 = .ok (.aload_n 0, 1) := by decide +kernel
theorem d_BlockDeskModel_fill_1 : decode b_BlockDeskModel_fill 1 = .ok (.getfield 7, 3) := by decide +kernel
theorem d_BlockDeskModel_fill_4 : decode b_BlockDeskModel_fill 4 = .ok (.ifCond .eq 27, 3) := by decide +kernel
theorem d_BlockDeskModel_fill_7 : decode b_BlockDeskModel_fill 7 = .ok (.iload_n 2, 1) := by decide +kernel
theorem d_BlockDeskModel_fill_8 : decode b_BlockDeskModel_fill 8 = .ok (.iconst 1, 1) := by decide +kernel
theorem d_BlockDeskModel_fill_9 : decode b_BlockDeskModel_fill 9 = .ok (.if_icmp .lt 22, 3) := by decide +kernel
theorem d_BlockDeskModel_fill_12 : decode b_BlockDeskModel_fill 12 = .ok (.iload_n 2, 1) := by decide +kernel
theorem d_BlockDeskModel_fill_13 : decode b_BlockDeskModel_fill 13 = .ok (.sipush 8000, 3) := by decide +kernel
theorem d_BlockDeskModel_fill_16 : decode b_BlockDeskModel_fill 16 = .ok (.if_icmp .gt 15, 3) := by decide +kernel
theorem d_BlockDeskModel_fill_19 : decode b_BlockDeskModel_fill 19 = .ok (.aload_n 0, 1) := by decide +kernel
theorem d_BlockDeskModel_fill_20 : decode b_BlockDeskModel_fill 20 = .ok (.getfield 33, 3) := by decide +kernel
theorem d_BlockDeskModel_fill_23 : decode b_BlockDeskModel_fill 23 = .ok (.iload_n 2, 1) := by decide +kernel
theorem d_BlockDeskModel_fill_24 : decode b_BlockDeskModel_fill 24 = .ok (.iadd, 1) := by decide +kernel
theorem d_BlockDeskModel_fill_25 : decode b_BlockDeskModel_fill 25 = .ok (.sipush 8000, 3) := by decide +kernel
theorem d_BlockDeskModel_fill_28 : decode b_BlockDeskModel_fill 28 = .ok (.if_icmp .le 5, 3) := by decide +kernel
theorem d_BlockDeskModel_fill_31 : decode b_BlockDeskModel_fill 31 = .ok (.iconst 0, 1) := by decide +kernel
theorem d_BlockDeskModel_fill_32 : decode b_BlockDeskModel_fill 32 = .ok (.ireturn, 1) := by decide +kernel
theorem d_BlockDeskModel_fill_33 : decode b_BlockDeskModel_fill 33 = .ok (.iconst 0, 1) := by decide +kernel
theorem d_BlockDeskModel_fill_34 : decode b_BlockDeskModel_fill 34 = .ok (.istore_n 3, 1) := by decide +kernel
theorem d_BlockDeskModel_fill_35 : decode b_BlockDeskModel_fill 35 = .ok (.iload_n 3, 1) := by decide +kernel
theorem d_BlockDeskModel_fill_36 : decode b_BlockDeskModel_fill 36 = .ok (.iload_n 2, 1) := by decide +kernel
theorem d_BlockDeskModel_fill_37 : decode b_BlockDeskModel_fill 37 = .ok (.if_icmp .ge 15, 3) := by decide +kernel
theorem d_BlockDeskModel_fill_40 : decode b_BlockDeskModel_fill 40 = .ok (.aload_n 0, 1) := by decide +kernel
theorem d_BlockDeskModel_fill_41 : decode b_BlockDeskModel_fill 41 = .ok (.iload_n 1, 1) := by decide +kernel
theorem d_BlockDeskModel_fill_42 : decode b_BlockDeskModel_fill 42 = .ok (.invokevirtual 36, 3) := by decide +kernel
theorem d_BlockDeskModel_fill_45 : decode b_BlockDeskModel_fill 45 = .ok (.pop, 1) := by decide +kernel
theorem d_BlockDeskModel_fill_46 : decode b_BlockDeskModel_fill 46 = .ok (.iinc 3 1, 3) := by decide +kernel
theorem d_BlockDeskModel_fill_49 : decode b_BlockDeskModel_fill 49 = .ok (.goto (-14), 3) := by decide +kernel
theorem d_BlockDeskModel_fill_52 : decode b_BlockDeskModel_fill 52 = .ok (.iconst 1, 1) := by decide +kernel
theorem d_BlockDeskModel_fill_53 : decode b_BlockDeskModel_fill 53 = .ok (.ireturn, 1) := by decide +kernel
theorem d_BlockDeskModel_record_0 : decode b_BlockDeskModel_record 0 = .ok (.aload_n 0, 1) := by decide +kernel
theorem d_BlockDeskModel_record_1 : decode b_BlockDeskModel_record 1 = .ok (.getfield 43, 3) := by decide +kernel
theorem d_BlockDeskModel_record_4 : decode b_BlockDeskModel_record 4 = .ok (.iconst 3, 1) := by decide +kernel
theorem d_BlockDeskModel_record_5 : decode b_BlockDeskModel_record 5 = .ok (.iadd, 1) := by decide +kernel
theorem d_BlockDeskModel_record_6 : decode b_BlockDeskModel_record 6 = .ok (.aload_n 0, 1) := by decide +kernel
theorem d_BlockDeskModel_record_7 : decode b_BlockDeskModel_record 7 = .ok (.getfield 33, 3) := by decide +kernel
theorem d_BlockDeskModel_record_10 : decode b_BlockDeskModel_record 10 = .ok (.iadd, 1) := by decide +kernel
theorem d_BlockDeskModel_record_11 : decode b_BlockDeskModel_record 11 = .ok (.istore_n 1, 1) := by decide +kernel
theorem d_BlockDeskModel_record_12 : decode b_BlockDeskModel_record 12 = .ok (.aload_n 0, 1) := by decide +kernel
theorem d_BlockDeskModel_record_13 : decode b_BlockDeskModel_record 13 = .ok (.getfield 7, 3) := by decide +kernel
theorem d_BlockDeskModel_record_16 : decode b_BlockDeskModel_record 16 = .ok (.ifCond .eq 24, 3) := by decide +kernel
theorem d_BlockDeskModel_record_19 : decode b_BlockDeskModel_record 19 = .ok (.iload_n 1, 1) := by decide +kernel
theorem d_BlockDeskModel_record_20 : decode b_BlockDeskModel_record 20 = .ok (.sipush 500, 3) := by decide +kernel
theorem d_BlockDeskModel_record_23 : decode b_BlockDeskModel_record 23 = .ok (.idiv, 1) := by decide +kernel
theorem d_BlockDeskModel_record_24 : decode b_BlockDeskModel_record 24 = .ok (.aload_n 0, 1) := by decide +kernel
theorem d_BlockDeskModel_record_25 : decode b_BlockDeskModel_record 25 = .ok (.getfield 46, 3) := by decide +kernel
theorem d_BlockDeskModel_record_28 : decode b_BlockDeskModel_record 28 = .ok (.sipush 500, 3) := by decide +kernel
theorem d_BlockDeskModel_record_31 : decode b_BlockDeskModel_record 31 = .ok (.idiv, 1) := by decide +kernel
theorem d_BlockDeskModel_record_32 : decode b_BlockDeskModel_record 32 = .ok (.isub, 1) := by decide +kernel
theorem d_BlockDeskModel_record_33 : decode b_BlockDeskModel_record 33 = .ok (.aload_n 0, 1) := by decide +kernel
theorem d_BlockDeskModel_record_34 : decode b_BlockDeskModel_record 34 = .ok (.getfield 30, 3) := by decide +kernel
theorem d_BlockDeskModel_record_37 : decode b_BlockDeskModel_record 37 = .ok (.if_icmp .lt 5, 3) := by decide +kernel
theorem d_BlockDeskModel_record_40 : decode b_BlockDeskModel_record 40 = .ok (.iconst 0, 1) := by decide +kernel
theorem d_BlockDeskModel_record_41 : decode b_BlockDeskModel_record 41 = .ok (.ireturn, 1) := by decide +kernel
theorem d_BlockDeskModel_record_42 : decode b_BlockDeskModel_record 42 = .ok (.aload_n 0, 1) := by decide +kernel
theorem d_BlockDeskModel_record_43 : decode b_BlockDeskModel_record 43 = .ok (.iload_n 1, 1) := by decide +kernel
theorem d_BlockDeskModel_record_44 : decode b_BlockDeskModel_record 44 = .ok (.sipush 500, 3) := by decide +kernel
theorem d_BlockDeskModel_record_47 : decode b_BlockDeskModel_record 47 = .ok (.idiv, 1) := by decide +kernel
theorem d_BlockDeskModel_record_48 : decode b_BlockDeskModel_record 48 = .ok (.aload_n 0, 1) := by decide +kernel
theorem d_BlockDeskModel_record_49 : decode b_BlockDeskModel_record 49 = .ok (.getfield 43, 3) := by decide +kernel
theorem d_BlockDeskModel_record_52 : decode b_BlockDeskModel_record 52 = .ok (.sipush 500, 3) := by decide +kernel
theorem d_BlockDeskModel_record_55 : decode b_BlockDeskModel_record 55 = .ok (.idiv, 1) := by decide +kernel
theorem d_BlockDeskModel_record_56 : decode b_BlockDeskModel_record 56 = .ok (.isub, 1) := by decide +kernel
theorem d_BlockDeskModel_record_57 : decode b_BlockDeskModel_record 57 = .ok (.iconst 1, 1) := by decide +kernel
theorem d_BlockDeskModel_record_58 : decode b_BlockDeskModel_record 58 = .ok (.iadd, 1) := by decide +kernel
theorem d_BlockDeskModel_record_59 : decode b_BlockDeskModel_record 59 = .ok (.invokevirtual 49, 3) := by decide +kernel
theorem d_BlockDeskModel_record_62 : decode b_BlockDeskModel_record 62 = .ok (.ifCond .ne 5, 3) := by decide +kernel
theorem d_BlockDeskModel_record_65 : decode b_BlockDeskModel_record 65 = .ok (.iconst 2, 1) := by decide +kernel
theorem d_BlockDeskModel_record_66 : decode b_BlockDeskModel_record 66 = .ok (.ireturn, 1) := by decide +kernel
theorem d_BlockDeskModel_record_67 : decode b_BlockDeskModel_record 67 = .ok (.iconst 0, 1) := by decide +kernel
theorem d_BlockDeskModel_record_68 : decode b_BlockDeskModel_record 68 = .ok (.istore_n 2, 1) := by decide +kernel
theorem d_BlockDeskModel_record_69 : decode b_BlockDeskModel_record 69 = .ok (.iload_n 2, 1) := by decide +kernel
theorem d_BlockDeskModel_record_70 : decode b_BlockDeskModel_record 70 = .ok (.aload_n 0, 1) := by decide +kernel
theorem d_BlockDeskModel_record_71 : decode b_BlockDeskModel_record 71 = .ok (.getfield 33, 3) := by decide +kernel
theorem d_BlockDeskModel_record_74 : decode b_BlockDeskModel_record 74 = .ok (.if_icmp .ge 31, 3) := by decide +kernel
theorem d_BlockDeskModel_record_77 : decode b_BlockDeskModel_record 77 = .ok (.aload_n 0, 1) := by decide +kernel
theorem d_BlockDeskModel_record_78 : decode b_BlockDeskModel_record 78 = .ok (.getfield 24, 3) := by decide +kernel
theorem d_BlockDeskModel_record_81 : decode b_BlockDeskModel_record 81 = .ok (.aload_n 0, 1) := by decide +kernel
theorem d_BlockDeskModel_record_82 : decode b_BlockDeskModel_record 82 = .ok (.getfield 27, 3) := by decide +kernel
theorem d_BlockDeskModel_record_85 : decode b_BlockDeskModel_record 85 = .ok (.aload_n 0, 1) := by decide +kernel
theorem d_BlockDeskModel_record_86 : decode b_BlockDeskModel_record 86 = .ok (.getfield 52, 3) := by decide +kernel
theorem d_BlockDeskModel_record_89 : decode b_BlockDeskModel_record 89 = .ok (.iaload, 1) := by decide +kernel
theorem d_BlockDeskModel_record_90 : decode b_BlockDeskModel_record 90 = .ok (.iload_n 2, 1) := by decide +kernel
theorem d_BlockDeskModel_record_91 : decode b_BlockDeskModel_record 91 = .ok (.iadd, 1) := by decide +kernel
theorem d_BlockDeskModel_record_92 : decode b_BlockDeskModel_record 92 = .ok (.aload_n 0, 1) := by decide +kernel
theorem d_BlockDeskModel_record_93 : decode b_BlockDeskModel_record 93 = .ok (.getfield 17, 3) := by decide +kernel
theorem d_BlockDeskModel_record_96 : decode b_BlockDeskModel_record 96 = .ok (.iload_n 2, 1) := by decide +kernel
theorem d_BlockDeskModel_record_97 : decode b_BlockDeskModel_record 97 = .ok (.iaload, 1) := by decide +kernel
theorem d_BlockDeskModel_record_98 : decode b_BlockDeskModel_record 98 = .ok (.iastore, 1) := by decide +kernel
theorem d_BlockDeskModel_record_99 : decode b_BlockDeskModel_record 99 = .ok (.iinc 2 1, 3) := by decide +kernel
theorem d_BlockDeskModel_record_102 : decode b_BlockDeskModel_record 102 = .ok (.goto (-33), 3) := by decide +kernel
theorem d_BlockDeskModel_record_105 : decode b_BlockDeskModel_record 105 = .ok (.aload_n 0, 1) := by decide +kernel
theorem d_BlockDeskModel_record_106 : decode b_BlockDeskModel_record 106 = .ok (.getfield 27, 3) := by decide +kernel
theorem d_BlockDeskModel_record_109 : decode b_BlockDeskModel_record 109 = .ok (.aload_n 0, 1) := by decide +kernel
theorem d_BlockDeskModel_record_110 : decode b_BlockDeskModel_record 110 = .ok (.getfield 52, 3) := by decide +kernel
theorem d_BlockDeskModel_record_113 : decode b_BlockDeskModel_record 113 = .ok (.iconst 1, 1) := by decide +kernel
theorem d_BlockDeskModel_record_114 : decode b_BlockDeskModel_record 114 = .ok (.iadd, 1) := by decide +kernel
theorem d_BlockDeskModel_record_115 : decode b_BlockDeskModel_record 115 = .ok (.aload_n 0, 1) := by decide +kernel
theorem d_BlockDeskModel_record_116 : decode b_BlockDeskModel_record 116 = .ok (.getfield 27, 3) := by decide +kernel
theorem d_BlockDeskModel_record_119 : decode b_BlockDeskModel_record 119 = .ok (.aload_n 0, 1) := by decide +kernel
theorem d_BlockDeskModel_record_120 : decode b_BlockDeskModel_record 120 = .ok (.getfield 52, 3) := by decide +kernel
theorem d_BlockDeskModel_record_123 : decode b_BlockDeskModel_record 123 = .ok (.iaload, 1) := by decide +kernel
theorem d_BlockDeskModel_record_124 : decode b_BlockDeskModel_record 124 = .ok (.aload_n 0, 1) := by decide +kernel
theorem d_BlockDeskModel_record_125 : decode b_BlockDeskModel_record 125 = .ok (.getfield 33, 3) := by decide +kernel
theorem d_BlockDeskModel_record_128 : decode b_BlockDeskModel_record 128 = .ok (.iadd, 1) := by decide +kernel
theorem d_BlockDeskModel_record_129 : decode b_BlockDeskModel_record 129 = .ok (.iastore, 1) := by decide +kernel
theorem d_BlockDeskModel_record_130 : decode b_BlockDeskModel_record 130 = .ok (.aload_n 0, 1) := by decide +kernel
theorem d_BlockDeskModel_record_131 : decode b_BlockDeskModel_record 131 = .ok (.aload_n 0, 1) := by decide +kernel
theorem d_BlockDeskModel_record_132 : decode b_BlockDeskModel_record 132 = .ok (.getfield 52, 3) := by decide +kernel
theorem d_BlockDeskModel_record_135 : decode b_BlockDeskModel_record 135 = .ok (.iconst 1, 1) := by decide +kernel
theorem d_BlockDeskModel_record_136 : decode b_BlockDeskModel_record 136 = .ok (.iadd, 1) := by decide +kernel
theorem d_BlockDeskModel_record_137 : decode b_BlockDeskModel_record 137 = .ok (.putfield 52, 3) := by decide +kernel
theorem d_BlockDeskModel_record_140 : decode b_BlockDeskModel_record 140 = .ok (.aload_n 0, 1) := by decide +kernel
theorem d_BlockDeskModel_record_141 : decode b_BlockDeskModel_record 141 = .ok (.iload_n 1, 1) := by decide +kernel
theorem d_BlockDeskModel_record_142 : decode b_BlockDeskModel_record 142 = .ok (.iconst 1, 1) := by decide +kernel
theorem d_BlockDeskModel_record_143 : decode b_BlockDeskModel_record 143 = .ok (.iadd, 1) := by decide +kernel
theorem d_BlockDeskModel_record_144 : decode b_BlockDeskModel_record 144 = .ok (.putfield 43, 3) := by decide +kernel
theorem d_BlockDeskModel_record_147 : decode b_BlockDeskModel_record 147 = .ok (.aload_n 0, 1) := by decide +kernel
theorem d_BlockDeskModel_record_148 : decode b_BlockDeskModel_record 148 = .ok (.iconst 0, 1) := by decide +kernel
theorem d_BlockDeskModel_record_149 : decode b_BlockDeskModel_record 149 = .ok (.putfield 33, 3) := by decide +kernel
theorem d_BlockDeskModel_record_152 : decode b_BlockDeskModel_record 152 = .ok (.iconst 1, 1) := by decide +kernel
theorem d_BlockDeskModel_record_153 : decode b_BlockDeskModel_record 153 = .ok (.ireturn, 1) := by decide +kernel
theorem d_BlockDeskModel_snapshot_0 : decode b_BlockDeskModel_snapshot 0 = .ok (.aload_n 0, 1) := by decide +kernel
theorem d_BlockDeskModel_snapshot_1 : decode b_BlockDeskModel_snapshot 1 = .ok (.getfield 7, 3) := by decide +kernel
theorem d_BlockDeskModel_snapshot_4 : decode b_BlockDeskModel_snapshot 4 = .ok (.ifCond .ne 5, 3) := by decide +kernel
theorem d_BlockDeskModel_snapshot_7 : decode b_BlockDeskModel_snapshot 7 = .ok (.iconst 0, 1) := by decide +kernel
theorem d_BlockDeskModel_snapshot_8 : decode b_BlockDeskModel_snapshot 8 = .ok (.ireturn, 1) := by decide +kernel
theorem d_BlockDeskModel_snapshot_9 : decode b_BlockDeskModel_snapshot 9 = .ok (.aload_n 0, 1) := by decide +kernel
theorem d_BlockDeskModel_snapshot_10 : decode b_BlockDeskModel_snapshot 10 = .ok (.aload_n 0, 1) := by decide +kernel
theorem d_BlockDeskModel_snapshot_11 : decode b_BlockDeskModel_snapshot 11 = .ok (.getfield 33, 3) := by decide +kernel
theorem d_BlockDeskModel_snapshot_14 : decode b_BlockDeskModel_snapshot 14 = .ok (.sipush 499, 3) := by decide +kernel
theorem d_BlockDeskModel_snapshot_17 : decode b_BlockDeskModel_snapshot 17 = .ok (.iadd, 1) := by decide +kernel
theorem d_BlockDeskModel_snapshot_18 : decode b_BlockDeskModel_snapshot 18 = .ok (.sipush 500, 3) := by decide +kernel
theorem d_BlockDeskModel_snapshot_21 : decode b_BlockDeskModel_snapshot 21 = .ok (.idiv, 1) := by decide +kernel
theorem d_BlockDeskModel_snapshot_22 : decode b_BlockDeskModel_snapshot 22 = .ok (.iconst 1, 1) := by decide +kernel
theorem d_BlockDeskModel_snapshot_23 : decode b_BlockDeskModel_snapshot 23 = .ok (.iadd, 1) := by decide +kernel
theorem d_BlockDeskModel_snapshot_24 : decode b_BlockDeskModel_snapshot 24 = .ok (.invokevirtual 49, 3) := by decide +kernel
theorem d_BlockDeskModel_snapshot_27 : decode b_BlockDeskModel_snapshot 27 = .ok (.ifCond .ne 5, 3) := by decide +kernel
theorem d_BlockDeskModel_snapshot_30 : decode b_BlockDeskModel_snapshot 30 = .ok (.iconst 2, 1) := by decide +kernel
theorem d_BlockDeskModel_snapshot_31 : decode b_BlockDeskModel_snapshot 31 = .ok (.ireturn, 1) := by decide +kernel
theorem d_BlockDeskModel_snapshot_32 : decode b_BlockDeskModel_snapshot 32 = .ok (.iconst 0, 1) := by decide +kernel
theorem d_BlockDeskModel_snapshot_33 : decode b_BlockDeskModel_snapshot 33 = .ok (.istore_n 1, 1) := by decide +kernel
theorem d_BlockDeskModel_snapshot_34 : decode b_BlockDeskModel_snapshot 34 = .ok (.iload_n 1, 1) := by decide +kernel
theorem d_BlockDeskModel_snapshot_35 : decode b_BlockDeskModel_snapshot 35 = .ok (.aload_n 0, 1) := by decide +kernel
theorem d_BlockDeskModel_snapshot_36 : decode b_BlockDeskModel_snapshot 36 = .ok (.getfield 33, 3) := by decide +kernel
theorem d_BlockDeskModel_snapshot_39 : decode b_BlockDeskModel_snapshot 39 = .ok (.if_icmp .ge 21, 3) := by decide +kernel
theorem d_BlockDeskModel_snapshot_42 : decode b_BlockDeskModel_snapshot 42 = .ok (.aload_n 0, 1) := by decide +kernel
theorem d_BlockDeskModel_snapshot_43 : decode b_BlockDeskModel_snapshot 43 = .ok (.getfield 21, 3) := by decide +kernel
theorem d_BlockDeskModel_snapshot_46 : decode b_BlockDeskModel_snapshot 46 = .ok (.iload_n 1, 1) := by decide +kernel
theorem d_BlockDeskModel_snapshot_47 : decode b_BlockDeskModel_snapshot 47 = .ok (.aload_n 0, 1) := by decide +kernel
theorem d_BlockDeskModel_snapshot_48 : decode b_BlockDeskModel_snapshot 48 = .ok (.getfield 17, 3) := by decide +kernel
theorem d_BlockDeskModel_snapshot_51 : decode b_BlockDeskModel_snapshot 51 = .ok (.iload_n 1, 1) := by decide +kernel
theorem d_BlockDeskModel_snapshot_52 : decode b_BlockDeskModel_snapshot 52 = .ok (.iaload, 1) := by decide +kernel
theorem d_BlockDeskModel_snapshot_53 : decode b_BlockDeskModel_snapshot 53 = .ok (.iastore, 1) := by decide +kernel
theorem d_BlockDeskModel_snapshot_54 : decode b_BlockDeskModel_snapshot 54 = .ok (.iinc 1 1, 3) := by decide +kernel
theorem d_BlockDeskModel_snapshot_57 : decode b_BlockDeskModel_snapshot 57 = .ok (.goto (-23), 3) := by decide +kernel
theorem d_BlockDeskModel_snapshot_60 : decode b_BlockDeskModel_snapshot 60 = .ok (.aload_n 0, 1) := by decide +kernel
theorem d_BlockDeskModel_snapshot_61 : decode b_BlockDeskModel_snapshot 61 = .ok (.aload_n 0, 1) := by decide +kernel
theorem d_BlockDeskModel_snapshot_62 : decode b_BlockDeskModel_snapshot 62 = .ok (.getfield 33, 3) := by decide +kernel
theorem d_BlockDeskModel_snapshot_65 : decode b_BlockDeskModel_snapshot 65 = .ok (.putfield 55, 3) := by decide +kernel
theorem d_BlockDeskModel_snapshot_68 : decode b_BlockDeskModel_snapshot 68 = .ok (.aload_n 0, 1) := by decide +kernel
theorem d_BlockDeskModel_snapshot_69 : decode b_BlockDeskModel_snapshot 69 = .ok (.getfield 52, 3) := by decide +kernel
theorem d_BlockDeskModel_snapshot_72 : decode b_BlockDeskModel_snapshot 72 = .ok (.ifCond .le 23, 3) := by decide +kernel
theorem d_BlockDeskModel_snapshot_75 : decode b_BlockDeskModel_snapshot 75 = .ok (.aload_n 0, 1) := by decide +kernel
theorem d_BlockDeskModel_snapshot_76 : decode b_BlockDeskModel_snapshot 76 = .ok (.sipush 500, 3) := by decide +kernel
theorem d_BlockDeskModel_snapshot_79 : decode b_BlockDeskModel_snapshot 79 = .ok (.aload_n 0, 1) := by decide +kernel
theorem d_BlockDeskModel_snapshot_80 : decode b_BlockDeskModel_snapshot 80 = .ok (.getfield 43, 3) := by decide +kernel
theorem d_BlockDeskModel_snapshot_83 : decode b_BlockDeskModel_snapshot 83 = .ok (.iconst 1, 1) := by decide +kernel
theorem d_BlockDeskModel_snapshot_84 : decode b_BlockDeskModel_snapshot 84 = .ok (.isub, 1) := by decide +kernel
theorem d_BlockDeskModel_snapshot_85 : decode b_BlockDeskModel_snapshot 85 = .ok (.sipush 500, 3) := by decide +kernel
theorem d_BlockDeskModel_snapshot_88 : decode b_BlockDeskModel_snapshot 88 = .ok (.idiv, 1) := by decide +kernel
theorem d_BlockDeskModel_snapshot_89 : decode b_BlockDeskModel_snapshot 89 = .ok (.iconst 1, 1) := by decide +kernel
theorem d_BlockDeskModel_snapshot_90 : decode b_BlockDeskModel_snapshot 90 = .ok (.iadd, 1) := by decide +kernel
theorem d_BlockDeskModel_snapshot_91 : decode b_BlockDeskModel_snapshot 91 = .ok (.imul, 1) := by decide +kernel
theorem d_BlockDeskModel_snapshot_92 : decode b_BlockDeskModel_snapshot 92 = .ok (.putfield 46, 3) := by decide +kernel
theorem d_BlockDeskModel_snapshot_95 : decode b_BlockDeskModel_snapshot 95 = .ok (.aload_n 0, 1) := by decide +kernel
theorem d_BlockDeskModel_snapshot_96 : decode b_BlockDeskModel_snapshot 96 = .ok (.aload_n 0, 1) := by decide +kernel
theorem d_BlockDeskModel_snapshot_97 : decode b_BlockDeskModel_snapshot 97 = .ok (.getfield 46, 3) := by decide +kernel
theorem d_BlockDeskModel_snapshot_100 : decode b_BlockDeskModel_snapshot 100 = .ok (.putfield 43, 3) := by decide +kernel
theorem d_BlockDeskModel_snapshot_103 : decode b_BlockDeskModel_snapshot 103 = .ok (.aload_n 0, 1) := by decide +kernel
theorem d_BlockDeskModel_snapshot_104 : decode b_BlockDeskModel_snapshot 104 = .ok (.iconst 0, 1) := by decide +kernel
theorem d_BlockDeskModel_snapshot_105 : decode b_BlockDeskModel_snapshot 105 = .ok (.putfield 52, 3) := by decide +kernel
theorem d_BlockDeskModel_snapshot_108 : decode b_BlockDeskModel_snapshot 108 = .ok (.aload_n 0, 1) := by decide +kernel
theorem d_BlockDeskModel_snapshot_109 : decode b_BlockDeskModel_snapshot 109 = .ok (.iconst 0, 1) := by decide +kernel
theorem d_BlockDeskModel_snapshot_110 : decode b_BlockDeskModel_snapshot 110 = .ok (.putfield 33, 3) := by decide +kernel
theorem d_BlockDeskModel_snapshot_113 : decode b_BlockDeskModel_snapshot 113 = .ok (.iconst 1, 1) := by decide +kernel
theorem d_BlockDeskModel_snapshot_114 : decode b_BlockDeskModel_snapshot 114 = .ok (.ireturn, 1) := by decide +kernel
theorem d_BlockDeskModel_init_0 : decode b_BlockDeskModel_init 0 = .ok (.aload_n 0, 1) := by decide +kernel
theorem d_BlockDeskModel_init_1 : decode b_BlockDeskModel_init 1 = .ok (.invokespecial 1, 3) := by decide +kernel
theorem d_BlockDeskModel_init_4 : decode b_BlockDeskModel_init 4 = .ok (.aload_n 0, 1) := by decide +kernel
theorem d_BlockDeskModel_init_5 : decode b_BlockDeskModel_init 5 = .ok (.iconst 1, 1) := by decide +kernel
theorem d_BlockDeskModel_init_6 : decode b_BlockDeskModel_init 6 = .ok (.putfield 7, 3) := by decide +kernel
theorem d_BlockDeskModel_init_9 : decode b_BlockDeskModel_init 9 = .ok (.aload_n 0, 1) := by decide +kernel
theorem d_BlockDeskModel_init_10 : decode b_BlockDeskModel_init 10 = .ok (.iconst (-1), 1) := by decide +kernel
theorem d_BlockDeskModel_init_11 : decode b_BlockDeskModel_init 11 = .ok (.putfield 13, 3) := by decide +kernel
theorem d_BlockDeskModel_init_14 : decode b_BlockDeskModel_init 14 = .ok (.aload_n 0, 1) := by decide +kernel
theorem d_BlockDeskModel_init_15 : decode b_BlockDeskModel_init 15 = .ok (.sipush 8000, 3) := by decide +kernel
theorem d_BlockDeskModel_init_18 : decode b_BlockDeskModel_init 18 = .ok (.newarray .int, 2) := by decide +kernel
theorem d_BlockDeskModel_init_20 : decode b_BlockDeskModel_init 20 = .ok (.putfield 17, 3) := by decide +kernel
theorem d_BlockDeskModel_init_23 : decode b_BlockDeskModel_init 23 = .ok (.aload_n 0, 1) := by decide +kernel
theorem d_BlockDeskModel_init_24 : decode b_BlockDeskModel_init 24 = .ok (.sipush 8000, 3) := by decide +kernel
theorem d_BlockDeskModel_init_27 : decode b_BlockDeskModel_init 27 = .ok (.newarray .int, 2) := by decide +kernel
theorem d_BlockDeskModel_init_29 : decode b_BlockDeskModel_init 29 = .ok (.putfield 21, 3) := by decide +kernel
theorem d_BlockDeskModel_init_32 : decode b_BlockDeskModel_init 32 = .ok (.aload_n 0, 1) := by decide +kernel
theorem d_BlockDeskModel_init_33 : decode b_BlockDeskModel_init 33 = .ok (.sipush 16000, 3) := by decide +kernel
theorem d_BlockDeskModel_init_36 : decode b_BlockDeskModel_init 36 = .ok (.newarray .int, 2) := by decide +kernel
theorem d_BlockDeskModel_init_38 : decode b_BlockDeskModel_init 38 = .ok (.putfield 24, 3) := by decide +kernel
theorem d_BlockDeskModel_init_41 : decode b_BlockDeskModel_init 41 = .ok (.aload_n 0, 1) := by decide +kernel
theorem d_BlockDeskModel_init_42 : decode b_BlockDeskModel_init 42 = .ok (.sipush 4001, 3) := by decide +kernel
theorem d_BlockDeskModel_init_45 : decode b_BlockDeskModel_init 45 = .ok (.newarray .int, 2) := by decide +kernel
theorem d_BlockDeskModel_init_47 : decode b_BlockDeskModel_init 47 = .ok (.putfield 27, 3) := by decide +kernel
theorem d_BlockDeskModel_init_50 : decode b_BlockDeskModel_init 50 = .ok (.aload_n 0, 1) := by decide +kernel
theorem d_BlockDeskModel_init_51 : decode b_BlockDeskModel_init 51 = .ok (.iload_n 1, 1) := by decide +kernel
theorem d_BlockDeskModel_init_52 : decode b_BlockDeskModel_init 52 = .ok (.iconst 2, 1) := by decide +kernel
theorem d_BlockDeskModel_init_53 : decode b_BlockDeskModel_init 53 = .ok (.if_icmp .lt 13, 3) := by decide +kernel
theorem d_BlockDeskModel_init_56 : decode b_BlockDeskModel_init 56 = .ok (.iload_n 1, 1) := by decide +kernel
theorem d_BlockDeskModel_init_57 : decode b_BlockDeskModel_init 57 = .ok (.bipush 32, 2) := by decide +kernel
theorem d_BlockDeskModel_init_59 : decode b_BlockDeskModel_init 59 = .ok (.if_icmp .gt 7, 3) := by decide +kernel
theorem d_BlockDeskModel_init_62 : decode b_BlockDeskModel_init 62 = .ok (.iload_n 1, 1) := by decide +kernel
theorem d_BlockDeskModel_init_63 : decode b_BlockDeskModel_init 63 = .ok (.goto 5, 3) := by decide +kernel
theorem d_BlockDeskModel_init_66 : decode b_BlockDeskModel_init 66 = .ok (.bipush 32, 2) := by decide +kernel
theorem d_BlockDeskModel_init_68 : decode b_BlockDeskModel_init 68 = .ok (.putfield 30, 3) := by decide +kernel
theorem d_BlockDeskModel_init_71 : decode b_BlockDeskModel_init 71 = .ok (.return_, 1) := by decide +kernel
theorem d_law_cell_0 : decode b_law_cell 0 = .ok (.iload_n 1, 1) := by decide +kernel
theorem d_law_cell_1 : decode b_law_cell 1 = .ok (.aload_n 0, 1) := by decide +kernel
theorem d_law_cell_2 : decode b_law_cell 2 = .ok (.arraylength, 1) := by decide +kernel
theorem d_law_cell_3 : decode b_law_cell 3 = .ok (.if_icmp .ge 9, 3) := by decide +kernel
theorem d_law_cell_6 : decode b_law_cell 6 = .ok (.aload_n 0, 1) := by decide +kernel
theorem d_law_cell_7 : decode b_law_cell 7 = .ok (.iload_n 1, 1) := by decide +kernel
theorem d_law_cell_8 : decode b_law_cell 8 = .ok (.iaload, 1) := by decide +kernel
theorem d_law_cell_9 : decode b_law_cell 9 = .ok (.goto 4, 3) := by decide +kernel
theorem d_law_cell_12 : decode b_law_cell 12 = .ok (.iconst 0, 1) := by decide +kernel
theorem d_law_cell_13 : decode b_law_cell 13 = .ok (.ireturn, 1) := by decide +kernel
theorem d_law_0 : decode code 0 = .ok (.new 7, 3) := by decide +kernel
theorem d_law_3 : decode code 3 = .ok (.dup, 1) := by decide +kernel
theorem d_law_4 : decode code 4 = .ok (.aload_n 0, 1) := by decide +kernel
theorem d_law_5 : decode code 5 = .ok (.iconst 0, 1) := by decide +kernel
theorem d_law_6 : decode code 6 = .ok (.invokestatic 9, 3) := by decide +kernel
theorem d_law_9 : decode code 9 = .ok (.invokespecial 15, 3) := by decide +kernel
theorem d_law_12 : decode code 12 = .ok (.astore_n 1, 1) := by decide +kernel
theorem d_law_13 : decode code 13 = .ok (.new 18, 3) := by decide +kernel
theorem d_law_16 : decode code 16 = .ok (.dup, 1) := by decide +kernel
theorem d_law_17 : decode code 17 = .ok (.aload_n 0, 1) := by decide +kernel
theorem d_law_18 : decode code 18 = .ok (.iconst 0, 1) := by decide +kernel
theorem d_law_19 : decode code 19 = .ok (.invokestatic 9, 3) := by decide +kernel
theorem d_law_22 : decode code 22 = .ok (.invokespecial 20, 3) := by decide +kernel
theorem d_law_25 : decode code 25 = .ok (.astore_n 2, 1) := by decide +kernel
theorem d_law_26 : decode code 26 = .ok (.iconst 1, 1) := by decide +kernel
theorem d_law_27 : decode code 27 = .ok (.istore_n 3, 1) := by decide +kernel
theorem d_law_28 : decode code 28 = .ok (.iload_n 3, 1) := by decide +kernel
theorem d_law_29 : decode code 29 = .ok (.aload_n 0, 1) := by decide +kernel
theorem d_law_30 : decode code 30 = .ok (.arraylength, 1) := by decide +kernel
theorem d_law_31 : decode code 31 = .ok (.iconst 4, 1) := by decide +kernel
theorem d_law_32 : decode code 32 = .ok (.isub, 1) := by decide +kernel
theorem d_law_33 : decode code 33 = .ok (.if_icmp .gt 319, 3) := by decide +kernel
theorem d_law_36 : decode code 36 = .ok (.aload_n 0, 1) := by decide +kernel
theorem d_law_37 : decode code 37 = .ok (.iload_n 3, 1) := by decide +kernel
theorem d_law_38 : decode code 38 = .ok (.iaload, 1) := by decide +kernel
theorem d_law_39 : decode code 39 = .ok (.bipush 15, 2) := by decide +kernel
theorem d_law_41 : decode code 41 = .ok (.iand, 1) := by decide +kernel
theorem d_law_42 : decode code 42 = .ok (.tableswitch 304 0 9 #[54, 117, 150, 163, 176, 189, 202, 225, 248, 281], 54) := by decide +kernel
theorem d_law_96 : decode code 96 = .ok (.aload_n 1, 1) := by decide +kernel
theorem d_law_97 : decode code 97 = .ok (.aload_n 0, 1) := by decide +kernel
theorem d_law_98 : decode code 98 = .ok (.iload_n 3, 1) := by decide +kernel
theorem d_law_99 : decode code 99 = .ok (.iconst 1, 1) := by decide +kernel
theorem d_law_100 : decode code 100 = .ok (.iadd, 1) := by decide +kernel
theorem d_law_101 : decode code 101 = .ok (.iaload, 1) := by decide +kernel
theorem d_law_102 : decode code 102 = .ok (.i2l, 1) := by decide +kernel
theorem d_law_103 : decode code 103 = .ok (.bipush 32, 2) := by decide +kernel
theorem d_law_105 : decode code 105 = .ok (.lshl, 1) := by decide +kernel
theorem d_law_106 : decode code 106 = .ok (.aload_n 0, 1) := by decide +kernel
theorem d_law_107 : decode code 107 = .ok (.iload_n 3, 1) := by decide +kernel
theorem d_law_108 : decode code 108 = .ok (.iconst 2, 1) := by decide +kernel
theorem d_law_109 : decode code 109 = .ok (.iadd, 1) := by decide +kernel
theorem d_law_110 : decode code 110 = .ok (.iaload, 1) := by decide +kernel
theorem d_law_111 : decode code 111 = .ok (.i2l, 1) := by decide +kernel
theorem d_law_112 : decode code 112 = .ok (.ldc2_w 21, 3) := by decide +kernel
theorem d_law_115 : decode code 115 = .ok (.land, 1) := by decide +kernel
theorem d_law_116 : decode code 116 = .ok (.lor, 1) := by decide +kernel
theorem d_law_117 : decode code 117 = .ok (.aload_n 0, 1) := by decide +kernel
theorem d_law_118 : decode code 118 = .ok (.iload_n 3, 1) := by decide +kernel
theorem d_law_119 : decode code 119 = .ok (.iconst 3, 1) := by decide +kernel
theorem d_law_120 : decode code 120 = .ok (.iadd, 1) := by decide +kernel
theorem d_law_121 : decode code 121 = .ok (.iaload, 1) := by decide +kernel
theorem d_law_122 : decode code 122 = .ok (.invokevirtual 23, 3) := by decide +kernel
theorem d_law_125 : decode code 125 = .ok (.aload_n 2, 1) := by decide +kernel
theorem d_law_126 : decode code 126 = .ok (.aload_n 0, 1) := by decide +kernel
theorem d_law_127 : decode code 127 = .ok (.iload_n 3, 1) := by decide +kernel
theorem d_law_128 : decode code 128 = .ok (.iconst 1, 1) := by decide +kernel
theorem d_law_129 : decode code 129 = .ok (.iadd, 1) := by decide +kernel
theorem d_law_130 : decode code 130 = .ok (.iaload, 1) := by decide +kernel
theorem d_law_131 : decode code 131 = .ok (.i2l, 1) := by decide +kernel
theorem d_law_132 : decode code 132 = .ok (.bipush 32, 2) := by decide +kernel
theorem d_law_134 : decode code 134 = .ok (.lshl, 1) := by decide +kernel
theorem d_law_135 : decode code 135 = .ok (.aload_n 0, 1) := by decide +kernel
theorem d_law_136 : decode code 136 = .ok (.iload_n 3, 1) := by decide +kernel
theorem d_law_137 : decode code 137 = .ok (.iconst 2, 1) := by decide +kernel
theorem d_law_138 : decode code 138 = .ok (.iadd, 1) := by decide +kernel
theorem d_law_139 : decode code 139 = .ok (.iaload, 1) := by decide +kernel
theorem d_law_140 : decode code 140 = .ok (.i2l, 1) := by decide +kernel
theorem d_law_141 : decode code 141 = .ok (.ldc2_w 21, 3) := by decide +kernel
theorem d_law_144 : decode code 144 = .ok (.land, 1) := by decide +kernel
theorem d_law_145 : decode code 145 = .ok (.lor, 1) := by decide +kernel
theorem d_law_146 : decode code 146 = .ok (.aload_n 0, 1) := by decide +kernel
theorem d_law_147 : decode code 147 = .ok (.iload_n 3, 1) := by decide +kernel
theorem d_law_148 : decode code 148 = .ok (.iconst 3, 1) := by decide +kernel
theorem d_law_149 : decode code 149 = .ok (.iadd, 1) := by decide +kernel
theorem d_law_150 : decode code 150 = .ok (.iaload, 1) := by decide +kernel
theorem d_law_151 : decode code 151 = .ok (.invokevirtual 27, 3) := by decide +kernel
theorem d_law_154 : decode code 154 = .ok (.if_icmp .eq 192, 3) := by decide +kernel
theorem d_law_159 : decode code 159 = .ok (.aload_n 1, 1) := by decide +kernel
theorem d_law_160 : decode code 160 = .ok (.aload_n 0, 1) := by decide +kernel
theorem d_law_161 : decode code 161 = .ok (.iload_n 3, 1) := by decide +kernel
theorem d_law_162 : decode code 162 = .ok (.iconst 1, 1) := by decide +kernel
theorem d_law_163 : decode code 163 = .ok (.iadd, 1) := by decide +kernel
theorem d_law_164 : decode code 164 = .ok (.iaload, 1) := by decide +kernel
theorem d_law_165 : decode code 165 = .ok (.aload_n 0, 1) := by decide +kernel
theorem d_law_166 : decode code 166 = .ok (.iload_n 3, 1) := by decide +kernel
theorem d_law_167 : decode code 167 = .ok (.iconst 2, 1) := by decide +kernel
theorem d_law_168 : decode code 168 = .ok (.iadd, 1) := by decide +kernel
theorem d_law_169 : decode code 169 = .ok (.iaload, 1) := by decide +kernel
theorem d_law_170 : decode code 170 = .ok (.invokevirtual 28, 3) := by decide +kernel
theorem d_law_173 : decode code 173 = .ok (.aload_n 2, 1) := by decide +kernel
theorem d_law_174 : decode code 174 = .ok (.aload_n 0, 1) := by decide +kernel
theorem d_law_175 : decode code 175 = .ok (.iload_n 3, 1) := by decide +kernel
theorem d_law_176 : decode code 176 = .ok (.iconst 1, 1) := by decide +kernel
theorem d_law_177 : decode code 177 = .ok (.iadd, 1) := by decide +kernel
theorem d_law_178 : decode code 178 = .ok (.iaload, 1) := by decide +kernel
theorem d_law_179 : decode code 179 = .ok (.aload_n 0, 1) := by decide +kernel
theorem d_law_180 : decode code 180 = .ok (.iload_n 3, 1) := by decide +kernel
theorem d_law_181 : decode code 181 = .ok (.iconst 2, 1) := by decide +kernel
theorem d_law_182 : decode code 182 = .ok (.iadd, 1) := by decide +kernel
theorem d_law_183 : decode code 183 = .ok (.iaload, 1) := by decide +kernel
theorem d_law_184 : decode code 184 = .ok (.invokevirtual 32, 3) := by decide +kernel
theorem d_law_187 : decode code 187 = .ok (.if_icmp .eq 159, 3) := by decide +kernel
theorem d_law_192 : decode code 192 = .ok (.aload_n 1, 1) := by decide +kernel
theorem d_law_193 : decode code 193 = .ok (.invokevirtual 33, 3) := by decide +kernel
theorem d_law_196 : decode code 196 = .ok (.aload_n 2, 1) := by decide +kernel
theorem d_law_197 : decode code 197 = .ok (.invokevirtual 37, 3) := by decide +kernel
theorem d_law_200 : decode code 200 = .ok (.if_icmp .eq 146, 3) := by decide +kernel
theorem d_law_205 : decode code 205 = .ok (.aload_n 1, 1) := by decide +kernel
theorem d_law_206 : decode code 206 = .ok (.invokevirtual 38, 3) := by decide +kernel
theorem d_law_209 : decode code 209 = .ok (.aload_n 2, 1) := by decide +kernel
theorem d_law_210 : decode code 210 = .ok (.invokevirtual 41, 3) := by decide +kernel
theorem d_law_213 : decode code 213 = .ok (.if_icmp .eq 133, 3) := by decide +kernel
theorem d_law_218 : decode code 218 = .ok (.aload_n 1, 1) := by decide +kernel
theorem d_law_219 : decode code 219 = .ok (.invokevirtual 42, 3) := by decide +kernel
theorem d_law_222 : decode code 222 = .ok (.aload_n 2, 1) := by decide +kernel
theorem d_law_223 : decode code 223 = .ok (.invokevirtual 46, 3) := by decide +kernel
theorem d_law_226 : decode code 226 = .ok (.if_icmp .eq 120, 3) := by decide +kernel
theorem d_law_231 : decode code 231 = .ok (.aload_n 1, 1) := by decide +kernel
theorem d_law_232 : decode code 232 = .ok (.invokevirtual 47, 3) := by decide +kernel
theorem d_law_235 : decode code 235 = .ok (.aload_n 2, 1) := by decide +kernel
theorem d_law_236 : decode code 236 = .ok (.invokevirtual 50, 3) := by decide +kernel
theorem d_law_239 : decode code 239 = .ok (.if_icmp .eq 107, 3) := by decide +kernel
theorem d_law_244 : decode code 244 = .ok (.aload_n 1, 1) := by decide +kernel
theorem d_law_245 : decode code 245 = .ok (.aload_n 0, 1) := by decide +kernel
theorem d_law_246 : decode code 246 = .ok (.iload_n 3, 1) := by decide +kernel
theorem d_law_247 : decode code 247 = .ok (.iconst 1, 1) := by decide +kernel
theorem d_law_248 : decode code 248 = .ok (.iadd, 1) := by decide +kernel
theorem d_law_249 : decode code 249 = .ok (.iaload, 1) := by decide +kernel
theorem d_law_250 : decode code 250 = .ok (.invokevirtual 51, 3) := by decide +kernel
theorem d_law_253 : decode code 253 = .ok (.aload_n 2, 1) := by decide +kernel
theorem d_law_254 : decode code 254 = .ok (.aload_n 0, 1) := by decide +kernel
theorem d_law_255 : decode code 255 = .ok (.iload_n 3, 1) := by decide +kernel
theorem d_law_256 : decode code 256 = .ok (.iconst 1, 1) := by decide +kernel
theorem d_law_257 : decode code 257 = .ok (.iadd, 1) := by decide +kernel
theorem d_law_258 : decode code 258 = .ok (.iaload, 1) := by decide +kernel
theorem d_law_259 : decode code 259 = .ok (.invokevirtual 55, 3) := by decide +kernel
theorem d_law_262 : decode code 262 = .ok (.if_icmp .eq 84, 3) := by decide +kernel
theorem d_law_267 : decode code 267 = .ok (.aload_n 1, 1) := by decide +kernel
theorem d_law_268 : decode code 268 = .ok (.aload_n 0, 1) := by decide +kernel
theorem d_law_269 : decode code 269 = .ok (.iload_n 3, 1) := by decide +kernel
theorem d_law_270 : decode code 270 = .ok (.iconst 1, 1) := by decide +kernel
theorem d_law_271 : decode code 271 = .ok (.iadd, 1) := by decide +kernel
theorem d_law_272 : decode code 272 = .ok (.iaload, 1) := by decide +kernel
theorem d_law_273 : decode code 273 = .ok (.invokevirtual 56, 3) := by decide +kernel
theorem d_law_276 : decode code 276 = .ok (.aload_n 2, 1) := by decide +kernel
theorem d_law_277 : decode code 277 = .ok (.aload_n 0, 1) := by decide +kernel
theorem d_law_278 : decode code 278 = .ok (.iload_n 3, 1) := by decide +kernel
theorem d_law_279 : decode code 279 = .ok (.iconst 1, 1) := by decide +kernel
theorem d_law_280 : decode code 280 = .ok (.iadd, 1) := by decide +kernel
theorem d_law_281 : decode code 281 = .ok (.iaload, 1) := by decide +kernel
theorem d_law_282 : decode code 282 = .ok (.invokevirtual 60, 3) := by decide +kernel
theorem d_law_285 : decode code 285 = .ok (.if_icmp .eq 61, 3) := by decide +kernel
theorem d_law_290 : decode code 290 = .ok (.aload_n 1, 1) := by decide +kernel
theorem d_law_291 : decode code 291 = .ok (.aload_n 0, 1) := by decide +kernel
theorem d_law_292 : decode code 292 = .ok (.iload_n 3, 1) := by decide +kernel
theorem d_law_293 : decode code 293 = .ok (.iconst 1, 1) := by decide +kernel
theorem d_law_294 : decode code 294 = .ok (.iadd, 1) := by decide +kernel
theorem d_law_295 : decode code 295 = .ok (.iaload, 1) := by decide +kernel
theorem d_law_296 : decode code 296 = .ok (.aload_n 0, 1) := by decide +kernel
theorem d_law_297 : decode code 297 = .ok (.iload_n 3, 1) := by decide +kernel
theorem d_law_298 : decode code 298 = .ok (.iconst 2, 1) := by decide +kernel
theorem d_law_299 : decode code 299 = .ok (.iadd, 1) := by decide +kernel
theorem d_law_300 : decode code 300 = .ok (.iaload, 1) := by decide +kernel
theorem d_law_301 : decode code 301 = .ok (.invokevirtual 61, 3) := by decide +kernel
theorem d_law_304 : decode code 304 = .ok (.aload_n 2, 1) := by decide +kernel
theorem d_law_305 : decode code 305 = .ok (.aload_n 0, 1) := by decide +kernel
theorem d_law_306 : decode code 306 = .ok (.iload_n 3, 1) := by decide +kernel
theorem d_law_307 : decode code 307 = .ok (.iconst 1, 1) := by decide +kernel
theorem d_law_308 : decode code 308 = .ok (.iadd, 1) := by decide +kernel
theorem d_law_309 : decode code 309 = .ok (.iaload, 1) := by decide +kernel
theorem d_law_310 : decode code 310 = .ok (.aload_n 0, 1) := by decide +kernel
theorem d_law_311 : decode code 311 = .ok (.iload_n 3, 1) := by decide +kernel
theorem d_law_312 : decode code 312 = .ok (.iconst 2, 1) := by decide +kernel
theorem d_law_313 : decode code 313 = .ok (.iadd, 1) := by decide +kernel
theorem d_law_314 : decode code 314 = .ok (.iaload, 1) := by decide +kernel
theorem d_law_315 : decode code 315 = .ok (.invokevirtual 65, 3) := by decide +kernel
theorem d_law_318 : decode code 318 = .ok (.if_icmp .eq 28, 3) := by decide +kernel
theorem d_law_323 : decode code 323 = .ok (.aload_n 1, 1) := by decide +kernel
theorem d_law_324 : decode code 324 = .ok (.aload_n 0, 1) := by decide +kernel
theorem d_law_325 : decode code 325 = .ok (.iload_n 3, 1) := by decide +kernel
theorem d_law_326 : decode code 326 = .ok (.iconst 1, 1) := by decide +kernel
theorem d_law_327 : decode code 327 = .ok (.iadd, 1) := by decide +kernel
theorem d_law_328 : decode code 328 = .ok (.iaload, 1) := by decide +kernel
theorem d_law_329 : decode code 329 = .ok (.invokevirtual 66, 3) := by decide +kernel
theorem d_law_332 : decode code 332 = .ok (.aload_n 2, 1) := by decide +kernel
theorem d_law_333 : decode code 333 = .ok (.aload_n 0, 1) := by decide +kernel
theorem d_law_334 : decode code 334 = .ok (.iload_n 3, 1) := by decide +kernel
theorem d_law_335 : decode code 335 = .ok (.iconst 1, 1) := by decide +kernel
theorem d_law_336 : decode code 336 = .ok (.iadd, 1) := by decide +kernel
theorem d_law_337 : decode code 337 = .ok (.iaload, 1) := by decide +kernel
theorem d_law_338 : decode code 338 = .ok (.invokevirtual 69, 3) := by decide +kernel
theorem d_law_341 : decode code 341 = .ok (.if_icmp .eq 5, 3) := by decide +kernel
theorem d_law_346 : decode code 346 = .ok (.iinc 3 4, 3) := by decide +kernel
theorem d_law_349 : decode code 349 = .ok (.goto (-321), 3) := by decide +kernel
theorem d_law_352 : decode code 352 = .ok (.iconst 1, 1) := by decide +kernel
theorem d_law_353 : decode code 353 = .ok (.ireturn, 1) := by decide +kernel
end
section
set_option maxRecDepth 20000 in
theorem g_BlockDesk_writeBlocks_BlockDesk_losePower : GoodIn w_BlockDesk_writeBlocks (wsV R_BlockDesk 70 R_BlockDesk y_BlockDesk_losePower w_BlockDesk_losePower) := goodIn_p _ [7] rfl (by decide +kernel)
set_option maxRecDepth 20000 in
theorem g_BlockDesk_beginJournalAnew_BlockDesk_usedPlaces : GoodIn w_BlockDesk_beginJournalAnew (wsV R_BlockDesk 44 R_BlockDesk y_BlockDesk_usedPlaces w_BlockDesk_usedPlaces) := goodIn_p _ [6] rfl (by decide +kernel)
set_option maxRecDepth 20000 in
theorem g_BlockDesk_beginJournalAnew_BlockDesk_blocksFor : GoodIn w_BlockDesk_beginJournalAnew (va_wsS R_BlockDesk 60 y_BlockDesk_blocksFor w_BlockDesk_blocksFor) := goodIn_p _ [11] rfl (by decide +kernel)
set_option maxRecDepth 20000 in
theorem g_BlockDesk_cut_BlockDesk_losePower : GoodIn w_BlockDesk_cut (wsV R_BlockDesk 70 R_BlockDesk y_BlockDesk_losePower w_BlockDesk_losePower) := goodIn_p _ [6] rfl (by decide +kernel)
set_option maxRecDepth 20000 in
theorem g_BlockDesk_start_BlockDesk_writeBlocks : GoodIn w_BlockDesk_start (wsV R_BlockDesk 48 R_BlockDesk y_BlockDesk_writeBlocks w_BlockDesk_writeBlocks) := goodIn_p _ [6, 12] rfl (by decide +kernel)
set_option maxRecDepth 20000 in
theorem g_BlockDesk_byteOf_BlockDesk_size : GoodIn w_BlockDesk_byteOf (wsV R_BlockDesk 76 R_BlockDesk y_BlockDesk_size w_BlockDesk_size) := goodIn_p _ [5] rfl (by decide +kernel)
set_option maxRecDepth 20000 in
theorem g_BlockDesk_state_BlockDesk_usedPlaces : GoodIn w_BlockDesk_state (wsV R_BlockDesk 44 R_BlockDesk y_BlockDesk_usedPlaces w_BlockDesk_usedPlaces) := goodIn_p _ [9] rfl (by decide +kernel)
set_option maxRecDepth 20000 in
theorem g_BlockDesk_put_BlockDesk_handTakes : GoodIn w_BlockDesk_put (wsV R_BlockDesk 31 R_BlockDesk y_BlockDesk_handTakes w_BlockDesk_handTakes) := goodIn_p _ [5] rfl (by decide +kernel)
set_option maxRecDepth 20000 in
theorem g_Arrays_fill_Arrays_rangeCheck : GoodIn w_Arrays_fill (va_wsS R_Arrays 13 y_Arrays_rangeCheck w_Arrays_rangeCheck) := goodIn_p _ [4] rfl (by decide +kernel)
set_option maxRecDepth 20000 in
theorem g_BlockDesk_fill_BlockDesk_handTakes : GoodIn w_BlockDesk_fill (wsV R_BlockDesk 31 R_BlockDesk y_BlockDesk_handTakes w_BlockDesk_handTakes) := goodIn_p _ [5] rfl (by decide +kernel)
set_option maxRecDepth 20000 in
theorem g_BlockDesk_fill_Arrays_fill : GoodIn w_BlockDesk_fill (va_wsS R_BlockDesk 38 y_Arrays_fill w_Arrays_fill) := goodIn_p _ [12, 15] rfl (by decide +kernel)
set_option maxRecDepth 20000 in
theorem g_BlockDesk_record_BlockDesk_usedPlaces : GoodIn w_BlockDesk_record (wsV R_BlockDesk 44 R_BlockDesk y_BlockDesk_usedPlaces w_BlockDesk_usedPlaces) := goodIn_p _ [6] rfl (by decide +kernel)
set_option maxRecDepth 20000 in
theorem g_BlockDesk_record_BlockDesk_writeBlocks : GoodIn w_BlockDesk_record (wsV R_BlockDesk 48 R_BlockDesk y_BlockDesk_writeBlocks w_BlockDesk_writeBlocks) := goodIn_p _ [14, 20] rfl (by decide +kernel)
set_option maxRecDepth 20000 in
theorem g_BlockDesk_snapshot_BlockDesk_blocksFor : GoodIn w_BlockDesk_snapshot (va_wsS R_BlockDesk 60 y_BlockDesk_blocksFor w_BlockDesk_blocksFor) := goodIn_p _ [6] rfl (by decide +kernel)
set_option maxRecDepth 20000 in
theorem g_BlockDesk_snapshot_BlockDesk_writeBlocks : GoodIn w_BlockDesk_snapshot (wsV R_BlockDesk 48 R_BlockDesk y_BlockDesk_writeBlocks w_BlockDesk_writeBlocks) := goodIn_p _ [10, 16] rfl (by decide +kernel)
set_option maxRecDepth 20000 in
theorem g_BlockDesk_snapshot_BlockDesk_takeHandAsSnapshot : GoodIn w_BlockDesk_snapshot (wsV R_BlockDesk 64 R_BlockDesk y_BlockDesk_takeHandAsSnapshot w_BlockDesk_takeHandAsSnapshot) := goodIn_p _ [20] rfl (by decide +kernel)
set_option maxRecDepth 20000 in
theorem g_BlockDesk_snapshot_BlockDesk_beginJournalAnew : GoodIn w_BlockDesk_snapshot (wsV R_BlockDesk 67 R_BlockDesk y_BlockDesk_beginJournalAnew w_BlockDesk_beginJournalAnew) := goodIn_p _ [27, 32, 6] rfl (by decide +kernel)
set_option maxRecDepth 20000 in
theorem g_BlockDeskModel_start_BlockDeskModel_write : GoodIn w_BlockDeskModel_start (wsV R_BlockDeskModel 49 R_BlockDeskModel y_BlockDeskModel_write w_BlockDeskModel_write) := goodIn_p _ [6] rfl (by decide +kernel)
set_option maxRecDepth 20000 in
theorem g_BlockDeskModel_byteOf_BlockDeskModel_size : GoodIn w_BlockDeskModel_byteOf (wsV R_BlockDeskModel 58 R_BlockDeskModel y_BlockDeskModel_size w_BlockDeskModel_size) := goodIn_p _ [5] rfl (by decide +kernel)
set_option maxRecDepth 20000 in
theorem g_BlockDeskModel_put_BlockDeskModel_hold : GoodIn w_BlockDeskModel_put (wsV R_BlockDeskModel 36 R_BlockDeskModel y_BlockDeskModel_hold w_BlockDeskModel_hold) := goodIn_p _ [7] rfl (by decide +kernel)
set_option maxRecDepth 20000 in
theorem g_BlockDeskModel_fill_BlockDeskModel_hold : GoodIn w_BlockDeskModel_fill (wsV R_BlockDeskModel 36 R_BlockDeskModel y_BlockDeskModel_hold w_BlockDeskModel_hold) := goodIn_p _ [7] rfl (by decide +kernel)
set_option maxRecDepth 20000 in
theorem g_BlockDeskModel_record_BlockDeskModel_write : GoodIn w_BlockDeskModel_record (wsV R_BlockDeskModel 49 R_BlockDeskModel y_BlockDeskModel_write w_BlockDeskModel_write) := goodIn_p _ [10] rfl (by decide +kernel)
set_option maxRecDepth 20000 in
theorem g_BlockDeskModel_snapshot_BlockDeskModel_write : GoodIn w_BlockDeskModel_snapshot (wsV R_BlockDeskModel 49 R_BlockDeskModel y_BlockDeskModel_write w_BlockDeskModel_write) := goodIn_p _ [7] rfl (by decide +kernel)
set_option maxRecDepth 20000 in
theorem g_law_law_cell : GoodIn lw_tbl (va_wsS R_law 9 y_law_cell w_law_cell) := goodIn_p _ [136] rfl (by decide +kernel)
set_option maxRecDepth 20000 in
theorem g_law_BlockDesk_init : GoodIn lw_tbl (w_BlockDesk_init) := goodIn_p _ [17, 20] rfl (by decide +kernel)
set_option maxRecDepth 20000 in
theorem g_law_BlockDeskModel_init : GoodIn lw_tbl (w_BlockDeskModel_init) := goodIn_p _ [141, 20] rfl (by decide +kernel)
set_option maxRecDepth 20000 in
theorem g_law_BlockDesk_put : GoodIn lw_tbl (wsV R_law 23 R_BlockDesk y_BlockDesk_put w_BlockDesk_put) := goodIn_p _ [60, 64] rfl (by decide +kernel)
set_option maxRecDepth 20000 in
theorem g_law_BlockDeskModel_put : GoodIn lw_tbl (wsV R_law 27 R_BlockDeskModel y_BlockDeskModel_put w_BlockDeskModel_put) := goodIn_p _ [186, 190] rfl (by decide +kernel)
set_option maxRecDepth 20000 in
theorem g_law_BlockDesk_fill : GoodIn lw_tbl (wsV R_law 28 R_BlockDesk y_BlockDesk_fill w_BlockDesk_fill) := goodIn_p _ [68, 64, 71, 74] rfl (by decide +kernel)
set_option maxRecDepth 20000 in
theorem g_law_BlockDeskModel_fill : GoodIn lw_tbl (wsV R_law 32 R_BlockDeskModel y_BlockDeskModel_fill w_BlockDeskModel_fill) := goodIn_p _ [194, 190] rfl (by decide +kernel)
set_option maxRecDepth 20000 in
theorem g_law_BlockDesk_record : GoodIn lw_tbl (wsV R_law 33 R_BlockDesk y_BlockDesk_record w_BlockDesk_record) := goodIn_p _ [78, 82, 86, 90] rfl (by decide +kernel)
set_option maxRecDepth 20000 in
theorem g_law_BlockDeskModel_record : GoodIn lw_tbl (wsV R_law 37 R_BlockDeskModel y_BlockDeskModel_record w_BlockDeskModel_record) := goodIn_p _ [198, 202] rfl (by decide +kernel)
set_option maxRecDepth 20000 in
theorem g_law_BlockDesk_snapshot : GoodIn lw_tbl (wsV R_law 38 R_BlockDesk y_BlockDesk_snapshot w_BlockDesk_snapshot) := goodIn_p _ [97, 100, 86, 90, 104, 108, 82] rfl (by decide +kernel)
set_option maxRecDepth 20000 in
theorem g_law_BlockDeskModel_snapshot : GoodIn lw_tbl (wsV R_law 41 R_BlockDeskModel y_BlockDeskModel_snapshot w_BlockDeskModel_snapshot) := goodIn_p _ [206, 202] rfl (by decide +kernel)
set_option maxRecDepth 20000 in
theorem g_law_BlockDesk_cut : GoodIn lw_tbl (wsV R_law 42 R_BlockDesk y_BlockDesk_cut w_BlockDesk_cut) := goodIn_p _ [112, 90] rfl (by decide +kernel)
set_option maxRecDepth 20000 in
theorem g_law_BlockDeskModel_cut : GoodIn lw_tbl (wsV R_law 46 R_BlockDeskModel y_BlockDeskModel_cut w_BlockDeskModel_cut) := goodIn_p _ [210] rfl (by decide +kernel)
set_option maxRecDepth 20000 in
theorem g_law_BlockDesk_start : GoodIn lw_tbl (wsV R_law 47 R_BlockDesk y_BlockDesk_start w_BlockDesk_start) := goodIn_p _ [116, 86, 90] rfl (by decide +kernel)
set_option maxRecDepth 20000 in
theorem g_law_BlockDeskModel_start : GoodIn lw_tbl (wsV R_law 50 R_BlockDeskModel y_BlockDeskModel_start w_BlockDeskModel_start) := goodIn_p _ [214, 202] rfl (by decide +kernel)
set_option maxRecDepth 20000 in
theorem g_law_BlockDesk_charge : GoodIn lw_tbl (wsV R_law 51 R_BlockDesk y_BlockDesk_charge w_BlockDesk_charge) := goodIn_p _ [120] rfl (by decide +kernel)
set_option maxRecDepth 20000 in
theorem g_law_BlockDeskModel_charge : GoodIn lw_tbl (wsV R_law 55 R_BlockDeskModel y_BlockDeskModel_charge w_BlockDeskModel_charge) := goodIn_p _ [218] rfl (by decide +kernel)
set_option maxRecDepth 20000 in
theorem g_law_BlockDesk_size : GoodIn lw_tbl (wsV R_law 56 R_BlockDesk y_BlockDesk_size w_BlockDesk_size) := goodIn_p _ [124] rfl (by decide +kernel)
set_option maxRecDepth 20000 in
theorem g_law_BlockDeskModel_size : GoodIn lw_tbl (wsV R_law 60 R_BlockDeskModel y_BlockDeskModel_size w_BlockDeskModel_size) := goodIn_p _ [222] rfl (by decide +kernel)
set_option maxRecDepth 20000 in
theorem g_law_BlockDesk_byteOf : GoodIn lw_tbl (wsV R_law 61 R_BlockDesk y_BlockDesk_byteOf w_BlockDesk_byteOf) := goodIn_p _ [128, 124] rfl (by decide +kernel)
set_option maxRecDepth 20000 in
theorem g_law_BlockDeskModel_byteOf : GoodIn lw_tbl (wsV R_law 65 R_BlockDeskModel y_BlockDeskModel_byteOf w_BlockDeskModel_byteOf) := goodIn_p _ [226, 222] rfl (by decide +kernel)
set_option maxRecDepth 20000 in
theorem g_law_BlockDesk_state : GoodIn lw_tbl (wsV R_law 66 R_BlockDesk y_BlockDesk_state w_BlockDesk_state) := goodIn_p _ [133, 82] rfl (by decide +kernel)
set_option maxRecDepth 20000 in
theorem g_law_BlockDeskModel_state : GoodIn lw_tbl (wsV R_law 69 R_BlockDeskModel y_BlockDeskModel_state w_BlockDeskModel_state) := goodIn_p _ [231] rfl (by decide +kernel)
end
section
/-! numbers, and what both sides' methods answer, as functions of the numbers that they share -/
section XQ
variable {p : Program} {l : Launch} {e : Env} {R : Room} {s : State} {m : MethodId} {args : Array Value} {below : List Frame} {meth : Method} {c : Code} {H : Heap} {locs : List Loc} {cells slots : Nat} {Q : State → Prop}
variable {pc : Nat} {ls : Array Slot} {rest : List Value}
theorem xq_top {x : Int32} (y : Int32) (h : x = y) (k : W p l e R s m args below meth c H locs cells slots Q (F0 m pc ls (.int y :: rest))) : W p l e R s m args below meth c H locs cells slots Q (F0 m pc ls (.int x :: rest)) := by
  rw [h]; exact k
end XQ
theorem xq_lt {x y : Int32} : x < y ↔ x.toInt < y.toInt := Int32.lt_iff_toInt_lt
theorem xq_le {x y : Int32} : x ≤ y ↔ x.toInt ≤ y.toInt := Int32.le_iff_toInt_le
theorem xq_m1T : (-1 : Int32).toInt = -1 := by decide +kernel
theorem xq_lt_r {x : Int32} {a : Nat} (h : a < 2 ^ 31) : x < nI a ↔ x.toInt < (a : Int) := by rw [xq_lt, nI_toInt h]
theorem xq_lt_l {x : Int32} {a : Nat} (h : a < 2 ^ 31) : nI a < x ↔ (a : Int) < x.toInt := by rw [xq_lt, nI_toInt h]
theorem xq_le_r {x : Int32} {a : Nat} (h : a < 2 ^ 31) : x ≤ nI a ↔ x.toInt ≤ (a : Int) := by rw [xq_le, nI_toInt h]
theorem xq_le_l {x : Int32} {a : Nat} (h : a < 2 ^ 31) : nI a ≤ x ↔ (a : Int) ≤ x.toInt := by rw [xq_le, nI_toInt h]
theorem xq_lt_0r {x : Int32} : x < 0 ↔ x.toInt < 0 := by rw [xq_lt, Int32.toInt_zero]
theorem xq_lt_0l {x : Int32} : 0 < x ↔ 0 < x.toInt := by rw [xq_lt, Int32.toInt_zero]
theorem xq_le_0r {x : Int32} : x ≤ 0 ↔ x.toInt ≤ 0 := by rw [xq_le, Int32.toInt_zero]
theorem xq_le_0l {x : Int32} : 0 ≤ x ↔ 0 ≤ x.toInt := by rw [xq_le, Int32.toInt_zero]
theorem xq_lt_n0 {a : Nat} (h : a < 2 ^ 31) : nI a < 0 ↔ (a : Int) < 0 := by rw [xq_lt_0r, nI_toInt h]
theorem xq_lt_0n {a : Nat} (h : a < 2 ^ 31) : 0 < nI a ↔ 0 < (a : Int) := by rw [xq_lt_0l, nI_toInt h]
theorem xq_le_n0 {a : Nat} (h : a < 2 ^ 31) : nI a ≤ 0 ↔ (a : Int) ≤ 0 := by rw [xq_le_0r, nI_toInt h]
theorem xq_le_0n {a : Nat} (h : a < 2 ^ 31) : 0 ≤ nI a ↔ 0 ≤ (a : Int) := by rw [xq_le_0l, nI_toInt h]
theorem xq_lt_mr {x : Int32} : x < (-1) ↔ x.toInt < -1 := by rw [xq_lt, xq_m1T]
theorem xq_toInt_inj {x y : Int32} (h : x.toInt = y.toInt) : x = y := Int32.toInt_inj.mp h
/-- an int that isn't below 0 is a number -/
theorem xq_nat {x : Int32} (h : 0 ≤ x.toInt) : ∃ j : Nat, j < 2 ^ 31 ∧ x = nI j ∧ x.toInt = (j : Int) ∧ x.toNatClampNeg = j := by
  obtain ⟨j, hj, e⟩ := nI_of (x := x) (fun q => by have := xq_lt_0r.mp q; omega)
  exact ⟨j, hj, e, by rw [e]; exact nI_toInt hj, by rw [e]; exact nI_clamp hj⟩
theorem xq_nm1 {a : Nat} (h : a < 2 ^ 31) : ¬ nI a = -1 := by
  intro q
  have h1 := nI_toInt h
  rw [q, xq_m1T] at h1
  omega
theorem xq_n0 {a : Nat} (h0 : 0 < a) (h : a < 2 ^ 31) : ¬ nI a = 0 := nI_ne0 h0 h
def zq_pd (n : Nat) : Int32 := match n with
  | 0 => -1
  | k + 1 => nI k
theorem xq_m1 : Int32.ofInt (-1) = (-1 : Int32) := by decide +kernel
theorem xq_pd (n : Nat) : nI n + Int32.ofInt (-1) = zq_pd n := by
  rw [xq_m1]
  cases n with
  | zero => decide +kernel
  | succ k => exact pk_m1 k
/-- f' is f with k values g from place hs on -/
def zq_app (f f' : Nat → Int32) (hs k : Nat) (g : Nat → Int32) : Prop := (∀ z, z < hs → f' z = f z) ∧ ∀ z, z < k → f' (hs + z) = g z
theorem zq_app_0 {f : Nat → Int32} {hs : Nat} {g : Nat → Int32} : zq_app f f hs 0 g := ⟨fun _ _ => rfl, fun z h => absurd h (Nat.not_lt_zero z)⟩
theorem zq_app_s {f f' : Nat → Int32} {hs k : Nat} {g : Nat → Int32} {v : Int32} (h : zq_app f f' hs k g) (hv : v = g k) : zq_app f (upd f' (hs + k) v) hs (k + 1) g := by
  refine ⟨fun z hz => ?_, fun z hz => ?_⟩
  · rw [pk_un (by omega)]; exact h.1 z hz
  · by_cases hk : z = k
    · subst hk; rw [pk_us]; exact hv
    · rw [pk_un (by omega)]; exact h.2 z (by omega)
theorem zq_app_cpy {f g : Nat → Int32} {dp n : Nat} : zq_app g (va_cpy f g 0 dp n) dp n f := by
  refine ⟨fun z hz => pk_cpy_out (Or.inl hz), fun z hz => ?_⟩
  rw [pk_cpy_in (by omega) (by omega)]
  congr 1
  omega
/-- what is written of v at d bytes from its lowest -/
def zq_pbv (v : Int64) (d : Nat) : Int32 := (v >>> ((nI (8 * d)).toInt64 &&& 63)).toInt32
/-- the writing of n blocks: whether it went through; up, bytes in hand, charge, blocks written -/
def zq_wb (up : Int32) (hs : Nat) (ch wr n : Int32) : Int32 × Int32 × Nat × Int32 × Int32 :=
  if ch = -1 then (nI 1, up, hs, ch, wr + n) else if ch < n then (nI 0, nI 0, 0, -1, wr + ch) else (nI 1, up, hs, ch - n, wr + n)
theorem zq_wb_a {up : Int32} {hs : Nat} {ch wr n : Int32} (h : ch = -1) : zq_wb up hs ch wr n = (nI 1, up, hs, ch, wr + n) := if_pos h
theorem zq_wb_b {up : Int32} {hs : Nat} {ch wr n : Int32} (h : ¬ ch = -1) (h2 : ch < n) : zq_wb up hs ch wr n = (nI 0, nI 0, 0, -1, wr + ch) := by
  unfold zq_wb; rw [if_neg h, if_pos h2]
theorem zq_wb_c {up : Int32} {hs : Nat} {ch wr n : Int32} (h : ¬ ch = -1) (h2 : ¬ ch < n) : zq_wb up hs ch wr n = (nI 1, up, hs, ch - n, wr + n) := by
  unfold zq_wb; rw [if_neg h, if_neg h2]
theorem zq_wb_r {up ch wr n r up1 ch1 wr1 : Int32} {hs hs1 : Nat} (h : (r, up1, hs1, ch1, wr1) = zq_wb up hs ch wr n) : (r = nI 0 ∧ up1 = nI 0 ∧ hs1 = 0 ∧ ch1 = -1) ∨ (r = nI 1 ∧ up1 = up ∧ hs1 = hs) := by
  by_cases h1 : ch = -1
  · rw [zq_wb_a h1] at h
    simp only [Prod.mk.injEq] at h
    exact Or.inr ⟨h.1, h.2.1, h.2.2.1⟩
  · by_cases h2 : ch < n
    · rw [zq_wb_b h1 h2] at h
      simp only [Prod.mk.injEq] at h
      exact Or.inl ⟨h.1, h.2.1, h.2.2.1, h.2.2.2.1⟩
    · rw [zq_wb_c h1 h2] at h
      simp only [Prod.mk.injEq] at h
      exact Or.inr ⟨h.1, h.2.1, h.2.2.1⟩
/-- a charge is none, or a number -/
def zq_chok (ch : Int32) : Prop := ch = -1 ∨ ∃ k : Nat, k ≤ 999 ∧ ch = nI k
theorem zq_chok_wb {up ch wr r up1 ch1 wr1 : Int32} {hs hs1 n : Nat} (hc : zq_chok ch) (hn : n ≤ 1000) (h : (r, up1, hs1, ch1, wr1) = zq_wb up hs ch wr (nI n)) : zq_chok ch1 := by
  by_cases h1 : ch = -1
  · rw [zq_wb_a h1] at h
    simp only [Prod.mk.injEq] at h
    exact Or.inl (h.2.2.2.1.trans h1)
  · by_cases h2 : ch < nI n
    · rw [zq_wb_b h1 h2] at h
      simp only [Prod.mk.injEq] at h
      exact Or.inl h.2.2.2.1
    · rw [zq_wb_c h1 h2] at h
      simp only [Prod.mk.injEq] at h
      rcases hc with hc | ⟨k, hk, e⟩
      · exact absurd hc h1
      · refine Or.inr ⟨k - n, by omega, ?_⟩
        rw [h.2.2.2.1, e]
        refine pk_sub ?_
        rw [e] at h2
        have h3 : ¬ k < n := fun q => h2 ((nI_ltI (by omega) (by omega)).mpr q)
        omega
theorem zq_wb_split {up ch wr n r up1 ch1 wr1 : Int32} {hs hs1 : Nat} (h : (r, up1, hs1, ch1, wr1) = zq_wb up hs ch wr n) : (r = nI 0 ∧ (nI 0, up1, hs1, ch1, wr1) = zq_wb up hs ch wr n) ∨ (r = nI 1 ∧ (nI 1, up1, hs1, ch1, wr1) = zq_wb up hs ch wr n) := by
  rcases zq_wb_r h with ⟨q, -⟩ | ⟨q, -⟩
  · exact Or.inl ⟨q, by rw [← q]; exact h⟩
  · exact Or.inr ⟨q, by rw [← q]; exact h⟩
theorem zq_01 : ¬ nI 0 = nI 1 := by decide +kernel
theorem zq_10 : ¬ nI 1 = 0 := by decide +kernel
/-- whether n bytes may come behind those in hand -/
def zq_okP (up : Int32) (hs mx : Nat) (n : Int32) : Prop := ¬ up = 0 ∧ 1 ≤ n.toInt ∧ n.toInt ≤ mx ∧ (hs : Int) + n.toInt ≤ 8000
def zq_szS (up : Int32) (rc ss : Nat) (T : Nat → Nat) (k : Int32) : Int32 :=
  if up = 0 ∨ k.toInt < -1 ∨ (rc : Int) ≤ k.toInt then -1 else if k = -1 then nI ss else nI (T (k.toNatClampNeg + 1) - T k.toNatClampNeg - 4)
theorem zq_szS_a {up : Int32} {rc ss : Nat} {T : Nat → Nat} {k : Int32} (h : up = 0 ∨ k.toInt < -1 ∨ (rc : Int) ≤ k.toInt) : (-1) = zq_szS up rc ss T k := (if_pos h).symm
theorem zq_szS_b {up : Int32} {rc ss : Nat} {T : Nat → Nat} {k : Int32} (h0 : ¬ up = 0) (h : k = -1) : nI ss = zq_szS up rc ss T k := by
  subst h
  unfold zq_szS
  rw [if_neg, if_pos rfl]
  rw [xq_m1T]
  intro q
  rcases q with q | q | q
  · exact h0 q
  · omega
  · omega
theorem zq_szS_c {up : Int32} {rc ss kk : Nat} {T : Nat → Nat} (h0 : ¬ up = 0) (h : kk < rc) (hr : rc ≤ 4000) : nI (T (kk + 1) - T kk - 4) = zq_szS up rc ss T (nI kk) := by
  unfold zq_szS
  rw [nI_toInt (by omega), if_neg, if_neg (xq_nm1 (by omega)), nI_clamp (by omega)]
  intro q
  rcases q with q | q | q
  · exact h0 q
  · omega
  · omega
theorem zq_szS_ix {k : Int32} {rc : Nat} (h1 : ¬ k.toInt < -1) (h2 : ¬ k = -1) (h3 : k.toInt < (rc : Int)) : ∃ kk : Nat, kk < rc ∧ k = nI kk := by
  have h4 : ¬ k.toInt = -1 := fun q => h2 (xq_toInt_inj (by rw [q, xq_m1T]))
  obtain ⟨j, -, e, e2, -⟩ := xq_nat (x := k) (by omega)
  exact ⟨j, by omega, e⟩
/-- where a byte is asked for that is there -/
theorem zq_szS_in {up k i : Int32} {rc ss : Nat} {T : Nat → Nat} (hr : rc ≤ 4000) (hs : ss ≤ 8000) (hT : ∀ j, j ≤ rc → T j ≤ 16000) (h0 : ¬ i.toInt < 0) (h : i.toInt < (zq_szS up rc ss T k).toInt) :
    (k = -1 ∧ ∃ ii : Nat, ii < ss ∧ i = nI ii) ∨ (∃ kk ii : Nat, kk < rc ∧ k = nI kk ∧ T kk + 4 + ii < T (kk + 1) ∧ i = nI ii) := by
  obtain ⟨ii, -, e, e2, -⟩ := xq_nat (x := i) (by omega)
  unfold zq_szS at h
  by_cases hc : up = 0 ∨ k.toInt < -1 ∨ (rc : Int) ≤ k.toInt
  · rw [if_pos hc, xq_m1T] at h
    omega
  · rw [if_neg hc] at h
    have hu : ¬ up = 0 := fun q => hc (Or.inl q)
    have hk1 : ¬ k.toInt < -1 := fun q => hc (Or.inr (Or.inl q))
    have hk2 : ¬ (rc : Int) ≤ k.toInt := fun q => hc (Or.inr (Or.inr q))
    by_cases hk : k = -1
    · rw [if_pos hk, nI_toInt (by omega)] at h
      exact Or.inl ⟨hk, ii, by omega, e⟩
    · rw [if_neg hk] at h
      obtain ⟨kk, hkk, ek⟩ := zq_szS_ix (rc := rc) hk1 hk (by omega)
      have hcl : k.toNatClampNeg = kk := by rw [ek]; exact nI_clamp (by omega)
      have hb := hT (kk + 1) (by omega)
      rw [hcl, nI_toInt (by omega)] at h
      exact Or.inr ⟨kk, ii, hkk, ek, by omega, e⟩
def zq_btS (up : Int32) (rc ss : Nat) (T : Nat → Nat) (gp gb : Nat → Int32) (k i : Int32) : Int32 :=
  if i.toInt < 0 ∨ (zq_szS up rc ss T k).toInt ≤ i.toInt then -1 else if k = -1 then gp i.toNatClampNeg else gb (T k.toNatClampNeg - 4 * k.toNatClampNeg + i.toNatClampNeg)
theorem zq_btS_a {up : Int32} {rc ss : Nat} {T : Nat → Nat} {gp gb : Nat → Int32} {k i : Int32} (h : i.toInt < 0 ∨ (zq_szS up rc ss T k).toInt ≤ i.toInt) : (-1) = zq_btS up rc ss T gp gb k i := (if_pos h).symm
theorem zq_btS_b {up : Int32} {rc ss ii : Nat} {T : Nat → Nat} {gp gb : Nat → Int32} {v : Int32} (hs : ii < 8000) (h : ¬ (nI ii).toInt < 0) (h2 : (nI ii).toInt < (zq_szS up rc ss T (-1)).toInt) (e : v = gp ii) : v = zq_btS up rc ss T gp gb (-1) (nI ii) := by
  unfold zq_btS
  rw [if_neg, if_pos rfl, nI_clamp (by omega)]
  · exact e
  · intro q
    rcases q with q | q
    · exact h q
    · omega
theorem zq_btS_c {up : Int32} {rc ss ii kk : Nat} {T : Nat → Nat} {gp gb : Nat → Int32} {v : Int32} (hs : ii < 2 ^ 31) (hk : kk < 2 ^ 31) (h : ¬ (nI ii).toInt < 0) (h2 : (nI ii).toInt < (zq_szS up rc ss T (nI kk)).toInt) (e : v = gb (T kk - 4 * kk + ii)) : v = zq_btS up rc ss T gp gb (nI kk) (nI ii) := by
  unfold zq_btS
  rw [if_neg, if_neg (xq_nm1 hk), nI_clamp hs, nI_clamp hk]
  · exact e
  · intro q
    rcases q with q | q
    · exact h q
    · omega
def zq_stS (up : Int32) (rc bg en hs : Nat) (wr what : Int32) : Int32 :=
  if what = 0 then (if up = 0 then nI 0 else nI 1) else if what = nI 5 then wr else if up = 0 then -1 else if what = nI 1 then nI rc else if what = nI 2 then nI bg else if what = nI 3 then nI en else if what = nI 4 then nI hs else -1
/-- a byte as the one side holds it, and as the other does -/
def zq_RB (a b : Int32) : Prop := ∃ w : Int32, a = w.toInt8.toInt32 ∧ b = w &&& nI 255
theorem bp_b (x : Int32) : x.toInt8.toInt32 &&& 255 = x &&& 255 := by
  apply Int32.toBitVec_inj.mp
  rw [Int32.toBitVec_and, Int32.toBitVec_and, Int8.toBitVec_toInt32, Int32.toBitVec_toInt8]
  apply BitVec.eq_of_getLsbD_eq
  intro i hi
  rw [BitVec.getLsbD_and, BitVec.getLsbD_and]
  have hm : ∀ i < 32, 8 ≤ i → (255 : Int32).toBitVec.getLsbD i = false := by decide
  rcases Nat.lt_or_ge i 8 with z | z
  · rw [BitVec.getLsbD_signExtend, BitVec.getLsbD_signExtend, if_pos z, if_pos hi]
    simp only [z, hi, decide_true, Bool.true_and]
  · rw [hm i hi z]; simp
theorem zq_RB_and {a b : Int32} (h : zq_RB a b) : a &&& nI 255 = b := by
  obtain ⟨w, e1, e2⟩ := h
  rw [e1, e2]
  exact bp_b w
theorem zq_RB_fit {a b : Int32} (h : zq_RB a b) : fits .byte (.int a) = true := by
  obtain ⟨w, e1, -⟩ := h
  rw [e1]
  exact pk_fb w
/-- N, of what was asked for -/
def zq_nN (n : Int32) : Nat := if 2 ≤ n.toInt ∧ n.toInt ≤ 32 then n.toNatClampNeg else 32
theorem zq_nN_in (n : Int32) : 2 ≤ zq_nN n ∧ zq_nN n ≤ 32 := by
  unfold zq_nN
  by_cases h : 2 ≤ n.toInt ∧ n.toInt ≤ 32
  · rw [if_pos h]
    obtain ⟨j, -, -, e2, e3⟩ := xq_nat (x := n) (by omega)
    omega
  · rw [if_neg h]; omega
theorem zq_nN_a {n : Int32} (h1 : ¬ n.toInt < 2) (h2 : ¬ (32 : Int) < n.toInt) : n = nI (zq_nN n) := by
  unfold zq_nN
  rw [if_pos ⟨by omega, by omega⟩]
  obtain ⟨j, -, e, -, e3⟩ := xq_nat (x := n) (by omega)
  rw [e3]; exact e
theorem zq_nN_b {n : Int32} (h : n.toInt < 2 ∨ (32 : Int) < n.toInt) : 32 = zq_nN n := by
  unfold zq_nN
  rw [if_neg (by omega)]
theorem zq_nb0 : narrow .boolean (.int (nI 0)) = .int (nI 0) := rfl
theorem zq_nb1 : narrow .boolean (.int (nI 1)) = .int (nI 1) := rfl
theorem zq_fb0 : fits .boolean (.int (nI 0)) = true := by decide +kernel
theorem zq_fb1 : fits .boolean (.int (nI 1)) = true := by decide +kernel
end
section
/-! the two sides, held against each other: what stands between their cells at every turn of the law, and that each call keeps it -/
def zq_I (N : Nat) (T : Nat → Nat) (i rc bg ss hs tu : Nat) (ch : Int32) (f1 f2 f3 f4 g1 g2 g3 g4 : Nat → Int32) : Prop :=
  (2 ≤ N ∧ N ≤ 32) ∧ (T 0 = 0 ∧ (∀ z, z < rc → T z + 4 ≤ T (z + 1)) ∧ T rc = tu ∧ tu ≤ 500 * N) ∧ ((∃ q : Nat, bg = 500 * q) ∧ bg ≤ 16000 * i) ∧ (ss ≤ 8000 ∧ hs ≤ 8000) ∧ zq_chok ch ∧
  ((∀ z, z ≤ rc → f2 z = nI (T z)) ∧ ∀ z, z ≤ rc → g4 z = nI (T z - 4 * z)) ∧
  (∀ k, k < rc → ∀ z, T k + 4 + z < T (k + 1) → f1 (T k + 4 + z) &&& nI 255 = g3 (T k - 4 * k + z)) ∧ (∀ z, z < ss → f3 z &&& nI 255 = g2 z) ∧ ∀ z, z < hs → zq_RB (f4 z) (g1 z)
theorem zq_T4 {T : Nat → Nat} {rc : Nat} (h0 : T 0 = 0) (hM : ∀ z, z < rc → T z + 4 ≤ T (z + 1)) : ∀ z, z ≤ rc → 4 * z ≤ T z := by
  intro z
  induction z with
  | zero => intro _; omega
  | succ z ih =>
    intro hz
    have h1 := ih (by omega)
    have h2 := hM z (by omega)
    omega
theorem zq_Tm {T : Nat → Nat} {rc : Nat} (hM : ∀ z, z < rc → T z + 4 ≤ T (z + 1)) : ∀ d z, z + d = rc → T z ≤ T rc := by
  intro d
  induction d with
  | zero => intro z hz; rw [← hz]; exact Nat.le_refl _
  | succ d ih =>
    intro z hz
    have h1 := ih (z + 1) (by omega)
    have h2 := hM z (by omega)
    omega
theorem zq_Tle {T : Nat → Nat} {rc tu : Nat} (hM : ∀ z, z < rc → T z + 4 ≤ T (z + 1)) (ht : T rc = tu) : ∀ z, z ≤ rc → T z ≤ tu := fun z hz => by
  have := zq_Tm hM (rc - z) z (by omega)
  omega
theorem zq_Tg {T : Nat → Nat} {rc : Nat} (hM : ∀ z, z < rc → T z + 4 ≤ T (z + 1)) : ∀ d z, z + d = rc → T z + 4 * d ≤ T rc := by
  intro d
  induction d with
  | zero => intro z hz; rw [← hz]; exact Nat.le_refl _
  | succ d ih =>
    intro z hz
    have h1 := ih (z + 1) (by omega)
    have h2 := hM z (by omega)
    omega
theorem zq_Tg4 {T : Nat → Nat} {rc tu : Nat} (hM : ∀ z, z < rc → T z + 4 ≤ T (z + 1)) (ht : T rc = tu) (k : Nat) (hk : k < rc) : T (k + 1) + 4 * (rc - (k + 1)) ≤ tu := by
  have := zq_Tg hM (rc - (k + 1)) (k + 1) (by omega)
  omega
/-- nothing has changed but the turn, and the charge -/
theorem zq_I_ch {N : Nat} {T : Nat → Nat} {i rc bg ss hs tu : Nat} {ch ch' : Int32} {f1 f2 f3 f4 g1 g2 g3 g4 : Nat → Int32} (h : zq_I N T i rc bg ss hs tu ch f1 f2 f3 f4 g1 g2 g3 g4) (hc : zq_chok ch') : zq_I N T (i + 4) rc bg ss hs tu ch' f1 f2 f3 f4 g1 g2 g3 g4 := by
  obtain ⟨h1, h2, ⟨h3, h4⟩, h5, -, h6, h7, h8, h9⟩ := h
  exact ⟨h1, h2, ⟨h3, by omega⟩, h5, hc, h6, h7, h8, h9⟩
theorem zq_I_i {N : Nat} {T : Nat → Nat} {i rc bg ss hs tu : Nat} {ch : Int32} {f1 f2 f3 f4 g1 g2 g3 g4 : Nat → Int32} (h : zq_I N T i rc bg ss hs tu ch f1 f2 f3 f4 g1 g2 g3 g4) : zq_I N T (i + 4) rc bg ss hs tu ch f1 f2 f3 f4 g1 g2 g3 g4 := zq_I_ch h h.2.2.2.2.1
/-- no byte is in hand any more -/
theorem zq_I_0 {N : Nat} {T : Nat → Nat} {i rc bg ss hs tu : Nat} {ch ch' : Int32} {f1 f2 f3 f4 g1 g2 g3 g4 : Nat → Int32} (h : zq_I N T i rc bg ss hs tu ch f1 f2 f3 f4 g1 g2 g3 g4) (hc : zq_chok ch') : zq_I N T (i + 4) rc bg ss 0 tu ch' f1 f2 f3 f4 g1 g2 g3 g4 := by
  obtain ⟨h1, h2, ⟨h3, h4⟩, ⟨h5, h5'⟩, -, h6, h7, h8, -⟩ := h
  exact ⟨h1, h2, ⟨h3, by omega⟩, ⟨h5, by omega⟩, hc, h6, h7, h8, fun z hz => absurd hz (Nat.not_lt_zero z)⟩
/-- a writing of blocks on both sides: they answer alike -/
theorem zq_I_wb {N : Nat} {T : Nat → Nat} {i rc bg ss hs tu n : Nat} {up ch wr r up1 ch1 wr1 : Int32} {hs1 : Nat} {f1 f2 f3 f4 g1 g2 g3 g4 : Nat → Int32} (h : zq_I N T i rc bg ss hs tu ch f1 f2 f3 f4 g1 g2 g3 g4) (hn : n ≤ 1000) (hw : (r, up1, hs1, ch1, wr1) = zq_wb up hs ch wr (nI n)) : zq_I N T (i + 4) rc bg ss hs1 tu ch1 f1 f2 f3 f4 g1 g2 g3 g4 := by
  have hc := zq_chok_wb h.2.2.2.2.1 hn hw
  rcases zq_wb_r hw with ⟨-, -, e, -⟩ | ⟨-, -, e⟩
  · rw [e]; exact zq_I_0 h hc
  · rw [e]; exact zq_I_ch h hc
theorem zq_wb_eq {up ch wr n r r' up1 ch1 wr1 up2 ch2 wr2 : Int32} {hs hs1 hs2 : Nat} (h : (r, up1, hs1, ch1, wr1) = zq_wb up hs ch wr n) (h2 : (r', up2, hs2, ch2, wr2) = zq_wb up hs ch wr n) : r = r' ∧ up1 = up2 ∧ hs1 = hs2 ∧ ch1 = ch2 ∧ wr1 = wr2 := by
  have q := h.trans h2.symm
  simp only [Prod.mk.injEq] at q
  exact q
/-- bytes that come behind those in hand -/
theorem zq_p_put {N : Nat} {T : Nat → Nat} {i rc bg ss hs tu mx k : Nat} {up ch n r1 r2 : Int32} {f1 f2 f3 f4 g1 g2 g3 g4 gD gM : Nat → Int32} {hs1 hs2 : Nat} {fa ga : Nat → Int32} (hI : zq_I N T i rc bg ss hs tu ch f1 f2 f3 f4 g1 g2 g3 g4) (hk : n.toNatClampNeg = k)
    (h1 : (zq_okP up hs mx n ∧ r1 = nI 1 ∧ hs1 = hs + k ∧ zq_app f4 fa hs k gD) ∨ (¬ zq_okP up hs mx n ∧ r1 = nI 0 ∧ (hs1, fa) = (hs, f4)))
    (h2 : (zq_okP up hs mx n ∧ r2 = nI 1 ∧ hs2 = hs + k ∧ zq_app g1 ga hs k gM) ∨ (¬ zq_okP up hs mx n ∧ r2 = nI 0 ∧ (hs2, ga) = (hs, g1))) (hR : ∀ z, zq_RB (gD z) (gM z)) :
    r1 = r2 ∧ hs1 = hs2 ∧ zq_I N T (i + 4) rc bg ss hs1 tu ch f1 f2 f3 fa ga g2 g3 g4 := by
  rcases h1 with ⟨ok, e1, e2, e3⟩ | ⟨ok, e1, e2⟩
  · rcases h2 with ⟨-, d1, d2, d3⟩ | ⟨no, -⟩
    · refine ⟨e1.trans d1.symm, e2.trans d2.symm, ?_⟩
      obtain ⟨q1, q2, ⟨q3, q4⟩, ⟨q5, q5'⟩, q6, q7, q8, q9, q10⟩ := hI
      obtain ⟨-, o1, -, o3⟩ := ok
      obtain ⟨j, -, -, j2, j3⟩ := xq_nat (x := n) (by omega)
      refine ⟨q1, q2, ⟨q3, by omega⟩, ⟨q5, by omega⟩, q6, q7, q8, q9, fun z hz => ?_⟩
      by_cases hz2 : z < hs
      · rw [e3.1 z hz2, d3.1 z hz2]; exact q10 z hz2
      · obtain ⟨y, rfl⟩ : ∃ y, z = hs + y := ⟨z - hs, by omega⟩
        rw [e3.2 y (by omega), d3.2 y (by omega)]
        exact hR y
    · exact absurd ok no
  · rcases h2 with ⟨yes, -⟩ | ⟨-, d1, d2⟩
    · exact absurd yes ok
    · simp only [Prod.mk.injEq] at e2 d2
      obtain ⟨rfl, rfl⟩ := e2
      obtain ⟨rfl, rfl⟩ := d2
      exact ⟨e1.trans d1.symm, rfl, zq_I_i hI⟩
theorem zq_p_cut {N : Nat} {T : Nat → Nat} {i rc bg ss hs tu : Nat} {up ch wr r1 r2 up1 ch1 wr1 up2 ch2 wr2 : Int32} {hs1 hs2 : Nat} {f1 f2 f3 f4 g1 g2 g3 g4 : Nat → Int32} (hI : zq_I N T i rc bg ss hs tu ch f1 f2 f3 f4 g1 g2 g3 g4)
    (h1 : (up = 0 ∧ r1 = nI 0 ∧ (up1, hs1, ch1, wr1) = (up, hs, ch, wr)) ∨ (¬ up = 0 ∧ r1 = nI 1 ∧ (up1, hs1, ch1, wr1) = (nI 0, 0, -1, wr)))
    (h2 : (up = 0 ∧ r2 = nI 0 ∧ (up2, hs2, ch2, wr2) = (up, hs, ch, wr)) ∨ (¬ up = 0 ∧ r2 = nI 1 ∧ (up2, hs2, ch2, wr2) = (nI 0, 0, -1, wr))) :
    r1 = r2 ∧ up1 = up2 ∧ hs1 = hs2 ∧ ch1 = ch2 ∧ wr1 = wr2 ∧ zq_I N T (i + 4) rc bg ss hs1 tu ch1 f1 f2 f3 f4 g1 g2 g3 g4 := by
  rcases h1 with ⟨u1, e1, e2⟩ | ⟨u1, e1, e2⟩
  · rcases h2 with ⟨-, d1, d2⟩ | ⟨u2, -⟩
    · have q := e2.trans d2.symm
      simp only [Prod.mk.injEq] at q e2
      exact ⟨e1.trans d1.symm, q.1, q.2.1, q.2.2.1, q.2.2.2, by rw [e2.2.1, e2.2.2.1]; exact zq_I_i hI⟩
    · exact absurd u1 u2
  · rcases h2 with ⟨u2, -⟩ | ⟨-, d1, d2⟩
    · exact absurd u2 u1
    · have q := e2.trans d2.symm
      simp only [Prod.mk.injEq] at q e2
      exact ⟨e1.trans d1.symm, q.1, q.2.1, q.2.2.1, q.2.2.2, by rw [e2.2.1, e2.2.2.1]; exact zq_I_0 hI (Or.inl rfl)⟩
theorem zq_p_start {N : Nat} {T : Nat → Nat} {i rc bg ss hs tu : Nat} {up ch wr r1 r2 up1 ch1 wr1 up2 ch2 wr2 : Int32} {hs1 hs2 : Nat} {f1 f2 f3 f4 g1 g2 g3 g4 : Nat → Int32} (hI : zq_I N T i rc bg ss hs tu ch f1 f2 f3 f4 g1 g2 g3 g4)
    (h1 : (¬ up = 0 ∧ r1 = nI 0 ∧ (up1, hs1, ch1, wr1) = (up, hs, ch, wr)) ∨ (up = 0 ∧ r1 = nI 2 ∧ (nI 0, up1, hs1, ch1, wr1) = zq_wb up hs ch wr (nI 1)) ∨ (up = 0 ∧ r1 = nI 1 ∧ ∃ v : Int32, (nI 1, v, hs1, ch1, wr1) = zq_wb up hs ch wr (nI 1) ∧ up1 = nI 1))
    (h2 : (¬ up = 0 ∧ r2 = nI 0 ∧ (up2, hs2, ch2, wr2) = (up, hs, ch, wr)) ∨ (up = 0 ∧ r2 = nI 2 ∧ (nI 0, up2, hs2, ch2, wr2) = zq_wb up hs ch wr (nI 1)) ∨ (up = 0 ∧ r2 = nI 1 ∧ ∃ v : Int32, (nI 1, v, hs2, ch2, wr2) = zq_wb up hs ch wr (nI 1) ∧ up2 = nI 1)) :
    r1 = r2 ∧ up1 = up2 ∧ hs1 = hs2 ∧ ch1 = ch2 ∧ wr1 = wr2 ∧ zq_I N T (i + 4) rc bg ss hs1 tu ch1 f1 f2 f3 f4 g1 g2 g3 g4 := by
  rcases h1 with ⟨u1, e1, e2⟩ | ⟨u1, e1, e2⟩ | ⟨u1, e1, v1, e2, e3⟩
  · rcases h2 with ⟨-, d1, d2⟩ | ⟨u2, -⟩ | ⟨u2, -⟩
    · have q := e2.trans d2.symm
      simp only [Prod.mk.injEq] at q e2
      exact ⟨e1.trans d1.symm, q.1, q.2.1, q.2.2.1, q.2.2.2, by rw [e2.2.1, e2.2.2.1]; exact zq_I_i hI⟩
    · exact absurd u2 u1
    · exact absurd u2 u1
  · rcases h2 with ⟨u2, -⟩ | ⟨-, d1, d2⟩ | ⟨-, -, v2, d2, -⟩
    · exact absurd u1 u2
    · obtain ⟨-, q1, q2, q3, q4⟩ := zq_wb_eq e2 d2
      exact ⟨e1.trans d1.symm, q1, q2, q3, q4, zq_I_wb hI (by omega) e2⟩
    · exact absurd (zq_wb_eq e2 d2).1 zq_01
  · rcases h2 with ⟨u2, -⟩ | ⟨-, -, d2⟩ | ⟨-, d1, v2, d2, d3⟩
    · exact absurd u1 u2
    · exact absurd (zq_wb_eq d2 e2).1 zq_01
    · obtain ⟨-, q1, q2, q3, q4⟩ := zq_wb_eq e2 d2
      exact ⟨e1.trans d1.symm, e3.trans d3.symm, q2, q3, q4, zq_I_wb hI (by omega) e2⟩
theorem zq_p_charge {N : Nat} {T : Nat → Nat} {i rc bg ss hs tu : Nat} {ch n r1 r2 ch1 ch2 : Int32} {f1 f2 f3 f4 g1 g2 g3 g4 : Nat → Int32} (hI : zq_I N T i rc bg ss hs tu ch f1 f2 f3 f4 g1 g2 g3 g4)
    (h1 : (0 ≤ n.toInt ∧ n.toInt ≤ 999 ∧ r1 = nI 1 ∧ ch1 = n) ∨ (¬ (0 ≤ n.toInt ∧ n.toInt ≤ 999) ∧ r1 = nI 0 ∧ ch1 = ch)) (h2 : (0 ≤ n.toInt ∧ n.toInt ≤ 999 ∧ r2 = nI 1 ∧ ch2 = n) ∨ (¬ (0 ≤ n.toInt ∧ n.toInt ≤ 999) ∧ r2 = nI 0 ∧ ch2 = ch)) :
    r1 = r2 ∧ ch1 = ch2 ∧ zq_I N T (i + 4) rc bg ss hs tu ch1 f1 f2 f3 f4 g1 g2 g3 g4 := by
  rcases h1 with ⟨a1, a2, e1, e2⟩ | ⟨a1, e1, e2⟩
  · rcases h2 with ⟨-, -, d1, d2⟩ | ⟨no, -⟩
    · refine ⟨e1.trans d1.symm, e2.trans d2.symm, zq_I_ch hI ?_⟩
      obtain ⟨j, -, j1, j2, -⟩ := xq_nat (x := n) a1
      exact Or.inr ⟨j, by omega, e2.trans j1⟩
    · exact absurd ⟨a1, a2⟩ no
  · rcases h2 with ⟨b1, b2, -⟩ | ⟨-, d1, d2⟩
    · exact absurd ⟨b1, b2⟩ a1
    · exact ⟨e1.trans d1.symm, e2.trans d2.symm, by rw [e2]; exact zq_I_i hI⟩
/-- where the starts are behind a new record -/
def zq_T (T : Nat → Nat) (rc v : Nat) : Nat → Nat := fun z => if z ≤ rc then T z else v
theorem zq_I_rec {N : Nat} {T : Nat → Nat} {i rc bg ss hs tu : Nat} {ch ch1 : Int32} {f1 f2 f3 f4 g1 g2 g3 g4 fx gx : Nat → Int32} (hI : zq_I N T i rc bg ss hs tu ch f1 f2 f3 f4 g1 g2 g3 g4) (hc : zq_chok ch1) (hf : tu + 4 + hs ≤ 500 * N)
    (ha : zq_app f1 fx (tu + 4) hs f4) (hb : zq_app g3 gx (tu - 4 * rc) hs g1) :
    zq_I N (zq_T T rc (tu + 4 + hs)) (i + 4) (rc + 1) bg ss 0 (tu + 4 + hs) ch1 fx (upd f2 (rc + 1) (nI (tu + 4 + hs))) f3 f4 g1 g2 gx (upd g4 (rc + 1) (nI (tu - 4 * rc + hs))) := by
  obtain ⟨q1, ⟨t0, tM, tR, tB⟩, ⟨q3, q4⟩, ⟨q5, q5'⟩, -, ⟨s2, s4⟩, q8, q9, q10⟩ := hI
  have h4 := zq_T4 t0 tM
  have hle := zq_Tle tM tR
  have h4r := h4 rc (Nat.le_refl _)
  rw [tR] at h4r
  have lo : ∀ z, z ≤ rc → zq_T T rc (tu + 4 + hs) z = T z := fun z hz => if_pos hz
  have hi : zq_T T rc (tu + 4 + hs) (rc + 1) = tu + 4 + hs := if_neg (by omega)
  refine ⟨q1, ⟨?_, ?_, hi, hf⟩, ⟨q3, by omega⟩, ⟨q5, by omega⟩, hc, ⟨?_, ?_⟩, ?_, q9, fun z hz => absurd hz (Nat.not_lt_zero z)⟩
  · rw [lo 0 (by omega)]; exact t0
  · intro z hz
    by_cases hz2 : z = rc
    · subst hz2
      rw [lo _ (Nat.le_refl _), hi, tR]; omega
    · rw [lo z (by omega), lo (z + 1) (by omega)]
      exact tM z (by omega)
  · intro z hz
    by_cases hz2 : z = rc + 1
    · subst hz2; rw [pk_us, hi]
    · rw [pk_un hz2, lo z (by omega)]; exact s2 z (by omega)
  · intro z hz
    by_cases hz2 : z = rc + 1
    · subst hz2; rw [pk_us, hi]; exact congrArg nI (by omega)
    · rw [pk_un hz2, lo z (by omega)]; exact s4 z (by omega)
  · intro k hk z hz
    by_cases hk2 : k = rc
    · subst hk2
      rw [lo _ (Nat.le_refl _)] at hz ⊢
      rw [hi] at hz
      rw [tR] at hz ⊢
      rw [ha.2 z (by omega), hb.2 z (by omega)]
      exact zq_RB_and (q10 z (by omega))
    · rw [lo k (by omega)] at hz ⊢
      rw [lo (k + 1) (by omega)] at hz
      have b1 := hle (k + 1) (by omega)
      have b2 := h4 k (by omega)
      have b3 := tM k (by omega)
      have b4 := zq_Tg4 tM tR k (by omega)
      rw [ha.1 _ (by omega), hb.1 _ (by omega)]
      exact q8 k (by omega) z hz
theorem zq_p_rec {N : Nat} {T : Nat → Nat} {i rc bg ss hs tu : Nat} {up ch wr r1 r2 up1 ch1 wr1 up2 ch2 wr2 : Int32} {rc1 rc2 hs1 hs2 en2 : Nat} {f1 f2 f3 f4 g1 g2 g3 g4 fx fy gx gy : Nat → Int32} (hI : zq_I N T i rc bg ss hs tu ch f1 f2 f3 f4 g1 g2 g3 g4)
    (h1 : ((up = 0 ∨ 500 * N < tu + 4 + hs) ∧ r1 = nI 0 ∧ (rc1, up1, hs1, ch1, wr1, fx, fy) = (rc, up, hs, ch, wr, f1, f2)) ∨
      (¬ up = 0 ∧ tu + 4 + hs ≤ 500 * N ∧ r1 = nI 2 ∧ ∃ (up1' : Int32) (hs1' : Nat) (ch1' wr1' : Int32), (nI 0, up1', hs1', ch1', wr1') = zq_wb up hs ch wr (nI ((tu + 4 + hs - 1) / 500 - (tu / 500) + 1)) ∧ (rc1, up1, hs1, ch1, wr1, fx, fy) = (rc, up1', hs1', ch1', wr1', f1, f2)) ∨
      (¬ up = 0 ∧ tu + 4 + hs ≤ 500 * N ∧ r1 = nI 1 ∧ ∃ (up1' ch1' wr1' : Int32) (fz : Nat → Int32), (nI 1, up1', hs, ch1', wr1') = zq_wb up hs ch wr (nI ((tu + 4 + hs - 1) / 500 - (tu / 500) + 1)) ∧ zq_app f1 fz (tu + 4) hs f4 ∧ (rc1, up1, hs1, ch1, wr1, fx, fy) = (rc + 1, up1', 0, ch1', wr1', fz, upd f2 (rc + 1) (nI (tu + 4 + hs)))))
    (h2 : ((up = 0 ∨ 500 * N < tu + 4 + hs) ∧ r2 = nI 0 ∧ (rc2, en2, up2, hs2, ch2, wr2, gx, gy) = (rc, bg + tu, up, hs, ch, wr, g3, g4)) ∨
      (¬ up = 0 ∧ tu + 4 + hs ≤ 500 * N ∧ r2 = nI 2 ∧ ∃ (up1' : Int32) (hs1' : Nat) (ch1' wr1' : Int32), (nI 0, up1', hs1', ch1', wr1') = zq_wb up hs ch wr (nI ((tu + 4 + hs - 1) / 500 - (tu / 500) + 1)) ∧ (rc2, en2, up2, hs2, ch2, wr2, gx, gy) = (rc, bg + tu, up1', hs1', ch1', wr1', g3, g4)) ∨
      (¬ up = 0 ∧ tu + 4 + hs ≤ 500 * N ∧ r2 = nI 1 ∧ ∃ (up1' ch1' wr1' : Int32) (fz : Nat → Int32), (nI 1, up1', hs, ch1', wr1') = zq_wb up hs ch wr (nI ((tu + 4 + hs - 1) / 500 - (tu / 500) + 1)) ∧ zq_app g3 fz (tu - 4 * rc) hs g1 ∧ (rc2, en2, up2, hs2, ch2, wr2, gx, gy) = (rc + 1, bg + (tu + 4 + hs), up1', 0, ch1', wr1', fz, upd g4 (rc + 1) (nI (tu - 4 * rc + hs))))) :
    r1 = r2 ∧ rc1 = rc2 ∧ up1 = up2 ∧ hs1 = hs2 ∧ ch1 = ch2 ∧ wr1 = wr2 ∧ ∃ (T' : Nat → Nat) (tu' : Nat), en2 = bg + tu' ∧ zq_I N T' (i + 4) rc1 bg ss hs1 tu' ch1 fx fy f3 f4 g1 g2 gx gy := by
  have hN := hI.1
  have hh := hI.2.2.2.1
  rcases h1 with ⟨u1, e1, e2⟩ | ⟨u1, v1, e1, ua, ha, ca, wa, e2, e3⟩ | ⟨u1, v1, e1, ua, ca, wa, fa, e2, e4, e3⟩
  · rcases h2 with ⟨-, d1, d2⟩ | ⟨u2, v2, -⟩ | ⟨u2, v2, -⟩
    · simp only [Prod.mk.injEq] at e2 d2
      obtain ⟨rfl, rfl, rfl, rfl, rfl, rfl, rfl⟩ := e2
      obtain ⟨rfl, rfl, rfl, rfl, rfl, rfl, rfl, rfl⟩ := d2
      exact ⟨e1.trans d1.symm, rfl, rfl, rfl, rfl, rfl, T, tu, rfl, zq_I_i hI⟩
    · rcases u1 with q | q
      · exact absurd q u2
      · omega
    · rcases u1 with q | q
      · exact absurd q u2
      · omega
  · rcases h2 with ⟨u2, -⟩ | ⟨-, -, d1, ub, hb, cb, wb', d2, d3⟩ | ⟨-, -, -, ub, cb, wb', fb, d2, -⟩
    · rcases u2 with q | q
      · exact absurd q u1
      · omega
    · obtain ⟨-, q1, q2, q3, q4⟩ := zq_wb_eq e2 d2
      subst q1; subst q2; subst q3; subst q4
      simp only [Prod.mk.injEq] at e3 d3
      obtain ⟨rfl, rfl, rfl, rfl, rfl, rfl, rfl⟩ := e3
      obtain ⟨rfl, rfl, rfl, rfl, rfl, rfl, rfl, rfl⟩ := d3
      exact ⟨e1.trans d1.symm, rfl, rfl, rfl, rfl, rfl, T, tu, rfl, zq_I_wb hI (by omega) e2⟩
    · exact absurd (zq_wb_eq e2 d2).1 zq_01
  · rcases h2 with ⟨u2, -⟩ | ⟨-, -, -, ub, hb, cb, wb', d2, -⟩ | ⟨-, -, d1, ub, cb, wb', fb, d2, d4, d3⟩
    · rcases u2 with q | q
      · exact absurd q u1
      · omega
    · exact absurd (zq_wb_eq d2 e2).1 zq_01
    · obtain ⟨-, q1, -, q3, q4⟩ := zq_wb_eq e2 d2
      subst q1; subst q3; subst q4
      have hc := zq_chok_wb hI.2.2.2.2.1 (by omega) e2
      simp only [Prod.mk.injEq] at e3 d3
      obtain ⟨rfl, rfl, rfl, rfl, rfl, rfl, rfl⟩ := e3
      obtain ⟨rfl, rfl, rfl, rfl, rfl, rfl, rfl, rfl⟩ := d3
      exact ⟨e1.trans d1.symm, rfl, rfl, rfl, rfl, rfl, _, _, rfl, zq_I_rec hI hc v1 e4 d4⟩
theorem zq_p_snap {N : Nat} {T : Nat → Nat} {i rc bg ss hs tu : Nat} {up ch wr r1 r2 up1 ch1 wr1 up2 ch2 wr2 : Int32} {rc1 rc2 hs1 hs2 bg1 bg2 ss1 ss2 en2 x3 x4 a3 a4 : Nat} {f1 f2 f3 f4 g1 g2 g3 g4 gx : Nat → Int32} (hI : zq_I N T i rc bg ss hs tu ch f1 f2 f3 f4 g1 g2 g3 g4)
    (h1 : (up = 0 ∧ r1 = nI 0 ∧ (rc1, bg1, ss1, x3, x4, up1, hs1, ch1, wr1) = (rc, bg, ss, a3, a4, up, hs, ch, wr)) ∨
      (¬ up = 0 ∧ r1 = nI 2 ∧ ∃ (up1' : Int32) (hs1' : Nat) (ch1' wr1' : Int32), (nI 0, up1', hs1', ch1', wr1') = zq_wb up hs ch wr (nI ((hs + 500 - 1) / 500 + 1)) ∧ (rc1, bg1, ss1, x3, x4, up1, hs1, ch1, wr1) = (rc, bg, ss, a3, a4, up1', hs1', ch1', wr1')) ∨
      (¬ up = 0 ∧ r1 = nI 1 ∧ ∃ (up1' ch1' wr1' : Int32), (nI 1, up1', hs, ch1', wr1') = zq_wb up hs ch wr (nI ((hs + 500 - 1) / 500 + 1)) ∧ (rc1, bg1, ss1, x3, x4, up1, hs1, ch1, wr1) = (0, bg + (tu + 500 - 1) / 500 * 500, hs, a4, a3, up1', 0, ch1', wr1')))
    (h2 : (up = 0 ∧ r2 = nI 0 ∧ (rc2, bg2, en2, ss2, up2, hs2, ch2, wr2, gx) = (rc, bg, bg + tu, ss, up, hs, ch, wr, g2)) ∨
      (¬ up = 0 ∧ r2 = nI 2 ∧ ∃ (up1' : Int32) (hs1' : Nat) (ch1' wr1' : Int32), (nI 0, up1', hs1', ch1', wr1') = zq_wb up hs ch wr (nI ((hs + 500 - 1) / 500 + 1)) ∧ (rc2, bg2, en2, ss2, up2, hs2, ch2, wr2, gx) = (rc, bg, bg + tu, ss, up1', hs1', ch1', wr1', g2)) ∨
      (¬ up = 0 ∧ r2 = nI 1 ∧ ∃ (up1' ch1' wr1' : Int32) (fz : Nat → Int32), (nI 1, up1', hs, ch1', wr1') = zq_wb up hs ch wr (nI ((hs + 500 - 1) / 500 + 1)) ∧ zq_app g2 fz 0 hs g1 ∧ (rc2, bg2, en2, ss2, up2, hs2, ch2, wr2, gx) = (0, bg + (tu + 500 - 1) / 500 * 500, bg + (tu + 500 - 1) / 500 * 500, hs, up1', 0, ch1', wr1', fz))) :
    r1 = r2 ∧ rc1 = rc2 ∧ bg1 = bg2 ∧ ss1 = ss2 ∧ up1 = up2 ∧ hs1 = hs2 ∧ ch1 = ch2 ∧ wr1 = wr2 ∧ ∃ (T' : Nat → Nat) (tu' : Nat), en2 = bg1 + tu' ∧
      ((a3 = x3 ∧ a4 = x4 ∧ zq_I N T' (i + 4) rc1 bg1 ss1 hs1 tu' ch1 f1 f2 f3 f4 g1 gx g3 g4) ∨ (a4 = x3 ∧ a3 = x4 ∧ zq_I N T' (i + 4) rc1 bg1 ss1 hs1 tu' ch1 f1 f2 f4 f3 g1 gx g3 g4)) := by
  have hh := hI.2.2.2.1
  rcases h1 with ⟨u1, e1, e2⟩ | ⟨u1, e1, ua, ha, ca, wa, e2, e3⟩ | ⟨u1, e1, ua, ca, wa, e2, e3⟩
  · rcases h2 with ⟨-, d1, d2⟩ | ⟨u2, -⟩ | ⟨u2, -⟩
    · simp only [Prod.mk.injEq] at e2 d2
      obtain ⟨rfl, rfl, rfl, rfl, rfl, rfl, rfl, rfl, rfl⟩ := e2
      obtain ⟨rfl, rfl, rfl, rfl, rfl, rfl, rfl, rfl, rfl⟩ := d2
      exact ⟨e1.trans d1.symm, rfl, rfl, rfl, rfl, rfl, rfl, rfl, T, tu, rfl, Or.inl ⟨rfl, rfl, zq_I_i hI⟩⟩
    · exact absurd u1 u2
    · exact absurd u1 u2
  · rcases h2 with ⟨u2, -⟩ | ⟨-, d1, ub, hb, cb, wb', d2, d3⟩ | ⟨-, -, ub, cb, wb', fb, d2, -⟩
    · exact absurd u2 u1
    · obtain ⟨-, q1, q2, q3, q4⟩ := zq_wb_eq e2 d2
      subst q1; subst q2; subst q3; subst q4
      simp only [Prod.mk.injEq] at e3 d3
      obtain ⟨rfl, rfl, rfl, rfl, rfl, rfl, rfl, rfl, rfl⟩ := e3
      obtain ⟨rfl, rfl, rfl, rfl, rfl, rfl, rfl, rfl, rfl⟩ := d3
      exact ⟨e1.trans d1.symm, rfl, rfl, rfl, rfl, rfl, rfl, rfl, T, tu, rfl, Or.inl ⟨rfl, rfl, zq_I_wb hI (by omega) e2⟩⟩
    · exact absurd (zq_wb_eq e2 d2).1 zq_01
  · rcases h2 with ⟨u2, -⟩ | ⟨-, -, ub, hb, cb, wb', d2, -⟩ | ⟨-, d1, ub, cb, wb', fb, d2, d4, d3⟩
    · exact absurd u2 u1
    · exact absurd (zq_wb_eq d2 e2).1 zq_01
    · obtain ⟨-, q1, -, q3, q4⟩ := zq_wb_eq e2 d2
      subst q1; subst q3; subst q4
      have hc := zq_chok_wb hI.2.2.2.2.1 (by omega) e2
      simp only [Prod.mk.injEq] at e3 d3
      obtain ⟨rfl, rfl, rfl, rfl, rfl, rfl, rfl, rfl, rfl⟩ := e3
      obtain ⟨rfl, rfl, rfl, rfl, rfl, rfl, rfl, rfl, rfl⟩ := d3
      refine ⟨e1.trans d1.symm, rfl, rfl, rfl, rfl, rfl, rfl, rfl, fun _ => 0, 0, rfl, Or.inr ⟨rfl, rfl, ?_⟩⟩
      obtain ⟨q1, ⟨t0, tM, tR, tB⟩, ⟨⟨qq, q3⟩, q4⟩, ⟨q5, q5'⟩, -, ⟨s2, s4⟩, q8, q9, q10⟩ := hI
      refine ⟨q1, ⟨rfl, fun z hz => absurd hz (Nat.not_lt_zero z), rfl, by omega⟩, ⟨⟨qq + (tu + 500 - 1) / 500, by omega⟩, by omega⟩, ⟨q5', by omega⟩, hc, ⟨?_, ?_⟩, fun k hk => absurd hk (Nat.not_lt_zero k), ?_, fun z hz => absurd hz (Nat.not_lt_zero z)⟩
      · intro z hz
        obtain rfl : z = 0 := by omega
        rw [s2 0 (by omega), t0]
      · intro z hz
        obtain rfl : z = 0 := by omega
        rw [s4 0 (by omega), t0]
      · intro z hz
        have h9 := d4.2 z hz
        rw [Nat.zero_add] at h9
        rw [h9]
        exact zq_RB_and (q10 z hz)
theorem zq_I_init {N : Nat} (h : 2 ≤ N ∧ N ≤ 32) : zq_I N (fun _ => 0) 1 0 0 0 0 0 (-1) (fun _ => 0) (fun _ => 0) (fun _ => 0) (fun _ => 0) (fun _ => 0) (fun _ => 0) (fun _ => 0) (fun _ => 0) := by
  refine ⟨h, ⟨rfl, fun z hz => absurd hz (Nat.not_lt_zero z), rfl, by omega⟩, ⟨⟨0, rfl⟩, by omega⟩, ⟨by omega, by omega⟩, Or.inl rfl, ⟨fun z hz => ?_, fun z hz => ?_⟩, fun k hk => absurd hk (Nat.not_lt_zero k), fun z hz => absurd hz (Nat.not_lt_zero z), fun z hz => absurd hz (Nat.not_lt_zero z)⟩
  · exact nI_0.symm
  · show (0 : Int32) = nI (0 - 4 * z)
    rw [Nat.zero_sub]
    exact nI_0.symm
end
section
set_option maxHeartbeats 4000000 in
set_option maxRecDepth 100000 in
theorem c_BlockDesk_handTakes (l : Launch) (dC : Nat → ClassId) (dI : Nat → Nat → Nat) (sz : Nat) (a0 : Nat) (a1 : Nat) (a2 : Nat) (a3 : Nat) (a4 : Nat) (rc : Nat) (bg : Nat) (ss : Nat) (hs : Nat) (up : Int32) (ch : Int32) (wr : Int32) (n : Int32) (hhs : hs ≤ 8000) : Met l y_BlockDesk_handTakes w_BlockDesk_handTakes ({ frames := 0, cells := 0, slots := 0, locals := 0 }) (va_Pc [.ref a0, .int n] (fun U => U.heap.size = sz ∧ va_P (dC, dI) classes [(a0, .inr (0, [.ref a1, .ref a2, .int (nI rc), .int (nI bg), .ref a3, .int (nI ss), .ref a4, .int (nI hs), .int up, .int ch, .int wr]))] U.heap ∧ va_K (dC, dI) classes [] U ∧ va_D (fun _ => True) [(a0, .inr (0, [.ref a1, .ref a2, .int (nI rc), .int (nI bg), .ref a3, .int (nI ss), .ref a4, .int (nI hs), .int up, .int ch, .int wr]))])) (va_Qi (fun (r : Int32) (_ : Unit) => (r = nI 1 ∧ ¬ up = 0 ∧ n.toInt + (hs : Int) ≤ 8000) ∨ (r = nI 0 ∧ (up = 0 ∨ 8000 < n.toInt + (hs : Int)))) (fun (_ : Unit) (t : State) => va_P (dC, dI) classes [(a0, .inr (0, [.ref a1, .ref a2, .int (nI rc), .int (nI bg), .ref a3, .int (nI ss), .ref a4, .int (nI hs), .int up, .int ch, .int wr]))] t.heap ∧ va_K (dC, dI) classes [] t ∧ va_D (va_A [(a0, .inr (0, [.ref a1, .ref a2, .int (nI rc), .int (nI bg), .ref a3, .int (nI ss), .ref a4, .int (nI hs), .int up, .int ch, .int wr]))] sz) [(a0, .inr (0, [.ref a1, .ref a2, .int (nI rc), .int (nI bg), .ref a3, .int (nI ss), .ref a4, .int (nI hs), .int up, .int ch, .int wr]))]) (va_A [(a0, .inr (0, [.ref a1, .ref a2, .int (nI rc), .int (nI bg), .ref a3, .int (nI ss), .ref a4, .int (nI hs), .int up, .int ch, .int wr]))] sz)) 0 0 (va_A [(a0, .inr (0, [.ref a1, .ref a2, .int (nI rc), .int (nI bg), .ref a3, .int (nI ss), .ref a4, .int (nI hs), .int up, .int ch, .int wr]))] sz) := by
  refine Met.ofW (cc := b_BlockDesk_handTakes) (maxL := 2) (ret := (some .boolean)) (by decide) rfl ?_
  intro p e s m args below meth c s₁ B hml hv
  obtain ⟨rfl, hsz, hP, hK, hD0⟩ := hv
  have hx := B.exec
  have hb := B.bytes
  have hr := B.returns
  have hts := atoms_spec (ws := w_BlockDesk_handTakes) B.pre
  have hown : s.vm.findClass R_BlockDesk = some m.cls := findClass_of_methodNamed B.named
  have hlocks := B.notSynchronized
  subst hsz
  have hD := hD0.self (sz := s.heap.size)
  generalize hAe : va_A [(a0, .inr (0, [.ref a1, .ref a2, .int (nI rc), .int (nI bg), .ref a3, .int (nI ss), .ref a4, .int (nI hs), .int up, .int ch, .int wr]))] s.heap.size = A at hD ⊢
  have hA : ∀ q : Nat, s.heap.size ≤ q → A q := fun q h => by rw [← hAe]; exact Or.inr h
  have hS : va_S A s.heap s.heap [] := va_S.rf
  have hP : va_P (dC, dI) classes [(a0, .inr (0, [.ref a1, .ref a2, .int (nI rc), .int (nI bg), .ref a3, .int (nI ss), .ref a4, .int (nI hs), .int up, .int ch, .int wr]))] s.heap := hP
  have hin0 : ∀ w ∈ u_ws R_BlockDesk F_BlockDesk 11, w ∈ w_BlockDesk_handTakes := by decide +kernel
  have hl := lv_entry ([.ref a0, .int n]) (n := 2) (Nat.le_of_ble_eq_true rfl)
  rw [lg_entry_eq]
  generalize (lg_sl ([.ref a0, .int n]) ++ List.replicate (2 - (lg_sl ([.ref a0, .int n])).length) Slot.unset).toArray = ls at hl ⊢
  have hl : lv_has ls 2 [(0, .ref a0), (1, .int n)] := hl
  refine lv_aload_n hx hb d_BlockDesk_handTakes_0 rfl (lv_at hl 0 rfl) ?_
  refine va_get (D := (dC, dI)) (ci := 0) (v := .int up) (C := R_BlockDesk) (T := F_BlockDesk) (N := 11) hx hb hts hin0 hown hK hP 0 rfl rfl 8 (by decide) (hts (.fieldLink R_BlockDesk 23 "BlockDesk" "up" "Z") (by decide +kernel)) (fun _ h9 => h9) rfl d_BlockDesk_handTakes_1 ?_
  refine lv_if_eq (tgt := 23) hx hb d_BlockDesk_handTakes_4 (by decide) (fun c_4 => ?_) (fun c_4 => ?_)
  · refine lv_iconst (v := nI 0) hx hb d_BlockDesk_handTakes_23 (by decide +kernel) ?_
    have hP9 := hP.sub (ws' := [(a0, .inr (0, [.ref a1, .ref a2, .int (nI rc), .int (nI bg), .ref a3, .int (nI ss), .ref a4, .int (nI hs), .int up, .int ch, .int wr]))]) [0] rfl
    have hD9 := hD.sub (ws' := [(a0, .inr (0, [.ref a1, .ref a2, .int (nI rc), .int (nI bg), .ref a3, .int (nI ss), .ref a4, .int (nI hs), .int up, .int ch, .int wr]))]) [0] (by decide) rfl
    have hK9 := hK.sub (tys' := []) [] rfl
    exact W.zret (v := nI 0) hx hb hr zq_nb0 (fun t ht hW => ⟨⟨nI 0, (), rfl, Or.inr ⟨rfl, by first | exact Or.inl c_4 | exact Or.inr (by omega)⟩, by rw [ht]; exact hP9, va_K.moved hW.alike hK9, hD9⟩, hS.F ht⟩) hS.2.2 d_BlockDesk_handTakes_24
  · refine lv_iload_n hx hb d_BlockDesk_handTakes_7 rfl (lv_at hl 1 rfl) ?_
    refine lv_sipush (v := nI 8000) hx hb d_BlockDesk_handTakes_8 (by decide +kernel) ?_
    refine lv_aload_n hx hb d_BlockDesk_handTakes_11 rfl (lv_at hl 0 rfl) ?_
    refine va_get (D := (dC, dI)) (ci := 0) (v := .int (nI hs)) (C := R_BlockDesk) (T := F_BlockDesk) (N := 11) hx hb hts hin0 hown hK hP 0 rfl rfl 7 (by decide) (hts (.fieldLink R_BlockDesk 35 "BlockDesk" "handSize" "I") (by decide +kernel)) (fun _ h9 => h9) rfl d_BlockDesk_handTakes_12 ?_
    refine lv_isub hx hb d_BlockDesk_handTakes_15 ?_
    refine xq_top (nI (8000 - hs)) (pk_sub (by omega)) ?_
    refine lv_icmp_gt (tgt := 23) hx hb d_BlockDesk_handTakes_16 (by decide) (fun c_16 => ?_) (fun c_16 => ?_)
    · have c_16 : ((8000 - hs : Nat) : Int) < n.toInt := (xq_lt_l (by omega)).mp c_16
      refine lv_iconst (v := nI 0) hx hb d_BlockDesk_handTakes_23 (by decide +kernel) ?_
      have hP9 := hP.sub (ws' := [(a0, .inr (0, [.ref a1, .ref a2, .int (nI rc), .int (nI bg), .ref a3, .int (nI ss), .ref a4, .int (nI hs), .int up, .int ch, .int wr]))]) [0] rfl
      have hD9 := hD.sub (ws' := [(a0, .inr (0, [.ref a1, .ref a2, .int (nI rc), .int (nI bg), .ref a3, .int (nI ss), .ref a4, .int (nI hs), .int up, .int ch, .int wr]))]) [0] (by decide) rfl
      have hK9 := hK.sub (tys' := []) [] rfl
      exact W.zret (v := nI 0) hx hb hr zq_nb0 (fun t ht hW => ⟨⟨nI 0, (), rfl, Or.inr ⟨rfl, by first | exact Or.inl c_4 | exact Or.inr (by omega)⟩, by rw [ht]; exact hP9, va_K.moved hW.alike hK9, hD9⟩, hS.F ht⟩) hS.2.2 d_BlockDesk_handTakes_24
    · have c_16 : ¬ (((8000 - hs : Nat) : Int) < n.toInt) := fun h9 => c_16 ((xq_lt_l (by omega)).mpr h9)
      refine lv_iconst (v := nI 1) hx hb d_BlockDesk_handTakes_19 (by decide +kernel) ?_
      refine lv_goto (tgt := 24) hx hb d_BlockDesk_handTakes_20 (by decide) ?_
      have hP9 := hP.sub (ws' := [(a0, .inr (0, [.ref a1, .ref a2, .int (nI rc), .int (nI bg), .ref a3, .int (nI ss), .ref a4, .int (nI hs), .int up, .int ch, .int wr]))]) [0] rfl
      have hD9 := hD.sub (ws' := [(a0, .inr (0, [.ref a1, .ref a2, .int (nI rc), .int (nI bg), .ref a3, .int (nI ss), .ref a4, .int (nI hs), .int up, .int ch, .int wr]))]) [0] (by decide) rfl
      have hK9 := hK.sub (tys' := []) [] rfl
      exact W.zret (v := nI 1) hx hb hr zq_nb1 (fun t ht hW => ⟨⟨nI 1, (), rfl, Or.inl ⟨rfl, c_4, by omega⟩, by rw [ht]; exact hP9, va_K.moved hW.alike hK9, hD9⟩, hS.F ht⟩) hS.2.2 d_BlockDesk_handTakes_24
set_option maxHeartbeats 4000000 in
set_option maxRecDepth 100000 in
theorem c_BlockDesk_losePower (l : Launch) (dC : Nat → ClassId) (dI : Nat → Nat → Nat) (sz : Nat) (a0 : Nat) (a1 : Nat) (a2 : Nat) (a3 : Nat) (a4 : Nat) (rc : Nat) (bg : Nat) (ss : Nat) (hs : Nat) (up : Int32) (ch : Int32) (wr : Int32)  : Met l y_BlockDesk_losePower w_BlockDesk_losePower ({ frames := 0, cells := 0, slots := 0, locals := 0 }) (va_Pc [.ref a0] (fun U => U.heap.size = sz ∧ va_P (dC, dI) classes [(a0, .inr (0, [.ref a1, .ref a2, .int (nI rc), .int (nI bg), .ref a3, .int (nI ss), .ref a4, .int (nI hs), .int up, .int ch, .int wr]))] U.heap ∧ va_K (dC, dI) classes [] U ∧ va_D (fun _ => True) [(a0, .inr (0, [.ref a1, .ref a2, .int (nI rc), .int (nI bg), .ref a3, .int (nI ss), .ref a4, .int (nI hs), .int up, .int ch, .int wr]))])) (va_Qv (fun (_ : Unit) => True) (fun (_ : Unit) (t : State) => va_P (dC, dI) classes [(a0, .inr (0, [.ref a1, .ref a2, .int (nI rc), .int (nI bg), .ref a3, .int (nI ss), .ref a4, .int (nI 0), .int (nI 0), .int (-1), .int wr]))] t.heap ∧ va_K (dC, dI) classes [] t ∧ va_D (va_A [(a0, .inr (0, [.ref a1, .ref a2, .int (nI rc), .int (nI bg), .ref a3, .int (nI ss), .ref a4, .int (nI hs), .int up, .int ch, .int wr]))] sz) [(a0, .inr (0, [.ref a1, .ref a2, .int (nI rc), .int (nI bg), .ref a3, .int (nI ss), .ref a4, .int (nI 0), .int (nI 0), .int (-1), .int wr]))]) (va_A [(a0, .inr (0, [.ref a1, .ref a2, .int (nI rc), .int (nI bg), .ref a3, .int (nI ss), .ref a4, .int (nI hs), .int up, .int ch, .int wr]))] sz)) 0 0 (va_A [(a0, .inr (0, [.ref a1, .ref a2, .int (nI rc), .int (nI bg), .ref a3, .int (nI ss), .ref a4, .int (nI hs), .int up, .int ch, .int wr]))] sz) := by
  refine Met.ofW (cc := b_BlockDesk_losePower) (maxL := 1) (ret := none) (by decide) rfl ?_
  intro p e s m args below meth c s₁ B hml hv
  obtain ⟨rfl, hsz, hP, hK, hD0⟩ := hv
  have hx := B.exec
  have hb := B.bytes
  have hr := B.returns
  have hts := atoms_spec (ws := w_BlockDesk_losePower) B.pre
  have hown : s.vm.findClass R_BlockDesk = some m.cls := findClass_of_methodNamed B.named
  have hlocks := B.notSynchronized
  subst hsz
  have hD := hD0.self (sz := s.heap.size)
  generalize hAe : va_A [(a0, .inr (0, [.ref a1, .ref a2, .int (nI rc), .int (nI bg), .ref a3, .int (nI ss), .ref a4, .int (nI hs), .int up, .int ch, .int wr]))] s.heap.size = A at hD ⊢
  have hA : ∀ q : Nat, s.heap.size ≤ q → A q := fun q h => by rw [← hAe]; exact Or.inr h
  have hS : va_S A s.heap s.heap [] := va_S.rf
  have hP : va_P (dC, dI) classes [(a0, .inr (0, [.ref a1, .ref a2, .int (nI rc), .int (nI bg), .ref a3, .int (nI ss), .ref a4, .int (nI hs), .int up, .int ch, .int wr]))] s.heap := hP
  have hin0 : ∀ w ∈ u_ws R_BlockDesk F_BlockDesk 11, w ∈ w_BlockDesk_losePower := by decide +kernel
  have hl := lv_entry ([.ref a0]) (n := 1) (Nat.le_of_ble_eq_true rfl)
  rw [lg_entry_eq]
  generalize (lg_sl ([.ref a0]) ++ List.replicate (1 - (lg_sl ([.ref a0])).length) Slot.unset).toArray = ls at hl ⊢
  have hl : lv_has ls 1 [(0, .ref a0)] := hl
  refine lv_aload_n hx hb d_BlockDesk_losePower_0 rfl (lv_at hl 0 rfl) ?_
  refine lv_iconst (v := nI 0) hx hb d_BlockDesk_losePower_1 (by decide +kernel) ?_
  refine va_put (D := (dC, dI)) (ci := 0) (v := .int (nI 0)) (ty := .boolean) (C := R_BlockDesk) (T := F_BlockDesk) (N := 11) hx hb hts hin0 t_BlockDesk t_BlockDesk_ok n_BlockDesk hown hK hP hD hS 0 rfl rfl 8 (by decide) (hts (.fieldLink R_BlockDesk 23 "BlockDesk" "up" "Z") (by decide +kernel)) (fun _ h9 => h9) rfl (by decide +kernel) zq_nb0 zq_fb0 (Nat.le_of_ble_eq_true rfl) d_BlockDesk_losePower_2 (fun H locs hP hD hS => ?_)
  have hP : va_P (dC, dI) classes [(a0, .inr (0, [.ref a1, .ref a2, .int (nI rc), .int (nI bg), .ref a3, .int (nI ss), .ref a4, .int (nI hs), .int (nI 0), .int ch, .int wr]))] H := hP
  have hD : va_D A [(a0, .inr (0, [.ref a1, .ref a2, .int (nI rc), .int (nI bg), .ref a3, .int (nI ss), .ref a4, .int (nI hs), .int (nI 0), .int ch, .int wr]))] := hD
  refine lv_aload_n hx hb d_BlockDesk_losePower_5 rfl (lv_at hl 0 rfl) ?_
  refine lv_iconst (v := nI 0) hx hb d_BlockDesk_losePower_6 (by decide +kernel) ?_
  refine va_put (D := (dC, dI)) (ci := 0) (v := .int (nI 0)) (ty := .int) (C := R_BlockDesk) (T := F_BlockDesk) (N := 11) hx hb hts hin0 t_BlockDesk t_BlockDesk_ok n_BlockDesk hown hK hP hD hS 0 rfl rfl 7 (by decide) (hts (.fieldLink R_BlockDesk 35 "BlockDesk" "handSize" "I") (by decide +kernel)) (fun _ h9 => h9) rfl (by decide +kernel) rfl rfl (Nat.le_of_ble_eq_true rfl) d_BlockDesk_losePower_7 (fun H locs hP hD hS => ?_)
  have hP : va_P (dC, dI) classes [(a0, .inr (0, [.ref a1, .ref a2, .int (nI rc), .int (nI bg), .ref a3, .int (nI ss), .ref a4, .int (nI 0), .int (nI 0), .int ch, .int wr]))] H := hP
  have hD : va_D A [(a0, .inr (0, [.ref a1, .ref a2, .int (nI rc), .int (nI bg), .ref a3, .int (nI ss), .ref a4, .int (nI 0), .int (nI 0), .int ch, .int wr]))] := hD
  refine lv_aload_n hx hb d_BlockDesk_losePower_10 rfl (lv_at hl 0 rfl) ?_
  refine lv_iconst (v := (-1)) hx hb d_BlockDesk_losePower_11 (by decide +kernel) ?_
  refine va_put (D := (dC, dI)) (ci := 0) (v := .int (-1)) (ty := .int) (C := R_BlockDesk) (T := F_BlockDesk) (N := 11) hx hb hts hin0 t_BlockDesk t_BlockDesk_ok n_BlockDesk hown hK hP hD hS 0 rfl rfl 9 (by decide) (hts (.fieldLink R_BlockDesk 27 "BlockDesk" "charge" "I") (by decide +kernel)) (fun _ h9 => h9) rfl (by decide +kernel) rfl rfl (Nat.le_of_ble_eq_true rfl) d_BlockDesk_losePower_12 (fun H locs hP hD hS => ?_)
  have hP : va_P (dC, dI) classes [(a0, .inr (0, [.ref a1, .ref a2, .int (nI rc), .int (nI bg), .ref a3, .int (nI ss), .ref a4, .int (nI 0), .int (nI 0), .int (-1), .int wr]))] H := hP
  have hD : va_D A [(a0, .inr (0, [.ref a1, .ref a2, .int (nI rc), .int (nI bg), .ref a3, .int (nI ss), .ref a4, .int (nI 0), .int (nI 0), .int (-1), .int wr]))] := hD
  have hP9 := hP.sub (ws' := [(a0, .inr (0, [.ref a1, .ref a2, .int (nI rc), .int (nI bg), .ref a3, .int (nI ss), .ref a4, .int (nI 0), .int (nI 0), .int (-1), .int wr]))]) [0] rfl
  have hD9 := hD.sub (ws' := [(a0, .inr (0, [.ref a1, .ref a2, .int (nI rc), .int (nI bg), .ref a3, .int (nI ss), .ref a4, .int (nI 0), .int (nI 0), .int (-1), .int wr]))]) [0] (by decide) rfl
  have hK9 := hK.sub (tys' := []) [] rfl
  exact W.vret hx hb hr (fun t ht hW => ⟨⟨(), rfl, trivial, by rw [ht]; exact hP9, va_K.moved hW.alike hK9, hD9⟩, hS.F ht⟩) hS.2.2 d_BlockDesk_losePower_15
set_option maxHeartbeats 4000000 in
set_option maxRecDepth 100000 in
theorem c_BlockDesk_usedPlaces (l : Launch) (dC : Nat → ClassId) (dI : Nat → Nat → Nat) (sz : Nat) (a0 : Nat) (a1 : Nat) (a2 : Nat) (a3 : Nat) (a4 : Nat) (rc : Nat) (bg : Nat) (ss : Nat) (hs : Nat) (up : Int32) (ch : Int32) (wr : Int32) (k2 : ClassId) (nS : Nat) (f2 : Nat → Int32) (hrc : rc < nS) (hnS : nS ≤ 4001) : Met l y_BlockDesk_usedPlaces w_BlockDesk_usedPlaces ({ frames := 0, cells := 0, slots := 0, locals := 0 }) (va_Pc [.ref a0] (fun U => U.heap.size = sz ∧ va_P (dC, dI) classes [(a0, .inr (0, [.ref a1, .ref a2, .int (nI rc), .int (nI bg), .ref a3, .int (nI ss), .ref a4, .int (nI hs), .int up, .int ch, .int wr])), (a2, .inl (k2, nS, .inl f2))] U.heap ∧ va_K (dC, dI) classes [(k2, .int)] U ∧ va_D (fun _ => True) [(a0, .inr (0, [.ref a1, .ref a2, .int (nI rc), .int (nI bg), .ref a3, .int (nI ss), .ref a4, .int (nI hs), .int up, .int ch, .int wr])), (a2, .inl (k2, nS, .inl f2))])) (va_Qi (fun (r : Int32) (_ : Unit) => r = f2 rc) (fun (_ : Unit) (t : State) => va_P (dC, dI) classes [(a0, .inr (0, [.ref a1, .ref a2, .int (nI rc), .int (nI bg), .ref a3, .int (nI ss), .ref a4, .int (nI hs), .int up, .int ch, .int wr])), (a2, .inl (k2, nS, .inl f2))] t.heap ∧ va_K (dC, dI) classes [(k2, .int)] t ∧ va_D (va_A [(a0, .inr (0, [.ref a1, .ref a2, .int (nI rc), .int (nI bg), .ref a3, .int (nI ss), .ref a4, .int (nI hs), .int up, .int ch, .int wr])), (a2, .inl (k2, nS, .inl f2))] sz) [(a0, .inr (0, [.ref a1, .ref a2, .int (nI rc), .int (nI bg), .ref a3, .int (nI ss), .ref a4, .int (nI hs), .int up, .int ch, .int wr])), (a2, .inl (k2, nS, .inl f2))]) (va_A [(a0, .inr (0, [.ref a1, .ref a2, .int (nI rc), .int (nI bg), .ref a3, .int (nI ss), .ref a4, .int (nI hs), .int up, .int ch, .int wr])), (a2, .inl (k2, nS, .inl f2))] sz)) 0 0 (va_A [(a0, .inr (0, [.ref a1, .ref a2, .int (nI rc), .int (nI bg), .ref a3, .int (nI ss), .ref a4, .int (nI hs), .int up, .int ch, .int wr])), (a2, .inl (k2, nS, .inl f2))] sz) := by
  refine Met.ofW (cc := b_BlockDesk_usedPlaces) (maxL := 1) (ret := (some .int)) (by decide) rfl ?_
  intro p e s m args below meth c s₁ B hml hv
  obtain ⟨rfl, hsz, hP, hK, hD0⟩ := hv
  have hx := B.exec
  have hb := B.bytes
  have hr := B.returns
  have hts := atoms_spec (ws := w_BlockDesk_usedPlaces) B.pre
  have hown : s.vm.findClass R_BlockDesk = some m.cls := findClass_of_methodNamed B.named
  have hlocks := B.notSynchronized
  subst hsz
  have hD := hD0.self (sz := s.heap.size)
  generalize hAe : va_A [(a0, .inr (0, [.ref a1, .ref a2, .int (nI rc), .int (nI bg), .ref a3, .int (nI ss), .ref a4, .int (nI hs), .int up, .int ch, .int wr])), (a2, .inl (k2, nS, .inl f2))] s.heap.size = A at hD ⊢
  have hA : ∀ q : Nat, s.heap.size ≤ q → A q := fun q h => by rw [← hAe]; exact Or.inr h
  have hS : va_S A s.heap s.heap [] := va_S.rf
  have hP : va_P (dC, dI) classes [(a0, .inr (0, [.ref a1, .ref a2, .int (nI rc), .int (nI bg), .ref a3, .int (nI ss), .ref a4, .int (nI hs), .int up, .int ch, .int wr])), (a2, .inl (k2, nS, .inl f2))] s.heap := hP
  have hin0 : ∀ w ∈ u_ws R_BlockDesk F_BlockDesk 11, w ∈ w_BlockDesk_usedPlaces := by decide +kernel
  have hl := lv_entry ([.ref a0]) (n := 1) (Nat.le_of_ble_eq_true rfl)
  rw [lg_entry_eq]
  generalize (lg_sl ([.ref a0]) ++ List.replicate (1 - (lg_sl ([.ref a0])).length) Slot.unset).toArray = ls at hl ⊢
  have hl : lv_has ls 1 [(0, .ref a0)] := hl
  refine lv_aload_n hx hb d_BlockDesk_usedPlaces_0 rfl (lv_at hl 0 rfl) ?_
  refine va_get (D := (dC, dI)) (ci := 0) (v := .ref a2) (C := R_BlockDesk) (T := F_BlockDesk) (N := 11) hx hb hts hin0 hown hK hP 0 rfl rfl 1 (by decide) (hts (.fieldLink R_BlockDesk 13 "BlockDesk" "starts" "[I") (by decide +kernel)) (fun _ h9 => h9) rfl d_BlockDesk_usedPlaces_1 ?_
  refine lv_aload_n hx hb d_BlockDesk_usedPlaces_4 rfl (lv_at hl 0 rfl) ?_
  refine va_get (D := (dC, dI)) (ci := 0) (v := .int (nI rc)) (C := R_BlockDesk) (T := F_BlockDesk) (N := 11) hx hb hts hin0 hown hK hP 0 rfl rfl 2 (by decide) (hts (.fieldLink R_BlockDesk 57 "BlockDesk" "records" "I") (by decide +kernel)) (fun _ h9 => h9) rfl d_BlockDesk_usedPlaces_5 ?_
  refine va_iald hx hb hK hP 1 0 rfl rfl (vp_in_nI (by omega) (by omega)) d_BlockDesk_usedPlaces_8 ?_
  refine xq_top (f2 rc) (by rw [nI_clamp (by omega)]) ?_
  have hP9 := hP.sub (ws' := [(a0, .inr (0, [.ref a1, .ref a2, .int (nI rc), .int (nI bg), .ref a3, .int (nI ss), .ref a4, .int (nI hs), .int up, .int ch, .int wr])), (a2, .inl (k2, nS, .inl f2))]) [0, 1] rfl
  have hD9 := hD.sub (ws' := [(a0, .inr (0, [.ref a1, .ref a2, .int (nI rc), .int (nI bg), .ref a3, .int (nI ss), .ref a4, .int (nI hs), .int up, .int ch, .int wr])), (a2, .inl (k2, nS, .inl f2))]) [0, 1] (by decide) rfl
  have hK9 := hK.sub (tys' := [(k2, .int)]) [0] rfl
  exact W.iret (v := f2 rc) hx hb hr (fun t ht hW => ⟨⟨f2 rc, (), rfl, rfl, by rw [ht]; exact hP9, va_K.moved hW.alike hK9, hD9⟩, hS.F ht⟩) hS.2.2 d_BlockDesk_usedPlaces_9
set_option maxHeartbeats 4000000 in
set_option maxRecDepth 100000 in
theorem c_BlockDesk_blocksFor (l : Launch) (dC : Nat → ClassId) (dI : Nat → Nat → Nat) (sz : Nat) (pl : Nat) (hpl : pl ≤ 1000000) : Met l y_BlockDesk_blocksFor w_BlockDesk_blocksFor ({ frames := 0, cells := 0, slots := 0, locals := 0 }) (va_Pc [.int (nI pl)] (fun U => U.heap.size = sz ∧ va_P (dC, dI) classes [] U.heap ∧ va_K (dC, dI) classes [] U ∧ va_D (fun _ => True) [])) (va_Qi (fun (r : Int32) (_ : Unit) => r = nI ((pl + 500 - 1) / 500)) (fun (_ : Unit) (t : State) => va_P (dC, dI) classes [] t.heap ∧ va_K (dC, dI) classes [] t ∧ va_D (va_A [] sz) []) (va_A [] sz)) 0 0 (va_A [] sz) := by
  refine Met.ofW (cc := b_BlockDesk_blocksFor) (maxL := 1) (ret := (some .int)) (by decide) rfl ?_
  intro p e s m args below meth c s₁ B hml hv
  obtain ⟨rfl, hsz, hP, hK, hD0⟩ := hv
  have hx := B.exec
  have hb := B.bytes
  have hr := B.returns
  have hts := atoms_spec (ws := w_BlockDesk_blocksFor) B.pre
  have hown : s.vm.findClass R_BlockDesk = some m.cls := findClass_of_methodNamed B.named
  have hlocks := B.notSynchronized
  subst hsz
  have hD := hD0.self (sz := s.heap.size)
  generalize hAe : va_A [] s.heap.size = A at hD ⊢
  have hA : ∀ q : Nat, s.heap.size ≤ q → A q := fun q h => by rw [← hAe]; exact Or.inr h
  have hS : va_S A s.heap s.heap [] := va_S.rf
  have hP : va_P (dC, dI) classes [] s.heap := hP
  have hl := lv_entry ([.int (nI pl)]) (n := 1) (Nat.le_of_ble_eq_true rfl)
  rw [lg_entry_eq]
  generalize (lg_sl ([.int (nI pl)]) ++ List.replicate (1 - (lg_sl ([.int (nI pl)])).length) Slot.unset).toArray = ls at hl ⊢
  have hl : lv_has ls 1 [(0, .int (nI pl))] := hl
  refine lv_iload_n hx hb d_BlockDesk_blocksFor_0 rfl (lv_at hl 0 rfl) ?_
  refine lv_sipush (v := nI 500) hx hb d_BlockDesk_blocksFor_1 (by decide +kernel) ?_
  refine lv_iadd hx hb d_BlockDesk_blocksFor_4 ?_
  refine xq_top (nI (pl + 500)) (nI_add _ _) ?_
  refine lv_iconst (v := nI 1) hx hb d_BlockDesk_blocksFor_5 (by decide +kernel) ?_
  refine lv_isub hx hb d_BlockDesk_blocksFor_6 ?_
  refine xq_top (nI (pl + 500 - 1)) (pk_sub (by omega)) ?_
  refine lv_sipush (v := nI 500) hx hb d_BlockDesk_blocksFor_7 (by decide +kernel) ?_
  refine lv_idiv hx hb d_BlockDesk_blocksFor_10 (by decide +kernel) ?_
  refine xq_top (nI ((pl + 500 - 1) / 500)) (pk_div (by omega) (by omega) (by omega)) ?_
  have hP9 := hP.sub (ws' := []) [] rfl
  have hD9 := hD.sub (ws' := []) [] (by decide) rfl
  have hK9 := hK.sub (tys' := []) [] rfl
  exact W.iret (v := nI ((pl + 500 - 1) / 500)) hx hb hr (fun t ht hW => ⟨⟨nI ((pl + 500 - 1) / 500), (), rfl, rfl, by rw [ht]; exact hP9, va_K.moved hW.alike hK9, hD9⟩, hS.F ht⟩) hS.2.2 d_BlockDesk_blocksFor_11
set_option maxHeartbeats 4000000 in
set_option maxRecDepth 100000 in
theorem c_BlockDesk_takeHandAsSnapshot (l : Launch) (dC : Nat → ClassId) (dI : Nat → Nat → Nat) (sz : Nat) (a0 : Nat) (a1 : Nat) (a2 : Nat) (a3 : Nat) (a4 : Nat) (rc : Nat) (bg : Nat) (ss : Nat) (hs : Nat) (up : Int32) (ch : Int32) (wr : Int32)  : Met l y_BlockDesk_takeHandAsSnapshot w_BlockDesk_takeHandAsSnapshot ({ frames := 0, cells := 0, slots := 0, locals := 0 }) (va_Pc [.ref a0] (fun U => U.heap.size = sz ∧ va_P (dC, dI) classes [(a0, .inr (0, [.ref a1, .ref a2, .int (nI rc), .int (nI bg), .ref a3, .int (nI ss), .ref a4, .int (nI hs), .int up, .int ch, .int wr]))] U.heap ∧ va_K (dC, dI) classes [] U ∧ va_D (fun _ => True) [(a0, .inr (0, [.ref a1, .ref a2, .int (nI rc), .int (nI bg), .ref a3, .int (nI ss), .ref a4, .int (nI hs), .int up, .int ch, .int wr]))])) (va_Qv (fun (_ : Unit) => True) (fun (_ : Unit) (t : State) => va_P (dC, dI) classes [(a0, .inr (0, [.ref a1, .ref a2, .int (nI rc), .int (nI bg), .ref a4, .int (nI hs), .ref a3, .int (nI 0), .int up, .int ch, .int wr]))] t.heap ∧ va_K (dC, dI) classes [] t ∧ va_D (va_A [(a0, .inr (0, [.ref a1, .ref a2, .int (nI rc), .int (nI bg), .ref a3, .int (nI ss), .ref a4, .int (nI hs), .int up, .int ch, .int wr]))] sz) [(a0, .inr (0, [.ref a1, .ref a2, .int (nI rc), .int (nI bg), .ref a4, .int (nI hs), .ref a3, .int (nI 0), .int up, .int ch, .int wr]))]) (va_A [(a0, .inr (0, [.ref a1, .ref a2, .int (nI rc), .int (nI bg), .ref a3, .int (nI ss), .ref a4, .int (nI hs), .int up, .int ch, .int wr]))] sz)) 0 0 (va_A [(a0, .inr (0, [.ref a1, .ref a2, .int (nI rc), .int (nI bg), .ref a3, .int (nI ss), .ref a4, .int (nI hs), .int up, .int ch, .int wr]))] sz) := by
  refine Met.ofW (cc := b_BlockDesk_takeHandAsSnapshot) (maxL := 2) (ret := none) (by decide) rfl ?_
  intro p e s m args below meth c s₁ B hml hv
  obtain ⟨rfl, hsz, hP, hK, hD0⟩ := hv
  have hx := B.exec
  have hb := B.bytes
  have hr := B.returns
  have hts := atoms_spec (ws := w_BlockDesk_takeHandAsSnapshot) B.pre
  have hown : s.vm.findClass R_BlockDesk = some m.cls := findClass_of_methodNamed B.named
  have hlocks := B.notSynchronized
  subst hsz
  have hD := hD0.self (sz := s.heap.size)
  generalize hAe : va_A [(a0, .inr (0, [.ref a1, .ref a2, .int (nI rc), .int (nI bg), .ref a3, .int (nI ss), .ref a4, .int (nI hs), .int up, .int ch, .int wr]))] s.heap.size = A at hD ⊢
  have hA : ∀ q : Nat, s.heap.size ≤ q → A q := fun q h => by rw [← hAe]; exact Or.inr h
  have hS : va_S A s.heap s.heap [] := va_S.rf
  have hP : va_P (dC, dI) classes [(a0, .inr (0, [.ref a1, .ref a2, .int (nI rc), .int (nI bg), .ref a3, .int (nI ss), .ref a4, .int (nI hs), .int up, .int ch, .int wr]))] s.heap := hP
  have hin0 : ∀ w ∈ u_ws R_BlockDesk F_BlockDesk 11, w ∈ w_BlockDesk_takeHandAsSnapshot := by decide +kernel
  have hl := lv_entry ([.ref a0]) (n := 2) (Nat.le_of_ble_eq_true rfl)
  rw [lg_entry_eq]
  generalize (lg_sl ([.ref a0]) ++ List.replicate (2 - (lg_sl ([.ref a0])).length) Slot.unset).toArray = ls at hl ⊢
  have hl : lv_has ls 2 [(0, .ref a0)] := hl
  refine lv_aload_n hx hb d_BlockDesk_takeHandAsSnapshot_0 rfl (lv_at hl 0 rfl) ?_
  refine va_get (D := (dC, dI)) (ci := 0) (v := .ref a3) (C := R_BlockDesk) (T := F_BlockDesk) (N := 11) hx hb hts hin0 hown hK hP 0 rfl rfl 4 (by decide) (hts (.fieldLink R_BlockDesk 17 "BlockDesk" "snapshotBytes" "[B") (by decide +kernel)) (fun _ h9 => h9) rfl d_BlockDesk_takeHandAsSnapshot_1 ?_
  refine lv_astore_n (lv' := [(1, .ref a3), (0, .ref a0)]) hx hb d_BlockDesk_takeHandAsSnapshot_4 rfl hl (by decide) rfl (fun ls hl => ?_)
  refine lv_aload_n hx hb d_BlockDesk_takeHandAsSnapshot_5 rfl (lv_at hl 1 rfl) ?_
  refine lv_aload_n hx hb d_BlockDesk_takeHandAsSnapshot_6 rfl (lv_at hl 1 rfl) ?_
  refine va_get (D := (dC, dI)) (ci := 0) (v := .ref a4) (C := R_BlockDesk) (T := F_BlockDesk) (N := 11) hx hb hts hin0 hown hK hP 0 rfl rfl 6 (by decide) (hts (.fieldLink R_BlockDesk 20 "BlockDesk" "handBytes" "[B") (by decide +kernel)) (fun _ h9 => h9) rfl d_BlockDesk_takeHandAsSnapshot_7 ?_
  refine va_put (D := (dC, dI)) (ci := 0) (v := .ref a4) (ty := (.array .byte)) (C := R_BlockDesk) (T := F_BlockDesk) (N := 11) hx hb hts hin0 t_BlockDesk t_BlockDesk_ok n_BlockDesk hown hK hP hD hS 0 rfl rfl 4 (by decide) (hts (.fieldLink R_BlockDesk 17 "BlockDesk" "snapshotBytes" "[B") (by decide +kernel)) (fun _ h9 => h9) rfl (by decide +kernel) rfl rfl (Nat.le_of_ble_eq_true rfl) d_BlockDesk_takeHandAsSnapshot_10 (fun H locs hP hD hS => ?_)
  have hP : va_P (dC, dI) classes [(a0, .inr (0, [.ref a1, .ref a2, .int (nI rc), .int (nI bg), .ref a4, .int (nI ss), .ref a4, .int (nI hs), .int up, .int ch, .int wr]))] H := hP
  have hD : va_D A [(a0, .inr (0, [.ref a1, .ref a2, .int (nI rc), .int (nI bg), .ref a4, .int (nI ss), .ref a4, .int (nI hs), .int up, .int ch, .int wr]))] := hD
  refine lv_aload_n hx hb d_BlockDesk_takeHandAsSnapshot_13 rfl (lv_at hl 1 rfl) ?_
  refine lv_aload_n hx hb d_BlockDesk_takeHandAsSnapshot_14 rfl (lv_at hl 1 rfl) ?_
  refine va_get (D := (dC, dI)) (ci := 0) (v := .int (nI hs)) (C := R_BlockDesk) (T := F_BlockDesk) (N := 11) hx hb hts hin0 hown hK hP 0 rfl rfl 7 (by decide) (hts (.fieldLink R_BlockDesk 35 "BlockDesk" "handSize" "I") (by decide +kernel)) (fun _ h9 => h9) rfl d_BlockDesk_takeHandAsSnapshot_15 ?_
  refine va_put (D := (dC, dI)) (ci := 0) (v := .int (nI hs)) (ty := .int) (C := R_BlockDesk) (T := F_BlockDesk) (N := 11) hx hb hts hin0 t_BlockDesk t_BlockDesk_ok n_BlockDesk hown hK hP hD hS 0 rfl rfl 5 (by decide) (hts (.fieldLink R_BlockDesk 73 "BlockDesk" "snapshotSize" "I") (by decide +kernel)) (fun _ h9 => h9) rfl (by decide +kernel) rfl rfl (Nat.le_of_ble_eq_true rfl) d_BlockDesk_takeHandAsSnapshot_18 (fun H locs hP hD hS => ?_)
  have hP : va_P (dC, dI) classes [(a0, .inr (0, [.ref a1, .ref a2, .int (nI rc), .int (nI bg), .ref a4, .int (nI hs), .ref a4, .int (nI hs), .int up, .int ch, .int wr]))] H := hP
  have hD : va_D A [(a0, .inr (0, [.ref a1, .ref a2, .int (nI rc), .int (nI bg), .ref a4, .int (nI hs), .ref a4, .int (nI hs), .int up, .int ch, .int wr]))] := hD
  refine lv_aload_n hx hb d_BlockDesk_takeHandAsSnapshot_21 rfl (lv_at hl 1 rfl) ?_
  refine lv_aload_n hx hb d_BlockDesk_takeHandAsSnapshot_22 rfl (lv_at hl 0 rfl) ?_
  refine va_put (D := (dC, dI)) (ci := 0) (v := .ref a3) (ty := (.array .byte)) (C := R_BlockDesk) (T := F_BlockDesk) (N := 11) hx hb hts hin0 t_BlockDesk t_BlockDesk_ok n_BlockDesk hown hK hP hD hS 0 rfl rfl 6 (by decide) (hts (.fieldLink R_BlockDesk 20 "BlockDesk" "handBytes" "[B") (by decide +kernel)) (fun _ h9 => h9) rfl (by decide +kernel) rfl rfl (Nat.le_of_ble_eq_true rfl) d_BlockDesk_takeHandAsSnapshot_23 (fun H locs hP hD hS => ?_)
  have hP : va_P (dC, dI) classes [(a0, .inr (0, [.ref a1, .ref a2, .int (nI rc), .int (nI bg), .ref a4, .int (nI hs), .ref a3, .int (nI hs), .int up, .int ch, .int wr]))] H := hP
  have hD : va_D A [(a0, .inr (0, [.ref a1, .ref a2, .int (nI rc), .int (nI bg), .ref a4, .int (nI hs), .ref a3, .int (nI hs), .int up, .int ch, .int wr]))] := hD
  refine lv_aload_n hx hb d_BlockDesk_takeHandAsSnapshot_26 rfl (lv_at hl 1 rfl) ?_
  refine lv_iconst (v := nI 0) hx hb d_BlockDesk_takeHandAsSnapshot_27 (by decide +kernel) ?_
  refine va_put (D := (dC, dI)) (ci := 0) (v := .int (nI 0)) (ty := .int) (C := R_BlockDesk) (T := F_BlockDesk) (N := 11) hx hb hts hin0 t_BlockDesk t_BlockDesk_ok n_BlockDesk hown hK hP hD hS 0 rfl rfl 7 (by decide) (hts (.fieldLink R_BlockDesk 35 "BlockDesk" "handSize" "I") (by decide +kernel)) (fun _ h9 => h9) rfl (by decide +kernel) rfl rfl (Nat.le_of_ble_eq_true rfl) d_BlockDesk_takeHandAsSnapshot_28 (fun H locs hP hD hS => ?_)
  have hP : va_P (dC, dI) classes [(a0, .inr (0, [.ref a1, .ref a2, .int (nI rc), .int (nI bg), .ref a4, .int (nI hs), .ref a3, .int (nI 0), .int up, .int ch, .int wr]))] H := hP
  have hD : va_D A [(a0, .inr (0, [.ref a1, .ref a2, .int (nI rc), .int (nI bg), .ref a4, .int (nI hs), .ref a3, .int (nI 0), .int up, .int ch, .int wr]))] := hD
  have hP9 := hP.sub (ws' := [(a0, .inr (0, [.ref a1, .ref a2, .int (nI rc), .int (nI bg), .ref a4, .int (nI hs), .ref a3, .int (nI 0), .int up, .int ch, .int wr]))]) [0] rfl
  have hD9 := hD.sub (ws' := [(a0, .inr (0, [.ref a1, .ref a2, .int (nI rc), .int (nI bg), .ref a4, .int (nI hs), .ref a3, .int (nI 0), .int up, .int ch, .int wr]))]) [0] (by decide) rfl
  have hK9 := hK.sub (tys' := []) [] rfl
  exact W.vret hx hb hr (fun t ht hW => ⟨⟨(), rfl, trivial, by rw [ht]; exact hP9, va_K.moved hW.alike hK9, hD9⟩, hS.F ht⟩) hS.2.2 d_BlockDesk_takeHandAsSnapshot_31
set_option maxHeartbeats 4000000 in
set_option maxRecDepth 100000 in
theorem c_BlockDesk_writeBlocks (l : Launch) (dC : Nat → ClassId) (dI : Nat → Nat → Nat) (sz : Nat) (a0 : Nat) (a1 : Nat) (a2 : Nat) (a3 : Nat) (a4 : Nat) (rc : Nat) (bg : Nat) (ss : Nat) (hs : Nat) (up : Int32) (ch : Int32) (wr : Int32) (n : Int32)  : Met l y_BlockDesk_writeBlocks w_BlockDesk_writeBlocks ({ frames := 1, cells := 0, slots := 0, locals := 22 }) (va_Pc [.ref a0, .int n] (fun U => U.heap.size = sz ∧ va_P (dC, dI) classes [(a0, .inr (0, [.ref a1, .ref a2, .int (nI rc), .int (nI bg), .ref a3, .int (nI ss), .ref a4, .int (nI hs), .int up, .int ch, .int wr]))] U.heap ∧ va_K (dC, dI) classes [] U ∧ va_D (fun _ => True) [(a0, .inr (0, [.ref a1, .ref a2, .int (nI rc), .int (nI bg), .ref a3, .int (nI ss), .ref a4, .int (nI hs), .int up, .int ch, .int wr]))])) (va_Qi (fun (r : Int32) (u : Int32 × Nat × Int32 × Int32) => (r, u) = zq_wb up hs ch wr n) (fun (u : Int32 × Nat × Int32 × Int32) (t : State) => match u with | (up', hs', ch', wr') => va_P (dC, dI) classes [(a0, .inr (0, [.ref a1, .ref a2, .int (nI rc), .int (nI bg), .ref a3, .int (nI ss), .ref a4, .int (nI hs'), .int up', .int ch', .int wr']))] t.heap ∧ va_K (dC, dI) classes [] t ∧ va_D (va_A [(a0, .inr (0, [.ref a1, .ref a2, .int (nI rc), .int (nI bg), .ref a3, .int (nI ss), .ref a4, .int (nI hs), .int up, .int ch, .int wr]))] sz) [(a0, .inr (0, [.ref a1, .ref a2, .int (nI rc), .int (nI bg), .ref a3, .int (nI ss), .ref a4, .int (nI hs'), .int up', .int ch', .int wr']))]) (va_A [(a0, .inr (0, [.ref a1, .ref a2, .int (nI rc), .int (nI bg), .ref a3, .int (nI ss), .ref a4, .int (nI hs), .int up, .int ch, .int wr]))] sz)) 0 0 (va_A [(a0, .inr (0, [.ref a1, .ref a2, .int (nI rc), .int (nI bg), .ref a3, .int (nI ss), .ref a4, .int (nI hs), .int up, .int ch, .int wr]))] sz) := by
  refine Met.ofW (cc := b_BlockDesk_writeBlocks) (maxL := 2) (ret := (some .boolean)) (by decide) rfl ?_
  intro p e s m args below meth c s₁ B hml hv
  obtain ⟨rfl, hsz, hP, hK, hD0⟩ := hv
  have hx := B.exec
  have hb := B.bytes
  have hr := B.returns
  have hts := atoms_spec (ws := w_BlockDesk_writeBlocks) B.pre
  have hown : s.vm.findClass R_BlockDesk = some m.cls := findClass_of_methodNamed B.named
  have hlocks := B.notSynchronized
  subst hsz
  have hD := hD0.self (sz := s.heap.size)
  generalize hAe : va_A [(a0, .inr (0, [.ref a1, .ref a2, .int (nI rc), .int (nI bg), .ref a3, .int (nI ss), .ref a4, .int (nI hs), .int up, .int ch, .int wr]))] s.heap.size = A at hD ⊢
  have hA : ∀ q : Nat, s.heap.size ≤ q → A q := fun q h => by rw [← hAe]; exact Or.inr h
  have hS : va_S A s.heap s.heap [] := va_S.rf
  have hP : va_P (dC, dI) classes [(a0, .inr (0, [.ref a1, .ref a2, .int (nI rc), .int (nI bg), .ref a3, .int (nI ss), .ref a4, .int (nI hs), .int up, .int ch, .int wr]))] s.heap := hP
  have hin0 : ∀ w ∈ u_ws R_BlockDesk F_BlockDesk 11, w ∈ w_BlockDesk_writeBlocks := by decide +kernel
  have hl := lv_entry ([.ref a0, .int n]) (n := 2) (Nat.le_of_ble_eq_true rfl)
  rw [lg_entry_eq]
  generalize (lg_sl ([.ref a0, .int n]) ++ List.replicate (2 - (lg_sl ([.ref a0, .int n])).length) Slot.unset).toArray = ls at hl ⊢
  have hl : lv_has ls 2 [(0, .ref a0), (1, .int n)] := hl
  refine lv_aload_n hx hb d_BlockDesk_writeBlocks_0 rfl (lv_at hl 0 rfl) ?_
  refine va_get (D := (dC, dI)) (ci := 0) (v := .int ch) (C := R_BlockDesk) (T := F_BlockDesk) (N := 11) hx hb hts hin0 hown hK hP 0 rfl rfl 9 (by decide) (hts (.fieldLink R_BlockDesk 27 "BlockDesk" "charge" "I") (by decide +kernel)) (fun _ h9 => h9) rfl d_BlockDesk_writeBlocks_1 ?_
  refine lv_iconst (v := (-1)) hx hb d_BlockDesk_writeBlocks_4 (by decide +kernel) ?_
  refine lv_icmp_ne (tgt := 20) hx hb d_BlockDesk_writeBlocks_5 (by decide) (fun c_5 => ?_) (fun c_5 => ?_)
  · refine lv_iload_n hx hb d_BlockDesk_writeBlocks_20 rfl (lv_at hl 1 rfl) ?_
    refine lv_aload_n hx hb d_BlockDesk_writeBlocks_21 rfl (lv_at hl 0 rfl) ?_
    refine va_get (D := (dC, dI)) (ci := 0) (v := .int ch) (C := R_BlockDesk) (T := F_BlockDesk) (N := 11) hx hb hts hin0 hown hK hP 0 rfl rfl 9 (by decide) (hts (.fieldLink R_BlockDesk 27 "BlockDesk" "charge" "I") (by decide +kernel)) (fun _ h9 => h9) rfl d_BlockDesk_writeBlocks_22 ?_
    refine lv_icmp_gt (tgt := 50) hx hb d_BlockDesk_writeBlocks_25 (by decide) (fun c_25 => ?_) (fun c_25 => ?_)
    · have c_25 : ch.toInt < n.toInt := xq_lt.mp c_25
      refine lv_aload_n hx hb d_BlockDesk_writeBlocks_50 rfl (lv_at hl 0 rfl) ?_
      refine lv_dup hx hb d_BlockDesk_writeBlocks_51 rfl ?_
      refine va_get (D := (dC, dI)) (ci := 0) (v := .int wr) (C := R_BlockDesk) (T := F_BlockDesk) (N := 11) hx hb hts hin0 hown hK hP 0 rfl rfl 10 (by decide) (hts (.fieldLink R_BlockDesk 79 "BlockDesk" "written" "I") (by decide +kernel)) (fun _ h9 => h9) rfl d_BlockDesk_writeBlocks_52 ?_
      refine lv_aload_n hx hb d_BlockDesk_writeBlocks_55 rfl (lv_at hl 0 rfl) ?_
      refine va_get (D := (dC, dI)) (ci := 0) (v := .int ch) (C := R_BlockDesk) (T := F_BlockDesk) (N := 11) hx hb hts hin0 hown hK hP 0 rfl rfl 9 (by decide) (hts (.fieldLink R_BlockDesk 27 "BlockDesk" "charge" "I") (by decide +kernel)) (fun _ h9 => h9) rfl d_BlockDesk_writeBlocks_56 ?_
      refine lv_iadd hx hb d_BlockDesk_writeBlocks_59 ?_
      refine va_put (D := (dC, dI)) (ci := 0) (v := .int (wr + ch)) (ty := .int) (C := R_BlockDesk) (T := F_BlockDesk) (N := 11) hx hb hts hin0 t_BlockDesk t_BlockDesk_ok n_BlockDesk hown hK hP hD hS 0 rfl rfl 10 (by decide) (hts (.fieldLink R_BlockDesk 79 "BlockDesk" "written" "I") (by decide +kernel)) (fun _ h9 => h9) rfl (by decide +kernel) rfl rfl (Nat.le_of_ble_eq_true rfl) d_BlockDesk_writeBlocks_60 (fun H locs hP hD hS => ?_)
      have hP : va_P (dC, dI) classes [(a0, .inr (0, [.ref a1, .ref a2, .int (nI rc), .int (nI bg), .ref a3, .int (nI ss), .ref a4, .int (nI hs), .int up, .int ch, .int (wr + ch)]))] H := hP
      have hD : va_D A [(a0, .inr (0, [.ref a1, .ref a2, .int (nI rc), .int (nI bg), .ref a3, .int (nI ss), .ref a4, .int (nI hs), .int up, .int ch, .int (wr + ch)]))] := hD
      refine lv_aload_n hx hb d_BlockDesk_writeBlocks_63 rfl (lv_at hl 0 rfl) ?_
      have hPc := hP.sub (ws' := [(a0, .inr (0, [.ref a1, .ref a2, .int (nI rc), .int (nI bg), .ref a3, .int (nI ss), .ref a4, .int (nI hs), .int up, .int ch, .int (wr + ch)]))]) [0] rfl
      have hDc := hD.sub (ws' := [(a0, .inr (0, [.ref a1, .ref a2, .int (nI rc), .int (nI bg), .ref a3, .int (nI ss), .ref a4, .int (nI hs), .int up, .int ch, .int (wr + ch)]))]) [0] (by decide) rfl
      have hKc := hK.sub (tys' := []) [] rfl
      have hFc := va_free (wc := [(a0, .inr (0, [.ref a1, .ref a2, .int (nI rc), .int (nI bg), .ref a3, .int (nI ss), .ref a4, .int (nI hs), .int up, .int ch, .int (wr + ch)]))]) hD hS hA [0] rfl
      refine va_callv (va_runV (As := []) (rest := []) ⟨hx, hb, hml, hown, hts⟩ (c_BlockDesk_losePower l dC dI H.size a0 a1 a2 a3 a4 rc bg ss hs up ch (wr + ch) ) (cwV 0 hts g_BlockDesk_writeBlocks_BlockDesk_losePower rfl rfl rfl (by decide +kernel) ⟨Nat.le_of_ble_eq_true rfl, Nat.le_of_ble_eq_true rfl⟩) ⟨fun a U g mk q => by obtain ⟨q0, q1, qP, qK, qD⟩ := q; exact ⟨q0, q1, qP, va_K.moved (u := U) (U := U.calling g mk a) (Vm.Alike.refl U.vm) qK, qD⟩, va_recv hKc hPc (ci := 0) (q0 := 0) rfl rfl, fun U hU hW => ⟨rfl, by rw [hU], by rw [hU]; exact hPc, va_K.moved hW.alike hKc, hDc.weaken (fun _ _ _ _ => trivial)⟩⟩ rfl rfl hl.1 rfl (lv_room (Nat.le_of_ble_eq_true rfl)) d_BlockDesk_writeBlocks_64 ⟨(Nat.zero_le _), (Nat.zero_le _)⟩) hS (fun q _ h => hFc q h) hFc (fun u t H1 locs ht hvm hw hB hz1 hk1 hS => ?_)
      obtain ⟨hP1, hK1, hD1⟩ := hB
      rw [ht] at hP1
      try dsimp only at hw
      obtain ⟨hP, hD⟩ := va_join (wr := []) (w1 := [(a0, .inr (0, [.ref a1, .ref a2, .int (nI rc), .int (nI bg), .ref a3, .int (nI ss), .ref a4, .int (nI 0), .int (nI 0), .int (-1), .int (wr + ch)]))]) hP hD [0] [] rfl rfl (by decide) (by decide) hk1 hFc hP1 hD1
      generalize H1 = H at hP hS ⊢
      have hP : va_P (dC, dI) classes [(a0, .inr (0, [.ref a1, .ref a2, .int (nI rc), .int (nI bg), .ref a3, .int (nI ss), .ref a4, .int (nI 0), .int (nI 0), .int (-1), .int (wr + ch)]))] H := hP
      have hD : va_D A [(a0, .inr (0, [.ref a1, .ref a2, .int (nI rc), .int (nI bg), .ref a3, .int (nI ss), .ref a4, .int (nI 0), .int (nI 0), .int (-1), .int (wr + ch)]))] := hD
      refine lv_iconst (v := nI 0) hx hb d_BlockDesk_writeBlocks_67 (by decide +kernel) ?_
      have hP9 := hP.sub (ws' := [(a0, .inr (0, [.ref a1, .ref a2, .int (nI rc), .int (nI bg), .ref a3, .int (nI ss), .ref a4, .int (nI 0), .int (nI 0), .int (-1), .int (wr + ch)]))]) [0] rfl
      have hD9 := hD.sub (ws' := [(a0, .inr (0, [.ref a1, .ref a2, .int (nI rc), .int (nI bg), .ref a3, .int (nI ss), .ref a4, .int (nI 0), .int (nI 0), .int (-1), .int (wr + ch)]))]) [0] (by decide) rfl
      have hK9 := hK.sub (tys' := []) [] rfl
      exact W.zret (v := nI 0) hx hb hr zq_nb0 (fun t ht hW => ⟨⟨nI 0, (nI 0, 0, (-1), (wr + ch)), rfl, (zq_wb_b c_5 (xq_lt.mpr c_25)).symm, by rw [ht]; exact hP9, va_K.moved hW.alike hK9, hD9⟩, hS.F ht⟩) hS.2.2 d_BlockDesk_writeBlocks_68
    · have c_25 : ¬ (ch.toInt < n.toInt) := fun h9 => c_25 (xq_lt.mpr h9)
      refine lv_aload_n hx hb d_BlockDesk_writeBlocks_28 rfl (lv_at hl 0 rfl) ?_
      refine lv_dup hx hb d_BlockDesk_writeBlocks_29 rfl ?_
      refine va_get (D := (dC, dI)) (ci := 0) (v := .int ch) (C := R_BlockDesk) (T := F_BlockDesk) (N := 11) hx hb hts hin0 hown hK hP 0 rfl rfl 9 (by decide) (hts (.fieldLink R_BlockDesk 27 "BlockDesk" "charge" "I") (by decide +kernel)) (fun _ h9 => h9) rfl d_BlockDesk_writeBlocks_30 ?_
      refine lv_iload_n hx hb d_BlockDesk_writeBlocks_33 rfl (lv_at hl 1 rfl) ?_
      refine lv_isub hx hb d_BlockDesk_writeBlocks_34 ?_
      refine va_put (D := (dC, dI)) (ci := 0) (v := .int (ch - n)) (ty := .int) (C := R_BlockDesk) (T := F_BlockDesk) (N := 11) hx hb hts hin0 t_BlockDesk t_BlockDesk_ok n_BlockDesk hown hK hP hD hS 0 rfl rfl 9 (by decide) (hts (.fieldLink R_BlockDesk 27 "BlockDesk" "charge" "I") (by decide +kernel)) (fun _ h9 => h9) rfl (by decide +kernel) rfl rfl (Nat.le_of_ble_eq_true rfl) d_BlockDesk_writeBlocks_35 (fun H locs hP hD hS => ?_)
      have hP : va_P (dC, dI) classes [(a0, .inr (0, [.ref a1, .ref a2, .int (nI rc), .int (nI bg), .ref a3, .int (nI ss), .ref a4, .int (nI hs), .int up, .int (ch - n), .int wr]))] H := hP
      have hD : va_D A [(a0, .inr (0, [.ref a1, .ref a2, .int (nI rc), .int (nI bg), .ref a3, .int (nI ss), .ref a4, .int (nI hs), .int up, .int (ch - n), .int wr]))] := hD
      refine lv_aload_n hx hb d_BlockDesk_writeBlocks_38 rfl (lv_at hl 0 rfl) ?_
      refine lv_dup hx hb d_BlockDesk_writeBlocks_39 rfl ?_
      refine va_get (D := (dC, dI)) (ci := 0) (v := .int wr) (C := R_BlockDesk) (T := F_BlockDesk) (N := 11) hx hb hts hin0 hown hK hP 0 rfl rfl 10 (by decide) (hts (.fieldLink R_BlockDesk 79 "BlockDesk" "written" "I") (by decide +kernel)) (fun _ h9 => h9) rfl d_BlockDesk_writeBlocks_40 ?_
      refine lv_iload_n hx hb d_BlockDesk_writeBlocks_43 rfl (lv_at hl 1 rfl) ?_
      refine lv_iadd hx hb d_BlockDesk_writeBlocks_44 ?_
      refine va_put (D := (dC, dI)) (ci := 0) (v := .int (wr + n)) (ty := .int) (C := R_BlockDesk) (T := F_BlockDesk) (N := 11) hx hb hts hin0 t_BlockDesk t_BlockDesk_ok n_BlockDesk hown hK hP hD hS 0 rfl rfl 10 (by decide) (hts (.fieldLink R_BlockDesk 79 "BlockDesk" "written" "I") (by decide +kernel)) (fun _ h9 => h9) rfl (by decide +kernel) rfl rfl (Nat.le_of_ble_eq_true rfl) d_BlockDesk_writeBlocks_45 (fun H locs hP hD hS => ?_)
      have hP : va_P (dC, dI) classes [(a0, .inr (0, [.ref a1, .ref a2, .int (nI rc), .int (nI bg), .ref a3, .int (nI ss), .ref a4, .int (nI hs), .int up, .int (ch - n), .int (wr + n)]))] H := hP
      have hD : va_D A [(a0, .inr (0, [.ref a1, .ref a2, .int (nI rc), .int (nI bg), .ref a3, .int (nI ss), .ref a4, .int (nI hs), .int up, .int (ch - n), .int (wr + n)]))] := hD
      refine lv_iconst (v := nI 1) hx hb d_BlockDesk_writeBlocks_48 (by decide +kernel) ?_
      have hP9 := hP.sub (ws' := [(a0, .inr (0, [.ref a1, .ref a2, .int (nI rc), .int (nI bg), .ref a3, .int (nI ss), .ref a4, .int (nI hs), .int up, .int (ch - n), .int (wr + n)]))]) [0] rfl
      have hD9 := hD.sub (ws' := [(a0, .inr (0, [.ref a1, .ref a2, .int (nI rc), .int (nI bg), .ref a3, .int (nI ss), .ref a4, .int (nI hs), .int up, .int (ch - n), .int (wr + n)]))]) [0] (by decide) rfl
      have hK9 := hK.sub (tys' := []) [] rfl
      exact W.zret (v := nI 1) hx hb hr zq_nb1 (fun t ht hW => ⟨⟨nI 1, (up, hs, ch - n, wr + n), rfl, (zq_wb_c c_5 (fun h9 => c_25 (xq_lt.mp h9))).symm, by rw [ht]; exact hP9, va_K.moved hW.alike hK9, hD9⟩, hS.F ht⟩) hS.2.2 d_BlockDesk_writeBlocks_49
  · refine lv_aload_n hx hb d_BlockDesk_writeBlocks_8 rfl (lv_at hl 0 rfl) ?_
    refine lv_dup hx hb d_BlockDesk_writeBlocks_9 rfl ?_
    refine va_get (D := (dC, dI)) (ci := 0) (v := .int wr) (C := R_BlockDesk) (T := F_BlockDesk) (N := 11) hx hb hts hin0 hown hK hP 0 rfl rfl 10 (by decide) (hts (.fieldLink R_BlockDesk 79 "BlockDesk" "written" "I") (by decide +kernel)) (fun _ h9 => h9) rfl d_BlockDesk_writeBlocks_10 ?_
    refine lv_iload_n hx hb d_BlockDesk_writeBlocks_13 rfl (lv_at hl 1 rfl) ?_
    refine lv_iadd hx hb d_BlockDesk_writeBlocks_14 ?_
    refine va_put (D := (dC, dI)) (ci := 0) (v := .int (wr + n)) (ty := .int) (C := R_BlockDesk) (T := F_BlockDesk) (N := 11) hx hb hts hin0 t_BlockDesk t_BlockDesk_ok n_BlockDesk hown hK hP hD hS 0 rfl rfl 10 (by decide) (hts (.fieldLink R_BlockDesk 79 "BlockDesk" "written" "I") (by decide +kernel)) (fun _ h9 => h9) rfl (by decide +kernel) rfl rfl (Nat.le_of_ble_eq_true rfl) d_BlockDesk_writeBlocks_15 (fun H locs hP hD hS => ?_)
    have hP : va_P (dC, dI) classes [(a0, .inr (0, [.ref a1, .ref a2, .int (nI rc), .int (nI bg), .ref a3, .int (nI ss), .ref a4, .int (nI hs), .int up, .int ch, .int (wr + n)]))] H := hP
    have hD : va_D A [(a0, .inr (0, [.ref a1, .ref a2, .int (nI rc), .int (nI bg), .ref a3, .int (nI ss), .ref a4, .int (nI hs), .int up, .int ch, .int (wr + n)]))] := hD
    refine lv_iconst (v := nI 1) hx hb d_BlockDesk_writeBlocks_18 (by decide +kernel) ?_
    have hP9 := hP.sub (ws' := [(a0, .inr (0, [.ref a1, .ref a2, .int (nI rc), .int (nI bg), .ref a3, .int (nI ss), .ref a4, .int (nI hs), .int up, .int ch, .int (wr + n)]))]) [0] rfl
    have hD9 := hD.sub (ws' := [(a0, .inr (0, [.ref a1, .ref a2, .int (nI rc), .int (nI bg), .ref a3, .int (nI ss), .ref a4, .int (nI hs), .int up, .int ch, .int (wr + n)]))]) [0] (by decide) rfl
    have hK9 := hK.sub (tys' := []) [] rfl
    exact W.zret (v := nI 1) hx hb hr zq_nb1 (fun t ht hW => ⟨⟨nI 1, (up, hs, ch, wr + n), rfl, (zq_wb_a c_5).symm, by rw [ht]; exact hP9, va_K.moved hW.alike hK9, hD9⟩, hS.F ht⟩) hS.2.2 d_BlockDesk_writeBlocks_19
set_option maxHeartbeats 4000000 in
set_option maxRecDepth 100000 in
theorem c_BlockDesk_beginJournalAnew (l : Launch) (dC : Nat → ClassId) (dI : Nat → Nat → Nat) (sz : Nat) (a0 : Nat) (a1 : Nat) (a2 : Nat) (a3 : Nat) (a4 : Nat) (rc : Nat) (bg : Nat) (ss : Nat) (hs : Nat) (up : Int32) (ch : Int32) (wr : Int32) (k2 : ClassId) (nS : Nat) (tu : Nat) (f2 : Nat → Int32) (hrc : rc < nS) (hnS : nS ≤ 4001) (htu : f2 rc = nI tu) (htb : tu ≤ 16000) : Met l y_BlockDesk_beginJournalAnew w_BlockDesk_beginJournalAnew ({ frames := 1, cells := 0, slots := 0, locals := 22 }) (va_Pc [.ref a0] (fun U => U.heap.size = sz ∧ va_P (dC, dI) classes [(a0, .inr (0, [.ref a1, .ref a2, .int (nI rc), .int (nI bg), .ref a3, .int (nI ss), .ref a4, .int (nI hs), .int up, .int ch, .int wr])), (a2, .inl (k2, nS, .inl f2))] U.heap ∧ va_K (dC, dI) classes [(k2, .int)] U ∧ va_D (fun _ => True) [(a0, .inr (0, [.ref a1, .ref a2, .int (nI rc), .int (nI bg), .ref a3, .int (nI ss), .ref a4, .int (nI hs), .int up, .int ch, .int wr])), (a2, .inl (k2, nS, .inl f2))])) (va_Qv (fun (_ : Unit) => True) (fun (_ : Unit) (t : State) => va_P (dC, dI) classes [(a0, .inr (0, [.ref a1, .ref a2, .int (nI 0), .int (nI (bg + (tu + 500 - 1) / 500 * 500)), .ref a3, .int (nI ss), .ref a4, .int (nI hs), .int up, .int ch, .int wr])), (a2, .inl (k2, nS, .inl f2))] t.heap ∧ va_K (dC, dI) classes [(k2, .int)] t ∧ va_D (va_A [(a0, .inr (0, [.ref a1, .ref a2, .int (nI rc), .int (nI bg), .ref a3, .int (nI ss), .ref a4, .int (nI hs), .int up, .int ch, .int wr])), (a2, .inl (k2, nS, .inl f2))] sz) [(a0, .inr (0, [.ref a1, .ref a2, .int (nI 0), .int (nI (bg + (tu + 500 - 1) / 500 * 500)), .ref a3, .int (nI ss), .ref a4, .int (nI hs), .int up, .int ch, .int wr])), (a2, .inl (k2, nS, .inl f2))]) (va_A [(a0, .inr (0, [.ref a1, .ref a2, .int (nI rc), .int (nI bg), .ref a3, .int (nI ss), .ref a4, .int (nI hs), .int up, .int ch, .int wr])), (a2, .inl (k2, nS, .inl f2))] sz)) 0 0 (va_A [(a0, .inr (0, [.ref a1, .ref a2, .int (nI rc), .int (nI bg), .ref a3, .int (nI ss), .ref a4, .int (nI hs), .int up, .int ch, .int wr])), (a2, .inl (k2, nS, .inl f2))] sz) := by
  refine Met.ofW (cc := b_BlockDesk_beginJournalAnew) (maxL := 1) (ret := none) (by decide) rfl ?_
  intro p e s m args below meth c s₁ B hml hv
  obtain ⟨rfl, hsz, hP, hK, hD0⟩ := hv
  have hx := B.exec
  have hb := B.bytes
  have hr := B.returns
  have hts := atoms_spec (ws := w_BlockDesk_beginJournalAnew) B.pre
  have hown : s.vm.findClass R_BlockDesk = some m.cls := findClass_of_methodNamed B.named
  have hlocks := B.notSynchronized
  subst hsz
  have hD := hD0.self (sz := s.heap.size)
  generalize hAe : va_A [(a0, .inr (0, [.ref a1, .ref a2, .int (nI rc), .int (nI bg), .ref a3, .int (nI ss), .ref a4, .int (nI hs), .int up, .int ch, .int wr])), (a2, .inl (k2, nS, .inl f2))] s.heap.size = A at hD ⊢
  have hA : ∀ q : Nat, s.heap.size ≤ q → A q := fun q h => by rw [← hAe]; exact Or.inr h
  have hS : va_S A s.heap s.heap [] := va_S.rf
  have hP : va_P (dC, dI) classes [(a0, .inr (0, [.ref a1, .ref a2, .int (nI rc), .int (nI bg), .ref a3, .int (nI ss), .ref a4, .int (nI hs), .int up, .int ch, .int wr])), (a2, .inl (k2, nS, .inl f2))] s.heap := hP
  have hin0 : ∀ w ∈ u_ws R_BlockDesk F_BlockDesk 11, w ∈ w_BlockDesk_beginJournalAnew := by decide +kernel
  have hl := lv_entry ([.ref a0]) (n := 1) (Nat.le_of_ble_eq_true rfl)
  rw [lg_entry_eq]
  generalize (lg_sl ([.ref a0]) ++ List.replicate (1 - (lg_sl ([.ref a0])).length) Slot.unset).toArray = ls at hl ⊢
  have hl : lv_has ls 1 [(0, .ref a0)] := hl
  refine lv_aload_n hx hb d_BlockDesk_beginJournalAnew_0 rfl (lv_at hl 0 rfl) ?_
  refine lv_dup hx hb d_BlockDesk_beginJournalAnew_1 rfl ?_
  refine va_get (D := (dC, dI)) (ci := 0) (v := .int (nI bg)) (C := R_BlockDesk) (T := F_BlockDesk) (N := 11) hx hb hts hin0 hown hK hP 0 rfl rfl 3 (by decide) (hts (.fieldLink R_BlockDesk 82 "BlockDesk" "begin" "I") (by decide +kernel)) (fun _ h9 => h9) rfl d_BlockDesk_beginJournalAnew_2 ?_
  refine lv_aload_n hx hb d_BlockDesk_beginJournalAnew_5 rfl (lv_at hl 0 rfl) ?_
  have hPc := hP.sub (ws' := [(a0, .inr (0, [.ref a1, .ref a2, .int (nI rc), .int (nI bg), .ref a3, .int (nI ss), .ref a4, .int (nI hs), .int up, .int ch, .int wr])), (a2, .inl (k2, nS, .inl f2))]) [0, 1] rfl
  have hDc := hD.sub (ws' := [(a0, .inr (0, [.ref a1, .ref a2, .int (nI rc), .int (nI bg), .ref a3, .int (nI ss), .ref a4, .int (nI hs), .int up, .int ch, .int wr])), (a2, .inl (k2, nS, .inl f2))]) [0, 1] (by decide) rfl
  have hKc := hK.sub (tys' := [(k2, .int)]) [0] rfl
  have hFc := va_free (wc := [(a0, .inr (0, [.ref a1, .ref a2, .int (nI rc), .int (nI bg), .ref a3, .int (nI ss), .ref a4, .int (nI hs), .int up, .int ch, .int wr])), (a2, .inl (k2, nS, .inl f2))]) hD hS hA [0, 1] rfl
  refine va_calli (va_runV (As := []) (rest := [.int (nI bg), .ref a0]) ⟨hx, hb, hml, hown, hts⟩ (c_BlockDesk_usedPlaces l dC dI s.heap.size a0 a1 a2 a3 a4 rc bg ss hs up ch wr k2 nS f2 hrc hnS) (cwV 0 hts g_BlockDesk_beginJournalAnew_BlockDesk_usedPlaces rfl rfl rfl (by decide +kernel) ⟨Nat.le_of_ble_eq_true rfl, Nat.le_of_ble_eq_true rfl⟩) ⟨fun a U g mk q => by obtain ⟨q0, q1, qP, qK, qD⟩ := q; exact ⟨q0, q1, qP, va_K.moved (u := U) (U := U.calling g mk a) (Vm.Alike.refl U.vm) qK, qD⟩, va_recv hKc hPc (ci := 0) (q0 := 0) rfl rfl, fun U hU hW => ⟨rfl, by rw [hU], by rw [hU]; exact hPc, va_K.moved hW.alike hKc, hDc.weaken (fun _ _ _ _ => trivial)⟩⟩ rfl rfl hl.1 rfl (lv_room (Nat.le_of_ble_eq_true rfl)) d_BlockDesk_beginJournalAnew_6 ⟨(Nat.zero_le _), (Nat.zero_le _)⟩) hS (fun q _ h => hFc q h) hFc (fun r_6 u t H1 locs ht hvm hw hB hz1 hk1 hS => ?_)
  obtain ⟨hP1, hK1, hD1⟩ := hB
  rw [ht] at hP1
  try dsimp only at hw
  obtain ⟨hP, hD⟩ := va_join (wr := []) (w1 := [(a0, .inr (0, [.ref a1, .ref a2, .int (nI rc), .int (nI bg), .ref a3, .int (nI ss), .ref a4, .int (nI hs), .int up, .int ch, .int wr])), (a2, .inl (k2, nS, .inl f2))]) hP hD [0, 1] [] rfl rfl (by decide) (by decide) hk1 hFc hP1 hD1
  generalize H1 = H at hP hS ⊢
  have hP : va_P (dC, dI) classes [(a0, .inr (0, [.ref a1, .ref a2, .int (nI rc), .int (nI bg), .ref a3, .int (nI ss), .ref a4, .int (nI hs), .int up, .int ch, .int wr])), (a2, .inl (k2, nS, .inl f2))] H := hP
  have hD : va_D A [(a0, .inr (0, [.ref a1, .ref a2, .int (nI rc), .int (nI bg), .ref a3, .int (nI ss), .ref a4, .int (nI hs), .int up, .int ch, .int wr])), (a2, .inl (k2, nS, .inl f2))] := hD
  obtain rfl : r_6 = nI tu := hw.trans htu
  have hPc := hP.sub (ws' := []) [] rfl
  have hDc := hD.sub (ws' := []) [] (by decide) rfl
  have hKc := hK.sub (tys' := []) [] rfl
  have hFc := va_free (wc := []) hD hS hA [] rfl
  refine va_calli (va_runS (As := [.int (nI tu)]) (rest := [.int (nI bg), .ref a0]) ⟨hx, hb, hml, hown, hts⟩ (c_BlockDesk_blocksFor l dC dI H.size tu (by omega)) (va_cwS 1 hts g_BlockDesk_beginJournalAnew_BlockDesk_blocksFor rfl rfl rfl (by decide +kernel) ⟨Nat.le_of_ble_eq_true rfl, Nat.le_of_ble_eq_true rfl⟩) ⟨fun a U g mk q => by obtain ⟨q0, q1, qP, qK, qD⟩ := q; exact ⟨q0, q1, qP, va_K.moved (u := U) (U := U.calling g mk a) (Vm.Alike.refl U.vm) qK, qD⟩, fun U hU hW => ⟨rfl, by rw [hU], by rw [hU]; exact hPc, va_K.moved hW.alike hKc, hDc.weaken (fun _ _ _ _ => trivial)⟩⟩ rfl rfl hl.1 rfl (lv_room (Nat.le_of_ble_eq_true rfl)) d_BlockDesk_beginJournalAnew_9 ⟨(Nat.zero_le _), (Nat.zero_le _)⟩) hS (fun q _ h => hFc q h) hFc (fun r_9 u t H1 locs ht hvm hw hB hz1 hk1 hS => ?_)
  obtain ⟨hP1, hK1, hD1⟩ := hB
  rw [ht] at hP1
  try dsimp only at hw
  obtain ⟨hP, hD⟩ := va_join (wr := [(a0, .inr (0, [.ref a1, .ref a2, .int (nI rc), .int (nI bg), .ref a3, .int (nI ss), .ref a4, .int (nI hs), .int up, .int ch, .int wr])), (a2, .inl (k2, nS, .inl f2))]) (w1 := []) hP hD [] [0, 1] rfl rfl (by decide) (by decide) hk1 hFc hP1 hD1
  generalize H1 = H at hP hS ⊢
  have hP : va_P (dC, dI) classes [(a0, .inr (0, [.ref a1, .ref a2, .int (nI rc), .int (nI bg), .ref a3, .int (nI ss), .ref a4, .int (nI hs), .int up, .int ch, .int wr])), (a2, .inl (k2, nS, .inl f2))] H := hP
  have hD : va_D A [(a0, .inr (0, [.ref a1, .ref a2, .int (nI rc), .int (nI bg), .ref a3, .int (nI ss), .ref a4, .int (nI hs), .int up, .int ch, .int wr])), (a2, .inl (k2, nS, .inl f2))] := hD
  obtain rfl : r_9 = nI ((tu + 500 - 1) / 500) := hw
  refine lv_sipush (v := nI 500) hx hb d_BlockDesk_beginJournalAnew_12 (by decide +kernel) ?_
  refine lv_imul hx hb d_BlockDesk_beginJournalAnew_15 ?_
  refine xq_top (nI (((tu + 500 - 1) / 500) * 500)) (pk_mul _ _) ?_
  refine lv_iadd hx hb d_BlockDesk_beginJournalAnew_16 ?_
  refine xq_top (nI (bg + (((tu + 500 - 1) / 500) * 500))) (nI_add _ _) ?_
  refine va_put (D := (dC, dI)) (ci := 0) (v := .int (nI (bg + (((tu + 500 - 1) / 500) * 500)))) (ty := .int) (C := R_BlockDesk) (T := F_BlockDesk) (N := 11) hx hb hts hin0 t_BlockDesk t_BlockDesk_ok n_BlockDesk hown hK hP hD hS 0 rfl rfl 3 (by decide) (hts (.fieldLink R_BlockDesk 82 "BlockDesk" "begin" "I") (by decide +kernel)) (fun _ h9 => h9) rfl (by decide +kernel) rfl rfl (Nat.le_of_ble_eq_true rfl) d_BlockDesk_beginJournalAnew_17 (fun H locs hP hD hS => ?_)
  have hP : va_P (dC, dI) classes [(a0, .inr (0, [.ref a1, .ref a2, .int (nI rc), .int (nI (bg + (((tu + 500 - 1) / 500) * 500))), .ref a3, .int (nI ss), .ref a4, .int (nI hs), .int up, .int ch, .int wr])), (a2, .inl (k2, nS, .inl f2))] H := hP
  have hD : va_D A [(a0, .inr (0, [.ref a1, .ref a2, .int (nI rc), .int (nI (bg + (((tu + 500 - 1) / 500) * 500))), .ref a3, .int (nI ss), .ref a4, .int (nI hs), .int up, .int ch, .int wr])), (a2, .inl (k2, nS, .inl f2))] := hD
  refine lv_aload_n hx hb d_BlockDesk_beginJournalAnew_20 rfl (lv_at hl 0 rfl) ?_
  refine lv_iconst (v := nI 0) hx hb d_BlockDesk_beginJournalAnew_21 (by decide +kernel) ?_
  refine va_put (D := (dC, dI)) (ci := 0) (v := .int (nI 0)) (ty := .int) (C := R_BlockDesk) (T := F_BlockDesk) (N := 11) hx hb hts hin0 t_BlockDesk t_BlockDesk_ok n_BlockDesk hown hK hP hD hS 0 rfl rfl 2 (by decide) (hts (.fieldLink R_BlockDesk 57 "BlockDesk" "records" "I") (by decide +kernel)) (fun _ h9 => h9) rfl (by decide +kernel) rfl rfl (Nat.le_of_ble_eq_true rfl) d_BlockDesk_beginJournalAnew_22 (fun H locs hP hD hS => ?_)
  have hP : va_P (dC, dI) classes [(a0, .inr (0, [.ref a1, .ref a2, .int (nI 0), .int (nI (bg + (((tu + 500 - 1) / 500) * 500))), .ref a3, .int (nI ss), .ref a4, .int (nI hs), .int up, .int ch, .int wr])), (a2, .inl (k2, nS, .inl f2))] H := hP
  have hD : va_D A [(a0, .inr (0, [.ref a1, .ref a2, .int (nI 0), .int (nI (bg + (((tu + 500 - 1) / 500) * 500))), .ref a3, .int (nI ss), .ref a4, .int (nI hs), .int up, .int ch, .int wr])), (a2, .inl (k2, nS, .inl f2))] := hD
  have hP9 := hP.sub (ws' := [(a0, .inr (0, [.ref a1, .ref a2, .int (nI 0), .int (nI (bg + (((tu + 500 - 1) / 500) * 500))), .ref a3, .int (nI ss), .ref a4, .int (nI hs), .int up, .int ch, .int wr])), (a2, .inl (k2, nS, .inl f2))]) [0, 1] rfl
  have hD9 := hD.sub (ws' := [(a0, .inr (0, [.ref a1, .ref a2, .int (nI 0), .int (nI (bg + (((tu + 500 - 1) / 500) * 500))), .ref a3, .int (nI ss), .ref a4, .int (nI hs), .int up, .int ch, .int wr])), (a2, .inl (k2, nS, .inl f2))]) [0, 1] (by decide) rfl
  have hK9 := hK.sub (tys' := [(k2, .int)]) [0] rfl
  exact W.vret hx hb hr (fun t ht hW => ⟨⟨(), rfl, trivial, by rw [ht]; exact hP9, va_K.moved hW.alike hK9, hD9⟩, hS.F ht⟩) hS.2.2 d_BlockDesk_beginJournalAnew_25
end
section
set_option maxHeartbeats 4000000 in
set_option maxRecDepth 100000 in
theorem c_BlockDesk_cut (l : Launch) (dC : Nat → ClassId) (dI : Nat → Nat → Nat) (sz : Nat) (a0 : Nat) (a1 : Nat) (a2 : Nat) (a3 : Nat) (a4 : Nat) (rc : Nat) (bg : Nat) (ss : Nat) (hs : Nat) (up : Int32) (ch : Int32) (wr : Int32)  : Met l y_BlockDesk_cut w_BlockDesk_cut ({ frames := 1, cells := 0, slots := 0, locals := 22 }) (va_Pc [.ref a0] (fun U => U.heap.size = sz ∧ va_P (dC, dI) classes [(a0, .inr (0, [.ref a1, .ref a2, .int (nI rc), .int (nI bg), .ref a3, .int (nI ss), .ref a4, .int (nI hs), .int up, .int ch, .int wr]))] U.heap ∧ va_K (dC, dI) classes [] U ∧ va_D (fun _ => True) [(a0, .inr (0, [.ref a1, .ref a2, .int (nI rc), .int (nI bg), .ref a3, .int (nI ss), .ref a4, .int (nI hs), .int up, .int ch, .int wr]))])) (va_Qi (fun (r : Int32) (u : Int32 × Nat × Int32 × Int32) => (up = 0 ∧ r = nI 0 ∧ u = (up, hs, ch, wr)) ∨ (¬ up = 0 ∧ r = nI 1 ∧ u = (nI 0, 0, -1, wr))) (fun (u : Int32 × Nat × Int32 × Int32) (t : State) => match u with | (up', hs', ch', wr') => va_P (dC, dI) classes [(a0, .inr (0, [.ref a1, .ref a2, .int (nI rc), .int (nI bg), .ref a3, .int (nI ss), .ref a4, .int (nI hs'), .int up', .int ch', .int wr']))] t.heap ∧ va_K (dC, dI) classes [] t ∧ va_D (va_A [(a0, .inr (0, [.ref a1, .ref a2, .int (nI rc), .int (nI bg), .ref a3, .int (nI ss), .ref a4, .int (nI hs), .int up, .int ch, .int wr]))] sz) [(a0, .inr (0, [.ref a1, .ref a2, .int (nI rc), .int (nI bg), .ref a3, .int (nI ss), .ref a4, .int (nI hs'), .int up', .int ch', .int wr']))]) (va_A [(a0, .inr (0, [.ref a1, .ref a2, .int (nI rc), .int (nI bg), .ref a3, .int (nI ss), .ref a4, .int (nI hs), .int up, .int ch, .int wr]))] sz)) 0 0 (va_A [(a0, .inr (0, [.ref a1, .ref a2, .int (nI rc), .int (nI bg), .ref a3, .int (nI ss), .ref a4, .int (nI hs), .int up, .int ch, .int wr]))] sz) := by
  refine Met.ofW (cc := b_BlockDesk_cut) (maxL := 1) (ret := (some .boolean)) (by decide) rfl ?_
  intro p e s m args below meth c s₁ B hml hv
  obtain ⟨rfl, hsz, hP, hK, hD0⟩ := hv
  have hx := B.exec
  have hb := B.bytes
  have hr := B.returns
  have hts := atoms_spec (ws := w_BlockDesk_cut) B.pre
  have hown : s.vm.findClass R_BlockDesk = some m.cls := findClass_of_methodNamed B.named
  have hlocks := B.notSynchronized
  subst hsz
  have hD := hD0.self (sz := s.heap.size)
  generalize hAe : va_A [(a0, .inr (0, [.ref a1, .ref a2, .int (nI rc), .int (nI bg), .ref a3, .int (nI ss), .ref a4, .int (nI hs), .int up, .int ch, .int wr]))] s.heap.size = A at hD ⊢
  have hA : ∀ q : Nat, s.heap.size ≤ q → A q := fun q h => by rw [← hAe]; exact Or.inr h
  have hS : va_S A s.heap s.heap [] := va_S.rf
  have hP : va_P (dC, dI) classes [(a0, .inr (0, [.ref a1, .ref a2, .int (nI rc), .int (nI bg), .ref a3, .int (nI ss), .ref a4, .int (nI hs), .int up, .int ch, .int wr]))] s.heap := hP
  have hin0 : ∀ w ∈ u_ws R_BlockDesk F_BlockDesk 11, w ∈ w_BlockDesk_cut := by decide +kernel
  have hl := lv_entry ([.ref a0]) (n := 1) (Nat.le_of_ble_eq_true rfl)
  rw [lg_entry_eq]
  generalize (lg_sl ([.ref a0]) ++ List.replicate (1 - (lg_sl ([.ref a0])).length) Slot.unset).toArray = ls at hl ⊢
  have hl : lv_has ls 1 [(0, .ref a0)] := hl
  refine lv_aload_n hx hb d_BlockDesk_cut_0 rfl (lv_at hl 0 rfl) ?_
  refine va_get (D := (dC, dI)) (ci := 0) (v := .int up) (C := R_BlockDesk) (T := F_BlockDesk) (N := 11) hx hb hts hin0 hown hK hP 0 rfl rfl 8 (by decide) (hts (.fieldLink R_BlockDesk 23 "BlockDesk" "up" "Z") (by decide +kernel)) (fun _ h9 => h9) rfl d_BlockDesk_cut_1 ?_
  refine lv_if_ne (tgt := 9) hx hb d_BlockDesk_cut_4 (by decide) (fun c_4 => ?_) (fun c_4 => ?_)
  · refine lv_aload_n hx hb d_BlockDesk_cut_9 rfl (lv_at hl 0 rfl) ?_
    have hPc := hP.sub (ws' := [(a0, .inr (0, [.ref a1, .ref a2, .int (nI rc), .int (nI bg), .ref a3, .int (nI ss), .ref a4, .int (nI hs), .int up, .int ch, .int wr]))]) [0] rfl
    have hDc := hD.sub (ws' := [(a0, .inr (0, [.ref a1, .ref a2, .int (nI rc), .int (nI bg), .ref a3, .int (nI ss), .ref a4, .int (nI hs), .int up, .int ch, .int wr]))]) [0] (by decide) rfl
    have hKc := hK.sub (tys' := []) [] rfl
    have hFc := va_free (wc := [(a0, .inr (0, [.ref a1, .ref a2, .int (nI rc), .int (nI bg), .ref a3, .int (nI ss), .ref a4, .int (nI hs), .int up, .int ch, .int wr]))]) hD hS hA [0] rfl
    refine va_callv (va_runV (As := []) (rest := []) ⟨hx, hb, hml, hown, hts⟩ (c_BlockDesk_losePower l dC dI s.heap.size a0 a1 a2 a3 a4 rc bg ss hs up ch wr ) (cwV 0 hts g_BlockDesk_cut_BlockDesk_losePower rfl rfl rfl (by decide +kernel) ⟨Nat.le_of_ble_eq_true rfl, Nat.le_of_ble_eq_true rfl⟩) ⟨fun a U g mk q => by obtain ⟨q0, q1, qP, qK, qD⟩ := q; exact ⟨q0, q1, qP, va_K.moved (u := U) (U := U.calling g mk a) (Vm.Alike.refl U.vm) qK, qD⟩, va_recv hKc hPc (ci := 0) (q0 := 0) rfl rfl, fun U hU hW => ⟨rfl, by rw [hU], by rw [hU]; exact hPc, va_K.moved hW.alike hKc, hDc.weaken (fun _ _ _ _ => trivial)⟩⟩ rfl rfl hl.1 rfl (lv_room (Nat.le_of_ble_eq_true rfl)) d_BlockDesk_cut_10 ⟨(Nat.zero_le _), (Nat.zero_le _)⟩) hS (fun q _ h => hFc q h) hFc (fun u t H1 locs ht hvm hw hB hz1 hk1 hS => ?_)
    obtain ⟨hP1, hK1, hD1⟩ := hB
    rw [ht] at hP1
    try dsimp only at hw
    obtain ⟨hP, hD⟩ := va_join (wr := []) (w1 := [(a0, .inr (0, [.ref a1, .ref a2, .int (nI rc), .int (nI bg), .ref a3, .int (nI ss), .ref a4, .int (nI 0), .int (nI 0), .int (-1), .int wr]))]) hP hD [0] [] rfl rfl (by decide) (by decide) hk1 hFc hP1 hD1
    generalize H1 = H at hP hS ⊢
    have hP : va_P (dC, dI) classes [(a0, .inr (0, [.ref a1, .ref a2, .int (nI rc), .int (nI bg), .ref a3, .int (nI ss), .ref a4, .int (nI 0), .int (nI 0), .int (-1), .int wr]))] H := hP
    have hD : va_D A [(a0, .inr (0, [.ref a1, .ref a2, .int (nI rc), .int (nI bg), .ref a3, .int (nI ss), .ref a4, .int (nI 0), .int (nI 0), .int (-1), .int wr]))] := hD
    refine lv_iconst (v := nI 1) hx hb d_BlockDesk_cut_13 (by decide +kernel) ?_
    have hP9 := hP.sub (ws' := [(a0, .inr (0, [.ref a1, .ref a2, .int (nI rc), .int (nI bg), .ref a3, .int (nI ss), .ref a4, .int (nI 0), .int (nI 0), .int (-1), .int wr]))]) [0] rfl
    have hD9 := hD.sub (ws' := [(a0, .inr (0, [.ref a1, .ref a2, .int (nI rc), .int (nI bg), .ref a3, .int (nI ss), .ref a4, .int (nI 0), .int (nI 0), .int (-1), .int wr]))]) [0] (by decide) rfl
    have hK9 := hK.sub (tys' := []) [] rfl
    exact W.zret (v := nI 1) hx hb hr zq_nb1 (fun t ht hW => ⟨⟨nI 1, (nI 0, 0, (-1), wr), rfl, Or.inr ⟨c_4, rfl, rfl⟩, by rw [ht]; exact hP9, va_K.moved hW.alike hK9, hD9⟩, hS.F ht⟩) hS.2.2 d_BlockDesk_cut_14
  · refine lv_iconst (v := nI 0) hx hb d_BlockDesk_cut_7 (by decide +kernel) ?_
    have hP9 := hP.sub (ws' := [(a0, .inr (0, [.ref a1, .ref a2, .int (nI rc), .int (nI bg), .ref a3, .int (nI ss), .ref a4, .int (nI hs), .int up, .int ch, .int wr]))]) [0] rfl
    have hD9 := hD.sub (ws' := [(a0, .inr (0, [.ref a1, .ref a2, .int (nI rc), .int (nI bg), .ref a3, .int (nI ss), .ref a4, .int (nI hs), .int up, .int ch, .int wr]))]) [0] (by decide) rfl
    have hK9 := hK.sub (tys' := []) [] rfl
    exact W.zret (v := nI 0) hx hb hr zq_nb0 (fun t ht hW => ⟨⟨nI 0, (up, hs, ch, wr), rfl, Or.inl ⟨c_4, rfl, rfl⟩, by rw [ht]; exact hP9, va_K.moved hW.alike hK9, hD9⟩, hS.F ht⟩) hS.2.2 d_BlockDesk_cut_8
set_option maxHeartbeats 4000000 in
set_option maxRecDepth 100000 in
theorem c_BlockDesk_start (l : Launch) (dC : Nat → ClassId) (dI : Nat → Nat → Nat) (sz : Nat) (a0 : Nat) (a1 : Nat) (a2 : Nat) (a3 : Nat) (a4 : Nat) (rc : Nat) (bg : Nat) (ss : Nat) (hs : Nat) (up : Int32) (ch : Int32) (wr : Int32)  : Met l y_BlockDesk_start w_BlockDesk_start ({ frames := 2, cells := 0, slots := 0, locals := 46 }) (va_Pc [.ref a0] (fun U => U.heap.size = sz ∧ va_P (dC, dI) classes [(a0, .inr (0, [.ref a1, .ref a2, .int (nI rc), .int (nI bg), .ref a3, .int (nI ss), .ref a4, .int (nI hs), .int up, .int ch, .int wr]))] U.heap ∧ va_K (dC, dI) classes [] U ∧ va_D (fun _ => True) [(a0, .inr (0, [.ref a1, .ref a2, .int (nI rc), .int (nI bg), .ref a3, .int (nI ss), .ref a4, .int (nI hs), .int up, .int ch, .int wr]))])) (va_Qi (fun (r : Int32) (u : Int32 × Nat × Int32 × Int32) => (¬ up = 0 ∧ r = nI 0 ∧ u = (up, hs, ch, wr)) ∨ (up = 0 ∧ r = nI 2 ∧ (nI 0, u) = zq_wb up hs ch wr (nI 1)) ∨ (up = 0 ∧ r = nI 1 ∧ ∃ up1 : Int32, (nI 1, up1, u.2) = zq_wb up hs ch wr (nI 1) ∧ u.1 = nI 1)) (fun (u : Int32 × Nat × Int32 × Int32) (t : State) => match u with | (up', hs', ch', wr') => va_P (dC, dI) classes [(a0, .inr (0, [.ref a1, .ref a2, .int (nI rc), .int (nI bg), .ref a3, .int (nI ss), .ref a4, .int (nI hs'), .int up', .int ch', .int wr']))] t.heap ∧ va_K (dC, dI) classes [] t ∧ va_D (va_A [(a0, .inr (0, [.ref a1, .ref a2, .int (nI rc), .int (nI bg), .ref a3, .int (nI ss), .ref a4, .int (nI hs), .int up, .int ch, .int wr]))] sz) [(a0, .inr (0, [.ref a1, .ref a2, .int (nI rc), .int (nI bg), .ref a3, .int (nI ss), .ref a4, .int (nI hs'), .int up', .int ch', .int wr']))]) (va_A [(a0, .inr (0, [.ref a1, .ref a2, .int (nI rc), .int (nI bg), .ref a3, .int (nI ss), .ref a4, .int (nI hs), .int up, .int ch, .int wr]))] sz)) 0 0 (va_A [(a0, .inr (0, [.ref a1, .ref a2, .int (nI rc), .int (nI bg), .ref a3, .int (nI ss), .ref a4, .int (nI hs), .int up, .int ch, .int wr]))] sz) := by
  refine Met.ofW (cc := b_BlockDesk_start) (maxL := 1) (ret := (some .int)) (by decide) rfl ?_
  intro p e s m args below meth c s₁ B hml hv
  obtain ⟨rfl, hsz, hP, hK, hD0⟩ := hv
  have hx := B.exec
  have hb := B.bytes
  have hr := B.returns
  have hts := atoms_spec (ws := w_BlockDesk_start) B.pre
  have hown : s.vm.findClass R_BlockDesk = some m.cls := findClass_of_methodNamed B.named
  have hlocks := B.notSynchronized
  subst hsz
  have hD := hD0.self (sz := s.heap.size)
  generalize hAe : va_A [(a0, .inr (0, [.ref a1, .ref a2, .int (nI rc), .int (nI bg), .ref a3, .int (nI ss), .ref a4, .int (nI hs), .int up, .int ch, .int wr]))] s.heap.size = A at hD ⊢
  have hA : ∀ q : Nat, s.heap.size ≤ q → A q := fun q h => by rw [← hAe]; exact Or.inr h
  have hS : va_S A s.heap s.heap [] := va_S.rf
  have hP : va_P (dC, dI) classes [(a0, .inr (0, [.ref a1, .ref a2, .int (nI rc), .int (nI bg), .ref a3, .int (nI ss), .ref a4, .int (nI hs), .int up, .int ch, .int wr]))] s.heap := hP
  have hin0 : ∀ w ∈ u_ws R_BlockDesk F_BlockDesk 11, w ∈ w_BlockDesk_start := by decide +kernel
  have hl := lv_entry ([.ref a0]) (n := 1) (Nat.le_of_ble_eq_true rfl)
  rw [lg_entry_eq]
  generalize (lg_sl ([.ref a0]) ++ List.replicate (1 - (lg_sl ([.ref a0])).length) Slot.unset).toArray = ls at hl ⊢
  have hl : lv_has ls 1 [(0, .ref a0)] := hl
  refine lv_aload_n hx hb d_BlockDesk_start_0 rfl (lv_at hl 0 rfl) ?_
  refine va_get (D := (dC, dI)) (ci := 0) (v := .int up) (C := R_BlockDesk) (T := F_BlockDesk) (N := 11) hx hb hts hin0 hown hK hP 0 rfl rfl 8 (by decide) (hts (.fieldLink R_BlockDesk 23 "BlockDesk" "up" "Z") (by decide +kernel)) (fun _ h9 => h9) rfl d_BlockDesk_start_1 ?_
  refine lv_if_eq (tgt := 9) hx hb d_BlockDesk_start_4 (by decide) (fun c_4 => ?_) (fun c_4 => ?_)
  · refine lv_aload_n hx hb d_BlockDesk_start_9 rfl (lv_at hl 0 rfl) ?_
    refine lv_iconst (v := nI 1) hx hb d_BlockDesk_start_10 (by decide +kernel) ?_
    have hPc := hP.sub (ws' := [(a0, .inr (0, [.ref a1, .ref a2, .int (nI rc), .int (nI bg), .ref a3, .int (nI ss), .ref a4, .int (nI hs), .int up, .int ch, .int wr]))]) [0] rfl
    have hDc := hD.sub (ws' := [(a0, .inr (0, [.ref a1, .ref a2, .int (nI rc), .int (nI bg), .ref a3, .int (nI ss), .ref a4, .int (nI hs), .int up, .int ch, .int wr]))]) [0] (by decide) rfl
    have hKc := hK.sub (tys' := []) [] rfl
    have hFc := va_free (wc := [(a0, .inr (0, [.ref a1, .ref a2, .int (nI rc), .int (nI bg), .ref a3, .int (nI ss), .ref a4, .int (nI hs), .int up, .int ch, .int wr]))]) hD hS hA [0] rfl
    refine va_calli (va_runV (As := [.int (nI 1)]) (rest := []) ⟨hx, hb, hml, hown, hts⟩ (c_BlockDesk_writeBlocks l dC dI s.heap.size a0 a1 a2 a3 a4 rc bg ss hs up ch wr (nI 1) ) (cwV 1 hts g_BlockDesk_start_BlockDesk_writeBlocks rfl rfl rfl (by decide +kernel) ⟨Nat.le_of_ble_eq_true rfl, Nat.le_of_ble_eq_true rfl⟩) ⟨fun a U g mk q => by obtain ⟨q0, q1, qP, qK, qD⟩ := q; exact ⟨q0, q1, qP, va_K.moved (u := U) (U := U.calling g mk a) (Vm.Alike.refl U.vm) qK, qD⟩, va_recv hKc hPc (ci := 0) (q0 := 0) rfl rfl, fun U hU hW => ⟨rfl, by rw [hU], by rw [hU]; exact hPc, va_K.moved hW.alike hKc, hDc.weaken (fun _ _ _ _ => trivial)⟩⟩ rfl rfl hl.1 rfl (lv_room (Nat.le_of_ble_eq_true rfl)) d_BlockDesk_start_11 ⟨(Nat.zero_le _), (Nat.zero_le _)⟩) hS (fun q _ h => hFc q h) hFc (fun r_11 u t H1 locs ht hvm hw hB hz1 hk1 hS => ?_)
    obtain ⟨up1, hs1, ch1, wr1⟩ := u
    obtain ⟨hP1, hK1, hD1⟩ := hB
    rw [ht] at hP1
    try dsimp only at hw
    obtain ⟨hP, hD⟩ := va_join (wr := []) (w1 := [(a0, .inr (0, [.ref a1, .ref a2, .int (nI rc), .int (nI bg), .ref a3, .int (nI ss), .ref a4, .int (nI hs1), .int up1, .int ch1, .int wr1]))]) hP hD [0] [] rfl rfl (by decide) (by decide) hk1 hFc hP1 hD1
    generalize H1 = H at hP hS ⊢
    have hP : va_P (dC, dI) classes [(a0, .inr (0, [.ref a1, .ref a2, .int (nI rc), .int (nI bg), .ref a3, .int (nI ss), .ref a4, .int (nI hs1), .int up1, .int ch1, .int wr1]))] H := hP
    have hD : va_D A [(a0, .inr (0, [.ref a1, .ref a2, .int (nI rc), .int (nI bg), .ref a3, .int (nI ss), .ref a4, .int (nI hs1), .int up1, .int ch1, .int wr1]))] := hD
    rcases zq_wb_split hw with ⟨rfl, hw⟩ | ⟨rfl, hw⟩
    · have h8 : True := trivial
      refine lv_if_ne (tgt := 19) hx hb d_BlockDesk_start_14 (by decide) (fun c_14 => ?_) (fun c_14 => ?_)
      · exact absurd rfl c_14
      · refine lv_iconst (v := nI 2) hx hb d_BlockDesk_start_17 (by decide +kernel) ?_
        have hP9 := hP.sub (ws' := [(a0, .inr (0, [.ref a1, .ref a2, .int (nI rc), .int (nI bg), .ref a3, .int (nI ss), .ref a4, .int (nI hs1), .int up1, .int ch1, .int wr1]))]) [0] rfl
        have hD9 := hD.sub (ws' := [(a0, .inr (0, [.ref a1, .ref a2, .int (nI rc), .int (nI bg), .ref a3, .int (nI ss), .ref a4, .int (nI hs1), .int up1, .int ch1, .int wr1]))]) [0] (by decide) rfl
        have hK9 := hK.sub (tys' := []) [] rfl
        exact W.iret (v := nI 2) hx hb hr (fun t ht hW => ⟨⟨nI 2, (up1, hs1, ch1, wr1), rfl, Or.inr (Or.inl ⟨c_4, rfl, hw⟩), by rw [ht]; exact hP9, va_K.moved hW.alike hK9, hD9⟩, hS.F ht⟩) hS.2.2 d_BlockDesk_start_18
    · have h8 : True := trivial
      refine lv_if_ne (tgt := 19) hx hb d_BlockDesk_start_14 (by decide) (fun c_14 => ?_) (fun c_14 => ?_)
      · refine lv_aload_n hx hb d_BlockDesk_start_19 rfl (lv_at hl 0 rfl) ?_
        refine lv_iconst (v := nI 1) hx hb d_BlockDesk_start_20 (by decide +kernel) ?_
        refine va_put (D := (dC, dI)) (ci := 0) (v := .int (nI 1)) (ty := .boolean) (C := R_BlockDesk) (T := F_BlockDesk) (N := 11) hx hb hts hin0 t_BlockDesk t_BlockDesk_ok n_BlockDesk hown hK hP hD hS 0 rfl rfl 8 (by decide) (hts (.fieldLink R_BlockDesk 23 "BlockDesk" "up" "Z") (by decide +kernel)) (fun _ h9 => h9) rfl (by decide +kernel) zq_nb1 zq_fb1 (Nat.le_of_ble_eq_true rfl) d_BlockDesk_start_21 (fun H locs hP hD hS => ?_)
        have hP : va_P (dC, dI) classes [(a0, .inr (0, [.ref a1, .ref a2, .int (nI rc), .int (nI bg), .ref a3, .int (nI ss), .ref a4, .int (nI hs1), .int (nI 1), .int ch1, .int wr1]))] H := hP
        have hD : va_D A [(a0, .inr (0, [.ref a1, .ref a2, .int (nI rc), .int (nI bg), .ref a3, .int (nI ss), .ref a4, .int (nI hs1), .int (nI 1), .int ch1, .int wr1]))] := hD
        refine lv_iconst (v := nI 1) hx hb d_BlockDesk_start_24 (by decide +kernel) ?_
        have hP9 := hP.sub (ws' := [(a0, .inr (0, [.ref a1, .ref a2, .int (nI rc), .int (nI bg), .ref a3, .int (nI ss), .ref a4, .int (nI hs1), .int (nI 1), .int ch1, .int wr1]))]) [0] rfl
        have hD9 := hD.sub (ws' := [(a0, .inr (0, [.ref a1, .ref a2, .int (nI rc), .int (nI bg), .ref a3, .int (nI ss), .ref a4, .int (nI hs1), .int (nI 1), .int ch1, .int wr1]))]) [0] (by decide) rfl
        have hK9 := hK.sub (tys' := []) [] rfl
        exact W.iret (v := nI 1) hx hb hr (fun t ht hW => ⟨⟨nI 1, (nI 1, hs1, ch1, wr1), rfl, Or.inr (Or.inr ⟨c_4, rfl, up1, hw, rfl⟩), by rw [ht]; exact hP9, va_K.moved hW.alike hK9, hD9⟩, hS.F ht⟩) hS.2.2 d_BlockDesk_start_25
      · exact absurd c_14 (xq_n0 (by omega) (by omega))
  · refine lv_iconst (v := nI 0) hx hb d_BlockDesk_start_7 (by decide +kernel) ?_
    have hP9 := hP.sub (ws' := [(a0, .inr (0, [.ref a1, .ref a2, .int (nI rc), .int (nI bg), .ref a3, .int (nI ss), .ref a4, .int (nI hs), .int up, .int ch, .int wr]))]) [0] rfl
    have hD9 := hD.sub (ws' := [(a0, .inr (0, [.ref a1, .ref a2, .int (nI rc), .int (nI bg), .ref a3, .int (nI ss), .ref a4, .int (nI hs), .int up, .int ch, .int wr]))]) [0] (by decide) rfl
    have hK9 := hK.sub (tys' := []) [] rfl
    exact W.iret (v := nI 0) hx hb hr (fun t ht hW => ⟨⟨nI 0, (up, hs, ch, wr), rfl, Or.inl ⟨c_4, rfl, rfl⟩, by rw [ht]; exact hP9, va_K.moved hW.alike hK9, hD9⟩, hS.F ht⟩) hS.2.2 d_BlockDesk_start_8
set_option maxHeartbeats 4000000 in
set_option maxRecDepth 100000 in
theorem c_BlockDesk_charge (l : Launch) (dC : Nat → ClassId) (dI : Nat → Nat → Nat) (sz : Nat) (a0 : Nat) (a1 : Nat) (a2 : Nat) (a3 : Nat) (a4 : Nat) (rc : Nat) (bg : Nat) (ss : Nat) (hs : Nat) (up : Int32) (ch : Int32) (wr : Int32) (n : Int32)  : Met l y_BlockDesk_charge w_BlockDesk_charge ({ frames := 0, cells := 0, slots := 0, locals := 0 }) (va_Pc [.ref a0, .int n] (fun U => U.heap.size = sz ∧ va_P (dC, dI) classes [(a0, .inr (0, [.ref a1, .ref a2, .int (nI rc), .int (nI bg), .ref a3, .int (nI ss), .ref a4, .int (nI hs), .int up, .int ch, .int wr]))] U.heap ∧ va_K (dC, dI) classes [] U ∧ va_D (fun _ => True) [(a0, .inr (0, [.ref a1, .ref a2, .int (nI rc), .int (nI bg), .ref a3, .int (nI ss), .ref a4, .int (nI hs), .int up, .int ch, .int wr]))])) (va_Qi (fun (r : Int32) (u : Int32) => (0 ≤ n.toInt ∧ n.toInt ≤ 999 ∧ r = nI 1 ∧ u = n) ∨ (¬ (0 ≤ n.toInt ∧ n.toInt ≤ 999) ∧ r = nI 0 ∧ u = ch)) (fun (u : Int32) (t : State) => match u with | ch' => va_P (dC, dI) classes [(a0, .inr (0, [.ref a1, .ref a2, .int (nI rc), .int (nI bg), .ref a3, .int (nI ss), .ref a4, .int (nI hs), .int up, .int ch', .int wr]))] t.heap ∧ va_K (dC, dI) classes [] t ∧ va_D (va_A [(a0, .inr (0, [.ref a1, .ref a2, .int (nI rc), .int (nI bg), .ref a3, .int (nI ss), .ref a4, .int (nI hs), .int up, .int ch, .int wr]))] sz) [(a0, .inr (0, [.ref a1, .ref a2, .int (nI rc), .int (nI bg), .ref a3, .int (nI ss), .ref a4, .int (nI hs), .int up, .int ch', .int wr]))]) (va_A [(a0, .inr (0, [.ref a1, .ref a2, .int (nI rc), .int (nI bg), .ref a3, .int (nI ss), .ref a4, .int (nI hs), .int up, .int ch, .int wr]))] sz)) 0 0 (va_A [(a0, .inr (0, [.ref a1, .ref a2, .int (nI rc), .int (nI bg), .ref a3, .int (nI ss), .ref a4, .int (nI hs), .int up, .int ch, .int wr]))] sz) := by
  refine Met.ofW (cc := b_BlockDesk_charge) (maxL := 2) (ret := (some .boolean)) (by decide) rfl ?_
  intro p e s m args below meth c s₁ B hml hv
  obtain ⟨rfl, hsz, hP, hK, hD0⟩ := hv
  have hx := B.exec
  have hb := B.bytes
  have hr := B.returns
  have hts := atoms_spec (ws := w_BlockDesk_charge) B.pre
  have hown : s.vm.findClass R_BlockDesk = some m.cls := findClass_of_methodNamed B.named
  have hlocks := B.notSynchronized
  subst hsz
  have hD := hD0.self (sz := s.heap.size)
  generalize hAe : va_A [(a0, .inr (0, [.ref a1, .ref a2, .int (nI rc), .int (nI bg), .ref a3, .int (nI ss), .ref a4, .int (nI hs), .int up, .int ch, .int wr]))] s.heap.size = A at hD ⊢
  have hA : ∀ q : Nat, s.heap.size ≤ q → A q := fun q h => by rw [← hAe]; exact Or.inr h
  have hS : va_S A s.heap s.heap [] := va_S.rf
  have hP : va_P (dC, dI) classes [(a0, .inr (0, [.ref a1, .ref a2, .int (nI rc), .int (nI bg), .ref a3, .int (nI ss), .ref a4, .int (nI hs), .int up, .int ch, .int wr]))] s.heap := hP
  have hin0 : ∀ w ∈ u_ws R_BlockDesk F_BlockDesk 11, w ∈ w_BlockDesk_charge := by decide +kernel
  have hl := lv_entry ([.ref a0, .int n]) (n := 2) (Nat.le_of_ble_eq_true rfl)
  rw [lg_entry_eq]
  generalize (lg_sl ([.ref a0, .int n]) ++ List.replicate (2 - (lg_sl ([.ref a0, .int n])).length) Slot.unset).toArray = ls at hl ⊢
  have hl : lv_has ls 2 [(0, .ref a0), (1, .int n)] := hl
  refine lv_iload_n hx hb d_BlockDesk_charge_0 rfl (lv_at hl 1 rfl) ?_
  refine lv_if_lt (tgt := 11) hx hb d_BlockDesk_charge_1 (by decide) (fun c_1 => ?_) (fun c_1 => ?_)
  · have c_1 : n.toInt < 0 := xq_lt_0r.mp c_1
    refine lv_iconst (v := nI 0) hx hb d_BlockDesk_charge_11 (by decide +kernel) ?_
    have hP9 := hP.sub (ws' := [(a0, .inr (0, [.ref a1, .ref a2, .int (nI rc), .int (nI bg), .ref a3, .int (nI ss), .ref a4, .int (nI hs), .int up, .int ch, .int wr]))]) [0] rfl
    have hD9 := hD.sub (ws' := [(a0, .inr (0, [.ref a1, .ref a2, .int (nI rc), .int (nI bg), .ref a3, .int (nI ss), .ref a4, .int (nI hs), .int up, .int ch, .int wr]))]) [0] (by decide) rfl
    have hK9 := hK.sub (tys' := []) [] rfl
    exact W.zret (v := nI 0) hx hb hr zq_nb0 (fun t ht hW => ⟨⟨nI 0, ch, rfl, Or.inr ⟨by omega, rfl, rfl⟩, by rw [ht]; exact hP9, va_K.moved hW.alike hK9, hD9⟩, hS.F ht⟩) hS.2.2 d_BlockDesk_charge_12
  · have c_1 : ¬ (n.toInt < 0) := fun h9 => c_1 (xq_lt_0r.mpr h9)
    refine lv_iload_n hx hb d_BlockDesk_charge_4 rfl (lv_at hl 1 rfl) ?_
    refine lv_sipush (v := nI 999) hx hb d_BlockDesk_charge_5 (by decide +kernel) ?_
    refine lv_icmp_le (tgt := 13) hx hb d_BlockDesk_charge_8 (by decide) (fun c_8 => ?_) (fun c_8 => ?_)
    · have c_8 : n.toInt ≤ ((999 : Nat) : Int) := (xq_le_r (by omega)).mp c_8
      refine lv_aload_n hx hb d_BlockDesk_charge_13 rfl (lv_at hl 0 rfl) ?_
      refine lv_iload_n hx hb d_BlockDesk_charge_14 rfl (lv_at hl 1 rfl) ?_
      refine va_put (D := (dC, dI)) (ci := 0) (v := .int n) (ty := .int) (C := R_BlockDesk) (T := F_BlockDesk) (N := 11) hx hb hts hin0 t_BlockDesk t_BlockDesk_ok n_BlockDesk hown hK hP hD hS 0 rfl rfl 9 (by decide) (hts (.fieldLink R_BlockDesk 27 "BlockDesk" "charge" "I") (by decide +kernel)) (fun _ h9 => h9) rfl (by decide +kernel) rfl rfl (Nat.le_of_ble_eq_true rfl) d_BlockDesk_charge_15 (fun H locs hP hD hS => ?_)
      have hP : va_P (dC, dI) classes [(a0, .inr (0, [.ref a1, .ref a2, .int (nI rc), .int (nI bg), .ref a3, .int (nI ss), .ref a4, .int (nI hs), .int up, .int n, .int wr]))] H := hP
      have hD : va_D A [(a0, .inr (0, [.ref a1, .ref a2, .int (nI rc), .int (nI bg), .ref a3, .int (nI ss), .ref a4, .int (nI hs), .int up, .int n, .int wr]))] := hD
      refine lv_iconst (v := nI 1) hx hb d_BlockDesk_charge_18 (by decide +kernel) ?_
      have hP9 := hP.sub (ws' := [(a0, .inr (0, [.ref a1, .ref a2, .int (nI rc), .int (nI bg), .ref a3, .int (nI ss), .ref a4, .int (nI hs), .int up, .int n, .int wr]))]) [0] rfl
      have hD9 := hD.sub (ws' := [(a0, .inr (0, [.ref a1, .ref a2, .int (nI rc), .int (nI bg), .ref a3, .int (nI ss), .ref a4, .int (nI hs), .int up, .int n, .int wr]))]) [0] (by decide) rfl
      have hK9 := hK.sub (tys' := []) [] rfl
      exact W.zret (v := nI 1) hx hb hr zq_nb1 (fun t ht hW => ⟨⟨nI 1, n, rfl, Or.inl ⟨by omega, by omega, rfl, rfl⟩, by rw [ht]; exact hP9, va_K.moved hW.alike hK9, hD9⟩, hS.F ht⟩) hS.2.2 d_BlockDesk_charge_19
    · have c_8 : ¬ (n.toInt ≤ ((999 : Nat) : Int)) := fun h9 => c_8 ((xq_le_r (by omega)).mpr h9)
      refine lv_iconst (v := nI 0) hx hb d_BlockDesk_charge_11 (by decide +kernel) ?_
      have hP9 := hP.sub (ws' := [(a0, .inr (0, [.ref a1, .ref a2, .int (nI rc), .int (nI bg), .ref a3, .int (nI ss), .ref a4, .int (nI hs), .int up, .int ch, .int wr]))]) [0] rfl
      have hD9 := hD.sub (ws' := [(a0, .inr (0, [.ref a1, .ref a2, .int (nI rc), .int (nI bg), .ref a3, .int (nI ss), .ref a4, .int (nI hs), .int up, .int ch, .int wr]))]) [0] (by decide) rfl
      have hK9 := hK.sub (tys' := []) [] rfl
      exact W.zret (v := nI 0) hx hb hr zq_nb0 (fun t ht hW => ⟨⟨nI 0, ch, rfl, Or.inr ⟨by omega, rfl, rfl⟩, by rw [ht]; exact hP9, va_K.moved hW.alike hK9, hD9⟩, hS.F ht⟩) hS.2.2 d_BlockDesk_charge_12
set_option maxHeartbeats 4000000 in
set_option maxRecDepth 100000 in
theorem c_BlockDesk_size (l : Launch) (dC : Nat → ClassId) (dI : Nat → Nat → Nat) (sz : Nat) (a0 : Nat) (a1 : Nat) (a2 : Nat) (a3 : Nat) (a4 : Nat) (rc : Nat) (bg : Nat) (ss : Nat) (hs : Nat) (up : Int32) (ch : Int32) (wr : Int32) (k2 : ClassId) (nS : Nat) (f2 : Nat → Int32) (T : Nat → Nat) (k : Int32) (hrc : rc < nS) (hnS : nS ≤ 4001) (hT : ∀ z, z ≤ rc → f2 z = nI (T z)) (hM : ∀ z, z < rc → T z + 4 ≤ T (z + 1)) : Met l y_BlockDesk_size w_BlockDesk_size ({ frames := 0, cells := 0, slots := 0, locals := 0 }) (va_Pc [.ref a0, .int k] (fun U => U.heap.size = sz ∧ va_P (dC, dI) classes [(a0, .inr (0, [.ref a1, .ref a2, .int (nI rc), .int (nI bg), .ref a3, .int (nI ss), .ref a4, .int (nI hs), .int up, .int ch, .int wr])), (a2, .inl (k2, nS, .inl f2))] U.heap ∧ va_K (dC, dI) classes [(k2, .int)] U ∧ va_D (fun _ => True) [(a0, .inr (0, [.ref a1, .ref a2, .int (nI rc), .int (nI bg), .ref a3, .int (nI ss), .ref a4, .int (nI hs), .int up, .int ch, .int wr])), (a2, .inl (k2, nS, .inl f2))])) (va_Qi (fun (r : Int32) (_ : Unit) => r = zq_szS up rc ss T k) (fun (_ : Unit) (t : State) => va_P (dC, dI) classes [(a0, .inr (0, [.ref a1, .ref a2, .int (nI rc), .int (nI bg), .ref a3, .int (nI ss), .ref a4, .int (nI hs), .int up, .int ch, .int wr])), (a2, .inl (k2, nS, .inl f2))] t.heap ∧ va_K (dC, dI) classes [(k2, .int)] t ∧ va_D (va_A [(a0, .inr (0, [.ref a1, .ref a2, .int (nI rc), .int (nI bg), .ref a3, .int (nI ss), .ref a4, .int (nI hs), .int up, .int ch, .int wr])), (a2, .inl (k2, nS, .inl f2))] sz) [(a0, .inr (0, [.ref a1, .ref a2, .int (nI rc), .int (nI bg), .ref a3, .int (nI ss), .ref a4, .int (nI hs), .int up, .int ch, .int wr])), (a2, .inl (k2, nS, .inl f2))]) (va_A [(a0, .inr (0, [.ref a1, .ref a2, .int (nI rc), .int (nI bg), .ref a3, .int (nI ss), .ref a4, .int (nI hs), .int up, .int ch, .int wr])), (a2, .inl (k2, nS, .inl f2))] sz)) 0 0 (va_A [(a0, .inr (0, [.ref a1, .ref a2, .int (nI rc), .int (nI bg), .ref a3, .int (nI ss), .ref a4, .int (nI hs), .int up, .int ch, .int wr])), (a2, .inl (k2, nS, .inl f2))] sz) := by
  refine Met.ofW (cc := b_BlockDesk_size) (maxL := 2) (ret := (some .int)) (by decide) rfl ?_
  intro p e s m args below meth c s₁ B hml hv
  obtain ⟨rfl, hsz, hP, hK, hD0⟩ := hv
  have hx := B.exec
  have hb := B.bytes
  have hr := B.returns
  have hts := atoms_spec (ws := w_BlockDesk_size) B.pre
  have hown : s.vm.findClass R_BlockDesk = some m.cls := findClass_of_methodNamed B.named
  have hlocks := B.notSynchronized
  subst hsz
  have hD := hD0.self (sz := s.heap.size)
  generalize hAe : va_A [(a0, .inr (0, [.ref a1, .ref a2, .int (nI rc), .int (nI bg), .ref a3, .int (nI ss), .ref a4, .int (nI hs), .int up, .int ch, .int wr])), (a2, .inl (k2, nS, .inl f2))] s.heap.size = A at hD ⊢
  have hA : ∀ q : Nat, s.heap.size ≤ q → A q := fun q h => by rw [← hAe]; exact Or.inr h
  have hS : va_S A s.heap s.heap [] := va_S.rf
  have hP : va_P (dC, dI) classes [(a0, .inr (0, [.ref a1, .ref a2, .int (nI rc), .int (nI bg), .ref a3, .int (nI ss), .ref a4, .int (nI hs), .int up, .int ch, .int wr])), (a2, .inl (k2, nS, .inl f2))] s.heap := hP
  have hin0 : ∀ w ∈ u_ws R_BlockDesk F_BlockDesk 11, w ∈ w_BlockDesk_size := by decide +kernel
  have hl := lv_entry ([.ref a0, .int k]) (n := 2) (Nat.le_of_ble_eq_true rfl)
  rw [lg_entry_eq]
  generalize (lg_sl ([.ref a0, .int k]) ++ List.replicate (2 - (lg_sl ([.ref a0, .int k])).length) Slot.unset).toArray = ls at hl ⊢
  have hl : lv_has ls 2 [(0, .ref a0), (1, .int k)] := hl
  refine lv_aload_n hx hb d_BlockDesk_size_0 rfl (lv_at hl 0 rfl) ?_
  refine va_get (D := (dC, dI)) (ci := 0) (v := .int up) (C := R_BlockDesk) (T := F_BlockDesk) (N := 11) hx hb hts hin0 hown hK hP 0 rfl rfl 8 (by decide) (hts (.fieldLink R_BlockDesk 23 "BlockDesk" "up" "Z") (by decide +kernel)) (fun _ h9 => h9) rfl d_BlockDesk_size_1 ?_
  refine lv_if_eq (tgt := 20) hx hb d_BlockDesk_size_4 (by decide) (fun c_4 => ?_) (fun c_4 => ?_)
  · refine lv_iconst (v := (-1)) hx hb d_BlockDesk_size_20 (by decide +kernel) ?_
    have hP9 := hP.sub (ws' := [(a0, .inr (0, [.ref a1, .ref a2, .int (nI rc), .int (nI bg), .ref a3, .int (nI ss), .ref a4, .int (nI hs), .int up, .int ch, .int wr])), (a2, .inl (k2, nS, .inl f2))]) [0, 1] rfl
    have hD9 := hD.sub (ws' := [(a0, .inr (0, [.ref a1, .ref a2, .int (nI rc), .int (nI bg), .ref a3, .int (nI ss), .ref a4, .int (nI hs), .int up, .int ch, .int wr])), (a2, .inl (k2, nS, .inl f2))]) [0, 1] (by decide) rfl
    have hK9 := hK.sub (tys' := [(k2, .int)]) [0] rfl
    exact W.iret (v := (-1)) hx hb hr (fun t ht hW => ⟨⟨(-1), (), rfl, zq_szS_a (by first | exact Or.inl c_4 | exact Or.inr (by omega)), by rw [ht]; exact hP9, va_K.moved hW.alike hK9, hD9⟩, hS.F ht⟩) hS.2.2 d_BlockDesk_size_21
  · refine lv_iload_n hx hb d_BlockDesk_size_7 rfl (lv_at hl 1 rfl) ?_
    refine lv_iconst (v := (-1)) hx hb d_BlockDesk_size_8 (by decide +kernel) ?_
    refine lv_icmp_lt (tgt := 20) hx hb d_BlockDesk_size_9 (by decide) (fun c_9 => ?_) (fun c_9 => ?_)
    · have c_9 : k.toInt < -1 := xq_lt_mr.mp c_9
      refine lv_iconst (v := (-1)) hx hb d_BlockDesk_size_20 (by decide +kernel) ?_
      have hP9 := hP.sub (ws' := [(a0, .inr (0, [.ref a1, .ref a2, .int (nI rc), .int (nI bg), .ref a3, .int (nI ss), .ref a4, .int (nI hs), .int up, .int ch, .int wr])), (a2, .inl (k2, nS, .inl f2))]) [0, 1] rfl
      have hD9 := hD.sub (ws' := [(a0, .inr (0, [.ref a1, .ref a2, .int (nI rc), .int (nI bg), .ref a3, .int (nI ss), .ref a4, .int (nI hs), .int up, .int ch, .int wr])), (a2, .inl (k2, nS, .inl f2))]) [0, 1] (by decide) rfl
      have hK9 := hK.sub (tys' := [(k2, .int)]) [0] rfl
      exact W.iret (v := (-1)) hx hb hr (fun t ht hW => ⟨⟨(-1), (), rfl, zq_szS_a (by first | exact Or.inl c_4 | exact Or.inr (by omega)), by rw [ht]; exact hP9, va_K.moved hW.alike hK9, hD9⟩, hS.F ht⟩) hS.2.2 d_BlockDesk_size_21
    · have c_9 : ¬ (k.toInt < -1) := fun h9 => c_9 (xq_lt_mr.mpr h9)
      refine lv_iload_n hx hb d_BlockDesk_size_12 rfl (lv_at hl 1 rfl) ?_
      refine lv_aload_n hx hb d_BlockDesk_size_13 rfl (lv_at hl 0 rfl) ?_
      refine va_get (D := (dC, dI)) (ci := 0) (v := .int (nI rc)) (C := R_BlockDesk) (T := F_BlockDesk) (N := 11) hx hb hts hin0 hown hK hP 0 rfl rfl 2 (by decide) (hts (.fieldLink R_BlockDesk 57 "BlockDesk" "records" "I") (by decide +kernel)) (fun _ h9 => h9) rfl d_BlockDesk_size_14 ?_
      refine lv_icmp_lt (tgt := 22) hx hb d_BlockDesk_size_17 (by decide) (fun c_17 => ?_) (fun c_17 => ?_)
      · have c_17 : k.toInt < ((rc : Nat) : Int) := (xq_lt_r (by omega)).mp c_17
        refine lv_iload_n hx hb d_BlockDesk_size_22 rfl (lv_at hl 1 rfl) ?_
        refine lv_iconst (v := (-1)) hx hb d_BlockDesk_size_23 (by decide +kernel) ?_
        refine lv_icmp_ne (tgt := 32) hx hb d_BlockDesk_size_24 (by decide) (fun c_24 => ?_) (fun c_24 => ?_)
        · obtain ⟨kk, hkk, rfl⟩ := zq_szS_ix c_9 c_24 c_17
          have hM1 := hM kk hkk
          have hl : lv_has ls 2 [(0, .ref a0), (1, .int (nI kk))] := hl
          refine lv_aload_n hx hb d_BlockDesk_size_32 rfl (lv_at hl 0 rfl) ?_
          refine va_get (D := (dC, dI)) (ci := 0) (v := .ref a2) (C := R_BlockDesk) (T := F_BlockDesk) (N := 11) hx hb hts hin0 hown hK hP 0 rfl rfl 1 (by decide) (hts (.fieldLink R_BlockDesk 13 "BlockDesk" "starts" "[I") (by decide +kernel)) (fun _ h9 => h9) rfl d_BlockDesk_size_33 ?_
          refine lv_iload_n hx hb d_BlockDesk_size_36 rfl (lv_at hl 1 rfl) ?_
          refine lv_iconst (v := nI 1) hx hb d_BlockDesk_size_37 (by decide +kernel) ?_
          refine lv_iadd hx hb d_BlockDesk_size_38 ?_
          refine xq_top (nI (kk + 1)) (nI_add _ _) ?_
          refine va_iald hx hb hK hP 1 0 rfl rfl (vp_in_nI (by omega) (by omega)) d_BlockDesk_size_39 ?_
          refine xq_top (nI (T (kk + 1))) (by rw [nI_clamp (by omega)]; exact hT _ (by omega)) ?_
          refine lv_aload_n hx hb d_BlockDesk_size_40 rfl (lv_at hl 0 rfl) ?_
          refine va_get (D := (dC, dI)) (ci := 0) (v := .ref a2) (C := R_BlockDesk) (T := F_BlockDesk) (N := 11) hx hb hts hin0 hown hK hP 0 rfl rfl 1 (by decide) (hts (.fieldLink R_BlockDesk 13 "BlockDesk" "starts" "[I") (by decide +kernel)) (fun _ h9 => h9) rfl d_BlockDesk_size_41 ?_
          refine lv_iload_n hx hb d_BlockDesk_size_44 rfl (lv_at hl 1 rfl) ?_
          refine va_iald hx hb hK hP 1 0 rfl rfl (vp_in_nI (by omega) (by omega)) d_BlockDesk_size_45 ?_
          refine xq_top (nI (T kk)) (by rw [nI_clamp (by omega)]; exact hT _ (by omega)) ?_
          refine lv_isub hx hb d_BlockDesk_size_46 ?_
          refine xq_top (nI (T (kk + 1) - (T kk))) (pk_sub (by omega)) ?_
          refine lv_iconst (v := nI 4) hx hb d_BlockDesk_size_47 (by decide +kernel) ?_
          refine lv_isub hx hb d_BlockDesk_size_48 ?_
          refine xq_top (nI (T (kk + 1) - (T kk) - 4)) (pk_sub (by omega)) ?_
          have hP9 := hP.sub (ws' := [(a0, .inr (0, [.ref a1, .ref a2, .int (nI rc), .int (nI bg), .ref a3, .int (nI ss), .ref a4, .int (nI hs), .int up, .int ch, .int wr])), (a2, .inl (k2, nS, .inl f2))]) [0, 1] rfl
          have hD9 := hD.sub (ws' := [(a0, .inr (0, [.ref a1, .ref a2, .int (nI rc), .int (nI bg), .ref a3, .int (nI ss), .ref a4, .int (nI hs), .int up, .int ch, .int wr])), (a2, .inl (k2, nS, .inl f2))]) [0, 1] (by decide) rfl
          have hK9 := hK.sub (tys' := [(k2, .int)]) [0] rfl
          exact W.iret (v := nI (T (kk + 1) - (T kk) - 4)) hx hb hr (fun t ht hW => ⟨⟨nI (T (kk + 1) - (T kk) - 4), (), rfl, zq_szS_c c_4 hkk (by omega), by rw [ht]; exact hP9, va_K.moved hW.alike hK9, hD9⟩, hS.F ht⟩) hS.2.2 d_BlockDesk_size_49
        · refine lv_aload_n hx hb d_BlockDesk_size_27 rfl (lv_at hl 0 rfl) ?_
          refine va_get (D := (dC, dI)) (ci := 0) (v := .int (nI ss)) (C := R_BlockDesk) (T := F_BlockDesk) (N := 11) hx hb hts hin0 hown hK hP 0 rfl rfl 5 (by decide) (hts (.fieldLink R_BlockDesk 73 "BlockDesk" "snapshotSize" "I") (by decide +kernel)) (fun _ h9 => h9) rfl d_BlockDesk_size_28 ?_
          have hP9 := hP.sub (ws' := [(a0, .inr (0, [.ref a1, .ref a2, .int (nI rc), .int (nI bg), .ref a3, .int (nI ss), .ref a4, .int (nI hs), .int up, .int ch, .int wr])), (a2, .inl (k2, nS, .inl f2))]) [0, 1] rfl
          have hD9 := hD.sub (ws' := [(a0, .inr (0, [.ref a1, .ref a2, .int (nI rc), .int (nI bg), .ref a3, .int (nI ss), .ref a4, .int (nI hs), .int up, .int ch, .int wr])), (a2, .inl (k2, nS, .inl f2))]) [0, 1] (by decide) rfl
          have hK9 := hK.sub (tys' := [(k2, .int)]) [0] rfl
          exact W.iret (v := nI ss) hx hb hr (fun t ht hW => ⟨⟨nI ss, (), rfl, zq_szS_b c_4 c_24, by rw [ht]; exact hP9, va_K.moved hW.alike hK9, hD9⟩, hS.F ht⟩) hS.2.2 d_BlockDesk_size_31
      · have c_17 : ¬ (k.toInt < ((rc : Nat) : Int)) := fun h9 => c_17 ((xq_lt_r (by omega)).mpr h9)
        refine lv_iconst (v := (-1)) hx hb d_BlockDesk_size_20 (by decide +kernel) ?_
        have hP9 := hP.sub (ws' := [(a0, .inr (0, [.ref a1, .ref a2, .int (nI rc), .int (nI bg), .ref a3, .int (nI ss), .ref a4, .int (nI hs), .int up, .int ch, .int wr])), (a2, .inl (k2, nS, .inl f2))]) [0, 1] rfl
        have hD9 := hD.sub (ws' := [(a0, .inr (0, [.ref a1, .ref a2, .int (nI rc), .int (nI bg), .ref a3, .int (nI ss), .ref a4, .int (nI hs), .int up, .int ch, .int wr])), (a2, .inl (k2, nS, .inl f2))]) [0, 1] (by decide) rfl
        have hK9 := hK.sub (tys' := [(k2, .int)]) [0] rfl
        exact W.iret (v := (-1)) hx hb hr (fun t ht hW => ⟨⟨(-1), (), rfl, zq_szS_a (by first | exact Or.inl c_4 | exact Or.inr (by omega)), by rw [ht]; exact hP9, va_K.moved hW.alike hK9, hD9⟩, hS.F ht⟩) hS.2.2 d_BlockDesk_size_21
set_option maxHeartbeats 4000000 in
set_option maxRecDepth 100000 in
theorem c_BlockDesk_byteOf (l : Launch) (dC : Nat → ClassId) (dI : Nat → Nat → Nat) (sz : Nat) (a0 : Nat) (a1 : Nat) (a2 : Nat) (a3 : Nat) (a4 : Nat) (rc : Nat) (bg : Nat) (ss : Nat) (hs : Nat) (up : Int32) (ch : Int32) (wr : Int32) (k2 : ClassId) (nS : Nat) (f2 : Nat → Int32) (T : Nat → Nat) (k1 : ClassId) (k3 : ClassId) (nJ : Nat) (f1 : Nat → Int32) (f3 : Nat → Int32) (gp : Nat → Int32) (gb : Nat → Int32) (k : Int32) (i : Int32) (hrc : rc < nS) (hnS : nS ≤ 4001) (hT : ∀ z, z ≤ rc → f2 z = nI (T z)) (hM : ∀ z, z < rc → T z + 4 ≤ T (z + 1)) (hss : ss ≤ 8000) (hTb : ∀ z, z ≤ rc → T z ≤ 16000) (hTj : ∀ z, z ≤ rc → T z ≤ nJ) (hnJ : nJ ≤ 16000) (hp : ∀ z, z < ss → f3 z &&& nI 255 = gp z) (hj : ∀ k, k < rc → ∀ z, T k + 4 + z < T (k + 1) → f1 (T k + 4 + z) &&& nI 255 = gb (T k - 4 * k + z)) : Met l y_BlockDesk_byteOf w_BlockDesk_byteOf ({ frames := 1, cells := 0, slots := 0, locals := 22 }) (va_Pc [.ref a0, .int k, .int i] (fun U => U.heap.size = sz ∧ va_P (dC, dI) classes [(a0, .inr (0, [.ref a1, .ref a2, .int (nI rc), .int (nI bg), .ref a3, .int (nI ss), .ref a4, .int (nI hs), .int up, .int ch, .int wr])), (a1, .inl (k1, nJ, .inl f1)), (a2, .inl (k2, nS, .inl f2)), (a3, .inl (k3, 8000, .inl f3))] U.heap ∧ va_K (dC, dI) classes [(k1, .byte), (k2, .int), (k3, .byte)] U ∧ va_D (fun _ => True) [(a0, .inr (0, [.ref a1, .ref a2, .int (nI rc), .int (nI bg), .ref a3, .int (nI ss), .ref a4, .int (nI hs), .int up, .int ch, .int wr])), (a1, .inl (k1, nJ, .inl f1)), (a2, .inl (k2, nS, .inl f2)), (a3, .inl (k3, 8000, .inl f3))])) (va_Qi (fun (r : Int32) (_ : Unit) => r = zq_btS up rc ss T gp gb k i) (fun (_ : Unit) (t : State) => va_P (dC, dI) classes [(a0, .inr (0, [.ref a1, .ref a2, .int (nI rc), .int (nI bg), .ref a3, .int (nI ss), .ref a4, .int (nI hs), .int up, .int ch, .int wr])), (a1, .inl (k1, nJ, .inl f1)), (a2, .inl (k2, nS, .inl f2)), (a3, .inl (k3, 8000, .inl f3))] t.heap ∧ va_K (dC, dI) classes [(k1, .byte), (k2, .int), (k3, .byte)] t ∧ va_D (va_A [(a0, .inr (0, [.ref a1, .ref a2, .int (nI rc), .int (nI bg), .ref a3, .int (nI ss), .ref a4, .int (nI hs), .int up, .int ch, .int wr])), (a1, .inl (k1, nJ, .inl f1)), (a2, .inl (k2, nS, .inl f2)), (a3, .inl (k3, 8000, .inl f3))] sz) [(a0, .inr (0, [.ref a1, .ref a2, .int (nI rc), .int (nI bg), .ref a3, .int (nI ss), .ref a4, .int (nI hs), .int up, .int ch, .int wr])), (a1, .inl (k1, nJ, .inl f1)), (a2, .inl (k2, nS, .inl f2)), (a3, .inl (k3, 8000, .inl f3))]) (va_A [(a0, .inr (0, [.ref a1, .ref a2, .int (nI rc), .int (nI bg), .ref a3, .int (nI ss), .ref a4, .int (nI hs), .int up, .int ch, .int wr])), (a1, .inl (k1, nJ, .inl f1)), (a2, .inl (k2, nS, .inl f2)), (a3, .inl (k3, 8000, .inl f3))] sz)) 0 0 (va_A [(a0, .inr (0, [.ref a1, .ref a2, .int (nI rc), .int (nI bg), .ref a3, .int (nI ss), .ref a4, .int (nI hs), .int up, .int ch, .int wr])), (a1, .inl (k1, nJ, .inl f1)), (a2, .inl (k2, nS, .inl f2)), (a3, .inl (k3, 8000, .inl f3))] sz) := by
  refine Met.ofW (cc := b_BlockDesk_byteOf) (maxL := 4) (ret := (some .int)) (by decide) rfl ?_
  intro p e s m args below meth c s₁ B hml hv
  obtain ⟨rfl, hsz, hP, hK, hD0⟩ := hv
  have hx := B.exec
  have hb := B.bytes
  have hr := B.returns
  have hts := atoms_spec (ws := w_BlockDesk_byteOf) B.pre
  have hown : s.vm.findClass R_BlockDesk = some m.cls := findClass_of_methodNamed B.named
  have hlocks := B.notSynchronized
  subst hsz
  have hD := hD0.self (sz := s.heap.size)
  generalize hAe : va_A [(a0, .inr (0, [.ref a1, .ref a2, .int (nI rc), .int (nI bg), .ref a3, .int (nI ss), .ref a4, .int (nI hs), .int up, .int ch, .int wr])), (a1, .inl (k1, nJ, .inl f1)), (a2, .inl (k2, nS, .inl f2)), (a3, .inl (k3, 8000, .inl f3))] s.heap.size = A at hD ⊢
  have hA : ∀ q : Nat, s.heap.size ≤ q → A q := fun q h => by rw [← hAe]; exact Or.inr h
  have hS : va_S A s.heap s.heap [] := va_S.rf
  have hP : va_P (dC, dI) classes [(a0, .inr (0, [.ref a1, .ref a2, .int (nI rc), .int (nI bg), .ref a3, .int (nI ss), .ref a4, .int (nI hs), .int up, .int ch, .int wr])), (a1, .inl (k1, nJ, .inl f1)), (a2, .inl (k2, nS, .inl f2)), (a3, .inl (k3, 8000, .inl f3))] s.heap := hP
  have hin0 : ∀ w ∈ u_ws R_BlockDesk F_BlockDesk 11, w ∈ w_BlockDesk_byteOf := by decide +kernel
  have hl := lv_entry ([.ref a0, .int k, .int i]) (n := 4) (Nat.le_of_ble_eq_true rfl)
  rw [lg_entry_eq]
  generalize (lg_sl ([.ref a0, .int k, .int i]) ++ List.replicate (4 - (lg_sl ([.ref a0, .int k, .int i])).length) Slot.unset).toArray = ls at hl ⊢
  have hl : lv_has ls 4 [(0, .ref a0), (1, .int k), (2, .int i)] := hl
  refine lv_iload_n hx hb d_BlockDesk_byteOf_0 rfl (lv_at hl 2 rfl) ?_
  refine lv_if_lt (tgt := 13) hx hb d_BlockDesk_byteOf_1 (by decide) (fun c_1 => ?_) (fun c_1 => ?_)
  · have c_1 : i.toInt < 0 := xq_lt_0r.mp c_1
    refine lv_iconst (v := (-1)) hx hb d_BlockDesk_byteOf_13 (by decide +kernel) ?_
    have hP9 := hP.sub (ws' := [(a0, .inr (0, [.ref a1, .ref a2, .int (nI rc), .int (nI bg), .ref a3, .int (nI ss), .ref a4, .int (nI hs), .int up, .int ch, .int wr])), (a1, .inl (k1, nJ, .inl f1)), (a2, .inl (k2, nS, .inl f2)), (a3, .inl (k3, 8000, .inl f3))]) [0, 1, 2, 3] rfl
    have hD9 := hD.sub (ws' := [(a0, .inr (0, [.ref a1, .ref a2, .int (nI rc), .int (nI bg), .ref a3, .int (nI ss), .ref a4, .int (nI hs), .int up, .int ch, .int wr])), (a1, .inl (k1, nJ, .inl f1)), (a2, .inl (k2, nS, .inl f2)), (a3, .inl (k3, 8000, .inl f3))]) [0, 1, 2, 3] (by decide) rfl
    have hK9 := hK.sub (tys' := [(k1, .byte), (k2, .int), (k3, .byte)]) [0, 1, 2] rfl
    exact W.iret (v := (-1)) hx hb hr (fun t ht hW => ⟨⟨(-1), (), rfl, zq_btS_a (by first | exact Or.inl c_1 | exact Or.inr (by omega)), by rw [ht]; exact hP9, va_K.moved hW.alike hK9, hD9⟩, hS.F ht⟩) hS.2.2 d_BlockDesk_byteOf_14
  · have c_1 : ¬ (i.toInt < 0) := fun h9 => c_1 (xq_lt_0r.mpr h9)
    refine lv_iload_n hx hb d_BlockDesk_byteOf_4 rfl (lv_at hl 2 rfl) ?_
    refine lv_aload_n hx hb d_BlockDesk_byteOf_5 rfl (lv_at hl 0 rfl) ?_
    refine lv_iload_n hx hb d_BlockDesk_byteOf_6 rfl (lv_at hl 1 rfl) ?_
    have hPc := hP.sub (ws' := [(a0, .inr (0, [.ref a1, .ref a2, .int (nI rc), .int (nI bg), .ref a3, .int (nI ss), .ref a4, .int (nI hs), .int up, .int ch, .int wr])), (a2, .inl (k2, nS, .inl f2))]) [0, 2] rfl
    have hDc := hD.sub (ws' := [(a0, .inr (0, [.ref a1, .ref a2, .int (nI rc), .int (nI bg), .ref a3, .int (nI ss), .ref a4, .int (nI hs), .int up, .int ch, .int wr])), (a2, .inl (k2, nS, .inl f2))]) [0, 2] (by decide) rfl
    have hKc := hK.sub (tys' := [(k2, .int)]) [1] rfl
    have hFc := va_free (wc := [(a0, .inr (0, [.ref a1, .ref a2, .int (nI rc), .int (nI bg), .ref a3, .int (nI ss), .ref a4, .int (nI hs), .int up, .int ch, .int wr])), (a2, .inl (k2, nS, .inl f2))]) hD hS hA [0, 2] rfl
    refine va_calli (va_runV (As := [.int k]) (rest := [.int i]) ⟨hx, hb, hml, hown, hts⟩ (c_BlockDesk_size l dC dI s.heap.size a0 a1 a2 a3 a4 rc bg ss hs up ch wr k2 nS f2 T k hrc hnS hT hM) (cwV 1 hts g_BlockDesk_byteOf_BlockDesk_size rfl rfl rfl (by decide +kernel) ⟨Nat.le_of_ble_eq_true rfl, Nat.le_of_ble_eq_true rfl⟩) ⟨fun a U g mk q => by obtain ⟨q0, q1, qP, qK, qD⟩ := q; exact ⟨q0, q1, qP, va_K.moved (u := U) (U := U.calling g mk a) (Vm.Alike.refl U.vm) qK, qD⟩, va_recv hKc hPc (ci := 0) (q0 := 0) rfl rfl, fun U hU hW => ⟨rfl, by rw [hU], by rw [hU]; exact hPc, va_K.moved hW.alike hKc, hDc.weaken (fun _ _ _ _ => trivial)⟩⟩ rfl rfl hl.1 rfl (lv_room (Nat.le_of_ble_eq_true rfl)) d_BlockDesk_byteOf_7 ⟨(Nat.zero_le _), (Nat.zero_le _)⟩) hS (fun q _ h => hFc q h) hFc (fun r_7 u t H1 locs ht hvm hw hB hz1 hk1 hS => ?_)
    obtain ⟨hP1, hK1, hD1⟩ := hB
    rw [ht] at hP1
    try dsimp only at hw
    obtain ⟨hP, hD⟩ := va_join (wr := [(a1, .inl (k1, nJ, .inl f1)), (a3, .inl (k3, 8000, .inl f3))]) (w1 := [(a0, .inr (0, [.ref a1, .ref a2, .int (nI rc), .int (nI bg), .ref a3, .int (nI ss), .ref a4, .int (nI hs), .int up, .int ch, .int wr])), (a2, .inl (k2, nS, .inl f2))]) hP hD [0, 2] [1, 3] rfl rfl (by decide) (by decide) hk1 hFc hP1 hD1
    generalize H1 = H at hP hS ⊢
    have hP : va_P (dC, dI) classes [(a1, .inl (k1, nJ, .inl f1)), (a3, .inl (k3, 8000, .inl f3)), (a0, .inr (0, [.ref a1, .ref a2, .int (nI rc), .int (nI bg), .ref a3, .int (nI ss), .ref a4, .int (nI hs), .int up, .int ch, .int wr])), (a2, .inl (k2, nS, .inl f2))] H := hP
    have hD : va_D A [(a1, .inl (k1, nJ, .inl f1)), (a3, .inl (k3, 8000, .inl f3)), (a0, .inr (0, [.ref a1, .ref a2, .int (nI rc), .int (nI bg), .ref a3, .int (nI ss), .ref a4, .int (nI hs), .int up, .int ch, .int wr])), (a2, .inl (k2, nS, .inl f2))] := hD
    subst hw
    refine lv_icmp_lt (tgt := 15) hx hb d_BlockDesk_byteOf_10 (by decide) (fun c_10 => ?_) (fun c_10 => ?_)
    · have c_10 : i.toInt < (zq_szS up rc ss T k).toInt := xq_lt.mp c_10
      rcases zq_szS_in (by omega) hss hTb c_1 c_10 with ⟨rfl, ii, hii, rfl⟩ | ⟨kk, ii, hkk, rfl, hii, rfl⟩
      · have hk9 : True := trivial
        have hl : lv_has ls 4 [(0, .ref a0), (1, .int (-1)), (2, .int (nI ii))] := hl
        refine lv_iload_n hx hb d_BlockDesk_byteOf_15 rfl (lv_at hl 1 rfl) ?_
        refine lv_iconst (v := (-1)) hx hb d_BlockDesk_byteOf_16 (by decide +kernel) ?_
        refine lv_icmp_ne (tgt := 29) hx hb d_BlockDesk_byteOf_17 (by decide) (fun c_17 => ?_) (fun c_17 => ?_)
        · exact absurd rfl c_17
        · refine lv_aload_n hx hb d_BlockDesk_byteOf_20 rfl (lv_at hl 0 rfl) ?_
          refine va_get (D := (dC, dI)) (ci := 0) (v := .ref a3) (C := R_BlockDesk) (T := F_BlockDesk) (N := 11) hx hb hts hin0 hown hK hP 2 rfl rfl 4 (by decide) (hts (.fieldLink R_BlockDesk 17 "BlockDesk" "snapshotBytes" "[B") (by decide +kernel)) (fun _ h9 => h9) rfl d_BlockDesk_byteOf_21 ?_
          refine lv_iload_n hx hb d_BlockDesk_byteOf_24 rfl (lv_at hl 2 rfl) ?_
          refine va_bald hx hb hK hP 1 2 rfl rfl (vp_in_nI (by omega) (by omega)) d_BlockDesk_byteOf_25 ?_
          refine xq_top (f3 ii) (by rw [nI_clamp (by omega)]) ?_
          refine lv_goto (tgt := 44) hx hb d_BlockDesk_byteOf_26 (by decide) ?_
          refine lv_istore_n (lv' := [(3, .int (f3 ii)), (0, .ref a0), (1, .int (-1)), (2, .int (nI ii))]) hx hb d_BlockDesk_byteOf_44 rfl hl (by decide) rfl (fun ls hl => ?_)
          refine lv_iload_n hx hb d_BlockDesk_byteOf_45 rfl (lv_at hl 0 rfl) ?_
          refine lv_sipush (v := nI 255) hx hb d_BlockDesk_byteOf_46 (by decide +kernel) ?_
          refine lv_iand hx hb d_BlockDesk_byteOf_49 ?_
          have hP9 := hP.sub (ws' := [(a0, .inr (0, [.ref a1, .ref a2, .int (nI rc), .int (nI bg), .ref a3, .int (nI ss), .ref a4, .int (nI hs), .int up, .int ch, .int wr])), (a1, .inl (k1, nJ, .inl f1)), (a2, .inl (k2, nS, .inl f2)), (a3, .inl (k3, 8000, .inl f3))]) [2, 0, 3, 1] rfl
          have hD9 := hD.sub (ws' := [(a0, .inr (0, [.ref a1, .ref a2, .int (nI rc), .int (nI bg), .ref a3, .int (nI ss), .ref a4, .int (nI hs), .int up, .int ch, .int wr])), (a1, .inl (k1, nJ, .inl f1)), (a2, .inl (k2, nS, .inl f2)), (a3, .inl (k3, 8000, .inl f3))]) [2, 0, 3, 1] (by decide) rfl
          have hK9 := hK.sub (tys' := [(k1, .byte), (k2, .int), (k3, .byte)]) [0, 1, 2] rfl
          exact W.iret (v := (f3 ii) &&& (nI 255)) hx hb hr (fun t ht hW => ⟨⟨(f3 ii) &&& (nI 255), (), rfl, zq_btS_b (by omega) c_1 c_10 (hp ii hii), by rw [ht]; exact hP9, va_K.moved hW.alike hK9, hD9⟩, hS.F ht⟩) hS.2.2 d_BlockDesk_byteOf_50
      · have hM1 := hM kk hkk
        have hTb1 := hTb (kk + 1) (by omega)
        have hTj1 := hTj (kk + 1) (by omega)
        have hl : lv_has ls 4 [(0, .ref a0), (1, .int (nI kk)), (2, .int (nI ii))] := hl
        refine lv_iload_n hx hb d_BlockDesk_byteOf_15 rfl (lv_at hl 1 rfl) ?_
        refine lv_iconst (v := (-1)) hx hb d_BlockDesk_byteOf_16 (by decide +kernel) ?_
        refine lv_icmp_ne (tgt := 29) hx hb d_BlockDesk_byteOf_17 (by decide) (fun c_17 => ?_) (fun c_17 => ?_)
        · refine lv_aload_n hx hb d_BlockDesk_byteOf_29 rfl (lv_at hl 0 rfl) ?_
          refine va_get (D := (dC, dI)) (ci := 0) (v := .ref a1) (C := R_BlockDesk) (T := F_BlockDesk) (N := 11) hx hb hts hin0 hown hK hP 2 rfl rfl 0 (by decide) (hts (.fieldLink R_BlockDesk 9 "BlockDesk" "journal" "[B") (by decide +kernel)) (fun _ h9 => h9) rfl d_BlockDesk_byteOf_30 ?_
          refine lv_aload_n hx hb d_BlockDesk_byteOf_33 rfl (lv_at hl 0 rfl) ?_
          refine va_get (D := (dC, dI)) (ci := 0) (v := .ref a2) (C := R_BlockDesk) (T := F_BlockDesk) (N := 11) hx hb hts hin0 hown hK hP 2 rfl rfl 1 (by decide) (hts (.fieldLink R_BlockDesk 13 "BlockDesk" "starts" "[I") (by decide +kernel)) (fun _ h9 => h9) rfl d_BlockDesk_byteOf_34 ?_
          refine lv_iload_n hx hb d_BlockDesk_byteOf_37 rfl (lv_at hl 1 rfl) ?_
          refine va_iald hx hb hK hP 3 1 rfl rfl (vp_in_nI (by omega) (by omega)) d_BlockDesk_byteOf_38 ?_
          refine xq_top (nI (T kk)) (by rw [nI_clamp (by omega)]; exact hT _ (by omega)) ?_
          refine lv_iconst (v := nI 4) hx hb d_BlockDesk_byteOf_39 (by decide +kernel) ?_
          refine lv_iadd hx hb d_BlockDesk_byteOf_40 ?_
          refine xq_top (nI (T kk + 4)) (nI_add _ _) ?_
          refine lv_iload_n hx hb d_BlockDesk_byteOf_41 rfl (lv_at hl 2 rfl) ?_
          refine lv_iadd hx hb d_BlockDesk_byteOf_42 ?_
          refine xq_top (nI (T kk + 4 + ii)) (nI_add _ _) ?_
          refine va_bald hx hb hK hP 0 0 rfl rfl (vp_in_nI (by omega) (by omega)) d_BlockDesk_byteOf_43 ?_
          refine xq_top (f1 (T kk + 4 + ii)) (by rw [nI_clamp (by omega)]) ?_
          refine lv_istore_n (lv' := [(3, .int (f1 (T kk + 4 + ii))), (0, .ref a0), (1, .int (nI kk)), (2, .int (nI ii))]) hx hb d_BlockDesk_byteOf_44 rfl hl (by decide) rfl (fun ls hl => ?_)
          refine lv_iload_n hx hb d_BlockDesk_byteOf_45 rfl (lv_at hl 0 rfl) ?_
          refine lv_sipush (v := nI 255) hx hb d_BlockDesk_byteOf_46 (by decide +kernel) ?_
          refine lv_iand hx hb d_BlockDesk_byteOf_49 ?_
          have hP9 := hP.sub (ws' := [(a0, .inr (0, [.ref a1, .ref a2, .int (nI rc), .int (nI bg), .ref a3, .int (nI ss), .ref a4, .int (nI hs), .int up, .int ch, .int wr])), (a1, .inl (k1, nJ, .inl f1)), (a2, .inl (k2, nS, .inl f2)), (a3, .inl (k3, 8000, .inl f3))]) [2, 0, 3, 1] rfl
          have hD9 := hD.sub (ws' := [(a0, .inr (0, [.ref a1, .ref a2, .int (nI rc), .int (nI bg), .ref a3, .int (nI ss), .ref a4, .int (nI hs), .int up, .int ch, .int wr])), (a1, .inl (k1, nJ, .inl f1)), (a2, .inl (k2, nS, .inl f2)), (a3, .inl (k3, 8000, .inl f3))]) [2, 0, 3, 1] (by decide) rfl
          have hK9 := hK.sub (tys' := [(k1, .byte), (k2, .int), (k3, .byte)]) [0, 1, 2] rfl
          exact W.iret (v := (f1 (T kk + 4 + ii)) &&& (nI 255)) hx hb hr (fun t ht hW => ⟨⟨(f1 (T kk + 4 + ii)) &&& (nI 255), (), rfl, zq_btS_c (by omega) (by omega) c_1 c_10 (hj kk hkk ii hii), by rw [ht]; exact hP9, va_K.moved hW.alike hK9, hD9⟩, hS.F ht⟩) hS.2.2 d_BlockDesk_byteOf_50
        · exact absurd c_17 (xq_nm1 (by omega))
    · have c_10 : ¬ (i.toInt < (zq_szS up rc ss T k).toInt) := fun h9 => c_10 (xq_lt.mpr h9)
      refine lv_iconst (v := (-1)) hx hb d_BlockDesk_byteOf_13 (by decide +kernel) ?_
      have hP9 := hP.sub (ws' := [(a0, .inr (0, [.ref a1, .ref a2, .int (nI rc), .int (nI bg), .ref a3, .int (nI ss), .ref a4, .int (nI hs), .int up, .int ch, .int wr])), (a1, .inl (k1, nJ, .inl f1)), (a2, .inl (k2, nS, .inl f2)), (a3, .inl (k3, 8000, .inl f3))]) [2, 0, 3, 1] rfl
      have hD9 := hD.sub (ws' := [(a0, .inr (0, [.ref a1, .ref a2, .int (nI rc), .int (nI bg), .ref a3, .int (nI ss), .ref a4, .int (nI hs), .int up, .int ch, .int wr])), (a1, .inl (k1, nJ, .inl f1)), (a2, .inl (k2, nS, .inl f2)), (a3, .inl (k3, 8000, .inl f3))]) [2, 0, 3, 1] (by decide) rfl
      have hK9 := hK.sub (tys' := [(k1, .byte), (k2, .int), (k3, .byte)]) [0, 1, 2] rfl
      exact W.iret (v := (-1)) hx hb hr (fun t ht hW => ⟨⟨(-1), (), rfl, zq_btS_a (by first | exact Or.inl c_1 | exact Or.inr (by omega)), by rw [ht]; exact hP9, va_K.moved hW.alike hK9, hD9⟩, hS.F ht⟩) hS.2.2 d_BlockDesk_byteOf_14
set_option maxHeartbeats 4000000 in
set_option maxRecDepth 100000 in
theorem c_BlockDesk_state (l : Launch) (dC : Nat → ClassId) (dI : Nat → Nat → Nat) (sz : Nat) (a0 : Nat) (a1 : Nat) (a2 : Nat) (a3 : Nat) (a4 : Nat) (rc : Nat) (bg : Nat) (ss : Nat) (hs : Nat) (up : Int32) (ch : Int32) (wr : Int32) (k2 : ClassId) (nS : Nat) (tu : Nat) (f2 : Nat → Int32) (what : Int32) (hrc : rc < nS) (hnS : nS ≤ 4001) (htu : f2 rc = nI tu) : Met l y_BlockDesk_state w_BlockDesk_state ({ frames := 1, cells := 0, slots := 0, locals := 22 }) (va_Pc [.ref a0, .int what] (fun U => U.heap.size = sz ∧ va_P (dC, dI) classes [(a0, .inr (0, [.ref a1, .ref a2, .int (nI rc), .int (nI bg), .ref a3, .int (nI ss), .ref a4, .int (nI hs), .int up, .int ch, .int wr])), (a2, .inl (k2, nS, .inl f2))] U.heap ∧ va_K (dC, dI) classes [(k2, .int)] U ∧ va_D (fun _ => True) [(a0, .inr (0, [.ref a1, .ref a2, .int (nI rc), .int (nI bg), .ref a3, .int (nI ss), .ref a4, .int (nI hs), .int up, .int ch, .int wr])), (a2, .inl (k2, nS, .inl f2))])) (va_Qi (fun (r : Int32) (_ : Unit) => r = zq_stS up rc bg (bg + tu) hs wr what) (fun (_ : Unit) (t : State) => va_P (dC, dI) classes [(a0, .inr (0, [.ref a1, .ref a2, .int (nI rc), .int (nI bg), .ref a3, .int (nI ss), .ref a4, .int (nI hs), .int up, .int ch, .int wr])), (a2, .inl (k2, nS, .inl f2))] t.heap ∧ va_K (dC, dI) classes [(k2, .int)] t ∧ va_D (va_A [(a0, .inr (0, [.ref a1, .ref a2, .int (nI rc), .int (nI bg), .ref a3, .int (nI ss), .ref a4, .int (nI hs), .int up, .int ch, .int wr])), (a2, .inl (k2, nS, .inl f2))] sz) [(a0, .inr (0, [.ref a1, .ref a2, .int (nI rc), .int (nI bg), .ref a3, .int (nI ss), .ref a4, .int (nI hs), .int up, .int ch, .int wr])), (a2, .inl (k2, nS, .inl f2))]) (va_A [(a0, .inr (0, [.ref a1, .ref a2, .int (nI rc), .int (nI bg), .ref a3, .int (nI ss), .ref a4, .int (nI hs), .int up, .int ch, .int wr])), (a2, .inl (k2, nS, .inl f2))] sz)) 0 0 (va_A [(a0, .inr (0, [.ref a1, .ref a2, .int (nI rc), .int (nI bg), .ref a3, .int (nI ss), .ref a4, .int (nI hs), .int up, .int ch, .int wr])), (a2, .inl (k2, nS, .inl f2))] sz) := by
  refine Met.ofW (cc := b_BlockDesk_state) (maxL := 2) (ret := (some .int)) (by decide) rfl ?_
  intro p e s m args below meth c s₁ B hml hv
  obtain ⟨rfl, hsz, hP, hK, hD0⟩ := hv
  have hx := B.exec
  have hb := B.bytes
  have hr := B.returns
  have hts := atoms_spec (ws := w_BlockDesk_state) B.pre
  have hown : s.vm.findClass R_BlockDesk = some m.cls := findClass_of_methodNamed B.named
  have hlocks := B.notSynchronized
  subst hsz
  have hD := hD0.self (sz := s.heap.size)
  generalize hAe : va_A [(a0, .inr (0, [.ref a1, .ref a2, .int (nI rc), .int (nI bg), .ref a3, .int (nI ss), .ref a4, .int (nI hs), .int up, .int ch, .int wr])), (a2, .inl (k2, nS, .inl f2))] s.heap.size = A at hD ⊢
  have hA : ∀ q : Nat, s.heap.size ≤ q → A q := fun q h => by rw [← hAe]; exact Or.inr h
  have hS : va_S A s.heap s.heap [] := va_S.rf
  have hP : va_P (dC, dI) classes [(a0, .inr (0, [.ref a1, .ref a2, .int (nI rc), .int (nI bg), .ref a3, .int (nI ss), .ref a4, .int (nI hs), .int up, .int ch, .int wr])), (a2, .inl (k2, nS, .inl f2))] s.heap := hP
  have hin0 : ∀ w ∈ u_ws R_BlockDesk F_BlockDesk 11, w ∈ w_BlockDesk_state := by decide +kernel
  have hl := lv_entry ([.ref a0, .int what]) (n := 2) (Nat.le_of_ble_eq_true rfl)
  rw [lg_entry_eq]
  generalize (lg_sl ([.ref a0, .int what]) ++ List.replicate (2 - (lg_sl ([.ref a0, .int what])).length) Slot.unset).toArray = ls at hl ⊢
  have hl : lv_has ls 2 [(0, .ref a0), (1, .int what)] := hl
  refine lv_iload_n hx hb d_BlockDesk_state_0 rfl (lv_at hl 1 rfl) ?_
  refine lv_if_ne (tgt := 17) hx hb d_BlockDesk_state_1 (by decide) (fun c_1 => ?_) (fun c_1 => ?_)
  · refine lv_iload_n hx hb d_BlockDesk_state_17 rfl (lv_at hl 1 rfl) ?_
    refine lv_iconst (v := nI 5) hx hb d_BlockDesk_state_18 (by decide +kernel) ?_
    refine lv_icmp_ne (tgt := 27) hx hb d_BlockDesk_state_19 (by decide) (fun c_19 => ?_) (fun c_19 => ?_)
    · refine lv_aload_n hx hb d_BlockDesk_state_27 rfl (lv_at hl 0 rfl) ?_
      refine va_get (D := (dC, dI)) (ci := 0) (v := .int up) (C := R_BlockDesk) (T := F_BlockDesk) (N := 11) hx hb hts hin0 hown hK hP 0 rfl rfl 8 (by decide) (hts (.fieldLink R_BlockDesk 23 "BlockDesk" "up" "Z") (by decide +kernel)) (fun _ h9 => h9) rfl d_BlockDesk_state_28 ?_
      refine lv_if_ne (tgt := 36) hx hb d_BlockDesk_state_31 (by decide) (fun c_31 => ?_) (fun c_31 => ?_)
      · refine lv_iload_n hx hb d_BlockDesk_state_36 rfl (lv_at hl 1 rfl) ?_
        by_cases h_1 : what = nI 1
        · subst h_1
          refine lv_tableIn (off := 31) (tgt := 68) hx hb d_BlockDesk_state_37 (by decide +kernel) (by decide +kernel) (by decide +kernel) (by decide) ?_
          refine lv_aload_n hx hb d_BlockDesk_state_68 rfl (lv_at hl 0 rfl) ?_
          refine va_get (D := (dC, dI)) (ci := 0) (v := .int (nI rc)) (C := R_BlockDesk) (T := F_BlockDesk) (N := 11) hx hb hts hin0 hown hK hP 0 rfl rfl 2 (by decide) (hts (.fieldLink R_BlockDesk 57 "BlockDesk" "records" "I") (by decide +kernel)) (fun _ h9 => h9) rfl d_BlockDesk_state_69 ?_
          have hP9 := hP.sub (ws' := [(a0, .inr (0, [.ref a1, .ref a2, .int (nI rc), .int (nI bg), .ref a3, .int (nI ss), .ref a4, .int (nI hs), .int up, .int ch, .int wr])), (a2, .inl (k2, nS, .inl f2))]) [0, 1] rfl
          have hD9 := hD.sub (ws' := [(a0, .inr (0, [.ref a1, .ref a2, .int (nI rc), .int (nI bg), .ref a3, .int (nI ss), .ref a4, .int (nI hs), .int up, .int ch, .int wr])), (a2, .inl (k2, nS, .inl f2))]) [0, 1] (by decide) rfl
          have hK9 := hK.sub (tys' := [(k2, .int)]) [0] rfl
          exact W.iret (v := nI rc) hx hb hr (fun t ht hW => ⟨⟨nI rc, (), rfl, (by unfold zq_stS; rw [if_neg c_1, if_neg c_19, if_neg c_31, if_pos rfl]), by rw [ht]; exact hP9, va_K.moved hW.alike hK9, hD9⟩, hS.F ht⟩) hS.2.2 d_BlockDesk_state_72
        · by_cases h_2 : what = nI 2
          · subst h_2
            refine lv_tableIn (off := 36) (tgt := 73) hx hb d_BlockDesk_state_37 (by decide +kernel) (by decide +kernel) (by decide +kernel) (by decide) ?_
            refine lv_aload_n hx hb d_BlockDesk_state_73 rfl (lv_at hl 0 rfl) ?_
            refine va_get (D := (dC, dI)) (ci := 0) (v := .int (nI bg)) (C := R_BlockDesk) (T := F_BlockDesk) (N := 11) hx hb hts hin0 hown hK hP 0 rfl rfl 3 (by decide) (hts (.fieldLink R_BlockDesk 82 "BlockDesk" "begin" "I") (by decide +kernel)) (fun _ h9 => h9) rfl d_BlockDesk_state_74 ?_
            have hP9 := hP.sub (ws' := [(a0, .inr (0, [.ref a1, .ref a2, .int (nI rc), .int (nI bg), .ref a3, .int (nI ss), .ref a4, .int (nI hs), .int up, .int ch, .int wr])), (a2, .inl (k2, nS, .inl f2))]) [0, 1] rfl
            have hD9 := hD.sub (ws' := [(a0, .inr (0, [.ref a1, .ref a2, .int (nI rc), .int (nI bg), .ref a3, .int (nI ss), .ref a4, .int (nI hs), .int up, .int ch, .int wr])), (a2, .inl (k2, nS, .inl f2))]) [0, 1] (by decide) rfl
            have hK9 := hK.sub (tys' := [(k2, .int)]) [0] rfl
            exact W.iret (v := nI bg) hx hb hr (fun t ht hW => ⟨⟨nI bg, (), rfl, (by unfold zq_stS; rw [if_neg c_1, if_neg c_19, if_neg c_31, if_neg (show ¬ nI 2 = nI 1 by decide +kernel), if_pos rfl]), by rw [ht]; exact hP9, va_K.moved hW.alike hK9, hD9⟩, hS.F ht⟩) hS.2.2 d_BlockDesk_state_77
          · by_cases h_3 : what = nI 3
            · subst h_3
              refine lv_tableIn (off := 41) (tgt := 78) hx hb d_BlockDesk_state_37 (by decide +kernel) (by decide +kernel) (by decide +kernel) (by decide) ?_
              refine lv_aload_n hx hb d_BlockDesk_state_78 rfl (lv_at hl 0 rfl) ?_
              refine va_get (D := (dC, dI)) (ci := 0) (v := .int (nI bg)) (C := R_BlockDesk) (T := F_BlockDesk) (N := 11) hx hb hts hin0 hown hK hP 0 rfl rfl 3 (by decide) (hts (.fieldLink R_BlockDesk 82 "BlockDesk" "begin" "I") (by decide +kernel)) (fun _ h9 => h9) rfl d_BlockDesk_state_79 ?_
              refine lv_aload_n hx hb d_BlockDesk_state_82 rfl (lv_at hl 0 rfl) ?_
              have hPc := hP.sub (ws' := [(a0, .inr (0, [.ref a1, .ref a2, .int (nI rc), .int (nI bg), .ref a3, .int (nI ss), .ref a4, .int (nI hs), .int up, .int ch, .int wr])), (a2, .inl (k2, nS, .inl f2))]) [0, 1] rfl
              have hDc := hD.sub (ws' := [(a0, .inr (0, [.ref a1, .ref a2, .int (nI rc), .int (nI bg), .ref a3, .int (nI ss), .ref a4, .int (nI hs), .int up, .int ch, .int wr])), (a2, .inl (k2, nS, .inl f2))]) [0, 1] (by decide) rfl
              have hKc := hK.sub (tys' := [(k2, .int)]) [0] rfl
              have hFc := va_free (wc := [(a0, .inr (0, [.ref a1, .ref a2, .int (nI rc), .int (nI bg), .ref a3, .int (nI ss), .ref a4, .int (nI hs), .int up, .int ch, .int wr])), (a2, .inl (k2, nS, .inl f2))]) hD hS hA [0, 1] rfl
              refine va_calli (va_runV (As := []) (rest := [.int (nI bg)]) ⟨hx, hb, hml, hown, hts⟩ (c_BlockDesk_usedPlaces l dC dI s.heap.size a0 a1 a2 a3 a4 rc bg ss hs up ch wr k2 nS f2 hrc hnS) (cwV 0 hts g_BlockDesk_state_BlockDesk_usedPlaces rfl rfl rfl (by decide +kernel) ⟨Nat.le_of_ble_eq_true rfl, Nat.le_of_ble_eq_true rfl⟩) ⟨fun a U g mk q => by obtain ⟨q0, q1, qP, qK, qD⟩ := q; exact ⟨q0, q1, qP, va_K.moved (u := U) (U := U.calling g mk a) (Vm.Alike.refl U.vm) qK, qD⟩, va_recv hKc hPc (ci := 0) (q0 := 0) rfl rfl, fun U hU hW => ⟨rfl, by rw [hU], by rw [hU]; exact hPc, va_K.moved hW.alike hKc, hDc.weaken (fun _ _ _ _ => trivial)⟩⟩ rfl rfl hl.1 rfl (lv_room (Nat.le_of_ble_eq_true rfl)) d_BlockDesk_state_83 ⟨(Nat.zero_le _), (Nat.zero_le _)⟩) hS (fun q _ h => hFc q h) hFc (fun r_83 u t H1 locs ht hvm hw hB hz1 hk1 hS => ?_)
              obtain ⟨hP1, hK1, hD1⟩ := hB
              rw [ht] at hP1
              try dsimp only at hw
              obtain ⟨hP, hD⟩ := va_join (wr := []) (w1 := [(a0, .inr (0, [.ref a1, .ref a2, .int (nI rc), .int (nI bg), .ref a3, .int (nI ss), .ref a4, .int (nI hs), .int up, .int ch, .int wr])), (a2, .inl (k2, nS, .inl f2))]) hP hD [0, 1] [] rfl rfl (by decide) (by decide) hk1 hFc hP1 hD1
              generalize H1 = H at hP hS ⊢
              have hP : va_P (dC, dI) classes [(a0, .inr (0, [.ref a1, .ref a2, .int (nI rc), .int (nI bg), .ref a3, .int (nI ss), .ref a4, .int (nI hs), .int up, .int ch, .int wr])), (a2, .inl (k2, nS, .inl f2))] H := hP
              have hD : va_D A [(a0, .inr (0, [.ref a1, .ref a2, .int (nI rc), .int (nI bg), .ref a3, .int (nI ss), .ref a4, .int (nI hs), .int up, .int ch, .int wr])), (a2, .inl (k2, nS, .inl f2))] := hD
              obtain rfl : r_83 = nI tu := hw.trans htu
              refine lv_iadd hx hb d_BlockDesk_state_86 ?_
              refine xq_top (nI (bg + tu)) (nI_add _ _) ?_
              have hP9 := hP.sub (ws' := [(a0, .inr (0, [.ref a1, .ref a2, .int (nI rc), .int (nI bg), .ref a3, .int (nI ss), .ref a4, .int (nI hs), .int up, .int ch, .int wr])), (a2, .inl (k2, nS, .inl f2))]) [0, 1] rfl
              have hD9 := hD.sub (ws' := [(a0, .inr (0, [.ref a1, .ref a2, .int (nI rc), .int (nI bg), .ref a3, .int (nI ss), .ref a4, .int (nI hs), .int up, .int ch, .int wr])), (a2, .inl (k2, nS, .inl f2))]) [0, 1] (by decide) rfl
              have hK9 := hK.sub (tys' := [(k2, .int)]) [0] rfl
              exact W.iret (v := nI (bg + tu)) hx hb hr (fun t ht hW => ⟨⟨nI (bg + tu), (), rfl, (by unfold zq_stS; rw [if_neg c_1, if_neg c_19, if_neg c_31, if_neg (show ¬ nI 3 = nI 1 by decide +kernel), if_neg (show ¬ nI 3 = nI 2 by decide +kernel), if_pos rfl]), by rw [ht]; exact hP9, va_K.moved hW.alike hK9, hD9⟩, hS.F ht⟩) hS.2.2 d_BlockDesk_state_87
            · by_cases h_4 : what = nI 4
              · subst h_4
                refine lv_tableIn (off := 51) (tgt := 88) hx hb d_BlockDesk_state_37 (by decide +kernel) (by decide +kernel) (by decide +kernel) (by decide) ?_
                refine lv_aload_n hx hb d_BlockDesk_state_88 rfl (lv_at hl 0 rfl) ?_
                refine va_get (D := (dC, dI)) (ci := 0) (v := .int (nI hs)) (C := R_BlockDesk) (T := F_BlockDesk) (N := 11) hx hb hts hin0 hown hK hP 0 rfl rfl 7 (by decide) (hts (.fieldLink R_BlockDesk 35 "BlockDesk" "handSize" "I") (by decide +kernel)) (fun _ h9 => h9) rfl d_BlockDesk_state_89 ?_
                have hP9 := hP.sub (ws' := [(a0, .inr (0, [.ref a1, .ref a2, .int (nI rc), .int (nI bg), .ref a3, .int (nI ss), .ref a4, .int (nI hs), .int up, .int ch, .int wr])), (a2, .inl (k2, nS, .inl f2))]) [0, 1] rfl
                have hD9 := hD.sub (ws' := [(a0, .inr (0, [.ref a1, .ref a2, .int (nI rc), .int (nI bg), .ref a3, .int (nI ss), .ref a4, .int (nI hs), .int up, .int ch, .int wr])), (a2, .inl (k2, nS, .inl f2))]) [0, 1] (by decide) rfl
                have hK9 := hK.sub (tys' := [(k2, .int)]) [0] rfl
                exact W.iret (v := nI hs) hx hb hr (fun t ht hW => ⟨⟨nI hs, (), rfl, (by unfold zq_stS; rw [if_neg c_1, if_neg c_19, if_neg c_31, if_neg (show ¬ nI 4 = nI 1 by decide +kernel), if_neg (show ¬ nI 4 = nI 2 by decide +kernel), if_neg (show ¬ nI 4 = nI 3 by decide +kernel), if_pos rfl]), by rw [ht]; exact hP9, va_K.moved hW.alike hK9, hD9⟩, hS.F ht⟩) hS.2.2 d_BlockDesk_state_92
              · have t_1 := lv_neT h_1 (show (nI 1).toInt = 1 by decide +kernel)
                have t_2 := lv_neT h_2 (show (nI 2).toInt = 2 by decide +kernel)
                have t_3 := lv_neT h_3 (show (nI 3).toInt = 3 by decide +kernel)
                have t_4 := lv_neT h_4 (show (nI 4).toInt = 4 by decide +kernel)
                refine lv_tableOut (tgt := 93) hx hb d_BlockDesk_state_37 (by omega) (by decide) ?_
                refine lv_iconst (v := (-1)) hx hb d_BlockDesk_state_93 (by decide +kernel) ?_
                have hP9 := hP.sub (ws' := [(a0, .inr (0, [.ref a1, .ref a2, .int (nI rc), .int (nI bg), .ref a3, .int (nI ss), .ref a4, .int (nI hs), .int up, .int ch, .int wr])), (a2, .inl (k2, nS, .inl f2))]) [0, 1] rfl
                have hD9 := hD.sub (ws' := [(a0, .inr (0, [.ref a1, .ref a2, .int (nI rc), .int (nI bg), .ref a3, .int (nI ss), .ref a4, .int (nI hs), .int up, .int ch, .int wr])), (a2, .inl (k2, nS, .inl f2))]) [0, 1] (by decide) rfl
                have hK9 := hK.sub (tys' := [(k2, .int)]) [0] rfl
                exact W.iret (v := (-1)) hx hb hr (fun t ht hW => ⟨⟨(-1), (), rfl, (by unfold zq_stS; rw [if_neg c_1, if_neg c_19, if_neg c_31, if_neg h_1, if_neg h_2, if_neg h_3, if_neg h_4]), by rw [ht]; exact hP9, va_K.moved hW.alike hK9, hD9⟩, hS.F ht⟩) hS.2.2 d_BlockDesk_state_94
      · refine lv_iconst (v := (-1)) hx hb d_BlockDesk_state_34 (by decide +kernel) ?_
        have hP9 := hP.sub (ws' := [(a0, .inr (0, [.ref a1, .ref a2, .int (nI rc), .int (nI bg), .ref a3, .int (nI ss), .ref a4, .int (nI hs), .int up, .int ch, .int wr])), (a2, .inl (k2, nS, .inl f2))]) [0, 1] rfl
        have hD9 := hD.sub (ws' := [(a0, .inr (0, [.ref a1, .ref a2, .int (nI rc), .int (nI bg), .ref a3, .int (nI ss), .ref a4, .int (nI hs), .int up, .int ch, .int wr])), (a2, .inl (k2, nS, .inl f2))]) [0, 1] (by decide) rfl
        have hK9 := hK.sub (tys' := [(k2, .int)]) [0] rfl
        exact W.iret (v := (-1)) hx hb hr (fun t ht hW => ⟨⟨(-1), (), rfl, (by unfold zq_stS; rw [if_neg c_1, if_neg c_19, if_pos c_31]), by rw [ht]; exact hP9, va_K.moved hW.alike hK9, hD9⟩, hS.F ht⟩) hS.2.2 d_BlockDesk_state_35
    · refine lv_aload_n hx hb d_BlockDesk_state_22 rfl (lv_at hl 0 rfl) ?_
      refine va_get (D := (dC, dI)) (ci := 0) (v := .int wr) (C := R_BlockDesk) (T := F_BlockDesk) (N := 11) hx hb hts hin0 hown hK hP 0 rfl rfl 10 (by decide) (hts (.fieldLink R_BlockDesk 79 "BlockDesk" "written" "I") (by decide +kernel)) (fun _ h9 => h9) rfl d_BlockDesk_state_23 ?_
      have hP9 := hP.sub (ws' := [(a0, .inr (0, [.ref a1, .ref a2, .int (nI rc), .int (nI bg), .ref a3, .int (nI ss), .ref a4, .int (nI hs), .int up, .int ch, .int wr])), (a2, .inl (k2, nS, .inl f2))]) [0, 1] rfl
      have hD9 := hD.sub (ws' := [(a0, .inr (0, [.ref a1, .ref a2, .int (nI rc), .int (nI bg), .ref a3, .int (nI ss), .ref a4, .int (nI hs), .int up, .int ch, .int wr])), (a2, .inl (k2, nS, .inl f2))]) [0, 1] (by decide) rfl
      have hK9 := hK.sub (tys' := [(k2, .int)]) [0] rfl
      exact W.iret (v := wr) hx hb hr (fun t ht hW => ⟨⟨wr, (), rfl, (by unfold zq_stS; rw [if_neg c_1, if_pos c_19]), by rw [ht]; exact hP9, va_K.moved hW.alike hK9, hD9⟩, hS.F ht⟩) hS.2.2 d_BlockDesk_state_26
  · refine lv_aload_n hx hb d_BlockDesk_state_4 rfl (lv_at hl 0 rfl) ?_
    refine va_get (D := (dC, dI)) (ci := 0) (v := .int up) (C := R_BlockDesk) (T := F_BlockDesk) (N := 11) hx hb hts hin0 hown hK hP 0 rfl rfl 8 (by decide) (hts (.fieldLink R_BlockDesk 23 "BlockDesk" "up" "Z") (by decide +kernel)) (fun _ h9 => h9) rfl d_BlockDesk_state_5 ?_
    refine lv_if_eq (tgt := 15) hx hb d_BlockDesk_state_8 (by decide) (fun c_8 => ?_) (fun c_8 => ?_)
    · refine lv_iconst (v := nI 0) hx hb d_BlockDesk_state_15 (by decide +kernel) ?_
      have hP9 := hP.sub (ws' := [(a0, .inr (0, [.ref a1, .ref a2, .int (nI rc), .int (nI bg), .ref a3, .int (nI ss), .ref a4, .int (nI hs), .int up, .int ch, .int wr])), (a2, .inl (k2, nS, .inl f2))]) [0, 1] rfl
      have hD9 := hD.sub (ws' := [(a0, .inr (0, [.ref a1, .ref a2, .int (nI rc), .int (nI bg), .ref a3, .int (nI ss), .ref a4, .int (nI hs), .int up, .int ch, .int wr])), (a2, .inl (k2, nS, .inl f2))]) [0, 1] (by decide) rfl
      have hK9 := hK.sub (tys' := [(k2, .int)]) [0] rfl
      exact W.iret (v := nI 0) hx hb hr (fun t ht hW => ⟨⟨nI 0, (), rfl, (by unfold zq_stS; rw [if_pos c_1, if_pos c_8]), by rw [ht]; exact hP9, va_K.moved hW.alike hK9, hD9⟩, hS.F ht⟩) hS.2.2 d_BlockDesk_state_16
    · refine lv_iconst (v := nI 1) hx hb d_BlockDesk_state_11 (by decide +kernel) ?_
      refine lv_goto (tgt := 16) hx hb d_BlockDesk_state_12 (by decide) ?_
      have hP9 := hP.sub (ws' := [(a0, .inr (0, [.ref a1, .ref a2, .int (nI rc), .int (nI bg), .ref a3, .int (nI ss), .ref a4, .int (nI hs), .int up, .int ch, .int wr])), (a2, .inl (k2, nS, .inl f2))]) [0, 1] rfl
      have hD9 := hD.sub (ws' := [(a0, .inr (0, [.ref a1, .ref a2, .int (nI rc), .int (nI bg), .ref a3, .int (nI ss), .ref a4, .int (nI hs), .int up, .int ch, .int wr])), (a2, .inl (k2, nS, .inl f2))]) [0, 1] (by decide) rfl
      have hK9 := hK.sub (tys' := [(k2, .int)]) [0] rfl
      exact W.iret (v := nI 1) hx hb hr (fun t ht hW => ⟨⟨nI 1, (), rfl, (by unfold zq_stS; rw [if_pos c_1, if_neg c_8]), by rw [ht]; exact hP9, va_K.moved hW.alike hK9, hD9⟩, hS.F ht⟩) hS.2.2 d_BlockDesk_state_16
end
section
set_option maxHeartbeats 4000000 in
set_option maxRecDepth 100000 in
theorem lp_D_put {p : Program} {l : Launch} {e : Env} {s : State} {m : MethodId} {args : Array Value} {below : List Frame} {meth : Method} {c : Code} {Q : State → Prop} {A : Nat → Prop} {dC : Nat → ClassId} {dI : Nat → Nat → Nat} (hx : p.tables.exec = Jvm.exec) (hb : c.code = b_BlockDesk_put) (hml : c.maxLocals = 5) (hts : ∀ w ∈ w_BlockDesk_put, w.before args s = true) (hown : s.vm.findClass R_BlockDesk = some m.cls) (hA : ∀ q : Nat, s.heap.size ≤ q → A q) (a0 : Nat) (a1 : Nat) (a2 : Nat) (a3 : Nat) (a4 : Nat) (rc : Nat) (bg : Nat) (ss : Nat) (hs : Nat) (k : Nat) (up : Int32) (ch : Int32) (wr : Int32) (k4 : ClassId) (v : Int64) (f4 : Nat → Int32) (hk : hs + k ≤ 8000) (hk8 : k ≤ 8) (hK : va_K (dC, dI) classes [(k4, .byte)] s) (KK : ∀ (f : Nat → Int32) (H : Heap) (locs : List Loc), zq_app f4 f hs k (fun z => (zq_pbv v (k - 1 - z)).toInt8.toInt32) → va_P (dC, dI) classes [(a0, .inr (0, [.ref a1, .ref a2, .int (nI rc), .int (nI bg), .ref a3, .int (nI ss), .ref a4, .int (nI (hs + k)), .int up, .int ch, .int wr])), (a4, .inl (k4, 8000, .inl f))] H → va_D A [(a0, .inr (0, [.ref a1, .ref a2, .int (nI rc), .int (nI bg), .ref a3, .int (nI ss), .ref a4, .int (nI (hs + k)), .int up, .int ch, .int wr])), (a4, .inl (k4, 8000, .inl f))] → va_S A s.heap H locs → ∀ ls : Array Slot, lv_has ls 5 [(4, .int (-1)), (0, .ref a0), (1, .long v), (3, .int (nI k))] → W p l e ({ frames := 1, cells := 0, slots := 0, locals := 22 } : Room) s m args below meth c H locs 0 0 Q (F0 m 65 ls [])) : ∀ (n d : Nat) (f : Nat → Int32) (H : Heap) (locs : List Loc), d + n = k → zq_app f4 f hs d (fun z => (zq_pbv v (k - 1 - z)).toInt8.toInt32) → va_P (dC, dI) classes [(a0, .inr (0, [.ref a1, .ref a2, .int (nI rc), .int (nI bg), .ref a3, .int (nI ss), .ref a4, .int (nI (hs + d)), .int up, .int ch, .int wr])), (a4, .inl (k4, 8000, .inl f))] H → va_D A [(a0, .inr (0, [.ref a1, .ref a2, .int (nI rc), .int (nI bg), .ref a3, .int (nI ss), .ref a4, .int (nI (hs + d)), .int up, .int ch, .int wr])), (a4, .inl (k4, 8000, .inl f))] → va_S A s.heap H locs → ∀ ls : Array Slot, lv_has ls 5 [(4, .int (zq_pd n)), (0, .ref a0), (1, .long v), (3, .int (nI k))] → W p l e ({ frames := 1, cells := 0, slots := 0, locals := 22 } : Room) s m args below meth c H locs 0 0 Q (F0 m 26 ls []) := by
  have hin0 : ∀ w ∈ u_ws R_BlockDesk F_BlockDesk 11, w ∈ w_BlockDesk_put := by decide +kernel
  intro n
  induction n with
  | zero =>
    intro d f H locs hdn hI hP hD hS ls hl
    have hdn : k = d := by omega
    subst hdn
    have hl : lv_has ls 5 [(4, .int (-1)), (0, .ref a0), (1, .long v), (3, .int (nI k))] := hl
    refine lv_iload hx hb d_BlockDesk_put_26 (lv_at hl 0 rfl) ?_
    refine lv_if_lt (tgt := 65) hx hb d_BlockDesk_put_28 (by decide) (fun c_28 => ?_) (fun c_28 => ?_)
    · exact KK f _ _ hI (hP.sub [0, 1] rfl) (hD.sub [0, 1] (by decide) rfl) hS ls (lv_sub hl [0, 1, 2, 3] rfl)
    · exact absurd (by decide +kernel) c_28
  | succ n ih =>
    intro d f H locs hdn hI hP hD hS ls hl
    have hl : lv_has ls 5 [(4, .int (nI n)), (0, .ref a0), (1, .long v), (3, .int (nI k))] := hl
    refine lv_iload hx hb d_BlockDesk_put_26 (lv_at hl 0 rfl) ?_
    refine lv_if_lt (tgt := 65) hx hb d_BlockDesk_put_28 (by decide) (fun c_28 => ?_) (fun c_28 => ?_)
    · have c_28 : ((n : Nat) : Int) < 0 := (xq_lt_n0 (by omega)).mp c_28
      exact absurd c_28 (by omega)
    · have c_28 : ¬ (((n : Nat) : Int) < 0) := fun h9 => c_28 ((xq_lt_n0 (by omega)).mpr h9)
      refine lv_aload_n hx hb d_BlockDesk_put_31 rfl (lv_at hl 1 rfl) ?_
      refine va_get (D := (dC, dI)) (ci := 0) (v := .ref a4) (C := R_BlockDesk) (T := F_BlockDesk) (N := 11) hx hb hts hin0 hown hK hP 0 rfl rfl 6 (by decide) (hts (.fieldLink R_BlockDesk 20 "BlockDesk" "handBytes" "[B") (by decide +kernel)) (fun _ h9 => h9) rfl d_BlockDesk_put_32 ?_
      refine lv_aload_n hx hb d_BlockDesk_put_35 rfl (lv_at hl 1 rfl) ?_
      refine va_get (D := (dC, dI)) (ci := 0) (v := .int (nI (hs + d))) (C := R_BlockDesk) (T := F_BlockDesk) (N := 11) hx hb hts hin0 hown hK hP 0 rfl rfl 7 (by decide) (hts (.fieldLink R_BlockDesk 35 "BlockDesk" "handSize" "I") (by decide +kernel)) (fun _ h9 => h9) rfl d_BlockDesk_put_36 ?_
      refine lv_lload_n hx hb d_BlockDesk_put_39 rfl (lv_at hl 2 rfl) ?_
      refine lv_bipush (v := nI 8) hx hb d_BlockDesk_put_40 (by decide +kernel) ?_
      refine lv_iload hx hb d_BlockDesk_put_42 (lv_at hl 0 rfl) ?_
      refine lv_imul hx hb d_BlockDesk_put_44 ?_
      refine xq_top (nI (8 * n)) (pk_mul _ _) ?_
      refine lv_lshr (v := v >>> ((nI (8 * n)).toInt64 &&& 63)) hx hb d_BlockDesk_put_45 rfl ?_
      refine lv_l2i (v := (v >>> ((nI (8 * n)).toInt64 &&& 63)).toInt32) hx hb d_BlockDesk_put_46 rfl ?_
      refine lv_i2b (v := ((v >>> ((nI (8 * n)).toInt64 &&& 63)).toInt32).toInt8.toInt32) hx hb d_BlockDesk_put_47 rfl ?_
      refine va_bast hx hb hK hP hD hS 1 0 rfl rfl (vp_in_nI (by omega) (by omega)) d_BlockDesk_put_48 (fun H locs hP hD hS => ?_)
      rw [pk_vb] at hP hD
      rw [nI_clamp (n := hs + d) (by omega)] at hP hD
      have hP : va_P (dC, dI) classes [(a0, .inr (0, [.ref a1, .ref a2, .int (nI rc), .int (nI bg), .ref a3, .int (nI ss), .ref a4, .int (nI (hs + d)), .int up, .int ch, .int wr])), (a4, .inl (k4, 8000, .inl (upd f (hs + d) (((v >>> ((nI (8 * n)).toInt64 &&& 63)).toInt32).toInt8.toInt32))))] H := hP
      have hD : va_D A [(a0, .inr (0, [.ref a1, .ref a2, .int (nI rc), .int (nI bg), .ref a3, .int (nI ss), .ref a4, .int (nI (hs + d)), .int up, .int ch, .int wr])), (a4, .inl (k4, 8000, .inl (upd f (hs + d) (((v >>> ((nI (8 * n)).toInt64 &&& 63)).toInt32).toInt8.toInt32))))] := hD
      refine lv_aload_n hx hb d_BlockDesk_put_49 rfl (lv_at hl 1 rfl) ?_
      refine lv_dup hx hb d_BlockDesk_put_50 rfl ?_
      refine va_get (D := (dC, dI)) (ci := 0) (v := .int (nI (hs + d))) (C := R_BlockDesk) (T := F_BlockDesk) (N := 11) hx hb hts hin0 hown hK hP 0 rfl rfl 7 (by decide) (hts (.fieldLink R_BlockDesk 35 "BlockDesk" "handSize" "I") (by decide +kernel)) (fun _ h9 => h9) rfl d_BlockDesk_put_51 ?_
      refine lv_iconst (v := nI 1) hx hb d_BlockDesk_put_54 (by decide +kernel) ?_
      refine lv_iadd hx hb d_BlockDesk_put_55 ?_
      refine xq_top (nI (hs + d + 1)) (nI_add _ _) ?_
      refine va_put (D := (dC, dI)) (ci := 0) (v := .int (nI (hs + d + 1))) (ty := .int) (C := R_BlockDesk) (T := F_BlockDesk) (N := 11) hx hb hts hin0 t_BlockDesk t_BlockDesk_ok n_BlockDesk hown hK hP hD hS 0 rfl rfl 7 (by decide) (hts (.fieldLink R_BlockDesk 35 "BlockDesk" "handSize" "I") (by decide +kernel)) (fun _ h9 => h9) rfl (by decide +kernel) rfl rfl (Nat.le_of_ble_eq_true rfl) d_BlockDesk_put_56 (fun H locs hP hD hS => ?_)
      have hP : va_P (dC, dI) classes [(a0, .inr (0, [.ref a1, .ref a2, .int (nI rc), .int (nI bg), .ref a3, .int (nI ss), .ref a4, .int (nI (hs + d + 1)), .int up, .int ch, .int wr])), (a4, .inl (k4, 8000, .inl (upd f (hs + d) (((v >>> ((nI (8 * n)).toInt64 &&& 63)).toInt32).toInt8.toInt32))))] H := hP
      have hD : va_D A [(a0, .inr (0, [.ref a1, .ref a2, .int (nI rc), .int (nI bg), .ref a3, .int (nI ss), .ref a4, .int (nI (hs + d + 1)), .int up, .int ch, .int wr])), (a4, .inl (k4, 8000, .inl (upd f (hs + d) (((v >>> ((nI (8 * n)).toInt64 &&& 63)).toInt32).toInt8.toInt32))))] := hD
      refine lv_iinc (v := zq_pd n) (lv' := [(4, .int (zq_pd n)), (0, .ref a0), (1, .long v), (3, .int (nI k))]) hx hb d_BlockDesk_put_59 hl (k := 0) rfl (xq_pd n) (by decide) rfl (fun ls hl => ?_)
      refine lv_goto (tgt := 26) hx hb d_BlockDesk_put_62 (by decide) ?_
      exact ih (d + 1) _ _ _ (by omega) (zq_app_s hI (by show _ = (zq_pbv v (k - 1 - d)).toInt8.toInt32; rw [show k - 1 - d = n by omega]; rfl)) (hP.sub [0, 1] rfl) (hD.sub [0, 1] (by decide) rfl) hS ls (lv_sub hl [0, 1, 2, 3] rfl)
set_option maxHeartbeats 4000000 in
set_option maxRecDepth 100000 in
theorem c_BlockDesk_put (l : Launch) (dC : Nat → ClassId) (dI : Nat → Nat → Nat) (sz : Nat) (a0 : Nat) (a1 : Nat) (a2 : Nat) (a3 : Nat) (a4 : Nat) (rc : Nat) (bg : Nat) (ss : Nat) (hs : Nat) (up : Int32) (ch : Int32) (wr : Int32) (k4 : ClassId) (f4 : Nat → Int32) (v : Int64) (n : Int32) (hhs : hs ≤ 8000) : Met l y_BlockDesk_put w_BlockDesk_put ({ frames := 1, cells := 0, slots := 0, locals := 22 }) (va_Pc [.ref a0, .long v, .int n] (fun U => U.heap.size = sz ∧ va_P (dC, dI) classes [(a0, .inr (0, [.ref a1, .ref a2, .int (nI rc), .int (nI bg), .ref a3, .int (nI ss), .ref a4, .int (nI hs), .int up, .int ch, .int wr])), (a4, .inl (k4, 8000, .inl f4))] U.heap ∧ va_K (dC, dI) classes [(k4, .byte)] U ∧ va_D (fun _ => True) [(a0, .inr (0, [.ref a1, .ref a2, .int (nI rc), .int (nI bg), .ref a3, .int (nI ss), .ref a4, .int (nI hs), .int up, .int ch, .int wr])), (a4, .inl (k4, 8000, .inl f4))])) (va_Qi (fun (r : Int32) (u : Nat × (Nat → Int32)) => (zq_okP up hs 8 n ∧ r = nI 1 ∧ u.1 = hs + n.toNatClampNeg ∧ zq_app f4 u.2 hs n.toNatClampNeg (fun z => (zq_pbv v (n.toNatClampNeg - 1 - z)).toInt8.toInt32)) ∨ (¬ zq_okP up hs 8 n ∧ r = nI 0 ∧ u = (hs, f4))) (fun (u : Nat × (Nat → Int32)) (t : State) => match u with | (hs', f') => va_P (dC, dI) classes [(a0, .inr (0, [.ref a1, .ref a2, .int (nI rc), .int (nI bg), .ref a3, .int (nI ss), .ref a4, .int (nI hs'), .int up, .int ch, .int wr])), (a4, .inl (k4, 8000, .inl f'))] t.heap ∧ va_K (dC, dI) classes [(k4, .byte)] t ∧ va_D (va_A [(a0, .inr (0, [.ref a1, .ref a2, .int (nI rc), .int (nI bg), .ref a3, .int (nI ss), .ref a4, .int (nI hs), .int up, .int ch, .int wr])), (a4, .inl (k4, 8000, .inl f4))] sz) [(a0, .inr (0, [.ref a1, .ref a2, .int (nI rc), .int (nI bg), .ref a3, .int (nI ss), .ref a4, .int (nI hs'), .int up, .int ch, .int wr])), (a4, .inl (k4, 8000, .inl f'))]) (va_A [(a0, .inr (0, [.ref a1, .ref a2, .int (nI rc), .int (nI bg), .ref a3, .int (nI ss), .ref a4, .int (nI hs), .int up, .int ch, .int wr])), (a4, .inl (k4, 8000, .inl f4))] sz)) 0 0 (va_A [(a0, .inr (0, [.ref a1, .ref a2, .int (nI rc), .int (nI bg), .ref a3, .int (nI ss), .ref a4, .int (nI hs), .int up, .int ch, .int wr])), (a4, .inl (k4, 8000, .inl f4))] sz) := by
  refine Met.ofW (cc := b_BlockDesk_put) (maxL := 5) (ret := (some .boolean)) (by decide) rfl ?_
  intro p e s m args below meth c s₁ B hml hv
  obtain ⟨rfl, hsz, hP, hK, hD0⟩ := hv
  have hx := B.exec
  have hb := B.bytes
  have hr := B.returns
  have hts := atoms_spec (ws := w_BlockDesk_put) B.pre
  have hown : s.vm.findClass R_BlockDesk = some m.cls := findClass_of_methodNamed B.named
  have hlocks := B.notSynchronized
  subst hsz
  have hD := hD0.self (sz := s.heap.size)
  generalize hAe : va_A [(a0, .inr (0, [.ref a1, .ref a2, .int (nI rc), .int (nI bg), .ref a3, .int (nI ss), .ref a4, .int (nI hs), .int up, .int ch, .int wr])), (a4, .inl (k4, 8000, .inl f4))] s.heap.size = A at hD ⊢
  have hA : ∀ q : Nat, s.heap.size ≤ q → A q := fun q h => by rw [← hAe]; exact Or.inr h
  have hS : va_S A s.heap s.heap [] := va_S.rf
  have hP : va_P (dC, dI) classes [(a0, .inr (0, [.ref a1, .ref a2, .int (nI rc), .int (nI bg), .ref a3, .int (nI ss), .ref a4, .int (nI hs), .int up, .int ch, .int wr])), (a4, .inl (k4, 8000, .inl f4))] s.heap := hP
  have hin0 : ∀ w ∈ u_ws R_BlockDesk F_BlockDesk 11, w ∈ w_BlockDesk_put := by decide +kernel
  have hl := lv_entry ([.ref a0, .long v, .int n]) (n := 5) (Nat.le_of_ble_eq_true rfl)
  rw [lg_entry_eq]
  generalize (lg_sl ([.ref a0, .long v, .int n]) ++ List.replicate (5 - (lg_sl ([.ref a0, .long v, .int n])).length) Slot.unset).toArray = ls at hl ⊢
  have hl : lv_has ls 5 [(0, .ref a0), (1, .long v), (3, .int n)] := hl
  refine lv_iload_n hx hb d_BlockDesk_put_0 rfl (lv_at hl 2 rfl) ?_
  refine lv_iconst (v := nI 1) hx hb d_BlockDesk_put_1 (by decide +kernel) ?_
  refine lv_icmp_lt (tgt := 19) hx hb d_BlockDesk_put_2 (by decide) (fun c_2 => ?_) (fun c_2 => ?_)
  · have c_2 : n.toInt < ((1 : Nat) : Int) := (xq_lt_r (by omega)).mp c_2
    refine lv_iconst (v := nI 0) hx hb d_BlockDesk_put_19 (by decide +kernel) ?_
    have hP9 := hP.sub (ws' := [(a0, .inr (0, [.ref a1, .ref a2, .int (nI rc), .int (nI bg), .ref a3, .int (nI ss), .ref a4, .int (nI hs), .int up, .int ch, .int wr])), (a4, .inl (k4, 8000, .inl f4))]) [0, 1] rfl
    have hD9 := hD.sub (ws' := [(a0, .inr (0, [.ref a1, .ref a2, .int (nI rc), .int (nI bg), .ref a3, .int (nI ss), .ref a4, .int (nI hs), .int up, .int ch, .int wr])), (a4, .inl (k4, 8000, .inl f4))]) [0, 1] (by decide) rfl
    have hK9 := hK.sub (tys' := [(k4, .byte)]) [0] rfl
    exact W.zret (v := nI 0) hx hb hr zq_nb0 (fun t ht hW => ⟨⟨nI 0, (hs, f4), rfl, Or.inr ⟨fun h9 => by have q1 := h9.1; have q2 := h9.2.1; have q3 := h9.2.2.1; have q4 := h9.2.2.2; first | omega | exact absurd c_4 q1 | exact (by rcases hno with h | h; exact q1 h; omega), rfl, rfl⟩, by rw [ht]; exact hP9, va_K.moved hW.alike hK9, hD9⟩, hS.F ht⟩) hS.2.2 d_BlockDesk_put_20
  · have c_2 : ¬ (n.toInt < ((1 : Nat) : Int)) := fun h9 => c_2 ((xq_lt_r (by omega)).mpr h9)
    refine lv_iload_n hx hb d_BlockDesk_put_5 rfl (lv_at hl 2 rfl) ?_
    refine lv_bipush (v := nI 8) hx hb d_BlockDesk_put_6 (by decide +kernel) ?_
    refine lv_icmp_gt (tgt := 19) hx hb d_BlockDesk_put_8 (by decide) (fun c_8 => ?_) (fun c_8 => ?_)
    · have c_8 : ((8 : Nat) : Int) < n.toInt := (xq_lt_l (by omega)).mp c_8
      refine lv_iconst (v := nI 0) hx hb d_BlockDesk_put_19 (by decide +kernel) ?_
      have hP9 := hP.sub (ws' := [(a0, .inr (0, [.ref a1, .ref a2, .int (nI rc), .int (nI bg), .ref a3, .int (nI ss), .ref a4, .int (nI hs), .int up, .int ch, .int wr])), (a4, .inl (k4, 8000, .inl f4))]) [0, 1] rfl
      have hD9 := hD.sub (ws' := [(a0, .inr (0, [.ref a1, .ref a2, .int (nI rc), .int (nI bg), .ref a3, .int (nI ss), .ref a4, .int (nI hs), .int up, .int ch, .int wr])), (a4, .inl (k4, 8000, .inl f4))]) [0, 1] (by decide) rfl
      have hK9 := hK.sub (tys' := [(k4, .byte)]) [0] rfl
      exact W.zret (v := nI 0) hx hb hr zq_nb0 (fun t ht hW => ⟨⟨nI 0, (hs, f4), rfl, Or.inr ⟨fun h9 => by have q1 := h9.1; have q2 := h9.2.1; have q3 := h9.2.2.1; have q4 := h9.2.2.2; first | omega | exact absurd c_4 q1 | exact (by rcases hno with h | h; exact q1 h; omega), rfl, rfl⟩, by rw [ht]; exact hP9, va_K.moved hW.alike hK9, hD9⟩, hS.F ht⟩) hS.2.2 d_BlockDesk_put_20
    · have c_8 : ¬ (((8 : Nat) : Int) < n.toInt) := fun h9 => c_8 ((xq_lt_l (by omega)).mpr h9)
      refine lv_aload_n hx hb d_BlockDesk_put_11 rfl (lv_at hl 0 rfl) ?_
      refine lv_iload_n hx hb d_BlockDesk_put_12 rfl (lv_at hl 2 rfl) ?_
      have hPc := hP.sub (ws' := [(a0, .inr (0, [.ref a1, .ref a2, .int (nI rc), .int (nI bg), .ref a3, .int (nI ss), .ref a4, .int (nI hs), .int up, .int ch, .int wr]))]) [0] rfl
      have hDc := hD.sub (ws' := [(a0, .inr (0, [.ref a1, .ref a2, .int (nI rc), .int (nI bg), .ref a3, .int (nI ss), .ref a4, .int (nI hs), .int up, .int ch, .int wr]))]) [0] (by decide) rfl
      have hKc := hK.sub (tys' := []) [] rfl
      have hFc := va_free (wc := [(a0, .inr (0, [.ref a1, .ref a2, .int (nI rc), .int (nI bg), .ref a3, .int (nI ss), .ref a4, .int (nI hs), .int up, .int ch, .int wr]))]) hD hS hA [0] rfl
      refine va_calli (va_runV (As := [.int n]) (rest := []) ⟨hx, hb, hml, hown, hts⟩ (c_BlockDesk_handTakes l dC dI s.heap.size a0 a1 a2 a3 a4 rc bg ss hs up ch wr n hhs) (cwV 1 hts g_BlockDesk_put_BlockDesk_handTakes rfl rfl rfl (by decide +kernel) ⟨Nat.le_of_ble_eq_true rfl, Nat.le_of_ble_eq_true rfl⟩) ⟨fun a U g mk q => by obtain ⟨q0, q1, qP, qK, qD⟩ := q; exact ⟨q0, q1, qP, va_K.moved (u := U) (U := U.calling g mk a) (Vm.Alike.refl U.vm) qK, qD⟩, va_recv hKc hPc (ci := 0) (q0 := 0) rfl rfl, fun U hU hW => ⟨rfl, by rw [hU], by rw [hU]; exact hPc, va_K.moved hW.alike hKc, hDc.weaken (fun _ _ _ _ => trivial)⟩⟩ rfl rfl hl.1 rfl (lv_room (Nat.le_of_ble_eq_true rfl)) d_BlockDesk_put_13 ⟨(Nat.zero_le _), (Nat.zero_le _)⟩) hS (fun q _ h => hFc q h) hFc (fun r_13 u t H1 locs ht hvm hw hB hz1 hk1 hS => ?_)
      obtain ⟨hP1, hK1, hD1⟩ := hB
      rw [ht] at hP1
      try dsimp only at hw
      obtain ⟨hP, hD⟩ := va_join (wr := [(a4, .inl (k4, 8000, .inl f4))]) (w1 := [(a0, .inr (0, [.ref a1, .ref a2, .int (nI rc), .int (nI bg), .ref a3, .int (nI ss), .ref a4, .int (nI hs), .int up, .int ch, .int wr]))]) hP hD [0] [1] rfl rfl (by decide) (by decide) hk1 hFc hP1 hD1
      generalize H1 = H at hP hS ⊢
      have hP : va_P (dC, dI) classes [(a4, .inl (k4, 8000, .inl f4)), (a0, .inr (0, [.ref a1, .ref a2, .int (nI rc), .int (nI bg), .ref a3, .int (nI ss), .ref a4, .int (nI hs), .int up, .int ch, .int wr]))] H := hP
      have hD : va_D A [(a4, .inl (k4, 8000, .inl f4)), (a0, .inr (0, [.ref a1, .ref a2, .int (nI rc), .int (nI bg), .ref a3, .int (nI ss), .ref a4, .int (nI hs), .int up, .int ch, .int wr]))] := hD
      rcases hw with ⟨rfl, hup, hn8⟩ | ⟨rfl, hno⟩
      · have h8 : True := trivial
        refine lv_if_ne (tgt := 21) hx hb d_BlockDesk_put_16 (by decide) (fun c_16 => ?_) (fun c_16 => ?_)
        · obtain ⟨k, -, rfl, hkI, hkN⟩ := xq_nat (x := n) (by omega)
          have hl : lv_has ls 5 [(0, .ref a0), (1, .long v), (3, .int (nI k))] := hl
          obtain ⟨k0, rfl⟩ : ∃ k0, k = k0 + 1 := ⟨k - 1, by omega⟩
          refine lv_iload_n hx hb d_BlockDesk_put_21 rfl (lv_at hl 2 rfl) ?_
          refine lv_iconst (v := nI 1) hx hb d_BlockDesk_put_22 (by decide +kernel) ?_
          refine lv_isub hx hb d_BlockDesk_put_23 ?_
          refine xq_top (nI (k0 + 1 - 1)) (pk_sub (by omega)) ?_
          refine lv_istore (lv' := [(4, .int (nI (k0 + 1 - 1))), (0, .ref a0), (1, .long v), (3, .int (nI (k0 + 1)))]) hx hb d_BlockDesk_put_24 hl (by decide) rfl (fun ls hl => ?_)
          refine lp_D_put (l := l) (meth := meth) hx hb hml hts hown hA a0 a1 a2 a3 a4 rc bg ss hs (k0 + 1) up ch wr k4 v f4 (by omega) (by omega) hK (fun f H locs hI hP hD hS ls hl => ?_) (k0 + 1) 0 f4 _ _ (by omega) zq_app_0 (hP.sub [1, 0] rfl) (hD.sub [1, 0] (by decide) rfl) hS ls (lv_sub hl [0, 1, 2, 3] rfl)
          refine lv_iconst (v := nI 1) hx hb d_BlockDesk_put_65 (by decide +kernel) ?_
          have hP9 := hP.sub (ws' := [(a0, .inr (0, [.ref a1, .ref a2, .int (nI rc), .int (nI bg), .ref a3, .int (nI ss), .ref a4, .int (nI (hs + (k0 + 1))), .int up, .int ch, .int wr])), (a4, .inl (k4, 8000, .inl f))]) [0, 1] rfl
          have hD9 := hD.sub (ws' := [(a0, .inr (0, [.ref a1, .ref a2, .int (nI rc), .int (nI bg), .ref a3, .int (nI ss), .ref a4, .int (nI (hs + (k0 + 1))), .int up, .int ch, .int wr])), (a4, .inl (k4, 8000, .inl f))]) [0, 1] (by decide) rfl
          have hK9 := hK.sub (tys' := [(k4, .byte)]) [0] rfl
          exact W.zret (v := nI 1) hx hb hr zq_nb1 (fun t ht hW => ⟨⟨nI 1, (hs + (k0 + 1), f), rfl, Or.inl ⟨⟨hup, by omega, by omega, by omega⟩, rfl, by rw [hkN], by rw [hkN]; exact hI⟩, by rw [ht]; exact hP9, va_K.moved hW.alike hK9, hD9⟩, hS.F ht⟩) hS.2.2 d_BlockDesk_put_66
        · exact absurd c_16 (xq_n0 (by omega) (by omega))
      · have h8 : True := trivial
        refine lv_if_ne (tgt := 21) hx hb d_BlockDesk_put_16 (by decide) (fun c_16 => ?_) (fun c_16 => ?_)
        · exact absurd rfl c_16
        · refine lv_iconst (v := nI 0) hx hb d_BlockDesk_put_19 (by decide +kernel) ?_
          have hP9 := hP.sub (ws' := [(a0, .inr (0, [.ref a1, .ref a2, .int (nI rc), .int (nI bg), .ref a3, .int (nI ss), .ref a4, .int (nI hs), .int up, .int ch, .int wr])), (a4, .inl (k4, 8000, .inl f4))]) [1, 0] rfl
          have hD9 := hD.sub (ws' := [(a0, .inr (0, [.ref a1, .ref a2, .int (nI rc), .int (nI bg), .ref a3, .int (nI ss), .ref a4, .int (nI hs), .int up, .int ch, .int wr])), (a4, .inl (k4, 8000, .inl f4))]) [1, 0] (by decide) rfl
          have hK9 := hK.sub (tys' := [(k4, .byte)]) [0] rfl
          exact W.zret (v := nI 0) hx hb hr zq_nb0 (fun t ht hW => ⟨⟨nI 0, (hs, f4), rfl, Or.inr ⟨fun h9 => by have q1 := h9.1; have q2 := h9.2.1; have q3 := h9.2.2.1; have q4 := h9.2.2.2; first | omega | exact absurd c_4 q1 | exact (by rcases hno with h | h; exact q1 h; omega), rfl, rfl⟩, by rw [ht]; exact hP9, va_K.moved hW.alike hK9, hD9⟩, hS.F ht⟩) hS.2.2 d_BlockDesk_put_20
set_option maxHeartbeats 4000000 in
set_option maxRecDepth 100000 in
theorem c_Arrays_rangeCheck (l : Launch) (dC : Nat → ClassId) (dI : Nat → Nat → Nat) (sz : Nat) (na : Nat) (fa : Nat) (ta : Nat) (h1 : fa ≤ ta) (h2 : ta ≤ na) (h3 : na ≤ 16000) : Met l y_Arrays_rangeCheck w_Arrays_rangeCheck ({ frames := 0, cells := 0, slots := 0, locals := 0 }) (va_Pc [.int (nI na), .int (nI fa), .int (nI ta)] (fun U => U.heap.size = sz ∧ va_P (dC, dI) classes [] U.heap ∧ va_K (dC, dI) classes [] U ∧ va_D (fun _ => True) [])) (va_Qv (fun (_ : Unit) => True) (fun (_ : Unit) (t : State) => va_P (dC, dI) classes [] t.heap ∧ va_K (dC, dI) classes [] t ∧ va_D (va_A [] sz) []) (va_A [] sz)) 0 0 (va_A [] sz) := by
  refine Met.ofW (cc := b_Arrays_rangeCheck) (maxL := 3) (ret := none) (by decide) rfl ?_
  intro p e s m args below meth c s₁ B hml hv
  obtain ⟨rfl, hsz, hP, hK, hD0⟩ := hv
  have hx := B.exec
  have hb := B.bytes
  have hr := B.returns
  have hts := atoms_spec (ws := w_Arrays_rangeCheck) B.pre
  have hown : s.vm.findClass R_Arrays = some m.cls := findClass_of_methodNamed B.named
  have hlocks := B.notSynchronized
  subst hsz
  have hD := hD0.self (sz := s.heap.size)
  generalize hAe : va_A [] s.heap.size = A at hD ⊢
  have hA : ∀ q : Nat, s.heap.size ≤ q → A q := fun q h => by rw [← hAe]; exact Or.inr h
  have hS : va_S A s.heap s.heap [] := va_S.rf
  have hP : va_P (dC, dI) classes [] s.heap := hP
  have hl := lv_entry ([.int (nI na), .int (nI fa), .int (nI ta)]) (n := 3) (Nat.le_of_ble_eq_true rfl)
  rw [lg_entry_eq]
  generalize (lg_sl ([.int (nI na), .int (nI fa), .int (nI ta)]) ++ List.replicate (3 - (lg_sl ([.int (nI na), .int (nI fa), .int (nI ta)])).length) Slot.unset).toArray = ls at hl ⊢
  have hl : lv_has ls 3 [(0, .int (nI na)), (1, .int (nI fa)), (2, .int (nI ta))] := hl
  refine lv_iload_n hx hb d_Arrays_rangeCheck_0 rfl (lv_at hl 1 rfl) ?_
  refine lv_iload_n hx hb d_Arrays_rangeCheck_1 rfl (lv_at hl 2 rfl) ?_
  refine lv_icmp_le (tgt := 46) hx hb d_Arrays_rangeCheck_2 (by decide) (fun c_2 => ?_) (fun c_2 => ?_)
  · have c_2 : fa ≤ ta := (nI_leI (by omega) (by omega)).mp c_2
    refine lv_iload_n hx hb d_Arrays_rangeCheck_46 rfl (lv_at hl 1 rfl) ?_
    refine lv_if_ge (tgt := 59) hx hb d_Arrays_rangeCheck_47 (by decide) (fun c_47 => ?_) (fun c_47 => ?_)
    · have c_47 : 0 ≤ ((fa : Nat) : Int) := (xq_le_0n (by omega)).mp c_47
      refine lv_iload_n hx hb d_Arrays_rangeCheck_59 rfl (lv_at hl 2 rfl) ?_
      refine lv_iload_n hx hb d_Arrays_rangeCheck_60 rfl (lv_at hl 0 rfl) ?_
      refine lv_icmp_le (tgt := 73) hx hb d_Arrays_rangeCheck_61 (by decide) (fun c_61 => ?_) (fun c_61 => ?_)
      · have c_61 : ta ≤ na := (nI_leI (by omega) (by omega)).mp c_61
        have hP9 := hP.sub (ws' := []) [] rfl
        have hD9 := hD.sub (ws' := []) [] (by decide) rfl
        have hK9 := hK.sub (tys' := []) [] rfl
        exact W.vret hx hb hr (fun t ht hW => ⟨⟨(), rfl, trivial, by rw [ht]; exact hP9, va_K.moved hW.alike hK9, hD9⟩, hS.F ht⟩) hS.2.2 d_Arrays_rangeCheck_73
      · have c_61 : ¬ (ta ≤ na) := fun h9 => c_61 ((nI_leI (by omega) (by omega)).mpr h9)
        exact absurd h2 c_61
    · have c_47 : ¬ (0 ≤ ((fa : Nat) : Int)) := fun h9 => c_47 ((xq_le_0n (by omega)).mpr h9)
      exact absurd (by omega) c_47
  · have c_2 : ¬ (fa ≤ ta) := fun h9 => c_2 ((nI_leI (by omega) (by omega)).mpr h9)
    exact absurd h1 c_2
set_option maxHeartbeats 4000000 in
set_option maxRecDepth 100000 in
theorem lp_fill {p : Program} {l : Launch} {e : Env} {s : State} {m : MethodId} {args : Array Value} {below : List Frame} {meth : Method} {c : Code} {Q : State → Prop} {A : Nat → Prop} {dC : Nat → ClassId} {dI : Nat → Nat → Nat} (hx : p.tables.exec = Jvm.exec) (hb : c.code = b_Arrays_fill) (hml : c.maxLocals = 5) (hts : ∀ w ∈ w_Arrays_fill, w.before args s = true) (hown : s.vm.findClass R_Arrays = some m.cls) (hA : ∀ q : Nat, s.heap.size ≤ q → A q) (ax : Nat) (fa : Nat) (ta : Nat) (k : Nat) (kx : ClassId) (w0 : Int32) (f4 : Nat → Int32) (hk : ta = fa + k) (hk8 : ta ≤ 8000) (hK : va_K (dC, dI) classes [(kx, .byte)] s) (KK : ∀ (f : Nat → Int32) (H : Heap) (locs : List Loc), zq_app f4 f fa k (fun _ => w0.toInt8.toInt32) → va_P (dC, dI) classes [(ax, .inl (kx, 8000, .inl f))] H → va_D A [(ax, .inl (kx, 8000, .inl f))] → va_S A s.heap H locs → ∀ ls : Array Slot, lv_has ls 5 [(4, .int (nI (fa + k))), (0, .ref ax), (1, .int (nI fa)), (2, .int (nI ta)), (3, .int w0.toInt8.toInt32)] → W p l e ({ frames := 1, cells := 0, slots := 0, locals := 22 } : Room) s m args below meth c H locs 0 0 Q (F0 m 27 ls [])) : ∀ (n d : Nat) (f : Nat → Int32) (H : Heap) (locs : List Loc), d + n = k → zq_app f4 f fa d (fun _ => w0.toInt8.toInt32) → va_P (dC, dI) classes [(ax, .inl (kx, 8000, .inl f))] H → va_D A [(ax, .inl (kx, 8000, .inl f))] → va_S A s.heap H locs → ∀ ls : Array Slot, lv_has ls 5 [(4, .int (nI (fa + d))), (0, .ref ax), (1, .int (nI fa)), (2, .int (nI ta)), (3, .int w0.toInt8.toInt32)] → W p l e ({ frames := 1, cells := 0, slots := 0, locals := 22 } : Room) s m args below meth c H locs 0 0 Q (F0 m 10 ls []) := by
  intro n
  induction n with
  | zero =>
    intro d f H locs hdn hI hP hD hS ls hl
    have hdn : k = d := by omega
    subst hdn
    have hl : lv_has ls 5 [(4, .int (nI (fa + k))), (0, .ref ax), (1, .int (nI fa)), (2, .int (nI ta)), (3, .int w0.toInt8.toInt32)] := hl
    refine lv_iload hx hb d_Arrays_fill_10 (lv_at hl 0 rfl) ?_
    refine lv_iload_n hx hb d_Arrays_fill_12 rfl (lv_at hl 3 rfl) ?_
    refine lv_icmp_ge (tgt := 27) hx hb d_Arrays_fill_13 (by decide) (fun c_13 => ?_) (fun c_13 => ?_)
    · have c_13 : ta ≤ fa + k := (nI_leI (by omega) (by omega)).mp c_13
      exact KK f _ _ hI (hP.sub [0] rfl) (hD.sub [0] (by decide) rfl) hS ls (lv_sub hl [0, 1, 2, 3, 4] rfl)
    · have c_13 : ¬ (ta ≤ fa + k) := fun h9 => c_13 ((nI_leI (by omega) (by omega)).mpr h9)
      exact absurd (by omega) c_13
  | succ n ih =>
    intro d f H locs hdn hI hP hD hS ls hl
    have hl : lv_has ls 5 [(4, .int (nI (fa + d))), (0, .ref ax), (1, .int (nI fa)), (2, .int (nI ta)), (3, .int w0.toInt8.toInt32)] := hl
    refine lv_iload hx hb d_Arrays_fill_10 (lv_at hl 0 rfl) ?_
    refine lv_iload_n hx hb d_Arrays_fill_12 rfl (lv_at hl 3 rfl) ?_
    refine lv_icmp_ge (tgt := 27) hx hb d_Arrays_fill_13 (by decide) (fun c_13 => ?_) (fun c_13 => ?_)
    · have c_13 : ta ≤ fa + d := (nI_leI (by omega) (by omega)).mp c_13
      exact absurd c_13 (by omega)
    · have c_13 : ¬ (ta ≤ fa + d) := fun h9 => c_13 ((nI_leI (by omega) (by omega)).mpr h9)
      refine lv_aload_n hx hb d_Arrays_fill_16 rfl (lv_at hl 1 rfl) ?_
      refine lv_iload hx hb d_Arrays_fill_17 (lv_at hl 0 rfl) ?_
      refine lv_iload_n hx hb d_Arrays_fill_19 rfl (lv_at hl 4 rfl) ?_
      refine va_bast hx hb hK hP hD hS 0 0 rfl rfl (vp_in_nI (by omega) (by omega)) d_Arrays_fill_20 (fun H locs hP hD hS => ?_)
      rw [pk_vb] at hP hD
      rw [nI_clamp (n := fa + d) (by omega)] at hP hD
      have hP : va_P (dC, dI) classes [(ax, .inl (kx, 8000, .inl (upd f (fa + d) w0.toInt8.toInt32)))] H := hP
      have hD : va_D A [(ax, .inl (kx, 8000, .inl (upd f (fa + d) w0.toInt8.toInt32)))] := hD
      refine lv_iinc (v := nI (fa + d + 1)) (lv' := [(4, .int (nI (fa + d + 1))), (0, .ref ax), (1, .int (nI fa)), (2, .int (nI ta)), (3, .int w0.toInt8.toInt32)]) hx hb d_Arrays_fill_21 hl (k := 0) rfl (show nI (fa + d) + nI 1 = nI (fa + d + 1) from nI_add _ _) (by decide) rfl (fun ls hl => ?_)
      refine lv_goto (tgt := 10) hx hb d_Arrays_fill_24 (by decide) ?_
      exact ih (d + 1) _ _ _ (by omega) (zq_app_s hI rfl) hP hD hS ls (lv_sub hl [0, 1, 2, 3, 4] rfl)
set_option maxHeartbeats 4000000 in
set_option maxRecDepth 100000 in
theorem c_Arrays_fill (l : Launch) (dC : Nat → ClassId) (dI : Nat → Nat → Nat) (sz : Nat) (ax : Nat) (fa : Nat) (ta : Nat) (kx : ClassId) (w0 : Int32) (f4 : Nat → Int32) (hfa : fa ≤ ta) (hta : ta ≤ 8000) : Met l y_Arrays_fill w_Arrays_fill ({ frames := 1, cells := 0, slots := 0, locals := 22 }) (va_Pc [.ref ax, .int (nI fa), .int (nI ta), .int w0.toInt8.toInt32] (fun U => U.heap.size = sz ∧ va_P (dC, dI) classes [(ax, .inl (kx, 8000, .inl f4))] U.heap ∧ va_K (dC, dI) classes [(kx, .byte)] U ∧ va_D (fun _ => True) [(ax, .inl (kx, 8000, .inl f4))])) (va_Qv (fun (u : Nat → Int32) => zq_app f4 u fa (ta - fa) (fun _ => w0.toInt8.toInt32)) (fun (u : Nat → Int32) (t : State) => match u with | f' => va_P (dC, dI) classes [(ax, .inl (kx, 8000, .inl f'))] t.heap ∧ va_K (dC, dI) classes [(kx, .byte)] t ∧ va_D (va_A [(ax, .inl (kx, 8000, .inl f4))] sz) [(ax, .inl (kx, 8000, .inl f'))]) (va_A [(ax, .inl (kx, 8000, .inl f4))] sz)) 0 0 (va_A [(ax, .inl (kx, 8000, .inl f4))] sz) := by
  refine Met.ofW (cc := b_Arrays_fill) (maxL := 5) (ret := none) (by decide) rfl ?_
  intro p e s m args below meth c s₁ B hml hv
  obtain ⟨rfl, hsz, hP, hK, hD0⟩ := hv
  have hx := B.exec
  have hb := B.bytes
  have hr := B.returns
  have hts := atoms_spec (ws := w_Arrays_fill) B.pre
  have hown : s.vm.findClass R_Arrays = some m.cls := findClass_of_methodNamed B.named
  have hlocks := B.notSynchronized
  subst hsz
  have hD := hD0.self (sz := s.heap.size)
  generalize hAe : va_A [(ax, .inl (kx, 8000, .inl f4))] s.heap.size = A at hD ⊢
  have hA : ∀ q : Nat, s.heap.size ≤ q → A q := fun q h => by rw [← hAe]; exact Or.inr h
  have hS : va_S A s.heap s.heap [] := va_S.rf
  have hP : va_P (dC, dI) classes [(ax, .inl (kx, 8000, .inl f4))] s.heap := hP
  have hl := lv_entry ([.ref ax, .int (nI fa), .int (nI ta), .int w0.toInt8.toInt32]) (n := 5) (Nat.le_of_ble_eq_true rfl)
  rw [lg_entry_eq]
  generalize (lg_sl ([.ref ax, .int (nI fa), .int (nI ta), .int w0.toInt8.toInt32]) ++ List.replicate (5 - (lg_sl ([.ref ax, .int (nI fa), .int (nI ta), .int w0.toInt8.toInt32])).length) Slot.unset).toArray = ls at hl ⊢
  have hl : lv_has ls 5 [(0, .ref ax), (1, .int (nI fa)), (2, .int (nI ta)), (3, .int w0.toInt8.toInt32)] := hl
  refine lv_aload_n hx hb d_Arrays_fill_0 rfl (lv_at hl 0 rfl) ?_
  refine va_alen (v := nI 8000) hx hb hK hP 0 0 rfl rfl rfl d_Arrays_fill_1 ?_
  refine lv_iload_n hx hb d_Arrays_fill_2 rfl (lv_at hl 1 rfl) ?_
  refine lv_iload_n hx hb d_Arrays_fill_3 rfl (lv_at hl 2 rfl) ?_
  have hPc := hP.sub (ws' := []) [] rfl
  have hDc := hD.sub (ws' := []) [] (by decide) rfl
  have hKc := hK.sub (tys' := []) [] rfl
  have hFc := va_free (wc := []) hD hS hA [] rfl
  refine va_callv (va_runS (As := [.int (nI 8000), .int (nI fa), .int (nI ta)]) (rest := []) ⟨hx, hb, hml, hown, hts⟩ (c_Arrays_rangeCheck l dC dI s.heap.size 8000 fa ta (by omega) (by omega) (by omega)) (va_cwS 3 hts g_Arrays_fill_Arrays_rangeCheck rfl rfl rfl (by decide +kernel) ⟨Nat.le_of_ble_eq_true rfl, Nat.le_of_ble_eq_true rfl⟩) ⟨fun a U g mk q => by obtain ⟨q0, q1, qP, qK, qD⟩ := q; exact ⟨q0, q1, qP, va_K.moved (u := U) (U := U.calling g mk a) (Vm.Alike.refl U.vm) qK, qD⟩, fun U hU hW => ⟨rfl, by rw [hU], by rw [hU]; exact hPc, va_K.moved hW.alike hKc, hDc.weaken (fun _ _ _ _ => trivial)⟩⟩ rfl rfl hl.1 rfl (lv_room (Nat.le_of_ble_eq_true rfl)) d_Arrays_fill_4 ⟨(Nat.zero_le _), (Nat.zero_le _)⟩) hS (fun q _ h => hFc q h) hFc (fun u t H1 locs ht hvm hw hB hz1 hk1 hS => ?_)
  obtain ⟨hP1, hK1, hD1⟩ := hB
  rw [ht] at hP1
  try dsimp only at hw
  obtain ⟨hP, hD⟩ := va_join (wr := [(ax, .inl (kx, 8000, .inl f4))]) (w1 := []) hP hD [] [0] rfl rfl (by decide) (by decide) hk1 hFc hP1 hD1
  generalize H1 = H at hP hS ⊢
  have hP : va_P (dC, dI) classes [(ax, .inl (kx, 8000, .inl f4))] H := hP
  have hD : va_D A [(ax, .inl (kx, 8000, .inl f4))] := hD
  refine lv_iload_n hx hb d_Arrays_fill_7 rfl (lv_at hl 1 rfl) ?_
  refine lv_istore (lv' := [(4, .int (nI fa)), (0, .ref ax), (1, .int (nI fa)), (2, .int (nI ta)), (3, .int w0.toInt8.toInt32)]) hx hb d_Arrays_fill_8 hl (by decide) rfl (fun ls hl => ?_)
  obtain ⟨k, rfl⟩ : ∃ k, ta = fa + k := ⟨ta - fa, by omega⟩
  refine lp_fill (l := l) (meth := meth) hx hb hml hts hown hA ax fa (fa + k) k kx w0 f4 rfl hta hK (fun f H locs hI hP hD hS ls hl => ?_) k 0 f4 _ _ (by omega) zq_app_0 (hP.sub [0] rfl) (hD.sub [0] (by decide) rfl) hS ls (lv_sub hl [0, 1, 2, 3, 4] rfl)
  have hP9 := hP.sub (ws' := [(ax, .inl (kx, 8000, .inl f))]) [0] rfl
  have hD9 := hD.sub (ws' := [(ax, .inl (kx, 8000, .inl f))]) [0] (by decide) rfl
  have hK9 := hK.sub (tys' := [(kx, .byte)]) [0] rfl
  exact W.vret hx hb hr (fun t ht hW => ⟨⟨f, rfl, (by rw [show fa + k - fa = k by omega]; exact hI), by rw [ht]; exact hP9, va_K.moved hW.alike hK9, hD9⟩, hS.F ht⟩) hS.2.2 d_Arrays_fill_27
set_option maxHeartbeats 4000000 in
set_option maxRecDepth 100000 in
theorem c_BlockDesk_fill (l : Launch) (dC : Nat → ClassId) (dI : Nat → Nat → Nat) (sz : Nat) (a0 : Nat) (a1 : Nat) (a2 : Nat) (a3 : Nat) (a4 : Nat) (rc : Nat) (bg : Nat) (ss : Nat) (hs : Nat) (up : Int32) (ch : Int32) (wr : Int32) (k4 : ClassId) (f4 : Nat → Int32) (v : Int32) (n : Int32) (hhs : hs ≤ 8000) : Met l y_BlockDesk_fill w_BlockDesk_fill ({ frames := 2, cells := 0, slots := 0, locals := 46 }) (va_Pc [.ref a0, .int v, .int n] (fun U => U.heap.size = sz ∧ va_P (dC, dI) classes [(a0, .inr (0, [.ref a1, .ref a2, .int (nI rc), .int (nI bg), .ref a3, .int (nI ss), .ref a4, .int (nI hs), .int up, .int ch, .int wr])), (a4, .inl (k4, 8000, .inl f4))] U.heap ∧ va_K (dC, dI) classes [(k4, .byte)] U ∧ va_D (fun _ => True) [(a0, .inr (0, [.ref a1, .ref a2, .int (nI rc), .int (nI bg), .ref a3, .int (nI ss), .ref a4, .int (nI hs), .int up, .int ch, .int wr])), (a4, .inl (k4, 8000, .inl f4))])) (va_Qi (fun (r : Int32) (u : Nat × (Nat → Int32)) => (zq_okP up hs 8000 n ∧ r = nI 1 ∧ u.1 = hs + n.toNatClampNeg ∧ zq_app f4 u.2 hs n.toNatClampNeg (fun _ => v.toInt8.toInt32)) ∨ (¬ zq_okP up hs 8000 n ∧ r = nI 0 ∧ u = (hs, f4))) (fun (u : Nat × (Nat → Int32)) (t : State) => match u with | (hs', f') => va_P (dC, dI) classes [(a0, .inr (0, [.ref a1, .ref a2, .int (nI rc), .int (nI bg), .ref a3, .int (nI ss), .ref a4, .int (nI hs'), .int up, .int ch, .int wr])), (a4, .inl (k4, 8000, .inl f'))] t.heap ∧ va_K (dC, dI) classes [(k4, .byte)] t ∧ va_D (va_A [(a0, .inr (0, [.ref a1, .ref a2, .int (nI rc), .int (nI bg), .ref a3, .int (nI ss), .ref a4, .int (nI hs), .int up, .int ch, .int wr])), (a4, .inl (k4, 8000, .inl f4))] sz) [(a0, .inr (0, [.ref a1, .ref a2, .int (nI rc), .int (nI bg), .ref a3, .int (nI ss), .ref a4, .int (nI hs'), .int up, .int ch, .int wr])), (a4, .inl (k4, 8000, .inl f'))]) (va_A [(a0, .inr (0, [.ref a1, .ref a2, .int (nI rc), .int (nI bg), .ref a3, .int (nI ss), .ref a4, .int (nI hs), .int up, .int ch, .int wr])), (a4, .inl (k4, 8000, .inl f4))] sz)) 0 0 (va_A [(a0, .inr (0, [.ref a1, .ref a2, .int (nI rc), .int (nI bg), .ref a3, .int (nI ss), .ref a4, .int (nI hs), .int up, .int ch, .int wr])), (a4, .inl (k4, 8000, .inl f4))] sz) := by
  refine Met.ofW (cc := b_BlockDesk_fill) (maxL := 3) (ret := (some .boolean)) (by decide) rfl ?_
  intro p e s m args below meth c s₁ B hml hv
  obtain ⟨rfl, hsz, hP, hK, hD0⟩ := hv
  have hx := B.exec
  have hb := B.bytes
  have hr := B.returns
  have hts := atoms_spec (ws := w_BlockDesk_fill) B.pre
  have hown : s.vm.findClass R_BlockDesk = some m.cls := findClass_of_methodNamed B.named
  have hlocks := B.notSynchronized
  subst hsz
  have hD := hD0.self (sz := s.heap.size)
  generalize hAe : va_A [(a0, .inr (0, [.ref a1, .ref a2, .int (nI rc), .int (nI bg), .ref a3, .int (nI ss), .ref a4, .int (nI hs), .int up, .int ch, .int wr])), (a4, .inl (k4, 8000, .inl f4))] s.heap.size = A at hD ⊢
  have hA : ∀ q : Nat, s.heap.size ≤ q → A q := fun q h => by rw [← hAe]; exact Or.inr h
  have hS : va_S A s.heap s.heap [] := va_S.rf
  have hP : va_P (dC, dI) classes [(a0, .inr (0, [.ref a1, .ref a2, .int (nI rc), .int (nI bg), .ref a3, .int (nI ss), .ref a4, .int (nI hs), .int up, .int ch, .int wr])), (a4, .inl (k4, 8000, .inl f4))] s.heap := hP
  have hin0 : ∀ w ∈ u_ws R_BlockDesk F_BlockDesk 11, w ∈ w_BlockDesk_fill := by decide +kernel
  have hl := lv_entry ([.ref a0, .int v, .int n]) (n := 3) (Nat.le_of_ble_eq_true rfl)
  rw [lg_entry_eq]
  generalize (lg_sl ([.ref a0, .int v, .int n]) ++ List.replicate (3 - (lg_sl ([.ref a0, .int v, .int n])).length) Slot.unset).toArray = ls at hl ⊢
  have hl : lv_has ls 3 [(0, .ref a0), (1, .int v), (2, .int n)] := hl
  refine lv_iload_n hx hb d_BlockDesk_fill_0 rfl (lv_at hl 2 rfl) ?_
  refine lv_iconst (v := nI 1) hx hb d_BlockDesk_fill_1 (by decide +kernel) ?_
  refine lv_icmp_lt (tgt := 20) hx hb d_BlockDesk_fill_2 (by decide) (fun c_2 => ?_) (fun c_2 => ?_)
  · have c_2 : n.toInt < ((1 : Nat) : Int) := (xq_lt_r (by omega)).mp c_2
    refine lv_iconst (v := nI 0) hx hb d_BlockDesk_fill_20 (by decide +kernel) ?_
    have hP9 := hP.sub (ws' := [(a0, .inr (0, [.ref a1, .ref a2, .int (nI rc), .int (nI bg), .ref a3, .int (nI ss), .ref a4, .int (nI hs), .int up, .int ch, .int wr])), (a4, .inl (k4, 8000, .inl f4))]) [0, 1] rfl
    have hD9 := hD.sub (ws' := [(a0, .inr (0, [.ref a1, .ref a2, .int (nI rc), .int (nI bg), .ref a3, .int (nI ss), .ref a4, .int (nI hs), .int up, .int ch, .int wr])), (a4, .inl (k4, 8000, .inl f4))]) [0, 1] (by decide) rfl
    have hK9 := hK.sub (tys' := [(k4, .byte)]) [0] rfl
    exact W.zret (v := nI 0) hx hb hr zq_nb0 (fun t ht hW => ⟨⟨nI 0, (hs, f4), rfl, Or.inr ⟨fun h9 => by have q1 := h9.1; have q2 := h9.2.1; have q3 := h9.2.2.1; have q4 := h9.2.2.2; first | omega | exact absurd c_4 q1 | exact (by rcases hno with h | h; exact q1 h; omega), rfl, rfl⟩, by rw [ht]; exact hP9, va_K.moved hW.alike hK9, hD9⟩, hS.F ht⟩) hS.2.2 d_BlockDesk_fill_21
  · have c_2 : ¬ (n.toInt < ((1 : Nat) : Int)) := fun h9 => c_2 ((xq_lt_r (by omega)).mpr h9)
    refine lv_iload_n hx hb d_BlockDesk_fill_5 rfl (lv_at hl 2 rfl) ?_
    refine lv_sipush (v := nI 8000) hx hb d_BlockDesk_fill_6 (by decide +kernel) ?_
    refine lv_icmp_gt (tgt := 20) hx hb d_BlockDesk_fill_9 (by decide) (fun c_9 => ?_) (fun c_9 => ?_)
    · have c_9 : ((8000 : Nat) : Int) < n.toInt := (xq_lt_l (by omega)).mp c_9
      refine lv_iconst (v := nI 0) hx hb d_BlockDesk_fill_20 (by decide +kernel) ?_
      have hP9 := hP.sub (ws' := [(a0, .inr (0, [.ref a1, .ref a2, .int (nI rc), .int (nI bg), .ref a3, .int (nI ss), .ref a4, .int (nI hs), .int up, .int ch, .int wr])), (a4, .inl (k4, 8000, .inl f4))]) [0, 1] rfl
      have hD9 := hD.sub (ws' := [(a0, .inr (0, [.ref a1, .ref a2, .int (nI rc), .int (nI bg), .ref a3, .int (nI ss), .ref a4, .int (nI hs), .int up, .int ch, .int wr])), (a4, .inl (k4, 8000, .inl f4))]) [0, 1] (by decide) rfl
      have hK9 := hK.sub (tys' := [(k4, .byte)]) [0] rfl
      exact W.zret (v := nI 0) hx hb hr zq_nb0 (fun t ht hW => ⟨⟨nI 0, (hs, f4), rfl, Or.inr ⟨fun h9 => by have q1 := h9.1; have q2 := h9.2.1; have q3 := h9.2.2.1; have q4 := h9.2.2.2; first | omega | exact absurd c_4 q1 | exact (by rcases hno with h | h; exact q1 h; omega), rfl, rfl⟩, by rw [ht]; exact hP9, va_K.moved hW.alike hK9, hD9⟩, hS.F ht⟩) hS.2.2 d_BlockDesk_fill_21
    · have c_9 : ¬ (((8000 : Nat) : Int) < n.toInt) := fun h9 => c_9 ((xq_lt_l (by omega)).mpr h9)
      refine lv_aload_n hx hb d_BlockDesk_fill_12 rfl (lv_at hl 0 rfl) ?_
      refine lv_iload_n hx hb d_BlockDesk_fill_13 rfl (lv_at hl 2 rfl) ?_
      have hPc := hP.sub (ws' := [(a0, .inr (0, [.ref a1, .ref a2, .int (nI rc), .int (nI bg), .ref a3, .int (nI ss), .ref a4, .int (nI hs), .int up, .int ch, .int wr]))]) [0] rfl
      have hDc := hD.sub (ws' := [(a0, .inr (0, [.ref a1, .ref a2, .int (nI rc), .int (nI bg), .ref a3, .int (nI ss), .ref a4, .int (nI hs), .int up, .int ch, .int wr]))]) [0] (by decide) rfl
      have hKc := hK.sub (tys' := []) [] rfl
      have hFc := va_free (wc := [(a0, .inr (0, [.ref a1, .ref a2, .int (nI rc), .int (nI bg), .ref a3, .int (nI ss), .ref a4, .int (nI hs), .int up, .int ch, .int wr]))]) hD hS hA [0] rfl
      refine va_calli (va_runV (As := [.int n]) (rest := []) ⟨hx, hb, hml, hown, hts⟩ (c_BlockDesk_handTakes l dC dI s.heap.size a0 a1 a2 a3 a4 rc bg ss hs up ch wr n hhs) (cwV 1 hts g_BlockDesk_fill_BlockDesk_handTakes rfl rfl rfl (by decide +kernel) ⟨Nat.le_of_ble_eq_true rfl, Nat.le_of_ble_eq_true rfl⟩) ⟨fun a U g mk q => by obtain ⟨q0, q1, qP, qK, qD⟩ := q; exact ⟨q0, q1, qP, va_K.moved (u := U) (U := U.calling g mk a) (Vm.Alike.refl U.vm) qK, qD⟩, va_recv hKc hPc (ci := 0) (q0 := 0) rfl rfl, fun U hU hW => ⟨rfl, by rw [hU], by rw [hU]; exact hPc, va_K.moved hW.alike hKc, hDc.weaken (fun _ _ _ _ => trivial)⟩⟩ rfl rfl hl.1 rfl (lv_room (Nat.le_of_ble_eq_true rfl)) d_BlockDesk_fill_14 ⟨(Nat.zero_le _), (Nat.zero_le _)⟩) hS (fun q _ h => hFc q h) hFc (fun r_14 u t H1 locs ht hvm hw hB hz1 hk1 hS => ?_)
      obtain ⟨hP1, hK1, hD1⟩ := hB
      rw [ht] at hP1
      try dsimp only at hw
      obtain ⟨hP, hD⟩ := va_join (wr := [(a4, .inl (k4, 8000, .inl f4))]) (w1 := [(a0, .inr (0, [.ref a1, .ref a2, .int (nI rc), .int (nI bg), .ref a3, .int (nI ss), .ref a4, .int (nI hs), .int up, .int ch, .int wr]))]) hP hD [0] [1] rfl rfl (by decide) (by decide) hk1 hFc hP1 hD1
      generalize H1 = H at hP hS ⊢
      have hP : va_P (dC, dI) classes [(a4, .inl (k4, 8000, .inl f4)), (a0, .inr (0, [.ref a1, .ref a2, .int (nI rc), .int (nI bg), .ref a3, .int (nI ss), .ref a4, .int (nI hs), .int up, .int ch, .int wr]))] H := hP
      have hD : va_D A [(a4, .inl (k4, 8000, .inl f4)), (a0, .inr (0, [.ref a1, .ref a2, .int (nI rc), .int (nI bg), .ref a3, .int (nI ss), .ref a4, .int (nI hs), .int up, .int ch, .int wr]))] := hD
      rcases hw with ⟨rfl, hup, hn8⟩ | ⟨rfl, hno⟩
      · have h8 : True := trivial
        refine lv_if_ne (tgt := 22) hx hb d_BlockDesk_fill_17 (by decide) (fun c_17 => ?_) (fun c_17 => ?_)
        · obtain ⟨k, -, rfl, hkI, hkN⟩ := xq_nat (x := n) (by omega)
          have hl : lv_has ls 3 [(0, .ref a0), (1, .int v), (2, .int (nI k))] := hl
          refine lv_aload_n hx hb d_BlockDesk_fill_22 rfl (lv_at hl 0 rfl) ?_
          refine va_get (D := (dC, dI)) (ci := 0) (v := .ref a4) (C := R_BlockDesk) (T := F_BlockDesk) (N := 11) hx hb hts hin0 hown hK hP 1 rfl rfl 6 (by decide) (hts (.fieldLink R_BlockDesk 20 "BlockDesk" "handBytes" "[B") (by decide +kernel)) (fun _ h9 => h9) rfl d_BlockDesk_fill_23 ?_
          refine lv_aload_n hx hb d_BlockDesk_fill_26 rfl (lv_at hl 0 rfl) ?_
          refine va_get (D := (dC, dI)) (ci := 0) (v := .int (nI hs)) (C := R_BlockDesk) (T := F_BlockDesk) (N := 11) hx hb hts hin0 hown hK hP 1 rfl rfl 7 (by decide) (hts (.fieldLink R_BlockDesk 35 "BlockDesk" "handSize" "I") (by decide +kernel)) (fun _ h9 => h9) rfl d_BlockDesk_fill_27 ?_
          refine lv_aload_n hx hb d_BlockDesk_fill_30 rfl (lv_at hl 0 rfl) ?_
          refine va_get (D := (dC, dI)) (ci := 0) (v := .int (nI hs)) (C := R_BlockDesk) (T := F_BlockDesk) (N := 11) hx hb hts hin0 hown hK hP 1 rfl rfl 7 (by decide) (hts (.fieldLink R_BlockDesk 35 "BlockDesk" "handSize" "I") (by decide +kernel)) (fun _ h9 => h9) rfl d_BlockDesk_fill_31 ?_
          refine lv_iload_n hx hb d_BlockDesk_fill_34 rfl (lv_at hl 2 rfl) ?_
          refine lv_iadd hx hb d_BlockDesk_fill_35 ?_
          refine xq_top (nI (hs + k)) (nI_add _ _) ?_
          refine lv_iload_n hx hb d_BlockDesk_fill_36 rfl (lv_at hl 1 rfl) ?_
          refine lv_i2b (v := v.toInt8.toInt32) hx hb d_BlockDesk_fill_37 rfl ?_
          have hPc := hP.sub (ws' := [(a4, .inl (k4, 8000, .inl f4))]) [0] rfl
          have hDc := hD.sub (ws' := [(a4, .inl (k4, 8000, .inl f4))]) [0] (by decide) rfl
          have hKc := hK.sub (tys' := [(k4, .byte)]) [0] rfl
          have hFc := va_free (wc := [(a4, .inl (k4, 8000, .inl f4))]) hD hS hA [0] rfl
          refine va_callv (va_runS (As := [.ref a4, .int (nI hs), .int (nI (hs + k)), .int v.toInt8.toInt32]) (rest := []) ⟨hx, hb, hml, hown, hts⟩ (c_Arrays_fill l dC dI H.size a4 hs (hs + k) k4 v f4 (by omega) (by omega)) (va_cwS 4 hts g_BlockDesk_fill_Arrays_fill rfl rfl rfl (by decide +kernel) ⟨Nat.le_of_ble_eq_true rfl, Nat.le_of_ble_eq_true rfl⟩) ⟨fun a U g mk q => by obtain ⟨q0, q1, qP, qK, qD⟩ := q; exact ⟨q0, q1, qP, va_K.moved (u := U) (U := U.calling g mk a) (Vm.Alike.refl U.vm) qK, qD⟩, fun U hU hW => ⟨rfl, by rw [hU], by rw [hU]; exact hPc, va_K.moved hW.alike hKc, hDc.weaken (fun _ _ _ _ => trivial)⟩⟩ rfl rfl hl.1 rfl (lv_room (Nat.le_of_ble_eq_true rfl)) d_BlockDesk_fill_38 ⟨(Nat.zero_le _), (Nat.zero_le _)⟩) hS (fun q _ h => hFc q h) hFc (fun u t H1 locs ht hvm hw hB hz1 hk1 hS => ?_)
          obtain ⟨f', rfl⟩ : ∃ z, z = u := ⟨_, rfl⟩
          obtain ⟨hP1, hK1, hD1⟩ := hB
          rw [ht] at hP1
          try dsimp only at hw
          obtain ⟨hP, hD⟩ := va_join (wr := [(a0, .inr (0, [.ref a1, .ref a2, .int (nI rc), .int (nI bg), .ref a3, .int (nI ss), .ref a4, .int (nI hs), .int up, .int ch, .int wr]))]) (w1 := [(a4, .inl (k4, 8000, .inl f'))]) hP hD [0] [1] rfl rfl (by decide) (by decide) hk1 hFc hP1 hD1
          generalize H1 = H at hP hS ⊢
          have hP : va_P (dC, dI) classes [(a0, .inr (0, [.ref a1, .ref a2, .int (nI rc), .int (nI bg), .ref a3, .int (nI ss), .ref a4, .int (nI hs), .int up, .int ch, .int wr])), (a4, .inl (k4, 8000, .inl f'))] H := hP
          have hD : va_D A [(a0, .inr (0, [.ref a1, .ref a2, .int (nI rc), .int (nI bg), .ref a3, .int (nI ss), .ref a4, .int (nI hs), .int up, .int ch, .int wr])), (a4, .inl (k4, 8000, .inl f'))] := hD
          rw [show hs + k - hs = k by omega] at hw
          refine lv_aload_n hx hb d_BlockDesk_fill_41 rfl (lv_at hl 0 rfl) ?_
          refine lv_dup hx hb d_BlockDesk_fill_42 rfl ?_
          refine va_get (D := (dC, dI)) (ci := 0) (v := .int (nI hs)) (C := R_BlockDesk) (T := F_BlockDesk) (N := 11) hx hb hts hin0 hown hK hP 0 rfl rfl 7 (by decide) (hts (.fieldLink R_BlockDesk 35 "BlockDesk" "handSize" "I") (by decide +kernel)) (fun _ h9 => h9) rfl d_BlockDesk_fill_43 ?_
          refine lv_iload_n hx hb d_BlockDesk_fill_46 rfl (lv_at hl 2 rfl) ?_
          refine lv_iadd hx hb d_BlockDesk_fill_47 ?_
          refine xq_top (nI (hs + k)) (nI_add _ _) ?_
          refine va_put (D := (dC, dI)) (ci := 0) (v := .int (nI (hs + k))) (ty := .int) (C := R_BlockDesk) (T := F_BlockDesk) (N := 11) hx hb hts hin0 t_BlockDesk t_BlockDesk_ok n_BlockDesk hown hK hP hD hS 0 rfl rfl 7 (by decide) (hts (.fieldLink R_BlockDesk 35 "BlockDesk" "handSize" "I") (by decide +kernel)) (fun _ h9 => h9) rfl (by decide +kernel) rfl rfl (Nat.le_of_ble_eq_true rfl) d_BlockDesk_fill_48 (fun H locs hP hD hS => ?_)
          have hP : va_P (dC, dI) classes [(a0, .inr (0, [.ref a1, .ref a2, .int (nI rc), .int (nI bg), .ref a3, .int (nI ss), .ref a4, .int (nI (hs + k)), .int up, .int ch, .int wr])), (a4, .inl (k4, 8000, .inl f'))] H := hP
          have hD : va_D A [(a0, .inr (0, [.ref a1, .ref a2, .int (nI rc), .int (nI bg), .ref a3, .int (nI ss), .ref a4, .int (nI (hs + k)), .int up, .int ch, .int wr])), (a4, .inl (k4, 8000, .inl f'))] := hD
          refine lv_iconst (v := nI 1) hx hb d_BlockDesk_fill_51 (by decide +kernel) ?_
          have hP9 := hP.sub (ws' := [(a0, .inr (0, [.ref a1, .ref a2, .int (nI rc), .int (nI bg), .ref a3, .int (nI ss), .ref a4, .int (nI (hs + k)), .int up, .int ch, .int wr])), (a4, .inl (k4, 8000, .inl f'))]) [0, 1] rfl
          have hD9 := hD.sub (ws' := [(a0, .inr (0, [.ref a1, .ref a2, .int (nI rc), .int (nI bg), .ref a3, .int (nI ss), .ref a4, .int (nI (hs + k)), .int up, .int ch, .int wr])), (a4, .inl (k4, 8000, .inl f'))]) [0, 1] (by decide) rfl
          have hK9 := hK.sub (tys' := [(k4, .byte)]) [0] rfl
          exact W.zret (v := nI 1) hx hb hr zq_nb1 (fun t ht hW => ⟨⟨nI 1, (hs + k, f'), rfl, Or.inl ⟨⟨hup, by omega, by omega, by omega⟩, rfl, by rw [hkN], by rw [hkN]; exact hw⟩, by rw [ht]; exact hP9, va_K.moved hW.alike hK9, hD9⟩, hS.F ht⟩) hS.2.2 d_BlockDesk_fill_52
        · exact absurd c_17 (xq_n0 (by omega) (by omega))
      · have h8 : True := trivial
        refine lv_if_ne (tgt := 22) hx hb d_BlockDesk_fill_17 (by decide) (fun c_17 => ?_) (fun c_17 => ?_)
        · exact absurd rfl c_17
        · refine lv_iconst (v := nI 0) hx hb d_BlockDesk_fill_20 (by decide +kernel) ?_
          have hP9 := hP.sub (ws' := [(a0, .inr (0, [.ref a1, .ref a2, .int (nI rc), .int (nI bg), .ref a3, .int (nI ss), .ref a4, .int (nI hs), .int up, .int ch, .int wr])), (a4, .inl (k4, 8000, .inl f4))]) [1, 0] rfl
          have hD9 := hD.sub (ws' := [(a0, .inr (0, [.ref a1, .ref a2, .int (nI rc), .int (nI bg), .ref a3, .int (nI ss), .ref a4, .int (nI hs), .int up, .int ch, .int wr])), (a4, .inl (k4, 8000, .inl f4))]) [1, 0] (by decide) rfl
          have hK9 := hK.sub (tys' := [(k4, .byte)]) [0] rfl
          exact W.zret (v := nI 0) hx hb hr zq_nb0 (fun t ht hW => ⟨⟨nI 0, (hs, f4), rfl, Or.inr ⟨fun h9 => by have q1 := h9.1; have q2 := h9.2.1; have q3 := h9.2.2.1; have q4 := h9.2.2.2; first | omega | exact absurd c_4 q1 | exact (by rcases hno with h | h; exact q1 h; omega), rfl, rfl⟩, by rw [ht]; exact hP9, va_K.moved hW.alike hK9, hD9⟩, hS.F ht⟩) hS.2.2 d_BlockDesk_fill_21
end
section
set_option maxHeartbeats 4000000 in
set_option maxRecDepth 100000 in
theorem c_BlockDesk_record (l : Launch) (dC : Nat → ClassId) (dI : Nat → Nat → Nat) (sz : Nat) (a0 : Nat) (a1 : Nat) (a2 : Nat) (a3 : Nat) (a4 : Nat) (rc : Nat) (bg : Nat) (ss : Nat) (hs : Nat) (up : Int32) (ch : Int32) (wr : Int32) (k1 : ClassId) (k2 : ClassId) (k4 : ClassId) (nJ : Nat) (nS : Nat) (N : Nat) (tu : Nat) (f1 : Nat → Int32) (f2 : Nat → Int32) (f4 : Nat → Int32) (hrc : rc < nS) (hnS : nS = 125 * N + 1) (hnJ : nJ = 500 * N) (hN : N ≤ 32) (htu : f2 rc = nI tu) (htb : tu ≤ 16000) (h4 : 4 * rc ≤ tu) (hhs : hs ≤ 8000) (hfit : ∀ z, z < hs → fits .byte (.int (f4 z)) = true) : Met l y_BlockDesk_record w_BlockDesk_record ({ frames := 2, cells := 0, slots := 0, locals := 46 }) (va_Pc [.ref a0] (fun U => U.heap.size = sz ∧ va_P (dC, dI) classes [(a0, .inr (0, [.ref a1, .ref a2, .int (nI rc), .int (nI bg), .ref a3, .int (nI ss), .ref a4, .int (nI hs), .int up, .int ch, .int wr])), (a1, .inl (k1, nJ, .inl f1)), (a2, .inl (k2, nS, .inl f2)), (a4, .inl (k4, 8000, .inl f4))] U.heap ∧ va_K (dC, dI) classes [(k1, .byte), (k2, .int), (k4, .byte)] U ∧ va_D (fun _ => True) [(a0, .inr (0, [.ref a1, .ref a2, .int (nI rc), .int (nI bg), .ref a3, .int (nI ss), .ref a4, .int (nI hs), .int up, .int ch, .int wr])), (a1, .inl (k1, nJ, .inl f1)), (a2, .inl (k2, nS, .inl f2)), (a4, .inl (k4, 8000, .inl f4))])) (va_Qi (fun (r : Int32) (u : Nat × Int32 × Nat × Int32 × Int32 × (Nat → Int32) × (Nat → Int32)) => ((up = 0 ∨ 500 * N < tu + 4 + hs) ∧ r = nI 0 ∧ u = (rc, up, hs, ch, wr, f1, f2)) ∨ (¬ up = 0 ∧ tu + 4 + hs ≤ 500 * N ∧ r = nI 2 ∧ ∃ (up1 : Int32) (hs1 : Nat) (ch1 wr1 : Int32), (nI 0, up1, hs1, ch1, wr1) = zq_wb up hs ch wr (nI ((tu + 4 + hs - 1) / 500 - (tu / 500) + 1)) ∧ u = (rc, up1, hs1, ch1, wr1, f1, f2)) ∨ (¬ up = 0 ∧ tu + 4 + hs ≤ 500 * N ∧ r = nI 1 ∧ ∃ (up1 ch1 wr1 : Int32) (fx : Nat → Int32), (nI 1, up1, hs, ch1, wr1) = zq_wb up hs ch wr (nI ((tu + 4 + hs - 1) / 500 - (tu / 500) + 1)) ∧ zq_app f1 fx (tu + 4) hs f4 ∧ u = (rc + 1, up1, 0, ch1, wr1, fx, upd f2 (rc + 1) (nI (tu + 4 + hs))))) (fun (u : Nat × Int32 × Nat × Int32 × Int32 × (Nat → Int32) × (Nat → Int32)) (t : State) => match u with | (rc', up', hs', ch', wr', f', f2') => va_P (dC, dI) classes [(a0, .inr (0, [.ref a1, .ref a2, .int (nI rc'), .int (nI bg), .ref a3, .int (nI ss), .ref a4, .int (nI hs'), .int up', .int ch', .int wr'])), (a1, .inl (k1, nJ, .inl f')), (a2, .inl (k2, nS, .inl f2')), (a4, .inl (k4, 8000, .inl f4))] t.heap ∧ va_K (dC, dI) classes [(k1, .byte), (k2, .int), (k4, .byte)] t ∧ va_D (va_A [(a0, .inr (0, [.ref a1, .ref a2, .int (nI rc), .int (nI bg), .ref a3, .int (nI ss), .ref a4, .int (nI hs), .int up, .int ch, .int wr])), (a1, .inl (k1, nJ, .inl f1)), (a2, .inl (k2, nS, .inl f2)), (a4, .inl (k4, 8000, .inl f4))] sz) [(a0, .inr (0, [.ref a1, .ref a2, .int (nI rc'), .int (nI bg), .ref a3, .int (nI ss), .ref a4, .int (nI hs'), .int up', .int ch', .int wr'])), (a1, .inl (k1, nJ, .inl f')), (a2, .inl (k2, nS, .inl f2')), (a4, .inl (k4, 8000, .inl f4))]) (va_A [(a0, .inr (0, [.ref a1, .ref a2, .int (nI rc), .int (nI bg), .ref a3, .int (nI ss), .ref a4, .int (nI hs), .int up, .int ch, .int wr])), (a1, .inl (k1, nJ, .inl f1)), (a2, .inl (k2, nS, .inl f2)), (a4, .inl (k4, 8000, .inl f4))] sz)) 0 0 (va_A [(a0, .inr (0, [.ref a1, .ref a2, .int (nI rc), .int (nI bg), .ref a3, .int (nI ss), .ref a4, .int (nI hs), .int up, .int ch, .int wr])), (a1, .inl (k1, nJ, .inl f1)), (a2, .inl (k2, nS, .inl f2)), (a4, .inl (k4, 8000, .inl f4))] sz) := by
  refine Met.ofW (cc := b_BlockDesk_record) (maxL := 5) (ret := (some .int)) (by decide) rfl ?_
  intro p e s m args below meth c s₁ B hml hv
  obtain ⟨rfl, hsz, hP, hK, hD0⟩ := hv
  have hx := B.exec
  have hb := B.bytes
  have hr := B.returns
  have hts := atoms_spec (ws := w_BlockDesk_record) B.pre
  have hown : s.vm.findClass R_BlockDesk = some m.cls := findClass_of_methodNamed B.named
  have hlocks := B.notSynchronized
  subst hsz
  have hD := hD0.self (sz := s.heap.size)
  generalize hAe : va_A [(a0, .inr (0, [.ref a1, .ref a2, .int (nI rc), .int (nI bg), .ref a3, .int (nI ss), .ref a4, .int (nI hs), .int up, .int ch, .int wr])), (a1, .inl (k1, nJ, .inl f1)), (a2, .inl (k2, nS, .inl f2)), (a4, .inl (k4, 8000, .inl f4))] s.heap.size = A at hD ⊢
  have hA : ∀ q : Nat, s.heap.size ≤ q → A q := fun q h => by rw [← hAe]; exact Or.inr h
  have hS : va_S A s.heap s.heap [] := va_S.rf
  have hP : va_P (dC, dI) classes [(a0, .inr (0, [.ref a1, .ref a2, .int (nI rc), .int (nI bg), .ref a3, .int (nI ss), .ref a4, .int (nI hs), .int up, .int ch, .int wr])), (a1, .inl (k1, nJ, .inl f1)), (a2, .inl (k2, nS, .inl f2)), (a4, .inl (k4, 8000, .inl f4))] s.heap := hP
  have hin0 : ∀ w ∈ u_ws R_BlockDesk F_BlockDesk 11, w ∈ w_BlockDesk_record := by decide +kernel
  have hl := lv_entry ([.ref a0]) (n := 5) (Nat.le_of_ble_eq_true rfl)
  rw [lg_entry_eq]
  generalize (lg_sl ([.ref a0]) ++ List.replicate (5 - (lg_sl ([.ref a0])).length) Slot.unset).toArray = ls at hl ⊢
  have hl : lv_has ls 5 [(0, .ref a0)] := hl
  refine lv_aload_n hx hb d_BlockDesk_record_0 rfl (lv_at hl 0 rfl) ?_
  refine va_get (D := (dC, dI)) (ci := 0) (v := .int up) (C := R_BlockDesk) (T := F_BlockDesk) (N := 11) hx hb hts hin0 hown hK hP 0 rfl rfl 8 (by decide) (hts (.fieldLink R_BlockDesk 23 "BlockDesk" "up" "Z") (by decide +kernel)) (fun _ h9 => h9) rfl d_BlockDesk_record_1 ?_
  refine lv_if_ne (tgt := 9) hx hb d_BlockDesk_record_4 (by decide) (fun c_4 => ?_) (fun c_4 => ?_)
  · refine lv_aload_n hx hb d_BlockDesk_record_9 rfl (lv_at hl 0 rfl) ?_
    have hPc := hP.sub (ws' := [(a0, .inr (0, [.ref a1, .ref a2, .int (nI rc), .int (nI bg), .ref a3, .int (nI ss), .ref a4, .int (nI hs), .int up, .int ch, .int wr])), (a2, .inl (k2, nS, .inl f2))]) [0, 2] rfl
    have hDc := hD.sub (ws' := [(a0, .inr (0, [.ref a1, .ref a2, .int (nI rc), .int (nI bg), .ref a3, .int (nI ss), .ref a4, .int (nI hs), .int up, .int ch, .int wr])), (a2, .inl (k2, nS, .inl f2))]) [0, 2] (by decide) rfl
    have hKc := hK.sub (tys' := [(k2, .int)]) [1] rfl
    have hFc := va_free (wc := [(a0, .inr (0, [.ref a1, .ref a2, .int (nI rc), .int (nI bg), .ref a3, .int (nI ss), .ref a4, .int (nI hs), .int up, .int ch, .int wr])), (a2, .inl (k2, nS, .inl f2))]) hD hS hA [0, 2] rfl
    refine va_calli (va_runV (As := []) (rest := []) ⟨hx, hb, hml, hown, hts⟩ (c_BlockDesk_usedPlaces l dC dI s.heap.size a0 a1 a2 a3 a4 rc bg ss hs up ch wr k2 nS f2 hrc (by omega)) (cwV 0 hts g_BlockDesk_record_BlockDesk_usedPlaces rfl rfl rfl (by decide +kernel) ⟨Nat.le_of_ble_eq_true rfl, Nat.le_of_ble_eq_true rfl⟩) ⟨fun a U g mk q => by obtain ⟨q0, q1, qP, qK, qD⟩ := q; exact ⟨q0, q1, qP, va_K.moved (u := U) (U := U.calling g mk a) (Vm.Alike.refl U.vm) qK, qD⟩, va_recv hKc hPc (ci := 0) (q0 := 0) rfl rfl, fun U hU hW => ⟨rfl, by rw [hU], by rw [hU]; exact hPc, va_K.moved hW.alike hKc, hDc.weaken (fun _ _ _ _ => trivial)⟩⟩ rfl rfl hl.1 rfl (lv_room (Nat.le_of_ble_eq_true rfl)) d_BlockDesk_record_10 ⟨(Nat.zero_le _), (Nat.zero_le _)⟩) hS (fun q _ h => hFc q h) hFc (fun r_10 u t H1 locs ht hvm hw hB hz1 hk1 hS => ?_)
    obtain ⟨hP1, hK1, hD1⟩ := hB
    rw [ht] at hP1
    try dsimp only at hw
    obtain ⟨hP, hD⟩ := va_join (wr := [(a1, .inl (k1, nJ, .inl f1)), (a4, .inl (k4, 8000, .inl f4))]) (w1 := [(a0, .inr (0, [.ref a1, .ref a2, .int (nI rc), .int (nI bg), .ref a3, .int (nI ss), .ref a4, .int (nI hs), .int up, .int ch, .int wr])), (a2, .inl (k2, nS, .inl f2))]) hP hD [0, 2] [1, 3] rfl rfl (by decide) (by decide) hk1 hFc hP1 hD1
    generalize H1 = H at hP hS ⊢
    have hP : va_P (dC, dI) classes [(a1, .inl (k1, nJ, .inl f1)), (a4, .inl (k4, 8000, .inl f4)), (a0, .inr (0, [.ref a1, .ref a2, .int (nI rc), .int (nI bg), .ref a3, .int (nI ss), .ref a4, .int (nI hs), .int up, .int ch, .int wr])), (a2, .inl (k2, nS, .inl f2))] H := hP
    have hD : va_D A [(a1, .inl (k1, nJ, .inl f1)), (a4, .inl (k4, 8000, .inl f4)), (a0, .inr (0, [.ref a1, .ref a2, .int (nI rc), .int (nI bg), .ref a3, .int (nI ss), .ref a4, .int (nI hs), .int up, .int ch, .int wr])), (a2, .inl (k2, nS, .inl f2))] := hD
    obtain rfl : r_10 = nI tu := hw.trans htu
    refine lv_istore_n (lv' := [(1, .int (nI tu)), (0, .ref a0)]) hx hb d_BlockDesk_record_13 rfl hl (by decide) rfl (fun ls hl => ?_)
    refine lv_iload_n hx hb d_BlockDesk_record_14 rfl (lv_at hl 0 rfl) ?_
    refine lv_iconst (v := nI 4) hx hb d_BlockDesk_record_15 (by decide +kernel) ?_
    refine lv_iadd hx hb d_BlockDesk_record_16 ?_
    refine xq_top (nI (tu + 4)) (nI_add _ _) ?_
    refine lv_aload_n hx hb d_BlockDesk_record_17 rfl (lv_at hl 1 rfl) ?_
    refine va_get (D := (dC, dI)) (ci := 0) (v := .int (nI hs)) (C := R_BlockDesk) (T := F_BlockDesk) (N := 11) hx hb hts hin0 hown hK hP 2 rfl rfl 7 (by decide) (hts (.fieldLink R_BlockDesk 35 "BlockDesk" "handSize" "I") (by decide +kernel)) (fun _ h9 => h9) rfl d_BlockDesk_record_18 ?_
    refine lv_iadd hx hb d_BlockDesk_record_21 ?_
    refine xq_top (nI (tu + 4 + hs)) (nI_add _ _) ?_
    refine lv_istore_n (lv' := [(2, .int (nI (tu + 4 + hs))), (1, .int (nI tu)), (0, .ref a0)]) hx hb d_BlockDesk_record_22 rfl hl (by decide) rfl (fun ls hl => ?_)
    refine lv_iload_n hx hb d_BlockDesk_record_23 rfl (lv_at hl 0 rfl) ?_
    refine lv_aload_n hx hb d_BlockDesk_record_24 rfl (lv_at hl 2 rfl) ?_
    refine va_get (D := (dC, dI)) (ci := 0) (v := .ref a1) (C := R_BlockDesk) (T := F_BlockDesk) (N := 11) hx hb hts hin0 hown hK hP 2 rfl rfl 0 (by decide) (hts (.fieldLink R_BlockDesk 9 "BlockDesk" "journal" "[B") (by decide +kernel)) (fun _ h9 => h9) rfl d_BlockDesk_record_25 ?_
    refine va_alen (v := nI nJ) hx hb hK hP 0 0 rfl rfl rfl d_BlockDesk_record_28 ?_
    refine lv_icmp_le (tgt := 34) hx hb d_BlockDesk_record_29 (by decide) (fun c_29 => ?_) (fun c_29 => ?_)
    · have c_29 : tu + 4 + hs ≤ nJ := (nI_leI (by omega) (by omega)).mp c_29
      refine lv_iload_n hx hb d_BlockDesk_record_34 rfl (lv_at hl 1 rfl) ?_
      refine lv_sipush (v := nI 500) hx hb d_BlockDesk_record_35 (by decide +kernel) ?_
      refine lv_idiv hx hb d_BlockDesk_record_38 (by decide +kernel) ?_
      refine xq_top (nI (tu / 500)) (pk_div (by omega) (by omega) (by omega)) ?_
      refine lv_istore_n (lv' := [(3, .int (nI (tu / 500))), (2, .int (nI (tu + 4 + hs))), (1, .int (nI tu)), (0, .ref a0)]) hx hb d_BlockDesk_record_39 rfl hl (by decide) rfl (fun ls hl => ?_)
      refine lv_iload_n hx hb d_BlockDesk_record_40 rfl (lv_at hl 1 rfl) ?_
      refine lv_iconst (v := nI 1) hx hb d_BlockDesk_record_41 (by decide +kernel) ?_
      refine lv_isub hx hb d_BlockDesk_record_42 ?_
      refine xq_top (nI (tu + 4 + hs - 1)) (pk_sub (by omega)) ?_
      refine lv_sipush (v := nI 500) hx hb d_BlockDesk_record_43 (by decide +kernel) ?_
      refine lv_idiv hx hb d_BlockDesk_record_46 (by decide +kernel) ?_
      refine xq_top (nI ((tu + 4 + hs - 1) / 500)) (pk_div (by omega) (by omega) (by omega)) ?_
      refine lv_istore (lv' := [(4, .int (nI ((tu + 4 + hs - 1) / 500))), (3, .int (nI (tu / 500))), (2, .int (nI (tu + 4 + hs))), (1, .int (nI tu)), (0, .ref a0)]) hx hb d_BlockDesk_record_47 hl (by decide) rfl (fun ls hl => ?_)
      refine lv_aload_n hx hb d_BlockDesk_record_49 rfl (lv_at hl 4 rfl) ?_
      refine lv_iload hx hb d_BlockDesk_record_50 (lv_at hl 0 rfl) ?_
      refine lv_iload_n hx hb d_BlockDesk_record_52 rfl (lv_at hl 1 rfl) ?_
      refine lv_isub hx hb d_BlockDesk_record_53 ?_
      refine xq_top (nI ((tu + 4 + hs - 1) / 500 - (tu / 500))) (pk_sub (by omega)) ?_
      refine lv_iconst (v := nI 1) hx hb d_BlockDesk_record_54 (by decide +kernel) ?_
      refine lv_iadd hx hb d_BlockDesk_record_55 ?_
      refine xq_top (nI ((tu + 4 + hs - 1) / 500 - (tu / 500) + 1)) (nI_add _ _) ?_
      have hPc := hP.sub (ws' := [(a0, .inr (0, [.ref a1, .ref a2, .int (nI rc), .int (nI bg), .ref a3, .int (nI ss), .ref a4, .int (nI hs), .int up, .int ch, .int wr]))]) [2] rfl
      have hDc := hD.sub (ws' := [(a0, .inr (0, [.ref a1, .ref a2, .int (nI rc), .int (nI bg), .ref a3, .int (nI ss), .ref a4, .int (nI hs), .int up, .int ch, .int wr]))]) [2] (by decide) rfl
      have hKc := hK.sub (tys' := []) [] rfl
      have hFc := va_free (wc := [(a0, .inr (0, [.ref a1, .ref a2, .int (nI rc), .int (nI bg), .ref a3, .int (nI ss), .ref a4, .int (nI hs), .int up, .int ch, .int wr]))]) hD hS hA [2] rfl
      refine va_calli (va_runV (As := [.int (nI ((tu + 4 + hs - 1) / 500 - (tu / 500) + 1))]) (rest := []) ⟨hx, hb, hml, hown, hts⟩ (c_BlockDesk_writeBlocks l dC dI H.size a0 a1 a2 a3 a4 rc bg ss hs up ch wr (nI ((tu + 4 + hs - 1) / 500 - (tu / 500) + 1)) ) (cwV 1 hts g_BlockDesk_record_BlockDesk_writeBlocks rfl rfl rfl (by decide +kernel) ⟨Nat.le_of_ble_eq_true rfl, Nat.le_of_ble_eq_true rfl⟩) ⟨fun a U g mk q => by obtain ⟨q0, q1, qP, qK, qD⟩ := q; exact ⟨q0, q1, qP, va_K.moved (u := U) (U := U.calling g mk a) (Vm.Alike.refl U.vm) qK, qD⟩, va_recv hKc hPc (ci := 0) (q0 := 0) rfl rfl, fun U hU hW => ⟨rfl, by rw [hU], by rw [hU]; exact hPc, va_K.moved hW.alike hKc, hDc.weaken (fun _ _ _ _ => trivial)⟩⟩ rfl rfl hl.1 rfl (lv_room (Nat.le_of_ble_eq_true rfl)) d_BlockDesk_record_56 ⟨(Nat.zero_le _), (Nat.zero_le _)⟩) hS (fun q _ h => hFc q h) hFc (fun r_56 u t H1 locs ht hvm hw hB hz1 hk1 hS => ?_)
      obtain ⟨up1, hs1, ch1, wr1⟩ := u
      obtain ⟨hP1, hK1, hD1⟩ := hB
      rw [ht] at hP1
      try dsimp only at hw
      obtain ⟨hP, hD⟩ := va_join (wr := [(a1, .inl (k1, nJ, .inl f1)), (a4, .inl (k4, 8000, .inl f4)), (a2, .inl (k2, nS, .inl f2))]) (w1 := [(a0, .inr (0, [.ref a1, .ref a2, .int (nI rc), .int (nI bg), .ref a3, .int (nI ss), .ref a4, .int (nI hs1), .int up1, .int ch1, .int wr1]))]) hP hD [2] [0, 1, 3] rfl rfl (by decide) (by decide) hk1 hFc hP1 hD1
      generalize H1 = H at hP hS ⊢
      have hP : va_P (dC, dI) classes [(a1, .inl (k1, nJ, .inl f1)), (a4, .inl (k4, 8000, .inl f4)), (a2, .inl (k2, nS, .inl f2)), (a0, .inr (0, [.ref a1, .ref a2, .int (nI rc), .int (nI bg), .ref a3, .int (nI ss), .ref a4, .int (nI hs1), .int up1, .int ch1, .int wr1]))] H := hP
      have hD : va_D A [(a1, .inl (k1, nJ, .inl f1)), (a4, .inl (k4, 8000, .inl f4)), (a2, .inl (k2, nS, .inl f2)), (a0, .inr (0, [.ref a1, .ref a2, .int (nI rc), .int (nI bg), .ref a3, .int (nI ss), .ref a4, .int (nI hs1), .int up1, .int ch1, .int wr1]))] := hD
      rcases zq_wb_split hw with ⟨rfl, hw⟩ | ⟨rfl, hw⟩
      · have h8 : True := trivial
        refine lv_if_ne (tgt := 64) hx hb d_BlockDesk_record_59 (by decide) (fun c_59 => ?_) (fun c_59 => ?_)
        · exact absurd rfl c_59
        · refine lv_iconst (v := nI 2) hx hb d_BlockDesk_record_62 (by decide +kernel) ?_
          have hP9 := hP.sub (ws' := [(a0, .inr (0, [.ref a1, .ref a2, .int (nI rc), .int (nI bg), .ref a3, .int (nI ss), .ref a4, .int (nI hs1), .int up1, .int ch1, .int wr1])), (a1, .inl (k1, nJ, .inl f1)), (a2, .inl (k2, nS, .inl f2)), (a4, .inl (k4, 8000, .inl f4))]) [3, 0, 2, 1] rfl
          have hD9 := hD.sub (ws' := [(a0, .inr (0, [.ref a1, .ref a2, .int (nI rc), .int (nI bg), .ref a3, .int (nI ss), .ref a4, .int (nI hs1), .int up1, .int ch1, .int wr1])), (a1, .inl (k1, nJ, .inl f1)), (a2, .inl (k2, nS, .inl f2)), (a4, .inl (k4, 8000, .inl f4))]) [3, 0, 2, 1] (by decide) rfl
          have hK9 := hK.sub (tys' := [(k1, .byte), (k2, .int), (k4, .byte)]) [0, 1, 2] rfl
          exact W.iret (v := nI 2) hx hb hr (fun t ht hW => ⟨⟨nI 2, (rc, up1, hs1, ch1, wr1, f1, f2), rfl, Or.inr (Or.inl ⟨c_4, by omega, rfl, up1, hs1, ch1, wr1, hw, rfl⟩), by rw [ht]; exact hP9, va_K.moved hW.alike hK9, hD9⟩, hS.F ht⟩) hS.2.2 d_BlockDesk_record_63
      · have h8 : True := trivial
        have e9 : hs = hs1 := by rcases zq_wb_r hw with ⟨q9, -⟩ | ⟨-, -, q9⟩; exact absurd q9.symm zq_01; exact q9.symm
        subst e9
        have hP : va_P (dC, dI) classes [(a1, .inl (k1, nJ, .inl f1)), (a4, .inl (k4, 8000, .inl f4)), (a2, .inl (k2, nS, .inl f2)), (a0, .inr (0, [.ref a1, .ref a2, .int (nI rc), .int (nI bg), .ref a3, .int (nI ss), .ref a4, .int (nI hs), .int up1, .int ch1, .int wr1]))] H := hP
        have hD : va_D A [(a1, .inl (k1, nJ, .inl f1)), (a4, .inl (k4, 8000, .inl f4)), (a2, .inl (k2, nS, .inl f2)), (a0, .inr (0, [.ref a1, .ref a2, .int (nI rc), .int (nI bg), .ref a3, .int (nI ss), .ref a4, .int (nI hs), .int up1, .int ch1, .int wr1]))] := hD
        refine lv_if_ne (tgt := 64) hx hb d_BlockDesk_record_59 (by decide) (fun c_59 => ?_) (fun c_59 => ?_)
        · refine lv_aload_n hx hb d_BlockDesk_record_64 rfl (lv_at hl 4 rfl) ?_
          refine va_get (D := (dC, dI)) (ci := 0) (v := .ref a4) (C := R_BlockDesk) (T := F_BlockDesk) (N := 11) hx hb hts hin0 hown hK hP 3 rfl rfl 6 (by decide) (hts (.fieldLink R_BlockDesk 20 "BlockDesk" "handBytes" "[B") (by decide +kernel)) (fun _ h9 => h9) rfl d_BlockDesk_record_65 ?_
          refine lv_iconst (v := nI 0) hx hb d_BlockDesk_record_68 (by decide +kernel) ?_
          refine lv_aload_n hx hb d_BlockDesk_record_69 rfl (lv_at hl 4 rfl) ?_
          refine va_get (D := (dC, dI)) (ci := 0) (v := .ref a1) (C := R_BlockDesk) (T := F_BlockDesk) (N := 11) hx hb hts hin0 hown hK hP 3 rfl rfl 0 (by decide) (hts (.fieldLink R_BlockDesk 9 "BlockDesk" "journal" "[B") (by decide +kernel)) (fun _ h9 => h9) rfl d_BlockDesk_record_70 ?_
          refine lv_iload_n hx hb d_BlockDesk_record_73 rfl (lv_at hl 3 rfl) ?_
          refine lv_iconst (v := nI 4) hx hb d_BlockDesk_record_74 (by decide +kernel) ?_
          refine lv_iadd hx hb d_BlockDesk_record_75 ?_
          refine xq_top (nI (tu + 4)) (nI_add _ _) ?_
          refine lv_aload_n hx hb d_BlockDesk_record_76 rfl (lv_at hl 4 rfl) ?_
          refine va_get (D := (dC, dI)) (ci := 0) (v := .int (nI hs)) (C := R_BlockDesk) (T := F_BlockDesk) (N := 11) hx hb hts hin0 hown hK hP 3 rfl rfl 7 (by decide) (hts (.fieldLink R_BlockDesk 35 "BlockDesk" "handSize" "I") (by decide +kernel)) (fun _ h9 => h9) rfl d_BlockDesk_record_77 ?_
          refine va_copyi (ty := .byte) hx hb (hml.trans hl.1.symm) hown (hts (.methodLink R_BlockDesk 51 arraycopyName) (by decide +kernel)) (hts (.native arraycopyName) (by decide +kernel)) (hts (.static arraycopyName) (by decide +kernel)) (hts (.initialized "java/lang/System") (by decide +kernel)) hK hP hD hS 1 0 2 0 rfl rfl rfl rfl rfl (nI_pos (by omega)) (nI_pos (by omega)) (nI_pos (by omega)) (by rw [nI_clamp (by omega), nI_clamp (by omega)]; omega) (by rw [nI_clamp (by omega), nI_clamp (by omega)]; omega) (by rw [nI_clamp (by omega), nI_clamp (by omega)]; intro z hz; rw [Nat.zero_add]; exact hfit z hz) (Nat.le_of_ble_eq_true rfl) (Nat.le_of_ble_eq_true rfl) d_BlockDesk_record_80 (fun H locs hP hD hS => ?_)
          rw [nI_clamp (n := 0) (by omega), nI_clamp (n := tu + 4) (by omega), nI_clamp (n := hs) (by omega)] at hP hD
          have hP : va_P (dC, dI) classes [(a1, .inl (k1, nJ, .inl (va_cpy f4 f1 0 (tu + 4) hs))), (a4, .inl (k4, 8000, .inl f4)), (a2, .inl (k2, nS, .inl f2)), (a0, .inr (0, [.ref a1, .ref a2, .int (nI rc), .int (nI bg), .ref a3, .int (nI ss), .ref a4, .int (nI hs), .int up1, .int ch1, .int wr1]))] H := hP
          have hD : va_D A [(a1, .inl (k1, nJ, .inl (va_cpy f4 f1 0 (tu + 4) hs))), (a4, .inl (k4, 8000, .inl f4)), (a2, .inl (k2, nS, .inl f2)), (a0, .inr (0, [.ref a1, .ref a2, .int (nI rc), .int (nI bg), .ref a3, .int (nI ss), .ref a4, .int (nI hs), .int up1, .int ch1, .int wr1]))] := hD
          refine lv_aload_n hx hb d_BlockDesk_record_83 rfl (lv_at hl 4 rfl) ?_
          refine lv_dup hx hb d_BlockDesk_record_84 rfl ?_
          refine va_get (D := (dC, dI)) (ci := 0) (v := .int (nI rc)) (C := R_BlockDesk) (T := F_BlockDesk) (N := 11) hx hb hts hin0 hown hK hP 3 rfl rfl 2 (by decide) (hts (.fieldLink R_BlockDesk 57 "BlockDesk" "records" "I") (by decide +kernel)) (fun _ h9 => h9) rfl d_BlockDesk_record_85 ?_
          refine lv_iconst (v := nI 1) hx hb d_BlockDesk_record_88 (by decide +kernel) ?_
          refine lv_iadd hx hb d_BlockDesk_record_89 ?_
          refine xq_top (nI (rc + 1)) (nI_add _ _) ?_
          refine va_put (D := (dC, dI)) (ci := 0) (v := .int (nI (rc + 1))) (ty := .int) (C := R_BlockDesk) (T := F_BlockDesk) (N := 11) hx hb hts hin0 t_BlockDesk t_BlockDesk_ok n_BlockDesk hown hK hP hD hS 3 rfl rfl 2 (by decide) (hts (.fieldLink R_BlockDesk 57 "BlockDesk" "records" "I") (by decide +kernel)) (fun _ h9 => h9) rfl (by decide +kernel) rfl rfl (Nat.le_of_ble_eq_true rfl) d_BlockDesk_record_90 (fun H locs hP hD hS => ?_)
          have hP : va_P (dC, dI) classes [(a1, .inl (k1, nJ, .inl (va_cpy f4 f1 0 (tu + 4) hs))), (a4, .inl (k4, 8000, .inl f4)), (a2, .inl (k2, nS, .inl f2)), (a0, .inr (0, [.ref a1, .ref a2, .int (nI (rc + 1)), .int (nI bg), .ref a3, .int (nI ss), .ref a4, .int (nI hs), .int up1, .int ch1, .int wr1]))] H := hP
          have hD : va_D A [(a1, .inl (k1, nJ, .inl (va_cpy f4 f1 0 (tu + 4) hs))), (a4, .inl (k4, 8000, .inl f4)), (a2, .inl (k2, nS, .inl f2)), (a0, .inr (0, [.ref a1, .ref a2, .int (nI (rc + 1)), .int (nI bg), .ref a3, .int (nI ss), .ref a4, .int (nI hs), .int up1, .int ch1, .int wr1]))] := hD
          refine lv_aload_n hx hb d_BlockDesk_record_93 rfl (lv_at hl 4 rfl) ?_
          refine va_get (D := (dC, dI)) (ci := 0) (v := .ref a2) (C := R_BlockDesk) (T := F_BlockDesk) (N := 11) hx hb hts hin0 hown hK hP 3 rfl rfl 1 (by decide) (hts (.fieldLink R_BlockDesk 13 "BlockDesk" "starts" "[I") (by decide +kernel)) (fun _ h9 => h9) rfl d_BlockDesk_record_94 ?_
          refine lv_aload_n hx hb d_BlockDesk_record_97 rfl (lv_at hl 4 rfl) ?_
          refine va_get (D := (dC, dI)) (ci := 0) (v := .int (nI (rc + 1))) (C := R_BlockDesk) (T := F_BlockDesk) (N := 11) hx hb hts hin0 hown hK hP 3 rfl rfl 2 (by decide) (hts (.fieldLink R_BlockDesk 57 "BlockDesk" "records" "I") (by decide +kernel)) (fun _ h9 => h9) rfl d_BlockDesk_record_98 ?_
          refine lv_iload_n hx hb d_BlockDesk_record_101 rfl (lv_at hl 2 rfl) ?_
          refine va_iast hx hb hK hP hD hS 2 1 rfl rfl (vp_in_nI (by omega) (by omega)) d_BlockDesk_record_102 (fun H locs hP hD hS => ?_)
          rw [nI_clamp (n := rc + 1) (by omega)] at hP hD
          have hP : va_P (dC, dI) classes [(a1, .inl (k1, nJ, .inl (va_cpy f4 f1 0 (tu + 4) hs))), (a4, .inl (k4, 8000, .inl f4)), (a2, .inl (k2, nS, .inl (upd f2 (rc + 1) (nI (tu + 4 + hs))))), (a0, .inr (0, [.ref a1, .ref a2, .int (nI (rc + 1)), .int (nI bg), .ref a3, .int (nI ss), .ref a4, .int (nI hs), .int up1, .int ch1, .int wr1]))] H := hP
          have hD : va_D A [(a1, .inl (k1, nJ, .inl (va_cpy f4 f1 0 (tu + 4) hs))), (a4, .inl (k4, 8000, .inl f4)), (a2, .inl (k2, nS, .inl (upd f2 (rc + 1) (nI (tu + 4 + hs))))), (a0, .inr (0, [.ref a1, .ref a2, .int (nI (rc + 1)), .int (nI bg), .ref a3, .int (nI ss), .ref a4, .int (nI hs), .int up1, .int ch1, .int wr1]))] := hD
          refine lv_aload_n hx hb d_BlockDesk_record_103 rfl (lv_at hl 4 rfl) ?_
          refine lv_iconst (v := nI 0) hx hb d_BlockDesk_record_104 (by decide +kernel) ?_
          refine va_put (D := (dC, dI)) (ci := 0) (v := .int (nI 0)) (ty := .int) (C := R_BlockDesk) (T := F_BlockDesk) (N := 11) hx hb hts hin0 t_BlockDesk t_BlockDesk_ok n_BlockDesk hown hK hP hD hS 3 rfl rfl 7 (by decide) (hts (.fieldLink R_BlockDesk 35 "BlockDesk" "handSize" "I") (by decide +kernel)) (fun _ h9 => h9) rfl (by decide +kernel) rfl rfl (Nat.le_of_ble_eq_true rfl) d_BlockDesk_record_105 (fun H locs hP hD hS => ?_)
          have hP : va_P (dC, dI) classes [(a1, .inl (k1, nJ, .inl (va_cpy f4 f1 0 (tu + 4) hs))), (a4, .inl (k4, 8000, .inl f4)), (a2, .inl (k2, nS, .inl (upd f2 (rc + 1) (nI (tu + 4 + hs))))), (a0, .inr (0, [.ref a1, .ref a2, .int (nI (rc + 1)), .int (nI bg), .ref a3, .int (nI ss), .ref a4, .int (nI 0), .int up1, .int ch1, .int wr1]))] H := hP
          have hD : va_D A [(a1, .inl (k1, nJ, .inl (va_cpy f4 f1 0 (tu + 4) hs))), (a4, .inl (k4, 8000, .inl f4)), (a2, .inl (k2, nS, .inl (upd f2 (rc + 1) (nI (tu + 4 + hs))))), (a0, .inr (0, [.ref a1, .ref a2, .int (nI (rc + 1)), .int (nI bg), .ref a3, .int (nI ss), .ref a4, .int (nI 0), .int up1, .int ch1, .int wr1]))] := hD
          refine lv_iconst (v := nI 1) hx hb d_BlockDesk_record_108 (by decide +kernel) ?_
          have hP9 := hP.sub (ws' := [(a0, .inr (0, [.ref a1, .ref a2, .int (nI (rc + 1)), .int (nI bg), .ref a3, .int (nI ss), .ref a4, .int (nI 0), .int up1, .int ch1, .int wr1])), (a1, .inl (k1, nJ, .inl (va_cpy f4 f1 0 (tu + 4) hs))), (a2, .inl (k2, nS, .inl (upd f2 (rc + 1) (nI (tu + 4 + hs))))), (a4, .inl (k4, 8000, .inl f4))]) [3, 0, 2, 1] rfl
          have hD9 := hD.sub (ws' := [(a0, .inr (0, [.ref a1, .ref a2, .int (nI (rc + 1)), .int (nI bg), .ref a3, .int (nI ss), .ref a4, .int (nI 0), .int up1, .int ch1, .int wr1])), (a1, .inl (k1, nJ, .inl (va_cpy f4 f1 0 (tu + 4) hs))), (a2, .inl (k2, nS, .inl (upd f2 (rc + 1) (nI (tu + 4 + hs))))), (a4, .inl (k4, 8000, .inl f4))]) [3, 0, 2, 1] (by decide) rfl
          have hK9 := hK.sub (tys' := [(k1, .byte), (k2, .int), (k4, .byte)]) [0, 1, 2] rfl
          exact W.iret (v := nI 1) hx hb hr (fun t ht hW => ⟨⟨nI 1, (rc + 1, up1, 0, ch1, wr1, va_cpy f4 f1 0 (tu + 4) hs, upd f2 (rc + 1) (nI (tu + 4 + hs))), rfl, Or.inr (Or.inr ⟨c_4, by omega, rfl, up1, ch1, wr1, _, hw, zq_app_cpy, rfl⟩), by rw [ht]; exact hP9, va_K.moved hW.alike hK9, hD9⟩, hS.F ht⟩) hS.2.2 d_BlockDesk_record_109
        · exact absurd c_59 (xq_n0 (by omega) (by omega))
    · have c_29 : ¬ (tu + 4 + hs ≤ nJ) := fun h9 => c_29 ((nI_leI (by omega) (by omega)).mpr h9)
      refine lv_iconst (v := nI 0) hx hb d_BlockDesk_record_32 (by decide +kernel) ?_
      have hP9 := hP.sub (ws' := [(a0, .inr (0, [.ref a1, .ref a2, .int (nI rc), .int (nI bg), .ref a3, .int (nI ss), .ref a4, .int (nI hs), .int up, .int ch, .int wr])), (a1, .inl (k1, nJ, .inl f1)), (a2, .inl (k2, nS, .inl f2)), (a4, .inl (k4, 8000, .inl f4))]) [2, 0, 3, 1] rfl
      have hD9 := hD.sub (ws' := [(a0, .inr (0, [.ref a1, .ref a2, .int (nI rc), .int (nI bg), .ref a3, .int (nI ss), .ref a4, .int (nI hs), .int up, .int ch, .int wr])), (a1, .inl (k1, nJ, .inl f1)), (a2, .inl (k2, nS, .inl f2)), (a4, .inl (k4, 8000, .inl f4))]) [2, 0, 3, 1] (by decide) rfl
      have hK9 := hK.sub (tys' := [(k1, .byte), (k2, .int), (k4, .byte)]) [0, 1, 2] rfl
      exact W.iret (v := nI 0) hx hb hr (fun t ht hW => ⟨⟨nI 0, (rc, up, hs, ch, wr, f1, f2), rfl, Or.inl ⟨by first | exact Or.inl c_4 | exact Or.inr (by omega), rfl, rfl⟩, by rw [ht]; exact hP9, va_K.moved hW.alike hK9, hD9⟩, hS.F ht⟩) hS.2.2 d_BlockDesk_record_33
  · refine lv_iconst (v := nI 0) hx hb d_BlockDesk_record_7 (by decide +kernel) ?_
    have hP9 := hP.sub (ws' := [(a0, .inr (0, [.ref a1, .ref a2, .int (nI rc), .int (nI bg), .ref a3, .int (nI ss), .ref a4, .int (nI hs), .int up, .int ch, .int wr])), (a1, .inl (k1, nJ, .inl f1)), (a2, .inl (k2, nS, .inl f2)), (a4, .inl (k4, 8000, .inl f4))]) [0, 1, 2, 3] rfl
    have hD9 := hD.sub (ws' := [(a0, .inr (0, [.ref a1, .ref a2, .int (nI rc), .int (nI bg), .ref a3, .int (nI ss), .ref a4, .int (nI hs), .int up, .int ch, .int wr])), (a1, .inl (k1, nJ, .inl f1)), (a2, .inl (k2, nS, .inl f2)), (a4, .inl (k4, 8000, .inl f4))]) [0, 1, 2, 3] (by decide) rfl
    have hK9 := hK.sub (tys' := [(k1, .byte), (k2, .int), (k4, .byte)]) [0, 1, 2] rfl
    exact W.iret (v := nI 0) hx hb hr (fun t ht hW => ⟨⟨nI 0, (rc, up, hs, ch, wr, f1, f2), rfl, Or.inl ⟨by first | exact Or.inl c_4 | exact Or.inr (by omega), rfl, rfl⟩, by rw [ht]; exact hP9, va_K.moved hW.alike hK9, hD9⟩, hS.F ht⟩) hS.2.2 d_BlockDesk_record_8
set_option maxHeartbeats 4000000 in
set_option maxRecDepth 100000 in
theorem c_BlockDesk_snapshot (l : Launch) (dC : Nat → ClassId) (dI : Nat → Nat → Nat) (sz : Nat) (a0 : Nat) (a1 : Nat) (a2 : Nat) (a3 : Nat) (a4 : Nat) (rc : Nat) (bg : Nat) (ss : Nat) (hs : Nat) (up : Int32) (ch : Int32) (wr : Int32) (k2 : ClassId) (nS : Nat) (tu : Nat) (f2 : Nat → Int32) (hrc : rc < nS) (hnS : nS ≤ 4001) (htu : f2 rc = nI tu) (htb : tu ≤ 16000) (hhs : hs ≤ 8000) : Met l y_BlockDesk_snapshot w_BlockDesk_snapshot ({ frames := 2, cells := 0, slots := 0, locals := 46 }) (va_Pc [.ref a0] (fun U => U.heap.size = sz ∧ va_P (dC, dI) classes [(a0, .inr (0, [.ref a1, .ref a2, .int (nI rc), .int (nI bg), .ref a3, .int (nI ss), .ref a4, .int (nI hs), .int up, .int ch, .int wr])), (a2, .inl (k2, nS, .inl f2))] U.heap ∧ va_K (dC, dI) classes [(k2, .int)] U ∧ va_D (fun _ => True) [(a0, .inr (0, [.ref a1, .ref a2, .int (nI rc), .int (nI bg), .ref a3, .int (nI ss), .ref a4, .int (nI hs), .int up, .int ch, .int wr])), (a2, .inl (k2, nS, .inl f2))])) (va_Qi (fun (r : Int32) (u : Nat × Nat × Nat × Nat × Nat × Int32 × Nat × Int32 × Int32) => (up = 0 ∧ r = nI 0 ∧ u = (rc, bg, ss, a3, a4, up, hs, ch, wr)) ∨ (¬ up = 0 ∧ r = nI 2 ∧ ∃ (up1 : Int32) (hs1 : Nat) (ch1 wr1 : Int32), (nI 0, up1, hs1, ch1, wr1) = zq_wb up hs ch wr (nI ((hs + 500 - 1) / 500 + 1)) ∧ u = (rc, bg, ss, a3, a4, up1, hs1, ch1, wr1)) ∨ (¬ up = 0 ∧ r = nI 1 ∧ ∃ (up1 ch1 wr1 : Int32), (nI 1, up1, hs, ch1, wr1) = zq_wb up hs ch wr (nI ((hs + 500 - 1) / 500 + 1)) ∧ u = (0, bg + (tu + 500 - 1) / 500 * 500, hs, a4, a3, up1, 0, ch1, wr1))) (fun (u : Nat × Nat × Nat × Nat × Nat × Int32 × Nat × Int32 × Int32) (t : State) => match u with | (rc', bg', ss', a3', a4', up', hs', ch', wr') => va_P (dC, dI) classes [(a0, .inr (0, [.ref a1, .ref a2, .int (nI rc'), .int (nI bg'), .ref a3', .int (nI ss'), .ref a4', .int (nI hs'), .int up', .int ch', .int wr'])), (a2, .inl (k2, nS, .inl f2))] t.heap ∧ va_K (dC, dI) classes [(k2, .int)] t ∧ va_D (va_A [(a0, .inr (0, [.ref a1, .ref a2, .int (nI rc), .int (nI bg), .ref a3, .int (nI ss), .ref a4, .int (nI hs), .int up, .int ch, .int wr])), (a2, .inl (k2, nS, .inl f2))] sz) [(a0, .inr (0, [.ref a1, .ref a2, .int (nI rc'), .int (nI bg'), .ref a3', .int (nI ss'), .ref a4', .int (nI hs'), .int up', .int ch', .int wr'])), (a2, .inl (k2, nS, .inl f2))]) (va_A [(a0, .inr (0, [.ref a1, .ref a2, .int (nI rc), .int (nI bg), .ref a3, .int (nI ss), .ref a4, .int (nI hs), .int up, .int ch, .int wr])), (a2, .inl (k2, nS, .inl f2))] sz)) 0 0 (va_A [(a0, .inr (0, [.ref a1, .ref a2, .int (nI rc), .int (nI bg), .ref a3, .int (nI ss), .ref a4, .int (nI hs), .int up, .int ch, .int wr])), (a2, .inl (k2, nS, .inl f2))] sz) := by
  refine Met.ofW (cc := b_BlockDesk_snapshot) (maxL := 1) (ret := (some .int)) (by decide) rfl ?_
  intro p e s m args below meth c s₁ B hml hv
  obtain ⟨rfl, hsz, hP, hK, hD0⟩ := hv
  have hx := B.exec
  have hb := B.bytes
  have hr := B.returns
  have hts := atoms_spec (ws := w_BlockDesk_snapshot) B.pre
  have hown : s.vm.findClass R_BlockDesk = some m.cls := findClass_of_methodNamed B.named
  have hlocks := B.notSynchronized
  subst hsz
  have hD := hD0.self (sz := s.heap.size)
  generalize hAe : va_A [(a0, .inr (0, [.ref a1, .ref a2, .int (nI rc), .int (nI bg), .ref a3, .int (nI ss), .ref a4, .int (nI hs), .int up, .int ch, .int wr])), (a2, .inl (k2, nS, .inl f2))] s.heap.size = A at hD ⊢
  have hA : ∀ q : Nat, s.heap.size ≤ q → A q := fun q h => by rw [← hAe]; exact Or.inr h
  have hS : va_S A s.heap s.heap [] := va_S.rf
  have hP : va_P (dC, dI) classes [(a0, .inr (0, [.ref a1, .ref a2, .int (nI rc), .int (nI bg), .ref a3, .int (nI ss), .ref a4, .int (nI hs), .int up, .int ch, .int wr])), (a2, .inl (k2, nS, .inl f2))] s.heap := hP
  have hin0 : ∀ w ∈ u_ws R_BlockDesk F_BlockDesk 11, w ∈ w_BlockDesk_snapshot := by decide +kernel
  have hl := lv_entry ([.ref a0]) (n := 1) (Nat.le_of_ble_eq_true rfl)
  rw [lg_entry_eq]
  generalize (lg_sl ([.ref a0]) ++ List.replicate (1 - (lg_sl ([.ref a0])).length) Slot.unset).toArray = ls at hl ⊢
  have hl : lv_has ls 1 [(0, .ref a0)] := hl
  refine lv_aload_n hx hb d_BlockDesk_snapshot_0 rfl (lv_at hl 0 rfl) ?_
  refine va_get (D := (dC, dI)) (ci := 0) (v := .int up) (C := R_BlockDesk) (T := F_BlockDesk) (N := 11) hx hb hts hin0 hown hK hP 0 rfl rfl 8 (by decide) (hts (.fieldLink R_BlockDesk 23 "BlockDesk" "up" "Z") (by decide +kernel)) (fun _ h9 => h9) rfl d_BlockDesk_snapshot_1 ?_
  refine lv_if_ne (tgt := 9) hx hb d_BlockDesk_snapshot_4 (by decide) (fun c_4 => ?_) (fun c_4 => ?_)
  · refine lv_aload_n hx hb d_BlockDesk_snapshot_9 rfl (lv_at hl 0 rfl) ?_
    refine lv_aload_n hx hb d_BlockDesk_snapshot_10 rfl (lv_at hl 0 rfl) ?_
    refine va_get (D := (dC, dI)) (ci := 0) (v := .int (nI hs)) (C := R_BlockDesk) (T := F_BlockDesk) (N := 11) hx hb hts hin0 hown hK hP 0 rfl rfl 7 (by decide) (hts (.fieldLink R_BlockDesk 35 "BlockDesk" "handSize" "I") (by decide +kernel)) (fun _ h9 => h9) rfl d_BlockDesk_snapshot_11 ?_
    have hPc := hP.sub (ws' := []) [] rfl
    have hDc := hD.sub (ws' := []) [] (by decide) rfl
    have hKc := hK.sub (tys' := []) [] rfl
    have hFc := va_free (wc := []) hD hS hA [] rfl
    refine va_calli (va_runS (As := [.int (nI hs)]) (rest := [.ref a0]) ⟨hx, hb, hml, hown, hts⟩ (c_BlockDesk_blocksFor l dC dI s.heap.size hs (by omega)) (va_cwS 1 hts g_BlockDesk_snapshot_BlockDesk_blocksFor rfl rfl rfl (by decide +kernel) ⟨Nat.le_of_ble_eq_true rfl, Nat.le_of_ble_eq_true rfl⟩) ⟨fun a U g mk q => by obtain ⟨q0, q1, qP, qK, qD⟩ := q; exact ⟨q0, q1, qP, va_K.moved (u := U) (U := U.calling g mk a) (Vm.Alike.refl U.vm) qK, qD⟩, fun U hU hW => ⟨rfl, by rw [hU], by rw [hU]; exact hPc, va_K.moved hW.alike hKc, hDc.weaken (fun _ _ _ _ => trivial)⟩⟩ rfl rfl hl.1 rfl (lv_room (Nat.le_of_ble_eq_true rfl)) d_BlockDesk_snapshot_14 ⟨(Nat.zero_le _), (Nat.zero_le _)⟩) hS (fun q _ h => hFc q h) hFc (fun r_14 u t H1 locs ht hvm hw hB hz1 hk1 hS => ?_)
    obtain ⟨hP1, hK1, hD1⟩ := hB
    rw [ht] at hP1
    try dsimp only at hw
    obtain ⟨hP, hD⟩ := va_join (wr := [(a0, .inr (0, [.ref a1, .ref a2, .int (nI rc), .int (nI bg), .ref a3, .int (nI ss), .ref a4, .int (nI hs), .int up, .int ch, .int wr])), (a2, .inl (k2, nS, .inl f2))]) (w1 := []) hP hD [] [0, 1] rfl rfl (by decide) (by decide) hk1 hFc hP1 hD1
    generalize H1 = H at hP hS ⊢
    have hP : va_P (dC, dI) classes [(a0, .inr (0, [.ref a1, .ref a2, .int (nI rc), .int (nI bg), .ref a3, .int (nI ss), .ref a4, .int (nI hs), .int up, .int ch, .int wr])), (a2, .inl (k2, nS, .inl f2))] H := hP
    have hD : va_D A [(a0, .inr (0, [.ref a1, .ref a2, .int (nI rc), .int (nI bg), .ref a3, .int (nI ss), .ref a4, .int (nI hs), .int up, .int ch, .int wr])), (a2, .inl (k2, nS, .inl f2))] := hD
    obtain rfl : r_14 = nI ((hs + 500 - 1) / 500) := hw
    refine lv_iconst (v := nI 1) hx hb d_BlockDesk_snapshot_17 (by decide +kernel) ?_
    refine lv_iadd hx hb d_BlockDesk_snapshot_18 ?_
    refine xq_top (nI ((hs + 500 - 1) / 500 + 1)) (nI_add _ _) ?_
    have hPc := hP.sub (ws' := [(a0, .inr (0, [.ref a1, .ref a2, .int (nI rc), .int (nI bg), .ref a3, .int (nI ss), .ref a4, .int (nI hs), .int up, .int ch, .int wr]))]) [0] rfl
    have hDc := hD.sub (ws' := [(a0, .inr (0, [.ref a1, .ref a2, .int (nI rc), .int (nI bg), .ref a3, .int (nI ss), .ref a4, .int (nI hs), .int up, .int ch, .int wr]))]) [0] (by decide) rfl
    have hKc := hK.sub (tys' := []) [] rfl
    have hFc := va_free (wc := [(a0, .inr (0, [.ref a1, .ref a2, .int (nI rc), .int (nI bg), .ref a3, .int (nI ss), .ref a4, .int (nI hs), .int up, .int ch, .int wr]))]) hD hS hA [0] rfl
    refine va_calli (va_runV (As := [.int (nI ((hs + 500 - 1) / 500 + 1))]) (rest := []) ⟨hx, hb, hml, hown, hts⟩ (c_BlockDesk_writeBlocks l dC dI H.size a0 a1 a2 a3 a4 rc bg ss hs up ch wr (nI ((hs + 500 - 1) / 500 + 1)) ) (cwV 1 hts g_BlockDesk_snapshot_BlockDesk_writeBlocks rfl rfl rfl (by decide +kernel) ⟨Nat.le_of_ble_eq_true rfl, Nat.le_of_ble_eq_true rfl⟩) ⟨fun a U g mk q => by obtain ⟨q0, q1, qP, qK, qD⟩ := q; exact ⟨q0, q1, qP, va_K.moved (u := U) (U := U.calling g mk a) (Vm.Alike.refl U.vm) qK, qD⟩, va_recv hKc hPc (ci := 0) (q0 := 0) rfl rfl, fun U hU hW => ⟨rfl, by rw [hU], by rw [hU]; exact hPc, va_K.moved hW.alike hKc, hDc.weaken (fun _ _ _ _ => trivial)⟩⟩ rfl rfl hl.1 rfl (lv_room (Nat.le_of_ble_eq_true rfl)) d_BlockDesk_snapshot_19 ⟨(Nat.zero_le _), (Nat.zero_le _)⟩) hS (fun q _ h => hFc q h) hFc (fun r_19 u t H1 locs ht hvm hw hB hz1 hk1 hS => ?_)
    obtain ⟨up1, hs1, ch1, wr1⟩ := u
    obtain ⟨hP1, hK1, hD1⟩ := hB
    rw [ht] at hP1
    try dsimp only at hw
    obtain ⟨hP, hD⟩ := va_join (wr := [(a2, .inl (k2, nS, .inl f2))]) (w1 := [(a0, .inr (0, [.ref a1, .ref a2, .int (nI rc), .int (nI bg), .ref a3, .int (nI ss), .ref a4, .int (nI hs1), .int up1, .int ch1, .int wr1]))]) hP hD [0] [1] rfl rfl (by decide) (by decide) hk1 hFc hP1 hD1
    generalize H1 = H at hP hS ⊢
    have hP : va_P (dC, dI) classes [(a2, .inl (k2, nS, .inl f2)), (a0, .inr (0, [.ref a1, .ref a2, .int (nI rc), .int (nI bg), .ref a3, .int (nI ss), .ref a4, .int (nI hs1), .int up1, .int ch1, .int wr1]))] H := hP
    have hD : va_D A [(a2, .inl (k2, nS, .inl f2)), (a0, .inr (0, [.ref a1, .ref a2, .int (nI rc), .int (nI bg), .ref a3, .int (nI ss), .ref a4, .int (nI hs1), .int up1, .int ch1, .int wr1]))] := hD
    rcases zq_wb_split hw with ⟨rfl, hw⟩ | ⟨rfl, hw⟩
    · have h8 : True := trivial
      refine lv_if_ne (tgt := 27) hx hb d_BlockDesk_snapshot_22 (by decide) (fun c_22 => ?_) (fun c_22 => ?_)
      · exact absurd rfl c_22
      · refine lv_iconst (v := nI 2) hx hb d_BlockDesk_snapshot_25 (by decide +kernel) ?_
        have hP9 := hP.sub (ws' := [(a0, .inr (0, [.ref a1, .ref a2, .int (nI rc), .int (nI bg), .ref a3, .int (nI ss), .ref a4, .int (nI hs1), .int up1, .int ch1, .int wr1])), (a2, .inl (k2, nS, .inl f2))]) [1, 0] rfl
        have hD9 := hD.sub (ws' := [(a0, .inr (0, [.ref a1, .ref a2, .int (nI rc), .int (nI bg), .ref a3, .int (nI ss), .ref a4, .int (nI hs1), .int up1, .int ch1, .int wr1])), (a2, .inl (k2, nS, .inl f2))]) [1, 0] (by decide) rfl
        have hK9 := hK.sub (tys' := [(k2, .int)]) [0] rfl
        exact W.iret (v := nI 2) hx hb hr (fun t ht hW => ⟨⟨nI 2, (rc, bg, ss, a3, a4, up1, hs1, ch1, wr1), rfl, Or.inr (Or.inl ⟨c_4, rfl, up1, hs1, ch1, wr1, hw, rfl⟩), by rw [ht]; exact hP9, va_K.moved hW.alike hK9, hD9⟩, hS.F ht⟩) hS.2.2 d_BlockDesk_snapshot_26
    · have h8 : True := trivial
      have e9 : hs = hs1 := by rcases zq_wb_r hw with ⟨q9, -⟩ | ⟨-, -, q9⟩; exact absurd q9.symm zq_01; exact q9.symm
      subst e9
      have hP : va_P (dC, dI) classes [(a2, .inl (k2, nS, .inl f2)), (a0, .inr (0, [.ref a1, .ref a2, .int (nI rc), .int (nI bg), .ref a3, .int (nI ss), .ref a4, .int (nI hs), .int up1, .int ch1, .int wr1]))] H := hP
      have hD : va_D A [(a2, .inl (k2, nS, .inl f2)), (a0, .inr (0, [.ref a1, .ref a2, .int (nI rc), .int (nI bg), .ref a3, .int (nI ss), .ref a4, .int (nI hs), .int up1, .int ch1, .int wr1]))] := hD
      refine lv_if_ne (tgt := 27) hx hb d_BlockDesk_snapshot_22 (by decide) (fun c_22 => ?_) (fun c_22 => ?_)
      · refine lv_aload_n hx hb d_BlockDesk_snapshot_27 rfl (lv_at hl 0 rfl) ?_
        have hw9 := hw
        have hPc := hP.sub (ws' := [(a0, .inr (0, [.ref a1, .ref a2, .int (nI rc), .int (nI bg), .ref a3, .int (nI ss), .ref a4, .int (nI hs), .int up1, .int ch1, .int wr1]))]) [1] rfl
        have hDc := hD.sub (ws' := [(a0, .inr (0, [.ref a1, .ref a2, .int (nI rc), .int (nI bg), .ref a3, .int (nI ss), .ref a4, .int (nI hs), .int up1, .int ch1, .int wr1]))]) [1] (by decide) rfl
        have hKc := hK.sub (tys' := []) [] rfl
        have hFc := va_free (wc := [(a0, .inr (0, [.ref a1, .ref a2, .int (nI rc), .int (nI bg), .ref a3, .int (nI ss), .ref a4, .int (nI hs), .int up1, .int ch1, .int wr1]))]) hD hS hA [1] rfl
        refine va_callv (va_runV (As := []) (rest := []) ⟨hx, hb, hml, hown, hts⟩ (c_BlockDesk_takeHandAsSnapshot l dC dI H.size a0 a1 a2 a3 a4 rc bg ss hs up1 ch1 wr1 ) (cwV 0 hts g_BlockDesk_snapshot_BlockDesk_takeHandAsSnapshot rfl rfl rfl (by decide +kernel) ⟨Nat.le_of_ble_eq_true rfl, Nat.le_of_ble_eq_true rfl⟩) ⟨fun a U g mk q => by obtain ⟨q0, q1, qP, qK, qD⟩ := q; exact ⟨q0, q1, qP, va_K.moved (u := U) (U := U.calling g mk a) (Vm.Alike.refl U.vm) qK, qD⟩, va_recv hKc hPc (ci := 0) (q0 := 0) rfl rfl, fun U hU hW => ⟨rfl, by rw [hU], by rw [hU]; exact hPc, va_K.moved hW.alike hKc, hDc.weaken (fun _ _ _ _ => trivial)⟩⟩ rfl rfl hl.1 rfl (lv_room (Nat.le_of_ble_eq_true rfl)) d_BlockDesk_snapshot_28 ⟨(Nat.zero_le _), (Nat.zero_le _)⟩) hS (fun q _ h => hFc q h) hFc (fun u t H1 locs ht hvm hw hB hz1 hk1 hS => ?_)
        obtain ⟨hP1, hK1, hD1⟩ := hB
        rw [ht] at hP1
        try dsimp only at hw
        obtain ⟨hP, hD⟩ := va_join (wr := [(a2, .inl (k2, nS, .inl f2))]) (w1 := [(a0, .inr (0, [.ref a1, .ref a2, .int (nI rc), .int (nI bg), .ref a4, .int (nI hs), .ref a3, .int (nI 0), .int up1, .int ch1, .int wr1]))]) hP hD [1] [0] rfl rfl (by decide) (by decide) hk1 hFc hP1 hD1
        generalize H1 = H at hP hS ⊢
        have hP : va_P (dC, dI) classes [(a2, .inl (k2, nS, .inl f2)), (a0, .inr (0, [.ref a1, .ref a2, .int (nI rc), .int (nI bg), .ref a4, .int (nI hs), .ref a3, .int (nI 0), .int up1, .int ch1, .int wr1]))] H := hP
        have hD : va_D A [(a2, .inl (k2, nS, .inl f2)), (a0, .inr (0, [.ref a1, .ref a2, .int (nI rc), .int (nI bg), .ref a4, .int (nI hs), .ref a3, .int (nI 0), .int up1, .int ch1, .int wr1]))] := hD
        refine lv_aload_n hx hb d_BlockDesk_snapshot_31 rfl (lv_at hl 0 rfl) ?_
        have hPc := hP.sub (ws' := [(a0, .inr (0, [.ref a1, .ref a2, .int (nI rc), .int (nI bg), .ref a4, .int (nI hs), .ref a3, .int (nI 0), .int up1, .int ch1, .int wr1])), (a2, .inl (k2, nS, .inl f2))]) [1, 0] rfl
        have hDc := hD.sub (ws' := [(a0, .inr (0, [.ref a1, .ref a2, .int (nI rc), .int (nI bg), .ref a4, .int (nI hs), .ref a3, .int (nI 0), .int up1, .int ch1, .int wr1])), (a2, .inl (k2, nS, .inl f2))]) [1, 0] (by decide) rfl
        have hKc := hK.sub (tys' := [(k2, .int)]) [0] rfl
        have hFc := va_free (wc := [(a0, .inr (0, [.ref a1, .ref a2, .int (nI rc), .int (nI bg), .ref a4, .int (nI hs), .ref a3, .int (nI 0), .int up1, .int ch1, .int wr1])), (a2, .inl (k2, nS, .inl f2))]) hD hS hA [1, 0] rfl
        refine va_callv (va_runV (As := []) (rest := []) ⟨hx, hb, hml, hown, hts⟩ (c_BlockDesk_beginJournalAnew l dC dI H.size a0 a1 a2 a4 a3 rc bg hs 0 up1 ch1 wr1 k2 nS tu f2 hrc hnS htu htb) (cwV 0 hts g_BlockDesk_snapshot_BlockDesk_beginJournalAnew rfl rfl rfl (by decide +kernel) ⟨Nat.le_of_ble_eq_true rfl, Nat.le_of_ble_eq_true rfl⟩) ⟨fun a U g mk q => by obtain ⟨q0, q1, qP, qK, qD⟩ := q; exact ⟨q0, q1, qP, va_K.moved (u := U) (U := U.calling g mk a) (Vm.Alike.refl U.vm) qK, qD⟩, va_recv hKc hPc (ci := 0) (q0 := 0) rfl rfl, fun U hU hW => ⟨rfl, by rw [hU], by rw [hU]; exact hPc, va_K.moved hW.alike hKc, hDc.weaken (fun _ _ _ _ => trivial)⟩⟩ rfl rfl hl.1 rfl (lv_room (Nat.le_of_ble_eq_true rfl)) d_BlockDesk_snapshot_32 ⟨(Nat.zero_le _), (Nat.zero_le _)⟩) hS (fun q _ h => hFc q h) hFc (fun u t H1 locs ht hvm hw hB hz1 hk1 hS => ?_)
        obtain ⟨hP1, hK1, hD1⟩ := hB
        rw [ht] at hP1
        try dsimp only at hw
        obtain ⟨hP, hD⟩ := va_join (wr := []) (w1 := [(a0, .inr (0, [.ref a1, .ref a2, .int (nI 0), .int (nI (bg + (tu + 500 - 1) / 500 * 500)), .ref a4, .int (nI hs), .ref a3, .int (nI 0), .int up1, .int ch1, .int wr1])), (a2, .inl (k2, nS, .inl f2))]) hP hD [1, 0] [] rfl rfl (by decide) (by decide) hk1 hFc hP1 hD1
        generalize H1 = H at hP hS ⊢
        have hP : va_P (dC, dI) classes [(a0, .inr (0, [.ref a1, .ref a2, .int (nI 0), .int (nI (bg + (tu + 500 - 1) / 500 * 500)), .ref a4, .int (nI hs), .ref a3, .int (nI 0), .int up1, .int ch1, .int wr1])), (a2, .inl (k2, nS, .inl f2))] H := hP
        have hD : va_D A [(a0, .inr (0, [.ref a1, .ref a2, .int (nI 0), .int (nI (bg + (tu + 500 - 1) / 500 * 500)), .ref a4, .int (nI hs), .ref a3, .int (nI 0), .int up1, .int ch1, .int wr1])), (a2, .inl (k2, nS, .inl f2))] := hD
        refine lv_iconst (v := nI 1) hx hb d_BlockDesk_snapshot_35 (by decide +kernel) ?_
        have hP9 := hP.sub (ws' := [(a0, .inr (0, [.ref a1, .ref a2, .int (nI 0), .int (nI (bg + (tu + 500 - 1) / 500 * 500)), .ref a4, .int (nI hs), .ref a3, .int (nI 0), .int up1, .int ch1, .int wr1])), (a2, .inl (k2, nS, .inl f2))]) [0, 1] rfl
        have hD9 := hD.sub (ws' := [(a0, .inr (0, [.ref a1, .ref a2, .int (nI 0), .int (nI (bg + (tu + 500 - 1) / 500 * 500)), .ref a4, .int (nI hs), .ref a3, .int (nI 0), .int up1, .int ch1, .int wr1])), (a2, .inl (k2, nS, .inl f2))]) [0, 1] (by decide) rfl
        have hK9 := hK.sub (tys' := [(k2, .int)]) [0] rfl
        exact W.iret (v := nI 1) hx hb hr (fun t ht hW => ⟨⟨nI 1, (0, bg + (tu + 500 - 1) / 500 * 500, hs, a4, a3, up1, 0, ch1, wr1), rfl, Or.inr (Or.inr ⟨c_4, rfl, up1, ch1, wr1, hw9, rfl⟩), by rw [ht]; exact hP9, va_K.moved hW.alike hK9, hD9⟩, hS.F ht⟩) hS.2.2 d_BlockDesk_snapshot_36
      · exact absurd c_22 (xq_n0 (by omega) (by omega))
  · refine lv_iconst (v := nI 0) hx hb d_BlockDesk_snapshot_7 (by decide +kernel) ?_
    have hP9 := hP.sub (ws' := [(a0, .inr (0, [.ref a1, .ref a2, .int (nI rc), .int (nI bg), .ref a3, .int (nI ss), .ref a4, .int (nI hs), .int up, .int ch, .int wr])), (a2, .inl (k2, nS, .inl f2))]) [0, 1] rfl
    have hD9 := hD.sub (ws' := [(a0, .inr (0, [.ref a1, .ref a2, .int (nI rc), .int (nI bg), .ref a3, .int (nI ss), .ref a4, .int (nI hs), .int up, .int ch, .int wr])), (a2, .inl (k2, nS, .inl f2))]) [0, 1] (by decide) rfl
    have hK9 := hK.sub (tys' := [(k2, .int)]) [0] rfl
    exact W.iret (v := nI 0) hx hb hr (fun t ht hW => ⟨⟨nI 0, (rc, bg, ss, a3, a4, up, hs, ch, wr), rfl, Or.inl ⟨c_4, rfl, rfl⟩, by rw [ht]; exact hP9, va_K.moved hW.alike hK9, hD9⟩, hS.F ht⟩) hS.2.2 d_BlockDesk_snapshot_8
end
section
set_option maxHeartbeats 4000000 in
set_option maxRecDepth 100000 in
theorem c_BlockDeskModel_hold (l : Launch) (dC : Nat → ClassId) (dI : Nat → Nat → Nat) (sz : Nat) (b0 : Nat) (b1 : Nat) (b2 : Nat) (b3 : Nat) (b4 : Nat) (N : Nat) (rc : Nat) (bg : Nat) (en : Nat) (ss : Nat) (hs : Nat) (up : Int32) (ch : Int32) (wr : Int32) (o1 : ClassId) (g1 : Nat → Int32) (v : Int32) (hh : hs < 8000) : Met l y_BlockDeskModel_hold w_BlockDeskModel_hold ({ frames := 0, cells := 0, slots := 0, locals := 0 }) (va_Pc [.ref b0, .int v] (fun U => U.heap.size = sz ∧ va_P (dC, dI) classes [(b0, .inr (1, [.int (nI N), .int up, .int ch, .int wr, .int (nI bg), .int (nI en), .ref b1, .int (nI hs), .ref b2, .int (nI ss), .ref b3, .ref b4, .int (nI rc)])), (b1, .inl (o1, 8000, .inl g1))] U.heap ∧ va_K (dC, dI) classes [(o1, .int)] U ∧ va_D (fun _ => True) [(b0, .inr (1, [.int (nI N), .int up, .int ch, .int wr, .int (nI bg), .int (nI en), .ref b1, .int (nI hs), .ref b2, .int (nI ss), .ref b3, .ref b4, .int (nI rc)])), (b1, .inl (o1, 8000, .inl g1))])) (va_Qi (fun (r : Int32) (_ : Unit) => r = nI 1) (fun (_ : Unit) (t : State) => va_P (dC, dI) classes [(b0, .inr (1, [.int (nI N), .int up, .int ch, .int wr, .int (nI bg), .int (nI en), .ref b1, .int (nI (hs + 1)), .ref b2, .int (nI ss), .ref b3, .ref b4, .int (nI rc)])), (b1, .inl (o1, 8000, .inl (upd g1 hs (v &&& nI 255))))] t.heap ∧ va_K (dC, dI) classes [(o1, .int)] t ∧ va_D (va_A [(b0, .inr (1, [.int (nI N), .int up, .int ch, .int wr, .int (nI bg), .int (nI en), .ref b1, .int (nI hs), .ref b2, .int (nI ss), .ref b3, .ref b4, .int (nI rc)])), (b1, .inl (o1, 8000, .inl g1))] sz) [(b0, .inr (1, [.int (nI N), .int up, .int ch, .int wr, .int (nI bg), .int (nI en), .ref b1, .int (nI (hs + 1)), .ref b2, .int (nI ss), .ref b3, .ref b4, .int (nI rc)])), (b1, .inl (o1, 8000, .inl (upd g1 hs (v &&& nI 255))))]) (va_A [(b0, .inr (1, [.int (nI N), .int up, .int ch, .int wr, .int (nI bg), .int (nI en), .ref b1, .int (nI hs), .ref b2, .int (nI ss), .ref b3, .ref b4, .int (nI rc)])), (b1, .inl (o1, 8000, .inl g1))] sz)) 0 0 (va_A [(b0, .inr (1, [.int (nI N), .int up, .int ch, .int wr, .int (nI bg), .int (nI en), .ref b1, .int (nI hs), .ref b2, .int (nI ss), .ref b3, .ref b4, .int (nI rc)])), (b1, .inl (o1, 8000, .inl g1))] sz) := by
  refine Met.ofW (cc := b_BlockDeskModel_hold) (maxL := 2) (ret := (some .boolean)) (by decide) rfl ?_
  intro p e s m args below meth c s₁ B hml hv
  obtain ⟨rfl, hsz, hP, hK, hD0⟩ := hv
  have hx := B.exec
  have hb := B.bytes
  have hr := B.returns
  have hts := atoms_spec (ws := w_BlockDeskModel_hold) B.pre
  have hown : s.vm.findClass R_BlockDeskModel = some m.cls := findClass_of_methodNamed B.named
  have hlocks := B.notSynchronized
  subst hsz
  have hD := hD0.self (sz := s.heap.size)
  generalize hAe : va_A [(b0, .inr (1, [.int (nI N), .int up, .int ch, .int wr, .int (nI bg), .int (nI en), .ref b1, .int (nI hs), .ref b2, .int (nI ss), .ref b3, .ref b4, .int (nI rc)])), (b1, .inl (o1, 8000, .inl g1))] s.heap.size = A at hD ⊢
  have hA : ∀ q : Nat, s.heap.size ≤ q → A q := fun q h => by rw [← hAe]; exact Or.inr h
  have hS : va_S A s.heap s.heap [] := va_S.rf
  have hP : va_P (dC, dI) classes [(b0, .inr (1, [.int (nI N), .int up, .int ch, .int wr, .int (nI bg), .int (nI en), .ref b1, .int (nI hs), .ref b2, .int (nI ss), .ref b3, .ref b4, .int (nI rc)])), (b1, .inl (o1, 8000, .inl g1))] s.heap := hP
  have hin1 : ∀ w ∈ u_ws R_BlockDeskModel F_BlockDeskModel 13, w ∈ w_BlockDeskModel_hold := by decide +kernel
  have hl := lv_entry ([.ref b0, .int v]) (n := 2) (Nat.le_of_ble_eq_true rfl)
  rw [lg_entry_eq]
  generalize (lg_sl ([.ref b0, .int v]) ++ List.replicate (2 - (lg_sl ([.ref b0, .int v])).length) Slot.unset).toArray = ls at hl ⊢
  have hl : lv_has ls 2 [(0, .ref b0), (1, .int v)] := hl
  refine lv_aload_n hx hb d_BlockDeskModel_hold_0 rfl (lv_at hl 0 rfl) ?_
  refine va_get (D := (dC, dI)) (ci := 1) (v := .ref b1) (C := R_BlockDeskModel) (T := F_BlockDeskModel) (N := 13) hx hb hts hin1 hown hK hP 0 rfl rfl 6 (by decide) (hts (.fieldLink R_BlockDeskModel 17 "BlockDeskModel" "hand" "[I") (by decide +kernel)) (fun _ h9 => h9) rfl d_BlockDeskModel_hold_1 ?_
  refine lv_aload_n hx hb d_BlockDeskModel_hold_4 rfl (lv_at hl 0 rfl) ?_
  refine va_get (D := (dC, dI)) (ci := 1) (v := .int (nI hs)) (C := R_BlockDeskModel) (T := F_BlockDeskModel) (N := 13) hx hb hts hin1 hown hK hP 0 rfl rfl 7 (by decide) (hts (.fieldLink R_BlockDeskModel 33 "BlockDeskModel" "inHand" "I") (by decide +kernel)) (fun _ h9 => h9) rfl d_BlockDeskModel_hold_5 ?_
  refine lv_iload_n hx hb d_BlockDeskModel_hold_8 rfl (lv_at hl 1 rfl) ?_
  refine lv_sipush (v := nI 255) hx hb d_BlockDeskModel_hold_9 (by decide +kernel) ?_
  refine lv_iand hx hb d_BlockDeskModel_hold_12 ?_
  refine va_iast hx hb hK hP hD hS 1 0 rfl rfl (vp_in_nI (by omega) (by omega)) d_BlockDeskModel_hold_13 (fun H locs hP hD hS => ?_)
  rw [nI_clamp (n := hs) (by omega)] at hP hD
  have hP : va_P (dC, dI) classes [(b0, .inr (1, [.int (nI N), .int up, .int ch, .int wr, .int (nI bg), .int (nI en), .ref b1, .int (nI hs), .ref b2, .int (nI ss), .ref b3, .ref b4, .int (nI rc)])), (b1, .inl (o1, 8000, .inl (upd g1 hs (v &&& (nI 255)))))] H := hP
  have hD : va_D A [(b0, .inr (1, [.int (nI N), .int up, .int ch, .int wr, .int (nI bg), .int (nI en), .ref b1, .int (nI hs), .ref b2, .int (nI ss), .ref b3, .ref b4, .int (nI rc)])), (b1, .inl (o1, 8000, .inl (upd g1 hs (v &&& (nI 255)))))] := hD
  refine lv_aload_n hx hb d_BlockDeskModel_hold_14 rfl (lv_at hl 0 rfl) ?_
  refine lv_aload_n hx hb d_BlockDeskModel_hold_15 rfl (lv_at hl 0 rfl) ?_
  refine va_get (D := (dC, dI)) (ci := 1) (v := .int (nI hs)) (C := R_BlockDeskModel) (T := F_BlockDeskModel) (N := 13) hx hb hts hin1 hown hK hP 0 rfl rfl 7 (by decide) (hts (.fieldLink R_BlockDeskModel 33 "BlockDeskModel" "inHand" "I") (by decide +kernel)) (fun _ h9 => h9) rfl d_BlockDeskModel_hold_16 ?_
  refine lv_iconst (v := nI 1) hx hb d_BlockDeskModel_hold_19 (by decide +kernel) ?_
  refine lv_iadd hx hb d_BlockDeskModel_hold_20 ?_
  refine xq_top (nI (hs + 1)) (nI_add _ _) ?_
  refine va_put (D := (dC, dI)) (ci := 1) (v := .int (nI (hs + 1))) (ty := .int) (C := R_BlockDeskModel) (T := F_BlockDeskModel) (N := 13) hx hb hts hin1 t_BlockDeskModel t_BlockDeskModel_ok n_BlockDeskModel hown hK hP hD hS 0 rfl rfl 7 (by decide) (hts (.fieldLink R_BlockDeskModel 33 "BlockDeskModel" "inHand" "I") (by decide +kernel)) (fun _ h9 => h9) rfl (by decide +kernel) rfl rfl (Nat.le_of_ble_eq_true rfl) d_BlockDeskModel_hold_21 (fun H locs hP hD hS => ?_)
  have hP : va_P (dC, dI) classes [(b0, .inr (1, [.int (nI N), .int up, .int ch, .int wr, .int (nI bg), .int (nI en), .ref b1, .int (nI (hs + 1)), .ref b2, .int (nI ss), .ref b3, .ref b4, .int (nI rc)])), (b1, .inl (o1, 8000, .inl (upd g1 hs (v &&& (nI 255)))))] H := hP
  have hD : va_D A [(b0, .inr (1, [.int (nI N), .int up, .int ch, .int wr, .int (nI bg), .int (nI en), .ref b1, .int (nI (hs + 1)), .ref b2, .int (nI ss), .ref b3, .ref b4, .int (nI rc)])), (b1, .inl (o1, 8000, .inl (upd g1 hs (v &&& (nI 255)))))] := hD
  refine lv_iconst (v := nI 1) hx hb d_BlockDeskModel_hold_24 (by decide +kernel) ?_
  have hP9 := hP.sub (ws' := [(b0, .inr (1, [.int (nI N), .int up, .int ch, .int wr, .int (nI bg), .int (nI en), .ref b1, .int (nI (hs + 1)), .ref b2, .int (nI ss), .ref b3, .ref b4, .int (nI rc)])), (b1, .inl (o1, 8000, .inl (upd g1 hs (v &&& (nI 255)))))]) [0, 1] rfl
  have hD9 := hD.sub (ws' := [(b0, .inr (1, [.int (nI N), .int up, .int ch, .int wr, .int (nI bg), .int (nI en), .ref b1, .int (nI (hs + 1)), .ref b2, .int (nI ss), .ref b3, .ref b4, .int (nI rc)])), (b1, .inl (o1, 8000, .inl (upd g1 hs (v &&& (nI 255)))))]) [0, 1] (by decide) rfl
  have hK9 := hK.sub (tys' := [(o1, .int)]) [0] rfl
  exact W.zret (v := nI 1) hx hb hr zq_nb1 (fun t ht hW => ⟨⟨nI 1, (), rfl, rfl, by rw [ht]; exact hP9, va_K.moved hW.alike hK9, hD9⟩, hS.F ht⟩) hS.2.2 d_BlockDeskModel_hold_25
set_option maxHeartbeats 4000000 in
set_option maxRecDepth 100000 in
theorem c_BlockDeskModel_write (l : Launch) (dC : Nat → ClassId) (dI : Nat → Nat → Nat) (sz : Nat) (b0 : Nat) (b1 : Nat) (b2 : Nat) (b3 : Nat) (b4 : Nat) (N : Nat) (rc : Nat) (bg : Nat) (en : Nat) (ss : Nat) (hs : Nat) (up : Int32) (ch : Int32) (wr : Int32) (n : Int32) (hch : zq_chok ch) : Met l y_BlockDeskModel_write w_BlockDeskModel_write ({ frames := 0, cells := 0, slots := 0, locals := 0 }) (va_Pc [.ref b0, .int n] (fun U => U.heap.size = sz ∧ va_P (dC, dI) classes [(b0, .inr (1, [.int (nI N), .int up, .int ch, .int wr, .int (nI bg), .int (nI en), .ref b1, .int (nI hs), .ref b2, .int (nI ss), .ref b3, .ref b4, .int (nI rc)]))] U.heap ∧ va_K (dC, dI) classes [] U ∧ va_D (fun _ => True) [(b0, .inr (1, [.int (nI N), .int up, .int ch, .int wr, .int (nI bg), .int (nI en), .ref b1, .int (nI hs), .ref b2, .int (nI ss), .ref b3, .ref b4, .int (nI rc)]))])) (va_Qi (fun (r : Int32) (u : Int32 × Nat × Int32 × Int32) => (r, u) = zq_wb up hs ch wr n) (fun (u : Int32 × Nat × Int32 × Int32) (t : State) => match u with | (up', hs', ch', wr') => va_P (dC, dI) classes [(b0, .inr (1, [.int (nI N), .int up', .int ch', .int wr', .int (nI bg), .int (nI en), .ref b1, .int (nI hs'), .ref b2, .int (nI ss), .ref b3, .ref b4, .int (nI rc)]))] t.heap ∧ va_K (dC, dI) classes [] t ∧ va_D (va_A [(b0, .inr (1, [.int (nI N), .int up, .int ch, .int wr, .int (nI bg), .int (nI en), .ref b1, .int (nI hs), .ref b2, .int (nI ss), .ref b3, .ref b4, .int (nI rc)]))] sz) [(b0, .inr (1, [.int (nI N), .int up', .int ch', .int wr', .int (nI bg), .int (nI en), .ref b1, .int (nI hs'), .ref b2, .int (nI ss), .ref b3, .ref b4, .int (nI rc)]))]) (va_A [(b0, .inr (1, [.int (nI N), .int up, .int ch, .int wr, .int (nI bg), .int (nI en), .ref b1, .int (nI hs), .ref b2, .int (nI ss), .ref b3, .ref b4, .int (nI rc)]))] sz)) 0 0 (va_A [(b0, .inr (1, [.int (nI N), .int up, .int ch, .int wr, .int (nI bg), .int (nI en), .ref b1, .int (nI hs), .ref b2, .int (nI ss), .ref b3, .ref b4, .int (nI rc)]))] sz) := by
  refine Met.ofW (cc := b_BlockDeskModel_write) (maxL := 3) (ret := (some .boolean)) (by decide) rfl ?_
  intro p e s m args below meth c s₁ B hml hv
  obtain ⟨rfl, hsz, hP, hK, hD0⟩ := hv
  have hx := B.exec
  have hb := B.bytes
  have hr := B.returns
  have hts := atoms_spec (ws := w_BlockDeskModel_write) B.pre
  have hown : s.vm.findClass R_BlockDeskModel = some m.cls := findClass_of_methodNamed B.named
  have hlocks := B.notSynchronized
  subst hsz
  have hD := hD0.self (sz := s.heap.size)
  generalize hAe : va_A [(b0, .inr (1, [.int (nI N), .int up, .int ch, .int wr, .int (nI bg), .int (nI en), .ref b1, .int (nI hs), .ref b2, .int (nI ss), .ref b3, .ref b4, .int (nI rc)]))] s.heap.size = A at hD ⊢
  have hA : ∀ q : Nat, s.heap.size ≤ q → A q := fun q h => by rw [← hAe]; exact Or.inr h
  have hS : va_S A s.heap s.heap [] := va_S.rf
  have hP : va_P (dC, dI) classes [(b0, .inr (1, [.int (nI N), .int up, .int ch, .int wr, .int (nI bg), .int (nI en), .ref b1, .int (nI hs), .ref b2, .int (nI ss), .ref b3, .ref b4, .int (nI rc)]))] s.heap := hP
  have hin1 : ∀ w ∈ u_ws R_BlockDeskModel F_BlockDeskModel 13, w ∈ w_BlockDeskModel_write := by decide +kernel
  have hl := lv_entry ([.ref b0, .int n]) (n := 3) (Nat.le_of_ble_eq_true rfl)
  rw [lg_entry_eq]
  generalize (lg_sl ([.ref b0, .int n]) ++ List.replicate (3 - (lg_sl ([.ref b0, .int n])).length) Slot.unset).toArray = ls at hl ⊢
  have hl : lv_has ls 3 [(0, .ref b0), (1, .int n)] := hl
  refine lv_aload_n hx hb d_BlockDeskModel_write_0 rfl (lv_at hl 0 rfl) ?_
  refine va_get (D := (dC, dI)) (ci := 1) (v := .int ch) (C := R_BlockDeskModel) (T := F_BlockDeskModel) (N := 13) hx hb hts hin1 hown hK hP 0 rfl rfl 2 (by decide) (hts (.fieldLink R_BlockDeskModel 13 "BlockDeskModel" "charge" "I") (by decide +kernel)) (fun _ h9 => h9) rfl d_BlockDeskModel_write_1 ?_
  refine lv_if_lt (tgt := 15) hx hb d_BlockDeskModel_write_4 (by decide) (fun c_4 => ?_) (fun c_4 => ?_)
  · have c_4 : ch.toInt < 0 := xq_lt_0r.mp c_4
    have e1 : ch = -1 := by rcases hch with h9 | ⟨z, hz, h9⟩; exact h9; rw [h9, nI_toInt (by omega)] at c_4; omega
    subst e1
    refine lv_iconst (v := nI 1) hx hb d_BlockDeskModel_write_15 (by decide +kernel) ?_
    refine lv_goto (tgt := 20) hx hb d_BlockDeskModel_write_16 (by decide) ?_
    refine lv_istore_n (lv' := [(2, .int (nI 1)), (0, .ref b0), (1, .int n)]) hx hb d_BlockDeskModel_write_20 rfl hl (by decide) rfl (fun ls hl => ?_)
    refine lv_aload_n hx hb d_BlockDeskModel_write_21 rfl (lv_at hl 1 rfl) ?_
    refine lv_aload_n hx hb d_BlockDeskModel_write_22 rfl (lv_at hl 1 rfl) ?_
    refine va_get (D := (dC, dI)) (ci := 1) (v := .int wr) (C := R_BlockDeskModel) (T := F_BlockDeskModel) (N := 13) hx hb hts hin1 hown hK hP 0 rfl rfl 3 (by decide) (hts (.fieldLink R_BlockDeskModel 40 "BlockDeskModel" "written" "I") (by decide +kernel)) (fun _ h9 => h9) rfl d_BlockDeskModel_write_23 ?_
    refine lv_iload_n hx hb d_BlockDeskModel_write_26 rfl (lv_at hl 0 rfl) ?_
    refine lv_if_eq (tgt := 34) hx hb d_BlockDeskModel_write_27 (by decide) (fun c_27 => ?_) (fun c_27 => ?_)
    · exact absurd c_27 (xq_n0 (by omega) (by omega))
    · refine lv_iload_n hx hb d_BlockDeskModel_write_30 rfl (lv_at hl 2 rfl) ?_
      refine lv_goto (tgt := 38) hx hb d_BlockDeskModel_write_31 (by decide) ?_
      refine lv_iadd hx hb d_BlockDeskModel_write_38 ?_
      refine va_put (D := (dC, dI)) (ci := 1) (v := .int (wr + n)) (ty := .int) (C := R_BlockDeskModel) (T := F_BlockDeskModel) (N := 13) hx hb hts hin1 t_BlockDeskModel t_BlockDeskModel_ok n_BlockDeskModel hown hK hP hD hS 0 rfl rfl 3 (by decide) (hts (.fieldLink R_BlockDeskModel 40 "BlockDeskModel" "written" "I") (by decide +kernel)) (fun _ h9 => h9) rfl (by decide +kernel) rfl rfl (Nat.le_of_ble_eq_true rfl) d_BlockDeskModel_write_39 (fun H locs hP hD hS => ?_)
      have hP : va_P (dC, dI) classes [(b0, .inr (1, [.int (nI N), .int up, .int (-1), .int (wr + n), .int (nI bg), .int (nI en), .ref b1, .int (nI hs), .ref b2, .int (nI ss), .ref b3, .ref b4, .int (nI rc)]))] H := hP
      have hD : va_D A [(b0, .inr (1, [.int (nI N), .int up, .int (-1), .int (wr + n), .int (nI bg), .int (nI en), .ref b1, .int (nI hs), .ref b2, .int (nI ss), .ref b3, .ref b4, .int (nI rc)]))] := hD
      refine lv_aload_n hx hb d_BlockDeskModel_write_42 rfl (lv_at hl 1 rfl) ?_
      refine lv_iload_n hx hb d_BlockDeskModel_write_43 rfl (lv_at hl 0 rfl) ?_
      refine lv_if_eq (tgt := 63) hx hb d_BlockDeskModel_write_44 (by decide) (fun c_44 => ?_) (fun c_44 => ?_)
      · exact absurd c_44 (xq_n0 (by omega) (by omega))
      · refine lv_aload_n hx hb d_BlockDeskModel_write_47 rfl (lv_at hl 1 rfl) ?_
        refine va_get (D := (dC, dI)) (ci := 1) (v := .int (-1)) (C := R_BlockDeskModel) (T := F_BlockDeskModel) (N := 13) hx hb hts hin1 hown hK hP 0 rfl rfl 2 (by decide) (hts (.fieldLink R_BlockDeskModel 13 "BlockDeskModel" "charge" "I") (by decide +kernel)) (fun _ h9 => h9) rfl d_BlockDeskModel_write_48 ?_
        refine lv_if_lt (tgt := 63) hx hb d_BlockDeskModel_write_51 (by decide) (fun c_51 => ?_) (fun c_51 => ?_)
        · refine lv_iconst (v := (-1)) hx hb d_BlockDeskModel_write_63 (by decide +kernel) ?_
          refine va_put (D := (dC, dI)) (ci := 1) (v := .int (-1)) (ty := .int) (C := R_BlockDeskModel) (T := F_BlockDeskModel) (N := 13) hx hb hts hin1 t_BlockDeskModel t_BlockDeskModel_ok n_BlockDeskModel hown hK hP hD hS 0 rfl rfl 2 (by decide) (hts (.fieldLink R_BlockDeskModel 13 "BlockDeskModel" "charge" "I") (by decide +kernel)) (fun _ h9 => h9) rfl (by decide +kernel) rfl rfl (Nat.le_of_ble_eq_true rfl) d_BlockDeskModel_write_64 (fun H locs hP hD hS => ?_)
          have hP : va_P (dC, dI) classes [(b0, .inr (1, [.int (nI N), .int up, .int (-1), .int (wr + n), .int (nI bg), .int (nI en), .ref b1, .int (nI hs), .ref b2, .int (nI ss), .ref b3, .ref b4, .int (nI rc)]))] H := hP
          have hD : va_D A [(b0, .inr (1, [.int (nI N), .int up, .int (-1), .int (wr + n), .int (nI bg), .int (nI en), .ref b1, .int (nI hs), .ref b2, .int (nI ss), .ref b3, .ref b4, .int (nI rc)]))] := hD
          refine lv_iload_n hx hb d_BlockDeskModel_write_67 rfl (lv_at hl 0 rfl) ?_
          refine lv_if_ne (tgt := 81) hx hb d_BlockDeskModel_write_68 (by decide) (fun c_68 => ?_) (fun c_68 => ?_)
          · refine lv_iload_n hx hb d_BlockDeskModel_write_81 rfl (lv_at hl 0 rfl) ?_
            have hP9 := hP.sub (ws' := [(b0, .inr (1, [.int (nI N), .int up, .int (-1), .int (wr + n), .int (nI bg), .int (nI en), .ref b1, .int (nI hs), .ref b2, .int (nI ss), .ref b3, .ref b4, .int (nI rc)]))]) [0] rfl
            have hD9 := hD.sub (ws' := [(b0, .inr (1, [.int (nI N), .int up, .int (-1), .int (wr + n), .int (nI bg), .int (nI en), .ref b1, .int (nI hs), .ref b2, .int (nI ss), .ref b3, .ref b4, .int (nI rc)]))]) [0] (by decide) rfl
            have hK9 := hK.sub (tys' := []) [] rfl
            exact W.zret (v := nI 1) hx hb hr zq_nb1 (fun t ht hW => ⟨⟨nI 1, (up, hs, (-1), wr + n), rfl, (zq_wb_a rfl).symm, by rw [ht]; exact hP9, va_K.moved hW.alike hK9, hD9⟩, hS.F ht⟩) hS.2.2 d_BlockDeskModel_write_82
          · exact absurd c_68 (xq_n0 (by omega) (by omega))
        · exact absurd (by decide +kernel) c_51
  · have c_4 : ¬ (ch.toInt < 0) := fun h9 => c_4 (xq_lt_0r.mpr h9)
    refine lv_aload_n hx hb d_BlockDeskModel_write_7 rfl (lv_at hl 0 rfl) ?_
    refine va_get (D := (dC, dI)) (ci := 1) (v := .int ch) (C := R_BlockDeskModel) (T := F_BlockDeskModel) (N := 13) hx hb hts hin1 hown hK hP 0 rfl rfl 2 (by decide) (hts (.fieldLink R_BlockDeskModel 13 "BlockDeskModel" "charge" "I") (by decide +kernel)) (fun _ h9 => h9) rfl d_BlockDeskModel_write_8 ?_
    refine lv_iload_n hx hb d_BlockDeskModel_write_11 rfl (lv_at hl 1 rfl) ?_
    refine lv_icmp_lt (tgt := 19) hx hb d_BlockDeskModel_write_12 (by decide) (fun c_12 => ?_) (fun c_12 => ?_)
    · have c_12 : ch.toInt < n.toInt := xq_lt.mp c_12
      refine lv_iconst (v := nI 0) hx hb d_BlockDeskModel_write_19 (by decide +kernel) ?_
      refine lv_istore_n (lv' := [(2, .int (nI 0)), (0, .ref b0), (1, .int n)]) hx hb d_BlockDeskModel_write_20 rfl hl (by decide) rfl (fun ls hl => ?_)
      refine lv_aload_n hx hb d_BlockDeskModel_write_21 rfl (lv_at hl 1 rfl) ?_
      refine lv_aload_n hx hb d_BlockDeskModel_write_22 rfl (lv_at hl 1 rfl) ?_
      refine va_get (D := (dC, dI)) (ci := 1) (v := .int wr) (C := R_BlockDeskModel) (T := F_BlockDeskModel) (N := 13) hx hb hts hin1 hown hK hP 0 rfl rfl 3 (by decide) (hts (.fieldLink R_BlockDeskModel 40 "BlockDeskModel" "written" "I") (by decide +kernel)) (fun _ h9 => h9) rfl d_BlockDeskModel_write_23 ?_
      refine lv_iload_n hx hb d_BlockDeskModel_write_26 rfl (lv_at hl 0 rfl) ?_
      refine lv_if_eq (tgt := 34) hx hb d_BlockDeskModel_write_27 (by decide) (fun c_27 => ?_) (fun c_27 => ?_)
      · refine lv_aload_n hx hb d_BlockDeskModel_write_34 rfl (lv_at hl 1 rfl) ?_
        refine va_get (D := (dC, dI)) (ci := 1) (v := .int ch) (C := R_BlockDeskModel) (T := F_BlockDeskModel) (N := 13) hx hb hts hin1 hown hK hP 0 rfl rfl 2 (by decide) (hts (.fieldLink R_BlockDeskModel 13 "BlockDeskModel" "charge" "I") (by decide +kernel)) (fun _ h9 => h9) rfl d_BlockDeskModel_write_35 ?_
        refine lv_iadd hx hb d_BlockDeskModel_write_38 ?_
        refine va_put (D := (dC, dI)) (ci := 1) (v := .int (wr + ch)) (ty := .int) (C := R_BlockDeskModel) (T := F_BlockDeskModel) (N := 13) hx hb hts hin1 t_BlockDeskModel t_BlockDeskModel_ok n_BlockDeskModel hown hK hP hD hS 0 rfl rfl 3 (by decide) (hts (.fieldLink R_BlockDeskModel 40 "BlockDeskModel" "written" "I") (by decide +kernel)) (fun _ h9 => h9) rfl (by decide +kernel) rfl rfl (Nat.le_of_ble_eq_true rfl) d_BlockDeskModel_write_39 (fun H locs hP hD hS => ?_)
        have hP : va_P (dC, dI) classes [(b0, .inr (1, [.int (nI N), .int up, .int ch, .int (wr + ch), .int (nI bg), .int (nI en), .ref b1, .int (nI hs), .ref b2, .int (nI ss), .ref b3, .ref b4, .int (nI rc)]))] H := hP
        have hD : va_D A [(b0, .inr (1, [.int (nI N), .int up, .int ch, .int (wr + ch), .int (nI bg), .int (nI en), .ref b1, .int (nI hs), .ref b2, .int (nI ss), .ref b3, .ref b4, .int (nI rc)]))] := hD
        refine lv_aload_n hx hb d_BlockDeskModel_write_42 rfl (lv_at hl 1 rfl) ?_
        refine lv_iload_n hx hb d_BlockDeskModel_write_43 rfl (lv_at hl 0 rfl) ?_
        refine lv_if_eq (tgt := 63) hx hb d_BlockDeskModel_write_44 (by decide) (fun c_44 => ?_) (fun c_44 => ?_)
        · refine lv_iconst (v := (-1)) hx hb d_BlockDeskModel_write_63 (by decide +kernel) ?_
          refine va_put (D := (dC, dI)) (ci := 1) (v := .int (-1)) (ty := .int) (C := R_BlockDeskModel) (T := F_BlockDeskModel) (N := 13) hx hb hts hin1 t_BlockDeskModel t_BlockDeskModel_ok n_BlockDeskModel hown hK hP hD hS 0 rfl rfl 2 (by decide) (hts (.fieldLink R_BlockDeskModel 13 "BlockDeskModel" "charge" "I") (by decide +kernel)) (fun _ h9 => h9) rfl (by decide +kernel) rfl rfl (Nat.le_of_ble_eq_true rfl) d_BlockDeskModel_write_64 (fun H locs hP hD hS => ?_)
          have hP : va_P (dC, dI) classes [(b0, .inr (1, [.int (nI N), .int up, .int (-1), .int (wr + ch), .int (nI bg), .int (nI en), .ref b1, .int (nI hs), .ref b2, .int (nI ss), .ref b3, .ref b4, .int (nI rc)]))] H := hP
          have hD : va_D A [(b0, .inr (1, [.int (nI N), .int up, .int (-1), .int (wr + ch), .int (nI bg), .int (nI en), .ref b1, .int (nI hs), .ref b2, .int (nI ss), .ref b3, .ref b4, .int (nI rc)]))] := hD
          refine lv_iload_n hx hb d_BlockDeskModel_write_67 rfl (lv_at hl 0 rfl) ?_
          refine lv_if_ne (tgt := 81) hx hb d_BlockDeskModel_write_68 (by decide) (fun c_68 => ?_) (fun c_68 => ?_)
          · exact absurd rfl c_68
          · refine lv_aload_n hx hb d_BlockDeskModel_write_71 rfl (lv_at hl 1 rfl) ?_
            refine lv_iconst (v := nI 0) hx hb d_BlockDeskModel_write_72 (by decide +kernel) ?_
            refine va_put (D := (dC, dI)) (ci := 1) (v := .int (nI 0)) (ty := .boolean) (C := R_BlockDeskModel) (T := F_BlockDeskModel) (N := 13) hx hb hts hin1 t_BlockDeskModel t_BlockDeskModel_ok n_BlockDeskModel hown hK hP hD hS 0 rfl rfl 1 (by decide) (hts (.fieldLink R_BlockDeskModel 7 "BlockDeskModel" "up" "Z") (by decide +kernel)) (fun _ h9 => h9) rfl (by decide +kernel) zq_nb0 zq_fb0 (Nat.le_of_ble_eq_true rfl) d_BlockDeskModel_write_73 (fun H locs hP hD hS => ?_)
            have hP : va_P (dC, dI) classes [(b0, .inr (1, [.int (nI N), .int (nI 0), .int (-1), .int (wr + ch), .int (nI bg), .int (nI en), .ref b1, .int (nI hs), .ref b2, .int (nI ss), .ref b3, .ref b4, .int (nI rc)]))] H := hP
            have hD : va_D A [(b0, .inr (1, [.int (nI N), .int (nI 0), .int (-1), .int (wr + ch), .int (nI bg), .int (nI en), .ref b1, .int (nI hs), .ref b2, .int (nI ss), .ref b3, .ref b4, .int (nI rc)]))] := hD
            refine lv_aload_n hx hb d_BlockDeskModel_write_76 rfl (lv_at hl 1 rfl) ?_
            refine lv_iconst (v := nI 0) hx hb d_BlockDeskModel_write_77 (by decide +kernel) ?_
            refine va_put (D := (dC, dI)) (ci := 1) (v := .int (nI 0)) (ty := .int) (C := R_BlockDeskModel) (T := F_BlockDeskModel) (N := 13) hx hb hts hin1 t_BlockDeskModel t_BlockDeskModel_ok n_BlockDeskModel hown hK hP hD hS 0 rfl rfl 7 (by decide) (hts (.fieldLink R_BlockDeskModel 33 "BlockDeskModel" "inHand" "I") (by decide +kernel)) (fun _ h9 => h9) rfl (by decide +kernel) rfl rfl (Nat.le_of_ble_eq_true rfl) d_BlockDeskModel_write_78 (fun H locs hP hD hS => ?_)
            have hP : va_P (dC, dI) classes [(b0, .inr (1, [.int (nI N), .int (nI 0), .int (-1), .int (wr + ch), .int (nI bg), .int (nI en), .ref b1, .int (nI 0), .ref b2, .int (nI ss), .ref b3, .ref b4, .int (nI rc)]))] H := hP
            have hD : va_D A [(b0, .inr (1, [.int (nI N), .int (nI 0), .int (-1), .int (wr + ch), .int (nI bg), .int (nI en), .ref b1, .int (nI 0), .ref b2, .int (nI ss), .ref b3, .ref b4, .int (nI rc)]))] := hD
            refine lv_iload_n hx hb d_BlockDeskModel_write_81 rfl (lv_at hl 0 rfl) ?_
            have hP9 := hP.sub (ws' := [(b0, .inr (1, [.int (nI N), .int (nI 0), .int (-1), .int (wr + ch), .int (nI bg), .int (nI en), .ref b1, .int (nI 0), .ref b2, .int (nI ss), .ref b3, .ref b4, .int (nI rc)]))]) [0] rfl
            have hD9 := hD.sub (ws' := [(b0, .inr (1, [.int (nI N), .int (nI 0), .int (-1), .int (wr + ch), .int (nI bg), .int (nI en), .ref b1, .int (nI 0), .ref b2, .int (nI ss), .ref b3, .ref b4, .int (nI rc)]))]) [0] (by decide) rfl
            have hK9 := hK.sub (tys' := []) [] rfl
            exact W.zret (v := nI 0) hx hb hr zq_nb0 (fun t ht hW => ⟨⟨nI 0, (nI 0, 0, (-1), wr + ch), rfl, (zq_wb_b (fun h9 => c_4 (by rw [h9, xq_m1T]; omega)) (xq_lt.mpr c_12)).symm, by rw [ht]; exact hP9, va_K.moved hW.alike hK9, hD9⟩, hS.F ht⟩) hS.2.2 d_BlockDeskModel_write_82
        · exact absurd rfl c_44
      · exact absurd rfl c_27
    · have c_12 : ¬ (ch.toInt < n.toInt) := fun h9 => c_12 (xq_lt.mpr h9)
      refine lv_iconst (v := nI 1) hx hb d_BlockDeskModel_write_15 (by decide +kernel) ?_
      refine lv_goto (tgt := 20) hx hb d_BlockDeskModel_write_16 (by decide) ?_
      refine lv_istore_n (lv' := [(2, .int (nI 1)), (0, .ref b0), (1, .int n)]) hx hb d_BlockDeskModel_write_20 rfl hl (by decide) rfl (fun ls hl => ?_)
      refine lv_aload_n hx hb d_BlockDeskModel_write_21 rfl (lv_at hl 1 rfl) ?_
      refine lv_aload_n hx hb d_BlockDeskModel_write_22 rfl (lv_at hl 1 rfl) ?_
      refine va_get (D := (dC, dI)) (ci := 1) (v := .int wr) (C := R_BlockDeskModel) (T := F_BlockDeskModel) (N := 13) hx hb hts hin1 hown hK hP 0 rfl rfl 3 (by decide) (hts (.fieldLink R_BlockDeskModel 40 "BlockDeskModel" "written" "I") (by decide +kernel)) (fun _ h9 => h9) rfl d_BlockDeskModel_write_23 ?_
      refine lv_iload_n hx hb d_BlockDeskModel_write_26 rfl (lv_at hl 0 rfl) ?_
      refine lv_if_eq (tgt := 34) hx hb d_BlockDeskModel_write_27 (by decide) (fun c_27 => ?_) (fun c_27 => ?_)
      · exact absurd c_27 (xq_n0 (by omega) (by omega))
      · refine lv_iload_n hx hb d_BlockDeskModel_write_30 rfl (lv_at hl 2 rfl) ?_
        refine lv_goto (tgt := 38) hx hb d_BlockDeskModel_write_31 (by decide) ?_
        refine lv_iadd hx hb d_BlockDeskModel_write_38 ?_
        refine va_put (D := (dC, dI)) (ci := 1) (v := .int (wr + n)) (ty := .int) (C := R_BlockDeskModel) (T := F_BlockDeskModel) (N := 13) hx hb hts hin1 t_BlockDeskModel t_BlockDeskModel_ok n_BlockDeskModel hown hK hP hD hS 0 rfl rfl 3 (by decide) (hts (.fieldLink R_BlockDeskModel 40 "BlockDeskModel" "written" "I") (by decide +kernel)) (fun _ h9 => h9) rfl (by decide +kernel) rfl rfl (Nat.le_of_ble_eq_true rfl) d_BlockDeskModel_write_39 (fun H locs hP hD hS => ?_)
        have hP : va_P (dC, dI) classes [(b0, .inr (1, [.int (nI N), .int up, .int ch, .int (wr + n), .int (nI bg), .int (nI en), .ref b1, .int (nI hs), .ref b2, .int (nI ss), .ref b3, .ref b4, .int (nI rc)]))] H := hP
        have hD : va_D A [(b0, .inr (1, [.int (nI N), .int up, .int ch, .int (wr + n), .int (nI bg), .int (nI en), .ref b1, .int (nI hs), .ref b2, .int (nI ss), .ref b3, .ref b4, .int (nI rc)]))] := hD
        refine lv_aload_n hx hb d_BlockDeskModel_write_42 rfl (lv_at hl 1 rfl) ?_
        refine lv_iload_n hx hb d_BlockDeskModel_write_43 rfl (lv_at hl 0 rfl) ?_
        refine lv_if_eq (tgt := 63) hx hb d_BlockDeskModel_write_44 (by decide) (fun c_44 => ?_) (fun c_44 => ?_)
        · exact absurd c_44 (xq_n0 (by omega) (by omega))
        · refine lv_aload_n hx hb d_BlockDeskModel_write_47 rfl (lv_at hl 1 rfl) ?_
          refine va_get (D := (dC, dI)) (ci := 1) (v := .int ch) (C := R_BlockDeskModel) (T := F_BlockDeskModel) (N := 13) hx hb hts hin1 hown hK hP 0 rfl rfl 2 (by decide) (hts (.fieldLink R_BlockDeskModel 13 "BlockDeskModel" "charge" "I") (by decide +kernel)) (fun _ h9 => h9) rfl d_BlockDeskModel_write_48 ?_
          refine lv_if_lt (tgt := 63) hx hb d_BlockDeskModel_write_51 (by decide) (fun c_51 => ?_) (fun c_51 => ?_)
          · have c_51 : ch.toInt < 0 := xq_lt_0r.mp c_51
            exact absurd c_51 c_4
          · have c_51 : ¬ (ch.toInt < 0) := fun h9 => c_51 (xq_lt_0r.mpr h9)
            refine lv_aload_n hx hb d_BlockDeskModel_write_54 rfl (lv_at hl 1 rfl) ?_
            refine va_get (D := (dC, dI)) (ci := 1) (v := .int ch) (C := R_BlockDeskModel) (T := F_BlockDeskModel) (N := 13) hx hb hts hin1 hown hK hP 0 rfl rfl 2 (by decide) (hts (.fieldLink R_BlockDeskModel 13 "BlockDeskModel" "charge" "I") (by decide +kernel)) (fun _ h9 => h9) rfl d_BlockDeskModel_write_55 ?_
            refine lv_iload_n hx hb d_BlockDeskModel_write_58 rfl (lv_at hl 2 rfl) ?_
            refine lv_isub hx hb d_BlockDeskModel_write_59 ?_
            refine lv_goto (tgt := 64) hx hb d_BlockDeskModel_write_60 (by decide) ?_
            refine va_put (D := (dC, dI)) (ci := 1) (v := .int (ch - n)) (ty := .int) (C := R_BlockDeskModel) (T := F_BlockDeskModel) (N := 13) hx hb hts hin1 t_BlockDeskModel t_BlockDeskModel_ok n_BlockDeskModel hown hK hP hD hS 0 rfl rfl 2 (by decide) (hts (.fieldLink R_BlockDeskModel 13 "BlockDeskModel" "charge" "I") (by decide +kernel)) (fun _ h9 => h9) rfl (by decide +kernel) rfl rfl (Nat.le_of_ble_eq_true rfl) d_BlockDeskModel_write_64 (fun H locs hP hD hS => ?_)
            have hP : va_P (dC, dI) classes [(b0, .inr (1, [.int (nI N), .int up, .int (ch - n), .int (wr + n), .int (nI bg), .int (nI en), .ref b1, .int (nI hs), .ref b2, .int (nI ss), .ref b3, .ref b4, .int (nI rc)]))] H := hP
            have hD : va_D A [(b0, .inr (1, [.int (nI N), .int up, .int (ch - n), .int (wr + n), .int (nI bg), .int (nI en), .ref b1, .int (nI hs), .ref b2, .int (nI ss), .ref b3, .ref b4, .int (nI rc)]))] := hD
            refine lv_iload_n hx hb d_BlockDeskModel_write_67 rfl (lv_at hl 0 rfl) ?_
            refine lv_if_ne (tgt := 81) hx hb d_BlockDeskModel_write_68 (by decide) (fun c_68 => ?_) (fun c_68 => ?_)
            · refine lv_iload_n hx hb d_BlockDeskModel_write_81 rfl (lv_at hl 0 rfl) ?_
              have hP9 := hP.sub (ws' := [(b0, .inr (1, [.int (nI N), .int up, .int (ch - n), .int (wr + n), .int (nI bg), .int (nI en), .ref b1, .int (nI hs), .ref b2, .int (nI ss), .ref b3, .ref b4, .int (nI rc)]))]) [0] rfl
              have hD9 := hD.sub (ws' := [(b0, .inr (1, [.int (nI N), .int up, .int (ch - n), .int (wr + n), .int (nI bg), .int (nI en), .ref b1, .int (nI hs), .ref b2, .int (nI ss), .ref b3, .ref b4, .int (nI rc)]))]) [0] (by decide) rfl
              have hK9 := hK.sub (tys' := []) [] rfl
              exact W.zret (v := nI 1) hx hb hr zq_nb1 (fun t ht hW => ⟨⟨nI 1, (up, hs, ch - n, wr + n), rfl, (zq_wb_c (fun h9 => c_4 (by rw [h9, xq_m1T]; omega)) (fun h9 => c_12 (xq_lt.mp h9))).symm, by rw [ht]; exact hP9, va_K.moved hW.alike hK9, hD9⟩, hS.F ht⟩) hS.2.2 d_BlockDeskModel_write_82
            · exact absurd c_68 (xq_n0 (by omega) (by omega))
set_option maxHeartbeats 4000000 in
set_option maxRecDepth 100000 in
theorem c_BlockDeskModel_cut (l : Launch) (dC : Nat → ClassId) (dI : Nat → Nat → Nat) (sz : Nat) (b0 : Nat) (b1 : Nat) (b2 : Nat) (b3 : Nat) (b4 : Nat) (N : Nat) (rc : Nat) (bg : Nat) (en : Nat) (ss : Nat) (hs : Nat) (up : Int32) (ch : Int32) (wr : Int32)  : Met l y_BlockDeskModel_cut w_BlockDeskModel_cut ({ frames := 0, cells := 0, slots := 0, locals := 0 }) (va_Pc [.ref b0] (fun U => U.heap.size = sz ∧ va_P (dC, dI) classes [(b0, .inr (1, [.int (nI N), .int up, .int ch, .int wr, .int (nI bg), .int (nI en), .ref b1, .int (nI hs), .ref b2, .int (nI ss), .ref b3, .ref b4, .int (nI rc)]))] U.heap ∧ va_K (dC, dI) classes [] U ∧ va_D (fun _ => True) [(b0, .inr (1, [.int (nI N), .int up, .int ch, .int wr, .int (nI bg), .int (nI en), .ref b1, .int (nI hs), .ref b2, .int (nI ss), .ref b3, .ref b4, .int (nI rc)]))])) (va_Qi (fun (r : Int32) (u : Int32 × Nat × Int32 × Int32) => (up = 0 ∧ r = nI 0 ∧ u = (up, hs, ch, wr)) ∨ (¬ up = 0 ∧ r = nI 1 ∧ u = (nI 0, 0, -1, wr))) (fun (u : Int32 × Nat × Int32 × Int32) (t : State) => match u with | (up', hs', ch', wr') => va_P (dC, dI) classes [(b0, .inr (1, [.int (nI N), .int up', .int ch', .int wr', .int (nI bg), .int (nI en), .ref b1, .int (nI hs'), .ref b2, .int (nI ss), .ref b3, .ref b4, .int (nI rc)]))] t.heap ∧ va_K (dC, dI) classes [] t ∧ va_D (va_A [(b0, .inr (1, [.int (nI N), .int up, .int ch, .int wr, .int (nI bg), .int (nI en), .ref b1, .int (nI hs), .ref b2, .int (nI ss), .ref b3, .ref b4, .int (nI rc)]))] sz) [(b0, .inr (1, [.int (nI N), .int up', .int ch', .int wr', .int (nI bg), .int (nI en), .ref b1, .int (nI hs'), .ref b2, .int (nI ss), .ref b3, .ref b4, .int (nI rc)]))]) (va_A [(b0, .inr (1, [.int (nI N), .int up, .int ch, .int wr, .int (nI bg), .int (nI en), .ref b1, .int (nI hs), .ref b2, .int (nI ss), .ref b3, .ref b4, .int (nI rc)]))] sz)) 0 0 (va_A [(b0, .inr (1, [.int (nI N), .int up, .int ch, .int wr, .int (nI bg), .int (nI en), .ref b1, .int (nI hs), .ref b2, .int (nI ss), .ref b3, .ref b4, .int (nI rc)]))] sz) := by
  refine Met.ofW (cc := b_BlockDeskModel_cut) (maxL := 1) (ret := (some .boolean)) (by decide) rfl ?_
  intro p e s m args below meth c s₁ B hml hv
  obtain ⟨rfl, hsz, hP, hK, hD0⟩ := hv
  have hx := B.exec
  have hb := B.bytes
  have hr := B.returns
  have hts := atoms_spec (ws := w_BlockDeskModel_cut) B.pre
  have hown : s.vm.findClass R_BlockDeskModel = some m.cls := findClass_of_methodNamed B.named
  have hlocks := B.notSynchronized
  subst hsz
  have hD := hD0.self (sz := s.heap.size)
  generalize hAe : va_A [(b0, .inr (1, [.int (nI N), .int up, .int ch, .int wr, .int (nI bg), .int (nI en), .ref b1, .int (nI hs), .ref b2, .int (nI ss), .ref b3, .ref b4, .int (nI rc)]))] s.heap.size = A at hD ⊢
  have hA : ∀ q : Nat, s.heap.size ≤ q → A q := fun q h => by rw [← hAe]; exact Or.inr h
  have hS : va_S A s.heap s.heap [] := va_S.rf
  have hP : va_P (dC, dI) classes [(b0, .inr (1, [.int (nI N), .int up, .int ch, .int wr, .int (nI bg), .int (nI en), .ref b1, .int (nI hs), .ref b2, .int (nI ss), .ref b3, .ref b4, .int (nI rc)]))] s.heap := hP
  have hin1 : ∀ w ∈ u_ws R_BlockDeskModel F_BlockDeskModel 13, w ∈ w_BlockDeskModel_cut := by decide +kernel
  have hl := lv_entry ([.ref b0]) (n := 1) (Nat.le_of_ble_eq_true rfl)
  rw [lg_entry_eq]
  generalize (lg_sl ([.ref b0]) ++ List.replicate (1 - (lg_sl ([.ref b0])).length) Slot.unset).toArray = ls at hl ⊢
  have hl : lv_has ls 1 [(0, .ref b0)] := hl
  refine lv_aload_n hx hb d_BlockDeskModel_cut_0 rfl (lv_at hl 0 rfl) ?_
  refine va_get (D := (dC, dI)) (ci := 1) (v := .int up) (C := R_BlockDeskModel) (T := F_BlockDeskModel) (N := 13) hx hb hts hin1 hown hK hP 0 rfl rfl 1 (by decide) (hts (.fieldLink R_BlockDeskModel 7 "BlockDeskModel" "up" "Z") (by decide +kernel)) (fun _ h9 => h9) rfl d_BlockDeskModel_cut_1 ?_
  refine lv_if_ne (tgt := 9) hx hb d_BlockDeskModel_cut_4 (by decide) (fun c_4 => ?_) (fun c_4 => ?_)
  · refine lv_aload_n hx hb d_BlockDeskModel_cut_9 rfl (lv_at hl 0 rfl) ?_
    refine lv_iconst (v := nI 0) hx hb d_BlockDeskModel_cut_10 (by decide +kernel) ?_
    refine va_put (D := (dC, dI)) (ci := 1) (v := .int (nI 0)) (ty := .boolean) (C := R_BlockDeskModel) (T := F_BlockDeskModel) (N := 13) hx hb hts hin1 t_BlockDeskModel t_BlockDeskModel_ok n_BlockDeskModel hown hK hP hD hS 0 rfl rfl 1 (by decide) (hts (.fieldLink R_BlockDeskModel 7 "BlockDeskModel" "up" "Z") (by decide +kernel)) (fun _ h9 => h9) rfl (by decide +kernel) zq_nb0 zq_fb0 (Nat.le_of_ble_eq_true rfl) d_BlockDeskModel_cut_11 (fun H locs hP hD hS => ?_)
    have hP : va_P (dC, dI) classes [(b0, .inr (1, [.int (nI N), .int (nI 0), .int ch, .int wr, .int (nI bg), .int (nI en), .ref b1, .int (nI hs), .ref b2, .int (nI ss), .ref b3, .ref b4, .int (nI rc)]))] H := hP
    have hD : va_D A [(b0, .inr (1, [.int (nI N), .int (nI 0), .int ch, .int wr, .int (nI bg), .int (nI en), .ref b1, .int (nI hs), .ref b2, .int (nI ss), .ref b3, .ref b4, .int (nI rc)]))] := hD
    refine lv_aload_n hx hb d_BlockDeskModel_cut_14 rfl (lv_at hl 0 rfl) ?_
    refine lv_iconst (v := (-1)) hx hb d_BlockDeskModel_cut_15 (by decide +kernel) ?_
    refine va_put (D := (dC, dI)) (ci := 1) (v := .int (-1)) (ty := .int) (C := R_BlockDeskModel) (T := F_BlockDeskModel) (N := 13) hx hb hts hin1 t_BlockDeskModel t_BlockDeskModel_ok n_BlockDeskModel hown hK hP hD hS 0 rfl rfl 2 (by decide) (hts (.fieldLink R_BlockDeskModel 13 "BlockDeskModel" "charge" "I") (by decide +kernel)) (fun _ h9 => h9) rfl (by decide +kernel) rfl rfl (Nat.le_of_ble_eq_true rfl) d_BlockDeskModel_cut_16 (fun H locs hP hD hS => ?_)
    have hP : va_P (dC, dI) classes [(b0, .inr (1, [.int (nI N), .int (nI 0), .int (-1), .int wr, .int (nI bg), .int (nI en), .ref b1, .int (nI hs), .ref b2, .int (nI ss), .ref b3, .ref b4, .int (nI rc)]))] H := hP
    have hD : va_D A [(b0, .inr (1, [.int (nI N), .int (nI 0), .int (-1), .int wr, .int (nI bg), .int (nI en), .ref b1, .int (nI hs), .ref b2, .int (nI ss), .ref b3, .ref b4, .int (nI rc)]))] := hD
    refine lv_aload_n hx hb d_BlockDeskModel_cut_19 rfl (lv_at hl 0 rfl) ?_
    refine lv_iconst (v := nI 0) hx hb d_BlockDeskModel_cut_20 (by decide +kernel) ?_
    refine va_put (D := (dC, dI)) (ci := 1) (v := .int (nI 0)) (ty := .int) (C := R_BlockDeskModel) (T := F_BlockDeskModel) (N := 13) hx hb hts hin1 t_BlockDeskModel t_BlockDeskModel_ok n_BlockDeskModel hown hK hP hD hS 0 rfl rfl 7 (by decide) (hts (.fieldLink R_BlockDeskModel 33 "BlockDeskModel" "inHand" "I") (by decide +kernel)) (fun _ h9 => h9) rfl (by decide +kernel) rfl rfl (Nat.le_of_ble_eq_true rfl) d_BlockDeskModel_cut_21 (fun H locs hP hD hS => ?_)
    have hP : va_P (dC, dI) classes [(b0, .inr (1, [.int (nI N), .int (nI 0), .int (-1), .int wr, .int (nI bg), .int (nI en), .ref b1, .int (nI 0), .ref b2, .int (nI ss), .ref b3, .ref b4, .int (nI rc)]))] H := hP
    have hD : va_D A [(b0, .inr (1, [.int (nI N), .int (nI 0), .int (-1), .int wr, .int (nI bg), .int (nI en), .ref b1, .int (nI 0), .ref b2, .int (nI ss), .ref b3, .ref b4, .int (nI rc)]))] := hD
    refine lv_iconst (v := nI 1) hx hb d_BlockDeskModel_cut_24 (by decide +kernel) ?_
    have hP9 := hP.sub (ws' := [(b0, .inr (1, [.int (nI N), .int (nI 0), .int (-1), .int wr, .int (nI bg), .int (nI en), .ref b1, .int (nI 0), .ref b2, .int (nI ss), .ref b3, .ref b4, .int (nI rc)]))]) [0] rfl
    have hD9 := hD.sub (ws' := [(b0, .inr (1, [.int (nI N), .int (nI 0), .int (-1), .int wr, .int (nI bg), .int (nI en), .ref b1, .int (nI 0), .ref b2, .int (nI ss), .ref b3, .ref b4, .int (nI rc)]))]) [0] (by decide) rfl
    have hK9 := hK.sub (tys' := []) [] rfl
    exact W.zret (v := nI 1) hx hb hr zq_nb1 (fun t ht hW => ⟨⟨nI 1, (nI 0, 0, (-1), wr), rfl, Or.inr ⟨c_4, rfl, rfl⟩, by rw [ht]; exact hP9, va_K.moved hW.alike hK9, hD9⟩, hS.F ht⟩) hS.2.2 d_BlockDeskModel_cut_25
  · refine lv_iconst (v := nI 0) hx hb d_BlockDeskModel_cut_7 (by decide +kernel) ?_
    have hP9 := hP.sub (ws' := [(b0, .inr (1, [.int (nI N), .int up, .int ch, .int wr, .int (nI bg), .int (nI en), .ref b1, .int (nI hs), .ref b2, .int (nI ss), .ref b3, .ref b4, .int (nI rc)]))]) [0] rfl
    have hD9 := hD.sub (ws' := [(b0, .inr (1, [.int (nI N), .int up, .int ch, .int wr, .int (nI bg), .int (nI en), .ref b1, .int (nI hs), .ref b2, .int (nI ss), .ref b3, .ref b4, .int (nI rc)]))]) [0] (by decide) rfl
    have hK9 := hK.sub (tys' := []) [] rfl
    exact W.zret (v := nI 0) hx hb hr zq_nb0 (fun t ht hW => ⟨⟨nI 0, (up, hs, ch, wr), rfl, Or.inl ⟨c_4, rfl, rfl⟩, by rw [ht]; exact hP9, va_K.moved hW.alike hK9, hD9⟩, hS.F ht⟩) hS.2.2 d_BlockDeskModel_cut_8
set_option maxHeartbeats 4000000 in
set_option maxRecDepth 100000 in
theorem c_BlockDeskModel_start (l : Launch) (dC : Nat → ClassId) (dI : Nat → Nat → Nat) (sz : Nat) (b0 : Nat) (b1 : Nat) (b2 : Nat) (b3 : Nat) (b4 : Nat) (N : Nat) (rc : Nat) (bg : Nat) (en : Nat) (ss : Nat) (hs : Nat) (up : Int32) (ch : Int32) (wr : Int32) (hch : zq_chok ch) : Met l y_BlockDeskModel_start w_BlockDeskModel_start ({ frames := 1, cells := 0, slots := 0, locals := 22 }) (va_Pc [.ref b0] (fun U => U.heap.size = sz ∧ va_P (dC, dI) classes [(b0, .inr (1, [.int (nI N), .int up, .int ch, .int wr, .int (nI bg), .int (nI en), .ref b1, .int (nI hs), .ref b2, .int (nI ss), .ref b3, .ref b4, .int (nI rc)]))] U.heap ∧ va_K (dC, dI) classes [] U ∧ va_D (fun _ => True) [(b0, .inr (1, [.int (nI N), .int up, .int ch, .int wr, .int (nI bg), .int (nI en), .ref b1, .int (nI hs), .ref b2, .int (nI ss), .ref b3, .ref b4, .int (nI rc)]))])) (va_Qi (fun (r : Int32) (u : Int32 × Nat × Int32 × Int32) => (¬ up = 0 ∧ r = nI 0 ∧ u = (up, hs, ch, wr)) ∨ (up = 0 ∧ r = nI 2 ∧ (nI 0, u) = zq_wb up hs ch wr (nI 1)) ∨ (up = 0 ∧ r = nI 1 ∧ ∃ up1 : Int32, (nI 1, up1, u.2) = zq_wb up hs ch wr (nI 1) ∧ u.1 = nI 1)) (fun (u : Int32 × Nat × Int32 × Int32) (t : State) => match u with | (up', hs', ch', wr') => va_P (dC, dI) classes [(b0, .inr (1, [.int (nI N), .int up', .int ch', .int wr', .int (nI bg), .int (nI en), .ref b1, .int (nI hs'), .ref b2, .int (nI ss), .ref b3, .ref b4, .int (nI rc)]))] t.heap ∧ va_K (dC, dI) classes [] t ∧ va_D (va_A [(b0, .inr (1, [.int (nI N), .int up, .int ch, .int wr, .int (nI bg), .int (nI en), .ref b1, .int (nI hs), .ref b2, .int (nI ss), .ref b3, .ref b4, .int (nI rc)]))] sz) [(b0, .inr (1, [.int (nI N), .int up', .int ch', .int wr', .int (nI bg), .int (nI en), .ref b1, .int (nI hs'), .ref b2, .int (nI ss), .ref b3, .ref b4, .int (nI rc)]))]) (va_A [(b0, .inr (1, [.int (nI N), .int up, .int ch, .int wr, .int (nI bg), .int (nI en), .ref b1, .int (nI hs), .ref b2, .int (nI ss), .ref b3, .ref b4, .int (nI rc)]))] sz)) 0 0 (va_A [(b0, .inr (1, [.int (nI N), .int up, .int ch, .int wr, .int (nI bg), .int (nI en), .ref b1, .int (nI hs), .ref b2, .int (nI ss), .ref b3, .ref b4, .int (nI rc)]))] sz) := by
  refine Met.ofW (cc := b_BlockDeskModel_start) (maxL := 1) (ret := (some .int)) (by decide) rfl ?_
  intro p e s m args below meth c s₁ B hml hv
  obtain ⟨rfl, hsz, hP, hK, hD0⟩ := hv
  have hx := B.exec
  have hb := B.bytes
  have hr := B.returns
  have hts := atoms_spec (ws := w_BlockDeskModel_start) B.pre
  have hown : s.vm.findClass R_BlockDeskModel = some m.cls := findClass_of_methodNamed B.named
  have hlocks := B.notSynchronized
  subst hsz
  have hD := hD0.self (sz := s.heap.size)
  generalize hAe : va_A [(b0, .inr (1, [.int (nI N), .int up, .int ch, .int wr, .int (nI bg), .int (nI en), .ref b1, .int (nI hs), .ref b2, .int (nI ss), .ref b3, .ref b4, .int (nI rc)]))] s.heap.size = A at hD ⊢
  have hA : ∀ q : Nat, s.heap.size ≤ q → A q := fun q h => by rw [← hAe]; exact Or.inr h
  have hS : va_S A s.heap s.heap [] := va_S.rf
  have hP : va_P (dC, dI) classes [(b0, .inr (1, [.int (nI N), .int up, .int ch, .int wr, .int (nI bg), .int (nI en), .ref b1, .int (nI hs), .ref b2, .int (nI ss), .ref b3, .ref b4, .int (nI rc)]))] s.heap := hP
  have hin1 : ∀ w ∈ u_ws R_BlockDeskModel F_BlockDeskModel 13, w ∈ w_BlockDeskModel_start := by decide +kernel
  have hl := lv_entry ([.ref b0]) (n := 1) (Nat.le_of_ble_eq_true rfl)
  rw [lg_entry_eq]
  generalize (lg_sl ([.ref b0]) ++ List.replicate (1 - (lg_sl ([.ref b0])).length) Slot.unset).toArray = ls at hl ⊢
  have hl : lv_has ls 1 [(0, .ref b0)] := hl
  refine lv_aload_n hx hb d_BlockDeskModel_start_0 rfl (lv_at hl 0 rfl) ?_
  refine va_get (D := (dC, dI)) (ci := 1) (v := .int up) (C := R_BlockDeskModel) (T := F_BlockDeskModel) (N := 13) hx hb hts hin1 hown hK hP 0 rfl rfl 1 (by decide) (hts (.fieldLink R_BlockDeskModel 7 "BlockDeskModel" "up" "Z") (by decide +kernel)) (fun _ h9 => h9) rfl d_BlockDeskModel_start_1 ?_
  refine lv_if_eq (tgt := 9) hx hb d_BlockDeskModel_start_4 (by decide) (fun c_4 => ?_) (fun c_4 => ?_)
  · refine lv_aload_n hx hb d_BlockDeskModel_start_9 rfl (lv_at hl 0 rfl) ?_
    refine lv_iconst (v := nI 1) hx hb d_BlockDeskModel_start_10 (by decide +kernel) ?_
    have hPc := hP.sub (ws' := [(b0, .inr (1, [.int (nI N), .int up, .int ch, .int wr, .int (nI bg), .int (nI en), .ref b1, .int (nI hs), .ref b2, .int (nI ss), .ref b3, .ref b4, .int (nI rc)]))]) [0] rfl
    have hDc := hD.sub (ws' := [(b0, .inr (1, [.int (nI N), .int up, .int ch, .int wr, .int (nI bg), .int (nI en), .ref b1, .int (nI hs), .ref b2, .int (nI ss), .ref b3, .ref b4, .int (nI rc)]))]) [0] (by decide) rfl
    have hKc := hK.sub (tys' := []) [] rfl
    have hFc := va_free (wc := [(b0, .inr (1, [.int (nI N), .int up, .int ch, .int wr, .int (nI bg), .int (nI en), .ref b1, .int (nI hs), .ref b2, .int (nI ss), .ref b3, .ref b4, .int (nI rc)]))]) hD hS hA [0] rfl
    refine va_calli (va_runV (As := [.int (nI 1)]) (rest := []) ⟨hx, hb, hml, hown, hts⟩ (c_BlockDeskModel_write l dC dI s.heap.size b0 b1 b2 b3 b4 N rc bg en ss hs up ch wr (nI 1) hch) (cwV 1 hts g_BlockDeskModel_start_BlockDeskModel_write rfl rfl rfl (by decide +kernel) ⟨Nat.le_of_ble_eq_true rfl, Nat.le_of_ble_eq_true rfl⟩) ⟨fun a U g mk q => by obtain ⟨q0, q1, qP, qK, qD⟩ := q; exact ⟨q0, q1, qP, va_K.moved (u := U) (U := U.calling g mk a) (Vm.Alike.refl U.vm) qK, qD⟩, va_recv hKc hPc (ci := 1) (q0 := 0) rfl rfl, fun U hU hW => ⟨rfl, by rw [hU], by rw [hU]; exact hPc, va_K.moved hW.alike hKc, hDc.weaken (fun _ _ _ _ => trivial)⟩⟩ rfl rfl hl.1 rfl (lv_room (Nat.le_of_ble_eq_true rfl)) d_BlockDeskModel_start_11 ⟨(Nat.zero_le _), (Nat.zero_le _)⟩) hS (fun q _ h => hFc q h) hFc (fun r_11 u t H1 locs ht hvm hw hB hz1 hk1 hS => ?_)
    obtain ⟨up1, hs1, ch1, wr1⟩ := u
    obtain ⟨hP1, hK1, hD1⟩ := hB
    rw [ht] at hP1
    try dsimp only at hw
    obtain ⟨hP, hD⟩ := va_join (wr := []) (w1 := [(b0, .inr (1, [.int (nI N), .int up1, .int ch1, .int wr1, .int (nI bg), .int (nI en), .ref b1, .int (nI hs1), .ref b2, .int (nI ss), .ref b3, .ref b4, .int (nI rc)]))]) hP hD [0] [] rfl rfl (by decide) (by decide) hk1 hFc hP1 hD1
    generalize H1 = H at hP hS ⊢
    have hP : va_P (dC, dI) classes [(b0, .inr (1, [.int (nI N), .int up1, .int ch1, .int wr1, .int (nI bg), .int (nI en), .ref b1, .int (nI hs1), .ref b2, .int (nI ss), .ref b3, .ref b4, .int (nI rc)]))] H := hP
    have hD : va_D A [(b0, .inr (1, [.int (nI N), .int up1, .int ch1, .int wr1, .int (nI bg), .int (nI en), .ref b1, .int (nI hs1), .ref b2, .int (nI ss), .ref b3, .ref b4, .int (nI rc)]))] := hD
    rcases zq_wb_split hw with ⟨rfl, hw⟩ | ⟨rfl, hw⟩
    · have h8 : True := trivial
      refine lv_if_ne (tgt := 19) hx hb d_BlockDeskModel_start_14 (by decide) (fun c_14 => ?_) (fun c_14 => ?_)
      · exact absurd rfl c_14
      · refine lv_iconst (v := nI 2) hx hb d_BlockDeskModel_start_17 (by decide +kernel) ?_
        have hP9 := hP.sub (ws' := [(b0, .inr (1, [.int (nI N), .int up1, .int ch1, .int wr1, .int (nI bg), .int (nI en), .ref b1, .int (nI hs1), .ref b2, .int (nI ss), .ref b3, .ref b4, .int (nI rc)]))]) [0] rfl
        have hD9 := hD.sub (ws' := [(b0, .inr (1, [.int (nI N), .int up1, .int ch1, .int wr1, .int (nI bg), .int (nI en), .ref b1, .int (nI hs1), .ref b2, .int (nI ss), .ref b3, .ref b4, .int (nI rc)]))]) [0] (by decide) rfl
        have hK9 := hK.sub (tys' := []) [] rfl
        exact W.iret (v := nI 2) hx hb hr (fun t ht hW => ⟨⟨nI 2, (up1, hs1, ch1, wr1), rfl, Or.inr (Or.inl ⟨c_4, rfl, hw⟩), by rw [ht]; exact hP9, va_K.moved hW.alike hK9, hD9⟩, hS.F ht⟩) hS.2.2 d_BlockDeskModel_start_18
    · have h8 : True := trivial
      refine lv_if_ne (tgt := 19) hx hb d_BlockDeskModel_start_14 (by decide) (fun c_14 => ?_) (fun c_14 => ?_)
      · refine lv_aload_n hx hb d_BlockDeskModel_start_19 rfl (lv_at hl 0 rfl) ?_
        refine lv_iconst (v := nI 1) hx hb d_BlockDeskModel_start_20 (by decide +kernel) ?_
        refine va_put (D := (dC, dI)) (ci := 1) (v := .int (nI 1)) (ty := .boolean) (C := R_BlockDeskModel) (T := F_BlockDeskModel) (N := 13) hx hb hts hin1 t_BlockDeskModel t_BlockDeskModel_ok n_BlockDeskModel hown hK hP hD hS 0 rfl rfl 1 (by decide) (hts (.fieldLink R_BlockDeskModel 7 "BlockDeskModel" "up" "Z") (by decide +kernel)) (fun _ h9 => h9) rfl (by decide +kernel) zq_nb1 zq_fb1 (Nat.le_of_ble_eq_true rfl) d_BlockDeskModel_start_21 (fun H locs hP hD hS => ?_)
        have hP : va_P (dC, dI) classes [(b0, .inr (1, [.int (nI N), .int (nI 1), .int ch1, .int wr1, .int (nI bg), .int (nI en), .ref b1, .int (nI hs1), .ref b2, .int (nI ss), .ref b3, .ref b4, .int (nI rc)]))] H := hP
        have hD : va_D A [(b0, .inr (1, [.int (nI N), .int (nI 1), .int ch1, .int wr1, .int (nI bg), .int (nI en), .ref b1, .int (nI hs1), .ref b2, .int (nI ss), .ref b3, .ref b4, .int (nI rc)]))] := hD
        refine lv_iconst (v := nI 1) hx hb d_BlockDeskModel_start_24 (by decide +kernel) ?_
        have hP9 := hP.sub (ws' := [(b0, .inr (1, [.int (nI N), .int (nI 1), .int ch1, .int wr1, .int (nI bg), .int (nI en), .ref b1, .int (nI hs1), .ref b2, .int (nI ss), .ref b3, .ref b4, .int (nI rc)]))]) [0] rfl
        have hD9 := hD.sub (ws' := [(b0, .inr (1, [.int (nI N), .int (nI 1), .int ch1, .int wr1, .int (nI bg), .int (nI en), .ref b1, .int (nI hs1), .ref b2, .int (nI ss), .ref b3, .ref b4, .int (nI rc)]))]) [0] (by decide) rfl
        have hK9 := hK.sub (tys' := []) [] rfl
        exact W.iret (v := nI 1) hx hb hr (fun t ht hW => ⟨⟨nI 1, (nI 1, hs1, ch1, wr1), rfl, Or.inr (Or.inr ⟨c_4, rfl, up1, hw, rfl⟩), by rw [ht]; exact hP9, va_K.moved hW.alike hK9, hD9⟩, hS.F ht⟩) hS.2.2 d_BlockDeskModel_start_25
      · exact absurd c_14 (xq_n0 (by omega) (by omega))
  · refine lv_iconst (v := nI 0) hx hb d_BlockDeskModel_start_7 (by decide +kernel) ?_
    have hP9 := hP.sub (ws' := [(b0, .inr (1, [.int (nI N), .int up, .int ch, .int wr, .int (nI bg), .int (nI en), .ref b1, .int (nI hs), .ref b2, .int (nI ss), .ref b3, .ref b4, .int (nI rc)]))]) [0] rfl
    have hD9 := hD.sub (ws' := [(b0, .inr (1, [.int (nI N), .int up, .int ch, .int wr, .int (nI bg), .int (nI en), .ref b1, .int (nI hs), .ref b2, .int (nI ss), .ref b3, .ref b4, .int (nI rc)]))]) [0] (by decide) rfl
    have hK9 := hK.sub (tys' := []) [] rfl
    exact W.iret (v := nI 0) hx hb hr (fun t ht hW => ⟨⟨nI 0, (up, hs, ch, wr), rfl, Or.inl ⟨c_4, rfl, rfl⟩, by rw [ht]; exact hP9, va_K.moved hW.alike hK9, hD9⟩, hS.F ht⟩) hS.2.2 d_BlockDeskModel_start_8
set_option maxHeartbeats 4000000 in
set_option maxRecDepth 100000 in
theorem c_BlockDeskModel_charge (l : Launch) (dC : Nat → ClassId) (dI : Nat → Nat → Nat) (sz : Nat) (b0 : Nat) (b1 : Nat) (b2 : Nat) (b3 : Nat) (b4 : Nat) (N : Nat) (rc : Nat) (bg : Nat) (en : Nat) (ss : Nat) (hs : Nat) (up : Int32) (ch : Int32) (wr : Int32) (n : Int32)  : Met l y_BlockDeskModel_charge w_BlockDeskModel_charge ({ frames := 0, cells := 0, slots := 0, locals := 0 }) (va_Pc [.ref b0, .int n] (fun U => U.heap.size = sz ∧ va_P (dC, dI) classes [(b0, .inr (1, [.int (nI N), .int up, .int ch, .int wr, .int (nI bg), .int (nI en), .ref b1, .int (nI hs), .ref b2, .int (nI ss), .ref b3, .ref b4, .int (nI rc)]))] U.heap ∧ va_K (dC, dI) classes [] U ∧ va_D (fun _ => True) [(b0, .inr (1, [.int (nI N), .int up, .int ch, .int wr, .int (nI bg), .int (nI en), .ref b1, .int (nI hs), .ref b2, .int (nI ss), .ref b3, .ref b4, .int (nI rc)]))])) (va_Qi (fun (r : Int32) (u : Int32) => (0 ≤ n.toInt ∧ n.toInt ≤ 999 ∧ r = nI 1 ∧ u = n) ∨ (¬ (0 ≤ n.toInt ∧ n.toInt ≤ 999) ∧ r = nI 0 ∧ u = ch)) (fun (u : Int32) (t : State) => match u with | ch' => va_P (dC, dI) classes [(b0, .inr (1, [.int (nI N), .int up, .int ch', .int wr, .int (nI bg), .int (nI en), .ref b1, .int (nI hs), .ref b2, .int (nI ss), .ref b3, .ref b4, .int (nI rc)]))] t.heap ∧ va_K (dC, dI) classes [] t ∧ va_D (va_A [(b0, .inr (1, [.int (nI N), .int up, .int ch, .int wr, .int (nI bg), .int (nI en), .ref b1, .int (nI hs), .ref b2, .int (nI ss), .ref b3, .ref b4, .int (nI rc)]))] sz) [(b0, .inr (1, [.int (nI N), .int up, .int ch', .int wr, .int (nI bg), .int (nI en), .ref b1, .int (nI hs), .ref b2, .int (nI ss), .ref b3, .ref b4, .int (nI rc)]))]) (va_A [(b0, .inr (1, [.int (nI N), .int up, .int ch, .int wr, .int (nI bg), .int (nI en), .ref b1, .int (nI hs), .ref b2, .int (nI ss), .ref b3, .ref b4, .int (nI rc)]))] sz)) 0 0 (va_A [(b0, .inr (1, [.int (nI N), .int up, .int ch, .int wr, .int (nI bg), .int (nI en), .ref b1, .int (nI hs), .ref b2, .int (nI ss), .ref b3, .ref b4, .int (nI rc)]))] sz) := by
  refine Met.ofW (cc := b_BlockDeskModel_charge) (maxL := 2) (ret := (some .boolean)) (by decide) rfl ?_
  intro p e s m args below meth c s₁ B hml hv
  obtain ⟨rfl, hsz, hP, hK, hD0⟩ := hv
  have hx := B.exec
  have hb := B.bytes
  have hr := B.returns
  have hts := atoms_spec (ws := w_BlockDeskModel_charge) B.pre
  have hown : s.vm.findClass R_BlockDeskModel = some m.cls := findClass_of_methodNamed B.named
  have hlocks := B.notSynchronized
  subst hsz
  have hD := hD0.self (sz := s.heap.size)
  generalize hAe : va_A [(b0, .inr (1, [.int (nI N), .int up, .int ch, .int wr, .int (nI bg), .int (nI en), .ref b1, .int (nI hs), .ref b2, .int (nI ss), .ref b3, .ref b4, .int (nI rc)]))] s.heap.size = A at hD ⊢
  have hA : ∀ q : Nat, s.heap.size ≤ q → A q := fun q h => by rw [← hAe]; exact Or.inr h
  have hS : va_S A s.heap s.heap [] := va_S.rf
  have hP : va_P (dC, dI) classes [(b0, .inr (1, [.int (nI N), .int up, .int ch, .int wr, .int (nI bg), .int (nI en), .ref b1, .int (nI hs), .ref b2, .int (nI ss), .ref b3, .ref b4, .int (nI rc)]))] s.heap := hP
  have hin1 : ∀ w ∈ u_ws R_BlockDeskModel F_BlockDeskModel 13, w ∈ w_BlockDeskModel_charge := by decide +kernel
  have hl := lv_entry ([.ref b0, .int n]) (n := 2) (Nat.le_of_ble_eq_true rfl)
  rw [lg_entry_eq]
  generalize (lg_sl ([.ref b0, .int n]) ++ List.replicate (2 - (lg_sl ([.ref b0, .int n])).length) Slot.unset).toArray = ls at hl ⊢
  have hl : lv_has ls 2 [(0, .ref b0), (1, .int n)] := hl
  refine lv_iload_n hx hb d_BlockDeskModel_charge_0 rfl (lv_at hl 1 rfl) ?_
  refine lv_if_lt (tgt := 11) hx hb d_BlockDeskModel_charge_1 (by decide) (fun c_1 => ?_) (fun c_1 => ?_)
  · have c_1 : n.toInt < 0 := xq_lt_0r.mp c_1
    refine lv_iconst (v := nI 0) hx hb d_BlockDeskModel_charge_11 (by decide +kernel) ?_
    have hP9 := hP.sub (ws' := [(b0, .inr (1, [.int (nI N), .int up, .int ch, .int wr, .int (nI bg), .int (nI en), .ref b1, .int (nI hs), .ref b2, .int (nI ss), .ref b3, .ref b4, .int (nI rc)]))]) [0] rfl
    have hD9 := hD.sub (ws' := [(b0, .inr (1, [.int (nI N), .int up, .int ch, .int wr, .int (nI bg), .int (nI en), .ref b1, .int (nI hs), .ref b2, .int (nI ss), .ref b3, .ref b4, .int (nI rc)]))]) [0] (by decide) rfl
    have hK9 := hK.sub (tys' := []) [] rfl
    exact W.zret (v := nI 0) hx hb hr zq_nb0 (fun t ht hW => ⟨⟨nI 0, ch, rfl, Or.inr ⟨by omega, rfl, rfl⟩, by rw [ht]; exact hP9, va_K.moved hW.alike hK9, hD9⟩, hS.F ht⟩) hS.2.2 d_BlockDeskModel_charge_12
  · have c_1 : ¬ (n.toInt < 0) := fun h9 => c_1 (xq_lt_0r.mpr h9)
    refine lv_iload_n hx hb d_BlockDeskModel_charge_4 rfl (lv_at hl 1 rfl) ?_
    refine lv_sipush (v := nI 999) hx hb d_BlockDeskModel_charge_5 (by decide +kernel) ?_
    refine lv_icmp_le (tgt := 13) hx hb d_BlockDeskModel_charge_8 (by decide) (fun c_8 => ?_) (fun c_8 => ?_)
    · have c_8 : n.toInt ≤ ((999 : Nat) : Int) := (xq_le_r (by omega)).mp c_8
      refine lv_aload_n hx hb d_BlockDeskModel_charge_13 rfl (lv_at hl 0 rfl) ?_
      refine lv_iload_n hx hb d_BlockDeskModel_charge_14 rfl (lv_at hl 1 rfl) ?_
      refine va_put (D := (dC, dI)) (ci := 1) (v := .int n) (ty := .int) (C := R_BlockDeskModel) (T := F_BlockDeskModel) (N := 13) hx hb hts hin1 t_BlockDeskModel t_BlockDeskModel_ok n_BlockDeskModel hown hK hP hD hS 0 rfl rfl 2 (by decide) (hts (.fieldLink R_BlockDeskModel 13 "BlockDeskModel" "charge" "I") (by decide +kernel)) (fun _ h9 => h9) rfl (by decide +kernel) rfl rfl (Nat.le_of_ble_eq_true rfl) d_BlockDeskModel_charge_15 (fun H locs hP hD hS => ?_)
      have hP : va_P (dC, dI) classes [(b0, .inr (1, [.int (nI N), .int up, .int n, .int wr, .int (nI bg), .int (nI en), .ref b1, .int (nI hs), .ref b2, .int (nI ss), .ref b3, .ref b4, .int (nI rc)]))] H := hP
      have hD : va_D A [(b0, .inr (1, [.int (nI N), .int up, .int n, .int wr, .int (nI bg), .int (nI en), .ref b1, .int (nI hs), .ref b2, .int (nI ss), .ref b3, .ref b4, .int (nI rc)]))] := hD
      refine lv_iconst (v := nI 1) hx hb d_BlockDeskModel_charge_18 (by decide +kernel) ?_
      have hP9 := hP.sub (ws' := [(b0, .inr (1, [.int (nI N), .int up, .int n, .int wr, .int (nI bg), .int (nI en), .ref b1, .int (nI hs), .ref b2, .int (nI ss), .ref b3, .ref b4, .int (nI rc)]))]) [0] rfl
      have hD9 := hD.sub (ws' := [(b0, .inr (1, [.int (nI N), .int up, .int n, .int wr, .int (nI bg), .int (nI en), .ref b1, .int (nI hs), .ref b2, .int (nI ss), .ref b3, .ref b4, .int (nI rc)]))]) [0] (by decide) rfl
      have hK9 := hK.sub (tys' := []) [] rfl
      exact W.zret (v := nI 1) hx hb hr zq_nb1 (fun t ht hW => ⟨⟨nI 1, n, rfl, Or.inl ⟨by omega, by omega, rfl, rfl⟩, by rw [ht]; exact hP9, va_K.moved hW.alike hK9, hD9⟩, hS.F ht⟩) hS.2.2 d_BlockDeskModel_charge_19
    · have c_8 : ¬ (n.toInt ≤ ((999 : Nat) : Int)) := fun h9 => c_8 ((xq_le_r (by omega)).mpr h9)
      refine lv_iconst (v := nI 0) hx hb d_BlockDeskModel_charge_11 (by decide +kernel) ?_
      have hP9 := hP.sub (ws' := [(b0, .inr (1, [.int (nI N), .int up, .int ch, .int wr, .int (nI bg), .int (nI en), .ref b1, .int (nI hs), .ref b2, .int (nI ss), .ref b3, .ref b4, .int (nI rc)]))]) [0] rfl
      have hD9 := hD.sub (ws' := [(b0, .inr (1, [.int (nI N), .int up, .int ch, .int wr, .int (nI bg), .int (nI en), .ref b1, .int (nI hs), .ref b2, .int (nI ss), .ref b3, .ref b4, .int (nI rc)]))]) [0] (by decide) rfl
      have hK9 := hK.sub (tys' := []) [] rfl
      exact W.zret (v := nI 0) hx hb hr zq_nb0 (fun t ht hW => ⟨⟨nI 0, ch, rfl, Or.inr ⟨by omega, rfl, rfl⟩, by rw [ht]; exact hP9, va_K.moved hW.alike hK9, hD9⟩, hS.F ht⟩) hS.2.2 d_BlockDeskModel_charge_12
set_option maxHeartbeats 4000000 in
set_option maxRecDepth 100000 in
theorem c_BlockDeskModel_size (l : Launch) (dC : Nat → ClassId) (dI : Nat → Nat → Nat) (sz : Nat) (b0 : Nat) (b1 : Nat) (b2 : Nat) (b3 : Nat) (b4 : Nat) (N : Nat) (rc : Nat) (bg : Nat) (en : Nat) (ss : Nat) (hs : Nat) (up : Int32) (ch : Int32) (wr : Int32) (o4 : ClassId) (g4 : Nat → Int32) (T : Nat → Nat) (k : Int32) (hrc : rc ≤ 4000) (hT : ∀ z, z ≤ rc → g4 z = nI (T z - 4 * z)) (hM : ∀ z, z < rc → T z + 4 ≤ T (z + 1)) (h4 : ∀ z, z ≤ rc → 4 * z ≤ T z) : Met l y_BlockDeskModel_size w_BlockDeskModel_size ({ frames := 0, cells := 0, slots := 0, locals := 0 }) (va_Pc [.ref b0, .int k] (fun U => U.heap.size = sz ∧ va_P (dC, dI) classes [(b0, .inr (1, [.int (nI N), .int up, .int ch, .int wr, .int (nI bg), .int (nI en), .ref b1, .int (nI hs), .ref b2, .int (nI ss), .ref b3, .ref b4, .int (nI rc)])), (b4, .inl (o4, 4001, .inl g4))] U.heap ∧ va_K (dC, dI) classes [(o4, .int)] U ∧ va_D (fun _ => True) [(b0, .inr (1, [.int (nI N), .int up, .int ch, .int wr, .int (nI bg), .int (nI en), .ref b1, .int (nI hs), .ref b2, .int (nI ss), .ref b3, .ref b4, .int (nI rc)])), (b4, .inl (o4, 4001, .inl g4))])) (va_Qi (fun (r : Int32) (_ : Unit) => r = zq_szS up rc ss T k) (fun (_ : Unit) (t : State) => va_P (dC, dI) classes [(b0, .inr (1, [.int (nI N), .int up, .int ch, .int wr, .int (nI bg), .int (nI en), .ref b1, .int (nI hs), .ref b2, .int (nI ss), .ref b3, .ref b4, .int (nI rc)])), (b4, .inl (o4, 4001, .inl g4))] t.heap ∧ va_K (dC, dI) classes [(o4, .int)] t ∧ va_D (va_A [(b0, .inr (1, [.int (nI N), .int up, .int ch, .int wr, .int (nI bg), .int (nI en), .ref b1, .int (nI hs), .ref b2, .int (nI ss), .ref b3, .ref b4, .int (nI rc)])), (b4, .inl (o4, 4001, .inl g4))] sz) [(b0, .inr (1, [.int (nI N), .int up, .int ch, .int wr, .int (nI bg), .int (nI en), .ref b1, .int (nI hs), .ref b2, .int (nI ss), .ref b3, .ref b4, .int (nI rc)])), (b4, .inl (o4, 4001, .inl g4))]) (va_A [(b0, .inr (1, [.int (nI N), .int up, .int ch, .int wr, .int (nI bg), .int (nI en), .ref b1, .int (nI hs), .ref b2, .int (nI ss), .ref b3, .ref b4, .int (nI rc)])), (b4, .inl (o4, 4001, .inl g4))] sz)) 0 0 (va_A [(b0, .inr (1, [.int (nI N), .int up, .int ch, .int wr, .int (nI bg), .int (nI en), .ref b1, .int (nI hs), .ref b2, .int (nI ss), .ref b3, .ref b4, .int (nI rc)])), (b4, .inl (o4, 4001, .inl g4))] sz) := by
  refine Met.ofW (cc := b_BlockDeskModel_size) (maxL := 2) (ret := (some .int)) (by decide) rfl ?_
  intro p e s m args below meth c s₁ B hml hv
  obtain ⟨rfl, hsz, hP, hK, hD0⟩ := hv
  have hx := B.exec
  have hb := B.bytes
  have hr := B.returns
  have hts := atoms_spec (ws := w_BlockDeskModel_size) B.pre
  have hown : s.vm.findClass R_BlockDeskModel = some m.cls := findClass_of_methodNamed B.named
  have hlocks := B.notSynchronized
  subst hsz
  have hD := hD0.self (sz := s.heap.size)
  generalize hAe : va_A [(b0, .inr (1, [.int (nI N), .int up, .int ch, .int wr, .int (nI bg), .int (nI en), .ref b1, .int (nI hs), .ref b2, .int (nI ss), .ref b3, .ref b4, .int (nI rc)])), (b4, .inl (o4, 4001, .inl g4))] s.heap.size = A at hD ⊢
  have hA : ∀ q : Nat, s.heap.size ≤ q → A q := fun q h => by rw [← hAe]; exact Or.inr h
  have hS : va_S A s.heap s.heap [] := va_S.rf
  have hP : va_P (dC, dI) classes [(b0, .inr (1, [.int (nI N), .int up, .int ch, .int wr, .int (nI bg), .int (nI en), .ref b1, .int (nI hs), .ref b2, .int (nI ss), .ref b3, .ref b4, .int (nI rc)])), (b4, .inl (o4, 4001, .inl g4))] s.heap := hP
  have hin1 : ∀ w ∈ u_ws R_BlockDeskModel F_BlockDeskModel 13, w ∈ w_BlockDeskModel_size := by decide +kernel
  have hl := lv_entry ([.ref b0, .int k]) (n := 2) (Nat.le_of_ble_eq_true rfl)
  rw [lg_entry_eq]
  generalize (lg_sl ([.ref b0, .int k]) ++ List.replicate (2 - (lg_sl ([.ref b0, .int k])).length) Slot.unset).toArray = ls at hl ⊢
  have hl : lv_has ls 2 [(0, .ref b0), (1, .int k)] := hl
  refine lv_aload_n hx hb d_BlockDeskModel_size_0 rfl (lv_at hl 0 rfl) ?_
  refine va_get (D := (dC, dI)) (ci := 1) (v := .int up) (C := R_BlockDeskModel) (T := F_BlockDeskModel) (N := 13) hx hb hts hin1 hown hK hP 0 rfl rfl 1 (by decide) (hts (.fieldLink R_BlockDeskModel 7 "BlockDeskModel" "up" "Z") (by decide +kernel)) (fun _ h9 => h9) rfl d_BlockDeskModel_size_1 ?_
  refine lv_if_eq (tgt := 20) hx hb d_BlockDeskModel_size_4 (by decide) (fun c_4 => ?_) (fun c_4 => ?_)
  · refine lv_iconst (v := (-1)) hx hb d_BlockDeskModel_size_20 (by decide +kernel) ?_
    have hP9 := hP.sub (ws' := [(b0, .inr (1, [.int (nI N), .int up, .int ch, .int wr, .int (nI bg), .int (nI en), .ref b1, .int (nI hs), .ref b2, .int (nI ss), .ref b3, .ref b4, .int (nI rc)])), (b4, .inl (o4, 4001, .inl g4))]) [0, 1] rfl
    have hD9 := hD.sub (ws' := [(b0, .inr (1, [.int (nI N), .int up, .int ch, .int wr, .int (nI bg), .int (nI en), .ref b1, .int (nI hs), .ref b2, .int (nI ss), .ref b3, .ref b4, .int (nI rc)])), (b4, .inl (o4, 4001, .inl g4))]) [0, 1] (by decide) rfl
    have hK9 := hK.sub (tys' := [(o4, .int)]) [0] rfl
    exact W.iret (v := (-1)) hx hb hr (fun t ht hW => ⟨⟨(-1), (), rfl, zq_szS_a (by first | exact Or.inl c_4 | exact Or.inr (by omega)), by rw [ht]; exact hP9, va_K.moved hW.alike hK9, hD9⟩, hS.F ht⟩) hS.2.2 d_BlockDeskModel_size_21
  · refine lv_iload_n hx hb d_BlockDeskModel_size_7 rfl (lv_at hl 1 rfl) ?_
    refine lv_iconst (v := (-1)) hx hb d_BlockDeskModel_size_8 (by decide +kernel) ?_
    refine lv_icmp_lt (tgt := 20) hx hb d_BlockDeskModel_size_9 (by decide) (fun c_9 => ?_) (fun c_9 => ?_)
    · have c_9 : k.toInt < -1 := xq_lt_mr.mp c_9
      refine lv_iconst (v := (-1)) hx hb d_BlockDeskModel_size_20 (by decide +kernel) ?_
      have hP9 := hP.sub (ws' := [(b0, .inr (1, [.int (nI N), .int up, .int ch, .int wr, .int (nI bg), .int (nI en), .ref b1, .int (nI hs), .ref b2, .int (nI ss), .ref b3, .ref b4, .int (nI rc)])), (b4, .inl (o4, 4001, .inl g4))]) [0, 1] rfl
      have hD9 := hD.sub (ws' := [(b0, .inr (1, [.int (nI N), .int up, .int ch, .int wr, .int (nI bg), .int (nI en), .ref b1, .int (nI hs), .ref b2, .int (nI ss), .ref b3, .ref b4, .int (nI rc)])), (b4, .inl (o4, 4001, .inl g4))]) [0, 1] (by decide) rfl
      have hK9 := hK.sub (tys' := [(o4, .int)]) [0] rfl
      exact W.iret (v := (-1)) hx hb hr (fun t ht hW => ⟨⟨(-1), (), rfl, zq_szS_a (by first | exact Or.inl c_4 | exact Or.inr (by omega)), by rw [ht]; exact hP9, va_K.moved hW.alike hK9, hD9⟩, hS.F ht⟩) hS.2.2 d_BlockDeskModel_size_21
    · have c_9 : ¬ (k.toInt < -1) := fun h9 => c_9 (xq_lt_mr.mpr h9)
      refine lv_iload_n hx hb d_BlockDeskModel_size_12 rfl (lv_at hl 1 rfl) ?_
      refine lv_aload_n hx hb d_BlockDeskModel_size_13 rfl (lv_at hl 0 rfl) ?_
      refine va_get (D := (dC, dI)) (ci := 1) (v := .int (nI rc)) (C := R_BlockDeskModel) (T := F_BlockDeskModel) (N := 13) hx hb hts hin1 hown hK hP 0 rfl rfl 12 (by decide) (hts (.fieldLink R_BlockDeskModel 52 "BlockDeskModel" "records" "I") (by decide +kernel)) (fun _ h9 => h9) rfl d_BlockDeskModel_size_14 ?_
      refine lv_icmp_lt (tgt := 22) hx hb d_BlockDeskModel_size_17 (by decide) (fun c_17 => ?_) (fun c_17 => ?_)
      · have c_17 : k.toInt < ((rc : Nat) : Int) := (xq_lt_r (by omega)).mp c_17
        refine lv_iload_n hx hb d_BlockDeskModel_size_22 rfl (lv_at hl 1 rfl) ?_
        refine lv_iconst (v := (-1)) hx hb d_BlockDeskModel_size_23 (by decide +kernel) ?_
        refine lv_icmp_ne (tgt := 34) hx hb d_BlockDeskModel_size_24 (by decide) (fun c_24 => ?_) (fun c_24 => ?_)
        · obtain ⟨kk, hkk, rfl⟩ := zq_szS_ix c_9 c_24 c_17
          have hM1 := hM kk hkk
          have h41 := h4 kk (by omega)
          have hl : lv_has ls 2 [(0, .ref b0), (1, .int (nI kk))] := hl
          refine lv_aload_n hx hb d_BlockDeskModel_size_34 rfl (lv_at hl 0 rfl) ?_
          refine va_get (D := (dC, dI)) (ci := 1) (v := .ref b4) (C := R_BlockDeskModel) (T := F_BlockDeskModel) (N := 13) hx hb hts hin1 hown hK hP 0 rfl rfl 11 (by decide) (hts (.fieldLink R_BlockDeskModel 27 "BlockDeskModel" "starts" "[I") (by decide +kernel)) (fun _ h9 => h9) rfl d_BlockDeskModel_size_35 ?_
          refine lv_iload_n hx hb d_BlockDeskModel_size_38 rfl (lv_at hl 1 rfl) ?_
          refine lv_iconst (v := nI 1) hx hb d_BlockDeskModel_size_39 (by decide +kernel) ?_
          refine lv_iadd hx hb d_BlockDeskModel_size_40 ?_
          refine xq_top (nI (kk + 1)) (nI_add _ _) ?_
          refine va_iald hx hb hK hP 1 0 rfl rfl (vp_in_nI (by omega) (by omega)) d_BlockDeskModel_size_41 ?_
          refine xq_top (nI (T (kk + 1) - 4 * (kk + 1))) (by rw [nI_clamp (by omega)]; exact hT _ (by omega)) ?_
          refine lv_aload_n hx hb d_BlockDeskModel_size_42 rfl (lv_at hl 0 rfl) ?_
          refine va_get (D := (dC, dI)) (ci := 1) (v := .ref b4) (C := R_BlockDeskModel) (T := F_BlockDeskModel) (N := 13) hx hb hts hin1 hown hK hP 0 rfl rfl 11 (by decide) (hts (.fieldLink R_BlockDeskModel 27 "BlockDeskModel" "starts" "[I") (by decide +kernel)) (fun _ h9 => h9) rfl d_BlockDeskModel_size_43 ?_
          refine lv_iload_n hx hb d_BlockDeskModel_size_46 rfl (lv_at hl 1 rfl) ?_
          refine va_iald hx hb hK hP 1 0 rfl rfl (vp_in_nI (by omega) (by omega)) d_BlockDeskModel_size_47 ?_
          refine xq_top (nI (T kk - 4 * kk)) (by rw [nI_clamp (by omega)]; exact hT _ (by omega)) ?_
          refine lv_isub hx hb d_BlockDeskModel_size_48 ?_
          refine xq_top (nI (T (kk + 1) - 4 * (kk + 1) - (T kk - 4 * kk))) (pk_sub (by omega)) ?_
          refine xq_top (nI (T (kk + 1) - T kk - 4)) (congrArg nI (by omega)) ?_
          have hP9 := hP.sub (ws' := [(b0, .inr (1, [.int (nI N), .int up, .int ch, .int wr, .int (nI bg), .int (nI en), .ref b1, .int (nI hs), .ref b2, .int (nI ss), .ref b3, .ref b4, .int (nI rc)])), (b4, .inl (o4, 4001, .inl g4))]) [0, 1] rfl
          have hD9 := hD.sub (ws' := [(b0, .inr (1, [.int (nI N), .int up, .int ch, .int wr, .int (nI bg), .int (nI en), .ref b1, .int (nI hs), .ref b2, .int (nI ss), .ref b3, .ref b4, .int (nI rc)])), (b4, .inl (o4, 4001, .inl g4))]) [0, 1] (by decide) rfl
          have hK9 := hK.sub (tys' := [(o4, .int)]) [0] rfl
          exact W.iret (v := nI (T (kk + 1) - T kk - 4)) hx hb hr (fun t ht hW => ⟨⟨nI (T (kk + 1) - T kk - 4), (), rfl, zq_szS_c c_4 hkk (by omega), by rw [ht]; exact hP9, va_K.moved hW.alike hK9, hD9⟩, hS.F ht⟩) hS.2.2 d_BlockDeskModel_size_49
        · refine lv_aload_n hx hb d_BlockDeskModel_size_27 rfl (lv_at hl 0 rfl) ?_
          refine va_get (D := (dC, dI)) (ci := 1) (v := .int (nI ss)) (C := R_BlockDeskModel) (T := F_BlockDeskModel) (N := 13) hx hb hts hin1 hown hK hP 0 rfl rfl 9 (by decide) (hts (.fieldLink R_BlockDeskModel 55 "BlockDeskModel" "shotSize" "I") (by decide +kernel)) (fun _ h9 => h9) rfl d_BlockDeskModel_size_28 ?_
          refine lv_goto (tgt := 49) hx hb d_BlockDeskModel_size_31 (by decide) ?_
          have hP9 := hP.sub (ws' := [(b0, .inr (1, [.int (nI N), .int up, .int ch, .int wr, .int (nI bg), .int (nI en), .ref b1, .int (nI hs), .ref b2, .int (nI ss), .ref b3, .ref b4, .int (nI rc)])), (b4, .inl (o4, 4001, .inl g4))]) [0, 1] rfl
          have hD9 := hD.sub (ws' := [(b0, .inr (1, [.int (nI N), .int up, .int ch, .int wr, .int (nI bg), .int (nI en), .ref b1, .int (nI hs), .ref b2, .int (nI ss), .ref b3, .ref b4, .int (nI rc)])), (b4, .inl (o4, 4001, .inl g4))]) [0, 1] (by decide) rfl
          have hK9 := hK.sub (tys' := [(o4, .int)]) [0] rfl
          exact W.iret (v := nI ss) hx hb hr (fun t ht hW => ⟨⟨nI ss, (), rfl, zq_szS_b c_4 c_24, by rw [ht]; exact hP9, va_K.moved hW.alike hK9, hD9⟩, hS.F ht⟩) hS.2.2 d_BlockDeskModel_size_49
      · have c_17 : ¬ (k.toInt < ((rc : Nat) : Int)) := fun h9 => c_17 ((xq_lt_r (by omega)).mpr h9)
        refine lv_iconst (v := (-1)) hx hb d_BlockDeskModel_size_20 (by decide +kernel) ?_
        have hP9 := hP.sub (ws' := [(b0, .inr (1, [.int (nI N), .int up, .int ch, .int wr, .int (nI bg), .int (nI en), .ref b1, .int (nI hs), .ref b2, .int (nI ss), .ref b3, .ref b4, .int (nI rc)])), (b4, .inl (o4, 4001, .inl g4))]) [0, 1] rfl
        have hD9 := hD.sub (ws' := [(b0, .inr (1, [.int (nI N), .int up, .int ch, .int wr, .int (nI bg), .int (nI en), .ref b1, .int (nI hs), .ref b2, .int (nI ss), .ref b3, .ref b4, .int (nI rc)])), (b4, .inl (o4, 4001, .inl g4))]) [0, 1] (by decide) rfl
        have hK9 := hK.sub (tys' := [(o4, .int)]) [0] rfl
        exact W.iret (v := (-1)) hx hb hr (fun t ht hW => ⟨⟨(-1), (), rfl, zq_szS_a (by first | exact Or.inl c_4 | exact Or.inr (by omega)), by rw [ht]; exact hP9, va_K.moved hW.alike hK9, hD9⟩, hS.F ht⟩) hS.2.2 d_BlockDeskModel_size_21
set_option maxHeartbeats 4000000 in
set_option maxRecDepth 100000 in
theorem c_BlockDeskModel_byteOf (l : Launch) (dC : Nat → ClassId) (dI : Nat → Nat → Nat) (sz : Nat) (b0 : Nat) (b1 : Nat) (b2 : Nat) (b3 : Nat) (b4 : Nat) (N : Nat) (rc : Nat) (bg : Nat) (en : Nat) (ss : Nat) (hs : Nat) (up : Int32) (ch : Int32) (wr : Int32) (o4 : ClassId) (g4 : Nat → Int32) (T : Nat → Nat) (o2 : ClassId) (o3 : ClassId) (g2 : Nat → Int32) (g3 : Nat → Int32) (k : Int32) (i : Int32) (hrc : rc ≤ 4000) (hT : ∀ z, z ≤ rc → g4 z = nI (T z - 4 * z)) (hM : ∀ z, z < rc → T z + 4 ≤ T (z + 1)) (h4 : ∀ z, z ≤ rc → 4 * z ≤ T z) (hss : ss ≤ 8000) (hTb : ∀ z, z ≤ rc → T z ≤ 16000) : Met l y_BlockDeskModel_byteOf w_BlockDeskModel_byteOf ({ frames := 1, cells := 0, slots := 0, locals := 22 }) (va_Pc [.ref b0, .int k, .int i] (fun U => U.heap.size = sz ∧ va_P (dC, dI) classes [(b0, .inr (1, [.int (nI N), .int up, .int ch, .int wr, .int (nI bg), .int (nI en), .ref b1, .int (nI hs), .ref b2, .int (nI ss), .ref b3, .ref b4, .int (nI rc)])), (b2, .inl (o2, 8000, .inl g2)), (b3, .inl (o3, 16000, .inl g3)), (b4, .inl (o4, 4001, .inl g4))] U.heap ∧ va_K (dC, dI) classes [(o2, .int), (o3, .int), (o4, .int)] U ∧ va_D (fun _ => True) [(b0, .inr (1, [.int (nI N), .int up, .int ch, .int wr, .int (nI bg), .int (nI en), .ref b1, .int (nI hs), .ref b2, .int (nI ss), .ref b3, .ref b4, .int (nI rc)])), (b2, .inl (o2, 8000, .inl g2)), (b3, .inl (o3, 16000, .inl g3)), (b4, .inl (o4, 4001, .inl g4))])) (va_Qi (fun (r : Int32) (_ : Unit) => r = zq_btS up rc ss T g2 g3 k i) (fun (_ : Unit) (t : State) => va_P (dC, dI) classes [(b0, .inr (1, [.int (nI N), .int up, .int ch, .int wr, .int (nI bg), .int (nI en), .ref b1, .int (nI hs), .ref b2, .int (nI ss), .ref b3, .ref b4, .int (nI rc)])), (b2, .inl (o2, 8000, .inl g2)), (b3, .inl (o3, 16000, .inl g3)), (b4, .inl (o4, 4001, .inl g4))] t.heap ∧ va_K (dC, dI) classes [(o2, .int), (o3, .int), (o4, .int)] t ∧ va_D (va_A [(b0, .inr (1, [.int (nI N), .int up, .int ch, .int wr, .int (nI bg), .int (nI en), .ref b1, .int (nI hs), .ref b2, .int (nI ss), .ref b3, .ref b4, .int (nI rc)])), (b2, .inl (o2, 8000, .inl g2)), (b3, .inl (o3, 16000, .inl g3)), (b4, .inl (o4, 4001, .inl g4))] sz) [(b0, .inr (1, [.int (nI N), .int up, .int ch, .int wr, .int (nI bg), .int (nI en), .ref b1, .int (nI hs), .ref b2, .int (nI ss), .ref b3, .ref b4, .int (nI rc)])), (b2, .inl (o2, 8000, .inl g2)), (b3, .inl (o3, 16000, .inl g3)), (b4, .inl (o4, 4001, .inl g4))]) (va_A [(b0, .inr (1, [.int (nI N), .int up, .int ch, .int wr, .int (nI bg), .int (nI en), .ref b1, .int (nI hs), .ref b2, .int (nI ss), .ref b3, .ref b4, .int (nI rc)])), (b2, .inl (o2, 8000, .inl g2)), (b3, .inl (o3, 16000, .inl g3)), (b4, .inl (o4, 4001, .inl g4))] sz)) 0 0 (va_A [(b0, .inr (1, [.int (nI N), .int up, .int ch, .int wr, .int (nI bg), .int (nI en), .ref b1, .int (nI hs), .ref b2, .int (nI ss), .ref b3, .ref b4, .int (nI rc)])), (b2, .inl (o2, 8000, .inl g2)), (b3, .inl (o3, 16000, .inl g3)), (b4, .inl (o4, 4001, .inl g4))] sz) := by
  refine Met.ofW (cc := b_BlockDeskModel_byteOf) (maxL := 3) (ret := (some .int)) (by decide) rfl ?_
  intro p e s m args below meth c s₁ B hml hv
  obtain ⟨rfl, hsz, hP, hK, hD0⟩ := hv
  have hx := B.exec
  have hb := B.bytes
  have hr := B.returns
  have hts := atoms_spec (ws := w_BlockDeskModel_byteOf) B.pre
  have hown : s.vm.findClass R_BlockDeskModel = some m.cls := findClass_of_methodNamed B.named
  have hlocks := B.notSynchronized
  subst hsz
  have hD := hD0.self (sz := s.heap.size)
  generalize hAe : va_A [(b0, .inr (1, [.int (nI N), .int up, .int ch, .int wr, .int (nI bg), .int (nI en), .ref b1, .int (nI hs), .ref b2, .int (nI ss), .ref b3, .ref b4, .int (nI rc)])), (b2, .inl (o2, 8000, .inl g2)), (b3, .inl (o3, 16000, .inl g3)), (b4, .inl (o4, 4001, .inl g4))] s.heap.size = A at hD ⊢
  have hA : ∀ q : Nat, s.heap.size ≤ q → A q := fun q h => by rw [← hAe]; exact Or.inr h
  have hS : va_S A s.heap s.heap [] := va_S.rf
  have hP : va_P (dC, dI) classes [(b0, .inr (1, [.int (nI N), .int up, .int ch, .int wr, .int (nI bg), .int (nI en), .ref b1, .int (nI hs), .ref b2, .int (nI ss), .ref b3, .ref b4, .int (nI rc)])), (b2, .inl (o2, 8000, .inl g2)), (b3, .inl (o3, 16000, .inl g3)), (b4, .inl (o4, 4001, .inl g4))] s.heap := hP
  have hin1 : ∀ w ∈ u_ws R_BlockDeskModel F_BlockDeskModel 13, w ∈ w_BlockDeskModel_byteOf := by decide +kernel
  have hl := lv_entry ([.ref b0, .int k, .int i]) (n := 3) (Nat.le_of_ble_eq_true rfl)
  rw [lg_entry_eq]
  generalize (lg_sl ([.ref b0, .int k, .int i]) ++ List.replicate (3 - (lg_sl ([.ref b0, .int k, .int i])).length) Slot.unset).toArray = ls at hl ⊢
  have hl : lv_has ls 3 [(0, .ref b0), (1, .int k), (2, .int i)] := hl
  refine lv_iload_n hx hb d_BlockDeskModel_byteOf_0 rfl (lv_at hl 2 rfl) ?_
  refine lv_if_lt (tgt := 13) hx hb d_BlockDeskModel_byteOf_1 (by decide) (fun c_1 => ?_) (fun c_1 => ?_)
  · have c_1 : i.toInt < 0 := xq_lt_0r.mp c_1
    refine lv_iconst (v := (-1)) hx hb d_BlockDeskModel_byteOf_13 (by decide +kernel) ?_
    have hP9 := hP.sub (ws' := [(b0, .inr (1, [.int (nI N), .int up, .int ch, .int wr, .int (nI bg), .int (nI en), .ref b1, .int (nI hs), .ref b2, .int (nI ss), .ref b3, .ref b4, .int (nI rc)])), (b2, .inl (o2, 8000, .inl g2)), (b3, .inl (o3, 16000, .inl g3)), (b4, .inl (o4, 4001, .inl g4))]) [0, 1, 2, 3] rfl
    have hD9 := hD.sub (ws' := [(b0, .inr (1, [.int (nI N), .int up, .int ch, .int wr, .int (nI bg), .int (nI en), .ref b1, .int (nI hs), .ref b2, .int (nI ss), .ref b3, .ref b4, .int (nI rc)])), (b2, .inl (o2, 8000, .inl g2)), (b3, .inl (o3, 16000, .inl g3)), (b4, .inl (o4, 4001, .inl g4))]) [0, 1, 2, 3] (by decide) rfl
    have hK9 := hK.sub (tys' := [(o2, .int), (o3, .int), (o4, .int)]) [0, 1, 2] rfl
    exact W.iret (v := (-1)) hx hb hr (fun t ht hW => ⟨⟨(-1), (), rfl, zq_btS_a (by first | exact Or.inl c_1 | exact Or.inr (by omega)), by rw [ht]; exact hP9, va_K.moved hW.alike hK9, hD9⟩, hS.F ht⟩) hS.2.2 d_BlockDeskModel_byteOf_14
  · have c_1 : ¬ (i.toInt < 0) := fun h9 => c_1 (xq_lt_0r.mpr h9)
    refine lv_iload_n hx hb d_BlockDeskModel_byteOf_4 rfl (lv_at hl 2 rfl) ?_
    refine lv_aload_n hx hb d_BlockDeskModel_byteOf_5 rfl (lv_at hl 0 rfl) ?_
    refine lv_iload_n hx hb d_BlockDeskModel_byteOf_6 rfl (lv_at hl 1 rfl) ?_
    have hPc := hP.sub (ws' := [(b0, .inr (1, [.int (nI N), .int up, .int ch, .int wr, .int (nI bg), .int (nI en), .ref b1, .int (nI hs), .ref b2, .int (nI ss), .ref b3, .ref b4, .int (nI rc)])), (b4, .inl (o4, 4001, .inl g4))]) [0, 3] rfl
    have hDc := hD.sub (ws' := [(b0, .inr (1, [.int (nI N), .int up, .int ch, .int wr, .int (nI bg), .int (nI en), .ref b1, .int (nI hs), .ref b2, .int (nI ss), .ref b3, .ref b4, .int (nI rc)])), (b4, .inl (o4, 4001, .inl g4))]) [0, 3] (by decide) rfl
    have hKc := hK.sub (tys' := [(o4, .int)]) [2] rfl
    have hFc := va_free (wc := [(b0, .inr (1, [.int (nI N), .int up, .int ch, .int wr, .int (nI bg), .int (nI en), .ref b1, .int (nI hs), .ref b2, .int (nI ss), .ref b3, .ref b4, .int (nI rc)])), (b4, .inl (o4, 4001, .inl g4))]) hD hS hA [0, 3] rfl
    refine va_calli (va_runV (As := [.int k]) (rest := [.int i]) ⟨hx, hb, hml, hown, hts⟩ (c_BlockDeskModel_size l dC dI s.heap.size b0 b1 b2 b3 b4 N rc bg en ss hs up ch wr o4 g4 T k hrc hT hM h4) (cwV 1 hts g_BlockDeskModel_byteOf_BlockDeskModel_size rfl rfl rfl (by decide +kernel) ⟨Nat.le_of_ble_eq_true rfl, Nat.le_of_ble_eq_true rfl⟩) ⟨fun a U g mk q => by obtain ⟨q0, q1, qP, qK, qD⟩ := q; exact ⟨q0, q1, qP, va_K.moved (u := U) (U := U.calling g mk a) (Vm.Alike.refl U.vm) qK, qD⟩, va_recv hKc hPc (ci := 1) (q0 := 0) rfl rfl, fun U hU hW => ⟨rfl, by rw [hU], by rw [hU]; exact hPc, va_K.moved hW.alike hKc, hDc.weaken (fun _ _ _ _ => trivial)⟩⟩ rfl rfl hl.1 rfl (lv_room (Nat.le_of_ble_eq_true rfl)) d_BlockDeskModel_byteOf_7 ⟨(Nat.zero_le _), (Nat.zero_le _)⟩) hS (fun q _ h => hFc q h) hFc (fun r_7 u t H1 locs ht hvm hw hB hz1 hk1 hS => ?_)
    obtain ⟨hP1, hK1, hD1⟩ := hB
    rw [ht] at hP1
    try dsimp only at hw
    obtain ⟨hP, hD⟩ := va_join (wr := [(b2, .inl (o2, 8000, .inl g2)), (b3, .inl (o3, 16000, .inl g3))]) (w1 := [(b0, .inr (1, [.int (nI N), .int up, .int ch, .int wr, .int (nI bg), .int (nI en), .ref b1, .int (nI hs), .ref b2, .int (nI ss), .ref b3, .ref b4, .int (nI rc)])), (b4, .inl (o4, 4001, .inl g4))]) hP hD [0, 3] [1, 2] rfl rfl (by decide) (by decide) hk1 hFc hP1 hD1
    generalize H1 = H at hP hS ⊢
    have hP : va_P (dC, dI) classes [(b2, .inl (o2, 8000, .inl g2)), (b3, .inl (o3, 16000, .inl g3)), (b0, .inr (1, [.int (nI N), .int up, .int ch, .int wr, .int (nI bg), .int (nI en), .ref b1, .int (nI hs), .ref b2, .int (nI ss), .ref b3, .ref b4, .int (nI rc)])), (b4, .inl (o4, 4001, .inl g4))] H := hP
    have hD : va_D A [(b2, .inl (o2, 8000, .inl g2)), (b3, .inl (o3, 16000, .inl g3)), (b0, .inr (1, [.int (nI N), .int up, .int ch, .int wr, .int (nI bg), .int (nI en), .ref b1, .int (nI hs), .ref b2, .int (nI ss), .ref b3, .ref b4, .int (nI rc)])), (b4, .inl (o4, 4001, .inl g4))] := hD
    subst hw
    refine lv_icmp_lt (tgt := 15) hx hb d_BlockDeskModel_byteOf_10 (by decide) (fun c_10 => ?_) (fun c_10 => ?_)
    · have c_10 : i.toInt < (zq_szS up rc ss T k).toInt := xq_lt.mp c_10
      rcases zq_szS_in (by omega) hss hTb c_1 c_10 with ⟨rfl, ii, hii, rfl⟩ | ⟨kk, ii, hkk, rfl, hii, rfl⟩
      · have hk9 : True := trivial
        have hl : lv_has ls 3 [(0, .ref b0), (1, .int (-1)), (2, .int (nI ii))] := hl
        refine lv_iload_n hx hb d_BlockDeskModel_byteOf_15 rfl (lv_at hl 1 rfl) ?_
        refine lv_iconst (v := (-1)) hx hb d_BlockDeskModel_byteOf_16 (by decide +kernel) ?_
        refine lv_icmp_ne (tgt := 29) hx hb d_BlockDeskModel_byteOf_17 (by decide) (fun c_17 => ?_) (fun c_17 => ?_)
        · exact absurd rfl c_17
        · refine lv_aload_n hx hb d_BlockDeskModel_byteOf_20 rfl (lv_at hl 0 rfl) ?_
          refine va_get (D := (dC, dI)) (ci := 1) (v := .ref b2) (C := R_BlockDeskModel) (T := F_BlockDeskModel) (N := 13) hx hb hts hin1 hown hK hP 2 rfl rfl 8 (by decide) (hts (.fieldLink R_BlockDeskModel 21 "BlockDeskModel" "shot" "[I") (by decide +kernel)) (fun _ h9 => h9) rfl d_BlockDeskModel_byteOf_21 ?_
          refine lv_iload_n hx hb d_BlockDeskModel_byteOf_24 rfl (lv_at hl 2 rfl) ?_
          refine va_iald hx hb hK hP 0 0 rfl rfl (vp_in_nI (by omega) (by omega)) d_BlockDeskModel_byteOf_25 ?_
          refine xq_top (g2 ii) (by rw [nI_clamp (by omega)]) ?_
          refine lv_goto (tgt := 42) hx hb d_BlockDeskModel_byteOf_26 (by decide) ?_
          have hP9 := hP.sub (ws' := [(b0, .inr (1, [.int (nI N), .int up, .int ch, .int wr, .int (nI bg), .int (nI en), .ref b1, .int (nI hs), .ref b2, .int (nI ss), .ref b3, .ref b4, .int (nI rc)])), (b2, .inl (o2, 8000, .inl g2)), (b3, .inl (o3, 16000, .inl g3)), (b4, .inl (o4, 4001, .inl g4))]) [2, 0, 1, 3] rfl
          have hD9 := hD.sub (ws' := [(b0, .inr (1, [.int (nI N), .int up, .int ch, .int wr, .int (nI bg), .int (nI en), .ref b1, .int (nI hs), .ref b2, .int (nI ss), .ref b3, .ref b4, .int (nI rc)])), (b2, .inl (o2, 8000, .inl g2)), (b3, .inl (o3, 16000, .inl g3)), (b4, .inl (o4, 4001, .inl g4))]) [2, 0, 1, 3] (by decide) rfl
          have hK9 := hK.sub (tys' := [(o2, .int), (o3, .int), (o4, .int)]) [0, 1, 2] rfl
          exact W.iret (v := g2 ii) hx hb hr (fun t ht hW => ⟨⟨g2 ii, (), rfl, zq_btS_b (by omega) c_1 c_10 rfl, by rw [ht]; exact hP9, va_K.moved hW.alike hK9, hD9⟩, hS.F ht⟩) hS.2.2 d_BlockDeskModel_byteOf_42
      · have hM1 := hM kk hkk
        have hTb1 := hTb (kk + 1) (by omega)
        have h41 := h4 kk (by omega)
        have hl : lv_has ls 3 [(0, .ref b0), (1, .int (nI kk)), (2, .int (nI ii))] := hl
        refine lv_iload_n hx hb d_BlockDeskModel_byteOf_15 rfl (lv_at hl 1 rfl) ?_
        refine lv_iconst (v := (-1)) hx hb d_BlockDeskModel_byteOf_16 (by decide +kernel) ?_
        refine lv_icmp_ne (tgt := 29) hx hb d_BlockDeskModel_byteOf_17 (by decide) (fun c_17 => ?_) (fun c_17 => ?_)
        · refine lv_aload_n hx hb d_BlockDeskModel_byteOf_29 rfl (lv_at hl 0 rfl) ?_
          refine va_get (D := (dC, dI)) (ci := 1) (v := .ref b3) (C := R_BlockDeskModel) (T := F_BlockDeskModel) (N := 13) hx hb hts hin1 hown hK hP 2 rfl rfl 10 (by decide) (hts (.fieldLink R_BlockDeskModel 24 "BlockDeskModel" "bytes" "[I") (by decide +kernel)) (fun _ h9 => h9) rfl d_BlockDeskModel_byteOf_30 ?_
          refine lv_aload_n hx hb d_BlockDeskModel_byteOf_33 rfl (lv_at hl 0 rfl) ?_
          refine va_get (D := (dC, dI)) (ci := 1) (v := .ref b4) (C := R_BlockDeskModel) (T := F_BlockDeskModel) (N := 13) hx hb hts hin1 hown hK hP 2 rfl rfl 11 (by decide) (hts (.fieldLink R_BlockDeskModel 27 "BlockDeskModel" "starts" "[I") (by decide +kernel)) (fun _ h9 => h9) rfl d_BlockDeskModel_byteOf_34 ?_
          refine lv_iload_n hx hb d_BlockDeskModel_byteOf_37 rfl (lv_at hl 1 rfl) ?_
          refine va_iald hx hb hK hP 3 2 rfl rfl (vp_in_nI (by omega) (by omega)) d_BlockDeskModel_byteOf_38 ?_
          refine xq_top (nI (T kk - 4 * kk)) (by rw [nI_clamp (by omega)]; exact hT _ (by omega)) ?_
          refine lv_iload_n hx hb d_BlockDeskModel_byteOf_39 rfl (lv_at hl 2 rfl) ?_
          refine lv_iadd hx hb d_BlockDeskModel_byteOf_40 ?_
          refine xq_top (nI (T kk - 4 * kk + ii)) (nI_add _ _) ?_
          refine va_iald hx hb hK hP 1 1 rfl rfl (vp_in_nI (by omega) (by omega)) d_BlockDeskModel_byteOf_41 ?_
          refine xq_top (g3 (T kk - 4 * kk + ii)) (by rw [nI_clamp (by omega)]) ?_
          have hP9 := hP.sub (ws' := [(b0, .inr (1, [.int (nI N), .int up, .int ch, .int wr, .int (nI bg), .int (nI en), .ref b1, .int (nI hs), .ref b2, .int (nI ss), .ref b3, .ref b4, .int (nI rc)])), (b2, .inl (o2, 8000, .inl g2)), (b3, .inl (o3, 16000, .inl g3)), (b4, .inl (o4, 4001, .inl g4))]) [2, 0, 1, 3] rfl
          have hD9 := hD.sub (ws' := [(b0, .inr (1, [.int (nI N), .int up, .int ch, .int wr, .int (nI bg), .int (nI en), .ref b1, .int (nI hs), .ref b2, .int (nI ss), .ref b3, .ref b4, .int (nI rc)])), (b2, .inl (o2, 8000, .inl g2)), (b3, .inl (o3, 16000, .inl g3)), (b4, .inl (o4, 4001, .inl g4))]) [2, 0, 1, 3] (by decide) rfl
          have hK9 := hK.sub (tys' := [(o2, .int), (o3, .int), (o4, .int)]) [0, 1, 2] rfl
          exact W.iret (v := g3 (T kk - 4 * kk + ii)) hx hb hr (fun t ht hW => ⟨⟨g3 (T kk - 4 * kk + ii), (), rfl, zq_btS_c (by omega) (by omega) c_1 c_10 rfl, by rw [ht]; exact hP9, va_K.moved hW.alike hK9, hD9⟩, hS.F ht⟩) hS.2.2 d_BlockDeskModel_byteOf_42
        · exact absurd c_17 (xq_nm1 (by omega))
    · have c_10 : ¬ (i.toInt < (zq_szS up rc ss T k).toInt) := fun h9 => c_10 (xq_lt.mpr h9)
      refine lv_iconst (v := (-1)) hx hb d_BlockDeskModel_byteOf_13 (by decide +kernel) ?_
      have hP9 := hP.sub (ws' := [(b0, .inr (1, [.int (nI N), .int up, .int ch, .int wr, .int (nI bg), .int (nI en), .ref b1, .int (nI hs), .ref b2, .int (nI ss), .ref b3, .ref b4, .int (nI rc)])), (b2, .inl (o2, 8000, .inl g2)), (b3, .inl (o3, 16000, .inl g3)), (b4, .inl (o4, 4001, .inl g4))]) [2, 0, 1, 3] rfl
      have hD9 := hD.sub (ws' := [(b0, .inr (1, [.int (nI N), .int up, .int ch, .int wr, .int (nI bg), .int (nI en), .ref b1, .int (nI hs), .ref b2, .int (nI ss), .ref b3, .ref b4, .int (nI rc)])), (b2, .inl (o2, 8000, .inl g2)), (b3, .inl (o3, 16000, .inl g3)), (b4, .inl (o4, 4001, .inl g4))]) [2, 0, 1, 3] (by decide) rfl
      have hK9 := hK.sub (tys' := [(o2, .int), (o3, .int), (o4, .int)]) [0, 1, 2] rfl
      exact W.iret (v := (-1)) hx hb hr (fun t ht hW => ⟨⟨(-1), (), rfl, zq_btS_a (by first | exact Or.inl c_1 | exact Or.inr (by omega)), by rw [ht]; exact hP9, va_K.moved hW.alike hK9, hD9⟩, hS.F ht⟩) hS.2.2 d_BlockDeskModel_byteOf_14
set_option maxHeartbeats 4000000 in
set_option maxRecDepth 100000 in
theorem c_BlockDeskModel_state (l : Launch) (dC : Nat → ClassId) (dI : Nat → Nat → Nat) (sz : Nat) (b0 : Nat) (b1 : Nat) (b2 : Nat) (b3 : Nat) (b4 : Nat) (N : Nat) (rc : Nat) (bg : Nat) (en : Nat) (ss : Nat) (hs : Nat) (up : Int32) (ch : Int32) (wr : Int32) (what : Int32)  : Met l y_BlockDeskModel_state w_BlockDeskModel_state ({ frames := 0, cells := 0, slots := 0, locals := 0 }) (va_Pc [.ref b0, .int what] (fun U => U.heap.size = sz ∧ va_P (dC, dI) classes [(b0, .inr (1, [.int (nI N), .int up, .int ch, .int wr, .int (nI bg), .int (nI en), .ref b1, .int (nI hs), .ref b2, .int (nI ss), .ref b3, .ref b4, .int (nI rc)]))] U.heap ∧ va_K (dC, dI) classes [] U ∧ va_D (fun _ => True) [(b0, .inr (1, [.int (nI N), .int up, .int ch, .int wr, .int (nI bg), .int (nI en), .ref b1, .int (nI hs), .ref b2, .int (nI ss), .ref b3, .ref b4, .int (nI rc)]))])) (va_Qi (fun (r : Int32) (_ : Unit) => r = zq_stS up rc bg en hs wr what) (fun (_ : Unit) (t : State) => va_P (dC, dI) classes [(b0, .inr (1, [.int (nI N), .int up, .int ch, .int wr, .int (nI bg), .int (nI en), .ref b1, .int (nI hs), .ref b2, .int (nI ss), .ref b3, .ref b4, .int (nI rc)]))] t.heap ∧ va_K (dC, dI) classes [] t ∧ va_D (va_A [(b0, .inr (1, [.int (nI N), .int up, .int ch, .int wr, .int (nI bg), .int (nI en), .ref b1, .int (nI hs), .ref b2, .int (nI ss), .ref b3, .ref b4, .int (nI rc)]))] sz) [(b0, .inr (1, [.int (nI N), .int up, .int ch, .int wr, .int (nI bg), .int (nI en), .ref b1, .int (nI hs), .ref b2, .int (nI ss), .ref b3, .ref b4, .int (nI rc)]))]) (va_A [(b0, .inr (1, [.int (nI N), .int up, .int ch, .int wr, .int (nI bg), .int (nI en), .ref b1, .int (nI hs), .ref b2, .int (nI ss), .ref b3, .ref b4, .int (nI rc)]))] sz)) 0 0 (va_A [(b0, .inr (1, [.int (nI N), .int up, .int ch, .int wr, .int (nI bg), .int (nI en), .ref b1, .int (nI hs), .ref b2, .int (nI ss), .ref b3, .ref b4, .int (nI rc)]))] sz) := by
  refine Met.ofW (cc := b_BlockDeskModel_state) (maxL := 2) (ret := (some .int)) (by decide) rfl ?_
  intro p e s m args below meth c s₁ B hml hv
  obtain ⟨rfl, hsz, hP, hK, hD0⟩ := hv
  have hx := B.exec
  have hb := B.bytes
  have hr := B.returns
  have hts := atoms_spec (ws := w_BlockDeskModel_state) B.pre
  have hown : s.vm.findClass R_BlockDeskModel = some m.cls := findClass_of_methodNamed B.named
  have hlocks := B.notSynchronized
  subst hsz
  have hD := hD0.self (sz := s.heap.size)
  generalize hAe : va_A [(b0, .inr (1, [.int (nI N), .int up, .int ch, .int wr, .int (nI bg), .int (nI en), .ref b1, .int (nI hs), .ref b2, .int (nI ss), .ref b3, .ref b4, .int (nI rc)]))] s.heap.size = A at hD ⊢
  have hA : ∀ q : Nat, s.heap.size ≤ q → A q := fun q h => by rw [← hAe]; exact Or.inr h
  have hS : va_S A s.heap s.heap [] := va_S.rf
  have hP : va_P (dC, dI) classes [(b0, .inr (1, [.int (nI N), .int up, .int ch, .int wr, .int (nI bg), .int (nI en), .ref b1, .int (nI hs), .ref b2, .int (nI ss), .ref b3, .ref b4, .int (nI rc)]))] s.heap := hP
  have hin1 : ∀ w ∈ u_ws R_BlockDeskModel F_BlockDeskModel 13, w ∈ w_BlockDeskModel_state := by decide +kernel
  have hl := lv_entry ([.ref b0, .int what]) (n := 2) (Nat.le_of_ble_eq_true rfl)
  rw [lg_entry_eq]
  generalize (lg_sl ([.ref b0, .int what]) ++ List.replicate (2 - (lg_sl ([.ref b0, .int what])).length) Slot.unset).toArray = ls at hl ⊢
  have hl : lv_has ls 2 [(0, .ref b0), (1, .int what)] := hl
  refine lv_iload_n hx hb d_BlockDeskModel_state_0 rfl (lv_at hl 1 rfl) ?_
  refine lv_if_ne (tgt := 17) hx hb d_BlockDeskModel_state_1 (by decide) (fun c_1 => ?_) (fun c_1 => ?_)
  · refine lv_iload_n hx hb d_BlockDeskModel_state_17 rfl (lv_at hl 1 rfl) ?_
    refine lv_iconst (v := nI 5) hx hb d_BlockDeskModel_state_18 (by decide +kernel) ?_
    refine lv_icmp_ne (tgt := 27) hx hb d_BlockDeskModel_state_19 (by decide) (fun c_19 => ?_) (fun c_19 => ?_)
    · refine lv_aload_n hx hb d_BlockDeskModel_state_27 rfl (lv_at hl 0 rfl) ?_
      refine va_get (D := (dC, dI)) (ci := 1) (v := .int up) (C := R_BlockDeskModel) (T := F_BlockDeskModel) (N := 13) hx hb hts hin1 hown hK hP 0 rfl rfl 1 (by decide) (hts (.fieldLink R_BlockDeskModel 7 "BlockDeskModel" "up" "Z") (by decide +kernel)) (fun _ h9 => h9) rfl d_BlockDeskModel_state_28 ?_
      refine lv_if_ne (tgt := 36) hx hb d_BlockDeskModel_state_31 (by decide) (fun c_31 => ?_) (fun c_31 => ?_)
      · refine lv_iload_n hx hb d_BlockDeskModel_state_36 rfl (lv_at hl 1 rfl) ?_
        by_cases h_1 : what = nI 1
        · subst h_1
          refine lv_tableIn (off := 31) (tgt := 68) hx hb d_BlockDeskModel_state_37 (by decide +kernel) (by decide +kernel) (by decide +kernel) (by decide) ?_
          refine lv_aload_n hx hb d_BlockDeskModel_state_68 rfl (lv_at hl 0 rfl) ?_
          refine va_get (D := (dC, dI)) (ci := 1) (v := .int (nI rc)) (C := R_BlockDeskModel) (T := F_BlockDeskModel) (N := 13) hx hb hts hin1 hown hK hP 0 rfl rfl 12 (by decide) (hts (.fieldLink R_BlockDeskModel 52 "BlockDeskModel" "records" "I") (by decide +kernel)) (fun _ h9 => h9) rfl d_BlockDeskModel_state_69 ?_
          have hP9 := hP.sub (ws' := [(b0, .inr (1, [.int (nI N), .int up, .int ch, .int wr, .int (nI bg), .int (nI en), .ref b1, .int (nI hs), .ref b2, .int (nI ss), .ref b3, .ref b4, .int (nI rc)]))]) [0] rfl
          have hD9 := hD.sub (ws' := [(b0, .inr (1, [.int (nI N), .int up, .int ch, .int wr, .int (nI bg), .int (nI en), .ref b1, .int (nI hs), .ref b2, .int (nI ss), .ref b3, .ref b4, .int (nI rc)]))]) [0] (by decide) rfl
          have hK9 := hK.sub (tys' := []) [] rfl
          exact W.iret (v := nI rc) hx hb hr (fun t ht hW => ⟨⟨nI rc, (), rfl, (by unfold zq_stS; rw [if_neg c_1, if_neg c_19, if_neg c_31, if_pos rfl]), by rw [ht]; exact hP9, va_K.moved hW.alike hK9, hD9⟩, hS.F ht⟩) hS.2.2 d_BlockDeskModel_state_72
        · by_cases h_2 : what = nI 2
          · subst h_2
            refine lv_tableIn (off := 36) (tgt := 73) hx hb d_BlockDeskModel_state_37 (by decide +kernel) (by decide +kernel) (by decide +kernel) (by decide) ?_
            refine lv_aload_n hx hb d_BlockDeskModel_state_73 rfl (lv_at hl 0 rfl) ?_
            refine va_get (D := (dC, dI)) (ci := 1) (v := .int (nI bg)) (C := R_BlockDeskModel) (T := F_BlockDeskModel) (N := 13) hx hb hts hin1 hown hK hP 0 rfl rfl 4 (by decide) (hts (.fieldLink R_BlockDeskModel 46 "BlockDeskModel" "begin" "I") (by decide +kernel)) (fun _ h9 => h9) rfl d_BlockDeskModel_state_74 ?_
            have hP9 := hP.sub (ws' := [(b0, .inr (1, [.int (nI N), .int up, .int ch, .int wr, .int (nI bg), .int (nI en), .ref b1, .int (nI hs), .ref b2, .int (nI ss), .ref b3, .ref b4, .int (nI rc)]))]) [0] rfl
            have hD9 := hD.sub (ws' := [(b0, .inr (1, [.int (nI N), .int up, .int ch, .int wr, .int (nI bg), .int (nI en), .ref b1, .int (nI hs), .ref b2, .int (nI ss), .ref b3, .ref b4, .int (nI rc)]))]) [0] (by decide) rfl
            have hK9 := hK.sub (tys' := []) [] rfl
            exact W.iret (v := nI bg) hx hb hr (fun t ht hW => ⟨⟨nI bg, (), rfl, (by unfold zq_stS; rw [if_neg c_1, if_neg c_19, if_neg c_31, if_neg (show ¬ nI 2 = nI 1 by decide +kernel), if_pos rfl]), by rw [ht]; exact hP9, va_K.moved hW.alike hK9, hD9⟩, hS.F ht⟩) hS.2.2 d_BlockDeskModel_state_77
          · by_cases h_3 : what = nI 3
            · subst h_3
              refine lv_tableIn (off := 41) (tgt := 78) hx hb d_BlockDeskModel_state_37 (by decide +kernel) (by decide +kernel) (by decide +kernel) (by decide) ?_
              refine lv_aload_n hx hb d_BlockDeskModel_state_78 rfl (lv_at hl 0 rfl) ?_
              refine va_get (D := (dC, dI)) (ci := 1) (v := .int (nI en)) (C := R_BlockDeskModel) (T := F_BlockDeskModel) (N := 13) hx hb hts hin1 hown hK hP 0 rfl rfl 5 (by decide) (hts (.fieldLink R_BlockDeskModel 43 "BlockDeskModel" "end" "I") (by decide +kernel)) (fun _ h9 => h9) rfl d_BlockDeskModel_state_79 ?_
              have hP9 := hP.sub (ws' := [(b0, .inr (1, [.int (nI N), .int up, .int ch, .int wr, .int (nI bg), .int (nI en), .ref b1, .int (nI hs), .ref b2, .int (nI ss), .ref b3, .ref b4, .int (nI rc)]))]) [0] rfl
              have hD9 := hD.sub (ws' := [(b0, .inr (1, [.int (nI N), .int up, .int ch, .int wr, .int (nI bg), .int (nI en), .ref b1, .int (nI hs), .ref b2, .int (nI ss), .ref b3, .ref b4, .int (nI rc)]))]) [0] (by decide) rfl
              have hK9 := hK.sub (tys' := []) [] rfl
              exact W.iret (v := nI en) hx hb hr (fun t ht hW => ⟨⟨nI en, (), rfl, (by unfold zq_stS; rw [if_neg c_1, if_neg c_19, if_neg c_31, if_neg (show ¬ nI 3 = nI 1 by decide +kernel), if_neg (show ¬ nI 3 = nI 2 by decide +kernel), if_pos rfl]), by rw [ht]; exact hP9, va_K.moved hW.alike hK9, hD9⟩, hS.F ht⟩) hS.2.2 d_BlockDeskModel_state_82
            · by_cases h_4 : what = nI 4
              · subst h_4
                refine lv_tableIn (off := 46) (tgt := 83) hx hb d_BlockDeskModel_state_37 (by decide +kernel) (by decide +kernel) (by decide +kernel) (by decide) ?_
                refine lv_aload_n hx hb d_BlockDeskModel_state_83 rfl (lv_at hl 0 rfl) ?_
                refine va_get (D := (dC, dI)) (ci := 1) (v := .int (nI hs)) (C := R_BlockDeskModel) (T := F_BlockDeskModel) (N := 13) hx hb hts hin1 hown hK hP 0 rfl rfl 7 (by decide) (hts (.fieldLink R_BlockDeskModel 33 "BlockDeskModel" "inHand" "I") (by decide +kernel)) (fun _ h9 => h9) rfl d_BlockDeskModel_state_84 ?_
                have hP9 := hP.sub (ws' := [(b0, .inr (1, [.int (nI N), .int up, .int ch, .int wr, .int (nI bg), .int (nI en), .ref b1, .int (nI hs), .ref b2, .int (nI ss), .ref b3, .ref b4, .int (nI rc)]))]) [0] rfl
                have hD9 := hD.sub (ws' := [(b0, .inr (1, [.int (nI N), .int up, .int ch, .int wr, .int (nI bg), .int (nI en), .ref b1, .int (nI hs), .ref b2, .int (nI ss), .ref b3, .ref b4, .int (nI rc)]))]) [0] (by decide) rfl
                have hK9 := hK.sub (tys' := []) [] rfl
                exact W.iret (v := nI hs) hx hb hr (fun t ht hW => ⟨⟨nI hs, (), rfl, (by unfold zq_stS; rw [if_neg c_1, if_neg c_19, if_neg c_31, if_neg (show ¬ nI 4 = nI 1 by decide +kernel), if_neg (show ¬ nI 4 = nI 2 by decide +kernel), if_neg (show ¬ nI 4 = nI 3 by decide +kernel), if_pos rfl]), by rw [ht]; exact hP9, va_K.moved hW.alike hK9, hD9⟩, hS.F ht⟩) hS.2.2 d_BlockDeskModel_state_87
              · have t_1 := lv_neT h_1 (show (nI 1).toInt = 1 by decide +kernel)
                have t_2 := lv_neT h_2 (show (nI 2).toInt = 2 by decide +kernel)
                have t_3 := lv_neT h_3 (show (nI 3).toInt = 3 by decide +kernel)
                have t_4 := lv_neT h_4 (show (nI 4).toInt = 4 by decide +kernel)
                refine lv_tableOut (tgt := 88) hx hb d_BlockDeskModel_state_37 (by omega) (by decide) ?_
                refine lv_iconst (v := (-1)) hx hb d_BlockDeskModel_state_88 (by decide +kernel) ?_
                have hP9 := hP.sub (ws' := [(b0, .inr (1, [.int (nI N), .int up, .int ch, .int wr, .int (nI bg), .int (nI en), .ref b1, .int (nI hs), .ref b2, .int (nI ss), .ref b3, .ref b4, .int (nI rc)]))]) [0] rfl
                have hD9 := hD.sub (ws' := [(b0, .inr (1, [.int (nI N), .int up, .int ch, .int wr, .int (nI bg), .int (nI en), .ref b1, .int (nI hs), .ref b2, .int (nI ss), .ref b3, .ref b4, .int (nI rc)]))]) [0] (by decide) rfl
                have hK9 := hK.sub (tys' := []) [] rfl
                exact W.iret (v := (-1)) hx hb hr (fun t ht hW => ⟨⟨(-1), (), rfl, (by unfold zq_stS; rw [if_neg c_1, if_neg c_19, if_neg c_31, if_neg h_1, if_neg h_2, if_neg h_3, if_neg h_4]), by rw [ht]; exact hP9, va_K.moved hW.alike hK9, hD9⟩, hS.F ht⟩) hS.2.2 d_BlockDeskModel_state_89
      · refine lv_iconst (v := (-1)) hx hb d_BlockDeskModel_state_34 (by decide +kernel) ?_
        have hP9 := hP.sub (ws' := [(b0, .inr (1, [.int (nI N), .int up, .int ch, .int wr, .int (nI bg), .int (nI en), .ref b1, .int (nI hs), .ref b2, .int (nI ss), .ref b3, .ref b4, .int (nI rc)]))]) [0] rfl
        have hD9 := hD.sub (ws' := [(b0, .inr (1, [.int (nI N), .int up, .int ch, .int wr, .int (nI bg), .int (nI en), .ref b1, .int (nI hs), .ref b2, .int (nI ss), .ref b3, .ref b4, .int (nI rc)]))]) [0] (by decide) rfl
        have hK9 := hK.sub (tys' := []) [] rfl
        exact W.iret (v := (-1)) hx hb hr (fun t ht hW => ⟨⟨(-1), (), rfl, (by unfold zq_stS; rw [if_neg c_1, if_neg c_19, if_pos c_31]), by rw [ht]; exact hP9, va_K.moved hW.alike hK9, hD9⟩, hS.F ht⟩) hS.2.2 d_BlockDeskModel_state_35
    · refine lv_aload_n hx hb d_BlockDeskModel_state_22 rfl (lv_at hl 0 rfl) ?_
      refine va_get (D := (dC, dI)) (ci := 1) (v := .int wr) (C := R_BlockDeskModel) (T := F_BlockDeskModel) (N := 13) hx hb hts hin1 hown hK hP 0 rfl rfl 3 (by decide) (hts (.fieldLink R_BlockDeskModel 40 "BlockDeskModel" "written" "I") (by decide +kernel)) (fun _ h9 => h9) rfl d_BlockDeskModel_state_23 ?_
      have hP9 := hP.sub (ws' := [(b0, .inr (1, [.int (nI N), .int up, .int ch, .int wr, .int (nI bg), .int (nI en), .ref b1, .int (nI hs), .ref b2, .int (nI ss), .ref b3, .ref b4, .int (nI rc)]))]) [0] rfl
      have hD9 := hD.sub (ws' := [(b0, .inr (1, [.int (nI N), .int up, .int ch, .int wr, .int (nI bg), .int (nI en), .ref b1, .int (nI hs), .ref b2, .int (nI ss), .ref b3, .ref b4, .int (nI rc)]))]) [0] (by decide) rfl
      have hK9 := hK.sub (tys' := []) [] rfl
      exact W.iret (v := wr) hx hb hr (fun t ht hW => ⟨⟨wr, (), rfl, (by unfold zq_stS; rw [if_neg c_1, if_pos c_19]), by rw [ht]; exact hP9, va_K.moved hW.alike hK9, hD9⟩, hS.F ht⟩) hS.2.2 d_BlockDeskModel_state_26
  · refine lv_aload_n hx hb d_BlockDeskModel_state_4 rfl (lv_at hl 0 rfl) ?_
    refine va_get (D := (dC, dI)) (ci := 1) (v := .int up) (C := R_BlockDeskModel) (T := F_BlockDeskModel) (N := 13) hx hb hts hin1 hown hK hP 0 rfl rfl 1 (by decide) (hts (.fieldLink R_BlockDeskModel 7 "BlockDeskModel" "up" "Z") (by decide +kernel)) (fun _ h9 => h9) rfl d_BlockDeskModel_state_5 ?_
    refine lv_if_eq (tgt := 15) hx hb d_BlockDeskModel_state_8 (by decide) (fun c_8 => ?_) (fun c_8 => ?_)
    · refine lv_iconst (v := nI 0) hx hb d_BlockDeskModel_state_15 (by decide +kernel) ?_
      have hP9 := hP.sub (ws' := [(b0, .inr (1, [.int (nI N), .int up, .int ch, .int wr, .int (nI bg), .int (nI en), .ref b1, .int (nI hs), .ref b2, .int (nI ss), .ref b3, .ref b4, .int (nI rc)]))]) [0] rfl
      have hD9 := hD.sub (ws' := [(b0, .inr (1, [.int (nI N), .int up, .int ch, .int wr, .int (nI bg), .int (nI en), .ref b1, .int (nI hs), .ref b2, .int (nI ss), .ref b3, .ref b4, .int (nI rc)]))]) [0] (by decide) rfl
      have hK9 := hK.sub (tys' := []) [] rfl
      exact W.iret (v := nI 0) hx hb hr (fun t ht hW => ⟨⟨nI 0, (), rfl, (by unfold zq_stS; rw [if_pos c_1, if_pos c_8]), by rw [ht]; exact hP9, va_K.moved hW.alike hK9, hD9⟩, hS.F ht⟩) hS.2.2 d_BlockDeskModel_state_16
    · refine lv_iconst (v := nI 1) hx hb d_BlockDeskModel_state_11 (by decide +kernel) ?_
      refine lv_goto (tgt := 16) hx hb d_BlockDeskModel_state_12 (by decide) ?_
      have hP9 := hP.sub (ws' := [(b0, .inr (1, [.int (nI N), .int up, .int ch, .int wr, .int (nI bg), .int (nI en), .ref b1, .int (nI hs), .ref b2, .int (nI ss), .ref b3, .ref b4, .int (nI rc)]))]) [0] rfl
      have hD9 := hD.sub (ws' := [(b0, .inr (1, [.int (nI N), .int up, .int ch, .int wr, .int (nI bg), .int (nI en), .ref b1, .int (nI hs), .ref b2, .int (nI ss), .ref b3, .ref b4, .int (nI rc)]))]) [0] (by decide) rfl
      have hK9 := hK.sub (tys' := []) [] rfl
      exact W.iret (v := nI 1) hx hb hr (fun t ht hW => ⟨⟨nI 1, (), rfl, (by unfold zq_stS; rw [if_pos c_1, if_neg c_8]), by rw [ht]; exact hP9, va_K.moved hW.alike hK9, hD9⟩, hS.F ht⟩) hS.2.2 d_BlockDeskModel_state_16
end
section
set_option maxHeartbeats 4000000 in
set_option maxRecDepth 100000 in
theorem lp_M_put {p : Program} {l : Launch} {e : Env} {s : State} {m : MethodId} {args : Array Value} {below : List Frame} {meth : Method} {c : Code} {Q : State → Prop} {A : Nat → Prop} {dC : Nat → ClassId} {dI : Nat → Nat → Nat} (hx : p.tables.exec = Jvm.exec) (hb : c.code = b_BlockDeskModel_put) (hml : c.maxLocals = 5) (hts : ∀ w ∈ w_BlockDeskModel_put, w.before args s = true) (hown : s.vm.findClass R_BlockDeskModel = some m.cls) (hA : ∀ q : Nat, s.heap.size ≤ q → A q) (b0 : Nat) (b1 : Nat) (b2 : Nat) (b3 : Nat) (b4 : Nat) (N : Nat) (rc : Nat) (bg : Nat) (en : Nat) (ss : Nat) (hs : Nat) (k : Nat) (up : Int32) (ch : Int32) (wr : Int32) (o1 : ClassId) (v : Int64) (g1 : Nat → Int32) (hk : hs + k ≤ 8000) (hk8 : k ≤ 8) (hK : va_K (dC, dI) classes [(o1, .int)] s) (KK : ∀ (f : Nat → Int32) (H : Heap) (locs : List Loc), zq_app g1 f hs k (fun z => zq_pbv v (k - 1 - z) &&& nI 255) → va_P (dC, dI) classes [(b0, .inr (1, [.int (nI N), .int up, .int ch, .int wr, .int (nI bg), .int (nI en), .ref b1, .int (nI (hs + k)), .ref b2, .int (nI ss), .ref b3, .ref b4, .int (nI rc)])), (b1, .inl (o1, 8000, .inl f))] H → va_D A [(b0, .inr (1, [.int (nI N), .int up, .int ch, .int wr, .int (nI bg), .int (nI en), .ref b1, .int (nI (hs + k)), .ref b2, .int (nI ss), .ref b3, .ref b4, .int (nI rc)])), (b1, .inl (o1, 8000, .inl f))] → va_S A s.heap H locs → ∀ ls : Array Slot, lv_has ls 5 [(4, .int (-1)), (0, .ref b0), (1, .long v), (3, .int (nI k))] → W p l e ({ frames := 1, cells := 0, slots := 0, locals := 22 } : Room) s m args below meth c H locs 0 0 Q (F0 m 61 ls [])) : ∀ (n d : Nat) (f : Nat → Int32) (H : Heap) (locs : List Loc), d + n = k → zq_app g1 f hs d (fun z => zq_pbv v (k - 1 - z) &&& nI 255) → va_P (dC, dI) classes [(b0, .inr (1, [.int (nI N), .int up, .int ch, .int wr, .int (nI bg), .int (nI en), .ref b1, .int (nI (hs + d)), .ref b2, .int (nI ss), .ref b3, .ref b4, .int (nI rc)])), (b1, .inl (o1, 8000, .inl f))] H → va_D A [(b0, .inr (1, [.int (nI N), .int up, .int ch, .int wr, .int (nI bg), .int (nI en), .ref b1, .int (nI (hs + d)), .ref b2, .int (nI ss), .ref b3, .ref b4, .int (nI rc)])), (b1, .inl (o1, 8000, .inl f))] → va_S A s.heap H locs → ∀ ls : Array Slot, lv_has ls 5 [(4, .int (zq_pd n)), (0, .ref b0), (1, .long v), (3, .int (nI k))] → W p l e ({ frames := 1, cells := 0, slots := 0, locals := 22 } : Room) s m args below meth c H locs 0 0 Q (F0 m 37 ls []) := by
  have hin1 : ∀ w ∈ u_ws R_BlockDeskModel F_BlockDeskModel 13, w ∈ w_BlockDeskModel_put := by decide +kernel
  intro n
  induction n with
  | zero =>
    intro d f H locs hdn hI hP hD hS ls hl
    have hdn : k = d := by omega
    subst hdn
    have hl : lv_has ls 5 [(4, .int (-1)), (0, .ref b0), (1, .long v), (3, .int (nI k))] := hl
    refine lv_iload hx hb d_BlockDeskModel_put_37 (lv_at hl 0 rfl) ?_
    refine lv_if_lt (tgt := 61) hx hb d_BlockDeskModel_put_39 (by decide) (fun c_39 => ?_) (fun c_39 => ?_)
    · exact KK f _ _ hI (hP.sub [0, 1] rfl) (hD.sub [0, 1] (by decide) rfl) hS ls (lv_sub hl [0, 1, 2, 3] rfl)
    · exact absurd (by decide +kernel) c_39
  | succ n ih =>
    intro d f H locs hdn hI hP hD hS ls hl
    have hl : lv_has ls 5 [(4, .int (nI n)), (0, .ref b0), (1, .long v), (3, .int (nI k))] := hl
    refine lv_iload hx hb d_BlockDeskModel_put_37 (lv_at hl 0 rfl) ?_
    refine lv_if_lt (tgt := 61) hx hb d_BlockDeskModel_put_39 (by decide) (fun c_39 => ?_) (fun c_39 => ?_)
    · have c_39 : ((n : Nat) : Int) < 0 := (xq_lt_n0 (by omega)).mp c_39
      exact absurd c_39 (by omega)
    · have c_39 : ¬ (((n : Nat) : Int) < 0) := fun h9 => c_39 ((xq_lt_n0 (by omega)).mpr h9)
      refine lv_aload_n hx hb d_BlockDeskModel_put_42 rfl (lv_at hl 1 rfl) ?_
      refine lv_lload_n hx hb d_BlockDeskModel_put_43 rfl (lv_at hl 2 rfl) ?_
      refine lv_bipush (v := nI 8) hx hb d_BlockDeskModel_put_44 (by decide +kernel) ?_
      refine lv_iload hx hb d_BlockDeskModel_put_46 (lv_at hl 0 rfl) ?_
      refine lv_imul hx hb d_BlockDeskModel_put_48 ?_
      refine xq_top (nI (8 * n)) (pk_mul _ _) ?_
      refine lv_lshr (v := v >>> ((nI (8 * n)).toInt64 &&& 63)) hx hb d_BlockDeskModel_put_49 rfl ?_
      refine lv_l2i (v := (v >>> ((nI (8 * n)).toInt64 &&& 63)).toInt32) hx hb d_BlockDeskModel_put_50 rfl ?_
      have hPc := hP.sub (ws' := [(b0, .inr (1, [.int (nI N), .int up, .int ch, .int wr, .int (nI bg), .int (nI en), .ref b1, .int (nI (hs + d)), .ref b2, .int (nI ss), .ref b3, .ref b4, .int (nI rc)])), (b1, .inl (o1, 8000, .inl f))]) [0, 1] rfl
      have hDc := hD.sub (ws' := [(b0, .inr (1, [.int (nI N), .int up, .int ch, .int wr, .int (nI bg), .int (nI en), .ref b1, .int (nI (hs + d)), .ref b2, .int (nI ss), .ref b3, .ref b4, .int (nI rc)])), (b1, .inl (o1, 8000, .inl f))]) [0, 1] (by decide) rfl
      have hKc := hK.sub (tys' := [(o1, .int)]) [0] rfl
      have hFc := va_free (wc := [(b0, .inr (1, [.int (nI N), .int up, .int ch, .int wr, .int (nI bg), .int (nI en), .ref b1, .int (nI (hs + d)), .ref b2, .int (nI ss), .ref b3, .ref b4, .int (nI rc)])), (b1, .inl (o1, 8000, .inl f))]) hD hS hA [0, 1] rfl
      refine va_calli (va_runV (As := [.int ((v >>> ((nI (8 * n)).toInt64 &&& 63)).toInt32)]) (rest := []) ⟨hx, hb, hml, hown, hts⟩ (c_BlockDeskModel_hold l dC dI H.size b0 b1 b2 b3 b4 N rc bg en ss (hs + d) up ch wr o1 f ((v >>> ((nI (8 * n)).toInt64 &&& 63)).toInt32) (by omega)) (cwV 1 hts g_BlockDeskModel_put_BlockDeskModel_hold rfl rfl rfl (by decide +kernel) ⟨Nat.le_of_ble_eq_true rfl, Nat.le_of_ble_eq_true rfl⟩) ⟨fun a U g mk q => by obtain ⟨q0, q1, qP, qK, qD⟩ := q; exact ⟨q0, q1, qP, va_K.moved (u := U) (U := U.calling g mk a) (Vm.Alike.refl U.vm) qK, qD⟩, va_recv hKc hPc (ci := 1) (q0 := 0) rfl rfl, fun U hU hW => ⟨rfl, by rw [hU], by rw [hU]; exact hPc, va_K.moved hW.alike hKc, hDc.weaken (fun _ _ _ _ => trivial)⟩⟩ rfl rfl hl.1 rfl (lv_room (Nat.le_of_ble_eq_true rfl)) d_BlockDeskModel_put_51 ⟨(Nat.zero_le _), (Nat.zero_le _)⟩) hS (fun q _ h => hFc q h) hFc (fun r_h u t H1 locs ht hvm hw hB hz1 hk1 hS => ?_)
      obtain ⟨hP1, hK1, hD1⟩ := hB
      rw [ht] at hP1
      try dsimp only at hw
      obtain ⟨hP, hD⟩ := va_join (wr := []) (w1 := [(b0, .inr (1, [.int (nI N), .int up, .int ch, .int wr, .int (nI bg), .int (nI en), .ref b1, .int (nI ((hs + d) + 1)), .ref b2, .int (nI ss), .ref b3, .ref b4, .int (nI rc)])), (b1, .inl (o1, 8000, .inl (upd f (hs + d) (((v >>> ((nI (8 * n)).toInt64 &&& 63)).toInt32) &&& nI 255))))]) hP hD [0, 1] [] rfl rfl (by decide) (by decide) hk1 hFc hP1 hD1
      generalize H1 = H at hP hS ⊢
      have hP : va_P (dC, dI) classes [(b0, .inr (1, [.int (nI N), .int up, .int ch, .int wr, .int (nI bg), .int (nI en), .ref b1, .int (nI ((hs + d) + 1)), .ref b2, .int (nI ss), .ref b3, .ref b4, .int (nI rc)])), (b1, .inl (o1, 8000, .inl (upd f (hs + d) (((v >>> ((nI (8 * n)).toInt64 &&& 63)).toInt32) &&& nI 255))))] H := hP
      have hD : va_D A [(b0, .inr (1, [.int (nI N), .int up, .int ch, .int wr, .int (nI bg), .int (nI en), .ref b1, .int (nI ((hs + d) + 1)), .ref b2, .int (nI ss), .ref b3, .ref b4, .int (nI rc)])), (b1, .inl (o1, 8000, .inl (upd f (hs + d) (((v >>> ((nI (8 * n)).toInt64 &&& 63)).toInt32) &&& nI 255))))] := hD
      refine lv_pop hx hb d_BlockDeskModel_put_54 rfl ?_
      refine lv_iinc (v := zq_pd n) (lv' := [(4, .int (zq_pd n)), (0, .ref b0), (1, .long v), (3, .int (nI k))]) hx hb d_BlockDeskModel_put_55 hl (k := 0) rfl (xq_pd n) (by decide) rfl (fun ls hl => ?_)
      refine lv_goto (tgt := 37) hx hb d_BlockDeskModel_put_58 (by decide) ?_
      exact ih (d + 1) _ _ _ (by omega) (zq_app_s hI (by show _ = zq_pbv v (k - 1 - d) &&& nI 255; rw [show k - 1 - d = n by omega]; rfl)) (hP.sub [0, 1] rfl) (hD.sub [0, 1] (by decide) rfl) hS ls (lv_sub hl [0, 1, 2, 3] rfl)
set_option maxHeartbeats 4000000 in
set_option maxRecDepth 100000 in
theorem c_BlockDeskModel_put (l : Launch) (dC : Nat → ClassId) (dI : Nat → Nat → Nat) (sz : Nat) (b0 : Nat) (b1 : Nat) (b2 : Nat) (b3 : Nat) (b4 : Nat) (N : Nat) (rc : Nat) (bg : Nat) (en : Nat) (ss : Nat) (hs : Nat) (up : Int32) (ch : Int32) (wr : Int32) (o1 : ClassId) (g1 : Nat → Int32) (v : Int64) (n : Int32) (hhs : hs ≤ 8000) : Met l y_BlockDeskModel_put w_BlockDeskModel_put ({ frames := 1, cells := 0, slots := 0, locals := 22 }) (va_Pc [.ref b0, .long v, .int n] (fun U => U.heap.size = sz ∧ va_P (dC, dI) classes [(b0, .inr (1, [.int (nI N), .int up, .int ch, .int wr, .int (nI bg), .int (nI en), .ref b1, .int (nI hs), .ref b2, .int (nI ss), .ref b3, .ref b4, .int (nI rc)])), (b1, .inl (o1, 8000, .inl g1))] U.heap ∧ va_K (dC, dI) classes [(o1, .int)] U ∧ va_D (fun _ => True) [(b0, .inr (1, [.int (nI N), .int up, .int ch, .int wr, .int (nI bg), .int (nI en), .ref b1, .int (nI hs), .ref b2, .int (nI ss), .ref b3, .ref b4, .int (nI rc)])), (b1, .inl (o1, 8000, .inl g1))])) (va_Qi (fun (r : Int32) (u : Nat × (Nat → Int32)) => (zq_okP up hs 8 n ∧ r = nI 1 ∧ u.1 = hs + n.toNatClampNeg ∧ zq_app g1 u.2 hs n.toNatClampNeg (fun z => zq_pbv v (n.toNatClampNeg - 1 - z) &&& nI 255)) ∨ (¬ zq_okP up hs 8 n ∧ r = nI 0 ∧ u = (hs, g1))) (fun (u : Nat × (Nat → Int32)) (t : State) => match u with | (hs', f') => va_P (dC, dI) classes [(b0, .inr (1, [.int (nI N), .int up, .int ch, .int wr, .int (nI bg), .int (nI en), .ref b1, .int (nI hs'), .ref b2, .int (nI ss), .ref b3, .ref b4, .int (nI rc)])), (b1, .inl (o1, 8000, .inl f'))] t.heap ∧ va_K (dC, dI) classes [(o1, .int)] t ∧ va_D (va_A [(b0, .inr (1, [.int (nI N), .int up, .int ch, .int wr, .int (nI bg), .int (nI en), .ref b1, .int (nI hs), .ref b2, .int (nI ss), .ref b3, .ref b4, .int (nI rc)])), (b1, .inl (o1, 8000, .inl g1))] sz) [(b0, .inr (1, [.int (nI N), .int up, .int ch, .int wr, .int (nI bg), .int (nI en), .ref b1, .int (nI hs'), .ref b2, .int (nI ss), .ref b3, .ref b4, .int (nI rc)])), (b1, .inl (o1, 8000, .inl f'))]) (va_A [(b0, .inr (1, [.int (nI N), .int up, .int ch, .int wr, .int (nI bg), .int (nI en), .ref b1, .int (nI hs), .ref b2, .int (nI ss), .ref b3, .ref b4, .int (nI rc)])), (b1, .inl (o1, 8000, .inl g1))] sz)) 0 0 (va_A [(b0, .inr (1, [.int (nI N), .int up, .int ch, .int wr, .int (nI bg), .int (nI en), .ref b1, .int (nI hs), .ref b2, .int (nI ss), .ref b3, .ref b4, .int (nI rc)])), (b1, .inl (o1, 8000, .inl g1))] sz) := by
  refine Met.ofW (cc := b_BlockDeskModel_put) (maxL := 5) (ret := (some .boolean)) (by decide) rfl ?_
  intro p e s m args below meth c s₁ B hml hv
  obtain ⟨rfl, hsz, hP, hK, hD0⟩ := hv
  have hx := B.exec
  have hb := B.bytes
  have hr := B.returns
  have hts := atoms_spec (ws := w_BlockDeskModel_put) B.pre
  have hown : s.vm.findClass R_BlockDeskModel = some m.cls := findClass_of_methodNamed B.named
  have hlocks := B.notSynchronized
  subst hsz
  have hD := hD0.self (sz := s.heap.size)
  generalize hAe : va_A [(b0, .inr (1, [.int (nI N), .int up, .int ch, .int wr, .int (nI bg), .int (nI en), .ref b1, .int (nI hs), .ref b2, .int (nI ss), .ref b3, .ref b4, .int (nI rc)])), (b1, .inl (o1, 8000, .inl g1))] s.heap.size = A at hD ⊢
  have hA : ∀ q : Nat, s.heap.size ≤ q → A q := fun q h => by rw [← hAe]; exact Or.inr h
  have hS : va_S A s.heap s.heap [] := va_S.rf
  have hP : va_P (dC, dI) classes [(b0, .inr (1, [.int (nI N), .int up, .int ch, .int wr, .int (nI bg), .int (nI en), .ref b1, .int (nI hs), .ref b2, .int (nI ss), .ref b3, .ref b4, .int (nI rc)])), (b1, .inl (o1, 8000, .inl g1))] s.heap := hP
  have hin1 : ∀ w ∈ u_ws R_BlockDeskModel F_BlockDeskModel 13, w ∈ w_BlockDeskModel_put := by decide +kernel
  have hl := lv_entry ([.ref b0, .long v, .int n]) (n := 5) (Nat.le_of_ble_eq_true rfl)
  rw [lg_entry_eq]
  generalize (lg_sl ([.ref b0, .long v, .int n]) ++ List.replicate (5 - (lg_sl ([.ref b0, .long v, .int n])).length) Slot.unset).toArray = ls at hl ⊢
  have hl : lv_has ls 5 [(0, .ref b0), (1, .long v), (3, .int n)] := hl
  refine lv_aload_n hx hb d_BlockDeskModel_put_0 rfl (lv_at hl 0 rfl) ?_
  refine va_get (D := (dC, dI)) (ci := 1) (v := .int up) (C := R_BlockDeskModel) (T := F_BlockDeskModel) (N := 13) hx hb hts hin1 hown hK hP 0 rfl rfl 1 (by decide) (hts (.fieldLink R_BlockDeskModel 7 "BlockDeskModel" "up" "Z") (by decide +kernel)) (fun _ h9 => h9) rfl d_BlockDeskModel_put_1 ?_
  refine lv_if_eq (tgt := 30) hx hb d_BlockDeskModel_put_4 (by decide) (fun c_4 => ?_) (fun c_4 => ?_)
  · refine lv_iconst (v := nI 0) hx hb d_BlockDeskModel_put_30 (by decide +kernel) ?_
    have hP9 := hP.sub (ws' := [(b0, .inr (1, [.int (nI N), .int up, .int ch, .int wr, .int (nI bg), .int (nI en), .ref b1, .int (nI hs), .ref b2, .int (nI ss), .ref b3, .ref b4, .int (nI rc)])), (b1, .inl (o1, 8000, .inl g1))]) [0, 1] rfl
    have hD9 := hD.sub (ws' := [(b0, .inr (1, [.int (nI N), .int up, .int ch, .int wr, .int (nI bg), .int (nI en), .ref b1, .int (nI hs), .ref b2, .int (nI ss), .ref b3, .ref b4, .int (nI rc)])), (b1, .inl (o1, 8000, .inl g1))]) [0, 1] (by decide) rfl
    have hK9 := hK.sub (tys' := [(o1, .int)]) [0] rfl
    exact W.zret (v := nI 0) hx hb hr zq_nb0 (fun t ht hW => ⟨⟨nI 0, (hs, g1), rfl, Or.inr ⟨fun h9 => by have q1 := h9.1; have q2 := h9.2.1; have q3 := h9.2.2.1; have q4 := h9.2.2.2; first | omega | exact absurd c_4 q1, rfl, rfl⟩, by rw [ht]; exact hP9, va_K.moved hW.alike hK9, hD9⟩, hS.F ht⟩) hS.2.2 d_BlockDeskModel_put_31
  · refine lv_iload_n hx hb d_BlockDeskModel_put_7 rfl (lv_at hl 2 rfl) ?_
    refine lv_iconst (v := nI 1) hx hb d_BlockDeskModel_put_8 (by decide +kernel) ?_
    refine lv_icmp_lt (tgt := 30) hx hb d_BlockDeskModel_put_9 (by decide) (fun c_9 => ?_) (fun c_9 => ?_)
    · have c_9 : n.toInt < ((1 : Nat) : Int) := (xq_lt_r (by omega)).mp c_9
      refine lv_iconst (v := nI 0) hx hb d_BlockDeskModel_put_30 (by decide +kernel) ?_
      have hP9 := hP.sub (ws' := [(b0, .inr (1, [.int (nI N), .int up, .int ch, .int wr, .int (nI bg), .int (nI en), .ref b1, .int (nI hs), .ref b2, .int (nI ss), .ref b3, .ref b4, .int (nI rc)])), (b1, .inl (o1, 8000, .inl g1))]) [0, 1] rfl
      have hD9 := hD.sub (ws' := [(b0, .inr (1, [.int (nI N), .int up, .int ch, .int wr, .int (nI bg), .int (nI en), .ref b1, .int (nI hs), .ref b2, .int (nI ss), .ref b3, .ref b4, .int (nI rc)])), (b1, .inl (o1, 8000, .inl g1))]) [0, 1] (by decide) rfl
      have hK9 := hK.sub (tys' := [(o1, .int)]) [0] rfl
      exact W.zret (v := nI 0) hx hb hr zq_nb0 (fun t ht hW => ⟨⟨nI 0, (hs, g1), rfl, Or.inr ⟨fun h9 => by have q1 := h9.1; have q2 := h9.2.1; have q3 := h9.2.2.1; have q4 := h9.2.2.2; first | omega | exact absurd c_4 q1, rfl, rfl⟩, by rw [ht]; exact hP9, va_K.moved hW.alike hK9, hD9⟩, hS.F ht⟩) hS.2.2 d_BlockDeskModel_put_31
    · have c_9 : ¬ (n.toInt < ((1 : Nat) : Int)) := fun h9 => c_9 ((xq_lt_r (by omega)).mpr h9)
      refine lv_iload_n hx hb d_BlockDeskModel_put_12 rfl (lv_at hl 2 rfl) ?_
      refine lv_bipush (v := nI 8) hx hb d_BlockDeskModel_put_13 (by decide +kernel) ?_
      refine lv_icmp_gt (tgt := 30) hx hb d_BlockDeskModel_put_15 (by decide) (fun c_15 => ?_) (fun c_15 => ?_)
      · have c_15 : ((8 : Nat) : Int) < n.toInt := (xq_lt_l (by omega)).mp c_15
        refine lv_iconst (v := nI 0) hx hb d_BlockDeskModel_put_30 (by decide +kernel) ?_
        have hP9 := hP.sub (ws' := [(b0, .inr (1, [.int (nI N), .int up, .int ch, .int wr, .int (nI bg), .int (nI en), .ref b1, .int (nI hs), .ref b2, .int (nI ss), .ref b3, .ref b4, .int (nI rc)])), (b1, .inl (o1, 8000, .inl g1))]) [0, 1] rfl
        have hD9 := hD.sub (ws' := [(b0, .inr (1, [.int (nI N), .int up, .int ch, .int wr, .int (nI bg), .int (nI en), .ref b1, .int (nI hs), .ref b2, .int (nI ss), .ref b3, .ref b4, .int (nI rc)])), (b1, .inl (o1, 8000, .inl g1))]) [0, 1] (by decide) rfl
        have hK9 := hK.sub (tys' := [(o1, .int)]) [0] rfl
        exact W.zret (v := nI 0) hx hb hr zq_nb0 (fun t ht hW => ⟨⟨nI 0, (hs, g1), rfl, Or.inr ⟨fun h9 => by have q1 := h9.1; have q2 := h9.2.1; have q3 := h9.2.2.1; have q4 := h9.2.2.2; first | omega | exact absurd c_4 q1, rfl, rfl⟩, by rw [ht]; exact hP9, va_K.moved hW.alike hK9, hD9⟩, hS.F ht⟩) hS.2.2 d_BlockDeskModel_put_31
      · have c_15 : ¬ (((8 : Nat) : Int) < n.toInt) := fun h9 => c_15 ((xq_lt_l (by omega)).mpr h9)
        obtain ⟨k, -, rfl, hkI, hkN⟩ := xq_nat (x := n) (by omega)
        have hl : lv_has ls 5 [(0, .ref b0), (1, .long v), (3, .int (nI k))] := hl
        refine lv_aload_n hx hb d_BlockDeskModel_put_18 rfl (lv_at hl 0 rfl) ?_
        refine va_get (D := (dC, dI)) (ci := 1) (v := .int (nI hs)) (C := R_BlockDeskModel) (T := F_BlockDeskModel) (N := 13) hx hb hts hin1 hown hK hP 0 rfl rfl 7 (by decide) (hts (.fieldLink R_BlockDeskModel 33 "BlockDeskModel" "inHand" "I") (by decide +kernel)) (fun _ h9 => h9) rfl d_BlockDeskModel_put_19 ?_
        refine lv_iload_n hx hb d_BlockDeskModel_put_22 rfl (lv_at hl 2 rfl) ?_
        refine lv_iadd hx hb d_BlockDeskModel_put_23 ?_
        refine xq_top (nI (hs + k)) (nI_add _ _) ?_
        refine lv_sipush (v := nI 8000) hx hb d_BlockDeskModel_put_24 (by decide +kernel) ?_
        refine lv_icmp_le (tgt := 32) hx hb d_BlockDeskModel_put_27 (by decide) (fun c_27 => ?_) (fun c_27 => ?_)
        · have c_27 : hs + k ≤ 8000 := (nI_leI (by omega) (by omega)).mp c_27
          obtain ⟨k0, rfl⟩ : ∃ k0, k = k0 + 1 := ⟨k - 1, by omega⟩
          refine lv_iload_n hx hb d_BlockDeskModel_put_32 rfl (lv_at hl 2 rfl) ?_
          refine lv_iconst (v := nI 1) hx hb d_BlockDeskModel_put_33 (by decide +kernel) ?_
          refine lv_isub hx hb d_BlockDeskModel_put_34 ?_
          refine xq_top (nI (k0 + 1 - 1)) (pk_sub (by omega)) ?_
          refine lv_istore (lv' := [(4, .int (nI (k0 + 1 - 1))), (0, .ref b0), (1, .long v), (3, .int (nI (k0 + 1)))]) hx hb d_BlockDeskModel_put_35 hl (by decide) rfl (fun ls hl => ?_)
          refine lp_M_put (l := l) (meth := meth) hx hb hml hts hown hA b0 b1 b2 b3 b4 N rc bg en ss hs (k0 + 1) up ch wr o1 v g1 (by omega) (by omega) hK (fun f H locs hI hP hD hS ls hl => ?_) (k0 + 1) 0 g1 _ _ (by omega) zq_app_0 (hP.sub [0, 1] rfl) (hD.sub [0, 1] (by decide) rfl) hS ls (lv_sub hl [0, 1, 2, 3] rfl)
          refine lv_iconst (v := nI 1) hx hb d_BlockDeskModel_put_61 (by decide +kernel) ?_
          have hP9 := hP.sub (ws' := [(b0, .inr (1, [.int (nI N), .int up, .int ch, .int wr, .int (nI bg), .int (nI en), .ref b1, .int (nI (hs + (k0 + 1))), .ref b2, .int (nI ss), .ref b3, .ref b4, .int (nI rc)])), (b1, .inl (o1, 8000, .inl f))]) [0, 1] rfl
          have hD9 := hD.sub (ws' := [(b0, .inr (1, [.int (nI N), .int up, .int ch, .int wr, .int (nI bg), .int (nI en), .ref b1, .int (nI (hs + (k0 + 1))), .ref b2, .int (nI ss), .ref b3, .ref b4, .int (nI rc)])), (b1, .inl (o1, 8000, .inl f))]) [0, 1] (by decide) rfl
          have hK9 := hK.sub (tys' := [(o1, .int)]) [0] rfl
          exact W.zret (v := nI 1) hx hb hr zq_nb1 (fun t ht hW => ⟨⟨nI 1, (hs + (k0 + 1), f), rfl, Or.inl ⟨⟨c_4, by omega, by omega, by omega⟩, rfl, by rw [hkN], by rw [hkN]; exact hI⟩, by rw [ht]; exact hP9, va_K.moved hW.alike hK9, hD9⟩, hS.F ht⟩) hS.2.2 d_BlockDeskModel_put_62
        · have c_27 : ¬ (hs + k ≤ 8000) := fun h9 => c_27 ((nI_leI (by omega) (by omega)).mpr h9)
          refine lv_iconst (v := nI 0) hx hb d_BlockDeskModel_put_30 (by decide +kernel) ?_
          have hP9 := hP.sub (ws' := [(b0, .inr (1, [.int (nI N), .int up, .int ch, .int wr, .int (nI bg), .int (nI en), .ref b1, .int (nI hs), .ref b2, .int (nI ss), .ref b3, .ref b4, .int (nI rc)])), (b1, .inl (o1, 8000, .inl g1))]) [0, 1] rfl
          have hD9 := hD.sub (ws' := [(b0, .inr (1, [.int (nI N), .int up, .int ch, .int wr, .int (nI bg), .int (nI en), .ref b1, .int (nI hs), .ref b2, .int (nI ss), .ref b3, .ref b4, .int (nI rc)])), (b1, .inl (o1, 8000, .inl g1))]) [0, 1] (by decide) rfl
          have hK9 := hK.sub (tys' := [(o1, .int)]) [0] rfl
          exact W.zret (v := nI 0) hx hb hr zq_nb0 (fun t ht hW => ⟨⟨nI 0, (hs, g1), rfl, Or.inr ⟨fun h9 => by have q1 := h9.1; have q2 := h9.2.1; have q3 := h9.2.2.1; have q4 := h9.2.2.2; first | omega | exact absurd c_4 q1, rfl, rfl⟩, by rw [ht]; exact hP9, va_K.moved hW.alike hK9, hD9⟩, hS.F ht⟩) hS.2.2 d_BlockDeskModel_put_31
set_option maxHeartbeats 4000000 in
set_option maxRecDepth 100000 in
theorem lp_M_fill {p : Program} {l : Launch} {e : Env} {s : State} {m : MethodId} {args : Array Value} {below : List Frame} {meth : Method} {c : Code} {Q : State → Prop} {A : Nat → Prop} {dC : Nat → ClassId} {dI : Nat → Nat → Nat} (hx : p.tables.exec = Jvm.exec) (hb : c.code = b_BlockDeskModel_fill) (hml : c.maxLocals = 4) (hts : ∀ w ∈ w_BlockDeskModel_fill, w.before args s = true) (hown : s.vm.findClass R_BlockDeskModel = some m.cls) (hA : ∀ q : Nat, s.heap.size ≤ q → A q) (b0 : Nat) (b1 : Nat) (b2 : Nat) (b3 : Nat) (b4 : Nat) (N : Nat) (rc : Nat) (bg : Nat) (en : Nat) (ss : Nat) (hs : Nat) (k : Nat) (up : Int32) (ch : Int32) (wr : Int32) (v : Int32) (o1 : ClassId) (g1 : Nat → Int32) (hk : hs + k ≤ 8000) (hK : va_K (dC, dI) classes [(o1, .int)] s) (KK : ∀ (f : Nat → Int32) (H : Heap) (locs : List Loc), zq_app g1 f hs k (fun _ => v &&& nI 255) → va_P (dC, dI) classes [(b0, .inr (1, [.int (nI N), .int up, .int ch, .int wr, .int (nI bg), .int (nI en), .ref b1, .int (nI (hs + k)), .ref b2, .int (nI ss), .ref b3, .ref b4, .int (nI rc)])), (b1, .inl (o1, 8000, .inl f))] H → va_D A [(b0, .inr (1, [.int (nI N), .int up, .int ch, .int wr, .int (nI bg), .int (nI en), .ref b1, .int (nI (hs + k)), .ref b2, .int (nI ss), .ref b3, .ref b4, .int (nI rc)])), (b1, .inl (o1, 8000, .inl f))] → va_S A s.heap H locs → ∀ ls : Array Slot, lv_has ls 4 [(3, .int (nI k)), (0, .ref b0), (1, .int v), (2, .int (nI k))] → W p l e ({ frames := 1, cells := 0, slots := 0, locals := 22 } : Room) s m args below meth c H locs 0 0 Q (F0 m 52 ls [])) : ∀ (n d : Nat) (f : Nat → Int32) (H : Heap) (locs : List Loc), d + n = k → zq_app g1 f hs d (fun _ => v &&& nI 255) → va_P (dC, dI) classes [(b0, .inr (1, [.int (nI N), .int up, .int ch, .int wr, .int (nI bg), .int (nI en), .ref b1, .int (nI (hs + d)), .ref b2, .int (nI ss), .ref b3, .ref b4, .int (nI rc)])), (b1, .inl (o1, 8000, .inl f))] H → va_D A [(b0, .inr (1, [.int (nI N), .int up, .int ch, .int wr, .int (nI bg), .int (nI en), .ref b1, .int (nI (hs + d)), .ref b2, .int (nI ss), .ref b3, .ref b4, .int (nI rc)])), (b1, .inl (o1, 8000, .inl f))] → va_S A s.heap H locs → ∀ ls : Array Slot, lv_has ls 4 [(3, .int (nI d)), (0, .ref b0), (1, .int v), (2, .int (nI k))] → W p l e ({ frames := 1, cells := 0, slots := 0, locals := 22 } : Room) s m args below meth c H locs 0 0 Q (F0 m 35 ls []) := by
  have hin1 : ∀ w ∈ u_ws R_BlockDeskModel F_BlockDeskModel 13, w ∈ w_BlockDeskModel_fill := by decide +kernel
  intro n
  induction n with
  | zero =>
    intro d f H locs hdn hI hP hD hS ls hl
    have hdn : k = d := by omega
    subst hdn
    have hl : lv_has ls 4 [(3, .int (nI k)), (0, .ref b0), (1, .int v), (2, .int (nI k))] := hl
    refine lv_iload_n hx hb d_BlockDeskModel_fill_35 rfl (lv_at hl 0 rfl) ?_
    refine lv_iload_n hx hb d_BlockDeskModel_fill_36 rfl (lv_at hl 3 rfl) ?_
    refine lv_icmp_ge (tgt := 52) hx hb d_BlockDeskModel_fill_37 (by decide) (fun c_37 => ?_) (fun c_37 => ?_)
    · have c_37 : k ≤ k := (nI_leI (by omega) (by omega)).mp c_37
      exact KK f _ _ hI (hP.sub [0, 1] rfl) (hD.sub [0, 1] (by decide) rfl) hS ls (lv_sub hl [0, 1, 2, 3] rfl)
    · have c_37 : ¬ (k ≤ k) := fun h9 => c_37 ((nI_leI (by omega) (by omega)).mpr h9)
      exact absurd (by omega) c_37
  | succ n ih =>
    intro d f H locs hdn hI hP hD hS ls hl
    have hl : lv_has ls 4 [(3, .int (nI d)), (0, .ref b0), (1, .int v), (2, .int (nI k))] := hl
    refine lv_iload_n hx hb d_BlockDeskModel_fill_35 rfl (lv_at hl 0 rfl) ?_
    refine lv_iload_n hx hb d_BlockDeskModel_fill_36 rfl (lv_at hl 3 rfl) ?_
    refine lv_icmp_ge (tgt := 52) hx hb d_BlockDeskModel_fill_37 (by decide) (fun c_37 => ?_) (fun c_37 => ?_)
    · have c_37 : k ≤ d := (nI_leI (by omega) (by omega)).mp c_37
      exact absurd c_37 (by omega)
    · have c_37 : ¬ (k ≤ d) := fun h9 => c_37 ((nI_leI (by omega) (by omega)).mpr h9)
      refine lv_aload_n hx hb d_BlockDeskModel_fill_40 rfl (lv_at hl 1 rfl) ?_
      refine lv_iload_n hx hb d_BlockDeskModel_fill_41 rfl (lv_at hl 2 rfl) ?_
      have hPc := hP.sub (ws' := [(b0, .inr (1, [.int (nI N), .int up, .int ch, .int wr, .int (nI bg), .int (nI en), .ref b1, .int (nI (hs + d)), .ref b2, .int (nI ss), .ref b3, .ref b4, .int (nI rc)])), (b1, .inl (o1, 8000, .inl f))]) [0, 1] rfl
      have hDc := hD.sub (ws' := [(b0, .inr (1, [.int (nI N), .int up, .int ch, .int wr, .int (nI bg), .int (nI en), .ref b1, .int (nI (hs + d)), .ref b2, .int (nI ss), .ref b3, .ref b4, .int (nI rc)])), (b1, .inl (o1, 8000, .inl f))]) [0, 1] (by decide) rfl
      have hKc := hK.sub (tys' := [(o1, .int)]) [0] rfl
      have hFc := va_free (wc := [(b0, .inr (1, [.int (nI N), .int up, .int ch, .int wr, .int (nI bg), .int (nI en), .ref b1, .int (nI (hs + d)), .ref b2, .int (nI ss), .ref b3, .ref b4, .int (nI rc)])), (b1, .inl (o1, 8000, .inl f))]) hD hS hA [0, 1] rfl
      refine va_calli (va_runV (As := [.int v]) (rest := []) ⟨hx, hb, hml, hown, hts⟩ (c_BlockDeskModel_hold l dC dI H.size b0 b1 b2 b3 b4 N rc bg en ss (hs + d) up ch wr o1 f v (by omega)) (cwV 1 hts g_BlockDeskModel_fill_BlockDeskModel_hold rfl rfl rfl (by decide +kernel) ⟨Nat.le_of_ble_eq_true rfl, Nat.le_of_ble_eq_true rfl⟩) ⟨fun a U g mk q => by obtain ⟨q0, q1, qP, qK, qD⟩ := q; exact ⟨q0, q1, qP, va_K.moved (u := U) (U := U.calling g mk a) (Vm.Alike.refl U.vm) qK, qD⟩, va_recv hKc hPc (ci := 1) (q0 := 0) rfl rfl, fun U hU hW => ⟨rfl, by rw [hU], by rw [hU]; exact hPc, va_K.moved hW.alike hKc, hDc.weaken (fun _ _ _ _ => trivial)⟩⟩ rfl rfl hl.1 rfl (lv_room (Nat.le_of_ble_eq_true rfl)) d_BlockDeskModel_fill_42 ⟨(Nat.zero_le _), (Nat.zero_le _)⟩) hS (fun q _ h => hFc q h) hFc (fun r_h u t H1 locs ht hvm hw hB hz1 hk1 hS => ?_)
      obtain ⟨hP1, hK1, hD1⟩ := hB
      rw [ht] at hP1
      try dsimp only at hw
      obtain ⟨hP, hD⟩ := va_join (wr := []) (w1 := [(b0, .inr (1, [.int (nI N), .int up, .int ch, .int wr, .int (nI bg), .int (nI en), .ref b1, .int (nI ((hs + d) + 1)), .ref b2, .int (nI ss), .ref b3, .ref b4, .int (nI rc)])), (b1, .inl (o1, 8000, .inl (upd f (hs + d) (v &&& nI 255))))]) hP hD [0, 1] [] rfl rfl (by decide) (by decide) hk1 hFc hP1 hD1
      generalize H1 = H at hP hS ⊢
      have hP : va_P (dC, dI) classes [(b0, .inr (1, [.int (nI N), .int up, .int ch, .int wr, .int (nI bg), .int (nI en), .ref b1, .int (nI ((hs + d) + 1)), .ref b2, .int (nI ss), .ref b3, .ref b4, .int (nI rc)])), (b1, .inl (o1, 8000, .inl (upd f (hs + d) (v &&& nI 255))))] H := hP
      have hD : va_D A [(b0, .inr (1, [.int (nI N), .int up, .int ch, .int wr, .int (nI bg), .int (nI en), .ref b1, .int (nI ((hs + d) + 1)), .ref b2, .int (nI ss), .ref b3, .ref b4, .int (nI rc)])), (b1, .inl (o1, 8000, .inl (upd f (hs + d) (v &&& nI 255))))] := hD
      refine lv_pop hx hb d_BlockDeskModel_fill_45 rfl ?_
      refine lv_iinc (v := nI (d + 1)) (lv' := [(3, .int (nI (d + 1))), (0, .ref b0), (1, .int v), (2, .int (nI k))]) hx hb d_BlockDeskModel_fill_46 hl (k := 0) rfl (show nI d + nI 1 = nI (d + 1) from nI_add _ _) (by decide) rfl (fun ls hl => ?_)
      refine lv_goto (tgt := 35) hx hb d_BlockDeskModel_fill_49 (by decide) ?_
      exact ih (d + 1) _ _ _ (by omega) (zq_app_s hI rfl) (hP.sub [0, 1] rfl) (hD.sub [0, 1] (by decide) rfl) hS ls (lv_sub hl [0, 1, 2, 3] rfl)
set_option maxHeartbeats 4000000 in
set_option maxRecDepth 100000 in
theorem c_BlockDeskModel_fill (l : Launch) (dC : Nat → ClassId) (dI : Nat → Nat → Nat) (sz : Nat) (b0 : Nat) (b1 : Nat) (b2 : Nat) (b3 : Nat) (b4 : Nat) (N : Nat) (rc : Nat) (bg : Nat) (en : Nat) (ss : Nat) (hs : Nat) (up : Int32) (ch : Int32) (wr : Int32) (o1 : ClassId) (g1 : Nat → Int32) (v : Int32) (n : Int32) (hhs : hs ≤ 8000) : Met l y_BlockDeskModel_fill w_BlockDeskModel_fill ({ frames := 1, cells := 0, slots := 0, locals := 22 }) (va_Pc [.ref b0, .int v, .int n] (fun U => U.heap.size = sz ∧ va_P (dC, dI) classes [(b0, .inr (1, [.int (nI N), .int up, .int ch, .int wr, .int (nI bg), .int (nI en), .ref b1, .int (nI hs), .ref b2, .int (nI ss), .ref b3, .ref b4, .int (nI rc)])), (b1, .inl (o1, 8000, .inl g1))] U.heap ∧ va_K (dC, dI) classes [(o1, .int)] U ∧ va_D (fun _ => True) [(b0, .inr (1, [.int (nI N), .int up, .int ch, .int wr, .int (nI bg), .int (nI en), .ref b1, .int (nI hs), .ref b2, .int (nI ss), .ref b3, .ref b4, .int (nI rc)])), (b1, .inl (o1, 8000, .inl g1))])) (va_Qi (fun (r : Int32) (u : Nat × (Nat → Int32)) => (zq_okP up hs 8000 n ∧ r = nI 1 ∧ u.1 = hs + n.toNatClampNeg ∧ zq_app g1 u.2 hs n.toNatClampNeg (fun _ => v &&& nI 255)) ∨ (¬ zq_okP up hs 8000 n ∧ r = nI 0 ∧ u = (hs, g1))) (fun (u : Nat × (Nat → Int32)) (t : State) => match u with | (hs', f') => va_P (dC, dI) classes [(b0, .inr (1, [.int (nI N), .int up, .int ch, .int wr, .int (nI bg), .int (nI en), .ref b1, .int (nI hs'), .ref b2, .int (nI ss), .ref b3, .ref b4, .int (nI rc)])), (b1, .inl (o1, 8000, .inl f'))] t.heap ∧ va_K (dC, dI) classes [(o1, .int)] t ∧ va_D (va_A [(b0, .inr (1, [.int (nI N), .int up, .int ch, .int wr, .int (nI bg), .int (nI en), .ref b1, .int (nI hs), .ref b2, .int (nI ss), .ref b3, .ref b4, .int (nI rc)])), (b1, .inl (o1, 8000, .inl g1))] sz) [(b0, .inr (1, [.int (nI N), .int up, .int ch, .int wr, .int (nI bg), .int (nI en), .ref b1, .int (nI hs'), .ref b2, .int (nI ss), .ref b3, .ref b4, .int (nI rc)])), (b1, .inl (o1, 8000, .inl f'))]) (va_A [(b0, .inr (1, [.int (nI N), .int up, .int ch, .int wr, .int (nI bg), .int (nI en), .ref b1, .int (nI hs), .ref b2, .int (nI ss), .ref b3, .ref b4, .int (nI rc)])), (b1, .inl (o1, 8000, .inl g1))] sz)) 0 0 (va_A [(b0, .inr (1, [.int (nI N), .int up, .int ch, .int wr, .int (nI bg), .int (nI en), .ref b1, .int (nI hs), .ref b2, .int (nI ss), .ref b3, .ref b4, .int (nI rc)])), (b1, .inl (o1, 8000, .inl g1))] sz) := by
  refine Met.ofW (cc := b_BlockDeskModel_fill) (maxL := 4) (ret := (some .boolean)) (by decide) rfl ?_
  intro p e s m args below meth c s₁ B hml hv
  obtain ⟨rfl, hsz, hP, hK, hD0⟩ := hv
  have hx := B.exec
  have hb := B.bytes
  have hr := B.returns
  have hts := atoms_spec (ws := w_BlockDeskModel_fill) B.pre
  have hown : s.vm.findClass R_BlockDeskModel = some m.cls := findClass_of_methodNamed B.named
  have hlocks := B.notSynchronized
  subst hsz
  have hD := hD0.self (sz := s.heap.size)
  generalize hAe : va_A [(b0, .inr (1, [.int (nI N), .int up, .int ch, .int wr, .int (nI bg), .int (nI en), .ref b1, .int (nI hs), .ref b2, .int (nI ss), .ref b3, .ref b4, .int (nI rc)])), (b1, .inl (o1, 8000, .inl g1))] s.heap.size = A at hD ⊢
  have hA : ∀ q : Nat, s.heap.size ≤ q → A q := fun q h => by rw [← hAe]; exact Or.inr h
  have hS : va_S A s.heap s.heap [] := va_S.rf
  have hP : va_P (dC, dI) classes [(b0, .inr (1, [.int (nI N), .int up, .int ch, .int wr, .int (nI bg), .int (nI en), .ref b1, .int (nI hs), .ref b2, .int (nI ss), .ref b3, .ref b4, .int (nI rc)])), (b1, .inl (o1, 8000, .inl g1))] s.heap := hP
  have hin1 : ∀ w ∈ u_ws R_BlockDeskModel F_BlockDeskModel 13, w ∈ w_BlockDeskModel_fill := by decide +kernel
  have hl := lv_entry ([.ref b0, .int v, .int n]) (n := 4) (Nat.le_of_ble_eq_true rfl)
  rw [lg_entry_eq]
  generalize (lg_sl ([.ref b0, .int v, .int n]) ++ List.replicate (4 - (lg_sl ([.ref b0, .int v, .int n])).length) Slot.unset).toArray = ls at hl ⊢
  have hl : lv_has ls 4 [(0, .ref b0), (1, .int v), (2, .int n)] := hl
  refine lv_aload_n hx hb d_BlockDeskModel_fill_0 rfl (lv_at hl 0 rfl) ?_
  refine va_get (D := (dC, dI)) (ci := 1) (v := .int up) (C := R_BlockDeskModel) (T := F_BlockDeskModel) (N := 13) hx hb hts hin1 hown hK hP 0 rfl rfl 1 (by decide) (hts (.fieldLink R_BlockDeskModel 7 "BlockDeskModel" "up" "Z") (by decide +kernel)) (fun _ h9 => h9) rfl d_BlockDeskModel_fill_1 ?_
  refine lv_if_eq (tgt := 31) hx hb d_BlockDeskModel_fill_4 (by decide) (fun c_4 => ?_) (fun c_4 => ?_)
  · refine lv_iconst (v := nI 0) hx hb d_BlockDeskModel_fill_31 (by decide +kernel) ?_
    have hP9 := hP.sub (ws' := [(b0, .inr (1, [.int (nI N), .int up, .int ch, .int wr, .int (nI bg), .int (nI en), .ref b1, .int (nI hs), .ref b2, .int (nI ss), .ref b3, .ref b4, .int (nI rc)])), (b1, .inl (o1, 8000, .inl g1))]) [0, 1] rfl
    have hD9 := hD.sub (ws' := [(b0, .inr (1, [.int (nI N), .int up, .int ch, .int wr, .int (nI bg), .int (nI en), .ref b1, .int (nI hs), .ref b2, .int (nI ss), .ref b3, .ref b4, .int (nI rc)])), (b1, .inl (o1, 8000, .inl g1))]) [0, 1] (by decide) rfl
    have hK9 := hK.sub (tys' := [(o1, .int)]) [0] rfl
    exact W.zret (v := nI 0) hx hb hr zq_nb0 (fun t ht hW => ⟨⟨nI 0, (hs, g1), rfl, Or.inr ⟨fun h9 => by have q1 := h9.1; have q2 := h9.2.1; have q3 := h9.2.2.1; have q4 := h9.2.2.2; first | omega | exact absurd c_4 q1, rfl, rfl⟩, by rw [ht]; exact hP9, va_K.moved hW.alike hK9, hD9⟩, hS.F ht⟩) hS.2.2 d_BlockDeskModel_fill_32
  · refine lv_iload_n hx hb d_BlockDeskModel_fill_7 rfl (lv_at hl 2 rfl) ?_
    refine lv_iconst (v := nI 1) hx hb d_BlockDeskModel_fill_8 (by decide +kernel) ?_
    refine lv_icmp_lt (tgt := 31) hx hb d_BlockDeskModel_fill_9 (by decide) (fun c_9 => ?_) (fun c_9 => ?_)
    · have c_9 : n.toInt < ((1 : Nat) : Int) := (xq_lt_r (by omega)).mp c_9
      refine lv_iconst (v := nI 0) hx hb d_BlockDeskModel_fill_31 (by decide +kernel) ?_
      have hP9 := hP.sub (ws' := [(b0, .inr (1, [.int (nI N), .int up, .int ch, .int wr, .int (nI bg), .int (nI en), .ref b1, .int (nI hs), .ref b2, .int (nI ss), .ref b3, .ref b4, .int (nI rc)])), (b1, .inl (o1, 8000, .inl g1))]) [0, 1] rfl
      have hD9 := hD.sub (ws' := [(b0, .inr (1, [.int (nI N), .int up, .int ch, .int wr, .int (nI bg), .int (nI en), .ref b1, .int (nI hs), .ref b2, .int (nI ss), .ref b3, .ref b4, .int (nI rc)])), (b1, .inl (o1, 8000, .inl g1))]) [0, 1] (by decide) rfl
      have hK9 := hK.sub (tys' := [(o1, .int)]) [0] rfl
      exact W.zret (v := nI 0) hx hb hr zq_nb0 (fun t ht hW => ⟨⟨nI 0, (hs, g1), rfl, Or.inr ⟨fun h9 => by have q1 := h9.1; have q2 := h9.2.1; have q3 := h9.2.2.1; have q4 := h9.2.2.2; first | omega | exact absurd c_4 q1, rfl, rfl⟩, by rw [ht]; exact hP9, va_K.moved hW.alike hK9, hD9⟩, hS.F ht⟩) hS.2.2 d_BlockDeskModel_fill_32
    · have c_9 : ¬ (n.toInt < ((1 : Nat) : Int)) := fun h9 => c_9 ((xq_lt_r (by omega)).mpr h9)
      refine lv_iload_n hx hb d_BlockDeskModel_fill_12 rfl (lv_at hl 2 rfl) ?_
      refine lv_sipush (v := nI 8000) hx hb d_BlockDeskModel_fill_13 (by decide +kernel) ?_
      refine lv_icmp_gt (tgt := 31) hx hb d_BlockDeskModel_fill_16 (by decide) (fun c_16 => ?_) (fun c_16 => ?_)
      · have c_16 : ((8000 : Nat) : Int) < n.toInt := (xq_lt_l (by omega)).mp c_16
        refine lv_iconst (v := nI 0) hx hb d_BlockDeskModel_fill_31 (by decide +kernel) ?_
        have hP9 := hP.sub (ws' := [(b0, .inr (1, [.int (nI N), .int up, .int ch, .int wr, .int (nI bg), .int (nI en), .ref b1, .int (nI hs), .ref b2, .int (nI ss), .ref b3, .ref b4, .int (nI rc)])), (b1, .inl (o1, 8000, .inl g1))]) [0, 1] rfl
        have hD9 := hD.sub (ws' := [(b0, .inr (1, [.int (nI N), .int up, .int ch, .int wr, .int (nI bg), .int (nI en), .ref b1, .int (nI hs), .ref b2, .int (nI ss), .ref b3, .ref b4, .int (nI rc)])), (b1, .inl (o1, 8000, .inl g1))]) [0, 1] (by decide) rfl
        have hK9 := hK.sub (tys' := [(o1, .int)]) [0] rfl
        exact W.zret (v := nI 0) hx hb hr zq_nb0 (fun t ht hW => ⟨⟨nI 0, (hs, g1), rfl, Or.inr ⟨fun h9 => by have q1 := h9.1; have q2 := h9.2.1; have q3 := h9.2.2.1; have q4 := h9.2.2.2; first | omega | exact absurd c_4 q1, rfl, rfl⟩, by rw [ht]; exact hP9, va_K.moved hW.alike hK9, hD9⟩, hS.F ht⟩) hS.2.2 d_BlockDeskModel_fill_32
      · have c_16 : ¬ (((8000 : Nat) : Int) < n.toInt) := fun h9 => c_16 ((xq_lt_l (by omega)).mpr h9)
        obtain ⟨k, -, rfl, hkI, hkN⟩ := xq_nat (x := n) (by omega)
        have hl : lv_has ls 4 [(0, .ref b0), (1, .int v), (2, .int (nI k))] := hl
        refine lv_aload_n hx hb d_BlockDeskModel_fill_19 rfl (lv_at hl 0 rfl) ?_
        refine va_get (D := (dC, dI)) (ci := 1) (v := .int (nI hs)) (C := R_BlockDeskModel) (T := F_BlockDeskModel) (N := 13) hx hb hts hin1 hown hK hP 0 rfl rfl 7 (by decide) (hts (.fieldLink R_BlockDeskModel 33 "BlockDeskModel" "inHand" "I") (by decide +kernel)) (fun _ h9 => h9) rfl d_BlockDeskModel_fill_20 ?_
        refine lv_iload_n hx hb d_BlockDeskModel_fill_23 rfl (lv_at hl 2 rfl) ?_
        refine lv_iadd hx hb d_BlockDeskModel_fill_24 ?_
        refine xq_top (nI (hs + k)) (nI_add _ _) ?_
        refine lv_sipush (v := nI 8000) hx hb d_BlockDeskModel_fill_25 (by decide +kernel) ?_
        refine lv_icmp_le (tgt := 33) hx hb d_BlockDeskModel_fill_28 (by decide) (fun c_28 => ?_) (fun c_28 => ?_)
        · have c_28 : hs + k ≤ 8000 := (nI_leI (by omega) (by omega)).mp c_28
          refine lv_iconst (v := nI 0) hx hb d_BlockDeskModel_fill_33 (by decide +kernel) ?_
          refine lv_istore_n (lv' := [(3, .int (nI 0)), (0, .ref b0), (1, .int v), (2, .int (nI k))]) hx hb d_BlockDeskModel_fill_34 rfl hl (by decide) rfl (fun ls hl => ?_)
          refine lp_M_fill (l := l) (meth := meth) hx hb hml hts hown hA b0 b1 b2 b3 b4 N rc bg en ss hs k up ch wr v o1 g1 (by omega) hK (fun f H locs hI hP hD hS ls hl => ?_) k 0 g1 _ _ (by omega) zq_app_0 (hP.sub [0, 1] rfl) (hD.sub [0, 1] (by decide) rfl) hS ls (lv_sub hl [0, 1, 2, 3] rfl)
          refine lv_iconst (v := nI 1) hx hb d_BlockDeskModel_fill_52 (by decide +kernel) ?_
          have hP9 := hP.sub (ws' := [(b0, .inr (1, [.int (nI N), .int up, .int ch, .int wr, .int (nI bg), .int (nI en), .ref b1, .int (nI (hs + k)), .ref b2, .int (nI ss), .ref b3, .ref b4, .int (nI rc)])), (b1, .inl (o1, 8000, .inl f))]) [0, 1] rfl
          have hD9 := hD.sub (ws' := [(b0, .inr (1, [.int (nI N), .int up, .int ch, .int wr, .int (nI bg), .int (nI en), .ref b1, .int (nI (hs + k)), .ref b2, .int (nI ss), .ref b3, .ref b4, .int (nI rc)])), (b1, .inl (o1, 8000, .inl f))]) [0, 1] (by decide) rfl
          have hK9 := hK.sub (tys' := [(o1, .int)]) [0] rfl
          exact W.zret (v := nI 1) hx hb hr zq_nb1 (fun t ht hW => ⟨⟨nI 1, (hs + k, f), rfl, Or.inl ⟨⟨c_4, by omega, by omega, by omega⟩, rfl, by rw [hkN], by rw [hkN]; exact hI⟩, by rw [ht]; exact hP9, va_K.moved hW.alike hK9, hD9⟩, hS.F ht⟩) hS.2.2 d_BlockDeskModel_fill_53
        · have c_28 : ¬ (hs + k ≤ 8000) := fun h9 => c_28 ((nI_leI (by omega) (by omega)).mpr h9)
          refine lv_iconst (v := nI 0) hx hb d_BlockDeskModel_fill_31 (by decide +kernel) ?_
          have hP9 := hP.sub (ws' := [(b0, .inr (1, [.int (nI N), .int up, .int ch, .int wr, .int (nI bg), .int (nI en), .ref b1, .int (nI hs), .ref b2, .int (nI ss), .ref b3, .ref b4, .int (nI rc)])), (b1, .inl (o1, 8000, .inl g1))]) [0, 1] rfl
          have hD9 := hD.sub (ws' := [(b0, .inr (1, [.int (nI N), .int up, .int ch, .int wr, .int (nI bg), .int (nI en), .ref b1, .int (nI hs), .ref b2, .int (nI ss), .ref b3, .ref b4, .int (nI rc)])), (b1, .inl (o1, 8000, .inl g1))]) [0, 1] (by decide) rfl
          have hK9 := hK.sub (tys' := [(o1, .int)]) [0] rfl
          exact W.zret (v := nI 0) hx hb hr zq_nb0 (fun t ht hW => ⟨⟨nI 0, (hs, g1), rfl, Or.inr ⟨fun h9 => by have q1 := h9.1; have q2 := h9.2.1; have q3 := h9.2.2.1; have q4 := h9.2.2.2; first | omega | exact absurd c_4 q1, rfl, rfl⟩, by rw [ht]; exact hP9, va_K.moved hW.alike hK9, hD9⟩, hS.F ht⟩) hS.2.2 d_BlockDeskModel_fill_32
end
section
set_option maxHeartbeats 4000000 in
set_option maxRecDepth 100000 in
theorem lp_M_rec {p : Program} {l : Launch} {e : Env} {s : State} {m : MethodId} {args : Array Value} {below : List Frame} {meth : Method} {c : Code} {Q : State → Prop} {A : Nat → Prop} {dC : Nat → ClassId} {dI : Nat → Nat → Nat} (hx : p.tables.exec = Jvm.exec) (hb : c.code = b_BlockDeskModel_record) (hml : c.maxLocals = 3) (hts : ∀ w ∈ w_BlockDeskModel_record, w.before args s = true) (hown : s.vm.findClass R_BlockDeskModel = some m.cls) (hA : ∀ q : Nat, s.heap.size ≤ q → A q) (b0 : Nat) (b1 : Nat) (b2 : Nat) (b3 : Nat) (b4 : Nat) (N : Nat) (rc : Nat) (bg : Nat) (en : Nat) (ss : Nat) (hs : Nat) (ba : Nat) (la : Nat) (up : Int32) (ch : Int32) (wr : Int32) (o1 : ClassId) (o3 : ClassId) (o4 : ClassId) (g1 : Nat → Int32) (g3 : Nat → Int32) (g4 : Nat → Int32) (hba : g4 rc = nI ba) (hrc : rc ≤ 4000) (hhs : hs ≤ 8000) (hbb : ba + hs ≤ 16000) (hK : va_K (dC, dI) classes [(o1, .int), (o3, .int), (o4, .int)] s) (KK : ∀ (f : Nat → Int32) (H : Heap) (locs : List Loc), zq_app g3 f ba hs g1 → va_P (dC, dI) classes [(b0, .inr (1, [.int (nI N), .int up, .int ch, .int wr, .int (nI bg), .int (nI en), .ref b1, .int (nI hs), .ref b2, .int (nI ss), .ref b3, .ref b4, .int (nI rc)])), (b1, .inl (o1, 8000, .inl g1)), (b3, .inl (o3, 16000, .inl f)), (b4, .inl (o4, 4001, .inl g4))] H → va_D A [(b0, .inr (1, [.int (nI N), .int up, .int ch, .int wr, .int (nI bg), .int (nI en), .ref b1, .int (nI hs), .ref b2, .int (nI ss), .ref b3, .ref b4, .int (nI rc)])), (b1, .inl (o1, 8000, .inl g1)), (b3, .inl (o3, 16000, .inl f)), (b4, .inl (o4, 4001, .inl g4))] → va_S A s.heap H locs → ∀ ls : Array Slot, lv_has ls 3 [(2, .int (nI hs)), (0, .ref b0), (1, .int (nI la))] → W p l e ({ frames := 1, cells := 0, slots := 0, locals := 22 } : Room) s m args below meth c H locs 0 0 Q (F0 m 105 ls [])) : ∀ (n d : Nat) (f : Nat → Int32) (H : Heap) (locs : List Loc), d + n = hs → zq_app g3 f ba d g1 → va_P (dC, dI) classes [(b0, .inr (1, [.int (nI N), .int up, .int ch, .int wr, .int (nI bg), .int (nI en), .ref b1, .int (nI hs), .ref b2, .int (nI ss), .ref b3, .ref b4, .int (nI rc)])), (b1, .inl (o1, 8000, .inl g1)), (b3, .inl (o3, 16000, .inl f)), (b4, .inl (o4, 4001, .inl g4))] H → va_D A [(b0, .inr (1, [.int (nI N), .int up, .int ch, .int wr, .int (nI bg), .int (nI en), .ref b1, .int (nI hs), .ref b2, .int (nI ss), .ref b3, .ref b4, .int (nI rc)])), (b1, .inl (o1, 8000, .inl g1)), (b3, .inl (o3, 16000, .inl f)), (b4, .inl (o4, 4001, .inl g4))] → va_S A s.heap H locs → ∀ ls : Array Slot, lv_has ls 3 [(2, .int (nI d)), (0, .ref b0), (1, .int (nI la))] → W p l e ({ frames := 1, cells := 0, slots := 0, locals := 22 } : Room) s m args below meth c H locs 0 0 Q (F0 m 69 ls []) := by
  have hin1 : ∀ w ∈ u_ws R_BlockDeskModel F_BlockDeskModel 13, w ∈ w_BlockDeskModel_record := by decide +kernel
  intro n
  induction n with
  | zero =>
    intro d f H locs hdn hI hP hD hS ls hl
    have hdn : hs = d := by omega
    subst hdn
    have hl : lv_has ls 3 [(2, .int (nI hs)), (0, .ref b0), (1, .int (nI la))] := hl
    refine lv_iload_n hx hb d_BlockDeskModel_record_69 rfl (lv_at hl 0 rfl) ?_
    refine lv_aload_n hx hb d_BlockDeskModel_record_70 rfl (lv_at hl 1 rfl) ?_
    refine va_get (D := (dC, dI)) (ci := 1) (v := .int (nI hs)) (C := R_BlockDeskModel) (T := F_BlockDeskModel) (N := 13) hx hb hts hin1 hown hK hP 0 rfl rfl 7 (by decide) (hts (.fieldLink R_BlockDeskModel 33 "BlockDeskModel" "inHand" "I") (by decide +kernel)) (fun _ h9 => h9) rfl d_BlockDeskModel_record_71 ?_
    refine lv_icmp_ge (tgt := 105) hx hb d_BlockDeskModel_record_74 (by decide) (fun c_74 => ?_) (fun c_74 => ?_)
    · have c_74 : hs ≤ hs := (nI_leI (by omega) (by omega)).mp c_74
      exact KK f _ _ hI (hP.sub [0, 1, 2, 3] rfl) (hD.sub [0, 1, 2, 3] (by decide) rfl) hS ls (lv_sub hl [0, 1, 2] rfl)
    · have c_74 : ¬ (hs ≤ hs) := fun h9 => c_74 ((nI_leI (by omega) (by omega)).mpr h9)
      exact absurd (by omega) c_74
  | succ n ih =>
    intro d f H locs hdn hI hP hD hS ls hl
    have hl : lv_has ls 3 [(2, .int (nI d)), (0, .ref b0), (1, .int (nI la))] := hl
    refine lv_iload_n hx hb d_BlockDeskModel_record_69 rfl (lv_at hl 0 rfl) ?_
    refine lv_aload_n hx hb d_BlockDeskModel_record_70 rfl (lv_at hl 1 rfl) ?_
    refine va_get (D := (dC, dI)) (ci := 1) (v := .int (nI hs)) (C := R_BlockDeskModel) (T := F_BlockDeskModel) (N := 13) hx hb hts hin1 hown hK hP 0 rfl rfl 7 (by decide) (hts (.fieldLink R_BlockDeskModel 33 "BlockDeskModel" "inHand" "I") (by decide +kernel)) (fun _ h9 => h9) rfl d_BlockDeskModel_record_71 ?_
    refine lv_icmp_ge (tgt := 105) hx hb d_BlockDeskModel_record_74 (by decide) (fun c_74 => ?_) (fun c_74 => ?_)
    · have c_74 : hs ≤ d := (nI_leI (by omega) (by omega)).mp c_74
      exact absurd c_74 (by omega)
    · have c_74 : ¬ (hs ≤ d) := fun h9 => c_74 ((nI_leI (by omega) (by omega)).mpr h9)
      refine lv_aload_n hx hb d_BlockDeskModel_record_77 rfl (lv_at hl 1 rfl) ?_
      refine va_get (D := (dC, dI)) (ci := 1) (v := .ref b3) (C := R_BlockDeskModel) (T := F_BlockDeskModel) (N := 13) hx hb hts hin1 hown hK hP 0 rfl rfl 10 (by decide) (hts (.fieldLink R_BlockDeskModel 24 "BlockDeskModel" "bytes" "[I") (by decide +kernel)) (fun _ h9 => h9) rfl d_BlockDeskModel_record_78 ?_
      refine lv_aload_n hx hb d_BlockDeskModel_record_81 rfl (lv_at hl 1 rfl) ?_
      refine va_get (D := (dC, dI)) (ci := 1) (v := .ref b4) (C := R_BlockDeskModel) (T := F_BlockDeskModel) (N := 13) hx hb hts hin1 hown hK hP 0 rfl rfl 11 (by decide) (hts (.fieldLink R_BlockDeskModel 27 "BlockDeskModel" "starts" "[I") (by decide +kernel)) (fun _ h9 => h9) rfl d_BlockDeskModel_record_82 ?_
      refine lv_aload_n hx hb d_BlockDeskModel_record_85 rfl (lv_at hl 1 rfl) ?_
      refine va_get (D := (dC, dI)) (ci := 1) (v := .int (nI rc)) (C := R_BlockDeskModel) (T := F_BlockDeskModel) (N := 13) hx hb hts hin1 hown hK hP 0 rfl rfl 12 (by decide) (hts (.fieldLink R_BlockDeskModel 52 "BlockDeskModel" "records" "I") (by decide +kernel)) (fun _ h9 => h9) rfl d_BlockDeskModel_record_86 ?_
      refine va_iald hx hb hK hP 3 2 rfl rfl (vp_in_nI (by omega) (by omega)) d_BlockDeskModel_record_89 ?_
      refine xq_top (nI ba) (by rw [nI_clamp (by omega)]; exact hba) ?_
      refine lv_iload_n hx hb d_BlockDeskModel_record_90 rfl (lv_at hl 0 rfl) ?_
      refine lv_iadd hx hb d_BlockDeskModel_record_91 ?_
      refine xq_top (nI (ba + d)) (nI_add _ _) ?_
      refine lv_aload_n hx hb d_BlockDeskModel_record_92 rfl (lv_at hl 1 rfl) ?_
      refine va_get (D := (dC, dI)) (ci := 1) (v := .ref b1) (C := R_BlockDeskModel) (T := F_BlockDeskModel) (N := 13) hx hb hts hin1 hown hK hP 0 rfl rfl 6 (by decide) (hts (.fieldLink R_BlockDeskModel 17 "BlockDeskModel" "hand" "[I") (by decide +kernel)) (fun _ h9 => h9) rfl d_BlockDeskModel_record_93 ?_
      refine lv_iload_n hx hb d_BlockDeskModel_record_96 rfl (lv_at hl 0 rfl) ?_
      refine va_iald hx hb hK hP 1 0 rfl rfl (vp_in_nI (by omega) (by omega)) d_BlockDeskModel_record_97 ?_
      refine xq_top (g1 d) (by rw [nI_clamp (by omega)]) ?_
      refine va_iast hx hb hK hP hD hS 2 1 rfl rfl (vp_in_nI (by omega) (by omega)) d_BlockDeskModel_record_98 (fun H locs hP hD hS => ?_)
      rw [nI_clamp (n := ba + d) (by omega)] at hP hD
      have hP : va_P (dC, dI) classes [(b0, .inr (1, [.int (nI N), .int up, .int ch, .int wr, .int (nI bg), .int (nI en), .ref b1, .int (nI hs), .ref b2, .int (nI ss), .ref b3, .ref b4, .int (nI rc)])), (b1, .inl (o1, 8000, .inl g1)), (b3, .inl (o3, 16000, .inl (upd f (ba + d) (g1 d)))), (b4, .inl (o4, 4001, .inl g4))] H := hP
      have hD : va_D A [(b0, .inr (1, [.int (nI N), .int up, .int ch, .int wr, .int (nI bg), .int (nI en), .ref b1, .int (nI hs), .ref b2, .int (nI ss), .ref b3, .ref b4, .int (nI rc)])), (b1, .inl (o1, 8000, .inl g1)), (b3, .inl (o3, 16000, .inl (upd f (ba + d) (g1 d)))), (b4, .inl (o4, 4001, .inl g4))] := hD
      refine lv_iinc (v := nI (d + 1)) (lv' := [(2, .int (nI (d + 1))), (0, .ref b0), (1, .int (nI la))]) hx hb d_BlockDeskModel_record_99 hl (k := 0) rfl (show nI d + nI 1 = nI (d + 1) from nI_add _ _) (by decide) rfl (fun ls hl => ?_)
      refine lv_goto (tgt := 69) hx hb d_BlockDeskModel_record_102 (by decide) ?_
      exact ih (d + 1) _ _ _ (by omega) (zq_app_s hI rfl) (hP.sub [0, 1, 2, 3] rfl) (hD.sub [0, 1, 2, 3] (by decide) rfl) hS ls (lv_sub hl [0, 1, 2] rfl)
set_option maxHeartbeats 4000000 in
set_option maxRecDepth 100000 in
theorem c_BlockDeskModel_record (l : Launch) (dC : Nat → ClassId) (dI : Nat → Nat → Nat) (sz : Nat) (b0 : Nat) (b1 : Nat) (b2 : Nat) (b3 : Nat) (b4 : Nat) (N : Nat) (rc : Nat) (bg : Nat) (ss : Nat) (hs : Nat) (up : Int32) (ch : Int32) (wr : Int32) (o1 : ClassId) (o3 : ClassId) (o4 : ClassId) (tu : Nat) (ba : Nat) (qq : Nat) (g1 : Nat → Int32) (g3 : Nat → Int32) (g4 : Nat → Int32) (hch : zq_chok ch) (hN : N ≤ 32) (hba : g4 rc = nI ba) (hbt : ba ≤ tu) (htb : tu ≤ 16000) (h4 : 4 * rc ≤ tu) (hhs : hs ≤ 8000) (hbg : bg = 500 * qq) (hbb : bg ≤ 100000000) : Met l y_BlockDeskModel_record w_BlockDeskModel_record ({ frames := 1, cells := 0, slots := 0, locals := 22 }) (va_Pc [.ref b0] (fun U => U.heap.size = sz ∧ va_P (dC, dI) classes [(b0, .inr (1, [.int (nI N), .int up, .int ch, .int wr, .int (nI bg), .int (nI (bg + tu)), .ref b1, .int (nI hs), .ref b2, .int (nI ss), .ref b3, .ref b4, .int (nI rc)])), (b1, .inl (o1, 8000, .inl g1)), (b3, .inl (o3, 16000, .inl g3)), (b4, .inl (o4, 4001, .inl g4))] U.heap ∧ va_K (dC, dI) classes [(o1, .int), (o3, .int), (o4, .int)] U ∧ va_D (fun _ => True) [(b0, .inr (1, [.int (nI N), .int up, .int ch, .int wr, .int (nI bg), .int (nI (bg + tu)), .ref b1, .int (nI hs), .ref b2, .int (nI ss), .ref b3, .ref b4, .int (nI rc)])), (b1, .inl (o1, 8000, .inl g1)), (b3, .inl (o3, 16000, .inl g3)), (b4, .inl (o4, 4001, .inl g4))])) (va_Qi (fun (r : Int32) (u : Nat × Nat × Int32 × Nat × Int32 × Int32 × (Nat → Int32) × (Nat → Int32)) => ((up = 0 ∨ 500 * N < tu + 4 + hs) ∧ r = nI 0 ∧ u = (rc, bg + tu, up, hs, ch, wr, g3, g4)) ∨ (¬ up = 0 ∧ tu + 4 + hs ≤ 500 * N ∧ r = nI 2 ∧ ∃ (up1 : Int32) (hs1 : Nat) (ch1 wr1 : Int32), (nI 0, up1, hs1, ch1, wr1) = zq_wb up hs ch wr (nI ((tu + 4 + hs - 1) / 500 - (tu / 500) + 1)) ∧ u = (rc, bg + tu, up1, hs1, ch1, wr1, g3, g4)) ∨ (¬ up = 0 ∧ tu + 4 + hs ≤ 500 * N ∧ r = nI 1 ∧ ∃ (up1 ch1 wr1 : Int32) (fx : Nat → Int32), (nI 1, up1, hs, ch1, wr1) = zq_wb up hs ch wr (nI ((tu + 4 + hs - 1) / 500 - (tu / 500) + 1)) ∧ zq_app g3 fx (ba) hs g1 ∧ u = (rc + 1, bg + (tu + 4 + hs), up1, 0, ch1, wr1, fx, upd g4 (rc + 1) (nI (ba + hs))))) (fun (u : Nat × Nat × Int32 × Nat × Int32 × Int32 × (Nat → Int32) × (Nat → Int32)) (t : State) => match u with | (rc', en', up', hs', ch', wr', f', f2') => va_P (dC, dI) classes [(b0, .inr (1, [.int (nI N), .int up', .int ch', .int wr', .int (nI bg), .int (nI en'), .ref b1, .int (nI hs'), .ref b2, .int (nI ss), .ref b3, .ref b4, .int (nI rc')])), (b1, .inl (o1, 8000, .inl g1)), (b3, .inl (o3, 16000, .inl f')), (b4, .inl (o4, 4001, .inl f2'))] t.heap ∧ va_K (dC, dI) classes [(o1, .int), (o3, .int), (o4, .int)] t ∧ va_D (va_A [(b0, .inr (1, [.int (nI N), .int up, .int ch, .int wr, .int (nI bg), .int (nI (bg + tu)), .ref b1, .int (nI hs), .ref b2, .int (nI ss), .ref b3, .ref b4, .int (nI rc)])), (b1, .inl (o1, 8000, .inl g1)), (b3, .inl (o3, 16000, .inl g3)), (b4, .inl (o4, 4001, .inl g4))] sz) [(b0, .inr (1, [.int (nI N), .int up', .int ch', .int wr', .int (nI bg), .int (nI en'), .ref b1, .int (nI hs'), .ref b2, .int (nI ss), .ref b3, .ref b4, .int (nI rc')])), (b1, .inl (o1, 8000, .inl g1)), (b3, .inl (o3, 16000, .inl f')), (b4, .inl (o4, 4001, .inl f2'))]) (va_A [(b0, .inr (1, [.int (nI N), .int up, .int ch, .int wr, .int (nI bg), .int (nI (bg + tu)), .ref b1, .int (nI hs), .ref b2, .int (nI ss), .ref b3, .ref b4, .int (nI rc)])), (b1, .inl (o1, 8000, .inl g1)), (b3, .inl (o3, 16000, .inl g3)), (b4, .inl (o4, 4001, .inl g4))] sz)) 0 0 (va_A [(b0, .inr (1, [.int (nI N), .int up, .int ch, .int wr, .int (nI bg), .int (nI (bg + tu)), .ref b1, .int (nI hs), .ref b2, .int (nI ss), .ref b3, .ref b4, .int (nI rc)])), (b1, .inl (o1, 8000, .inl g1)), (b3, .inl (o3, 16000, .inl g3)), (b4, .inl (o4, 4001, .inl g4))] sz) := by
  refine Met.ofW (cc := b_BlockDeskModel_record) (maxL := 3) (ret := (some .int)) (by decide) rfl ?_
  intro p e s m args below meth c s₁ B hml hv
  obtain ⟨rfl, hsz, hP, hK, hD0⟩ := hv
  have hx := B.exec
  have hb := B.bytes
  have hr := B.returns
  have hts := atoms_spec (ws := w_BlockDeskModel_record) B.pre
  have hown : s.vm.findClass R_BlockDeskModel = some m.cls := findClass_of_methodNamed B.named
  have hlocks := B.notSynchronized
  subst hsz
  have hD := hD0.self (sz := s.heap.size)
  generalize hAe : va_A [(b0, .inr (1, [.int (nI N), .int up, .int ch, .int wr, .int (nI bg), .int (nI (bg + tu)), .ref b1, .int (nI hs), .ref b2, .int (nI ss), .ref b3, .ref b4, .int (nI rc)])), (b1, .inl (o1, 8000, .inl g1)), (b3, .inl (o3, 16000, .inl g3)), (b4, .inl (o4, 4001, .inl g4))] s.heap.size = A at hD ⊢
  have hA : ∀ q : Nat, s.heap.size ≤ q → A q := fun q h => by rw [← hAe]; exact Or.inr h
  have hS : va_S A s.heap s.heap [] := va_S.rf
  have hP : va_P (dC, dI) classes [(b0, .inr (1, [.int (nI N), .int up, .int ch, .int wr, .int (nI bg), .int (nI (bg + tu)), .ref b1, .int (nI hs), .ref b2, .int (nI ss), .ref b3, .ref b4, .int (nI rc)])), (b1, .inl (o1, 8000, .inl g1)), (b3, .inl (o3, 16000, .inl g3)), (b4, .inl (o4, 4001, .inl g4))] s.heap := hP
  have hin1 : ∀ w ∈ u_ws R_BlockDeskModel F_BlockDeskModel 13, w ∈ w_BlockDeskModel_record := by decide +kernel
  have hl := lv_entry ([.ref b0]) (n := 3) (Nat.le_of_ble_eq_true rfl)
  rw [lg_entry_eq]
  generalize (lg_sl ([.ref b0]) ++ List.replicate (3 - (lg_sl ([.ref b0])).length) Slot.unset).toArray = ls at hl ⊢
  have hl : lv_has ls 3 [(0, .ref b0)] := hl
  refine lv_aload_n hx hb d_BlockDeskModel_record_0 rfl (lv_at hl 0 rfl) ?_
  refine va_get (D := (dC, dI)) (ci := 1) (v := .int (nI (bg + tu))) (C := R_BlockDeskModel) (T := F_BlockDeskModel) (N := 13) hx hb hts hin1 hown hK hP 0 rfl rfl 5 (by decide) (hts (.fieldLink R_BlockDeskModel 43 "BlockDeskModel" "end" "I") (by decide +kernel)) (fun _ h9 => h9) rfl d_BlockDeskModel_record_1 ?_
  refine lv_iconst (v := nI 3) hx hb d_BlockDeskModel_record_4 (by decide +kernel) ?_
  refine lv_iadd hx hb d_BlockDeskModel_record_5 ?_
  refine xq_top (nI (bg + tu + 3)) (nI_add _ _) ?_
  refine lv_aload_n hx hb d_BlockDeskModel_record_6 rfl (lv_at hl 0 rfl) ?_
  refine va_get (D := (dC, dI)) (ci := 1) (v := .int (nI hs)) (C := R_BlockDeskModel) (T := F_BlockDeskModel) (N := 13) hx hb hts hin1 hown hK hP 0 rfl rfl 7 (by decide) (hts (.fieldLink R_BlockDeskModel 33 "BlockDeskModel" "inHand" "I") (by decide +kernel)) (fun _ h9 => h9) rfl d_BlockDeskModel_record_7 ?_
  refine lv_iadd hx hb d_BlockDeskModel_record_10 ?_
  refine xq_top (nI (bg + tu + 3 + hs)) (nI_add _ _) ?_
  refine lv_istore_n (lv' := [(1, .int (nI (bg + tu + 3 + hs))), (0, .ref b0)]) hx hb d_BlockDeskModel_record_11 rfl hl (by decide) rfl (fun ls hl => ?_)
  refine lv_aload_n hx hb d_BlockDeskModel_record_12 rfl (lv_at hl 1 rfl) ?_
  refine va_get (D := (dC, dI)) (ci := 1) (v := .int up) (C := R_BlockDeskModel) (T := F_BlockDeskModel) (N := 13) hx hb hts hin1 hown hK hP 0 rfl rfl 1 (by decide) (hts (.fieldLink R_BlockDeskModel 7 "BlockDeskModel" "up" "Z") (by decide +kernel)) (fun _ h9 => h9) rfl d_BlockDeskModel_record_13 ?_
  refine lv_if_eq (tgt := 40) hx hb d_BlockDeskModel_record_16 (by decide) (fun c_16 => ?_) (fun c_16 => ?_)
  · refine lv_iconst (v := nI 0) hx hb d_BlockDeskModel_record_40 (by decide +kernel) ?_
    have hP9 := hP.sub (ws' := [(b0, .inr (1, [.int (nI N), .int up, .int ch, .int wr, .int (nI bg), .int (nI (bg + tu)), .ref b1, .int (nI hs), .ref b2, .int (nI ss), .ref b3, .ref b4, .int (nI rc)])), (b1, .inl (o1, 8000, .inl g1)), (b3, .inl (o3, 16000, .inl g3)), (b4, .inl (o4, 4001, .inl g4))]) [0, 1, 2, 3] rfl
    have hD9 := hD.sub (ws' := [(b0, .inr (1, [.int (nI N), .int up, .int ch, .int wr, .int (nI bg), .int (nI (bg + tu)), .ref b1, .int (nI hs), .ref b2, .int (nI ss), .ref b3, .ref b4, .int (nI rc)])), (b1, .inl (o1, 8000, .inl g1)), (b3, .inl (o3, 16000, .inl g3)), (b4, .inl (o4, 4001, .inl g4))]) [0, 1, 2, 3] (by decide) rfl
    have hK9 := hK.sub (tys' := [(o1, .int), (o3, .int), (o4, .int)]) [0, 1, 2] rfl
    exact W.iret (v := nI 0) hx hb hr (fun t ht hW => ⟨⟨nI 0, (rc, bg + tu, up, hs, ch, wr, g3, g4), rfl, Or.inl ⟨by first | exact Or.inl c_16 | exact Or.inr (by omega), rfl, rfl⟩, by rw [ht]; exact hP9, va_K.moved hW.alike hK9, hD9⟩, hS.F ht⟩) hS.2.2 d_BlockDeskModel_record_41
  · refine lv_iload_n hx hb d_BlockDeskModel_record_19 rfl (lv_at hl 0 rfl) ?_
    refine lv_sipush (v := nI 500) hx hb d_BlockDeskModel_record_20 (by decide +kernel) ?_
    refine lv_idiv hx hb d_BlockDeskModel_record_23 (by decide +kernel) ?_
    refine xq_top (nI ((bg + tu + 3 + hs) / 500)) (pk_div (by omega) (by omega) (by omega)) ?_
    refine lv_aload_n hx hb d_BlockDeskModel_record_24 rfl (lv_at hl 1 rfl) ?_
    refine va_get (D := (dC, dI)) (ci := 1) (v := .int (nI bg)) (C := R_BlockDeskModel) (T := F_BlockDeskModel) (N := 13) hx hb hts hin1 hown hK hP 0 rfl rfl 4 (by decide) (hts (.fieldLink R_BlockDeskModel 46 "BlockDeskModel" "begin" "I") (by decide +kernel)) (fun _ h9 => h9) rfl d_BlockDeskModel_record_25 ?_
    refine lv_sipush (v := nI 500) hx hb d_BlockDeskModel_record_28 (by decide +kernel) ?_
    refine lv_idiv hx hb d_BlockDeskModel_record_31 (by decide +kernel) ?_
    refine xq_top (nI (bg / 500)) (pk_div (by omega) (by omega) (by omega)) ?_
    refine lv_isub hx hb d_BlockDeskModel_record_32 ?_
    refine xq_top (nI ((bg + tu + 3 + hs) / 500 - (bg / 500))) (pk_sub (by omega)) ?_
    refine lv_aload_n hx hb d_BlockDeskModel_record_33 rfl (lv_at hl 1 rfl) ?_
    refine va_get (D := (dC, dI)) (ci := 1) (v := .int (nI N)) (C := R_BlockDeskModel) (T := F_BlockDeskModel) (N := 13) hx hb hts hin1 hown hK hP 0 rfl rfl 0 (by decide) (hts (.fieldLink R_BlockDeskModel 30 "BlockDeskModel" "blocks" "I") (by decide +kernel)) (fun _ h9 => h9) rfl d_BlockDeskModel_record_34 ?_
    refine lv_icmp_lt (tgt := 42) hx hb d_BlockDeskModel_record_37 (by decide) (fun c_37 => ?_) (fun c_37 => ?_)
    · have c_37 : (bg + tu + 3 + hs) / 500 - (bg / 500) < N := (nI_ltI (by omega) (by omega)).mp c_37
      refine lv_aload_n hx hb d_BlockDeskModel_record_42 rfl (lv_at hl 1 rfl) ?_
      refine lv_iload_n hx hb d_BlockDeskModel_record_43 rfl (lv_at hl 0 rfl) ?_
      refine lv_sipush (v := nI 500) hx hb d_BlockDeskModel_record_44 (by decide +kernel) ?_
      refine lv_idiv hx hb d_BlockDeskModel_record_47 (by decide +kernel) ?_
      refine xq_top (nI ((bg + tu + 3 + hs) / 500)) (pk_div (by omega) (by omega) (by omega)) ?_
      refine lv_aload_n hx hb d_BlockDeskModel_record_48 rfl (lv_at hl 1 rfl) ?_
      refine va_get (D := (dC, dI)) (ci := 1) (v := .int (nI (bg + tu))) (C := R_BlockDeskModel) (T := F_BlockDeskModel) (N := 13) hx hb hts hin1 hown hK hP 0 rfl rfl 5 (by decide) (hts (.fieldLink R_BlockDeskModel 43 "BlockDeskModel" "end" "I") (by decide +kernel)) (fun _ h9 => h9) rfl d_BlockDeskModel_record_49 ?_
      refine lv_sipush (v := nI 500) hx hb d_BlockDeskModel_record_52 (by decide +kernel) ?_
      refine lv_idiv hx hb d_BlockDeskModel_record_55 (by decide +kernel) ?_
      refine xq_top (nI ((bg + tu) / 500)) (pk_div (by omega) (by omega) (by omega)) ?_
      refine lv_isub hx hb d_BlockDeskModel_record_56 ?_
      refine xq_top (nI ((bg + tu + 3 + hs) / 500 - ((bg + tu) / 500))) (pk_sub (by omega)) ?_
      refine lv_iconst (v := nI 1) hx hb d_BlockDeskModel_record_57 (by decide +kernel) ?_
      refine lv_iadd hx hb d_BlockDeskModel_record_58 ?_
      refine xq_top (nI ((bg + tu + 3 + hs) / 500 - ((bg + tu) / 500) + 1)) (nI_add _ _) ?_
      refine xq_top (nI ((tu + 4 + hs - 1) / 500 - (tu / 500) + 1)) (congrArg nI (by omega)) ?_
      have hPc := hP.sub (ws' := [(b0, .inr (1, [.int (nI N), .int up, .int ch, .int wr, .int (nI bg), .int (nI (bg + tu)), .ref b1, .int (nI hs), .ref b2, .int (nI ss), .ref b3, .ref b4, .int (nI rc)]))]) [0] rfl
      have hDc := hD.sub (ws' := [(b0, .inr (1, [.int (nI N), .int up, .int ch, .int wr, .int (nI bg), .int (nI (bg + tu)), .ref b1, .int (nI hs), .ref b2, .int (nI ss), .ref b3, .ref b4, .int (nI rc)]))]) [0] (by decide) rfl
      have hKc := hK.sub (tys' := []) [] rfl
      have hFc := va_free (wc := [(b0, .inr (1, [.int (nI N), .int up, .int ch, .int wr, .int (nI bg), .int (nI (bg + tu)), .ref b1, .int (nI hs), .ref b2, .int (nI ss), .ref b3, .ref b4, .int (nI rc)]))]) hD hS hA [0] rfl
      refine va_calli (va_runV (As := [.int (nI ((tu + 4 + hs - 1) / 500 - (tu / 500) + 1))]) (rest := []) ⟨hx, hb, hml, hown, hts⟩ (c_BlockDeskModel_write l dC dI s.heap.size b0 b1 b2 b3 b4 N rc bg (bg + tu) ss hs up ch wr (nI ((tu + 4 + hs - 1) / 500 - (tu / 500) + 1)) hch) (cwV 1 hts g_BlockDeskModel_record_BlockDeskModel_write rfl rfl rfl (by decide +kernel) ⟨Nat.le_of_ble_eq_true rfl, Nat.le_of_ble_eq_true rfl⟩) ⟨fun a U g mk q => by obtain ⟨q0, q1, qP, qK, qD⟩ := q; exact ⟨q0, q1, qP, va_K.moved (u := U) (U := U.calling g mk a) (Vm.Alike.refl U.vm) qK, qD⟩, va_recv hKc hPc (ci := 1) (q0 := 0) rfl rfl, fun U hU hW => ⟨rfl, by rw [hU], by rw [hU]; exact hPc, va_K.moved hW.alike hKc, hDc.weaken (fun _ _ _ _ => trivial)⟩⟩ rfl rfl hl.1 rfl (lv_room (Nat.le_of_ble_eq_true rfl)) d_BlockDeskModel_record_59 ⟨(Nat.zero_le _), (Nat.zero_le _)⟩) hS (fun q _ h => hFc q h) hFc (fun r_59 u t H1 locs ht hvm hw hB hz1 hk1 hS => ?_)
      obtain ⟨up1, hs1, ch1, wr1⟩ := u
      obtain ⟨hP1, hK1, hD1⟩ := hB
      rw [ht] at hP1
      try dsimp only at hw
      obtain ⟨hP, hD⟩ := va_join (wr := [(b1, .inl (o1, 8000, .inl g1)), (b3, .inl (o3, 16000, .inl g3)), (b4, .inl (o4, 4001, .inl g4))]) (w1 := [(b0, .inr (1, [.int (nI N), .int up1, .int ch1, .int wr1, .int (nI bg), .int (nI (bg + tu)), .ref b1, .int (nI hs1), .ref b2, .int (nI ss), .ref b3, .ref b4, .int (nI rc)]))]) hP hD [0] [1, 2, 3] rfl rfl (by decide) (by decide) hk1 hFc hP1 hD1
      generalize H1 = H at hP hS ⊢
      have hP : va_P (dC, dI) classes [(b1, .inl (o1, 8000, .inl g1)), (b3, .inl (o3, 16000, .inl g3)), (b4, .inl (o4, 4001, .inl g4)), (b0, .inr (1, [.int (nI N), .int up1, .int ch1, .int wr1, .int (nI bg), .int (nI (bg + tu)), .ref b1, .int (nI hs1), .ref b2, .int (nI ss), .ref b3, .ref b4, .int (nI rc)]))] H := hP
      have hD : va_D A [(b1, .inl (o1, 8000, .inl g1)), (b3, .inl (o3, 16000, .inl g3)), (b4, .inl (o4, 4001, .inl g4)), (b0, .inr (1, [.int (nI N), .int up1, .int ch1, .int wr1, .int (nI bg), .int (nI (bg + tu)), .ref b1, .int (nI hs1), .ref b2, .int (nI ss), .ref b3, .ref b4, .int (nI rc)]))] := hD
      rcases zq_wb_split hw with ⟨rfl, hw⟩ | ⟨rfl, hw⟩
      · have h8 : True := trivial
        refine lv_if_ne (tgt := 67) hx hb d_BlockDeskModel_record_62 (by decide) (fun c_62 => ?_) (fun c_62 => ?_)
        · exact absurd rfl c_62
        · refine lv_iconst (v := nI 2) hx hb d_BlockDeskModel_record_65 (by decide +kernel) ?_
          have hP9 := hP.sub (ws' := [(b0, .inr (1, [.int (nI N), .int up1, .int ch1, .int wr1, .int (nI bg), .int (nI (bg + tu)), .ref b1, .int (nI hs1), .ref b2, .int (nI ss), .ref b3, .ref b4, .int (nI rc)])), (b1, .inl (o1, 8000, .inl g1)), (b3, .inl (o3, 16000, .inl g3)), (b4, .inl (o4, 4001, .inl g4))]) [3, 0, 1, 2] rfl
          have hD9 := hD.sub (ws' := [(b0, .inr (1, [.int (nI N), .int up1, .int ch1, .int wr1, .int (nI bg), .int (nI (bg + tu)), .ref b1, .int (nI hs1), .ref b2, .int (nI ss), .ref b3, .ref b4, .int (nI rc)])), (b1, .inl (o1, 8000, .inl g1)), (b3, .inl (o3, 16000, .inl g3)), (b4, .inl (o4, 4001, .inl g4))]) [3, 0, 1, 2] (by decide) rfl
          have hK9 := hK.sub (tys' := [(o1, .int), (o3, .int), (o4, .int)]) [0, 1, 2] rfl
          exact W.iret (v := nI 2) hx hb hr (fun t ht hW => ⟨⟨nI 2, (rc, (bg + tu), up1, hs1, ch1, wr1, g3, g4), rfl, Or.inr (Or.inl ⟨c_16, by omega, rfl, up1, hs1, ch1, wr1, hw, rfl⟩), by rw [ht]; exact hP9, va_K.moved hW.alike hK9, hD9⟩, hS.F ht⟩) hS.2.2 d_BlockDeskModel_record_66
      · have h8 : True := trivial
        have e9 : hs = hs1 := by rcases zq_wb_r hw with ⟨q9, -⟩ | ⟨-, -, q9⟩; exact absurd q9.symm zq_01; exact q9.symm
        subst e9
        have hP : va_P (dC, dI) classes [(b1, .inl (o1, 8000, .inl g1)), (b3, .inl (o3, 16000, .inl g3)), (b4, .inl (o4, 4001, .inl g4)), (b0, .inr (1, [.int (nI N), .int up1, .int ch1, .int wr1, .int (nI bg), .int (nI (bg + tu)), .ref b1, .int (nI hs), .ref b2, .int (nI ss), .ref b3, .ref b4, .int (nI rc)]))] H := hP
        have hD : va_D A [(b1, .inl (o1, 8000, .inl g1)), (b3, .inl (o3, 16000, .inl g3)), (b4, .inl (o4, 4001, .inl g4)), (b0, .inr (1, [.int (nI N), .int up1, .int ch1, .int wr1, .int (nI bg), .int (nI (bg + tu)), .ref b1, .int (nI hs), .ref b2, .int (nI ss), .ref b3, .ref b4, .int (nI rc)]))] := hD
        refine lv_if_ne (tgt := 67) hx hb d_BlockDeskModel_record_62 (by decide) (fun c_62 => ?_) (fun c_62 => ?_)
        · refine lv_iconst (v := nI 0) hx hb d_BlockDeskModel_record_67 (by decide +kernel) ?_
          refine lv_istore_n (lv' := [(2, .int (nI 0)), (1, .int (nI (bg + tu + 3 + hs))), (0, .ref b0)]) hx hb d_BlockDeskModel_record_68 rfl hl (by decide) rfl (fun ls hl => ?_)
          refine lp_M_rec (l := l) (meth := meth) hx hb hml hts hown hA b0 b1 b2 b3 b4 N rc bg (bg + tu) ss hs ba (bg + tu + 3 + hs) up1 ch1 wr1 o1 o3 o4 g1 g3 g4 hba (by omega) hhs (by omega) hK (fun f H locs hI hP hD hS ls hl => ?_) hs 0 g3 _ _ (by omega) zq_app_0 (hP.sub [3, 0, 1, 2] rfl) (hD.sub [3, 0, 1, 2] (by decide) rfl) hS ls (lv_sub hl [0, 2, 1] rfl)
          refine lv_aload_n hx hb d_BlockDeskModel_record_105 rfl (lv_at hl 1 rfl) ?_
          refine va_get (D := (dC, dI)) (ci := 1) (v := .ref b4) (C := R_BlockDeskModel) (T := F_BlockDeskModel) (N := 13) hx hb hts hin1 hown hK hP 0 rfl rfl 11 (by decide) (hts (.fieldLink R_BlockDeskModel 27 "BlockDeskModel" "starts" "[I") (by decide +kernel)) (fun _ h9 => h9) rfl d_BlockDeskModel_record_106 ?_
          refine lv_aload_n hx hb d_BlockDeskModel_record_109 rfl (lv_at hl 1 rfl) ?_
          refine va_get (D := (dC, dI)) (ci := 1) (v := .int (nI rc)) (C := R_BlockDeskModel) (T := F_BlockDeskModel) (N := 13) hx hb hts hin1 hown hK hP 0 rfl rfl 12 (by decide) (hts (.fieldLink R_BlockDeskModel 52 "BlockDeskModel" "records" "I") (by decide +kernel)) (fun _ h9 => h9) rfl d_BlockDeskModel_record_110 ?_
          refine lv_iconst (v := nI 1) hx hb d_BlockDeskModel_record_113 (by decide +kernel) ?_
          refine lv_iadd hx hb d_BlockDeskModel_record_114 ?_
          refine xq_top (nI (rc + 1)) (nI_add _ _) ?_
          refine lv_aload_n hx hb d_BlockDeskModel_record_115 rfl (lv_at hl 1 rfl) ?_
          refine va_get (D := (dC, dI)) (ci := 1) (v := .ref b4) (C := R_BlockDeskModel) (T := F_BlockDeskModel) (N := 13) hx hb hts hin1 hown hK hP 0 rfl rfl 11 (by decide) (hts (.fieldLink R_BlockDeskModel 27 "BlockDeskModel" "starts" "[I") (by decide +kernel)) (fun _ h9 => h9) rfl d_BlockDeskModel_record_116 ?_
          refine lv_aload_n hx hb d_BlockDeskModel_record_119 rfl (lv_at hl 1 rfl) ?_
          refine va_get (D := (dC, dI)) (ci := 1) (v := .int (nI rc)) (C := R_BlockDeskModel) (T := F_BlockDeskModel) (N := 13) hx hb hts hin1 hown hK hP 0 rfl rfl 12 (by decide) (hts (.fieldLink R_BlockDeskModel 52 "BlockDeskModel" "records" "I") (by decide +kernel)) (fun _ h9 => h9) rfl d_BlockDeskModel_record_120 ?_
          refine va_iald hx hb hK hP 3 2 rfl rfl (vp_in_nI (by omega) (by omega)) d_BlockDeskModel_record_123 ?_
          refine xq_top (nI ba) (by rw [nI_clamp (by omega)]; exact hba) ?_
          refine lv_aload_n hx hb d_BlockDeskModel_record_124 rfl (lv_at hl 1 rfl) ?_
          refine va_get (D := (dC, dI)) (ci := 1) (v := .int (nI hs)) (C := R_BlockDeskModel) (T := F_BlockDeskModel) (N := 13) hx hb hts hin1 hown hK hP 0 rfl rfl 7 (by decide) (hts (.fieldLink R_BlockDeskModel 33 "BlockDeskModel" "inHand" "I") (by decide +kernel)) (fun _ h9 => h9) rfl d_BlockDeskModel_record_125 ?_
          refine lv_iadd hx hb d_BlockDeskModel_record_128 ?_
          refine xq_top (nI (ba + hs)) (nI_add _ _) ?_
          refine va_iast hx hb hK hP hD hS 3 2 rfl rfl (vp_in_nI (by omega) (by omega)) d_BlockDeskModel_record_129 (fun H locs hP hD hS => ?_)
          rw [nI_clamp (n := rc + 1) (by omega)] at hP hD
          have hP : va_P (dC, dI) classes [(b0, .inr (1, [.int (nI N), .int up1, .int ch1, .int wr1, .int (nI bg), .int (nI (bg + tu)), .ref b1, .int (nI hs), .ref b2, .int (nI ss), .ref b3, .ref b4, .int (nI rc)])), (b1, .inl (o1, 8000, .inl g1)), (b3, .inl (o3, 16000, .inl f)), (b4, .inl (o4, 4001, .inl (upd g4 (rc + 1) (nI (ba + hs)))))] H := hP
          have hD : va_D A [(b0, .inr (1, [.int (nI N), .int up1, .int ch1, .int wr1, .int (nI bg), .int (nI (bg + tu)), .ref b1, .int (nI hs), .ref b2, .int (nI ss), .ref b3, .ref b4, .int (nI rc)])), (b1, .inl (o1, 8000, .inl g1)), (b3, .inl (o3, 16000, .inl f)), (b4, .inl (o4, 4001, .inl (upd g4 (rc + 1) (nI (ba + hs)))))] := hD
          refine lv_aload_n hx hb d_BlockDeskModel_record_130 rfl (lv_at hl 1 rfl) ?_
          refine lv_aload_n hx hb d_BlockDeskModel_record_131 rfl (lv_at hl 1 rfl) ?_
          refine va_get (D := (dC, dI)) (ci := 1) (v := .int (nI rc)) (C := R_BlockDeskModel) (T := F_BlockDeskModel) (N := 13) hx hb hts hin1 hown hK hP 0 rfl rfl 12 (by decide) (hts (.fieldLink R_BlockDeskModel 52 "BlockDeskModel" "records" "I") (by decide +kernel)) (fun _ h9 => h9) rfl d_BlockDeskModel_record_132 ?_
          refine lv_iconst (v := nI 1) hx hb d_BlockDeskModel_record_135 (by decide +kernel) ?_
          refine lv_iadd hx hb d_BlockDeskModel_record_136 ?_
          refine xq_top (nI (rc + 1)) (nI_add _ _) ?_
          refine va_put (D := (dC, dI)) (ci := 1) (v := .int (nI (rc + 1))) (ty := .int) (C := R_BlockDeskModel) (T := F_BlockDeskModel) (N := 13) hx hb hts hin1 t_BlockDeskModel t_BlockDeskModel_ok n_BlockDeskModel hown hK hP hD hS 0 rfl rfl 12 (by decide) (hts (.fieldLink R_BlockDeskModel 52 "BlockDeskModel" "records" "I") (by decide +kernel)) (fun _ h9 => h9) rfl (by decide +kernel) rfl rfl (Nat.le_of_ble_eq_true rfl) d_BlockDeskModel_record_137 (fun H locs hP hD hS => ?_)
          have hP : va_P (dC, dI) classes [(b0, .inr (1, [.int (nI N), .int up1, .int ch1, .int wr1, .int (nI bg), .int (nI (bg + tu)), .ref b1, .int (nI hs), .ref b2, .int (nI ss), .ref b3, .ref b4, .int (nI (rc + 1))])), (b1, .inl (o1, 8000, .inl g1)), (b3, .inl (o3, 16000, .inl f)), (b4, .inl (o4, 4001, .inl (upd g4 (rc + 1) (nI (ba + hs)))))] H := hP
          have hD : va_D A [(b0, .inr (1, [.int (nI N), .int up1, .int ch1, .int wr1, .int (nI bg), .int (nI (bg + tu)), .ref b1, .int (nI hs), .ref b2, .int (nI ss), .ref b3, .ref b4, .int (nI (rc + 1))])), (b1, .inl (o1, 8000, .inl g1)), (b3, .inl (o3, 16000, .inl f)), (b4, .inl (o4, 4001, .inl (upd g4 (rc + 1) (nI (ba + hs)))))] := hD
          refine lv_aload_n hx hb d_BlockDeskModel_record_140 rfl (lv_at hl 1 rfl) ?_
          refine lv_iload_n hx hb d_BlockDeskModel_record_141 rfl (lv_at hl 2 rfl) ?_
          refine lv_iconst (v := nI 1) hx hb d_BlockDeskModel_record_142 (by decide +kernel) ?_
          refine lv_iadd hx hb d_BlockDeskModel_record_143 ?_
          refine xq_top (nI (bg + tu + 3 + hs + 1)) (nI_add _ _) ?_
          refine xq_top (nI (bg + (tu + 4 + hs))) (congrArg nI (by omega)) ?_
          refine va_put (D := (dC, dI)) (ci := 1) (v := .int (nI (bg + (tu + 4 + hs)))) (ty := .int) (C := R_BlockDeskModel) (T := F_BlockDeskModel) (N := 13) hx hb hts hin1 t_BlockDeskModel t_BlockDeskModel_ok n_BlockDeskModel hown hK hP hD hS 0 rfl rfl 5 (by decide) (hts (.fieldLink R_BlockDeskModel 43 "BlockDeskModel" "end" "I") (by decide +kernel)) (fun _ h9 => h9) rfl (by decide +kernel) rfl rfl (Nat.le_of_ble_eq_true rfl) d_BlockDeskModel_record_144 (fun H locs hP hD hS => ?_)
          have hP : va_P (dC, dI) classes [(b0, .inr (1, [.int (nI N), .int up1, .int ch1, .int wr1, .int (nI bg), .int (nI (bg + (tu + 4 + hs))), .ref b1, .int (nI hs), .ref b2, .int (nI ss), .ref b3, .ref b4, .int (nI (rc + 1))])), (b1, .inl (o1, 8000, .inl g1)), (b3, .inl (o3, 16000, .inl f)), (b4, .inl (o4, 4001, .inl (upd g4 (rc + 1) (nI (ba + hs)))))] H := hP
          have hD : va_D A [(b0, .inr (1, [.int (nI N), .int up1, .int ch1, .int wr1, .int (nI bg), .int (nI (bg + (tu + 4 + hs))), .ref b1, .int (nI hs), .ref b2, .int (nI ss), .ref b3, .ref b4, .int (nI (rc + 1))])), (b1, .inl (o1, 8000, .inl g1)), (b3, .inl (o3, 16000, .inl f)), (b4, .inl (o4, 4001, .inl (upd g4 (rc + 1) (nI (ba + hs)))))] := hD
          refine lv_aload_n hx hb d_BlockDeskModel_record_147 rfl (lv_at hl 1 rfl) ?_
          refine lv_iconst (v := nI 0) hx hb d_BlockDeskModel_record_148 (by decide +kernel) ?_
          refine va_put (D := (dC, dI)) (ci := 1) (v := .int (nI 0)) (ty := .int) (C := R_BlockDeskModel) (T := F_BlockDeskModel) (N := 13) hx hb hts hin1 t_BlockDeskModel t_BlockDeskModel_ok n_BlockDeskModel hown hK hP hD hS 0 rfl rfl 7 (by decide) (hts (.fieldLink R_BlockDeskModel 33 "BlockDeskModel" "inHand" "I") (by decide +kernel)) (fun _ h9 => h9) rfl (by decide +kernel) rfl rfl (Nat.le_of_ble_eq_true rfl) d_BlockDeskModel_record_149 (fun H locs hP hD hS => ?_)
          have hP : va_P (dC, dI) classes [(b0, .inr (1, [.int (nI N), .int up1, .int ch1, .int wr1, .int (nI bg), .int (nI (bg + (tu + 4 + hs))), .ref b1, .int (nI 0), .ref b2, .int (nI ss), .ref b3, .ref b4, .int (nI (rc + 1))])), (b1, .inl (o1, 8000, .inl g1)), (b3, .inl (o3, 16000, .inl f)), (b4, .inl (o4, 4001, .inl (upd g4 (rc + 1) (nI (ba + hs)))))] H := hP
          have hD : va_D A [(b0, .inr (1, [.int (nI N), .int up1, .int ch1, .int wr1, .int (nI bg), .int (nI (bg + (tu + 4 + hs))), .ref b1, .int (nI 0), .ref b2, .int (nI ss), .ref b3, .ref b4, .int (nI (rc + 1))])), (b1, .inl (o1, 8000, .inl g1)), (b3, .inl (o3, 16000, .inl f)), (b4, .inl (o4, 4001, .inl (upd g4 (rc + 1) (nI (ba + hs)))))] := hD
          refine lv_iconst (v := nI 1) hx hb d_BlockDeskModel_record_152 (by decide +kernel) ?_
          have hP9 := hP.sub (ws' := [(b0, .inr (1, [.int (nI N), .int up1, .int ch1, .int wr1, .int (nI bg), .int (nI (bg + (tu + 4 + hs))), .ref b1, .int (nI 0), .ref b2, .int (nI ss), .ref b3, .ref b4, .int (nI (rc + 1))])), (b1, .inl (o1, 8000, .inl g1)), (b3, .inl (o3, 16000, .inl f)), (b4, .inl (o4, 4001, .inl (upd g4 (rc + 1) (nI (ba + hs)))))]) [0, 1, 2, 3] rfl
          have hD9 := hD.sub (ws' := [(b0, .inr (1, [.int (nI N), .int up1, .int ch1, .int wr1, .int (nI bg), .int (nI (bg + (tu + 4 + hs))), .ref b1, .int (nI 0), .ref b2, .int (nI ss), .ref b3, .ref b4, .int (nI (rc + 1))])), (b1, .inl (o1, 8000, .inl g1)), (b3, .inl (o3, 16000, .inl f)), (b4, .inl (o4, 4001, .inl (upd g4 (rc + 1) (nI (ba + hs)))))]) [0, 1, 2, 3] (by decide) rfl
          have hK9 := hK.sub (tys' := [(o1, .int), (o3, .int), (o4, .int)]) [0, 1, 2] rfl
          exact W.iret (v := nI 1) hx hb hr (fun t ht hW => ⟨⟨nI 1, (rc + 1, bg + (tu + 4 + hs), up1, 0, ch1, wr1, f, upd g4 (rc + 1) (nI (ba + hs))), rfl, Or.inr (Or.inr ⟨c_16, by omega, rfl, up1, ch1, wr1, f, hw, hI, rfl⟩), by rw [ht]; exact hP9, va_K.moved hW.alike hK9, hD9⟩, hS.F ht⟩) hS.2.2 d_BlockDeskModel_record_153
        · exact absurd c_62 (xq_n0 (by omega) (by omega))
    · have c_37 : ¬ ((bg + tu + 3 + hs) / 500 - (bg / 500) < N) := fun h9 => c_37 ((nI_ltI (by omega) (by omega)).mpr h9)
      refine lv_iconst (v := nI 0) hx hb d_BlockDeskModel_record_40 (by decide +kernel) ?_
      have hP9 := hP.sub (ws' := [(b0, .inr (1, [.int (nI N), .int up, .int ch, .int wr, .int (nI bg), .int (nI (bg + tu)), .ref b1, .int (nI hs), .ref b2, .int (nI ss), .ref b3, .ref b4, .int (nI rc)])), (b1, .inl (o1, 8000, .inl g1)), (b3, .inl (o3, 16000, .inl g3)), (b4, .inl (o4, 4001, .inl g4))]) [0, 1, 2, 3] rfl
      have hD9 := hD.sub (ws' := [(b0, .inr (1, [.int (nI N), .int up, .int ch, .int wr, .int (nI bg), .int (nI (bg + tu)), .ref b1, .int (nI hs), .ref b2, .int (nI ss), .ref b3, .ref b4, .int (nI rc)])), (b1, .inl (o1, 8000, .inl g1)), (b3, .inl (o3, 16000, .inl g3)), (b4, .inl (o4, 4001, .inl g4))]) [0, 1, 2, 3] (by decide) rfl
      have hK9 := hK.sub (tys' := [(o1, .int), (o3, .int), (o4, .int)]) [0, 1, 2] rfl
      exact W.iret (v := nI 0) hx hb hr (fun t ht hW => ⟨⟨nI 0, (rc, bg + tu, up, hs, ch, wr, g3, g4), rfl, Or.inl ⟨by first | exact Or.inl c_16 | exact Or.inr (by omega), rfl, rfl⟩, by rw [ht]; exact hP9, va_K.moved hW.alike hK9, hD9⟩, hS.F ht⟩) hS.2.2 d_BlockDeskModel_record_41
set_option maxHeartbeats 4000000 in
set_option maxRecDepth 100000 in
theorem lp_M_sn {p : Program} {l : Launch} {e : Env} {s : State} {m : MethodId} {args : Array Value} {below : List Frame} {meth : Method} {c : Code} {Q : State → Prop} {A : Nat → Prop} {dC : Nat → ClassId} {dI : Nat → Nat → Nat} (hx : p.tables.exec = Jvm.exec) (hb : c.code = b_BlockDeskModel_snapshot) (hml : c.maxLocals = 2) (hts : ∀ w ∈ w_BlockDeskModel_snapshot, w.before args s = true) (hown : s.vm.findClass R_BlockDeskModel = some m.cls) (hA : ∀ q : Nat, s.heap.size ≤ q → A q) (b0 : Nat) (b1 : Nat) (b2 : Nat) (b3 : Nat) (b4 : Nat) (N : Nat) (rc : Nat) (bg : Nat) (en : Nat) (ss : Nat) (hs : Nat) (up : Int32) (ch : Int32) (wr : Int32) (o1 : ClassId) (o2 : ClassId) (g1 : Nat → Int32) (g2 : Nat → Int32) (hhs : hs ≤ 8000) (hK : va_K (dC, dI) classes [(o1, .int), (o2, .int)] s) (KK : ∀ (f : Nat → Int32) (H : Heap) (locs : List Loc), zq_app g2 f 0 hs g1 → va_P (dC, dI) classes [(b0, .inr (1, [.int (nI N), .int up, .int ch, .int wr, .int (nI bg), .int (nI en), .ref b1, .int (nI hs), .ref b2, .int (nI ss), .ref b3, .ref b4, .int (nI rc)])), (b1, .inl (o1, 8000, .inl g1)), (b2, .inl (o2, 8000, .inl f))] H → va_D A [(b0, .inr (1, [.int (nI N), .int up, .int ch, .int wr, .int (nI bg), .int (nI en), .ref b1, .int (nI hs), .ref b2, .int (nI ss), .ref b3, .ref b4, .int (nI rc)])), (b1, .inl (o1, 8000, .inl g1)), (b2, .inl (o2, 8000, .inl f))] → va_S A s.heap H locs → ∀ ls : Array Slot, lv_has ls 2 [(1, .int (nI hs)), (0, .ref b0)] → W p l e ({ frames := 1, cells := 0, slots := 0, locals := 22 } : Room) s m args below meth c H locs 0 0 Q (F0 m 60 ls [])) : ∀ (n d : Nat) (f : Nat → Int32) (H : Heap) (locs : List Loc), d + n = hs → zq_app g2 f 0 d g1 → va_P (dC, dI) classes [(b0, .inr (1, [.int (nI N), .int up, .int ch, .int wr, .int (nI bg), .int (nI en), .ref b1, .int (nI hs), .ref b2, .int (nI ss), .ref b3, .ref b4, .int (nI rc)])), (b1, .inl (o1, 8000, .inl g1)), (b2, .inl (o2, 8000, .inl f))] H → va_D A [(b0, .inr (1, [.int (nI N), .int up, .int ch, .int wr, .int (nI bg), .int (nI en), .ref b1, .int (nI hs), .ref b2, .int (nI ss), .ref b3, .ref b4, .int (nI rc)])), (b1, .inl (o1, 8000, .inl g1)), (b2, .inl (o2, 8000, .inl f))] → va_S A s.heap H locs → ∀ ls : Array Slot, lv_has ls 2 [(1, .int (nI d)), (0, .ref b0)] → W p l e ({ frames := 1, cells := 0, slots := 0, locals := 22 } : Room) s m args below meth c H locs 0 0 Q (F0 m 34 ls []) := by
  have hin1 : ∀ w ∈ u_ws R_BlockDeskModel F_BlockDeskModel 13, w ∈ w_BlockDeskModel_snapshot := by decide +kernel
  intro n
  induction n with
  | zero =>
    intro d f H locs hdn hI hP hD hS ls hl
    have hdn : hs = d := by omega
    subst hdn
    have hl : lv_has ls 2 [(1, .int (nI hs)), (0, .ref b0)] := hl
    refine lv_iload_n hx hb d_BlockDeskModel_snapshot_34 rfl (lv_at hl 0 rfl) ?_
    refine lv_aload_n hx hb d_BlockDeskModel_snapshot_35 rfl (lv_at hl 1 rfl) ?_
    refine va_get (D := (dC, dI)) (ci := 1) (v := .int (nI hs)) (C := R_BlockDeskModel) (T := F_BlockDeskModel) (N := 13) hx hb hts hin1 hown hK hP 0 rfl rfl 7 (by decide) (hts (.fieldLink R_BlockDeskModel 33 "BlockDeskModel" "inHand" "I") (by decide +kernel)) (fun _ h9 => h9) rfl d_BlockDeskModel_snapshot_36 ?_
    refine lv_icmp_ge (tgt := 60) hx hb d_BlockDeskModel_snapshot_39 (by decide) (fun c_39 => ?_) (fun c_39 => ?_)
    · have c_39 : hs ≤ hs := (nI_leI (by omega) (by omega)).mp c_39
      exact KK f _ _ hI (hP.sub [0, 1, 2] rfl) (hD.sub [0, 1, 2] (by decide) rfl) hS ls (lv_sub hl [0, 1] rfl)
    · have c_39 : ¬ (hs ≤ hs) := fun h9 => c_39 ((nI_leI (by omega) (by omega)).mpr h9)
      exact absurd (by omega) c_39
  | succ n ih =>
    intro d f H locs hdn hI hP hD hS ls hl
    have hl : lv_has ls 2 [(1, .int (nI d)), (0, .ref b0)] := hl
    refine lv_iload_n hx hb d_BlockDeskModel_snapshot_34 rfl (lv_at hl 0 rfl) ?_
    refine lv_aload_n hx hb d_BlockDeskModel_snapshot_35 rfl (lv_at hl 1 rfl) ?_
    refine va_get (D := (dC, dI)) (ci := 1) (v := .int (nI hs)) (C := R_BlockDeskModel) (T := F_BlockDeskModel) (N := 13) hx hb hts hin1 hown hK hP 0 rfl rfl 7 (by decide) (hts (.fieldLink R_BlockDeskModel 33 "BlockDeskModel" "inHand" "I") (by decide +kernel)) (fun _ h9 => h9) rfl d_BlockDeskModel_snapshot_36 ?_
    refine lv_icmp_ge (tgt := 60) hx hb d_BlockDeskModel_snapshot_39 (by decide) (fun c_39 => ?_) (fun c_39 => ?_)
    · have c_39 : hs ≤ d := (nI_leI (by omega) (by omega)).mp c_39
      exact absurd c_39 (by omega)
    · have c_39 : ¬ (hs ≤ d) := fun h9 => c_39 ((nI_leI (by omega) (by omega)).mpr h9)
      refine lv_aload_n hx hb d_BlockDeskModel_snapshot_42 rfl (lv_at hl 1 rfl) ?_
      refine va_get (D := (dC, dI)) (ci := 1) (v := .ref b2) (C := R_BlockDeskModel) (T := F_BlockDeskModel) (N := 13) hx hb hts hin1 hown hK hP 0 rfl rfl 8 (by decide) (hts (.fieldLink R_BlockDeskModel 21 "BlockDeskModel" "shot" "[I") (by decide +kernel)) (fun _ h9 => h9) rfl d_BlockDeskModel_snapshot_43 ?_
      refine lv_iload_n hx hb d_BlockDeskModel_snapshot_46 rfl (lv_at hl 0 rfl) ?_
      refine lv_aload_n hx hb d_BlockDeskModel_snapshot_47 rfl (lv_at hl 1 rfl) ?_
      refine va_get (D := (dC, dI)) (ci := 1) (v := .ref b1) (C := R_BlockDeskModel) (T := F_BlockDeskModel) (N := 13) hx hb hts hin1 hown hK hP 0 rfl rfl 6 (by decide) (hts (.fieldLink R_BlockDeskModel 17 "BlockDeskModel" "hand" "[I") (by decide +kernel)) (fun _ h9 => h9) rfl d_BlockDeskModel_snapshot_48 ?_
      refine lv_iload_n hx hb d_BlockDeskModel_snapshot_51 rfl (lv_at hl 0 rfl) ?_
      refine va_iald hx hb hK hP 1 0 rfl rfl (vp_in_nI (by omega) (by omega)) d_BlockDeskModel_snapshot_52 ?_
      refine xq_top (g1 d) (by rw [nI_clamp (by omega)]) ?_
      refine va_iast hx hb hK hP hD hS 2 1 rfl rfl (vp_in_nI (by omega) (by omega)) d_BlockDeskModel_snapshot_53 (fun H locs hP hD hS => ?_)
      rw [nI_clamp (n := d) (by omega)] at hP hD
      have hP : va_P (dC, dI) classes [(b0, .inr (1, [.int (nI N), .int up, .int ch, .int wr, .int (nI bg), .int (nI en), .ref b1, .int (nI hs), .ref b2, .int (nI ss), .ref b3, .ref b4, .int (nI rc)])), (b1, .inl (o1, 8000, .inl g1)), (b2, .inl (o2, 8000, .inl (upd f d (g1 d))))] H := hP
      have hD : va_D A [(b0, .inr (1, [.int (nI N), .int up, .int ch, .int wr, .int (nI bg), .int (nI en), .ref b1, .int (nI hs), .ref b2, .int (nI ss), .ref b3, .ref b4, .int (nI rc)])), (b1, .inl (o1, 8000, .inl g1)), (b2, .inl (o2, 8000, .inl (upd f d (g1 d))))] := hD
      refine lv_iinc (v := nI (d + 1)) (lv' := [(1, .int (nI (d + 1))), (0, .ref b0)]) hx hb d_BlockDeskModel_snapshot_54 hl (k := 0) rfl (show nI d + nI 1 = nI (d + 1) from nI_add _ _) (by decide) rfl (fun ls hl => ?_)
      refine lv_goto (tgt := 34) hx hb d_BlockDeskModel_snapshot_57 (by decide) ?_
      exact ih (d + 1) _ _ _ (by omega) (by have h9 := zq_app_s (v := g1 d) hI rfl; rw [Nat.zero_add] at h9; exact h9) (hP.sub [0, 1, 2] rfl) (hD.sub [0, 1, 2] (by decide) rfl) hS ls (lv_sub hl [0, 1] rfl)
set_option maxHeartbeats 4000000 in
set_option maxRecDepth 100000 in
theorem c_BlockDeskModel_snapshot (l : Launch) (dC : Nat → ClassId) (dI : Nat → Nat → Nat) (sz : Nat) (b0 : Nat) (b1 : Nat) (b2 : Nat) (b3 : Nat) (b4 : Nat) (N : Nat) (rc : Nat) (bg : Nat) (ss : Nat) (hs : Nat) (up : Int32) (ch : Int32) (wr : Int32) (o1 : ClassId) (o2 : ClassId) (tu : Nat) (qq : Nat) (g1 : Nat → Int32) (g2 : Nat → Int32) (hch : zq_chok ch) (hrb : rc ≤ 4000) (htb : tu ≤ 16000) (h4 : 4 * rc ≤ tu) (h0 : rc = 0 → tu = 0) (hhs : hs ≤ 8000) (hbg : bg = 500 * qq) (hbb : bg ≤ 100000000) : Met l y_BlockDeskModel_snapshot w_BlockDeskModel_snapshot ({ frames := 1, cells := 0, slots := 0, locals := 22 }) (va_Pc [.ref b0] (fun U => U.heap.size = sz ∧ va_P (dC, dI) classes [(b0, .inr (1, [.int (nI N), .int up, .int ch, .int wr, .int (nI bg), .int (nI (bg + tu)), .ref b1, .int (nI hs), .ref b2, .int (nI ss), .ref b3, .ref b4, .int (nI rc)])), (b1, .inl (o1, 8000, .inl g1)), (b2, .inl (o2, 8000, .inl g2))] U.heap ∧ va_K (dC, dI) classes [(o1, .int), (o2, .int)] U ∧ va_D (fun _ => True) [(b0, .inr (1, [.int (nI N), .int up, .int ch, .int wr, .int (nI bg), .int (nI (bg + tu)), .ref b1, .int (nI hs), .ref b2, .int (nI ss), .ref b3, .ref b4, .int (nI rc)])), (b1, .inl (o1, 8000, .inl g1)), (b2, .inl (o2, 8000, .inl g2))])) (va_Qi (fun (r : Int32) (u : Nat × Nat × Nat × Nat × Int32 × Nat × Int32 × Int32 × (Nat → Int32)) => (up = 0 ∧ r = nI 0 ∧ u = (rc, bg, bg + tu, ss, up, hs, ch, wr, g2)) ∨ (¬ up = 0 ∧ r = nI 2 ∧ ∃ (up1 : Int32) (hs1 : Nat) (ch1 wr1 : Int32), (nI 0, up1, hs1, ch1, wr1) = zq_wb up hs ch wr (nI ((hs + 500 - 1) / 500 + 1)) ∧ u = (rc, bg, bg + tu, ss, up1, hs1, ch1, wr1, g2)) ∨ (¬ up = 0 ∧ r = nI 1 ∧ ∃ (up1 ch1 wr1 : Int32) (fx : Nat → Int32), (nI 1, up1, hs, ch1, wr1) = zq_wb up hs ch wr (nI ((hs + 500 - 1) / 500 + 1)) ∧ zq_app g2 fx 0 hs g1 ∧ u = (0, bg + (tu + 500 - 1) / 500 * 500, bg + (tu + 500 - 1) / 500 * 500, hs, up1, 0, ch1, wr1, fx))) (fun (u : Nat × Nat × Nat × Nat × Int32 × Nat × Int32 × Int32 × (Nat → Int32)) (t : State) => match u with | (rc', bg', en', ss', up', hs', ch', wr', f') => va_P (dC, dI) classes [(b0, .inr (1, [.int (nI N), .int up', .int ch', .int wr', .int (nI bg'), .int (nI en'), .ref b1, .int (nI hs'), .ref b2, .int (nI ss'), .ref b3, .ref b4, .int (nI rc')])), (b1, .inl (o1, 8000, .inl g1)), (b2, .inl (o2, 8000, .inl f'))] t.heap ∧ va_K (dC, dI) classes [(o1, .int), (o2, .int)] t ∧ va_D (va_A [(b0, .inr (1, [.int (nI N), .int up, .int ch, .int wr, .int (nI bg), .int (nI (bg + tu)), .ref b1, .int (nI hs), .ref b2, .int (nI ss), .ref b3, .ref b4, .int (nI rc)])), (b1, .inl (o1, 8000, .inl g1)), (b2, .inl (o2, 8000, .inl g2))] sz) [(b0, .inr (1, [.int (nI N), .int up', .int ch', .int wr', .int (nI bg'), .int (nI en'), .ref b1, .int (nI hs'), .ref b2, .int (nI ss'), .ref b3, .ref b4, .int (nI rc')])), (b1, .inl (o1, 8000, .inl g1)), (b2, .inl (o2, 8000, .inl f'))]) (va_A [(b0, .inr (1, [.int (nI N), .int up, .int ch, .int wr, .int (nI bg), .int (nI (bg + tu)), .ref b1, .int (nI hs), .ref b2, .int (nI ss), .ref b3, .ref b4, .int (nI rc)])), (b1, .inl (o1, 8000, .inl g1)), (b2, .inl (o2, 8000, .inl g2))] sz)) 0 0 (va_A [(b0, .inr (1, [.int (nI N), .int up, .int ch, .int wr, .int (nI bg), .int (nI (bg + tu)), .ref b1, .int (nI hs), .ref b2, .int (nI ss), .ref b3, .ref b4, .int (nI rc)])), (b1, .inl (o1, 8000, .inl g1)), (b2, .inl (o2, 8000, .inl g2))] sz) := by
  refine Met.ofW (cc := b_BlockDeskModel_snapshot) (maxL := 2) (ret := (some .int)) (by decide) rfl ?_
  intro p e s m args below meth c s₁ B hml hv
  obtain ⟨rfl, hsz, hP, hK, hD0⟩ := hv
  have hx := B.exec
  have hb := B.bytes
  have hr := B.returns
  have hts := atoms_spec (ws := w_BlockDeskModel_snapshot) B.pre
  have hown : s.vm.findClass R_BlockDeskModel = some m.cls := findClass_of_methodNamed B.named
  have hlocks := B.notSynchronized
  subst hsz
  have hD := hD0.self (sz := s.heap.size)
  generalize hAe : va_A [(b0, .inr (1, [.int (nI N), .int up, .int ch, .int wr, .int (nI bg), .int (nI (bg + tu)), .ref b1, .int (nI hs), .ref b2, .int (nI ss), .ref b3, .ref b4, .int (nI rc)])), (b1, .inl (o1, 8000, .inl g1)), (b2, .inl (o2, 8000, .inl g2))] s.heap.size = A at hD ⊢
  have hA : ∀ q : Nat, s.heap.size ≤ q → A q := fun q h => by rw [← hAe]; exact Or.inr h
  have hS : va_S A s.heap s.heap [] := va_S.rf
  have hP : va_P (dC, dI) classes [(b0, .inr (1, [.int (nI N), .int up, .int ch, .int wr, .int (nI bg), .int (nI (bg + tu)), .ref b1, .int (nI hs), .ref b2, .int (nI ss), .ref b3, .ref b4, .int (nI rc)])), (b1, .inl (o1, 8000, .inl g1)), (b2, .inl (o2, 8000, .inl g2))] s.heap := hP
  have hin1 : ∀ w ∈ u_ws R_BlockDeskModel F_BlockDeskModel 13, w ∈ w_BlockDeskModel_snapshot := by decide +kernel
  have hl := lv_entry ([.ref b0]) (n := 2) (Nat.le_of_ble_eq_true rfl)
  rw [lg_entry_eq]
  generalize (lg_sl ([.ref b0]) ++ List.replicate (2 - (lg_sl ([.ref b0])).length) Slot.unset).toArray = ls at hl ⊢
  have hl : lv_has ls 2 [(0, .ref b0)] := hl
  refine lv_aload_n hx hb d_BlockDeskModel_snapshot_0 rfl (lv_at hl 0 rfl) ?_
  refine va_get (D := (dC, dI)) (ci := 1) (v := .int up) (C := R_BlockDeskModel) (T := F_BlockDeskModel) (N := 13) hx hb hts hin1 hown hK hP 0 rfl rfl 1 (by decide) (hts (.fieldLink R_BlockDeskModel 7 "BlockDeskModel" "up" "Z") (by decide +kernel)) (fun _ h9 => h9) rfl d_BlockDeskModel_snapshot_1 ?_
  refine lv_if_ne (tgt := 9) hx hb d_BlockDeskModel_snapshot_4 (by decide) (fun c_4 => ?_) (fun c_4 => ?_)
  · refine lv_aload_n hx hb d_BlockDeskModel_snapshot_9 rfl (lv_at hl 0 rfl) ?_
    refine lv_aload_n hx hb d_BlockDeskModel_snapshot_10 rfl (lv_at hl 0 rfl) ?_
    refine va_get (D := (dC, dI)) (ci := 1) (v := .int (nI hs)) (C := R_BlockDeskModel) (T := F_BlockDeskModel) (N := 13) hx hb hts hin1 hown hK hP 0 rfl rfl 7 (by decide) (hts (.fieldLink R_BlockDeskModel 33 "BlockDeskModel" "inHand" "I") (by decide +kernel)) (fun _ h9 => h9) rfl d_BlockDeskModel_snapshot_11 ?_
    refine lv_sipush (v := nI 499) hx hb d_BlockDeskModel_snapshot_14 (by decide +kernel) ?_
    refine lv_iadd hx hb d_BlockDeskModel_snapshot_17 ?_
    refine xq_top (nI (hs + 499)) (nI_add _ _) ?_
    refine lv_sipush (v := nI 500) hx hb d_BlockDeskModel_snapshot_18 (by decide +kernel) ?_
    refine lv_idiv hx hb d_BlockDeskModel_snapshot_21 (by decide +kernel) ?_
    refine xq_top (nI ((hs + 499) / 500)) (pk_div (by omega) (by omega) (by omega)) ?_
    refine lv_iconst (v := nI 1) hx hb d_BlockDeskModel_snapshot_22 (by decide +kernel) ?_
    refine lv_iadd hx hb d_BlockDeskModel_snapshot_23 ?_
    refine xq_top (nI ((hs + 499) / 500 + 1)) (nI_add _ _) ?_
    refine xq_top (nI ((hs + 500 - 1) / 500 + 1)) (congrArg nI (by omega)) ?_
    have hPc := hP.sub (ws' := [(b0, .inr (1, [.int (nI N), .int up, .int ch, .int wr, .int (nI bg), .int (nI (bg + tu)), .ref b1, .int (nI hs), .ref b2, .int (nI ss), .ref b3, .ref b4, .int (nI rc)]))]) [0] rfl
    have hDc := hD.sub (ws' := [(b0, .inr (1, [.int (nI N), .int up, .int ch, .int wr, .int (nI bg), .int (nI (bg + tu)), .ref b1, .int (nI hs), .ref b2, .int (nI ss), .ref b3, .ref b4, .int (nI rc)]))]) [0] (by decide) rfl
    have hKc := hK.sub (tys' := []) [] rfl
    have hFc := va_free (wc := [(b0, .inr (1, [.int (nI N), .int up, .int ch, .int wr, .int (nI bg), .int (nI (bg + tu)), .ref b1, .int (nI hs), .ref b2, .int (nI ss), .ref b3, .ref b4, .int (nI rc)]))]) hD hS hA [0] rfl
    refine va_calli (va_runV (As := [.int (nI ((hs + 500 - 1) / 500 + 1))]) (rest := []) ⟨hx, hb, hml, hown, hts⟩ (c_BlockDeskModel_write l dC dI s.heap.size b0 b1 b2 b3 b4 N rc bg (bg + tu) ss hs up ch wr (nI ((hs + 500 - 1) / 500 + 1)) hch) (cwV 1 hts g_BlockDeskModel_snapshot_BlockDeskModel_write rfl rfl rfl (by decide +kernel) ⟨Nat.le_of_ble_eq_true rfl, Nat.le_of_ble_eq_true rfl⟩) ⟨fun a U g mk q => by obtain ⟨q0, q1, qP, qK, qD⟩ := q; exact ⟨q0, q1, qP, va_K.moved (u := U) (U := U.calling g mk a) (Vm.Alike.refl U.vm) qK, qD⟩, va_recv hKc hPc (ci := 1) (q0 := 0) rfl rfl, fun U hU hW => ⟨rfl, by rw [hU], by rw [hU]; exact hPc, va_K.moved hW.alike hKc, hDc.weaken (fun _ _ _ _ => trivial)⟩⟩ rfl rfl hl.1 rfl (lv_room (Nat.le_of_ble_eq_true rfl)) d_BlockDeskModel_snapshot_24 ⟨(Nat.zero_le _), (Nat.zero_le _)⟩) hS (fun q _ h => hFc q h) hFc (fun r_24 u t H1 locs ht hvm hw hB hz1 hk1 hS => ?_)
    obtain ⟨up1, hs1, ch1, wr1⟩ := u
    obtain ⟨hP1, hK1, hD1⟩ := hB
    rw [ht] at hP1
    try dsimp only at hw
    obtain ⟨hP, hD⟩ := va_join (wr := [(b1, .inl (o1, 8000, .inl g1)), (b2, .inl (o2, 8000, .inl g2))]) (w1 := [(b0, .inr (1, [.int (nI N), .int up1, .int ch1, .int wr1, .int (nI bg), .int (nI (bg + tu)), .ref b1, .int (nI hs1), .ref b2, .int (nI ss), .ref b3, .ref b4, .int (nI rc)]))]) hP hD [0] [1, 2] rfl rfl (by decide) (by decide) hk1 hFc hP1 hD1
    generalize H1 = H at hP hS ⊢
    have hP : va_P (dC, dI) classes [(b1, .inl (o1, 8000, .inl g1)), (b2, .inl (o2, 8000, .inl g2)), (b0, .inr (1, [.int (nI N), .int up1, .int ch1, .int wr1, .int (nI bg), .int (nI (bg + tu)), .ref b1, .int (nI hs1), .ref b2, .int (nI ss), .ref b3, .ref b4, .int (nI rc)]))] H := hP
    have hD : va_D A [(b1, .inl (o1, 8000, .inl g1)), (b2, .inl (o2, 8000, .inl g2)), (b0, .inr (1, [.int (nI N), .int up1, .int ch1, .int wr1, .int (nI bg), .int (nI (bg + tu)), .ref b1, .int (nI hs1), .ref b2, .int (nI ss), .ref b3, .ref b4, .int (nI rc)]))] := hD
    rcases zq_wb_split hw with ⟨rfl, hw⟩ | ⟨rfl, hw⟩
    · have h8 : True := trivial
      refine lv_if_ne (tgt := 32) hx hb d_BlockDeskModel_snapshot_27 (by decide) (fun c_27 => ?_) (fun c_27 => ?_)
      · exact absurd rfl c_27
      · refine lv_iconst (v := nI 2) hx hb d_BlockDeskModel_snapshot_30 (by decide +kernel) ?_
        have hP9 := hP.sub (ws' := [(b0, .inr (1, [.int (nI N), .int up1, .int ch1, .int wr1, .int (nI bg), .int (nI (bg + tu)), .ref b1, .int (nI hs1), .ref b2, .int (nI ss), .ref b3, .ref b4, .int (nI rc)])), (b1, .inl (o1, 8000, .inl g1)), (b2, .inl (o2, 8000, .inl g2))]) [2, 0, 1] rfl
        have hD9 := hD.sub (ws' := [(b0, .inr (1, [.int (nI N), .int up1, .int ch1, .int wr1, .int (nI bg), .int (nI (bg + tu)), .ref b1, .int (nI hs1), .ref b2, .int (nI ss), .ref b3, .ref b4, .int (nI rc)])), (b1, .inl (o1, 8000, .inl g1)), (b2, .inl (o2, 8000, .inl g2))]) [2, 0, 1] (by decide) rfl
        have hK9 := hK.sub (tys' := [(o1, .int), (o2, .int)]) [0, 1] rfl
        exact W.iret (v := nI 2) hx hb hr (fun t ht hW => ⟨⟨nI 2, (rc, bg, (bg + tu), ss, up1, hs1, ch1, wr1, g2), rfl, Or.inr (Or.inl ⟨c_4, rfl, up1, hs1, ch1, wr1, hw, rfl⟩), by rw [ht]; exact hP9, va_K.moved hW.alike hK9, hD9⟩, hS.F ht⟩) hS.2.2 d_BlockDeskModel_snapshot_31
    · have h8 : True := trivial
      have e9 : hs = hs1 := by rcases zq_wb_r hw with ⟨q9, -⟩ | ⟨-, -, q9⟩; exact absurd q9.symm zq_01; exact q9.symm
      subst e9
      have hP : va_P (dC, dI) classes [(b1, .inl (o1, 8000, .inl g1)), (b2, .inl (o2, 8000, .inl g2)), (b0, .inr (1, [.int (nI N), .int up1, .int ch1, .int wr1, .int (nI bg), .int (nI (bg + tu)), .ref b1, .int (nI hs), .ref b2, .int (nI ss), .ref b3, .ref b4, .int (nI rc)]))] H := hP
      have hD : va_D A [(b1, .inl (o1, 8000, .inl g1)), (b2, .inl (o2, 8000, .inl g2)), (b0, .inr (1, [.int (nI N), .int up1, .int ch1, .int wr1, .int (nI bg), .int (nI (bg + tu)), .ref b1, .int (nI hs), .ref b2, .int (nI ss), .ref b3, .ref b4, .int (nI rc)]))] := hD
      refine lv_if_ne (tgt := 32) hx hb d_BlockDeskModel_snapshot_27 (by decide) (fun c_27 => ?_) (fun c_27 => ?_)
      · refine lv_iconst (v := nI 0) hx hb d_BlockDeskModel_snapshot_32 (by decide +kernel) ?_
        refine lv_istore_n (lv' := [(1, .int (nI 0)), (0, .ref b0)]) hx hb d_BlockDeskModel_snapshot_33 rfl hl (by decide) rfl (fun ls hl => ?_)
        refine lp_M_sn (l := l) (meth := meth) hx hb hml hts hown hA b0 b1 b2 b3 b4 N rc bg (bg + tu) ss hs up1 ch1 wr1 o1 o2 g1 g2 hhs hK (fun f H locs hI hP hD hS ls hl => ?_) hs 0 g2 _ _ (by omega) zq_app_0 (hP.sub [2, 0, 1] rfl) (hD.sub [2, 0, 1] (by decide) rfl) hS ls (lv_sub hl [0, 1] rfl)
        have h8 : True := trivial
        refine lv_aload_n hx hb d_BlockDeskModel_snapshot_60 rfl (lv_at hl 1 rfl) ?_
        refine lv_aload_n hx hb d_BlockDeskModel_snapshot_61 rfl (lv_at hl 1 rfl) ?_
        refine va_get (D := (dC, dI)) (ci := 1) (v := .int (nI hs)) (C := R_BlockDeskModel) (T := F_BlockDeskModel) (N := 13) hx hb hts hin1 hown hK hP 0 rfl rfl 7 (by decide) (hts (.fieldLink R_BlockDeskModel 33 "BlockDeskModel" "inHand" "I") (by decide +kernel)) (fun _ h9 => h9) rfl d_BlockDeskModel_snapshot_62 ?_
        refine va_put (D := (dC, dI)) (ci := 1) (v := .int (nI hs)) (ty := .int) (C := R_BlockDeskModel) (T := F_BlockDeskModel) (N := 13) hx hb hts hin1 t_BlockDeskModel t_BlockDeskModel_ok n_BlockDeskModel hown hK hP hD hS 0 rfl rfl 9 (by decide) (hts (.fieldLink R_BlockDeskModel 55 "BlockDeskModel" "shotSize" "I") (by decide +kernel)) (fun _ h9 => h9) rfl (by decide +kernel) rfl rfl (Nat.le_of_ble_eq_true rfl) d_BlockDeskModel_snapshot_65 (fun H locs hP hD hS => ?_)
        have hP : va_P (dC, dI) classes [(b0, .inr (1, [.int (nI N), .int up1, .int ch1, .int wr1, .int (nI bg), .int (nI (bg + tu)), .ref b1, .int (nI hs), .ref b2, .int (nI hs), .ref b3, .ref b4, .int (nI rc)])), (b1, .inl (o1, 8000, .inl g1)), (b2, .inl (o2, 8000, .inl f))] H := hP
        have hD : va_D A [(b0, .inr (1, [.int (nI N), .int up1, .int ch1, .int wr1, .int (nI bg), .int (nI (bg + tu)), .ref b1, .int (nI hs), .ref b2, .int (nI hs), .ref b3, .ref b4, .int (nI rc)])), (b1, .inl (o1, 8000, .inl g1)), (b2, .inl (o2, 8000, .inl f))] := hD
        refine lv_aload_n hx hb d_BlockDeskModel_snapshot_68 rfl (lv_at hl 1 rfl) ?_
        refine va_get (D := (dC, dI)) (ci := 1) (v := .int (nI rc)) (C := R_BlockDeskModel) (T := F_BlockDeskModel) (N := 13) hx hb hts hin1 hown hK hP 0 rfl rfl 12 (by decide) (hts (.fieldLink R_BlockDeskModel 52 "BlockDeskModel" "records" "I") (by decide +kernel)) (fun _ h9 => h9) rfl d_BlockDeskModel_snapshot_69 ?_
        refine lv_if_le (tgt := 95) hx hb d_BlockDeskModel_snapshot_72 (by decide) (fun c_72 => ?_) (fun c_72 => ?_)
        · have c_72 : ((rc : Nat) : Int) ≤ 0 := (xq_le_n0 (by omega)).mp c_72
          have e8 : bg + (tu + 500 - 1) / 500 * 500 = bg := by have h9 := h0 (by omega); omega
          refine lv_aload_n hx hb d_BlockDeskModel_snapshot_95 rfl (lv_at hl 1 rfl) ?_
          refine lv_aload_n hx hb d_BlockDeskModel_snapshot_96 rfl (lv_at hl 1 rfl) ?_
          refine va_get (D := (dC, dI)) (ci := 1) (v := .int (nI bg)) (C := R_BlockDeskModel) (T := F_BlockDeskModel) (N := 13) hx hb hts hin1 hown hK hP 0 rfl rfl 4 (by decide) (hts (.fieldLink R_BlockDeskModel 46 "BlockDeskModel" "begin" "I") (by decide +kernel)) (fun _ h9 => h9) rfl d_BlockDeskModel_snapshot_97 ?_
          refine va_put (D := (dC, dI)) (ci := 1) (v := .int (nI bg)) (ty := .int) (C := R_BlockDeskModel) (T := F_BlockDeskModel) (N := 13) hx hb hts hin1 t_BlockDeskModel t_BlockDeskModel_ok n_BlockDeskModel hown hK hP hD hS 0 rfl rfl 5 (by decide) (hts (.fieldLink R_BlockDeskModel 43 "BlockDeskModel" "end" "I") (by decide +kernel)) (fun _ h9 => h9) rfl (by decide +kernel) rfl rfl (Nat.le_of_ble_eq_true rfl) d_BlockDeskModel_snapshot_100 (fun H locs hP hD hS => ?_)
          have hP : va_P (dC, dI) classes [(b0, .inr (1, [.int (nI N), .int up1, .int ch1, .int wr1, .int (nI bg), .int (nI bg), .ref b1, .int (nI hs), .ref b2, .int (nI hs), .ref b3, .ref b4, .int (nI rc)])), (b1, .inl (o1, 8000, .inl g1)), (b2, .inl (o2, 8000, .inl f))] H := hP
          have hD : va_D A [(b0, .inr (1, [.int (nI N), .int up1, .int ch1, .int wr1, .int (nI bg), .int (nI bg), .ref b1, .int (nI hs), .ref b2, .int (nI hs), .ref b3, .ref b4, .int (nI rc)])), (b1, .inl (o1, 8000, .inl g1)), (b2, .inl (o2, 8000, .inl f))] := hD
          refine lv_aload_n hx hb d_BlockDeskModel_snapshot_103 rfl (lv_at hl 1 rfl) ?_
          refine lv_iconst (v := nI 0) hx hb d_BlockDeskModel_snapshot_104 (by decide +kernel) ?_
          refine va_put (D := (dC, dI)) (ci := 1) (v := .int (nI 0)) (ty := .int) (C := R_BlockDeskModel) (T := F_BlockDeskModel) (N := 13) hx hb hts hin1 t_BlockDeskModel t_BlockDeskModel_ok n_BlockDeskModel hown hK hP hD hS 0 rfl rfl 12 (by decide) (hts (.fieldLink R_BlockDeskModel 52 "BlockDeskModel" "records" "I") (by decide +kernel)) (fun _ h9 => h9) rfl (by decide +kernel) rfl rfl (Nat.le_of_ble_eq_true rfl) d_BlockDeskModel_snapshot_105 (fun H locs hP hD hS => ?_)
          have hP : va_P (dC, dI) classes [(b0, .inr (1, [.int (nI N), .int up1, .int ch1, .int wr1, .int (nI bg), .int (nI bg), .ref b1, .int (nI hs), .ref b2, .int (nI hs), .ref b3, .ref b4, .int (nI 0)])), (b1, .inl (o1, 8000, .inl g1)), (b2, .inl (o2, 8000, .inl f))] H := hP
          have hD : va_D A [(b0, .inr (1, [.int (nI N), .int up1, .int ch1, .int wr1, .int (nI bg), .int (nI bg), .ref b1, .int (nI hs), .ref b2, .int (nI hs), .ref b3, .ref b4, .int (nI 0)])), (b1, .inl (o1, 8000, .inl g1)), (b2, .inl (o2, 8000, .inl f))] := hD
          refine lv_aload_n hx hb d_BlockDeskModel_snapshot_108 rfl (lv_at hl 1 rfl) ?_
          refine lv_iconst (v := nI 0) hx hb d_BlockDeskModel_snapshot_109 (by decide +kernel) ?_
          refine va_put (D := (dC, dI)) (ci := 1) (v := .int (nI 0)) (ty := .int) (C := R_BlockDeskModel) (T := F_BlockDeskModel) (N := 13) hx hb hts hin1 t_BlockDeskModel t_BlockDeskModel_ok n_BlockDeskModel hown hK hP hD hS 0 rfl rfl 7 (by decide) (hts (.fieldLink R_BlockDeskModel 33 "BlockDeskModel" "inHand" "I") (by decide +kernel)) (fun _ h9 => h9) rfl (by decide +kernel) rfl rfl (Nat.le_of_ble_eq_true rfl) d_BlockDeskModel_snapshot_110 (fun H locs hP hD hS => ?_)
          have hP : va_P (dC, dI) classes [(b0, .inr (1, [.int (nI N), .int up1, .int ch1, .int wr1, .int (nI bg), .int (nI bg), .ref b1, .int (nI 0), .ref b2, .int (nI hs), .ref b3, .ref b4, .int (nI 0)])), (b1, .inl (o1, 8000, .inl g1)), (b2, .inl (o2, 8000, .inl f))] H := hP
          have hD : va_D A [(b0, .inr (1, [.int (nI N), .int up1, .int ch1, .int wr1, .int (nI bg), .int (nI bg), .ref b1, .int (nI 0), .ref b2, .int (nI hs), .ref b3, .ref b4, .int (nI 0)])), (b1, .inl (o1, 8000, .inl g1)), (b2, .inl (o2, 8000, .inl f))] := hD
          refine lv_iconst (v := nI 1) hx hb d_BlockDeskModel_snapshot_113 (by decide +kernel) ?_
          have hP9 := hP.sub (ws' := [(b0, .inr (1, [.int (nI N), .int up1, .int ch1, .int wr1, .int (nI bg), .int (nI bg), .ref b1, .int (nI 0), .ref b2, .int (nI hs), .ref b3, .ref b4, .int (nI 0)])), (b1, .inl (o1, 8000, .inl g1)), (b2, .inl (o2, 8000, .inl f))]) [0, 1, 2] rfl
          have hD9 := hD.sub (ws' := [(b0, .inr (1, [.int (nI N), .int up1, .int ch1, .int wr1, .int (nI bg), .int (nI bg), .ref b1, .int (nI 0), .ref b2, .int (nI hs), .ref b3, .ref b4, .int (nI 0)])), (b1, .inl (o1, 8000, .inl g1)), (b2, .inl (o2, 8000, .inl f))]) [0, 1, 2] (by decide) rfl
          have hK9 := hK.sub (tys' := [(o1, .int), (o2, .int)]) [0, 1] rfl
          exact W.iret (v := nI 1) hx hb hr (fun t ht hW => ⟨⟨nI 1, (0, bg, bg, hs, up1, 0, ch1, wr1, f), rfl, Or.inr (Or.inr ⟨c_4, rfl, up1, ch1, wr1, f, hw, hI, by rw [e8]⟩), by rw [ht]; exact hP9, va_K.moved hW.alike hK9, hD9⟩, hS.F ht⟩) hS.2.2 d_BlockDeskModel_snapshot_114
        · have c_72 : ¬ (((rc : Nat) : Int) ≤ 0) := fun h9 => c_72 ((xq_le_n0 (by omega)).mpr h9)
          refine lv_aload_n hx hb d_BlockDeskModel_snapshot_75 rfl (lv_at hl 1 rfl) ?_
          refine lv_sipush (v := nI 500) hx hb d_BlockDeskModel_snapshot_76 (by decide +kernel) ?_
          refine lv_aload_n hx hb d_BlockDeskModel_snapshot_79 rfl (lv_at hl 1 rfl) ?_
          refine va_get (D := (dC, dI)) (ci := 1) (v := .int (nI (bg + tu))) (C := R_BlockDeskModel) (T := F_BlockDeskModel) (N := 13) hx hb hts hin1 hown hK hP 0 rfl rfl 5 (by decide) (hts (.fieldLink R_BlockDeskModel 43 "BlockDeskModel" "end" "I") (by decide +kernel)) (fun _ h9 => h9) rfl d_BlockDeskModel_snapshot_80 ?_
          refine lv_iconst (v := nI 1) hx hb d_BlockDeskModel_snapshot_83 (by decide +kernel) ?_
          refine lv_isub hx hb d_BlockDeskModel_snapshot_84 ?_
          refine xq_top (nI (bg + tu - 1)) (pk_sub (by omega)) ?_
          refine lv_sipush (v := nI 500) hx hb d_BlockDeskModel_snapshot_85 (by decide +kernel) ?_
          refine lv_idiv hx hb d_BlockDeskModel_snapshot_88 (by decide +kernel) ?_
          refine xq_top (nI ((bg + tu - 1) / 500)) (pk_div (by omega) (by omega) (by omega)) ?_
          refine lv_iconst (v := nI 1) hx hb d_BlockDeskModel_snapshot_89 (by decide +kernel) ?_
          refine lv_iadd hx hb d_BlockDeskModel_snapshot_90 ?_
          refine xq_top (nI ((bg + tu - 1) / 500 + 1)) (nI_add _ _) ?_
          refine lv_imul hx hb d_BlockDeskModel_snapshot_91 ?_
          refine xq_top (nI (500 * ((bg + tu - 1) / 500 + 1))) (pk_mul _ _) ?_
          refine xq_top (nI (bg + (tu + 500 - 1) / 500 * 500)) (congrArg nI (by omega)) ?_
          refine va_put (D := (dC, dI)) (ci := 1) (v := .int (nI (bg + (tu + 500 - 1) / 500 * 500))) (ty := .int) (C := R_BlockDeskModel) (T := F_BlockDeskModel) (N := 13) hx hb hts hin1 t_BlockDeskModel t_BlockDeskModel_ok n_BlockDeskModel hown hK hP hD hS 0 rfl rfl 4 (by decide) (hts (.fieldLink R_BlockDeskModel 46 "BlockDeskModel" "begin" "I") (by decide +kernel)) (fun _ h9 => h9) rfl (by decide +kernel) rfl rfl (Nat.le_of_ble_eq_true rfl) d_BlockDeskModel_snapshot_92 (fun H locs hP hD hS => ?_)
          have hP : va_P (dC, dI) classes [(b0, .inr (1, [.int (nI N), .int up1, .int ch1, .int wr1, .int (nI (bg + (tu + 500 - 1) / 500 * 500)), .int (nI (bg + tu)), .ref b1, .int (nI hs), .ref b2, .int (nI hs), .ref b3, .ref b4, .int (nI rc)])), (b1, .inl (o1, 8000, .inl g1)), (b2, .inl (o2, 8000, .inl f))] H := hP
          have hD : va_D A [(b0, .inr (1, [.int (nI N), .int up1, .int ch1, .int wr1, .int (nI (bg + (tu + 500 - 1) / 500 * 500)), .int (nI (bg + tu)), .ref b1, .int (nI hs), .ref b2, .int (nI hs), .ref b3, .ref b4, .int (nI rc)])), (b1, .inl (o1, 8000, .inl g1)), (b2, .inl (o2, 8000, .inl f))] := hD
          refine lv_aload_n hx hb d_BlockDeskModel_snapshot_95 rfl (lv_at hl 1 rfl) ?_
          refine lv_aload_n hx hb d_BlockDeskModel_snapshot_96 rfl (lv_at hl 1 rfl) ?_
          refine va_get (D := (dC, dI)) (ci := 1) (v := .int (nI (bg + (tu + 500 - 1) / 500 * 500))) (C := R_BlockDeskModel) (T := F_BlockDeskModel) (N := 13) hx hb hts hin1 hown hK hP 0 rfl rfl 4 (by decide) (hts (.fieldLink R_BlockDeskModel 46 "BlockDeskModel" "begin" "I") (by decide +kernel)) (fun _ h9 => h9) rfl d_BlockDeskModel_snapshot_97 ?_
          refine va_put (D := (dC, dI)) (ci := 1) (v := .int (nI (bg + (tu + 500 - 1) / 500 * 500))) (ty := .int) (C := R_BlockDeskModel) (T := F_BlockDeskModel) (N := 13) hx hb hts hin1 t_BlockDeskModel t_BlockDeskModel_ok n_BlockDeskModel hown hK hP hD hS 0 rfl rfl 5 (by decide) (hts (.fieldLink R_BlockDeskModel 43 "BlockDeskModel" "end" "I") (by decide +kernel)) (fun _ h9 => h9) rfl (by decide +kernel) rfl rfl (Nat.le_of_ble_eq_true rfl) d_BlockDeskModel_snapshot_100 (fun H locs hP hD hS => ?_)
          have hP : va_P (dC, dI) classes [(b0, .inr (1, [.int (nI N), .int up1, .int ch1, .int wr1, .int (nI (bg + (tu + 500 - 1) / 500 * 500)), .int (nI (bg + (tu + 500 - 1) / 500 * 500)), .ref b1, .int (nI hs), .ref b2, .int (nI hs), .ref b3, .ref b4, .int (nI rc)])), (b1, .inl (o1, 8000, .inl g1)), (b2, .inl (o2, 8000, .inl f))] H := hP
          have hD : va_D A [(b0, .inr (1, [.int (nI N), .int up1, .int ch1, .int wr1, .int (nI (bg + (tu + 500 - 1) / 500 * 500)), .int (nI (bg + (tu + 500 - 1) / 500 * 500)), .ref b1, .int (nI hs), .ref b2, .int (nI hs), .ref b3, .ref b4, .int (nI rc)])), (b1, .inl (o1, 8000, .inl g1)), (b2, .inl (o2, 8000, .inl f))] := hD
          refine lv_aload_n hx hb d_BlockDeskModel_snapshot_103 rfl (lv_at hl 1 rfl) ?_
          refine lv_iconst (v := nI 0) hx hb d_BlockDeskModel_snapshot_104 (by decide +kernel) ?_
          refine va_put (D := (dC, dI)) (ci := 1) (v := .int (nI 0)) (ty := .int) (C := R_BlockDeskModel) (T := F_BlockDeskModel) (N := 13) hx hb hts hin1 t_BlockDeskModel t_BlockDeskModel_ok n_BlockDeskModel hown hK hP hD hS 0 rfl rfl 12 (by decide) (hts (.fieldLink R_BlockDeskModel 52 "BlockDeskModel" "records" "I") (by decide +kernel)) (fun _ h9 => h9) rfl (by decide +kernel) rfl rfl (Nat.le_of_ble_eq_true rfl) d_BlockDeskModel_snapshot_105 (fun H locs hP hD hS => ?_)
          have hP : va_P (dC, dI) classes [(b0, .inr (1, [.int (nI N), .int up1, .int ch1, .int wr1, .int (nI (bg + (tu + 500 - 1) / 500 * 500)), .int (nI (bg + (tu + 500 - 1) / 500 * 500)), .ref b1, .int (nI hs), .ref b2, .int (nI hs), .ref b3, .ref b4, .int (nI 0)])), (b1, .inl (o1, 8000, .inl g1)), (b2, .inl (o2, 8000, .inl f))] H := hP
          have hD : va_D A [(b0, .inr (1, [.int (nI N), .int up1, .int ch1, .int wr1, .int (nI (bg + (tu + 500 - 1) / 500 * 500)), .int (nI (bg + (tu + 500 - 1) / 500 * 500)), .ref b1, .int (nI hs), .ref b2, .int (nI hs), .ref b3, .ref b4, .int (nI 0)])), (b1, .inl (o1, 8000, .inl g1)), (b2, .inl (o2, 8000, .inl f))] := hD
          refine lv_aload_n hx hb d_BlockDeskModel_snapshot_108 rfl (lv_at hl 1 rfl) ?_
          refine lv_iconst (v := nI 0) hx hb d_BlockDeskModel_snapshot_109 (by decide +kernel) ?_
          refine va_put (D := (dC, dI)) (ci := 1) (v := .int (nI 0)) (ty := .int) (C := R_BlockDeskModel) (T := F_BlockDeskModel) (N := 13) hx hb hts hin1 t_BlockDeskModel t_BlockDeskModel_ok n_BlockDeskModel hown hK hP hD hS 0 rfl rfl 7 (by decide) (hts (.fieldLink R_BlockDeskModel 33 "BlockDeskModel" "inHand" "I") (by decide +kernel)) (fun _ h9 => h9) rfl (by decide +kernel) rfl rfl (Nat.le_of_ble_eq_true rfl) d_BlockDeskModel_snapshot_110 (fun H locs hP hD hS => ?_)
          have hP : va_P (dC, dI) classes [(b0, .inr (1, [.int (nI N), .int up1, .int ch1, .int wr1, .int (nI (bg + (tu + 500 - 1) / 500 * 500)), .int (nI (bg + (tu + 500 - 1) / 500 * 500)), .ref b1, .int (nI 0), .ref b2, .int (nI hs), .ref b3, .ref b4, .int (nI 0)])), (b1, .inl (o1, 8000, .inl g1)), (b2, .inl (o2, 8000, .inl f))] H := hP
          have hD : va_D A [(b0, .inr (1, [.int (nI N), .int up1, .int ch1, .int wr1, .int (nI (bg + (tu + 500 - 1) / 500 * 500)), .int (nI (bg + (tu + 500 - 1) / 500 * 500)), .ref b1, .int (nI 0), .ref b2, .int (nI hs), .ref b3, .ref b4, .int (nI 0)])), (b1, .inl (o1, 8000, .inl g1)), (b2, .inl (o2, 8000, .inl f))] := hD
          refine lv_iconst (v := nI 1) hx hb d_BlockDeskModel_snapshot_113 (by decide +kernel) ?_
          have hP9 := hP.sub (ws' := [(b0, .inr (1, [.int (nI N), .int up1, .int ch1, .int wr1, .int (nI (bg + (tu + 500 - 1) / 500 * 500)), .int (nI (bg + (tu + 500 - 1) / 500 * 500)), .ref b1, .int (nI 0), .ref b2, .int (nI hs), .ref b3, .ref b4, .int (nI 0)])), (b1, .inl (o1, 8000, .inl g1)), (b2, .inl (o2, 8000, .inl f))]) [0, 1, 2] rfl
          have hD9 := hD.sub (ws' := [(b0, .inr (1, [.int (nI N), .int up1, .int ch1, .int wr1, .int (nI (bg + (tu + 500 - 1) / 500 * 500)), .int (nI (bg + (tu + 500 - 1) / 500 * 500)), .ref b1, .int (nI 0), .ref b2, .int (nI hs), .ref b3, .ref b4, .int (nI 0)])), (b1, .inl (o1, 8000, .inl g1)), (b2, .inl (o2, 8000, .inl f))]) [0, 1, 2] (by decide) rfl
          have hK9 := hK.sub (tys' := [(o1, .int), (o2, .int)]) [0, 1] rfl
          exact W.iret (v := nI 1) hx hb hr (fun t ht hW => ⟨⟨nI 1, (0, bg + (tu + 500 - 1) / 500 * 500, bg + (tu + 500 - 1) / 500 * 500, hs, up1, 0, ch1, wr1, f), rfl, Or.inr (Or.inr ⟨c_4, rfl, up1, ch1, wr1, f, hw, hI, rfl⟩), by rw [ht]; exact hP9, va_K.moved hW.alike hK9, hD9⟩, hS.F ht⟩) hS.2.2 d_BlockDeskModel_snapshot_114
      · exact absurd c_27 (xq_n0 (by omega) (by omega))
  · refine lv_iconst (v := nI 0) hx hb d_BlockDeskModel_snapshot_7 (by decide +kernel) ?_
    have hP9 := hP.sub (ws' := [(b0, .inr (1, [.int (nI N), .int up, .int ch, .int wr, .int (nI bg), .int (nI (bg + tu)), .ref b1, .int (nI hs), .ref b2, .int (nI ss), .ref b3, .ref b4, .int (nI rc)])), (b1, .inl (o1, 8000, .inl g1)), (b2, .inl (o2, 8000, .inl g2))]) [0, 1, 2] rfl
    have hD9 := hD.sub (ws' := [(b0, .inr (1, [.int (nI N), .int up, .int ch, .int wr, .int (nI bg), .int (nI (bg + tu)), .ref b1, .int (nI hs), .ref b2, .int (nI ss), .ref b3, .ref b4, .int (nI rc)])), (b1, .inl (o1, 8000, .inl g1)), (b2, .inl (o2, 8000, .inl g2))]) [0, 1, 2] (by decide) rfl
    have hK9 := hK.sub (tys' := [(o1, .int), (o2, .int)]) [0, 1] rfl
    exact W.iret (v := nI 0) hx hb hr (fun t ht hW => ⟨⟨nI 0, (rc, bg, bg + tu, ss, up, hs, ch, wr, g2), rfl, Or.inl ⟨c_4, rfl, rfl⟩, by rw [ht]; exact hP9, va_K.moved hW.alike hK9, hD9⟩, hS.F ht⟩) hS.2.2 d_BlockDeskModel_snapshot_8
end
section
set_option maxHeartbeats 4000000 in
set_option maxRecDepth 100000 in
theorem c_BlockDesk_init (l : Launch) (dC : Nat → ClassId) (dI : Nat → Nat → Nat) (sz : Nat) (a0 : Nat) (n : Int32)  : Met l y_BlockDesk_init w_BlockDesk_init ({ frames := 1, cells := 4, slots := 36001, locals := 22 }) (va_Pc [.ref a0, .int n] (fun U => U.heap.size = sz ∧ va_P (dC, dI) classes [(a0, .inr (0, [.null, .null, .int (nI 0), .int (nI 0), .null, .int (nI 0), .null, .int (nI 0), .int (nI 0), .int (nI 0), .int (nI 0)]))] U.heap ∧ va_K (dC, dI) classes [] U ∧ va_D (fun _ => True) [(a0, .inr (0, [.null, .null, .int (nI 0), .int (nI 0), .null, .int (nI 0), .null, .int (nI 0), .int (nI 0), .int (nI 0), .int (nI 0)]))])) (va_Qv (fun (_ : Nat × Nat × Nat × Nat × ClassId × ClassId × ClassId × ClassId) => True) (fun (u : Nat × Nat × Nat × Nat × ClassId × ClassId × ClassId × ClassId) (t : State) => match u with | (a1, a2, a3, a4, k1, k2, k3, k4) => va_P (dC, dI) classes [(a0, .inr (0, [.ref a1, .ref a2, .int (nI 0), .int (nI 0), .ref a3, .int (nI 0), .ref a4, .int (nI 0), .int (nI 1), .int (-1), .int (nI 0)])), (a1, .inl (k1, 500 * zq_nN n, .inl (fun _ => 0))), (a2, .inl (k2, 125 * zq_nN n + 1, .inl (fun _ => 0))), (a3, .inl (k3, 8000, .inl (fun _ => 0))), (a4, .inl (k4, 8000, .inl (fun _ => 0)))] t.heap ∧ va_K (dC, dI) classes [(k1, .byte), (k2, .int), (k3, .byte), (k4, .byte)] t ∧ va_D (va_A [(a0, .inr (0, [.null, .null, .int (nI 0), .int (nI 0), .null, .int (nI 0), .null, .int (nI 0), .int (nI 0), .int (nI 0), .int (nI 0)]))] sz) [(a0, .inr (0, [.ref a1, .ref a2, .int (nI 0), .int (nI 0), .ref a3, .int (nI 0), .ref a4, .int (nI 0), .int (nI 1), .int (-1), .int (nI 0)])), (a1, .inl (k1, 500 * zq_nN n, .inl (fun _ => 0))), (a2, .inl (k2, 125 * zq_nN n + 1, .inl (fun _ => 0))), (a3, .inl (k3, 8000, .inl (fun _ => 0))), (a4, .inl (k4, 8000, .inl (fun _ => 0)))]) (va_A [(a0, .inr (0, [.null, .null, .int (nI 0), .int (nI 0), .null, .int (nI 0), .null, .int (nI 0), .int (nI 0), .int (nI 0), .int (nI 0)]))] sz)) 4 36001 (va_A [(a0, .inr (0, [.null, .null, .int (nI 0), .int (nI 0), .null, .int (nI 0), .null, .int (nI 0), .int (nI 0), .int (nI 0), .int (nI 0)]))] sz) := by
  refine Met.ofW (cc := b_BlockDesk_init) (maxL := 4) (ret := none) (by decide) rfl ?_
  intro p e s m args below meth c s₁ B hml hv
  obtain ⟨rfl, hsz, hP, hK, hD0⟩ := hv
  have hx := B.exec
  have hb := B.bytes
  have hr := B.returns
  have hts := atoms_spec (ws := w_BlockDesk_init) B.pre
  have hown : s.vm.findClass R_BlockDesk = some m.cls := findClass_of_methodNamed B.named
  have hlocks := B.notSynchronized
  have hin : meth.name = "<init>" := (name_of_methodNamed B.named B.method).1
  subst hsz
  have hD := hD0.self (sz := s.heap.size)
  generalize hAe : va_A [(a0, .inr (0, [.null, .null, .int (nI 0), .int (nI 0), .null, .int (nI 0), .null, .int (nI 0), .int (nI 0), .int (nI 0), .int (nI 0)]))] s.heap.size = A at hD ⊢
  have hA : ∀ q : Nat, s.heap.size ≤ q → A q := fun q h => by rw [← hAe]; exact Or.inr h
  have hS : va_S A s.heap s.heap [] := va_S.rf
  have hP : va_P (dC, dI) classes [(a0, .inr (0, [.null, .null, .int (nI 0), .int (nI 0), .null, .int (nI 0), .null, .int (nI 0), .int (nI 0), .int (nI 0), .int (nI 0)]))] s.heap := hP
  have hin0 : ∀ w ∈ u_ws R_BlockDesk F_BlockDesk 11, w ∈ w_BlockDesk_init := by decide +kernel
  have hl := lv_entry ([.ref a0, .int n]) (n := 4) (Nat.le_of_ble_eq_true rfl)
  rw [lg_entry_eq]
  generalize (lg_sl ([.ref a0, .int n]) ++ List.replicate (4 - (lg_sl ([.ref a0, .int n])).length) Slot.unset).toArray = ls at hl ⊢
  have hl : lv_has ls 4 [(0, .ref a0), (1, .int n)] := hl
  obtain ⟨hN2, hN32⟩ := zq_nN_in n
  refine lv_aload_n hx hb d_BlockDesk_init_0 rfl (lv_at hl 0 rfl) ?_
  refine W.objInit hx hb hown (hts (.methodLink R_BlockDesk 1 objectInit) (by decide +kernel)) (hts (.instanceMethod objectInit) (by decide +kernel)) (hts _ (List.mem_of_getElem? (i := 3) rfl)) rfl (by rw [hml]; exact hl.1) rfl d_BlockDesk_init_1 (Nat.le_of_ble_eq_true rfl) (Nat.le_of_ble_eq_true rfl) ?_
  refine W.eq (g2 := F0 m 4 ls []) rfl ?_
  refine lv_iload_n hx hb d_BlockDesk_init_4 rfl (lv_at hl 1 rfl) ?_
  refine lv_iconst (v := nI 2) hx hb d_BlockDesk_init_5 (by decide +kernel) ?_
  refine lv_icmp_lt (tgt := 19) hx hb d_BlockDesk_init_6 (by decide) (fun c_6 => ?_) (fun c_6 => ?_)
  · have c_6 : n.toInt < ((2 : Nat) : Int) := (xq_lt_r (by omega)).mp c_6
    refine lv_iconst (v := nI 0) hx hb d_BlockDesk_init_19 (by decide +kernel) ?_
    refine lv_istore_n (lv' := [(2, .int (nI 0)), (0, .ref a0), (1, .int n)]) hx hb d_BlockDesk_init_20 rfl hl (by decide) rfl (fun ls hl => ?_)
    refine lv_iload_n hx hb d_BlockDesk_init_21 rfl (lv_at hl 0 rfl) ?_
    refine lv_if_eq (tgt := 29) hx hb d_BlockDesk_init_22 (by decide) (fun c_22 => ?_) (fun c_22 => ?_)
    · refine lv_bipush (v := nI 32) hx hb d_BlockDesk_init_29 (by decide +kernel) ?_
      refine xq_top (nI (zq_nN n)) (congrArg nI (zq_nN_b (by omega))) ?_
      refine lv_sipush (v := nI 500) hx hb d_BlockDesk_init_31 (by decide +kernel) ?_
      refine lv_imul hx hb d_BlockDesk_init_34 ?_
      refine xq_top (nI ((zq_nN n) * 500)) (pk_mul _ _) ?_
      refine xq_top (nI (500 * zq_nN n)) (congrArg nI (by omega)) ?_
      refine lv_istore_n (lv' := [(3, .int (nI (500 * zq_nN n))), (2, .int (nI 0)), (0, .ref a0), (1, .int n)]) hx hb d_BlockDesk_init_35 rfl hl (by decide) rfl (fun ls hl => ?_)
      refine lv_aload_n hx hb d_BlockDesk_init_36 rfl (lv_at hl 2 rfl) ?_
      refine lv_iload_n hx hb d_BlockDesk_init_37 rfl (lv_at hl 0 rfl) ?_
      refine va_newa (atype := .byte) (ty := .byte) (N' := 500 * zq_nN n) (a0 := (500 * zq_nN n, .inl (fun _ => 0))) hx hb (hts (.arrayClass .byte) (by decide +kernel)) rfl hK hP hD hS hA (fun _ => rfl) (nI_pos (by omega)) (nI_clamp (by omega)) (show (500 * zq_nN n) * 1 ≤ 536870912 by omega) (show 0 + 1 ≤ 4 by omega) (show 0 + (500 * zq_nN n) ≤ 36001 by omega) d_BlockDesk_init_38 (fun q1 k1 H hK hP hD hS => ?_)
      have hK : va_K (dC, dI) classes [(k1, .byte)] s := hK
      have hP : va_P (dC, dI) classes [(a0, .inr (0, [.null, .null, .int (nI 0), .int (nI 0), .null, .int (nI 0), .null, .int (nI 0), .int (nI 0), .int (nI 0), .int (nI 0)])), (q1, .inl (k1, 500 * zq_nN n, .inl (fun _ => 0)))] H := hP
      have hD : va_D A [(a0, .inr (0, [.null, .null, .int (nI 0), .int (nI 0), .null, .int (nI 0), .null, .int (nI 0), .int (nI 0), .int (nI 0), .int (nI 0)])), (q1, .inl (k1, 500 * zq_nN n, .inl (fun _ => 0)))] := hD
      refine W.widen (k := 1) (n := 16000) (by omega) (by omega) ?_
      refine va_putF (D := (dC, dI)) (ci := 0) (v := .ref q1) (ty := (.array .byte)) (C := R_BlockDesk) (T := F_BlockDesk) (N := 11) hx hb hts hin0 t_BlockDesk t_BlockDesk_ok n_BlockDesk hown hK hP hD hS 0 rfl rfl 0 (by decide) (hts (.fieldLink R_BlockDesk 9 "BlockDesk" "journal" "[B") (by decide +kernel)) (fun _ h9 => h9) rfl hin rfl (by decide +kernel) rfl rfl (Nat.le_of_ble_eq_true rfl) d_BlockDesk_init_40 (fun H locs hP hD hS => ?_)
      have hP : va_P (dC, dI) classes [(a0, .inr (0, [.ref q1, .null, .int (nI 0), .int (nI 0), .null, .int (nI 0), .null, .int (nI 0), .int (nI 0), .int (nI 0), .int (nI 0)])), (q1, .inl (k1, 500 * zq_nN n, .inl (fun _ => 0)))] H := hP
      have hD : va_D A [(a0, .inr (0, [.ref q1, .null, .int (nI 0), .int (nI 0), .null, .int (nI 0), .null, .int (nI 0), .int (nI 0), .int (nI 0), .int (nI 0)])), (q1, .inl (k1, 500 * zq_nN n, .inl (fun _ => 0)))] := hD
      refine lv_aload_n hx hb d_BlockDesk_init_43 rfl (lv_at hl 2 rfl) ?_
      refine lv_iload_n hx hb d_BlockDesk_init_44 rfl (lv_at hl 0 rfl) ?_
      refine lv_iconst (v := nI 4) hx hb d_BlockDesk_init_45 (by decide +kernel) ?_
      refine lv_idiv hx hb d_BlockDesk_init_46 (by decide +kernel) ?_
      refine xq_top (nI ((500 * zq_nN n) / 4)) (pk_div (by omega) (by omega) (by omega)) ?_
      refine lv_iconst (v := nI 1) hx hb d_BlockDesk_init_47 (by decide +kernel) ?_
      refine lv_iadd hx hb d_BlockDesk_init_48 ?_
      refine xq_top (nI ((500 * zq_nN n) / 4 + 1)) (nI_add _ _) ?_
      refine xq_top (nI (125 * zq_nN n + 1)) (congrArg nI (by omega)) ?_
      refine va_newa (atype := .int) (ty := .int) (N' := 125 * zq_nN n + 1) (a0 := (125 * zq_nN n + 1, .inl (fun _ => 0))) hx hb (hts (.arrayClass .int) (by decide +kernel)) rfl hK hP hD hS hA (fun _ => rfl) (nI_pos (by omega)) (nI_clamp (by omega)) (show (125 * zq_nN n + 1) * 4 ≤ 536870912 by omega) (show 1 + 1 ≤ 4 by omega) (show 16000 + (125 * zq_nN n + 1) ≤ 36001 by omega) d_BlockDesk_init_49 (fun q2 k2 H hK hP hD hS => ?_)
      have hK : va_K (dC, dI) classes [(k1, .byte), (k2, .int)] s := hK
      have hP : va_P (dC, dI) classes [(a0, .inr (0, [.ref q1, .null, .int (nI 0), .int (nI 0), .null, .int (nI 0), .null, .int (nI 0), .int (nI 0), .int (nI 0), .int (nI 0)])), (q1, .inl (k1, 500 * zq_nN n, .inl (fun _ => 0))), (q2, .inl (k2, 125 * zq_nN n + 1, .inl (fun _ => 0)))] H := hP
      have hD : va_D A [(a0, .inr (0, [.ref q1, .null, .int (nI 0), .int (nI 0), .null, .int (nI 0), .null, .int (nI 0), .int (nI 0), .int (nI 0), .int (nI 0)])), (q1, .inl (k1, 500 * zq_nN n, .inl (fun _ => 0))), (q2, .inl (k2, 125 * zq_nN n + 1, .inl (fun _ => 0)))] := hD
      refine W.widen (k := 2) (n := 20001) (by omega) (by omega) ?_
      refine va_putF (D := (dC, dI)) (ci := 0) (v := .ref q2) (ty := (.array .int)) (C := R_BlockDesk) (T := F_BlockDesk) (N := 11) hx hb hts hin0 t_BlockDesk t_BlockDesk_ok n_BlockDesk hown hK hP hD hS 0 rfl rfl 1 (by decide) (hts (.fieldLink R_BlockDesk 13 "BlockDesk" "starts" "[I") (by decide +kernel)) (fun _ h9 => h9) rfl hin rfl (by decide +kernel) rfl rfl (Nat.le_of_ble_eq_true rfl) d_BlockDesk_init_51 (fun H locs hP hD hS => ?_)
      have hP : va_P (dC, dI) classes [(a0, .inr (0, [.ref q1, .ref q2, .int (nI 0), .int (nI 0), .null, .int (nI 0), .null, .int (nI 0), .int (nI 0), .int (nI 0), .int (nI 0)])), (q1, .inl (k1, 500 * zq_nN n, .inl (fun _ => 0))), (q2, .inl (k2, 125 * zq_nN n + 1, .inl (fun _ => 0)))] H := hP
      have hD : va_D A [(a0, .inr (0, [.ref q1, .ref q2, .int (nI 0), .int (nI 0), .null, .int (nI 0), .null, .int (nI 0), .int (nI 0), .int (nI 0), .int (nI 0)])), (q1, .inl (k1, 500 * zq_nN n, .inl (fun _ => 0))), (q2, .inl (k2, 125 * zq_nN n + 1, .inl (fun _ => 0)))] := hD
      refine lv_aload_n hx hb d_BlockDesk_init_54 rfl (lv_at hl 2 rfl) ?_
      refine lv_sipush (v := nI 8000) hx hb d_BlockDesk_init_55 (by decide +kernel) ?_
      refine va_newa (atype := .byte) (ty := .byte) (N' := 8000) (a0 := (8000, .inl (fun _ => 0))) hx hb (hts (.arrayClass .byte) (by decide +kernel)) rfl hK hP hD hS hA (fun _ => rfl) (nI_pos (by omega)) (nI_clamp (by omega)) (show (8000) * 1 ≤ 536870912 by omega) (show 2 + 1 ≤ 4 by omega) (show 20001 + (8000) ≤ 36001 by omega) d_BlockDesk_init_58 (fun q3 k3 H hK hP hD hS => ?_)
      have hK : va_K (dC, dI) classes [(k1, .byte), (k2, .int), (k3, .byte)] s := hK
      have hP : va_P (dC, dI) classes [(a0, .inr (0, [.ref q1, .ref q2, .int (nI 0), .int (nI 0), .null, .int (nI 0), .null, .int (nI 0), .int (nI 0), .int (nI 0), .int (nI 0)])), (q1, .inl (k1, 500 * zq_nN n, .inl (fun _ => 0))), (q2, .inl (k2, 125 * zq_nN n + 1, .inl (fun _ => 0))), (q3, .inl (k3, 8000, .inl (fun _ => 0)))] H := hP
      have hD : va_D A [(a0, .inr (0, [.ref q1, .ref q2, .int (nI 0), .int (nI 0), .null, .int (nI 0), .null, .int (nI 0), .int (nI 0), .int (nI 0), .int (nI 0)])), (q1, .inl (k1, 500 * zq_nN n, .inl (fun _ => 0))), (q2, .inl (k2, 125 * zq_nN n + 1, .inl (fun _ => 0))), (q3, .inl (k3, 8000, .inl (fun _ => 0)))] := hD
      refine W.widen (k := 3) (n := 28001) (by omega) (by omega) ?_
      refine va_put (D := (dC, dI)) (ci := 0) (v := .ref q3) (ty := (.array .byte)) (C := R_BlockDesk) (T := F_BlockDesk) (N := 11) hx hb hts hin0 t_BlockDesk t_BlockDesk_ok n_BlockDesk hown hK hP hD hS 0 rfl rfl 4 (by decide) (hts (.fieldLink R_BlockDesk 17 "BlockDesk" "snapshotBytes" "[B") (by decide +kernel)) (fun _ h9 => h9) rfl (by decide +kernel) rfl rfl (Nat.le_of_ble_eq_true rfl) d_BlockDesk_init_60 (fun H locs hP hD hS => ?_)
      have hP : va_P (dC, dI) classes [(a0, .inr (0, [.ref q1, .ref q2, .int (nI 0), .int (nI 0), .ref q3, .int (nI 0), .null, .int (nI 0), .int (nI 0), .int (nI 0), .int (nI 0)])), (q1, .inl (k1, 500 * zq_nN n, .inl (fun _ => 0))), (q2, .inl (k2, 125 * zq_nN n + 1, .inl (fun _ => 0))), (q3, .inl (k3, 8000, .inl (fun _ => 0)))] H := hP
      have hD : va_D A [(a0, .inr (0, [.ref q1, .ref q2, .int (nI 0), .int (nI 0), .ref q3, .int (nI 0), .null, .int (nI 0), .int (nI 0), .int (nI 0), .int (nI 0)])), (q1, .inl (k1, 500 * zq_nN n, .inl (fun _ => 0))), (q2, .inl (k2, 125 * zq_nN n + 1, .inl (fun _ => 0))), (q3, .inl (k3, 8000, .inl (fun _ => 0)))] := hD
      refine lv_aload_n hx hb d_BlockDesk_init_63 rfl (lv_at hl 2 rfl) ?_
      refine lv_sipush (v := nI 8000) hx hb d_BlockDesk_init_64 (by decide +kernel) ?_
      refine va_newa (atype := .byte) (ty := .byte) (N' := 8000) (a0 := (8000, .inl (fun _ => 0))) hx hb (hts (.arrayClass .byte) (by decide +kernel)) rfl hK hP hD hS hA (fun _ => rfl) (nI_pos (by omega)) (nI_clamp (by omega)) (show (8000) * 1 ≤ 536870912 by omega) (show 3 + 1 ≤ 4 by omega) (show 28001 + (8000) ≤ 36001 by omega) d_BlockDesk_init_67 (fun q4 k4 H hK hP hD hS => ?_)
      have hK : va_K (dC, dI) classes [(k1, .byte), (k2, .int), (k3, .byte), (k4, .byte)] s := hK
      have hP : va_P (dC, dI) classes [(a0, .inr (0, [.ref q1, .ref q2, .int (nI 0), .int (nI 0), .ref q3, .int (nI 0), .null, .int (nI 0), .int (nI 0), .int (nI 0), .int (nI 0)])), (q1, .inl (k1, 500 * zq_nN n, .inl (fun _ => 0))), (q2, .inl (k2, 125 * zq_nN n + 1, .inl (fun _ => 0))), (q3, .inl (k3, 8000, .inl (fun _ => 0))), (q4, .inl (k4, 8000, .inl (fun _ => 0)))] H := hP
      have hD : va_D A [(a0, .inr (0, [.ref q1, .ref q2, .int (nI 0), .int (nI 0), .ref q3, .int (nI 0), .null, .int (nI 0), .int (nI 0), .int (nI 0), .int (nI 0)])), (q1, .inl (k1, 500 * zq_nN n, .inl (fun _ => 0))), (q2, .inl (k2, 125 * zq_nN n + 1, .inl (fun _ => 0))), (q3, .inl (k3, 8000, .inl (fun _ => 0))), (q4, .inl (k4, 8000, .inl (fun _ => 0)))] := hD
      refine W.widen (k := 4) (n := 36001) (by omega) (by omega) ?_
      refine va_put (D := (dC, dI)) (ci := 0) (v := .ref q4) (ty := (.array .byte)) (C := R_BlockDesk) (T := F_BlockDesk) (N := 11) hx hb hts hin0 t_BlockDesk t_BlockDesk_ok n_BlockDesk hown hK hP hD hS 0 rfl rfl 6 (by decide) (hts (.fieldLink R_BlockDesk 20 "BlockDesk" "handBytes" "[B") (by decide +kernel)) (fun _ h9 => h9) rfl (by decide +kernel) rfl rfl (Nat.le_of_ble_eq_true rfl) d_BlockDesk_init_69 (fun H locs hP hD hS => ?_)
      have hP : va_P (dC, dI) classes [(a0, .inr (0, [.ref q1, .ref q2, .int (nI 0), .int (nI 0), .ref q3, .int (nI 0), .ref q4, .int (nI 0), .int (nI 0), .int (nI 0), .int (nI 0)])), (q1, .inl (k1, 500 * zq_nN n, .inl (fun _ => 0))), (q2, .inl (k2, 125 * zq_nN n + 1, .inl (fun _ => 0))), (q3, .inl (k3, 8000, .inl (fun _ => 0))), (q4, .inl (k4, 8000, .inl (fun _ => 0)))] H := hP
      have hD : va_D A [(a0, .inr (0, [.ref q1, .ref q2, .int (nI 0), .int (nI 0), .ref q3, .int (nI 0), .ref q4, .int (nI 0), .int (nI 0), .int (nI 0), .int (nI 0)])), (q1, .inl (k1, 500 * zq_nN n, .inl (fun _ => 0))), (q2, .inl (k2, 125 * zq_nN n + 1, .inl (fun _ => 0))), (q3, .inl (k3, 8000, .inl (fun _ => 0))), (q4, .inl (k4, 8000, .inl (fun _ => 0)))] := hD
      refine lv_aload_n hx hb d_BlockDesk_init_72 rfl (lv_at hl 2 rfl) ?_
      refine lv_iconst (v := nI 1) hx hb d_BlockDesk_init_73 (by decide +kernel) ?_
      refine va_put (D := (dC, dI)) (ci := 0) (v := .int (nI 1)) (ty := .boolean) (C := R_BlockDesk) (T := F_BlockDesk) (N := 11) hx hb hts hin0 t_BlockDesk t_BlockDesk_ok n_BlockDesk hown hK hP hD hS 0 rfl rfl 8 (by decide) (hts (.fieldLink R_BlockDesk 23 "BlockDesk" "up" "Z") (by decide +kernel)) (fun _ h9 => h9) rfl (by decide +kernel) zq_nb1 zq_fb1 (Nat.le_of_ble_eq_true rfl) d_BlockDesk_init_74 (fun H locs hP hD hS => ?_)
      have hP : va_P (dC, dI) classes [(a0, .inr (0, [.ref q1, .ref q2, .int (nI 0), .int (nI 0), .ref q3, .int (nI 0), .ref q4, .int (nI 0), .int (nI 1), .int (nI 0), .int (nI 0)])), (q1, .inl (k1, 500 * zq_nN n, .inl (fun _ => 0))), (q2, .inl (k2, 125 * zq_nN n + 1, .inl (fun _ => 0))), (q3, .inl (k3, 8000, .inl (fun _ => 0))), (q4, .inl (k4, 8000, .inl (fun _ => 0)))] H := hP
      have hD : va_D A [(a0, .inr (0, [.ref q1, .ref q2, .int (nI 0), .int (nI 0), .ref q3, .int (nI 0), .ref q4, .int (nI 0), .int (nI 1), .int (nI 0), .int (nI 0)])), (q1, .inl (k1, 500 * zq_nN n, .inl (fun _ => 0))), (q2, .inl (k2, 125 * zq_nN n + 1, .inl (fun _ => 0))), (q3, .inl (k3, 8000, .inl (fun _ => 0))), (q4, .inl (k4, 8000, .inl (fun _ => 0)))] := hD
      refine lv_aload_n hx hb d_BlockDesk_init_77 rfl (lv_at hl 2 rfl) ?_
      refine lv_iconst (v := (-1)) hx hb d_BlockDesk_init_78 (by decide +kernel) ?_
      refine va_put (D := (dC, dI)) (ci := 0) (v := .int (-1)) (ty := .int) (C := R_BlockDesk) (T := F_BlockDesk) (N := 11) hx hb hts hin0 t_BlockDesk t_BlockDesk_ok n_BlockDesk hown hK hP hD hS 0 rfl rfl 9 (by decide) (hts (.fieldLink R_BlockDesk 27 "BlockDesk" "charge" "I") (by decide +kernel)) (fun _ h9 => h9) rfl (by decide +kernel) rfl rfl (Nat.le_of_ble_eq_true rfl) d_BlockDesk_init_79 (fun H locs hP hD hS => ?_)
      have hP : va_P (dC, dI) classes [(a0, .inr (0, [.ref q1, .ref q2, .int (nI 0), .int (nI 0), .ref q3, .int (nI 0), .ref q4, .int (nI 0), .int (nI 1), .int (-1), .int (nI 0)])), (q1, .inl (k1, 500 * zq_nN n, .inl (fun _ => 0))), (q2, .inl (k2, 125 * zq_nN n + 1, .inl (fun _ => 0))), (q3, .inl (k3, 8000, .inl (fun _ => 0))), (q4, .inl (k4, 8000, .inl (fun _ => 0)))] H := hP
      have hD : va_D A [(a0, .inr (0, [.ref q1, .ref q2, .int (nI 0), .int (nI 0), .ref q3, .int (nI 0), .ref q4, .int (nI 0), .int (nI 1), .int (-1), .int (nI 0)])), (q1, .inl (k1, 500 * zq_nN n, .inl (fun _ => 0))), (q2, .inl (k2, 125 * zq_nN n + 1, .inl (fun _ => 0))), (q3, .inl (k3, 8000, .inl (fun _ => 0))), (q4, .inl (k4, 8000, .inl (fun _ => 0)))] := hD
      have hP9 := hP.sub (ws' := [(a0, .inr (0, [.ref q1, .ref q2, .int (nI 0), .int (nI 0), .ref q3, .int (nI 0), .ref q4, .int (nI 0), .int (nI 1), .int (-1), .int (nI 0)])), (q1, .inl (k1, 500 * zq_nN n, .inl (fun _ => 0))), (q2, .inl (k2, 125 * zq_nN n + 1, .inl (fun _ => 0))), (q3, .inl (k3, 8000, .inl (fun _ => 0))), (q4, .inl (k4, 8000, .inl (fun _ => 0)))]) [0, 1, 2, 3, 4] rfl
      have hD9 := hD.sub (ws' := [(a0, .inr (0, [.ref q1, .ref q2, .int (nI 0), .int (nI 0), .ref q3, .int (nI 0), .ref q4, .int (nI 0), .int (nI 1), .int (-1), .int (nI 0)])), (q1, .inl (k1, 500 * zq_nN n, .inl (fun _ => 0))), (q2, .inl (k2, 125 * zq_nN n + 1, .inl (fun _ => 0))), (q3, .inl (k3, 8000, .inl (fun _ => 0))), (q4, .inl (k4, 8000, .inl (fun _ => 0)))]) [0, 1, 2, 3, 4] (by decide) rfl
      have hK9 := hK.sub (tys' := [(k1, .byte), (k2, .int), (k3, .byte), (k4, .byte)]) [0, 1, 2, 3] rfl
      exact W.vret hx hb hr (fun t ht hW => ⟨⟨(q1, q2, q3, q4, k1, k2, k3, k4), rfl, trivial, by rw [ht]; exact hP9, va_K.moved hW.alike hK9, hD9⟩, hS.F ht⟩) hS.2.2 d_BlockDesk_init_82
    · exact absurd rfl c_22
  · have c_6 : ¬ (n.toInt < ((2 : Nat) : Int)) := fun h9 => c_6 ((xq_lt_r (by omega)).mpr h9)
    refine lv_iload_n hx hb d_BlockDesk_init_9 rfl (lv_at hl 1 rfl) ?_
    refine lv_bipush (v := nI 32) hx hb d_BlockDesk_init_10 (by decide +kernel) ?_
    refine lv_icmp_gt (tgt := 19) hx hb d_BlockDesk_init_12 (by decide) (fun c_12 => ?_) (fun c_12 => ?_)
    · have c_12 : ((32 : Nat) : Int) < n.toInt := (xq_lt_l (by omega)).mp c_12
      refine lv_iconst (v := nI 0) hx hb d_BlockDesk_init_19 (by decide +kernel) ?_
      refine lv_istore_n (lv' := [(2, .int (nI 0)), (0, .ref a0), (1, .int n)]) hx hb d_BlockDesk_init_20 rfl hl (by decide) rfl (fun ls hl => ?_)
      refine lv_iload_n hx hb d_BlockDesk_init_21 rfl (lv_at hl 0 rfl) ?_
      refine lv_if_eq (tgt := 29) hx hb d_BlockDesk_init_22 (by decide) (fun c_22 => ?_) (fun c_22 => ?_)
      · refine lv_bipush (v := nI 32) hx hb d_BlockDesk_init_29 (by decide +kernel) ?_
        refine xq_top (nI (zq_nN n)) (congrArg nI (zq_nN_b (by omega))) ?_
        refine lv_sipush (v := nI 500) hx hb d_BlockDesk_init_31 (by decide +kernel) ?_
        refine lv_imul hx hb d_BlockDesk_init_34 ?_
        refine xq_top (nI ((zq_nN n) * 500)) (pk_mul _ _) ?_
        refine xq_top (nI (500 * zq_nN n)) (congrArg nI (by omega)) ?_
        refine lv_istore_n (lv' := [(3, .int (nI (500 * zq_nN n))), (2, .int (nI 0)), (0, .ref a0), (1, .int n)]) hx hb d_BlockDesk_init_35 rfl hl (by decide) rfl (fun ls hl => ?_)
        refine lv_aload_n hx hb d_BlockDesk_init_36 rfl (lv_at hl 2 rfl) ?_
        refine lv_iload_n hx hb d_BlockDesk_init_37 rfl (lv_at hl 0 rfl) ?_
        refine va_newa (atype := .byte) (ty := .byte) (N' := 500 * zq_nN n) (a0 := (500 * zq_nN n, .inl (fun _ => 0))) hx hb (hts (.arrayClass .byte) (by decide +kernel)) rfl hK hP hD hS hA (fun _ => rfl) (nI_pos (by omega)) (nI_clamp (by omega)) (show (500 * zq_nN n) * 1 ≤ 536870912 by omega) (show 0 + 1 ≤ 4 by omega) (show 0 + (500 * zq_nN n) ≤ 36001 by omega) d_BlockDesk_init_38 (fun q1 k1 H hK hP hD hS => ?_)
        have hK : va_K (dC, dI) classes [(k1, .byte)] s := hK
        have hP : va_P (dC, dI) classes [(a0, .inr (0, [.null, .null, .int (nI 0), .int (nI 0), .null, .int (nI 0), .null, .int (nI 0), .int (nI 0), .int (nI 0), .int (nI 0)])), (q1, .inl (k1, 500 * zq_nN n, .inl (fun _ => 0)))] H := hP
        have hD : va_D A [(a0, .inr (0, [.null, .null, .int (nI 0), .int (nI 0), .null, .int (nI 0), .null, .int (nI 0), .int (nI 0), .int (nI 0), .int (nI 0)])), (q1, .inl (k1, 500 * zq_nN n, .inl (fun _ => 0)))] := hD
        refine W.widen (k := 1) (n := 16000) (by omega) (by omega) ?_
        refine va_putF (D := (dC, dI)) (ci := 0) (v := .ref q1) (ty := (.array .byte)) (C := R_BlockDesk) (T := F_BlockDesk) (N := 11) hx hb hts hin0 t_BlockDesk t_BlockDesk_ok n_BlockDesk hown hK hP hD hS 0 rfl rfl 0 (by decide) (hts (.fieldLink R_BlockDesk 9 "BlockDesk" "journal" "[B") (by decide +kernel)) (fun _ h9 => h9) rfl hin rfl (by decide +kernel) rfl rfl (Nat.le_of_ble_eq_true rfl) d_BlockDesk_init_40 (fun H locs hP hD hS => ?_)
        have hP : va_P (dC, dI) classes [(a0, .inr (0, [.ref q1, .null, .int (nI 0), .int (nI 0), .null, .int (nI 0), .null, .int (nI 0), .int (nI 0), .int (nI 0), .int (nI 0)])), (q1, .inl (k1, 500 * zq_nN n, .inl (fun _ => 0)))] H := hP
        have hD : va_D A [(a0, .inr (0, [.ref q1, .null, .int (nI 0), .int (nI 0), .null, .int (nI 0), .null, .int (nI 0), .int (nI 0), .int (nI 0), .int (nI 0)])), (q1, .inl (k1, 500 * zq_nN n, .inl (fun _ => 0)))] := hD
        refine lv_aload_n hx hb d_BlockDesk_init_43 rfl (lv_at hl 2 rfl) ?_
        refine lv_iload_n hx hb d_BlockDesk_init_44 rfl (lv_at hl 0 rfl) ?_
        refine lv_iconst (v := nI 4) hx hb d_BlockDesk_init_45 (by decide +kernel) ?_
        refine lv_idiv hx hb d_BlockDesk_init_46 (by decide +kernel) ?_
        refine xq_top (nI ((500 * zq_nN n) / 4)) (pk_div (by omega) (by omega) (by omega)) ?_
        refine lv_iconst (v := nI 1) hx hb d_BlockDesk_init_47 (by decide +kernel) ?_
        refine lv_iadd hx hb d_BlockDesk_init_48 ?_
        refine xq_top (nI ((500 * zq_nN n) / 4 + 1)) (nI_add _ _) ?_
        refine xq_top (nI (125 * zq_nN n + 1)) (congrArg nI (by omega)) ?_
        refine va_newa (atype := .int) (ty := .int) (N' := 125 * zq_nN n + 1) (a0 := (125 * zq_nN n + 1, .inl (fun _ => 0))) hx hb (hts (.arrayClass .int) (by decide +kernel)) rfl hK hP hD hS hA (fun _ => rfl) (nI_pos (by omega)) (nI_clamp (by omega)) (show (125 * zq_nN n + 1) * 4 ≤ 536870912 by omega) (show 1 + 1 ≤ 4 by omega) (show 16000 + (125 * zq_nN n + 1) ≤ 36001 by omega) d_BlockDesk_init_49 (fun q2 k2 H hK hP hD hS => ?_)
        have hK : va_K (dC, dI) classes [(k1, .byte), (k2, .int)] s := hK
        have hP : va_P (dC, dI) classes [(a0, .inr (0, [.ref q1, .null, .int (nI 0), .int (nI 0), .null, .int (nI 0), .null, .int (nI 0), .int (nI 0), .int (nI 0), .int (nI 0)])), (q1, .inl (k1, 500 * zq_nN n, .inl (fun _ => 0))), (q2, .inl (k2, 125 * zq_nN n + 1, .inl (fun _ => 0)))] H := hP
        have hD : va_D A [(a0, .inr (0, [.ref q1, .null, .int (nI 0), .int (nI 0), .null, .int (nI 0), .null, .int (nI 0), .int (nI 0), .int (nI 0), .int (nI 0)])), (q1, .inl (k1, 500 * zq_nN n, .inl (fun _ => 0))), (q2, .inl (k2, 125 * zq_nN n + 1, .inl (fun _ => 0)))] := hD
        refine W.widen (k := 2) (n := 20001) (by omega) (by omega) ?_
        refine va_putF (D := (dC, dI)) (ci := 0) (v := .ref q2) (ty := (.array .int)) (C := R_BlockDesk) (T := F_BlockDesk) (N := 11) hx hb hts hin0 t_BlockDesk t_BlockDesk_ok n_BlockDesk hown hK hP hD hS 0 rfl rfl 1 (by decide) (hts (.fieldLink R_BlockDesk 13 "BlockDesk" "starts" "[I") (by decide +kernel)) (fun _ h9 => h9) rfl hin rfl (by decide +kernel) rfl rfl (Nat.le_of_ble_eq_true rfl) d_BlockDesk_init_51 (fun H locs hP hD hS => ?_)
        have hP : va_P (dC, dI) classes [(a0, .inr (0, [.ref q1, .ref q2, .int (nI 0), .int (nI 0), .null, .int (nI 0), .null, .int (nI 0), .int (nI 0), .int (nI 0), .int (nI 0)])), (q1, .inl (k1, 500 * zq_nN n, .inl (fun _ => 0))), (q2, .inl (k2, 125 * zq_nN n + 1, .inl (fun _ => 0)))] H := hP
        have hD : va_D A [(a0, .inr (0, [.ref q1, .ref q2, .int (nI 0), .int (nI 0), .null, .int (nI 0), .null, .int (nI 0), .int (nI 0), .int (nI 0), .int (nI 0)])), (q1, .inl (k1, 500 * zq_nN n, .inl (fun _ => 0))), (q2, .inl (k2, 125 * zq_nN n + 1, .inl (fun _ => 0)))] := hD
        refine lv_aload_n hx hb d_BlockDesk_init_54 rfl (lv_at hl 2 rfl) ?_
        refine lv_sipush (v := nI 8000) hx hb d_BlockDesk_init_55 (by decide +kernel) ?_
        refine va_newa (atype := .byte) (ty := .byte) (N' := 8000) (a0 := (8000, .inl (fun _ => 0))) hx hb (hts (.arrayClass .byte) (by decide +kernel)) rfl hK hP hD hS hA (fun _ => rfl) (nI_pos (by omega)) (nI_clamp (by omega)) (show (8000) * 1 ≤ 536870912 by omega) (show 2 + 1 ≤ 4 by omega) (show 20001 + (8000) ≤ 36001 by omega) d_BlockDesk_init_58 (fun q3 k3 H hK hP hD hS => ?_)
        have hK : va_K (dC, dI) classes [(k1, .byte), (k2, .int), (k3, .byte)] s := hK
        have hP : va_P (dC, dI) classes [(a0, .inr (0, [.ref q1, .ref q2, .int (nI 0), .int (nI 0), .null, .int (nI 0), .null, .int (nI 0), .int (nI 0), .int (nI 0), .int (nI 0)])), (q1, .inl (k1, 500 * zq_nN n, .inl (fun _ => 0))), (q2, .inl (k2, 125 * zq_nN n + 1, .inl (fun _ => 0))), (q3, .inl (k3, 8000, .inl (fun _ => 0)))] H := hP
        have hD : va_D A [(a0, .inr (0, [.ref q1, .ref q2, .int (nI 0), .int (nI 0), .null, .int (nI 0), .null, .int (nI 0), .int (nI 0), .int (nI 0), .int (nI 0)])), (q1, .inl (k1, 500 * zq_nN n, .inl (fun _ => 0))), (q2, .inl (k2, 125 * zq_nN n + 1, .inl (fun _ => 0))), (q3, .inl (k3, 8000, .inl (fun _ => 0)))] := hD
        refine W.widen (k := 3) (n := 28001) (by omega) (by omega) ?_
        refine va_put (D := (dC, dI)) (ci := 0) (v := .ref q3) (ty := (.array .byte)) (C := R_BlockDesk) (T := F_BlockDesk) (N := 11) hx hb hts hin0 t_BlockDesk t_BlockDesk_ok n_BlockDesk hown hK hP hD hS 0 rfl rfl 4 (by decide) (hts (.fieldLink R_BlockDesk 17 "BlockDesk" "snapshotBytes" "[B") (by decide +kernel)) (fun _ h9 => h9) rfl (by decide +kernel) rfl rfl (Nat.le_of_ble_eq_true rfl) d_BlockDesk_init_60 (fun H locs hP hD hS => ?_)
        have hP : va_P (dC, dI) classes [(a0, .inr (0, [.ref q1, .ref q2, .int (nI 0), .int (nI 0), .ref q3, .int (nI 0), .null, .int (nI 0), .int (nI 0), .int (nI 0), .int (nI 0)])), (q1, .inl (k1, 500 * zq_nN n, .inl (fun _ => 0))), (q2, .inl (k2, 125 * zq_nN n + 1, .inl (fun _ => 0))), (q3, .inl (k3, 8000, .inl (fun _ => 0)))] H := hP
        have hD : va_D A [(a0, .inr (0, [.ref q1, .ref q2, .int (nI 0), .int (nI 0), .ref q3, .int (nI 0), .null, .int (nI 0), .int (nI 0), .int (nI 0), .int (nI 0)])), (q1, .inl (k1, 500 * zq_nN n, .inl (fun _ => 0))), (q2, .inl (k2, 125 * zq_nN n + 1, .inl (fun _ => 0))), (q3, .inl (k3, 8000, .inl (fun _ => 0)))] := hD
        refine lv_aload_n hx hb d_BlockDesk_init_63 rfl (lv_at hl 2 rfl) ?_
        refine lv_sipush (v := nI 8000) hx hb d_BlockDesk_init_64 (by decide +kernel) ?_
        refine va_newa (atype := .byte) (ty := .byte) (N' := 8000) (a0 := (8000, .inl (fun _ => 0))) hx hb (hts (.arrayClass .byte) (by decide +kernel)) rfl hK hP hD hS hA (fun _ => rfl) (nI_pos (by omega)) (nI_clamp (by omega)) (show (8000) * 1 ≤ 536870912 by omega) (show 3 + 1 ≤ 4 by omega) (show 28001 + (8000) ≤ 36001 by omega) d_BlockDesk_init_67 (fun q4 k4 H hK hP hD hS => ?_)
        have hK : va_K (dC, dI) classes [(k1, .byte), (k2, .int), (k3, .byte), (k4, .byte)] s := hK
        have hP : va_P (dC, dI) classes [(a0, .inr (0, [.ref q1, .ref q2, .int (nI 0), .int (nI 0), .ref q3, .int (nI 0), .null, .int (nI 0), .int (nI 0), .int (nI 0), .int (nI 0)])), (q1, .inl (k1, 500 * zq_nN n, .inl (fun _ => 0))), (q2, .inl (k2, 125 * zq_nN n + 1, .inl (fun _ => 0))), (q3, .inl (k3, 8000, .inl (fun _ => 0))), (q4, .inl (k4, 8000, .inl (fun _ => 0)))] H := hP
        have hD : va_D A [(a0, .inr (0, [.ref q1, .ref q2, .int (nI 0), .int (nI 0), .ref q3, .int (nI 0), .null, .int (nI 0), .int (nI 0), .int (nI 0), .int (nI 0)])), (q1, .inl (k1, 500 * zq_nN n, .inl (fun _ => 0))), (q2, .inl (k2, 125 * zq_nN n + 1, .inl (fun _ => 0))), (q3, .inl (k3, 8000, .inl (fun _ => 0))), (q4, .inl (k4, 8000, .inl (fun _ => 0)))] := hD
        refine W.widen (k := 4) (n := 36001) (by omega) (by omega) ?_
        refine va_put (D := (dC, dI)) (ci := 0) (v := .ref q4) (ty := (.array .byte)) (C := R_BlockDesk) (T := F_BlockDesk) (N := 11) hx hb hts hin0 t_BlockDesk t_BlockDesk_ok n_BlockDesk hown hK hP hD hS 0 rfl rfl 6 (by decide) (hts (.fieldLink R_BlockDesk 20 "BlockDesk" "handBytes" "[B") (by decide +kernel)) (fun _ h9 => h9) rfl (by decide +kernel) rfl rfl (Nat.le_of_ble_eq_true rfl) d_BlockDesk_init_69 (fun H locs hP hD hS => ?_)
        have hP : va_P (dC, dI) classes [(a0, .inr (0, [.ref q1, .ref q2, .int (nI 0), .int (nI 0), .ref q3, .int (nI 0), .ref q4, .int (nI 0), .int (nI 0), .int (nI 0), .int (nI 0)])), (q1, .inl (k1, 500 * zq_nN n, .inl (fun _ => 0))), (q2, .inl (k2, 125 * zq_nN n + 1, .inl (fun _ => 0))), (q3, .inl (k3, 8000, .inl (fun _ => 0))), (q4, .inl (k4, 8000, .inl (fun _ => 0)))] H := hP
        have hD : va_D A [(a0, .inr (0, [.ref q1, .ref q2, .int (nI 0), .int (nI 0), .ref q3, .int (nI 0), .ref q4, .int (nI 0), .int (nI 0), .int (nI 0), .int (nI 0)])), (q1, .inl (k1, 500 * zq_nN n, .inl (fun _ => 0))), (q2, .inl (k2, 125 * zq_nN n + 1, .inl (fun _ => 0))), (q3, .inl (k3, 8000, .inl (fun _ => 0))), (q4, .inl (k4, 8000, .inl (fun _ => 0)))] := hD
        refine lv_aload_n hx hb d_BlockDesk_init_72 rfl (lv_at hl 2 rfl) ?_
        refine lv_iconst (v := nI 1) hx hb d_BlockDesk_init_73 (by decide +kernel) ?_
        refine va_put (D := (dC, dI)) (ci := 0) (v := .int (nI 1)) (ty := .boolean) (C := R_BlockDesk) (T := F_BlockDesk) (N := 11) hx hb hts hin0 t_BlockDesk t_BlockDesk_ok n_BlockDesk hown hK hP hD hS 0 rfl rfl 8 (by decide) (hts (.fieldLink R_BlockDesk 23 "BlockDesk" "up" "Z") (by decide +kernel)) (fun _ h9 => h9) rfl (by decide +kernel) zq_nb1 zq_fb1 (Nat.le_of_ble_eq_true rfl) d_BlockDesk_init_74 (fun H locs hP hD hS => ?_)
        have hP : va_P (dC, dI) classes [(a0, .inr (0, [.ref q1, .ref q2, .int (nI 0), .int (nI 0), .ref q3, .int (nI 0), .ref q4, .int (nI 0), .int (nI 1), .int (nI 0), .int (nI 0)])), (q1, .inl (k1, 500 * zq_nN n, .inl (fun _ => 0))), (q2, .inl (k2, 125 * zq_nN n + 1, .inl (fun _ => 0))), (q3, .inl (k3, 8000, .inl (fun _ => 0))), (q4, .inl (k4, 8000, .inl (fun _ => 0)))] H := hP
        have hD : va_D A [(a0, .inr (0, [.ref q1, .ref q2, .int (nI 0), .int (nI 0), .ref q3, .int (nI 0), .ref q4, .int (nI 0), .int (nI 1), .int (nI 0), .int (nI 0)])), (q1, .inl (k1, 500 * zq_nN n, .inl (fun _ => 0))), (q2, .inl (k2, 125 * zq_nN n + 1, .inl (fun _ => 0))), (q3, .inl (k3, 8000, .inl (fun _ => 0))), (q4, .inl (k4, 8000, .inl (fun _ => 0)))] := hD
        refine lv_aload_n hx hb d_BlockDesk_init_77 rfl (lv_at hl 2 rfl) ?_
        refine lv_iconst (v := (-1)) hx hb d_BlockDesk_init_78 (by decide +kernel) ?_
        refine va_put (D := (dC, dI)) (ci := 0) (v := .int (-1)) (ty := .int) (C := R_BlockDesk) (T := F_BlockDesk) (N := 11) hx hb hts hin0 t_BlockDesk t_BlockDesk_ok n_BlockDesk hown hK hP hD hS 0 rfl rfl 9 (by decide) (hts (.fieldLink R_BlockDesk 27 "BlockDesk" "charge" "I") (by decide +kernel)) (fun _ h9 => h9) rfl (by decide +kernel) rfl rfl (Nat.le_of_ble_eq_true rfl) d_BlockDesk_init_79 (fun H locs hP hD hS => ?_)
        have hP : va_P (dC, dI) classes [(a0, .inr (0, [.ref q1, .ref q2, .int (nI 0), .int (nI 0), .ref q3, .int (nI 0), .ref q4, .int (nI 0), .int (nI 1), .int (-1), .int (nI 0)])), (q1, .inl (k1, 500 * zq_nN n, .inl (fun _ => 0))), (q2, .inl (k2, 125 * zq_nN n + 1, .inl (fun _ => 0))), (q3, .inl (k3, 8000, .inl (fun _ => 0))), (q4, .inl (k4, 8000, .inl (fun _ => 0)))] H := hP
        have hD : va_D A [(a0, .inr (0, [.ref q1, .ref q2, .int (nI 0), .int (nI 0), .ref q3, .int (nI 0), .ref q4, .int (nI 0), .int (nI 1), .int (-1), .int (nI 0)])), (q1, .inl (k1, 500 * zq_nN n, .inl (fun _ => 0))), (q2, .inl (k2, 125 * zq_nN n + 1, .inl (fun _ => 0))), (q3, .inl (k3, 8000, .inl (fun _ => 0))), (q4, .inl (k4, 8000, .inl (fun _ => 0)))] := hD
        have hP9 := hP.sub (ws' := [(a0, .inr (0, [.ref q1, .ref q2, .int (nI 0), .int (nI 0), .ref q3, .int (nI 0), .ref q4, .int (nI 0), .int (nI 1), .int (-1), .int (nI 0)])), (q1, .inl (k1, 500 * zq_nN n, .inl (fun _ => 0))), (q2, .inl (k2, 125 * zq_nN n + 1, .inl (fun _ => 0))), (q3, .inl (k3, 8000, .inl (fun _ => 0))), (q4, .inl (k4, 8000, .inl (fun _ => 0)))]) [0, 1, 2, 3, 4] rfl
        have hD9 := hD.sub (ws' := [(a0, .inr (0, [.ref q1, .ref q2, .int (nI 0), .int (nI 0), .ref q3, .int (nI 0), .ref q4, .int (nI 0), .int (nI 1), .int (-1), .int (nI 0)])), (q1, .inl (k1, 500 * zq_nN n, .inl (fun _ => 0))), (q2, .inl (k2, 125 * zq_nN n + 1, .inl (fun _ => 0))), (q3, .inl (k3, 8000, .inl (fun _ => 0))), (q4, .inl (k4, 8000, .inl (fun _ => 0)))]) [0, 1, 2, 3, 4] (by decide) rfl
        have hK9 := hK.sub (tys' := [(k1, .byte), (k2, .int), (k3, .byte), (k4, .byte)]) [0, 1, 2, 3] rfl
        exact W.vret hx hb hr (fun t ht hW => ⟨⟨(q1, q2, q3, q4, k1, k2, k3, k4), rfl, trivial, by rw [ht]; exact hP9, va_K.moved hW.alike hK9, hD9⟩, hS.F ht⟩) hS.2.2 d_BlockDesk_init_82
      · exact absurd rfl c_22
    · have c_12 : ¬ (((32 : Nat) : Int) < n.toInt) := fun h9 => c_12 ((xq_lt_l (by omega)).mpr h9)
      refine lv_iconst (v := nI 1) hx hb d_BlockDesk_init_15 (by decide +kernel) ?_
      refine lv_goto (tgt := 20) hx hb d_BlockDesk_init_16 (by decide) ?_
      refine lv_istore_n (lv' := [(2, .int (nI 1)), (0, .ref a0), (1, .int n)]) hx hb d_BlockDesk_init_20 rfl hl (by decide) rfl (fun ls hl => ?_)
      refine lv_iload_n hx hb d_BlockDesk_init_21 rfl (lv_at hl 0 rfl) ?_
      refine lv_if_eq (tgt := 29) hx hb d_BlockDesk_init_22 (by decide) (fun c_22 => ?_) (fun c_22 => ?_)
      · exact absurd c_22 (xq_n0 (by omega) (by omega))
      · refine lv_iload_n hx hb d_BlockDesk_init_25 rfl (lv_at hl 2 rfl) ?_
        refine lv_goto (tgt := 31) hx hb d_BlockDesk_init_26 (by decide) ?_
        refine xq_top (nI (zq_nN n)) (zq_nN_a c_6 c_12) ?_
        refine lv_sipush (v := nI 500) hx hb d_BlockDesk_init_31 (by decide +kernel) ?_
        refine lv_imul hx hb d_BlockDesk_init_34 ?_
        refine xq_top (nI ((zq_nN n) * 500)) (pk_mul _ _) ?_
        refine xq_top (nI (500 * zq_nN n)) (congrArg nI (by omega)) ?_
        refine lv_istore_n (lv' := [(3, .int (nI (500 * zq_nN n))), (2, .int (nI 1)), (0, .ref a0), (1, .int n)]) hx hb d_BlockDesk_init_35 rfl hl (by decide) rfl (fun ls hl => ?_)
        refine lv_aload_n hx hb d_BlockDesk_init_36 rfl (lv_at hl 2 rfl) ?_
        refine lv_iload_n hx hb d_BlockDesk_init_37 rfl (lv_at hl 0 rfl) ?_
        refine va_newa (atype := .byte) (ty := .byte) (N' := 500 * zq_nN n) (a0 := (500 * zq_nN n, .inl (fun _ => 0))) hx hb (hts (.arrayClass .byte) (by decide +kernel)) rfl hK hP hD hS hA (fun _ => rfl) (nI_pos (by omega)) (nI_clamp (by omega)) (show (500 * zq_nN n) * 1 ≤ 536870912 by omega) (show 0 + 1 ≤ 4 by omega) (show 0 + (500 * zq_nN n) ≤ 36001 by omega) d_BlockDesk_init_38 (fun q1 k1 H hK hP hD hS => ?_)
        have hK : va_K (dC, dI) classes [(k1, .byte)] s := hK
        have hP : va_P (dC, dI) classes [(a0, .inr (0, [.null, .null, .int (nI 0), .int (nI 0), .null, .int (nI 0), .null, .int (nI 0), .int (nI 0), .int (nI 0), .int (nI 0)])), (q1, .inl (k1, 500 * zq_nN n, .inl (fun _ => 0)))] H := hP
        have hD : va_D A [(a0, .inr (0, [.null, .null, .int (nI 0), .int (nI 0), .null, .int (nI 0), .null, .int (nI 0), .int (nI 0), .int (nI 0), .int (nI 0)])), (q1, .inl (k1, 500 * zq_nN n, .inl (fun _ => 0)))] := hD
        refine W.widen (k := 1) (n := 16000) (by omega) (by omega) ?_
        refine va_putF (D := (dC, dI)) (ci := 0) (v := .ref q1) (ty := (.array .byte)) (C := R_BlockDesk) (T := F_BlockDesk) (N := 11) hx hb hts hin0 t_BlockDesk t_BlockDesk_ok n_BlockDesk hown hK hP hD hS 0 rfl rfl 0 (by decide) (hts (.fieldLink R_BlockDesk 9 "BlockDesk" "journal" "[B") (by decide +kernel)) (fun _ h9 => h9) rfl hin rfl (by decide +kernel) rfl rfl (Nat.le_of_ble_eq_true rfl) d_BlockDesk_init_40 (fun H locs hP hD hS => ?_)
        have hP : va_P (dC, dI) classes [(a0, .inr (0, [.ref q1, .null, .int (nI 0), .int (nI 0), .null, .int (nI 0), .null, .int (nI 0), .int (nI 0), .int (nI 0), .int (nI 0)])), (q1, .inl (k1, 500 * zq_nN n, .inl (fun _ => 0)))] H := hP
        have hD : va_D A [(a0, .inr (0, [.ref q1, .null, .int (nI 0), .int (nI 0), .null, .int (nI 0), .null, .int (nI 0), .int (nI 0), .int (nI 0), .int (nI 0)])), (q1, .inl (k1, 500 * zq_nN n, .inl (fun _ => 0)))] := hD
        refine lv_aload_n hx hb d_BlockDesk_init_43 rfl (lv_at hl 2 rfl) ?_
        refine lv_iload_n hx hb d_BlockDesk_init_44 rfl (lv_at hl 0 rfl) ?_
        refine lv_iconst (v := nI 4) hx hb d_BlockDesk_init_45 (by decide +kernel) ?_
        refine lv_idiv hx hb d_BlockDesk_init_46 (by decide +kernel) ?_
        refine xq_top (nI ((500 * zq_nN n) / 4)) (pk_div (by omega) (by omega) (by omega)) ?_
        refine lv_iconst (v := nI 1) hx hb d_BlockDesk_init_47 (by decide +kernel) ?_
        refine lv_iadd hx hb d_BlockDesk_init_48 ?_
        refine xq_top (nI ((500 * zq_nN n) / 4 + 1)) (nI_add _ _) ?_
        refine xq_top (nI (125 * zq_nN n + 1)) (congrArg nI (by omega)) ?_
        refine va_newa (atype := .int) (ty := .int) (N' := 125 * zq_nN n + 1) (a0 := (125 * zq_nN n + 1, .inl (fun _ => 0))) hx hb (hts (.arrayClass .int) (by decide +kernel)) rfl hK hP hD hS hA (fun _ => rfl) (nI_pos (by omega)) (nI_clamp (by omega)) (show (125 * zq_nN n + 1) * 4 ≤ 536870912 by omega) (show 1 + 1 ≤ 4 by omega) (show 16000 + (125 * zq_nN n + 1) ≤ 36001 by omega) d_BlockDesk_init_49 (fun q2 k2 H hK hP hD hS => ?_)
        have hK : va_K (dC, dI) classes [(k1, .byte), (k2, .int)] s := hK
        have hP : va_P (dC, dI) classes [(a0, .inr (0, [.ref q1, .null, .int (nI 0), .int (nI 0), .null, .int (nI 0), .null, .int (nI 0), .int (nI 0), .int (nI 0), .int (nI 0)])), (q1, .inl (k1, 500 * zq_nN n, .inl (fun _ => 0))), (q2, .inl (k2, 125 * zq_nN n + 1, .inl (fun _ => 0)))] H := hP
        have hD : va_D A [(a0, .inr (0, [.ref q1, .null, .int (nI 0), .int (nI 0), .null, .int (nI 0), .null, .int (nI 0), .int (nI 0), .int (nI 0), .int (nI 0)])), (q1, .inl (k1, 500 * zq_nN n, .inl (fun _ => 0))), (q2, .inl (k2, 125 * zq_nN n + 1, .inl (fun _ => 0)))] := hD
        refine W.widen (k := 2) (n := 20001) (by omega) (by omega) ?_
        refine va_putF (D := (dC, dI)) (ci := 0) (v := .ref q2) (ty := (.array .int)) (C := R_BlockDesk) (T := F_BlockDesk) (N := 11) hx hb hts hin0 t_BlockDesk t_BlockDesk_ok n_BlockDesk hown hK hP hD hS 0 rfl rfl 1 (by decide) (hts (.fieldLink R_BlockDesk 13 "BlockDesk" "starts" "[I") (by decide +kernel)) (fun _ h9 => h9) rfl hin rfl (by decide +kernel) rfl rfl (Nat.le_of_ble_eq_true rfl) d_BlockDesk_init_51 (fun H locs hP hD hS => ?_)
        have hP : va_P (dC, dI) classes [(a0, .inr (0, [.ref q1, .ref q2, .int (nI 0), .int (nI 0), .null, .int (nI 0), .null, .int (nI 0), .int (nI 0), .int (nI 0), .int (nI 0)])), (q1, .inl (k1, 500 * zq_nN n, .inl (fun _ => 0))), (q2, .inl (k2, 125 * zq_nN n + 1, .inl (fun _ => 0)))] H := hP
        have hD : va_D A [(a0, .inr (0, [.ref q1, .ref q2, .int (nI 0), .int (nI 0), .null, .int (nI 0), .null, .int (nI 0), .int (nI 0), .int (nI 0), .int (nI 0)])), (q1, .inl (k1, 500 * zq_nN n, .inl (fun _ => 0))), (q2, .inl (k2, 125 * zq_nN n + 1, .inl (fun _ => 0)))] := hD
        refine lv_aload_n hx hb d_BlockDesk_init_54 rfl (lv_at hl 2 rfl) ?_
        refine lv_sipush (v := nI 8000) hx hb d_BlockDesk_init_55 (by decide +kernel) ?_
        refine va_newa (atype := .byte) (ty := .byte) (N' := 8000) (a0 := (8000, .inl (fun _ => 0))) hx hb (hts (.arrayClass .byte) (by decide +kernel)) rfl hK hP hD hS hA (fun _ => rfl) (nI_pos (by omega)) (nI_clamp (by omega)) (show (8000) * 1 ≤ 536870912 by omega) (show 2 + 1 ≤ 4 by omega) (show 20001 + (8000) ≤ 36001 by omega) d_BlockDesk_init_58 (fun q3 k3 H hK hP hD hS => ?_)
        have hK : va_K (dC, dI) classes [(k1, .byte), (k2, .int), (k3, .byte)] s := hK
        have hP : va_P (dC, dI) classes [(a0, .inr (0, [.ref q1, .ref q2, .int (nI 0), .int (nI 0), .null, .int (nI 0), .null, .int (nI 0), .int (nI 0), .int (nI 0), .int (nI 0)])), (q1, .inl (k1, 500 * zq_nN n, .inl (fun _ => 0))), (q2, .inl (k2, 125 * zq_nN n + 1, .inl (fun _ => 0))), (q3, .inl (k3, 8000, .inl (fun _ => 0)))] H := hP
        have hD : va_D A [(a0, .inr (0, [.ref q1, .ref q2, .int (nI 0), .int (nI 0), .null, .int (nI 0), .null, .int (nI 0), .int (nI 0), .int (nI 0), .int (nI 0)])), (q1, .inl (k1, 500 * zq_nN n, .inl (fun _ => 0))), (q2, .inl (k2, 125 * zq_nN n + 1, .inl (fun _ => 0))), (q3, .inl (k3, 8000, .inl (fun _ => 0)))] := hD
        refine W.widen (k := 3) (n := 28001) (by omega) (by omega) ?_
        refine va_put (D := (dC, dI)) (ci := 0) (v := .ref q3) (ty := (.array .byte)) (C := R_BlockDesk) (T := F_BlockDesk) (N := 11) hx hb hts hin0 t_BlockDesk t_BlockDesk_ok n_BlockDesk hown hK hP hD hS 0 rfl rfl 4 (by decide) (hts (.fieldLink R_BlockDesk 17 "BlockDesk" "snapshotBytes" "[B") (by decide +kernel)) (fun _ h9 => h9) rfl (by decide +kernel) rfl rfl (Nat.le_of_ble_eq_true rfl) d_BlockDesk_init_60 (fun H locs hP hD hS => ?_)
        have hP : va_P (dC, dI) classes [(a0, .inr (0, [.ref q1, .ref q2, .int (nI 0), .int (nI 0), .ref q3, .int (nI 0), .null, .int (nI 0), .int (nI 0), .int (nI 0), .int (nI 0)])), (q1, .inl (k1, 500 * zq_nN n, .inl (fun _ => 0))), (q2, .inl (k2, 125 * zq_nN n + 1, .inl (fun _ => 0))), (q3, .inl (k3, 8000, .inl (fun _ => 0)))] H := hP
        have hD : va_D A [(a0, .inr (0, [.ref q1, .ref q2, .int (nI 0), .int (nI 0), .ref q3, .int (nI 0), .null, .int (nI 0), .int (nI 0), .int (nI 0), .int (nI 0)])), (q1, .inl (k1, 500 * zq_nN n, .inl (fun _ => 0))), (q2, .inl (k2, 125 * zq_nN n + 1, .inl (fun _ => 0))), (q3, .inl (k3, 8000, .inl (fun _ => 0)))] := hD
        refine lv_aload_n hx hb d_BlockDesk_init_63 rfl (lv_at hl 2 rfl) ?_
        refine lv_sipush (v := nI 8000) hx hb d_BlockDesk_init_64 (by decide +kernel) ?_
        refine va_newa (atype := .byte) (ty := .byte) (N' := 8000) (a0 := (8000, .inl (fun _ => 0))) hx hb (hts (.arrayClass .byte) (by decide +kernel)) rfl hK hP hD hS hA (fun _ => rfl) (nI_pos (by omega)) (nI_clamp (by omega)) (show (8000) * 1 ≤ 536870912 by omega) (show 3 + 1 ≤ 4 by omega) (show 28001 + (8000) ≤ 36001 by omega) d_BlockDesk_init_67 (fun q4 k4 H hK hP hD hS => ?_)
        have hK : va_K (dC, dI) classes [(k1, .byte), (k2, .int), (k3, .byte), (k4, .byte)] s := hK
        have hP : va_P (dC, dI) classes [(a0, .inr (0, [.ref q1, .ref q2, .int (nI 0), .int (nI 0), .ref q3, .int (nI 0), .null, .int (nI 0), .int (nI 0), .int (nI 0), .int (nI 0)])), (q1, .inl (k1, 500 * zq_nN n, .inl (fun _ => 0))), (q2, .inl (k2, 125 * zq_nN n + 1, .inl (fun _ => 0))), (q3, .inl (k3, 8000, .inl (fun _ => 0))), (q4, .inl (k4, 8000, .inl (fun _ => 0)))] H := hP
        have hD : va_D A [(a0, .inr (0, [.ref q1, .ref q2, .int (nI 0), .int (nI 0), .ref q3, .int (nI 0), .null, .int (nI 0), .int (nI 0), .int (nI 0), .int (nI 0)])), (q1, .inl (k1, 500 * zq_nN n, .inl (fun _ => 0))), (q2, .inl (k2, 125 * zq_nN n + 1, .inl (fun _ => 0))), (q3, .inl (k3, 8000, .inl (fun _ => 0))), (q4, .inl (k4, 8000, .inl (fun _ => 0)))] := hD
        refine W.widen (k := 4) (n := 36001) (by omega) (by omega) ?_
        refine va_put (D := (dC, dI)) (ci := 0) (v := .ref q4) (ty := (.array .byte)) (C := R_BlockDesk) (T := F_BlockDesk) (N := 11) hx hb hts hin0 t_BlockDesk t_BlockDesk_ok n_BlockDesk hown hK hP hD hS 0 rfl rfl 6 (by decide) (hts (.fieldLink R_BlockDesk 20 "BlockDesk" "handBytes" "[B") (by decide +kernel)) (fun _ h9 => h9) rfl (by decide +kernel) rfl rfl (Nat.le_of_ble_eq_true rfl) d_BlockDesk_init_69 (fun H locs hP hD hS => ?_)
        have hP : va_P (dC, dI) classes [(a0, .inr (0, [.ref q1, .ref q2, .int (nI 0), .int (nI 0), .ref q3, .int (nI 0), .ref q4, .int (nI 0), .int (nI 0), .int (nI 0), .int (nI 0)])), (q1, .inl (k1, 500 * zq_nN n, .inl (fun _ => 0))), (q2, .inl (k2, 125 * zq_nN n + 1, .inl (fun _ => 0))), (q3, .inl (k3, 8000, .inl (fun _ => 0))), (q4, .inl (k4, 8000, .inl (fun _ => 0)))] H := hP
        have hD : va_D A [(a0, .inr (0, [.ref q1, .ref q2, .int (nI 0), .int (nI 0), .ref q3, .int (nI 0), .ref q4, .int (nI 0), .int (nI 0), .int (nI 0), .int (nI 0)])), (q1, .inl (k1, 500 * zq_nN n, .inl (fun _ => 0))), (q2, .inl (k2, 125 * zq_nN n + 1, .inl (fun _ => 0))), (q3, .inl (k3, 8000, .inl (fun _ => 0))), (q4, .inl (k4, 8000, .inl (fun _ => 0)))] := hD
        refine lv_aload_n hx hb d_BlockDesk_init_72 rfl (lv_at hl 2 rfl) ?_
        refine lv_iconst (v := nI 1) hx hb d_BlockDesk_init_73 (by decide +kernel) ?_
        refine va_put (D := (dC, dI)) (ci := 0) (v := .int (nI 1)) (ty := .boolean) (C := R_BlockDesk) (T := F_BlockDesk) (N := 11) hx hb hts hin0 t_BlockDesk t_BlockDesk_ok n_BlockDesk hown hK hP hD hS 0 rfl rfl 8 (by decide) (hts (.fieldLink R_BlockDesk 23 "BlockDesk" "up" "Z") (by decide +kernel)) (fun _ h9 => h9) rfl (by decide +kernel) zq_nb1 zq_fb1 (Nat.le_of_ble_eq_true rfl) d_BlockDesk_init_74 (fun H locs hP hD hS => ?_)
        have hP : va_P (dC, dI) classes [(a0, .inr (0, [.ref q1, .ref q2, .int (nI 0), .int (nI 0), .ref q3, .int (nI 0), .ref q4, .int (nI 0), .int (nI 1), .int (nI 0), .int (nI 0)])), (q1, .inl (k1, 500 * zq_nN n, .inl (fun _ => 0))), (q2, .inl (k2, 125 * zq_nN n + 1, .inl (fun _ => 0))), (q3, .inl (k3, 8000, .inl (fun _ => 0))), (q4, .inl (k4, 8000, .inl (fun _ => 0)))] H := hP
        have hD : va_D A [(a0, .inr (0, [.ref q1, .ref q2, .int (nI 0), .int (nI 0), .ref q3, .int (nI 0), .ref q4, .int (nI 0), .int (nI 1), .int (nI 0), .int (nI 0)])), (q1, .inl (k1, 500 * zq_nN n, .inl (fun _ => 0))), (q2, .inl (k2, 125 * zq_nN n + 1, .inl (fun _ => 0))), (q3, .inl (k3, 8000, .inl (fun _ => 0))), (q4, .inl (k4, 8000, .inl (fun _ => 0)))] := hD
        refine lv_aload_n hx hb d_BlockDesk_init_77 rfl (lv_at hl 2 rfl) ?_
        refine lv_iconst (v := (-1)) hx hb d_BlockDesk_init_78 (by decide +kernel) ?_
        refine va_put (D := (dC, dI)) (ci := 0) (v := .int (-1)) (ty := .int) (C := R_BlockDesk) (T := F_BlockDesk) (N := 11) hx hb hts hin0 t_BlockDesk t_BlockDesk_ok n_BlockDesk hown hK hP hD hS 0 rfl rfl 9 (by decide) (hts (.fieldLink R_BlockDesk 27 "BlockDesk" "charge" "I") (by decide +kernel)) (fun _ h9 => h9) rfl (by decide +kernel) rfl rfl (Nat.le_of_ble_eq_true rfl) d_BlockDesk_init_79 (fun H locs hP hD hS => ?_)
        have hP : va_P (dC, dI) classes [(a0, .inr (0, [.ref q1, .ref q2, .int (nI 0), .int (nI 0), .ref q3, .int (nI 0), .ref q4, .int (nI 0), .int (nI 1), .int (-1), .int (nI 0)])), (q1, .inl (k1, 500 * zq_nN n, .inl (fun _ => 0))), (q2, .inl (k2, 125 * zq_nN n + 1, .inl (fun _ => 0))), (q3, .inl (k3, 8000, .inl (fun _ => 0))), (q4, .inl (k4, 8000, .inl (fun _ => 0)))] H := hP
        have hD : va_D A [(a0, .inr (0, [.ref q1, .ref q2, .int (nI 0), .int (nI 0), .ref q3, .int (nI 0), .ref q4, .int (nI 0), .int (nI 1), .int (-1), .int (nI 0)])), (q1, .inl (k1, 500 * zq_nN n, .inl (fun _ => 0))), (q2, .inl (k2, 125 * zq_nN n + 1, .inl (fun _ => 0))), (q3, .inl (k3, 8000, .inl (fun _ => 0))), (q4, .inl (k4, 8000, .inl (fun _ => 0)))] := hD
        have hP9 := hP.sub (ws' := [(a0, .inr (0, [.ref q1, .ref q2, .int (nI 0), .int (nI 0), .ref q3, .int (nI 0), .ref q4, .int (nI 0), .int (nI 1), .int (-1), .int (nI 0)])), (q1, .inl (k1, 500 * zq_nN n, .inl (fun _ => 0))), (q2, .inl (k2, 125 * zq_nN n + 1, .inl (fun _ => 0))), (q3, .inl (k3, 8000, .inl (fun _ => 0))), (q4, .inl (k4, 8000, .inl (fun _ => 0)))]) [0, 1, 2, 3, 4] rfl
        have hD9 := hD.sub (ws' := [(a0, .inr (0, [.ref q1, .ref q2, .int (nI 0), .int (nI 0), .ref q3, .int (nI 0), .ref q4, .int (nI 0), .int (nI 1), .int (-1), .int (nI 0)])), (q1, .inl (k1, 500 * zq_nN n, .inl (fun _ => 0))), (q2, .inl (k2, 125 * zq_nN n + 1, .inl (fun _ => 0))), (q3, .inl (k3, 8000, .inl (fun _ => 0))), (q4, .inl (k4, 8000, .inl (fun _ => 0)))]) [0, 1, 2, 3, 4] (by decide) rfl
        have hK9 := hK.sub (tys' := [(k1, .byte), (k2, .int), (k3, .byte), (k4, .byte)]) [0, 1, 2, 3] rfl
        exact W.vret hx hb hr (fun t ht hW => ⟨⟨(q1, q2, q3, q4, k1, k2, k3, k4), rfl, trivial, by rw [ht]; exact hP9, va_K.moved hW.alike hK9, hD9⟩, hS.F ht⟩) hS.2.2 d_BlockDesk_init_82
set_option maxHeartbeats 4000000 in
set_option maxRecDepth 100000 in
theorem c_BlockDeskModel_init (l : Launch) (dC : Nat → ClassId) (dI : Nat → Nat → Nat) (sz : Nat) (b0 : Nat) (n : Int32)  : Met l y_BlockDeskModel_init w_BlockDeskModel_init ({ frames := 1, cells := 4, slots := 36001, locals := 22 }) (va_Pc [.ref b0, .int n] (fun U => U.heap.size = sz ∧ va_P (dC, dI) classes [(b0, .inr (1, [.int (nI 0), .int (nI 0), .int (nI 0), .int (nI 0), .int (nI 0), .int (nI 0), .null, .int (nI 0), .null, .int (nI 0), .null, .null, .int (nI 0)]))] U.heap ∧ va_K (dC, dI) classes [] U ∧ va_D (fun _ => True) [(b0, .inr (1, [.int (nI 0), .int (nI 0), .int (nI 0), .int (nI 0), .int (nI 0), .int (nI 0), .null, .int (nI 0), .null, .int (nI 0), .null, .null, .int (nI 0)]))])) (va_Qv (fun (_ : Nat × Nat × Nat × Nat × ClassId × ClassId × ClassId × ClassId) => True) (fun (u : Nat × Nat × Nat × Nat × ClassId × ClassId × ClassId × ClassId) (t : State) => match u with | (b1, b2, b3, b4, o1, o2, o3, o4) => va_P (dC, dI) classes [(b0, .inr (1, [.int (nI (zq_nN n)), .int (nI 1), .int (-1), .int (nI 0), .int (nI 0), .int (nI 0), .ref b1, .int (nI 0), .ref b2, .int (nI 0), .ref b3, .ref b4, .int (nI 0)])), (b1, .inl (o1, 8000, .inl (fun _ => 0))), (b2, .inl (o2, 8000, .inl (fun _ => 0))), (b3, .inl (o3, 16000, .inl (fun _ => 0))), (b4, .inl (o4, 4001, .inl (fun _ => 0)))] t.heap ∧ va_K (dC, dI) classes [(o1, .int), (o2, .int), (o3, .int), (o4, .int)] t ∧ va_D (va_A [(b0, .inr (1, [.int (nI 0), .int (nI 0), .int (nI 0), .int (nI 0), .int (nI 0), .int (nI 0), .null, .int (nI 0), .null, .int (nI 0), .null, .null, .int (nI 0)]))] sz) [(b0, .inr (1, [.int (nI (zq_nN n)), .int (nI 1), .int (-1), .int (nI 0), .int (nI 0), .int (nI 0), .ref b1, .int (nI 0), .ref b2, .int (nI 0), .ref b3, .ref b4, .int (nI 0)])), (b1, .inl (o1, 8000, .inl (fun _ => 0))), (b2, .inl (o2, 8000, .inl (fun _ => 0))), (b3, .inl (o3, 16000, .inl (fun _ => 0))), (b4, .inl (o4, 4001, .inl (fun _ => 0)))]) (va_A [(b0, .inr (1, [.int (nI 0), .int (nI 0), .int (nI 0), .int (nI 0), .int (nI 0), .int (nI 0), .null, .int (nI 0), .null, .int (nI 0), .null, .null, .int (nI 0)]))] sz)) 4 36001 (va_A [(b0, .inr (1, [.int (nI 0), .int (nI 0), .int (nI 0), .int (nI 0), .int (nI 0), .int (nI 0), .null, .int (nI 0), .null, .int (nI 0), .null, .null, .int (nI 0)]))] sz) := by
  refine Met.ofW (cc := b_BlockDeskModel_init) (maxL := 2) (ret := none) (by decide) rfl ?_
  intro p e s m args below meth c s₁ B hml hv
  obtain ⟨rfl, hsz, hP, hK, hD0⟩ := hv
  have hx := B.exec
  have hb := B.bytes
  have hr := B.returns
  have hts := atoms_spec (ws := w_BlockDeskModel_init) B.pre
  have hown : s.vm.findClass R_BlockDeskModel = some m.cls := findClass_of_methodNamed B.named
  have hlocks := B.notSynchronized
  have hin : meth.name = "<init>" := (name_of_methodNamed B.named B.method).1
  subst hsz
  have hD := hD0.self (sz := s.heap.size)
  generalize hAe : va_A [(b0, .inr (1, [.int (nI 0), .int (nI 0), .int (nI 0), .int (nI 0), .int (nI 0), .int (nI 0), .null, .int (nI 0), .null, .int (nI 0), .null, .null, .int (nI 0)]))] s.heap.size = A at hD ⊢
  have hA : ∀ q : Nat, s.heap.size ≤ q → A q := fun q h => by rw [← hAe]; exact Or.inr h
  have hS : va_S A s.heap s.heap [] := va_S.rf
  have hP : va_P (dC, dI) classes [(b0, .inr (1, [.int (nI 0), .int (nI 0), .int (nI 0), .int (nI 0), .int (nI 0), .int (nI 0), .null, .int (nI 0), .null, .int (nI 0), .null, .null, .int (nI 0)]))] s.heap := hP
  have hin1 : ∀ w ∈ u_ws R_BlockDeskModel F_BlockDeskModel 13, w ∈ w_BlockDeskModel_init := by decide +kernel
  have hl := lv_entry ([.ref b0, .int n]) (n := 2) (Nat.le_of_ble_eq_true rfl)
  rw [lg_entry_eq]
  generalize (lg_sl ([.ref b0, .int n]) ++ List.replicate (2 - (lg_sl ([.ref b0, .int n])).length) Slot.unset).toArray = ls at hl ⊢
  have hl : lv_has ls 2 [(0, .ref b0), (1, .int n)] := hl
  refine lv_aload_n hx hb d_BlockDeskModel_init_0 rfl (lv_at hl 0 rfl) ?_
  refine W.objInit hx hb hown (hts (.methodLink R_BlockDeskModel 1 objectInit) (by decide +kernel)) (hts (.instanceMethod objectInit) (by decide +kernel)) (hts _ (List.mem_of_getElem? (i := 3) rfl)) rfl (by rw [hml]; exact hl.1) rfl d_BlockDeskModel_init_1 (Nat.le_of_ble_eq_true rfl) (Nat.le_of_ble_eq_true rfl) ?_
  refine W.eq (g2 := F0 m 4 ls []) rfl ?_
  refine lv_aload_n hx hb d_BlockDeskModel_init_4 rfl (lv_at hl 0 rfl) ?_
  refine lv_iconst (v := nI 1) hx hb d_BlockDeskModel_init_5 (by decide +kernel) ?_
  refine va_put (D := (dC, dI)) (ci := 1) (v := .int (nI 1)) (ty := .boolean) (C := R_BlockDeskModel) (T := F_BlockDeskModel) (N := 13) hx hb hts hin1 t_BlockDeskModel t_BlockDeskModel_ok n_BlockDeskModel hown hK hP hD hS 0 rfl rfl 1 (by decide) (hts (.fieldLink R_BlockDeskModel 7 "BlockDeskModel" "up" "Z") (by decide +kernel)) (fun _ h9 => h9) rfl (by decide +kernel) zq_nb1 zq_fb1 (Nat.le_of_ble_eq_true rfl) d_BlockDeskModel_init_6 (fun H locs hP hD hS => ?_)
  have hP : va_P (dC, dI) classes [(b0, .inr (1, [.int (nI 0), .int (nI 1), .int (nI 0), .int (nI 0), .int (nI 0), .int (nI 0), .null, .int (nI 0), .null, .int (nI 0), .null, .null, .int (nI 0)]))] H := hP
  have hD : va_D A [(b0, .inr (1, [.int (nI 0), .int (nI 1), .int (nI 0), .int (nI 0), .int (nI 0), .int (nI 0), .null, .int (nI 0), .null, .int (nI 0), .null, .null, .int (nI 0)]))] := hD
  refine lv_aload_n hx hb d_BlockDeskModel_init_9 rfl (lv_at hl 0 rfl) ?_
  refine lv_iconst (v := (-1)) hx hb d_BlockDeskModel_init_10 (by decide +kernel) ?_
  refine va_put (D := (dC, dI)) (ci := 1) (v := .int (-1)) (ty := .int) (C := R_BlockDeskModel) (T := F_BlockDeskModel) (N := 13) hx hb hts hin1 t_BlockDeskModel t_BlockDeskModel_ok n_BlockDeskModel hown hK hP hD hS 0 rfl rfl 2 (by decide) (hts (.fieldLink R_BlockDeskModel 13 "BlockDeskModel" "charge" "I") (by decide +kernel)) (fun _ h9 => h9) rfl (by decide +kernel) rfl rfl (Nat.le_of_ble_eq_true rfl) d_BlockDeskModel_init_11 (fun H locs hP hD hS => ?_)
  have hP : va_P (dC, dI) classes [(b0, .inr (1, [.int (nI 0), .int (nI 1), .int (-1), .int (nI 0), .int (nI 0), .int (nI 0), .null, .int (nI 0), .null, .int (nI 0), .null, .null, .int (nI 0)]))] H := hP
  have hD : va_D A [(b0, .inr (1, [.int (nI 0), .int (nI 1), .int (-1), .int (nI 0), .int (nI 0), .int (nI 0), .null, .int (nI 0), .null, .int (nI 0), .null, .null, .int (nI 0)]))] := hD
  refine lv_aload_n hx hb d_BlockDeskModel_init_14 rfl (lv_at hl 0 rfl) ?_
  refine lv_sipush (v := nI 8000) hx hb d_BlockDeskModel_init_15 (by decide +kernel) ?_
  refine va_newa (atype := .int) (ty := .int) (N' := 8000) (a0 := (8000, .inl (fun _ => 0))) hx hb (hts (.arrayClass .int) (by decide +kernel)) rfl hK hP hD hS hA (fun _ => rfl) (nI_pos (by omega)) (nI_clamp (by omega)) (show (8000) * 4 ≤ 536870912 by omega) (show 0 + 1 ≤ 4 by omega) (show 0 + (8000) ≤ 36001 by omega) d_BlockDeskModel_init_18 (fun q1 k1 H hK hP hD hS => ?_)
  have hK : va_K (dC, dI) classes [(k1, .int)] s := hK
  have hP : va_P (dC, dI) classes [(b0, .inr (1, [.int (nI 0), .int (nI 1), .int (-1), .int (nI 0), .int (nI 0), .int (nI 0), .null, .int (nI 0), .null, .int (nI 0), .null, .null, .int (nI 0)])), (q1, .inl (k1, 8000, .inl (fun _ => 0)))] H := hP
  have hD : va_D A [(b0, .inr (1, [.int (nI 0), .int (nI 1), .int (-1), .int (nI 0), .int (nI 0), .int (nI 0), .null, .int (nI 0), .null, .int (nI 0), .null, .null, .int (nI 0)])), (q1, .inl (k1, 8000, .inl (fun _ => 0)))] := hD
  refine W.widen (k := 1) (n := 8000) (by omega) (by omega) ?_
  refine va_putF (D := (dC, dI)) (ci := 1) (v := .ref q1) (ty := (.array .int)) (C := R_BlockDeskModel) (T := F_BlockDeskModel) (N := 13) hx hb hts hin1 t_BlockDeskModel t_BlockDeskModel_ok n_BlockDeskModel hown hK hP hD hS 0 rfl rfl 6 (by decide) (hts (.fieldLink R_BlockDeskModel 17 "BlockDeskModel" "hand" "[I") (by decide +kernel)) (fun _ h9 => h9) rfl hin rfl (by decide +kernel) rfl rfl (Nat.le_of_ble_eq_true rfl) d_BlockDeskModel_init_20 (fun H locs hP hD hS => ?_)
  have hP : va_P (dC, dI) classes [(b0, .inr (1, [.int (nI 0), .int (nI 1), .int (-1), .int (nI 0), .int (nI 0), .int (nI 0), .ref q1, .int (nI 0), .null, .int (nI 0), .null, .null, .int (nI 0)])), (q1, .inl (k1, 8000, .inl (fun _ => 0)))] H := hP
  have hD : va_D A [(b0, .inr (1, [.int (nI 0), .int (nI 1), .int (-1), .int (nI 0), .int (nI 0), .int (nI 0), .ref q1, .int (nI 0), .null, .int (nI 0), .null, .null, .int (nI 0)])), (q1, .inl (k1, 8000, .inl (fun _ => 0)))] := hD
  refine lv_aload_n hx hb d_BlockDeskModel_init_23 rfl (lv_at hl 0 rfl) ?_
  refine lv_sipush (v := nI 8000) hx hb d_BlockDeskModel_init_24 (by decide +kernel) ?_
  refine va_newa (atype := .int) (ty := .int) (N' := 8000) (a0 := (8000, .inl (fun _ => 0))) hx hb (hts (.arrayClass .int) (by decide +kernel)) rfl hK hP hD hS hA (fun _ => rfl) (nI_pos (by omega)) (nI_clamp (by omega)) (show (8000) * 4 ≤ 536870912 by omega) (show 1 + 1 ≤ 4 by omega) (show 8000 + (8000) ≤ 36001 by omega) d_BlockDeskModel_init_27 (fun q2 k2 H hK hP hD hS => ?_)
  have hK : va_K (dC, dI) classes [(k1, .int), (k2, .int)] s := hK
  have hP : va_P (dC, dI) classes [(b0, .inr (1, [.int (nI 0), .int (nI 1), .int (-1), .int (nI 0), .int (nI 0), .int (nI 0), .ref q1, .int (nI 0), .null, .int (nI 0), .null, .null, .int (nI 0)])), (q1, .inl (k1, 8000, .inl (fun _ => 0))), (q2, .inl (k2, 8000, .inl (fun _ => 0)))] H := hP
  have hD : va_D A [(b0, .inr (1, [.int (nI 0), .int (nI 1), .int (-1), .int (nI 0), .int (nI 0), .int (nI 0), .ref q1, .int (nI 0), .null, .int (nI 0), .null, .null, .int (nI 0)])), (q1, .inl (k1, 8000, .inl (fun _ => 0))), (q2, .inl (k2, 8000, .inl (fun _ => 0)))] := hD
  refine W.widen (k := 2) (n := 16000) (by omega) (by omega) ?_
  refine va_putF (D := (dC, dI)) (ci := 1) (v := .ref q2) (ty := (.array .int)) (C := R_BlockDeskModel) (T := F_BlockDeskModel) (N := 13) hx hb hts hin1 t_BlockDeskModel t_BlockDeskModel_ok n_BlockDeskModel hown hK hP hD hS 0 rfl rfl 8 (by decide) (hts (.fieldLink R_BlockDeskModel 21 "BlockDeskModel" "shot" "[I") (by decide +kernel)) (fun _ h9 => h9) rfl hin rfl (by decide +kernel) rfl rfl (Nat.le_of_ble_eq_true rfl) d_BlockDeskModel_init_29 (fun H locs hP hD hS => ?_)
  have hP : va_P (dC, dI) classes [(b0, .inr (1, [.int (nI 0), .int (nI 1), .int (-1), .int (nI 0), .int (nI 0), .int (nI 0), .ref q1, .int (nI 0), .ref q2, .int (nI 0), .null, .null, .int (nI 0)])), (q1, .inl (k1, 8000, .inl (fun _ => 0))), (q2, .inl (k2, 8000, .inl (fun _ => 0)))] H := hP
  have hD : va_D A [(b0, .inr (1, [.int (nI 0), .int (nI 1), .int (-1), .int (nI 0), .int (nI 0), .int (nI 0), .ref q1, .int (nI 0), .ref q2, .int (nI 0), .null, .null, .int (nI 0)])), (q1, .inl (k1, 8000, .inl (fun _ => 0))), (q2, .inl (k2, 8000, .inl (fun _ => 0)))] := hD
  refine lv_aload_n hx hb d_BlockDeskModel_init_32 rfl (lv_at hl 0 rfl) ?_
  refine lv_sipush (v := nI 16000) hx hb d_BlockDeskModel_init_33 (by decide +kernel) ?_
  refine va_newa (atype := .int) (ty := .int) (N' := 16000) (a0 := (16000, .inl (fun _ => 0))) hx hb (hts (.arrayClass .int) (by decide +kernel)) rfl hK hP hD hS hA (fun _ => rfl) (nI_pos (by omega)) (nI_clamp (by omega)) (show (16000) * 4 ≤ 536870912 by omega) (show 2 + 1 ≤ 4 by omega) (show 16000 + (16000) ≤ 36001 by omega) d_BlockDeskModel_init_36 (fun q3 k3 H hK hP hD hS => ?_)
  have hK : va_K (dC, dI) classes [(k1, .int), (k2, .int), (k3, .int)] s := hK
  have hP : va_P (dC, dI) classes [(b0, .inr (1, [.int (nI 0), .int (nI 1), .int (-1), .int (nI 0), .int (nI 0), .int (nI 0), .ref q1, .int (nI 0), .ref q2, .int (nI 0), .null, .null, .int (nI 0)])), (q1, .inl (k1, 8000, .inl (fun _ => 0))), (q2, .inl (k2, 8000, .inl (fun _ => 0))), (q3, .inl (k3, 16000, .inl (fun _ => 0)))] H := hP
  have hD : va_D A [(b0, .inr (1, [.int (nI 0), .int (nI 1), .int (-1), .int (nI 0), .int (nI 0), .int (nI 0), .ref q1, .int (nI 0), .ref q2, .int (nI 0), .null, .null, .int (nI 0)])), (q1, .inl (k1, 8000, .inl (fun _ => 0))), (q2, .inl (k2, 8000, .inl (fun _ => 0))), (q3, .inl (k3, 16000, .inl (fun _ => 0)))] := hD
  refine W.widen (k := 3) (n := 32000) (by omega) (by omega) ?_
  refine va_putF (D := (dC, dI)) (ci := 1) (v := .ref q3) (ty := (.array .int)) (C := R_BlockDeskModel) (T := F_BlockDeskModel) (N := 13) hx hb hts hin1 t_BlockDeskModel t_BlockDeskModel_ok n_BlockDeskModel hown hK hP hD hS 0 rfl rfl 10 (by decide) (hts (.fieldLink R_BlockDeskModel 24 "BlockDeskModel" "bytes" "[I") (by decide +kernel)) (fun _ h9 => h9) rfl hin rfl (by decide +kernel) rfl rfl (Nat.le_of_ble_eq_true rfl) d_BlockDeskModel_init_38 (fun H locs hP hD hS => ?_)
  have hP : va_P (dC, dI) classes [(b0, .inr (1, [.int (nI 0), .int (nI 1), .int (-1), .int (nI 0), .int (nI 0), .int (nI 0), .ref q1, .int (nI 0), .ref q2, .int (nI 0), .ref q3, .null, .int (nI 0)])), (q1, .inl (k1, 8000, .inl (fun _ => 0))), (q2, .inl (k2, 8000, .inl (fun _ => 0))), (q3, .inl (k3, 16000, .inl (fun _ => 0)))] H := hP
  have hD : va_D A [(b0, .inr (1, [.int (nI 0), .int (nI 1), .int (-1), .int (nI 0), .int (nI 0), .int (nI 0), .ref q1, .int (nI 0), .ref q2, .int (nI 0), .ref q3, .null, .int (nI 0)])), (q1, .inl (k1, 8000, .inl (fun _ => 0))), (q2, .inl (k2, 8000, .inl (fun _ => 0))), (q3, .inl (k3, 16000, .inl (fun _ => 0)))] := hD
  refine lv_aload_n hx hb d_BlockDeskModel_init_41 rfl (lv_at hl 0 rfl) ?_
  refine lv_sipush (v := nI 4001) hx hb d_BlockDeskModel_init_42 (by decide +kernel) ?_
  refine va_newa (atype := .int) (ty := .int) (N' := 4001) (a0 := (4001, .inl (fun _ => 0))) hx hb (hts (.arrayClass .int) (by decide +kernel)) rfl hK hP hD hS hA (fun _ => rfl) (nI_pos (by omega)) (nI_clamp (by omega)) (show (4001) * 4 ≤ 536870912 by omega) (show 3 + 1 ≤ 4 by omega) (show 32000 + (4001) ≤ 36001 by omega) d_BlockDeskModel_init_45 (fun q4 k4 H hK hP hD hS => ?_)
  have hK : va_K (dC, dI) classes [(k1, .int), (k2, .int), (k3, .int), (k4, .int)] s := hK
  have hP : va_P (dC, dI) classes [(b0, .inr (1, [.int (nI 0), .int (nI 1), .int (-1), .int (nI 0), .int (nI 0), .int (nI 0), .ref q1, .int (nI 0), .ref q2, .int (nI 0), .ref q3, .null, .int (nI 0)])), (q1, .inl (k1, 8000, .inl (fun _ => 0))), (q2, .inl (k2, 8000, .inl (fun _ => 0))), (q3, .inl (k3, 16000, .inl (fun _ => 0))), (q4, .inl (k4, 4001, .inl (fun _ => 0)))] H := hP
  have hD : va_D A [(b0, .inr (1, [.int (nI 0), .int (nI 1), .int (-1), .int (nI 0), .int (nI 0), .int (nI 0), .ref q1, .int (nI 0), .ref q2, .int (nI 0), .ref q3, .null, .int (nI 0)])), (q1, .inl (k1, 8000, .inl (fun _ => 0))), (q2, .inl (k2, 8000, .inl (fun _ => 0))), (q3, .inl (k3, 16000, .inl (fun _ => 0))), (q4, .inl (k4, 4001, .inl (fun _ => 0)))] := hD
  refine W.widen (k := 4) (n := 36001) (by omega) (by omega) ?_
  refine va_putF (D := (dC, dI)) (ci := 1) (v := .ref q4) (ty := (.array .int)) (C := R_BlockDeskModel) (T := F_BlockDeskModel) (N := 13) hx hb hts hin1 t_BlockDeskModel t_BlockDeskModel_ok n_BlockDeskModel hown hK hP hD hS 0 rfl rfl 11 (by decide) (hts (.fieldLink R_BlockDeskModel 27 "BlockDeskModel" "starts" "[I") (by decide +kernel)) (fun _ h9 => h9) rfl hin rfl (by decide +kernel) rfl rfl (Nat.le_of_ble_eq_true rfl) d_BlockDeskModel_init_47 (fun H locs hP hD hS => ?_)
  have hP : va_P (dC, dI) classes [(b0, .inr (1, [.int (nI 0), .int (nI 1), .int (-1), .int (nI 0), .int (nI 0), .int (nI 0), .ref q1, .int (nI 0), .ref q2, .int (nI 0), .ref q3, .ref q4, .int (nI 0)])), (q1, .inl (k1, 8000, .inl (fun _ => 0))), (q2, .inl (k2, 8000, .inl (fun _ => 0))), (q3, .inl (k3, 16000, .inl (fun _ => 0))), (q4, .inl (k4, 4001, .inl (fun _ => 0)))] H := hP
  have hD : va_D A [(b0, .inr (1, [.int (nI 0), .int (nI 1), .int (-1), .int (nI 0), .int (nI 0), .int (nI 0), .ref q1, .int (nI 0), .ref q2, .int (nI 0), .ref q3, .ref q4, .int (nI 0)])), (q1, .inl (k1, 8000, .inl (fun _ => 0))), (q2, .inl (k2, 8000, .inl (fun _ => 0))), (q3, .inl (k3, 16000, .inl (fun _ => 0))), (q4, .inl (k4, 4001, .inl (fun _ => 0)))] := hD
  refine lv_aload_n hx hb d_BlockDeskModel_init_50 rfl (lv_at hl 0 rfl) ?_
  refine lv_iload_n hx hb d_BlockDeskModel_init_51 rfl (lv_at hl 1 rfl) ?_
  refine lv_iconst (v := nI 2) hx hb d_BlockDeskModel_init_52 (by decide +kernel) ?_
  refine lv_icmp_lt (tgt := 66) hx hb d_BlockDeskModel_init_53 (by decide) (fun c_53 => ?_) (fun c_53 => ?_)
  · have c_53 : n.toInt < ((2 : Nat) : Int) := (xq_lt_r (by omega)).mp c_53
    refine lv_bipush (v := nI 32) hx hb d_BlockDeskModel_init_66 (by decide +kernel) ?_
    refine xq_top (nI (zq_nN n)) (congrArg nI (zq_nN_b (by omega))) ?_
    refine va_putF (D := (dC, dI)) (ci := 1) (v := .int (nI (zq_nN n))) (ty := .int) (C := R_BlockDeskModel) (T := F_BlockDeskModel) (N := 13) hx hb hts hin1 t_BlockDeskModel t_BlockDeskModel_ok n_BlockDeskModel hown hK hP hD hS 0 rfl rfl 0 (by decide) (hts (.fieldLink R_BlockDeskModel 30 "BlockDeskModel" "blocks" "I") (by decide +kernel)) (fun _ h9 => h9) rfl hin rfl (by decide +kernel) rfl rfl (Nat.le_of_ble_eq_true rfl) d_BlockDeskModel_init_68 (fun H locs hP hD hS => ?_)
    have hP : va_P (dC, dI) classes [(b0, .inr (1, [.int (nI (zq_nN n)), .int (nI 1), .int (-1), .int (nI 0), .int (nI 0), .int (nI 0), .ref q1, .int (nI 0), .ref q2, .int (nI 0), .ref q3, .ref q4, .int (nI 0)])), (q1, .inl (k1, 8000, .inl (fun _ => 0))), (q2, .inl (k2, 8000, .inl (fun _ => 0))), (q3, .inl (k3, 16000, .inl (fun _ => 0))), (q4, .inl (k4, 4001, .inl (fun _ => 0)))] H := hP
    have hD : va_D A [(b0, .inr (1, [.int (nI (zq_nN n)), .int (nI 1), .int (-1), .int (nI 0), .int (nI 0), .int (nI 0), .ref q1, .int (nI 0), .ref q2, .int (nI 0), .ref q3, .ref q4, .int (nI 0)])), (q1, .inl (k1, 8000, .inl (fun _ => 0))), (q2, .inl (k2, 8000, .inl (fun _ => 0))), (q3, .inl (k3, 16000, .inl (fun _ => 0))), (q4, .inl (k4, 4001, .inl (fun _ => 0)))] := hD
    have hP9 := hP.sub (ws' := [(b0, .inr (1, [.int (nI (zq_nN n)), .int (nI 1), .int (-1), .int (nI 0), .int (nI 0), .int (nI 0), .ref q1, .int (nI 0), .ref q2, .int (nI 0), .ref q3, .ref q4, .int (nI 0)])), (q1, .inl (k1, 8000, .inl (fun _ => 0))), (q2, .inl (k2, 8000, .inl (fun _ => 0))), (q3, .inl (k3, 16000, .inl (fun _ => 0))), (q4, .inl (k4, 4001, .inl (fun _ => 0)))]) [0, 1, 2, 3, 4] rfl
    have hD9 := hD.sub (ws' := [(b0, .inr (1, [.int (nI (zq_nN n)), .int (nI 1), .int (-1), .int (nI 0), .int (nI 0), .int (nI 0), .ref q1, .int (nI 0), .ref q2, .int (nI 0), .ref q3, .ref q4, .int (nI 0)])), (q1, .inl (k1, 8000, .inl (fun _ => 0))), (q2, .inl (k2, 8000, .inl (fun _ => 0))), (q3, .inl (k3, 16000, .inl (fun _ => 0))), (q4, .inl (k4, 4001, .inl (fun _ => 0)))]) [0, 1, 2, 3, 4] (by decide) rfl
    have hK9 := hK.sub (tys' := [(k1, .int), (k2, .int), (k3, .int), (k4, .int)]) [0, 1, 2, 3] rfl
    exact W.vret hx hb hr (fun t ht hW => ⟨⟨(q1, q2, q3, q4, k1, k2, k3, k4), rfl, trivial, by rw [ht]; exact hP9, va_K.moved hW.alike hK9, hD9⟩, hS.F ht⟩) hS.2.2 d_BlockDeskModel_init_71
  · have c_53 : ¬ (n.toInt < ((2 : Nat) : Int)) := fun h9 => c_53 ((xq_lt_r (by omega)).mpr h9)
    refine lv_iload_n hx hb d_BlockDeskModel_init_56 rfl (lv_at hl 1 rfl) ?_
    refine lv_bipush (v := nI 32) hx hb d_BlockDeskModel_init_57 (by decide +kernel) ?_
    refine lv_icmp_gt (tgt := 66) hx hb d_BlockDeskModel_init_59 (by decide) (fun c_59 => ?_) (fun c_59 => ?_)
    · have c_59 : ((32 : Nat) : Int) < n.toInt := (xq_lt_l (by omega)).mp c_59
      refine lv_bipush (v := nI 32) hx hb d_BlockDeskModel_init_66 (by decide +kernel) ?_
      refine xq_top (nI (zq_nN n)) (congrArg nI (zq_nN_b (by omega))) ?_
      refine va_putF (D := (dC, dI)) (ci := 1) (v := .int (nI (zq_nN n))) (ty := .int) (C := R_BlockDeskModel) (T := F_BlockDeskModel) (N := 13) hx hb hts hin1 t_BlockDeskModel t_BlockDeskModel_ok n_BlockDeskModel hown hK hP hD hS 0 rfl rfl 0 (by decide) (hts (.fieldLink R_BlockDeskModel 30 "BlockDeskModel" "blocks" "I") (by decide +kernel)) (fun _ h9 => h9) rfl hin rfl (by decide +kernel) rfl rfl (Nat.le_of_ble_eq_true rfl) d_BlockDeskModel_init_68 (fun H locs hP hD hS => ?_)
      have hP : va_P (dC, dI) classes [(b0, .inr (1, [.int (nI (zq_nN n)), .int (nI 1), .int (-1), .int (nI 0), .int (nI 0), .int (nI 0), .ref q1, .int (nI 0), .ref q2, .int (nI 0), .ref q3, .ref q4, .int (nI 0)])), (q1, .inl (k1, 8000, .inl (fun _ => 0))), (q2, .inl (k2, 8000, .inl (fun _ => 0))), (q3, .inl (k3, 16000, .inl (fun _ => 0))), (q4, .inl (k4, 4001, .inl (fun _ => 0)))] H := hP
      have hD : va_D A [(b0, .inr (1, [.int (nI (zq_nN n)), .int (nI 1), .int (-1), .int (nI 0), .int (nI 0), .int (nI 0), .ref q1, .int (nI 0), .ref q2, .int (nI 0), .ref q3, .ref q4, .int (nI 0)])), (q1, .inl (k1, 8000, .inl (fun _ => 0))), (q2, .inl (k2, 8000, .inl (fun _ => 0))), (q3, .inl (k3, 16000, .inl (fun _ => 0))), (q4, .inl (k4, 4001, .inl (fun _ => 0)))] := hD
      have hP9 := hP.sub (ws' := [(b0, .inr (1, [.int (nI (zq_nN n)), .int (nI 1), .int (-1), .int (nI 0), .int (nI 0), .int (nI 0), .ref q1, .int (nI 0), .ref q2, .int (nI 0), .ref q3, .ref q4, .int (nI 0)])), (q1, .inl (k1, 8000, .inl (fun _ => 0))), (q2, .inl (k2, 8000, .inl (fun _ => 0))), (q3, .inl (k3, 16000, .inl (fun _ => 0))), (q4, .inl (k4, 4001, .inl (fun _ => 0)))]) [0, 1, 2, 3, 4] rfl
      have hD9 := hD.sub (ws' := [(b0, .inr (1, [.int (nI (zq_nN n)), .int (nI 1), .int (-1), .int (nI 0), .int (nI 0), .int (nI 0), .ref q1, .int (nI 0), .ref q2, .int (nI 0), .ref q3, .ref q4, .int (nI 0)])), (q1, .inl (k1, 8000, .inl (fun _ => 0))), (q2, .inl (k2, 8000, .inl (fun _ => 0))), (q3, .inl (k3, 16000, .inl (fun _ => 0))), (q4, .inl (k4, 4001, .inl (fun _ => 0)))]) [0, 1, 2, 3, 4] (by decide) rfl
      have hK9 := hK.sub (tys' := [(k1, .int), (k2, .int), (k3, .int), (k4, .int)]) [0, 1, 2, 3] rfl
      exact W.vret hx hb hr (fun t ht hW => ⟨⟨(q1, q2, q3, q4, k1, k2, k3, k4), rfl, trivial, by rw [ht]; exact hP9, va_K.moved hW.alike hK9, hD9⟩, hS.F ht⟩) hS.2.2 d_BlockDeskModel_init_71
    · have c_59 : ¬ (((32 : Nat) : Int) < n.toInt) := fun h9 => c_59 ((xq_lt_l (by omega)).mpr h9)
      refine lv_iload_n hx hb d_BlockDeskModel_init_62 rfl (lv_at hl 1 rfl) ?_
      refine lv_goto (tgt := 68) hx hb d_BlockDeskModel_init_63 (by decide) ?_
      refine xq_top (nI (zq_nN n)) (zq_nN_a c_53 c_59) ?_
      refine va_putF (D := (dC, dI)) (ci := 1) (v := .int (nI (zq_nN n))) (ty := .int) (C := R_BlockDeskModel) (T := F_BlockDeskModel) (N := 13) hx hb hts hin1 t_BlockDeskModel t_BlockDeskModel_ok n_BlockDeskModel hown hK hP hD hS 0 rfl rfl 0 (by decide) (hts (.fieldLink R_BlockDeskModel 30 "BlockDeskModel" "blocks" "I") (by decide +kernel)) (fun _ h9 => h9) rfl hin rfl (by decide +kernel) rfl rfl (Nat.le_of_ble_eq_true rfl) d_BlockDeskModel_init_68 (fun H locs hP hD hS => ?_)
      have hP : va_P (dC, dI) classes [(b0, .inr (1, [.int (nI (zq_nN n)), .int (nI 1), .int (-1), .int (nI 0), .int (nI 0), .int (nI 0), .ref q1, .int (nI 0), .ref q2, .int (nI 0), .ref q3, .ref q4, .int (nI 0)])), (q1, .inl (k1, 8000, .inl (fun _ => 0))), (q2, .inl (k2, 8000, .inl (fun _ => 0))), (q3, .inl (k3, 16000, .inl (fun _ => 0))), (q4, .inl (k4, 4001, .inl (fun _ => 0)))] H := hP
      have hD : va_D A [(b0, .inr (1, [.int (nI (zq_nN n)), .int (nI 1), .int (-1), .int (nI 0), .int (nI 0), .int (nI 0), .ref q1, .int (nI 0), .ref q2, .int (nI 0), .ref q3, .ref q4, .int (nI 0)])), (q1, .inl (k1, 8000, .inl (fun _ => 0))), (q2, .inl (k2, 8000, .inl (fun _ => 0))), (q3, .inl (k3, 16000, .inl (fun _ => 0))), (q4, .inl (k4, 4001, .inl (fun _ => 0)))] := hD
      have hP9 := hP.sub (ws' := [(b0, .inr (1, [.int (nI (zq_nN n)), .int (nI 1), .int (-1), .int (nI 0), .int (nI 0), .int (nI 0), .ref q1, .int (nI 0), .ref q2, .int (nI 0), .ref q3, .ref q4, .int (nI 0)])), (q1, .inl (k1, 8000, .inl (fun _ => 0))), (q2, .inl (k2, 8000, .inl (fun _ => 0))), (q3, .inl (k3, 16000, .inl (fun _ => 0))), (q4, .inl (k4, 4001, .inl (fun _ => 0)))]) [0, 1, 2, 3, 4] rfl
      have hD9 := hD.sub (ws' := [(b0, .inr (1, [.int (nI (zq_nN n)), .int (nI 1), .int (-1), .int (nI 0), .int (nI 0), .int (nI 0), .ref q1, .int (nI 0), .ref q2, .int (nI 0), .ref q3, .ref q4, .int (nI 0)])), (q1, .inl (k1, 8000, .inl (fun _ => 0))), (q2, .inl (k2, 8000, .inl (fun _ => 0))), (q3, .inl (k3, 16000, .inl (fun _ => 0))), (q4, .inl (k4, 4001, .inl (fun _ => 0)))]) [0, 1, 2, 3, 4] (by decide) rfl
      have hK9 := hK.sub (tys' := [(k1, .int), (k2, .int), (k3, .int), (k4, .int)]) [0, 1, 2, 3] rfl
      exact W.vret hx hb hr (fun t ht hW => ⟨⟨(q1, q2, q3, q4, k1, k2, k3, k4), rfl, trivial, by rw [ht]; exact hP9, va_K.moved hW.alike hK9, hD9⟩, hS.F ht⟩) hS.2.2 d_BlockDeskModel_init_71
end
section
set_option maxHeartbeats 4000000 in
set_option maxRecDepth 100000 in
theorem c_law_cell (l : Launch) (b L : Nat) (xs : Nat → Int32) (sz : Nat) (hL : L ≤ 2049) : Met l y_law_cell w_law_cell ({ frames := 0, cells := 0, slots := 0, locals := 0 }) (va_Pc [.ref b, .int (nI 0)] (fun U => U.heap.size = sz ∧ b < sz ∧ va_X b L xs U U.heap)) (va_Qi (fun (r : Int32) (_ : Unit) => r = if 0 < L then xs 0 else nI 0) (fun (_ : Unit) (_ : State) => True) (va_A [] sz)) 0 0 (va_A [] sz) := by
  refine Met.ofW (cc := b_law_cell) (maxL := 2) (ret := (some .int)) (by decide) rfl ?_
  intro p e s m args below meth c s₁ B hml hv
  obtain ⟨rfl, hsz, hbl, hX⟩ := hv
  have hx := B.exec
  have hb := B.bytes
  have hr := B.returns
  have hlocks := B.notSynchronized
  subst hsz
  have hbA : ¬ va_A [] s.heap.size b := fun h => by
    rcases h with ⟨k, e, h⟩ | h
    · simp at h
    · omega
  generalize hAe : va_A [] s.heap.size = A at hbA ⊢
  have hS : va_S A s.heap s.heap [] := va_S.rf
  have hl := lv_entry ([.ref b, .int (nI 0)]) (n := 2) (Nat.le_of_ble_eq_true rfl)
  rw [lg_entry_eq]
  generalize (lg_sl ([.ref b, .int (nI 0)]) ++ List.replicate (2 - (lg_sl ([.ref b, .int (nI 0)])).length) Slot.unset).toArray = ls at hl ⊢
  have hl : lv_has ls 2 [(0, .ref b), (1, .int (nI 0))] := hl
  refine lv_iload_n hx hb d_law_cell_0 rfl (lv_at hl 1 rfl) ?_
  refine lv_aload_n hx hb d_law_cell_1 rfl (lv_at hl 0 rfl) ?_
  refine va_slen hx hb hX hbl hbA hS d_law_cell_2 ?_
  refine xq_top (nI L) (rfl) ?_
  refine lv_icmp_ge (tgt := 12) hx hb d_law_cell_3 (by decide) (fun c_3 => ?_) (fun c_3 => ?_)
  · have c_3 : L ≤ 0 := (nI_leI (by omega) (by omega)).mp c_3
    refine lv_iconst (v := nI 0) hx hb d_law_cell_12 (by decide +kernel) ?_
    exact W.iret (v := nI 0) hx hb hr (fun t ht hW => ⟨⟨nI 0, (), rfl, (if_neg (by omega)).symm, trivial⟩, hS.F ht⟩) hS.2.2 d_law_cell_13
  · have c_3 : ¬ (L ≤ 0) := fun h9 => c_3 ((nI_leI (by omega) (by omega)).mpr h9)
    refine lv_aload_n hx hb d_law_cell_6 rfl (lv_at hl 0 rfl) ?_
    refine lv_iload_n hx hb d_law_cell_7 rfl (lv_at hl 1 rfl) ?_
    refine va_sld hx hb hX hbl hbA hS (vp_in_nI (by omega) (by omega)) d_law_cell_8 ?_
    refine xq_top (xs 0) (by rw [nI_clamp (by omega)]) ?_
    refine lv_goto (tgt := 13) hx hb d_law_cell_9 (by decide) ?_
    exact W.iret (v := xs 0) hx hb hr (fun t ht hW => ⟨⟨xs 0, (), rfl, (if_pos (by omega)).symm, trivial⟩, hS.F ht⟩) hS.2.2 d_law_cell_13
end
section
set_option maxHeartbeats 4000000 in
set_option maxRecDepth 100000 in
theorem law_0 {p : Program} {l : Launch} {e : Env} {s : State} {m : MethodId} {below : List Frame} {meth : Method} {c : Code} {dC : Nat → ClassId} {dI : Nat → Nat → Nat} {b L : Nat} {xs : Nat → Int32} (hL : L ≤ 2049) (C0 : lw_At p s m meth c b L xs) (N a0 a1 a2 b0 b1 b2 b3 b4 : Nat) (k1 k2 o1 o2 o3 o4 : ClassId) (i : Nat) (hi : 1 ≤ i) (hi4 : i + 4 ≤ L) (ls : Array Slot) (hl : lv_has ls 4 [(0, .ref b), (1, .ref a0), (2, .ref b0), (3, .int (nI i))]) (KK : ∀ (T : Nat → Nat) (rc bg ss hs tu : Nat) (up ch wr : Int32) (f1 f2 f3 f4 g1 g2 g3 g4 : Nat → Int32) (a3 a4 : Nat) (k3 k4 : ClassId) (H : Heap) (locs : List Loc), zq_I N T (i + 4) rc bg ss hs tu ch f1 f2 f3 f4 g1 g2 g3 g4 → va_K (dC, dI) classes [(k1, .byte), (k2, .int), (k3, .byte), (k4, .byte), (o1, .int), (o2, .int), (o3, .int), (o4, .int)] s → va_P (dC, dI) classes [(a0, .inr (0, [.ref a1, .ref a2, .int (nI rc), .int (nI bg), .ref a3, .int (nI ss), .ref a4, .int (nI hs), .int up, .int ch, .int wr])), (a1, .inl (k1, (500 * N), .inl f1)), (a2, .inl (k2, (125 * N + 1), .inl f2)), (a3, .inl (k3, 8000, .inl f3)), (a4, .inl (k4, 8000, .inl f4)), (b0, .inr (1, [.int (nI N), .int up, .int ch, .int wr, .int (nI bg), .int (nI (bg + tu)), .ref b1, .int (nI hs), .ref b2, .int (nI ss), .ref b3, .ref b4, .int (nI rc)])), (b1, .inl (o1, 8000, .inl g1)), (b2, .inl (o2, 8000, .inl g2)), (b3, .inl (o3, 16000, .inl g3)), (b4, .inl (o4, 4001, .inl g4))] H → va_D (fun q : Nat => s.heap.size ≤ q) [(a0, .inr (0, [.ref a1, .ref a2, .int (nI rc), .int (nI bg), .ref a3, .int (nI ss), .ref a4, .int (nI hs), .int up, .int ch, .int wr])), (a1, .inl (k1, (500 * N), .inl f1)), (a2, .inl (k2, (125 * N + 1), .inl f2)), (a3, .inl (k3, 8000, .inl f3)), (a4, .inl (k4, 8000, .inl f4)), (b0, .inr (1, [.int (nI N), .int up, .int ch, .int wr, .int (nI bg), .int (nI (bg + tu)), .ref b1, .int (nI hs), .ref b2, .int (nI ss), .ref b3, .ref b4, .int (nI rc)])), (b1, .inl (o1, 8000, .inl g1)), (b2, .inl (o2, 8000, .inl g2)), (b3, .inl (o3, 16000, .inl g3)), (b4, .inl (o4, 4001, .inl g4))] → va_S (fun q : Nat => s.heap.size ≤ q) s.heap H locs → W p l e room_1 s m #[Value.ref b] below meth c H locs 600000 7302250 (lw_Z below #[Value.ref b] s) (F0 m 346 ls [])) : ∀ (T : Nat → Nat) (rc bg ss hs tu : Nat) (up ch wr : Int32) (f1 f2 f3 f4 g1 g2 g3 g4 : Nat → Int32) (a3 a4 : Nat) (k3 k4 : ClassId) (H : Heap) (locs : List Loc), zq_I N T i rc bg ss hs tu ch f1 f2 f3 f4 g1 g2 g3 g4 → va_K (dC, dI) classes [(k1, .byte), (k2, .int), (k3, .byte), (k4, .byte), (o1, .int), (o2, .int), (o3, .int), (o4, .int)] s → va_P (dC, dI) classes [(a0, .inr (0, [.ref a1, .ref a2, .int (nI rc), .int (nI bg), .ref a3, .int (nI ss), .ref a4, .int (nI hs), .int up, .int ch, .int wr])), (a1, .inl (k1, (500 * N), .inl f1)), (a2, .inl (k2, (125 * N + 1), .inl f2)), (a3, .inl (k3, 8000, .inl f3)), (a4, .inl (k4, 8000, .inl f4)), (b0, .inr (1, [.int (nI N), .int up, .int ch, .int wr, .int (nI bg), .int (nI (bg + tu)), .ref b1, .int (nI hs), .ref b2, .int (nI ss), .ref b3, .ref b4, .int (nI rc)])), (b1, .inl (o1, 8000, .inl g1)), (b2, .inl (o2, 8000, .inl g2)), (b3, .inl (o3, 16000, .inl g3)), (b4, .inl (o4, 4001, .inl g4))] H → va_D (fun q : Nat => s.heap.size ≤ q) [(a0, .inr (0, [.ref a1, .ref a2, .int (nI rc), .int (nI bg), .ref a3, .int (nI ss), .ref a4, .int (nI hs), .int up, .int ch, .int wr])), (a1, .inl (k1, (500 * N), .inl f1)), (a2, .inl (k2, (125 * N + 1), .inl f2)), (a3, .inl (k3, 8000, .inl f3)), (a4, .inl (k4, 8000, .inl f4)), (b0, .inr (1, [.int (nI N), .int up, .int ch, .int wr, .int (nI bg), .int (nI (bg + tu)), .ref b1, .int (nI hs), .ref b2, .int (nI ss), .ref b3, .ref b4, .int (nI rc)])), (b1, .inl (o1, 8000, .inl g1)), (b2, .inl (o2, 8000, .inl g2)), (b3, .inl (o3, 16000, .inl g3)), (b4, .inl (o4, 4001, .inl g4))] → va_S (fun q : Nat => s.heap.size ≤ q) s.heap H locs → W p l e room_1 s m #[Value.ref b] below meth c H locs 600000 7302250 (lw_Z below #[Value.ref b] s) (F0 m 96 ls []) := by
  intro T rc bg ss hs tu up ch wr f1 f2 f3 f4 g1 g2 g3 g4 a3 a4 k3 k4 H locs hI hK hP hD hS
  obtain ⟨hx, hb, hr, hml, hown, hts, hX, hbl, hlocks, hgv⟩ := C0
  have hA : ∀ q : Nat, s.heap.size ≤ q → (fun q : Nat => s.heap.size ≤ q) q := fun _ h => h
  have hbA : ¬ (fun q : Nat => s.heap.size ≤ q) b := Nat.not_le.mpr hbl
  obtain ⟨⟨hN2, hN⟩, ⟨hT0, hM, hTtu, htb⟩, ⟨⟨qq, hbg⟩, hbi⟩, ⟨hss, hhs⟩, hch, ⟨hT2, hT4⟩, hjr, hsn, hRB⟩ := id hI
  have h4 := zq_T4 hT0 hM
  have hTm := zq_Tle hM hTtu
  have h4t := h4 rc (Nat.le_refl _)
  rw [hTtu] at h4t
  have htu2 : f2 rc = nI tu := by rw [hT2 rc (Nat.le_refl _), hTtu]
  have hba : g4 rc = nI (tu - 4 * rc) := by rw [hT4 rc (Nat.le_refl _), hTtu]
  refine lv_aload_n hx hb d_law_96 rfl (lv_at hl 1 rfl) ?_
  refine lv_aload_n hx hb d_law_97 rfl (lv_at hl 0 rfl) ?_
  refine lv_iload_n hx hb d_law_98 rfl (lv_at hl 3 rfl) ?_
  refine lv_iconst (v := nI 1) hx hb d_law_99 (by decide +kernel) ?_
  refine lv_iadd hx hb d_law_100 ?_
  refine xq_top (nI (i + 1)) (nI_add _ _) ?_
  refine va_sld hx hb hX hbl hbA hS (vp_in_nI (by omega) (by omega)) d_law_101 ?_
  refine xq_top (xs (i + 1)) (by rw [nI_clamp (by omega)]) ?_
  refine lv_i2l (v := (xs (i + 1)).toInt64) hx hb d_law_102 rfl ?_
  refine lv_bipush (v := nI 32) hx hb d_law_103 (by decide +kernel) ?_
  refine lv_lshl (v := ((xs (i + 1)).toInt64) <<< ((nI 32).toInt64 &&& 63)) hx hb d_law_105 rfl ?_
  refine lv_aload_n hx hb d_law_106 rfl (lv_at hl 0 rfl) ?_
  refine lv_iload_n hx hb d_law_107 rfl (lv_at hl 3 rfl) ?_
  refine lv_iconst (v := nI 2) hx hb d_law_108 (by decide +kernel) ?_
  refine lv_iadd hx hb d_law_109 ?_
  refine xq_top (nI (i + 2)) (nI_add _ _) ?_
  refine va_sld hx hb hX hbl hbA hS (vp_in_nI (by omega) (by omega)) d_law_110 ?_
  refine xq_top (xs (i + 2)) (by rw [nI_clamp (by omega)]) ?_
  refine lv_i2l (v := (xs (i + 2)).toInt64) hx hb d_law_111 rfl ?_
  refine lv_ldc2 (v := 4294967295) hx hb hown (hts (.constantLong R_law 21 4294967295) (by decide +kernel)) d_law_112 ?_
  refine lv_land hx hb d_law_115 ?_
  refine lv_lor hx hb d_law_116 ?_
  refine lv_aload_n hx hb d_law_117 rfl (lv_at hl 0 rfl) ?_
  refine lv_iload_n hx hb d_law_118 rfl (lv_at hl 3 rfl) ?_
  refine lv_iconst (v := nI 3) hx hb d_law_119 (by decide +kernel) ?_
  refine lv_iadd hx hb d_law_120 ?_
  refine xq_top (nI (i + 3)) (nI_add _ _) ?_
  refine va_sld hx hb hX hbl hbA hS (vp_in_nI (by omega) (by omega)) d_law_121 ?_
  refine xq_top (xs (i + 3)) (by rw [nI_clamp (by omega)]) ?_
  have hPc := hP.sub (ws' := [(a0, .inr (0, [.ref a1, .ref a2, .int (nI rc), .int (nI bg), .ref a3, .int (nI ss), .ref a4, .int (nI hs), .int up, .int ch, .int wr])), (a4, .inl (k4, 8000, .inl f4))]) [0, 4] rfl
  have hDc := hD.sub (ws' := [(a0, .inr (0, [.ref a1, .ref a2, .int (nI rc), .int (nI bg), .ref a3, .int (nI ss), .ref a4, .int (nI hs), .int up, .int ch, .int wr])), (a4, .inl (k4, 8000, .inl f4))]) [0, 4] (by decide) rfl
  have hKc := hK.sub (tys' := [(k4, .byte)]) [3] rfl
  have hFc := va_free (wc := [(a0, .inr (0, [.ref a1, .ref a2, .int (nI rc), .int (nI bg), .ref a3, .int (nI ss), .ref a4, .int (nI hs), .int up, .int ch, .int wr])), (a4, .inl (k4, 8000, .inl f4))]) hD hS hA [0, 4] rfl
  refine va_calli (va_runV (As := [.long ((((xs (i + 1)).toInt64) <<< ((nI 32).toInt64 &&& 63)) ||| (((xs (i + 2)).toInt64) &&& 4294967295)), .int (xs (i + 3))]) (rest := []) ⟨hx, hb, hml, hown, hts⟩ (c_BlockDesk_put l dC dI H.size a0 a1 a2 a3 a4 rc bg ss hs up ch wr k4 f4 ((((xs (i + 1)).toInt64) <<< ((nI 32).toInt64 &&& 63)) ||| (((xs (i + 2)).toInt64) &&& 4294967295)) (xs (i + 3)) hhs) (cwV 2 hts g_law_BlockDesk_put rfl rfl rfl (by decide +kernel) ⟨Nat.le_of_ble_eq_true rfl, Nat.le_of_ble_eq_true rfl⟩) ⟨fun a U g mk q => by obtain ⟨q0, q1, qP, qK, qD⟩ := q; exact ⟨q0, q1, qP, va_K.moved (u := U) (U := U.calling g mk a) (Vm.Alike.refl U.vm) qK, qD⟩, va_recv hKc hPc (ci := 0) (q0 := 0) rfl rfl, fun U hU hW => ⟨rfl, by rw [hU], by rw [hU]; exact hPc, va_K.moved hW.alike hKc, hDc.weaken (fun _ _ _ _ => trivial)⟩⟩ rfl rfl hl.1 rfl (lv_room (Nat.le_of_ble_eq_true rfl)) d_law_122 ⟨Nat.le_of_ble_eq_true rfl, Nat.le_of_ble_eq_true rfl⟩) hS (fun q _ h => hFc q h) hFc (fun r1 u t H1 locs ht hvm hw hB hz1 hk1 hS => ?_)
  obtain ⟨hx1, fa⟩ := u
  obtain ⟨hP1, hK1, hD1⟩ := hB
  rw [ht] at hP1
  try dsimp only at hw
  obtain ⟨hP, hD⟩ := va_join (wr := [(a1, .inl (k1, (500 * N), .inl f1)), (a2, .inl (k2, (125 * N + 1), .inl f2)), (a3, .inl (k3, 8000, .inl f3)), (b0, .inr (1, [.int (nI N), .int up, .int ch, .int wr, .int (nI bg), .int (nI (bg + tu)), .ref b1, .int (nI hs), .ref b2, .int (nI ss), .ref b3, .ref b4, .int (nI rc)])), (b1, .inl (o1, 8000, .inl g1)), (b2, .inl (o2, 8000, .inl g2)), (b3, .inl (o3, 16000, .inl g3)), (b4, .inl (o4, 4001, .inl g4))]) (w1 := [(a0, .inr (0, [.ref a1, .ref a2, .int (nI rc), .int (nI bg), .ref a3, .int (nI ss), .ref a4, .int (nI hx1), .int up, .int ch, .int wr])), (a4, .inl (k4, 8000, .inl fa))]) hP hD [0, 4] [1, 2, 3, 5, 6, 7, 8, 9] rfl rfl (by decide) (by decide) hk1 hFc hP1 hD1
  generalize H1 = H at hP hS ⊢
  have hP : va_P (dC, dI) classes [(a1, .inl (k1, (500 * N), .inl f1)), (a2, .inl (k2, (125 * N + 1), .inl f2)), (a3, .inl (k3, 8000, .inl f3)), (b0, .inr (1, [.int (nI N), .int up, .int ch, .int wr, .int (nI bg), .int (nI (bg + tu)), .ref b1, .int (nI hs), .ref b2, .int (nI ss), .ref b3, .ref b4, .int (nI rc)])), (b1, .inl (o1, 8000, .inl g1)), (b2, .inl (o2, 8000, .inl g2)), (b3, .inl (o3, 16000, .inl g3)), (b4, .inl (o4, 4001, .inl g4)), (a0, .inr (0, [.ref a1, .ref a2, .int (nI rc), .int (nI bg), .ref a3, .int (nI ss), .ref a4, .int (nI hx1), .int up, .int ch, .int wr])), (a4, .inl (k4, 8000, .inl fa))] H := hP
  have hD : va_D (fun q : Nat => s.heap.size ≤ q) [(a1, .inl (k1, (500 * N), .inl f1)), (a2, .inl (k2, (125 * N + 1), .inl f2)), (a3, .inl (k3, 8000, .inl f3)), (b0, .inr (1, [.int (nI N), .int up, .int ch, .int wr, .int (nI bg), .int (nI (bg + tu)), .ref b1, .int (nI hs), .ref b2, .int (nI ss), .ref b3, .ref b4, .int (nI rc)])), (b1, .inl (o1, 8000, .inl g1)), (b2, .inl (o2, 8000, .inl g2)), (b3, .inl (o3, 16000, .inl g3)), (b4, .inl (o4, 4001, .inl g4)), (a0, .inr (0, [.ref a1, .ref a2, .int (nI rc), .int (nI bg), .ref a3, .int (nI ss), .ref a4, .int (nI hx1), .int up, .int ch, .int wr])), (a4, .inl (k4, 8000, .inl fa))] := hD
  have hw_r1 := hw
  refine lv_aload_n hx hb d_law_125 rfl (lv_at hl 2 rfl) ?_
  refine lv_aload_n hx hb d_law_126 rfl (lv_at hl 0 rfl) ?_
  refine lv_iload_n hx hb d_law_127 rfl (lv_at hl 3 rfl) ?_
  refine lv_iconst (v := nI 1) hx hb d_law_128 (by decide +kernel) ?_
  refine lv_iadd hx hb d_law_129 ?_
  refine xq_top (nI (i + 1)) (nI_add _ _) ?_
  refine va_sld hx hb hX hbl hbA hS (vp_in_nI (by omega) (by omega)) d_law_130 ?_
  refine xq_top (xs (i + 1)) (by rw [nI_clamp (by omega)]) ?_
  refine lv_i2l (v := (xs (i + 1)).toInt64) hx hb d_law_131 rfl ?_
  refine lv_bipush (v := nI 32) hx hb d_law_132 (by decide +kernel) ?_
  refine lv_lshl (v := ((xs (i + 1)).toInt64) <<< ((nI 32).toInt64 &&& 63)) hx hb d_law_134 rfl ?_
  refine lv_aload_n hx hb d_law_135 rfl (lv_at hl 0 rfl) ?_
  refine lv_iload_n hx hb d_law_136 rfl (lv_at hl 3 rfl) ?_
  refine lv_iconst (v := nI 2) hx hb d_law_137 (by decide +kernel) ?_
  refine lv_iadd hx hb d_law_138 ?_
  refine xq_top (nI (i + 2)) (nI_add _ _) ?_
  refine va_sld hx hb hX hbl hbA hS (vp_in_nI (by omega) (by omega)) d_law_139 ?_
  refine xq_top (xs (i + 2)) (by rw [nI_clamp (by omega)]) ?_
  refine lv_i2l (v := (xs (i + 2)).toInt64) hx hb d_law_140 rfl ?_
  refine lv_ldc2 (v := 4294967295) hx hb hown (hts (.constantLong R_law 21 4294967295) (by decide +kernel)) d_law_141 ?_
  refine lv_land hx hb d_law_144 ?_
  refine lv_lor hx hb d_law_145 ?_
  refine lv_aload_n hx hb d_law_146 rfl (lv_at hl 0 rfl) ?_
  refine lv_iload_n hx hb d_law_147 rfl (lv_at hl 3 rfl) ?_
  refine lv_iconst (v := nI 3) hx hb d_law_148 (by decide +kernel) ?_
  refine lv_iadd hx hb d_law_149 ?_
  refine xq_top (nI (i + 3)) (nI_add _ _) ?_
  refine va_sld hx hb hX hbl hbA hS (vp_in_nI (by omega) (by omega)) d_law_150 ?_
  refine xq_top (xs (i + 3)) (by rw [nI_clamp (by omega)]) ?_
  have hPc := hP.sub (ws' := [(b0, .inr (1, [.int (nI N), .int up, .int ch, .int wr, .int (nI bg), .int (nI (bg + tu)), .ref b1, .int (nI hs), .ref b2, .int (nI ss), .ref b3, .ref b4, .int (nI rc)])), (b1, .inl (o1, 8000, .inl g1))]) [3, 4] rfl
  have hDc := hD.sub (ws' := [(b0, .inr (1, [.int (nI N), .int up, .int ch, .int wr, .int (nI bg), .int (nI (bg + tu)), .ref b1, .int (nI hs), .ref b2, .int (nI ss), .ref b3, .ref b4, .int (nI rc)])), (b1, .inl (o1, 8000, .inl g1))]) [3, 4] (by decide) rfl
  have hKc := hK.sub (tys' := [(o1, .int)]) [4] rfl
  have hFc := va_free (wc := [(b0, .inr (1, [.int (nI N), .int up, .int ch, .int wr, .int (nI bg), .int (nI (bg + tu)), .ref b1, .int (nI hs), .ref b2, .int (nI ss), .ref b3, .ref b4, .int (nI rc)])), (b1, .inl (o1, 8000, .inl g1))]) hD hS hA [3, 4] rfl
  refine va_calli (va_runV (As := [.long ((((xs (i + 1)).toInt64) <<< ((nI 32).toInt64 &&& 63)) ||| (((xs (i + 2)).toInt64) &&& 4294967295)), .int (xs (i + 3))]) (rest := [.int r1]) ⟨hx, hb, hml, hown, hts⟩ (c_BlockDeskModel_put l dC dI H.size b0 b1 b2 b3 b4 N rc bg (bg + tu) ss hs up ch wr o1 g1 ((((xs (i + 1)).toInt64) <<< ((nI 32).toInt64 &&& 63)) ||| (((xs (i + 2)).toInt64) &&& 4294967295)) (xs (i + 3)) hhs) (cwV 2 hts g_law_BlockDeskModel_put rfl rfl rfl (by decide +kernel) ⟨Nat.le_of_ble_eq_true rfl, Nat.le_of_ble_eq_true rfl⟩) ⟨fun a U g mk q => by obtain ⟨q0, q1, qP, qK, qD⟩ := q; exact ⟨q0, q1, qP, va_K.moved (u := U) (U := U.calling g mk a) (Vm.Alike.refl U.vm) qK, qD⟩, va_recv hKc hPc (ci := 1) (q0 := 0) rfl rfl, fun U hU hW => ⟨rfl, by rw [hU], by rw [hU]; exact hPc, va_K.moved hW.alike hKc, hDc.weaken (fun _ _ _ _ => trivial)⟩⟩ rfl rfl hl.1 rfl (lv_room (Nat.le_of_ble_eq_true rfl)) d_law_151 ⟨Nat.le_of_ble_eq_true rfl, Nat.le_of_ble_eq_true rfl⟩) hS (fun q _ h => hFc q h) hFc (fun r2 u t H1 locs ht hvm hw hB hz1 hk1 hS => ?_)
  obtain ⟨hy, ga⟩ := u
  obtain ⟨hP1, hK1, hD1⟩ := hB
  rw [ht] at hP1
  try dsimp only at hw
  obtain ⟨hP, hD⟩ := va_join (wr := [(a1, .inl (k1, (500 * N), .inl f1)), (a2, .inl (k2, (125 * N + 1), .inl f2)), (a3, .inl (k3, 8000, .inl f3)), (b2, .inl (o2, 8000, .inl g2)), (b3, .inl (o3, 16000, .inl g3)), (b4, .inl (o4, 4001, .inl g4)), (a0, .inr (0, [.ref a1, .ref a2, .int (nI rc), .int (nI bg), .ref a3, .int (nI ss), .ref a4, .int (nI hx1), .int up, .int ch, .int wr])), (a4, .inl (k4, 8000, .inl fa))]) (w1 := [(b0, .inr (1, [.int (nI N), .int up, .int ch, .int wr, .int (nI bg), .int (nI (bg + tu)), .ref b1, .int (nI hy), .ref b2, .int (nI ss), .ref b3, .ref b4, .int (nI rc)])), (b1, .inl (o1, 8000, .inl ga))]) hP hD [3, 4] [0, 1, 2, 5, 6, 7, 8, 9] rfl rfl (by decide) (by decide) hk1 hFc hP1 hD1
  generalize H1 = H at hP hS ⊢
  have hP : va_P (dC, dI) classes [(a1, .inl (k1, (500 * N), .inl f1)), (a2, .inl (k2, (125 * N + 1), .inl f2)), (a3, .inl (k3, 8000, .inl f3)), (b2, .inl (o2, 8000, .inl g2)), (b3, .inl (o3, 16000, .inl g3)), (b4, .inl (o4, 4001, .inl g4)), (a0, .inr (0, [.ref a1, .ref a2, .int (nI rc), .int (nI bg), .ref a3, .int (nI ss), .ref a4, .int (nI hx1), .int up, .int ch, .int wr])), (a4, .inl (k4, 8000, .inl fa)), (b0, .inr (1, [.int (nI N), .int up, .int ch, .int wr, .int (nI bg), .int (nI (bg + tu)), .ref b1, .int (nI hy), .ref b2, .int (nI ss), .ref b3, .ref b4, .int (nI rc)])), (b1, .inl (o1, 8000, .inl ga))] H := hP
  have hD : va_D (fun q : Nat => s.heap.size ≤ q) [(a1, .inl (k1, (500 * N), .inl f1)), (a2, .inl (k2, (125 * N + 1), .inl f2)), (a3, .inl (k3, 8000, .inl f3)), (b2, .inl (o2, 8000, .inl g2)), (b3, .inl (o3, 16000, .inl g3)), (b4, .inl (o4, 4001, .inl g4)), (a0, .inr (0, [.ref a1, .ref a2, .int (nI rc), .int (nI bg), .ref a3, .int (nI ss), .ref a4, .int (nI hx1), .int up, .int ch, .int wr])), (a4, .inl (k4, 8000, .inl fa)), (b0, .inr (1, [.int (nI N), .int up, .int ch, .int wr, .int (nI bg), .int (nI (bg + tu)), .ref b1, .int (nI hy), .ref b2, .int (nI ss), .ref b3, .ref b4, .int (nI rc)])), (b1, .inl (o1, 8000, .inl ga))] := hD
  have hw_r2 := hw
  obtain ⟨er, eh, hI⟩ := zq_p_put hI rfl hw_r1 hw_r2 (fun z => ⟨_, rfl, rfl⟩)
  subst er; subst eh
  have hP : va_P (dC, dI) classes [(a1, .inl (k1, (500 * N), .inl f1)), (a2, .inl (k2, (125 * N + 1), .inl f2)), (a3, .inl (k3, 8000, .inl f3)), (b2, .inl (o2, 8000, .inl g2)), (b3, .inl (o3, 16000, .inl g3)), (b4, .inl (o4, 4001, .inl g4)), (a0, .inr (0, [.ref a1, .ref a2, .int (nI rc), .int (nI bg), .ref a3, .int (nI ss), .ref a4, .int (nI hx1), .int up, .int ch, .int wr])), (a4, .inl (k4, 8000, .inl fa)), (b0, .inr (1, [.int (nI N), .int up, .int ch, .int wr, .int (nI bg), .int (nI (bg + tu)), .ref b1, .int (nI hx1), .ref b2, .int (nI ss), .ref b3, .ref b4, .int (nI rc)])), (b1, .inl (o1, 8000, .inl ga))] H := hP
  have hD : va_D (fun q : Nat => s.heap.size ≤ q) [(a1, .inl (k1, (500 * N), .inl f1)), (a2, .inl (k2, (125 * N + 1), .inl f2)), (a3, .inl (k3, 8000, .inl f3)), (b2, .inl (o2, 8000, .inl g2)), (b3, .inl (o3, 16000, .inl g3)), (b4, .inl (o4, 4001, .inl g4)), (a0, .inr (0, [.ref a1, .ref a2, .int (nI rc), .int (nI bg), .ref a3, .int (nI ss), .ref a4, .int (nI hx1), .int up, .int ch, .int wr])), (a4, .inl (k4, 8000, .inl fa)), (b0, .inr (1, [.int (nI N), .int up, .int ch, .int wr, .int (nI bg), .int (nI (bg + tu)), .ref b1, .int (nI hx1), .ref b2, .int (nI ss), .ref b3, .ref b4, .int (nI rc)])), (b1, .inl (o1, 8000, .inl ga))] := hD
  refine lv_icmp_eq (tgt := 346) hx hb d_law_154 (by decide) (fun c_154 => ?_) (fun c_154 => ?_)
  · exact KK T rc bg ss hx1 tu up ch wr f1 f2 f3 fa ga g2 g3 g4 a3 a4 k3 k4 _ _ hI hK (hP.sub [6, 0, 1, 2, 7, 8, 9, 3, 4, 5] rfl) (hD.sub [6, 0, 1, 2, 7, 8, 9, 3, 4, 5] (by decide) rfl) hS
  · exact absurd rfl c_154
set_option maxHeartbeats 4000000 in
set_option maxRecDepth 100000 in
theorem law_1 {p : Program} {l : Launch} {e : Env} {s : State} {m : MethodId} {below : List Frame} {meth : Method} {c : Code} {dC : Nat → ClassId} {dI : Nat → Nat → Nat} {b L : Nat} {xs : Nat → Int32} (hL : L ≤ 2049) (C0 : lw_At p s m meth c b L xs) (N a0 a1 a2 b0 b1 b2 b3 b4 : Nat) (k1 k2 o1 o2 o3 o4 : ClassId) (i : Nat) (hi : 1 ≤ i) (hi4 : i + 4 ≤ L) (ls : Array Slot) (hl : lv_has ls 4 [(0, .ref b), (1, .ref a0), (2, .ref b0), (3, .int (nI i))]) (KK : ∀ (T : Nat → Nat) (rc bg ss hs tu : Nat) (up ch wr : Int32) (f1 f2 f3 f4 g1 g2 g3 g4 : Nat → Int32) (a3 a4 : Nat) (k3 k4 : ClassId) (H : Heap) (locs : List Loc), zq_I N T (i + 4) rc bg ss hs tu ch f1 f2 f3 f4 g1 g2 g3 g4 → va_K (dC, dI) classes [(k1, .byte), (k2, .int), (k3, .byte), (k4, .byte), (o1, .int), (o2, .int), (o3, .int), (o4, .int)] s → va_P (dC, dI) classes [(a0, .inr (0, [.ref a1, .ref a2, .int (nI rc), .int (nI bg), .ref a3, .int (nI ss), .ref a4, .int (nI hs), .int up, .int ch, .int wr])), (a1, .inl (k1, (500 * N), .inl f1)), (a2, .inl (k2, (125 * N + 1), .inl f2)), (a3, .inl (k3, 8000, .inl f3)), (a4, .inl (k4, 8000, .inl f4)), (b0, .inr (1, [.int (nI N), .int up, .int ch, .int wr, .int (nI bg), .int (nI (bg + tu)), .ref b1, .int (nI hs), .ref b2, .int (nI ss), .ref b3, .ref b4, .int (nI rc)])), (b1, .inl (o1, 8000, .inl g1)), (b2, .inl (o2, 8000, .inl g2)), (b3, .inl (o3, 16000, .inl g3)), (b4, .inl (o4, 4001, .inl g4))] H → va_D (fun q : Nat => s.heap.size ≤ q) [(a0, .inr (0, [.ref a1, .ref a2, .int (nI rc), .int (nI bg), .ref a3, .int (nI ss), .ref a4, .int (nI hs), .int up, .int ch, .int wr])), (a1, .inl (k1, (500 * N), .inl f1)), (a2, .inl (k2, (125 * N + 1), .inl f2)), (a3, .inl (k3, 8000, .inl f3)), (a4, .inl (k4, 8000, .inl f4)), (b0, .inr (1, [.int (nI N), .int up, .int ch, .int wr, .int (nI bg), .int (nI (bg + tu)), .ref b1, .int (nI hs), .ref b2, .int (nI ss), .ref b3, .ref b4, .int (nI rc)])), (b1, .inl (o1, 8000, .inl g1)), (b2, .inl (o2, 8000, .inl g2)), (b3, .inl (o3, 16000, .inl g3)), (b4, .inl (o4, 4001, .inl g4))] → va_S (fun q : Nat => s.heap.size ≤ q) s.heap H locs → W p l e room_1 s m #[Value.ref b] below meth c H locs 600000 7302250 (lw_Z below #[Value.ref b] s) (F0 m 346 ls [])) : ∀ (T : Nat → Nat) (rc bg ss hs tu : Nat) (up ch wr : Int32) (f1 f2 f3 f4 g1 g2 g3 g4 : Nat → Int32) (a3 a4 : Nat) (k3 k4 : ClassId) (H : Heap) (locs : List Loc), zq_I N T i rc bg ss hs tu ch f1 f2 f3 f4 g1 g2 g3 g4 → va_K (dC, dI) classes [(k1, .byte), (k2, .int), (k3, .byte), (k4, .byte), (o1, .int), (o2, .int), (o3, .int), (o4, .int)] s → va_P (dC, dI) classes [(a0, .inr (0, [.ref a1, .ref a2, .int (nI rc), .int (nI bg), .ref a3, .int (nI ss), .ref a4, .int (nI hs), .int up, .int ch, .int wr])), (a1, .inl (k1, (500 * N), .inl f1)), (a2, .inl (k2, (125 * N + 1), .inl f2)), (a3, .inl (k3, 8000, .inl f3)), (a4, .inl (k4, 8000, .inl f4)), (b0, .inr (1, [.int (nI N), .int up, .int ch, .int wr, .int (nI bg), .int (nI (bg + tu)), .ref b1, .int (nI hs), .ref b2, .int (nI ss), .ref b3, .ref b4, .int (nI rc)])), (b1, .inl (o1, 8000, .inl g1)), (b2, .inl (o2, 8000, .inl g2)), (b3, .inl (o3, 16000, .inl g3)), (b4, .inl (o4, 4001, .inl g4))] H → va_D (fun q : Nat => s.heap.size ≤ q) [(a0, .inr (0, [.ref a1, .ref a2, .int (nI rc), .int (nI bg), .ref a3, .int (nI ss), .ref a4, .int (nI hs), .int up, .int ch, .int wr])), (a1, .inl (k1, (500 * N), .inl f1)), (a2, .inl (k2, (125 * N + 1), .inl f2)), (a3, .inl (k3, 8000, .inl f3)), (a4, .inl (k4, 8000, .inl f4)), (b0, .inr (1, [.int (nI N), .int up, .int ch, .int wr, .int (nI bg), .int (nI (bg + tu)), .ref b1, .int (nI hs), .ref b2, .int (nI ss), .ref b3, .ref b4, .int (nI rc)])), (b1, .inl (o1, 8000, .inl g1)), (b2, .inl (o2, 8000, .inl g2)), (b3, .inl (o3, 16000, .inl g3)), (b4, .inl (o4, 4001, .inl g4))] → va_S (fun q : Nat => s.heap.size ≤ q) s.heap H locs → W p l e room_1 s m #[Value.ref b] below meth c H locs 600000 7302250 (lw_Z below #[Value.ref b] s) (F0 m 159 ls []) := by
  intro T rc bg ss hs tu up ch wr f1 f2 f3 f4 g1 g2 g3 g4 a3 a4 k3 k4 H locs hI hK hP hD hS
  obtain ⟨hx, hb, hr, hml, hown, hts, hX, hbl, hlocks, hgv⟩ := C0
  have hA : ∀ q : Nat, s.heap.size ≤ q → (fun q : Nat => s.heap.size ≤ q) q := fun _ h => h
  have hbA : ¬ (fun q : Nat => s.heap.size ≤ q) b := Nat.not_le.mpr hbl
  obtain ⟨⟨hN2, hN⟩, ⟨hT0, hM, hTtu, htb⟩, ⟨⟨qq, hbg⟩, hbi⟩, ⟨hss, hhs⟩, hch, ⟨hT2, hT4⟩, hjr, hsn, hRB⟩ := id hI
  have h4 := zq_T4 hT0 hM
  have hTm := zq_Tle hM hTtu
  have h4t := h4 rc (Nat.le_refl _)
  rw [hTtu] at h4t
  have htu2 : f2 rc = nI tu := by rw [hT2 rc (Nat.le_refl _), hTtu]
  have hba : g4 rc = nI (tu - 4 * rc) := by rw [hT4 rc (Nat.le_refl _), hTtu]
  refine lv_aload_n hx hb d_law_159 rfl (lv_at hl 1 rfl) ?_
  refine lv_aload_n hx hb d_law_160 rfl (lv_at hl 0 rfl) ?_
  refine lv_iload_n hx hb d_law_161 rfl (lv_at hl 3 rfl) ?_
  refine lv_iconst (v := nI 1) hx hb d_law_162 (by decide +kernel) ?_
  refine lv_iadd hx hb d_law_163 ?_
  refine xq_top (nI (i + 1)) (nI_add _ _) ?_
  refine va_sld hx hb hX hbl hbA hS (vp_in_nI (by omega) (by omega)) d_law_164 ?_
  refine xq_top (xs (i + 1)) (by rw [nI_clamp (by omega)]) ?_
  refine lv_aload_n hx hb d_law_165 rfl (lv_at hl 0 rfl) ?_
  refine lv_iload_n hx hb d_law_166 rfl (lv_at hl 3 rfl) ?_
  refine lv_iconst (v := nI 2) hx hb d_law_167 (by decide +kernel) ?_
  refine lv_iadd hx hb d_law_168 ?_
  refine xq_top (nI (i + 2)) (nI_add _ _) ?_
  refine va_sld hx hb hX hbl hbA hS (vp_in_nI (by omega) (by omega)) d_law_169 ?_
  refine xq_top (xs (i + 2)) (by rw [nI_clamp (by omega)]) ?_
  have hPc := hP.sub (ws' := [(a0, .inr (0, [.ref a1, .ref a2, .int (nI rc), .int (nI bg), .ref a3, .int (nI ss), .ref a4, .int (nI hs), .int up, .int ch, .int wr])), (a4, .inl (k4, 8000, .inl f4))]) [0, 4] rfl
  have hDc := hD.sub (ws' := [(a0, .inr (0, [.ref a1, .ref a2, .int (nI rc), .int (nI bg), .ref a3, .int (nI ss), .ref a4, .int (nI hs), .int up, .int ch, .int wr])), (a4, .inl (k4, 8000, .inl f4))]) [0, 4] (by decide) rfl
  have hKc := hK.sub (tys' := [(k4, .byte)]) [3] rfl
  have hFc := va_free (wc := [(a0, .inr (0, [.ref a1, .ref a2, .int (nI rc), .int (nI bg), .ref a3, .int (nI ss), .ref a4, .int (nI hs), .int up, .int ch, .int wr])), (a4, .inl (k4, 8000, .inl f4))]) hD hS hA [0, 4] rfl
  refine va_calli (va_runV (As := [.int (xs (i + 1)), .int (xs (i + 2))]) (rest := []) ⟨hx, hb, hml, hown, hts⟩ (c_BlockDesk_fill l dC dI H.size a0 a1 a2 a3 a4 rc bg ss hs up ch wr k4 f4 (xs (i + 1)) (xs (i + 2)) hhs) (cwV 2 hts g_law_BlockDesk_fill rfl rfl rfl (by decide +kernel) ⟨Nat.le_of_ble_eq_true rfl, Nat.le_of_ble_eq_true rfl⟩) ⟨fun a U g mk q => by obtain ⟨q0, q1, qP, qK, qD⟩ := q; exact ⟨q0, q1, qP, va_K.moved (u := U) (U := U.calling g mk a) (Vm.Alike.refl U.vm) qK, qD⟩, va_recv hKc hPc (ci := 0) (q0 := 0) rfl rfl, fun U hU hW => ⟨rfl, by rw [hU], by rw [hU]; exact hPc, va_K.moved hW.alike hKc, hDc.weaken (fun _ _ _ _ => trivial)⟩⟩ rfl rfl hl.1 rfl (lv_room (Nat.le_of_ble_eq_true rfl)) d_law_170 ⟨Nat.le_of_ble_eq_true rfl, Nat.le_of_ble_eq_true rfl⟩) hS (fun q _ h => hFc q h) hFc (fun r1 u t H1 locs ht hvm hw hB hz1 hk1 hS => ?_)
  obtain ⟨hx1, fa⟩ := u
  obtain ⟨hP1, hK1, hD1⟩ := hB
  rw [ht] at hP1
  try dsimp only at hw
  obtain ⟨hP, hD⟩ := va_join (wr := [(a1, .inl (k1, (500 * N), .inl f1)), (a2, .inl (k2, (125 * N + 1), .inl f2)), (a3, .inl (k3, 8000, .inl f3)), (b0, .inr (1, [.int (nI N), .int up, .int ch, .int wr, .int (nI bg), .int (nI (bg + tu)), .ref b1, .int (nI hs), .ref b2, .int (nI ss), .ref b3, .ref b4, .int (nI rc)])), (b1, .inl (o1, 8000, .inl g1)), (b2, .inl (o2, 8000, .inl g2)), (b3, .inl (o3, 16000, .inl g3)), (b4, .inl (o4, 4001, .inl g4))]) (w1 := [(a0, .inr (0, [.ref a1, .ref a2, .int (nI rc), .int (nI bg), .ref a3, .int (nI ss), .ref a4, .int (nI hx1), .int up, .int ch, .int wr])), (a4, .inl (k4, 8000, .inl fa))]) hP hD [0, 4] [1, 2, 3, 5, 6, 7, 8, 9] rfl rfl (by decide) (by decide) hk1 hFc hP1 hD1
  generalize H1 = H at hP hS ⊢
  have hP : va_P (dC, dI) classes [(a1, .inl (k1, (500 * N), .inl f1)), (a2, .inl (k2, (125 * N + 1), .inl f2)), (a3, .inl (k3, 8000, .inl f3)), (b0, .inr (1, [.int (nI N), .int up, .int ch, .int wr, .int (nI bg), .int (nI (bg + tu)), .ref b1, .int (nI hs), .ref b2, .int (nI ss), .ref b3, .ref b4, .int (nI rc)])), (b1, .inl (o1, 8000, .inl g1)), (b2, .inl (o2, 8000, .inl g2)), (b3, .inl (o3, 16000, .inl g3)), (b4, .inl (o4, 4001, .inl g4)), (a0, .inr (0, [.ref a1, .ref a2, .int (nI rc), .int (nI bg), .ref a3, .int (nI ss), .ref a4, .int (nI hx1), .int up, .int ch, .int wr])), (a4, .inl (k4, 8000, .inl fa))] H := hP
  have hD : va_D (fun q : Nat => s.heap.size ≤ q) [(a1, .inl (k1, (500 * N), .inl f1)), (a2, .inl (k2, (125 * N + 1), .inl f2)), (a3, .inl (k3, 8000, .inl f3)), (b0, .inr (1, [.int (nI N), .int up, .int ch, .int wr, .int (nI bg), .int (nI (bg + tu)), .ref b1, .int (nI hs), .ref b2, .int (nI ss), .ref b3, .ref b4, .int (nI rc)])), (b1, .inl (o1, 8000, .inl g1)), (b2, .inl (o2, 8000, .inl g2)), (b3, .inl (o3, 16000, .inl g3)), (b4, .inl (o4, 4001, .inl g4)), (a0, .inr (0, [.ref a1, .ref a2, .int (nI rc), .int (nI bg), .ref a3, .int (nI ss), .ref a4, .int (nI hx1), .int up, .int ch, .int wr])), (a4, .inl (k4, 8000, .inl fa))] := hD
  have hw_r1 := hw
  refine lv_aload_n hx hb d_law_173 rfl (lv_at hl 2 rfl) ?_
  refine lv_aload_n hx hb d_law_174 rfl (lv_at hl 0 rfl) ?_
  refine lv_iload_n hx hb d_law_175 rfl (lv_at hl 3 rfl) ?_
  refine lv_iconst (v := nI 1) hx hb d_law_176 (by decide +kernel) ?_
  refine lv_iadd hx hb d_law_177 ?_
  refine xq_top (nI (i + 1)) (nI_add _ _) ?_
  refine va_sld hx hb hX hbl hbA hS (vp_in_nI (by omega) (by omega)) d_law_178 ?_
  refine xq_top (xs (i + 1)) (by rw [nI_clamp (by omega)]) ?_
  refine lv_aload_n hx hb d_law_179 rfl (lv_at hl 0 rfl) ?_
  refine lv_iload_n hx hb d_law_180 rfl (lv_at hl 3 rfl) ?_
  refine lv_iconst (v := nI 2) hx hb d_law_181 (by decide +kernel) ?_
  refine lv_iadd hx hb d_law_182 ?_
  refine xq_top (nI (i + 2)) (nI_add _ _) ?_
  refine va_sld hx hb hX hbl hbA hS (vp_in_nI (by omega) (by omega)) d_law_183 ?_
  refine xq_top (xs (i + 2)) (by rw [nI_clamp (by omega)]) ?_
  have hPc := hP.sub (ws' := [(b0, .inr (1, [.int (nI N), .int up, .int ch, .int wr, .int (nI bg), .int (nI (bg + tu)), .ref b1, .int (nI hs), .ref b2, .int (nI ss), .ref b3, .ref b4, .int (nI rc)])), (b1, .inl (o1, 8000, .inl g1))]) [3, 4] rfl
  have hDc := hD.sub (ws' := [(b0, .inr (1, [.int (nI N), .int up, .int ch, .int wr, .int (nI bg), .int (nI (bg + tu)), .ref b1, .int (nI hs), .ref b2, .int (nI ss), .ref b3, .ref b4, .int (nI rc)])), (b1, .inl (o1, 8000, .inl g1))]) [3, 4] (by decide) rfl
  have hKc := hK.sub (tys' := [(o1, .int)]) [4] rfl
  have hFc := va_free (wc := [(b0, .inr (1, [.int (nI N), .int up, .int ch, .int wr, .int (nI bg), .int (nI (bg + tu)), .ref b1, .int (nI hs), .ref b2, .int (nI ss), .ref b3, .ref b4, .int (nI rc)])), (b1, .inl (o1, 8000, .inl g1))]) hD hS hA [3, 4] rfl
  refine va_calli (va_runV (As := [.int (xs (i + 1)), .int (xs (i + 2))]) (rest := [.int r1]) ⟨hx, hb, hml, hown, hts⟩ (c_BlockDeskModel_fill l dC dI H.size b0 b1 b2 b3 b4 N rc bg (bg + tu) ss hs up ch wr o1 g1 (xs (i + 1)) (xs (i + 2)) hhs) (cwV 2 hts g_law_BlockDeskModel_fill rfl rfl rfl (by decide +kernel) ⟨Nat.le_of_ble_eq_true rfl, Nat.le_of_ble_eq_true rfl⟩) ⟨fun a U g mk q => by obtain ⟨q0, q1, qP, qK, qD⟩ := q; exact ⟨q0, q1, qP, va_K.moved (u := U) (U := U.calling g mk a) (Vm.Alike.refl U.vm) qK, qD⟩, va_recv hKc hPc (ci := 1) (q0 := 0) rfl rfl, fun U hU hW => ⟨rfl, by rw [hU], by rw [hU]; exact hPc, va_K.moved hW.alike hKc, hDc.weaken (fun _ _ _ _ => trivial)⟩⟩ rfl rfl hl.1 rfl (lv_room (Nat.le_of_ble_eq_true rfl)) d_law_184 ⟨Nat.le_of_ble_eq_true rfl, Nat.le_of_ble_eq_true rfl⟩) hS (fun q _ h => hFc q h) hFc (fun r2 u t H1 locs ht hvm hw hB hz1 hk1 hS => ?_)
  obtain ⟨hy, ga⟩ := u
  obtain ⟨hP1, hK1, hD1⟩ := hB
  rw [ht] at hP1
  try dsimp only at hw
  obtain ⟨hP, hD⟩ := va_join (wr := [(a1, .inl (k1, (500 * N), .inl f1)), (a2, .inl (k2, (125 * N + 1), .inl f2)), (a3, .inl (k3, 8000, .inl f3)), (b2, .inl (o2, 8000, .inl g2)), (b3, .inl (o3, 16000, .inl g3)), (b4, .inl (o4, 4001, .inl g4)), (a0, .inr (0, [.ref a1, .ref a2, .int (nI rc), .int (nI bg), .ref a3, .int (nI ss), .ref a4, .int (nI hx1), .int up, .int ch, .int wr])), (a4, .inl (k4, 8000, .inl fa))]) (w1 := [(b0, .inr (1, [.int (nI N), .int up, .int ch, .int wr, .int (nI bg), .int (nI (bg + tu)), .ref b1, .int (nI hy), .ref b2, .int (nI ss), .ref b3, .ref b4, .int (nI rc)])), (b1, .inl (o1, 8000, .inl ga))]) hP hD [3, 4] [0, 1, 2, 5, 6, 7, 8, 9] rfl rfl (by decide) (by decide) hk1 hFc hP1 hD1
  generalize H1 = H at hP hS ⊢
  have hP : va_P (dC, dI) classes [(a1, .inl (k1, (500 * N), .inl f1)), (a2, .inl (k2, (125 * N + 1), .inl f2)), (a3, .inl (k3, 8000, .inl f3)), (b2, .inl (o2, 8000, .inl g2)), (b3, .inl (o3, 16000, .inl g3)), (b4, .inl (o4, 4001, .inl g4)), (a0, .inr (0, [.ref a1, .ref a2, .int (nI rc), .int (nI bg), .ref a3, .int (nI ss), .ref a4, .int (nI hx1), .int up, .int ch, .int wr])), (a4, .inl (k4, 8000, .inl fa)), (b0, .inr (1, [.int (nI N), .int up, .int ch, .int wr, .int (nI bg), .int (nI (bg + tu)), .ref b1, .int (nI hy), .ref b2, .int (nI ss), .ref b3, .ref b4, .int (nI rc)])), (b1, .inl (o1, 8000, .inl ga))] H := hP
  have hD : va_D (fun q : Nat => s.heap.size ≤ q) [(a1, .inl (k1, (500 * N), .inl f1)), (a2, .inl (k2, (125 * N + 1), .inl f2)), (a3, .inl (k3, 8000, .inl f3)), (b2, .inl (o2, 8000, .inl g2)), (b3, .inl (o3, 16000, .inl g3)), (b4, .inl (o4, 4001, .inl g4)), (a0, .inr (0, [.ref a1, .ref a2, .int (nI rc), .int (nI bg), .ref a3, .int (nI ss), .ref a4, .int (nI hx1), .int up, .int ch, .int wr])), (a4, .inl (k4, 8000, .inl fa)), (b0, .inr (1, [.int (nI N), .int up, .int ch, .int wr, .int (nI bg), .int (nI (bg + tu)), .ref b1, .int (nI hy), .ref b2, .int (nI ss), .ref b3, .ref b4, .int (nI rc)])), (b1, .inl (o1, 8000, .inl ga))] := hD
  have hw_r2 := hw
  obtain ⟨er, eh, hI⟩ := zq_p_put hI rfl hw_r1 hw_r2 (fun _ => ⟨_, rfl, rfl⟩)
  subst er; subst eh
  have hP : va_P (dC, dI) classes [(a1, .inl (k1, (500 * N), .inl f1)), (a2, .inl (k2, (125 * N + 1), .inl f2)), (a3, .inl (k3, 8000, .inl f3)), (b2, .inl (o2, 8000, .inl g2)), (b3, .inl (o3, 16000, .inl g3)), (b4, .inl (o4, 4001, .inl g4)), (a0, .inr (0, [.ref a1, .ref a2, .int (nI rc), .int (nI bg), .ref a3, .int (nI ss), .ref a4, .int (nI hx1), .int up, .int ch, .int wr])), (a4, .inl (k4, 8000, .inl fa)), (b0, .inr (1, [.int (nI N), .int up, .int ch, .int wr, .int (nI bg), .int (nI (bg + tu)), .ref b1, .int (nI hx1), .ref b2, .int (nI ss), .ref b3, .ref b4, .int (nI rc)])), (b1, .inl (o1, 8000, .inl ga))] H := hP
  have hD : va_D (fun q : Nat => s.heap.size ≤ q) [(a1, .inl (k1, (500 * N), .inl f1)), (a2, .inl (k2, (125 * N + 1), .inl f2)), (a3, .inl (k3, 8000, .inl f3)), (b2, .inl (o2, 8000, .inl g2)), (b3, .inl (o3, 16000, .inl g3)), (b4, .inl (o4, 4001, .inl g4)), (a0, .inr (0, [.ref a1, .ref a2, .int (nI rc), .int (nI bg), .ref a3, .int (nI ss), .ref a4, .int (nI hx1), .int up, .int ch, .int wr])), (a4, .inl (k4, 8000, .inl fa)), (b0, .inr (1, [.int (nI N), .int up, .int ch, .int wr, .int (nI bg), .int (nI (bg + tu)), .ref b1, .int (nI hx1), .ref b2, .int (nI ss), .ref b3, .ref b4, .int (nI rc)])), (b1, .inl (o1, 8000, .inl ga))] := hD
  refine lv_icmp_eq (tgt := 346) hx hb d_law_187 (by decide) (fun c_187 => ?_) (fun c_187 => ?_)
  · exact KK T rc bg ss hx1 tu up ch wr f1 f2 f3 fa ga g2 g3 g4 a3 a4 k3 k4 _ _ hI hK (hP.sub [6, 0, 1, 2, 7, 8, 9, 3, 4, 5] rfl) (hD.sub [6, 0, 1, 2, 7, 8, 9, 3, 4, 5] (by decide) rfl) hS
  · exact absurd rfl c_187
set_option maxHeartbeats 4000000 in
set_option maxRecDepth 100000 in
theorem law_2 {p : Program} {l : Launch} {e : Env} {s : State} {m : MethodId} {below : List Frame} {meth : Method} {c : Code} {dC : Nat → ClassId} {dI : Nat → Nat → Nat} {b L : Nat} {xs : Nat → Int32} (hL : L ≤ 2049) (C0 : lw_At p s m meth c b L xs) (N a0 a1 a2 b0 b1 b2 b3 b4 : Nat) (k1 k2 o1 o2 o3 o4 : ClassId) (i : Nat) (hi : 1 ≤ i) (hi4 : i + 4 ≤ L) (ls : Array Slot) (hl : lv_has ls 4 [(0, .ref b), (1, .ref a0), (2, .ref b0), (3, .int (nI i))]) (KK : ∀ (T : Nat → Nat) (rc bg ss hs tu : Nat) (up ch wr : Int32) (f1 f2 f3 f4 g1 g2 g3 g4 : Nat → Int32) (a3 a4 : Nat) (k3 k4 : ClassId) (H : Heap) (locs : List Loc), zq_I N T (i + 4) rc bg ss hs tu ch f1 f2 f3 f4 g1 g2 g3 g4 → va_K (dC, dI) classes [(k1, .byte), (k2, .int), (k3, .byte), (k4, .byte), (o1, .int), (o2, .int), (o3, .int), (o4, .int)] s → va_P (dC, dI) classes [(a0, .inr (0, [.ref a1, .ref a2, .int (nI rc), .int (nI bg), .ref a3, .int (nI ss), .ref a4, .int (nI hs), .int up, .int ch, .int wr])), (a1, .inl (k1, (500 * N), .inl f1)), (a2, .inl (k2, (125 * N + 1), .inl f2)), (a3, .inl (k3, 8000, .inl f3)), (a4, .inl (k4, 8000, .inl f4)), (b0, .inr (1, [.int (nI N), .int up, .int ch, .int wr, .int (nI bg), .int (nI (bg + tu)), .ref b1, .int (nI hs), .ref b2, .int (nI ss), .ref b3, .ref b4, .int (nI rc)])), (b1, .inl (o1, 8000, .inl g1)), (b2, .inl (o2, 8000, .inl g2)), (b3, .inl (o3, 16000, .inl g3)), (b4, .inl (o4, 4001, .inl g4))] H → va_D (fun q : Nat => s.heap.size ≤ q) [(a0, .inr (0, [.ref a1, .ref a2, .int (nI rc), .int (nI bg), .ref a3, .int (nI ss), .ref a4, .int (nI hs), .int up, .int ch, .int wr])), (a1, .inl (k1, (500 * N), .inl f1)), (a2, .inl (k2, (125 * N + 1), .inl f2)), (a3, .inl (k3, 8000, .inl f3)), (a4, .inl (k4, 8000, .inl f4)), (b0, .inr (1, [.int (nI N), .int up, .int ch, .int wr, .int (nI bg), .int (nI (bg + tu)), .ref b1, .int (nI hs), .ref b2, .int (nI ss), .ref b3, .ref b4, .int (nI rc)])), (b1, .inl (o1, 8000, .inl g1)), (b2, .inl (o2, 8000, .inl g2)), (b3, .inl (o3, 16000, .inl g3)), (b4, .inl (o4, 4001, .inl g4))] → va_S (fun q : Nat => s.heap.size ≤ q) s.heap H locs → W p l e room_1 s m #[Value.ref b] below meth c H locs 600000 7302250 (lw_Z below #[Value.ref b] s) (F0 m 346 ls [])) : ∀ (T : Nat → Nat) (rc bg ss hs tu : Nat) (up ch wr : Int32) (f1 f2 f3 f4 g1 g2 g3 g4 : Nat → Int32) (a3 a4 : Nat) (k3 k4 : ClassId) (H : Heap) (locs : List Loc), zq_I N T i rc bg ss hs tu ch f1 f2 f3 f4 g1 g2 g3 g4 → va_K (dC, dI) classes [(k1, .byte), (k2, .int), (k3, .byte), (k4, .byte), (o1, .int), (o2, .int), (o3, .int), (o4, .int)] s → va_P (dC, dI) classes [(a0, .inr (0, [.ref a1, .ref a2, .int (nI rc), .int (nI bg), .ref a3, .int (nI ss), .ref a4, .int (nI hs), .int up, .int ch, .int wr])), (a1, .inl (k1, (500 * N), .inl f1)), (a2, .inl (k2, (125 * N + 1), .inl f2)), (a3, .inl (k3, 8000, .inl f3)), (a4, .inl (k4, 8000, .inl f4)), (b0, .inr (1, [.int (nI N), .int up, .int ch, .int wr, .int (nI bg), .int (nI (bg + tu)), .ref b1, .int (nI hs), .ref b2, .int (nI ss), .ref b3, .ref b4, .int (nI rc)])), (b1, .inl (o1, 8000, .inl g1)), (b2, .inl (o2, 8000, .inl g2)), (b3, .inl (o3, 16000, .inl g3)), (b4, .inl (o4, 4001, .inl g4))] H → va_D (fun q : Nat => s.heap.size ≤ q) [(a0, .inr (0, [.ref a1, .ref a2, .int (nI rc), .int (nI bg), .ref a3, .int (nI ss), .ref a4, .int (nI hs), .int up, .int ch, .int wr])), (a1, .inl (k1, (500 * N), .inl f1)), (a2, .inl (k2, (125 * N + 1), .inl f2)), (a3, .inl (k3, 8000, .inl f3)), (a4, .inl (k4, 8000, .inl f4)), (b0, .inr (1, [.int (nI N), .int up, .int ch, .int wr, .int (nI bg), .int (nI (bg + tu)), .ref b1, .int (nI hs), .ref b2, .int (nI ss), .ref b3, .ref b4, .int (nI rc)])), (b1, .inl (o1, 8000, .inl g1)), (b2, .inl (o2, 8000, .inl g2)), (b3, .inl (o3, 16000, .inl g3)), (b4, .inl (o4, 4001, .inl g4))] → va_S (fun q : Nat => s.heap.size ≤ q) s.heap H locs → W p l e room_1 s m #[Value.ref b] below meth c H locs 600000 7302250 (lw_Z below #[Value.ref b] s) (F0 m 192 ls []) := by
  intro T rc bg ss hs tu up ch wr f1 f2 f3 f4 g1 g2 g3 g4 a3 a4 k3 k4 H locs hI hK hP hD hS
  obtain ⟨hx, hb, hr, hml, hown, hts, hX, hbl, hlocks, hgv⟩ := C0
  have hA : ∀ q : Nat, s.heap.size ≤ q → (fun q : Nat => s.heap.size ≤ q) q := fun _ h => h
  have hbA : ¬ (fun q : Nat => s.heap.size ≤ q) b := Nat.not_le.mpr hbl
  obtain ⟨⟨hN2, hN⟩, ⟨hT0, hM, hTtu, htb⟩, ⟨⟨qq, hbg⟩, hbi⟩, ⟨hss, hhs⟩, hch, ⟨hT2, hT4⟩, hjr, hsn, hRB⟩ := id hI
  have h4 := zq_T4 hT0 hM
  have hTm := zq_Tle hM hTtu
  have h4t := h4 rc (Nat.le_refl _)
  rw [hTtu] at h4t
  have htu2 : f2 rc = nI tu := by rw [hT2 rc (Nat.le_refl _), hTtu]
  have hba : g4 rc = nI (tu - 4 * rc) := by rw [hT4 rc (Nat.le_refl _), hTtu]
  refine lv_aload_n hx hb d_law_192 rfl (lv_at hl 1 rfl) ?_
  have hPc := hP.sub (ws' := [(a0, .inr (0, [.ref a1, .ref a2, .int (nI rc), .int (nI bg), .ref a3, .int (nI ss), .ref a4, .int (nI hs), .int up, .int ch, .int wr])), (a1, .inl (k1, (500 * N), .inl f1)), (a2, .inl (k2, (125 * N + 1), .inl f2)), (a4, .inl (k4, 8000, .inl f4))]) [0, 1, 2, 4] rfl
  have hDc := hD.sub (ws' := [(a0, .inr (0, [.ref a1, .ref a2, .int (nI rc), .int (nI bg), .ref a3, .int (nI ss), .ref a4, .int (nI hs), .int up, .int ch, .int wr])), (a1, .inl (k1, (500 * N), .inl f1)), (a2, .inl (k2, (125 * N + 1), .inl f2)), (a4, .inl (k4, 8000, .inl f4))]) [0, 1, 2, 4] (by decide) rfl
  have hKc := hK.sub (tys' := [(k1, .byte), (k2, .int), (k4, .byte)]) [0, 1, 3] rfl
  have hFc := va_free (wc := [(a0, .inr (0, [.ref a1, .ref a2, .int (nI rc), .int (nI bg), .ref a3, .int (nI ss), .ref a4, .int (nI hs), .int up, .int ch, .int wr])), (a1, .inl (k1, (500 * N), .inl f1)), (a2, .inl (k2, (125 * N + 1), .inl f2)), (a4, .inl (k4, 8000, .inl f4))]) hD hS hA [0, 1, 2, 4] rfl
  refine va_calli (va_runV (As := []) (rest := []) ⟨hx, hb, hml, hown, hts⟩ (c_BlockDesk_record l dC dI H.size a0 a1 a2 a3 a4 rc bg ss hs up ch wr k1 k2 k4 (500 * N) (125 * N + 1) N tu f1 f2 f4 (by omega) rfl rfl hN htu2 (by omega) h4t hhs (fun z hz => zq_RB_fit (hRB z hz))) (cwV 0 hts g_law_BlockDesk_record rfl rfl rfl (by decide +kernel) ⟨Nat.le_of_ble_eq_true rfl, Nat.le_of_ble_eq_true rfl⟩) ⟨fun a U g mk q => by obtain ⟨q0, q1, qP, qK, qD⟩ := q; exact ⟨q0, q1, qP, va_K.moved (u := U) (U := U.calling g mk a) (Vm.Alike.refl U.vm) qK, qD⟩, va_recv hKc hPc (ci := 0) (q0 := 0) rfl rfl, fun U hU hW => ⟨rfl, by rw [hU], by rw [hU]; exact hPc, va_K.moved hW.alike hKc, hDc.weaken (fun _ _ _ _ => trivial)⟩⟩ rfl rfl hl.1 rfl (lv_room (Nat.le_of_ble_eq_true rfl)) d_law_193 ⟨Nat.le_of_ble_eq_true rfl, Nat.le_of_ble_eq_true rfl⟩) hS (fun q _ h => hFc q h) hFc (fun r1 u t H1 locs ht hvm hw hB hz1 hk1 hS => ?_)
  obtain ⟨rcx, upx, hsx, chx, wrx, fx, fy⟩ := u
  obtain ⟨hP1, hK1, hD1⟩ := hB
  rw [ht] at hP1
  try dsimp only at hw
  obtain ⟨hP, hD⟩ := va_join (wr := [(a3, .inl (k3, 8000, .inl f3)), (b0, .inr (1, [.int (nI N), .int up, .int ch, .int wr, .int (nI bg), .int (nI (bg + tu)), .ref b1, .int (nI hs), .ref b2, .int (nI ss), .ref b3, .ref b4, .int (nI rc)])), (b1, .inl (o1, 8000, .inl g1)), (b2, .inl (o2, 8000, .inl g2)), (b3, .inl (o3, 16000, .inl g3)), (b4, .inl (o4, 4001, .inl g4))]) (w1 := [(a0, .inr (0, [.ref a1, .ref a2, .int (nI rcx), .int (nI bg), .ref a3, .int (nI ss), .ref a4, .int (nI hsx), .int upx, .int chx, .int wrx])), (a1, .inl (k1, (500 * N), .inl fx)), (a2, .inl (k2, (125 * N + 1), .inl fy)), (a4, .inl (k4, 8000, .inl f4))]) hP hD [0, 1, 2, 4] [3, 5, 6, 7, 8, 9] rfl rfl (by decide) (by decide) hk1 hFc hP1 hD1
  generalize H1 = H at hP hS ⊢
  have hP : va_P (dC, dI) classes [(a3, .inl (k3, 8000, .inl f3)), (b0, .inr (1, [.int (nI N), .int up, .int ch, .int wr, .int (nI bg), .int (nI (bg + tu)), .ref b1, .int (nI hs), .ref b2, .int (nI ss), .ref b3, .ref b4, .int (nI rc)])), (b1, .inl (o1, 8000, .inl g1)), (b2, .inl (o2, 8000, .inl g2)), (b3, .inl (o3, 16000, .inl g3)), (b4, .inl (o4, 4001, .inl g4)), (a0, .inr (0, [.ref a1, .ref a2, .int (nI rcx), .int (nI bg), .ref a3, .int (nI ss), .ref a4, .int (nI hsx), .int upx, .int chx, .int wrx])), (a1, .inl (k1, (500 * N), .inl fx)), (a2, .inl (k2, (125 * N + 1), .inl fy)), (a4, .inl (k4, 8000, .inl f4))] H := hP
  have hD : va_D (fun q : Nat => s.heap.size ≤ q) [(a3, .inl (k3, 8000, .inl f3)), (b0, .inr (1, [.int (nI N), .int up, .int ch, .int wr, .int (nI bg), .int (nI (bg + tu)), .ref b1, .int (nI hs), .ref b2, .int (nI ss), .ref b3, .ref b4, .int (nI rc)])), (b1, .inl (o1, 8000, .inl g1)), (b2, .inl (o2, 8000, .inl g2)), (b3, .inl (o3, 16000, .inl g3)), (b4, .inl (o4, 4001, .inl g4)), (a0, .inr (0, [.ref a1, .ref a2, .int (nI rcx), .int (nI bg), .ref a3, .int (nI ss), .ref a4, .int (nI hsx), .int upx, .int chx, .int wrx])), (a1, .inl (k1, (500 * N), .inl fx)), (a2, .inl (k2, (125 * N + 1), .inl fy)), (a4, .inl (k4, 8000, .inl f4))] := hD
  have hw_r1 := hw
  refine lv_aload_n hx hb d_law_196 rfl (lv_at hl 2 rfl) ?_
  have hPc := hP.sub (ws' := [(b0, .inr (1, [.int (nI N), .int up, .int ch, .int wr, .int (nI bg), .int (nI (bg + tu)), .ref b1, .int (nI hs), .ref b2, .int (nI ss), .ref b3, .ref b4, .int (nI rc)])), (b1, .inl (o1, 8000, .inl g1)), (b3, .inl (o3, 16000, .inl g3)), (b4, .inl (o4, 4001, .inl g4))]) [1, 2, 4, 5] rfl
  have hDc := hD.sub (ws' := [(b0, .inr (1, [.int (nI N), .int up, .int ch, .int wr, .int (nI bg), .int (nI (bg + tu)), .ref b1, .int (nI hs), .ref b2, .int (nI ss), .ref b3, .ref b4, .int (nI rc)])), (b1, .inl (o1, 8000, .inl g1)), (b3, .inl (o3, 16000, .inl g3)), (b4, .inl (o4, 4001, .inl g4))]) [1, 2, 4, 5] (by decide) rfl
  have hKc := hK.sub (tys' := [(o1, .int), (o3, .int), (o4, .int)]) [4, 6, 7] rfl
  have hFc := va_free (wc := [(b0, .inr (1, [.int (nI N), .int up, .int ch, .int wr, .int (nI bg), .int (nI (bg + tu)), .ref b1, .int (nI hs), .ref b2, .int (nI ss), .ref b3, .ref b4, .int (nI rc)])), (b1, .inl (o1, 8000, .inl g1)), (b3, .inl (o3, 16000, .inl g3)), (b4, .inl (o4, 4001, .inl g4))]) hD hS hA [1, 2, 4, 5] rfl
  refine va_calli (va_runV (As := []) (rest := [.int r1]) ⟨hx, hb, hml, hown, hts⟩ (c_BlockDeskModel_record l dC dI H.size b0 b1 b2 b3 b4 N rc bg ss hs up ch wr o1 o3 o4 tu (tu - 4 * rc) qq g1 g3 g4 hch hN hba (by omega) (by omega) h4t hhs hbg (by omega)) (cwV 0 hts g_law_BlockDeskModel_record rfl rfl rfl (by decide +kernel) ⟨Nat.le_of_ble_eq_true rfl, Nat.le_of_ble_eq_true rfl⟩) ⟨fun a U g mk q => by obtain ⟨q0, q1, qP, qK, qD⟩ := q; exact ⟨q0, q1, qP, va_K.moved (u := U) (U := U.calling g mk a) (Vm.Alike.refl U.vm) qK, qD⟩, va_recv hKc hPc (ci := 1) (q0 := 0) rfl rfl, fun U hU hW => ⟨rfl, by rw [hU], by rw [hU]; exact hPc, va_K.moved hW.alike hKc, hDc.weaken (fun _ _ _ _ => trivial)⟩⟩ rfl rfl hl.1 rfl (lv_room (Nat.le_of_ble_eq_true rfl)) d_law_197 ⟨Nat.le_of_ble_eq_true rfl, Nat.le_of_ble_eq_true rfl⟩) hS (fun q _ h => hFc q h) hFc (fun r2 u t H1 locs ht hvm hw hB hz1 hk1 hS => ?_)
  obtain ⟨rcy, eny, upy, hsy, chy, wry, gx, gy⟩ := u
  obtain ⟨hP1, hK1, hD1⟩ := hB
  rw [ht] at hP1
  try dsimp only at hw
  obtain ⟨hP, hD⟩ := va_join (wr := [(a3, .inl (k3, 8000, .inl f3)), (b2, .inl (o2, 8000, .inl g2)), (a0, .inr (0, [.ref a1, .ref a2, .int (nI rcx), .int (nI bg), .ref a3, .int (nI ss), .ref a4, .int (nI hsx), .int upx, .int chx, .int wrx])), (a1, .inl (k1, (500 * N), .inl fx)), (a2, .inl (k2, (125 * N + 1), .inl fy)), (a4, .inl (k4, 8000, .inl f4))]) (w1 := [(b0, .inr (1, [.int (nI N), .int upy, .int chy, .int wry, .int (nI bg), .int (nI eny), .ref b1, .int (nI hsy), .ref b2, .int (nI ss), .ref b3, .ref b4, .int (nI rcy)])), (b1, .inl (o1, 8000, .inl g1)), (b3, .inl (o3, 16000, .inl gx)), (b4, .inl (o4, 4001, .inl gy))]) hP hD [1, 2, 4, 5] [0, 3, 6, 7, 8, 9] rfl rfl (by decide) (by decide) hk1 hFc hP1 hD1
  generalize H1 = H at hP hS ⊢
  have hP : va_P (dC, dI) classes [(a3, .inl (k3, 8000, .inl f3)), (b2, .inl (o2, 8000, .inl g2)), (a0, .inr (0, [.ref a1, .ref a2, .int (nI rcx), .int (nI bg), .ref a3, .int (nI ss), .ref a4, .int (nI hsx), .int upx, .int chx, .int wrx])), (a1, .inl (k1, (500 * N), .inl fx)), (a2, .inl (k2, (125 * N + 1), .inl fy)), (a4, .inl (k4, 8000, .inl f4)), (b0, .inr (1, [.int (nI N), .int upy, .int chy, .int wry, .int (nI bg), .int (nI eny), .ref b1, .int (nI hsy), .ref b2, .int (nI ss), .ref b3, .ref b4, .int (nI rcy)])), (b1, .inl (o1, 8000, .inl g1)), (b3, .inl (o3, 16000, .inl gx)), (b4, .inl (o4, 4001, .inl gy))] H := hP
  have hD : va_D (fun q : Nat => s.heap.size ≤ q) [(a3, .inl (k3, 8000, .inl f3)), (b2, .inl (o2, 8000, .inl g2)), (a0, .inr (0, [.ref a1, .ref a2, .int (nI rcx), .int (nI bg), .ref a3, .int (nI ss), .ref a4, .int (nI hsx), .int upx, .int chx, .int wrx])), (a1, .inl (k1, (500 * N), .inl fx)), (a2, .inl (k2, (125 * N + 1), .inl fy)), (a4, .inl (k4, 8000, .inl f4)), (b0, .inr (1, [.int (nI N), .int upy, .int chy, .int wry, .int (nI bg), .int (nI eny), .ref b1, .int (nI hsy), .ref b2, .int (nI ss), .ref b3, .ref b4, .int (nI rcy)])), (b1, .inl (o1, 8000, .inl g1)), (b3, .inl (o3, 16000, .inl gx)), (b4, .inl (o4, 4001, .inl gy))] := hD
  have hw_r2 := hw
  obtain ⟨er, e1, e2, e3, e4, e5, T', tu', e6, hI⟩ := zq_p_rec hI hw_r1 hw_r2
  subst er; subst e1; subst e2; subst e3; subst e4; subst e5; subst e6
  have hP : va_P (dC, dI) classes [(a3, .inl (k3, 8000, .inl f3)), (b2, .inl (o2, 8000, .inl g2)), (a0, .inr (0, [.ref a1, .ref a2, .int (nI rcx), .int (nI bg), .ref a3, .int (nI ss), .ref a4, .int (nI hsx), .int upx, .int chx, .int wrx])), (a1, .inl (k1, (500 * N), .inl fx)), (a2, .inl (k2, (125 * N + 1), .inl fy)), (a4, .inl (k4, 8000, .inl f4)), (b0, .inr (1, [.int (nI N), .int upx, .int chx, .int wrx, .int (nI bg), .int (nI (bg + tu')), .ref b1, .int (nI hsx), .ref b2, .int (nI ss), .ref b3, .ref b4, .int (nI rcx)])), (b1, .inl (o1, 8000, .inl g1)), (b3, .inl (o3, 16000, .inl gx)), (b4, .inl (o4, 4001, .inl gy))] H := hP
  have hD : va_D (fun q : Nat => s.heap.size ≤ q) [(a3, .inl (k3, 8000, .inl f3)), (b2, .inl (o2, 8000, .inl g2)), (a0, .inr (0, [.ref a1, .ref a2, .int (nI rcx), .int (nI bg), .ref a3, .int (nI ss), .ref a4, .int (nI hsx), .int upx, .int chx, .int wrx])), (a1, .inl (k1, (500 * N), .inl fx)), (a2, .inl (k2, (125 * N + 1), .inl fy)), (a4, .inl (k4, 8000, .inl f4)), (b0, .inr (1, [.int (nI N), .int upx, .int chx, .int wrx, .int (nI bg), .int (nI (bg + tu')), .ref b1, .int (nI hsx), .ref b2, .int (nI ss), .ref b3, .ref b4, .int (nI rcx)])), (b1, .inl (o1, 8000, .inl g1)), (b3, .inl (o3, 16000, .inl gx)), (b4, .inl (o4, 4001, .inl gy))] := hD
  refine lv_icmp_eq (tgt := 346) hx hb d_law_200 (by decide) (fun c_200 => ?_) (fun c_200 => ?_)
  · exact KK T' rcx bg ss hsx tu' upx chx wrx fx fy f3 f4 g1 g2 gx gy a3 a4 k3 k4 _ _ hI hK (hP.sub [2, 3, 4, 0, 5, 6, 7, 1, 8, 9] rfl) (hD.sub [2, 3, 4, 0, 5, 6, 7, 1, 8, 9] (by decide) rfl) hS
  · exact absurd rfl c_200
set_option maxHeartbeats 4000000 in
set_option maxRecDepth 100000 in
theorem law_3 {p : Program} {l : Launch} {e : Env} {s : State} {m : MethodId} {below : List Frame} {meth : Method} {c : Code} {dC : Nat → ClassId} {dI : Nat → Nat → Nat} {b L : Nat} {xs : Nat → Int32} (hL : L ≤ 2049) (C0 : lw_At p s m meth c b L xs) (N a0 a1 a2 b0 b1 b2 b3 b4 : Nat) (k1 k2 o1 o2 o3 o4 : ClassId) (i : Nat) (hi : 1 ≤ i) (hi4 : i + 4 ≤ L) (ls : Array Slot) (hl : lv_has ls 4 [(0, .ref b), (1, .ref a0), (2, .ref b0), (3, .int (nI i))]) (KK : ∀ (T : Nat → Nat) (rc bg ss hs tu : Nat) (up ch wr : Int32) (f1 f2 f3 f4 g1 g2 g3 g4 : Nat → Int32) (a3 a4 : Nat) (k3 k4 : ClassId) (H : Heap) (locs : List Loc), zq_I N T (i + 4) rc bg ss hs tu ch f1 f2 f3 f4 g1 g2 g3 g4 → va_K (dC, dI) classes [(k1, .byte), (k2, .int), (k3, .byte), (k4, .byte), (o1, .int), (o2, .int), (o3, .int), (o4, .int)] s → va_P (dC, dI) classes [(a0, .inr (0, [.ref a1, .ref a2, .int (nI rc), .int (nI bg), .ref a3, .int (nI ss), .ref a4, .int (nI hs), .int up, .int ch, .int wr])), (a1, .inl (k1, (500 * N), .inl f1)), (a2, .inl (k2, (125 * N + 1), .inl f2)), (a3, .inl (k3, 8000, .inl f3)), (a4, .inl (k4, 8000, .inl f4)), (b0, .inr (1, [.int (nI N), .int up, .int ch, .int wr, .int (nI bg), .int (nI (bg + tu)), .ref b1, .int (nI hs), .ref b2, .int (nI ss), .ref b3, .ref b4, .int (nI rc)])), (b1, .inl (o1, 8000, .inl g1)), (b2, .inl (o2, 8000, .inl g2)), (b3, .inl (o3, 16000, .inl g3)), (b4, .inl (o4, 4001, .inl g4))] H → va_D (fun q : Nat => s.heap.size ≤ q) [(a0, .inr (0, [.ref a1, .ref a2, .int (nI rc), .int (nI bg), .ref a3, .int (nI ss), .ref a4, .int (nI hs), .int up, .int ch, .int wr])), (a1, .inl (k1, (500 * N), .inl f1)), (a2, .inl (k2, (125 * N + 1), .inl f2)), (a3, .inl (k3, 8000, .inl f3)), (a4, .inl (k4, 8000, .inl f4)), (b0, .inr (1, [.int (nI N), .int up, .int ch, .int wr, .int (nI bg), .int (nI (bg + tu)), .ref b1, .int (nI hs), .ref b2, .int (nI ss), .ref b3, .ref b4, .int (nI rc)])), (b1, .inl (o1, 8000, .inl g1)), (b2, .inl (o2, 8000, .inl g2)), (b3, .inl (o3, 16000, .inl g3)), (b4, .inl (o4, 4001, .inl g4))] → va_S (fun q : Nat => s.heap.size ≤ q) s.heap H locs → W p l e room_1 s m #[Value.ref b] below meth c H locs 600000 7302250 (lw_Z below #[Value.ref b] s) (F0 m 346 ls [])) : ∀ (T : Nat → Nat) (rc bg ss hs tu : Nat) (up ch wr : Int32) (f1 f2 f3 f4 g1 g2 g3 g4 : Nat → Int32) (a3 a4 : Nat) (k3 k4 : ClassId) (H : Heap) (locs : List Loc), zq_I N T i rc bg ss hs tu ch f1 f2 f3 f4 g1 g2 g3 g4 → va_K (dC, dI) classes [(k1, .byte), (k2, .int), (k3, .byte), (k4, .byte), (o1, .int), (o2, .int), (o3, .int), (o4, .int)] s → va_P (dC, dI) classes [(a0, .inr (0, [.ref a1, .ref a2, .int (nI rc), .int (nI bg), .ref a3, .int (nI ss), .ref a4, .int (nI hs), .int up, .int ch, .int wr])), (a1, .inl (k1, (500 * N), .inl f1)), (a2, .inl (k2, (125 * N + 1), .inl f2)), (a3, .inl (k3, 8000, .inl f3)), (a4, .inl (k4, 8000, .inl f4)), (b0, .inr (1, [.int (nI N), .int up, .int ch, .int wr, .int (nI bg), .int (nI (bg + tu)), .ref b1, .int (nI hs), .ref b2, .int (nI ss), .ref b3, .ref b4, .int (nI rc)])), (b1, .inl (o1, 8000, .inl g1)), (b2, .inl (o2, 8000, .inl g2)), (b3, .inl (o3, 16000, .inl g3)), (b4, .inl (o4, 4001, .inl g4))] H → va_D (fun q : Nat => s.heap.size ≤ q) [(a0, .inr (0, [.ref a1, .ref a2, .int (nI rc), .int (nI bg), .ref a3, .int (nI ss), .ref a4, .int (nI hs), .int up, .int ch, .int wr])), (a1, .inl (k1, (500 * N), .inl f1)), (a2, .inl (k2, (125 * N + 1), .inl f2)), (a3, .inl (k3, 8000, .inl f3)), (a4, .inl (k4, 8000, .inl f4)), (b0, .inr (1, [.int (nI N), .int up, .int ch, .int wr, .int (nI bg), .int (nI (bg + tu)), .ref b1, .int (nI hs), .ref b2, .int (nI ss), .ref b3, .ref b4, .int (nI rc)])), (b1, .inl (o1, 8000, .inl g1)), (b2, .inl (o2, 8000, .inl g2)), (b3, .inl (o3, 16000, .inl g3)), (b4, .inl (o4, 4001, .inl g4))] → va_S (fun q : Nat => s.heap.size ≤ q) s.heap H locs → W p l e room_1 s m #[Value.ref b] below meth c H locs 600000 7302250 (lw_Z below #[Value.ref b] s) (F0 m 205 ls []) := by
  intro T rc bg ss hs tu up ch wr f1 f2 f3 f4 g1 g2 g3 g4 a3 a4 k3 k4 H locs hI hK hP hD hS
  obtain ⟨hx, hb, hr, hml, hown, hts, hX, hbl, hlocks, hgv⟩ := C0
  have hA : ∀ q : Nat, s.heap.size ≤ q → (fun q : Nat => s.heap.size ≤ q) q := fun _ h => h
  have hbA : ¬ (fun q : Nat => s.heap.size ≤ q) b := Nat.not_le.mpr hbl
  obtain ⟨⟨hN2, hN⟩, ⟨hT0, hM, hTtu, htb⟩, ⟨⟨qq, hbg⟩, hbi⟩, ⟨hss, hhs⟩, hch, ⟨hT2, hT4⟩, hjr, hsn, hRB⟩ := id hI
  have h4 := zq_T4 hT0 hM
  have hTm := zq_Tle hM hTtu
  have h4t := h4 rc (Nat.le_refl _)
  rw [hTtu] at h4t
  have htu2 : f2 rc = nI tu := by rw [hT2 rc (Nat.le_refl _), hTtu]
  have hba : g4 rc = nI (tu - 4 * rc) := by rw [hT4 rc (Nat.le_refl _), hTtu]
  refine lv_aload_n hx hb d_law_205 rfl (lv_at hl 1 rfl) ?_
  have hPc := hP.sub (ws' := [(a0, .inr (0, [.ref a1, .ref a2, .int (nI rc), .int (nI bg), .ref a3, .int (nI ss), .ref a4, .int (nI hs), .int up, .int ch, .int wr])), (a2, .inl (k2, (125 * N + 1), .inl f2))]) [0, 2] rfl
  have hDc := hD.sub (ws' := [(a0, .inr (0, [.ref a1, .ref a2, .int (nI rc), .int (nI bg), .ref a3, .int (nI ss), .ref a4, .int (nI hs), .int up, .int ch, .int wr])), (a2, .inl (k2, (125 * N + 1), .inl f2))]) [0, 2] (by decide) rfl
  have hKc := hK.sub (tys' := [(k2, .int)]) [1] rfl
  have hFc := va_free (wc := [(a0, .inr (0, [.ref a1, .ref a2, .int (nI rc), .int (nI bg), .ref a3, .int (nI ss), .ref a4, .int (nI hs), .int up, .int ch, .int wr])), (a2, .inl (k2, (125 * N + 1), .inl f2))]) hD hS hA [0, 2] rfl
  refine va_calli (va_runV (As := []) (rest := []) ⟨hx, hb, hml, hown, hts⟩ (c_BlockDesk_snapshot l dC dI H.size a0 a1 a2 a3 a4 rc bg ss hs up ch wr k2 (125 * N + 1) tu f2 (by omega) (by omega) htu2 (by omega) hhs) (cwV 0 hts g_law_BlockDesk_snapshot rfl rfl rfl (by decide +kernel) ⟨Nat.le_of_ble_eq_true rfl, Nat.le_of_ble_eq_true rfl⟩) ⟨fun a U g mk q => by obtain ⟨q0, q1, qP, qK, qD⟩ := q; exact ⟨q0, q1, qP, va_K.moved (u := U) (U := U.calling g mk a) (Vm.Alike.refl U.vm) qK, qD⟩, va_recv hKc hPc (ci := 0) (q0 := 0) rfl rfl, fun U hU hW => ⟨rfl, by rw [hU], by rw [hU]; exact hPc, va_K.moved hW.alike hKc, hDc.weaken (fun _ _ _ _ => trivial)⟩⟩ rfl rfl hl.1 rfl (lv_room (Nat.le_of_ble_eq_true rfl)) d_law_206 ⟨Nat.le_of_ble_eq_true rfl, Nat.le_of_ble_eq_true rfl⟩) hS (fun q _ h => hFc q h) hFc (fun r1 u t H1 locs ht hvm hw hB hz1 hk1 hS => ?_)
  obtain ⟨rcx, bgx, ssx, ax3, ax4, upx, hsx, chx, wrx⟩ := u
  obtain ⟨hP1, hK1, hD1⟩ := hB
  rw [ht] at hP1
  try dsimp only at hw
  obtain ⟨hP, hD⟩ := va_join (wr := [(a1, .inl (k1, (500 * N), .inl f1)), (a3, .inl (k3, 8000, .inl f3)), (a4, .inl (k4, 8000, .inl f4)), (b0, .inr (1, [.int (nI N), .int up, .int ch, .int wr, .int (nI bg), .int (nI (bg + tu)), .ref b1, .int (nI hs), .ref b2, .int (nI ss), .ref b3, .ref b4, .int (nI rc)])), (b1, .inl (o1, 8000, .inl g1)), (b2, .inl (o2, 8000, .inl g2)), (b3, .inl (o3, 16000, .inl g3)), (b4, .inl (o4, 4001, .inl g4))]) (w1 := [(a0, .inr (0, [.ref a1, .ref a2, .int (nI rcx), .int (nI bgx), .ref ax3, .int (nI ssx), .ref ax4, .int (nI hsx), .int upx, .int chx, .int wrx])), (a2, .inl (k2, (125 * N + 1), .inl f2))]) hP hD [0, 2] [1, 3, 4, 5, 6, 7, 8, 9] rfl rfl (by decide) (by decide) hk1 hFc hP1 hD1
  generalize H1 = H at hP hS ⊢
  have hP : va_P (dC, dI) classes [(a1, .inl (k1, (500 * N), .inl f1)), (a3, .inl (k3, 8000, .inl f3)), (a4, .inl (k4, 8000, .inl f4)), (b0, .inr (1, [.int (nI N), .int up, .int ch, .int wr, .int (nI bg), .int (nI (bg + tu)), .ref b1, .int (nI hs), .ref b2, .int (nI ss), .ref b3, .ref b4, .int (nI rc)])), (b1, .inl (o1, 8000, .inl g1)), (b2, .inl (o2, 8000, .inl g2)), (b3, .inl (o3, 16000, .inl g3)), (b4, .inl (o4, 4001, .inl g4)), (a0, .inr (0, [.ref a1, .ref a2, .int (nI rcx), .int (nI bgx), .ref ax3, .int (nI ssx), .ref ax4, .int (nI hsx), .int upx, .int chx, .int wrx])), (a2, .inl (k2, (125 * N + 1), .inl f2))] H := hP
  have hD : va_D (fun q : Nat => s.heap.size ≤ q) [(a1, .inl (k1, (500 * N), .inl f1)), (a3, .inl (k3, 8000, .inl f3)), (a4, .inl (k4, 8000, .inl f4)), (b0, .inr (1, [.int (nI N), .int up, .int ch, .int wr, .int (nI bg), .int (nI (bg + tu)), .ref b1, .int (nI hs), .ref b2, .int (nI ss), .ref b3, .ref b4, .int (nI rc)])), (b1, .inl (o1, 8000, .inl g1)), (b2, .inl (o2, 8000, .inl g2)), (b3, .inl (o3, 16000, .inl g3)), (b4, .inl (o4, 4001, .inl g4)), (a0, .inr (0, [.ref a1, .ref a2, .int (nI rcx), .int (nI bgx), .ref ax3, .int (nI ssx), .ref ax4, .int (nI hsx), .int upx, .int chx, .int wrx])), (a2, .inl (k2, (125 * N + 1), .inl f2))] := hD
  have hw_r1 := hw
  refine lv_aload_n hx hb d_law_209 rfl (lv_at hl 2 rfl) ?_
  have hPc := hP.sub (ws' := [(b0, .inr (1, [.int (nI N), .int up, .int ch, .int wr, .int (nI bg), .int (nI (bg + tu)), .ref b1, .int (nI hs), .ref b2, .int (nI ss), .ref b3, .ref b4, .int (nI rc)])), (b1, .inl (o1, 8000, .inl g1)), (b2, .inl (o2, 8000, .inl g2))]) [3, 4, 5] rfl
  have hDc := hD.sub (ws' := [(b0, .inr (1, [.int (nI N), .int up, .int ch, .int wr, .int (nI bg), .int (nI (bg + tu)), .ref b1, .int (nI hs), .ref b2, .int (nI ss), .ref b3, .ref b4, .int (nI rc)])), (b1, .inl (o1, 8000, .inl g1)), (b2, .inl (o2, 8000, .inl g2))]) [3, 4, 5] (by decide) rfl
  have hKc := hK.sub (tys' := [(o1, .int), (o2, .int)]) [4, 5] rfl
  have hFc := va_free (wc := [(b0, .inr (1, [.int (nI N), .int up, .int ch, .int wr, .int (nI bg), .int (nI (bg + tu)), .ref b1, .int (nI hs), .ref b2, .int (nI ss), .ref b3, .ref b4, .int (nI rc)])), (b1, .inl (o1, 8000, .inl g1)), (b2, .inl (o2, 8000, .inl g2))]) hD hS hA [3, 4, 5] rfl
  refine va_calli (va_runV (As := []) (rest := [.int r1]) ⟨hx, hb, hml, hown, hts⟩ (c_BlockDeskModel_snapshot l dC dI H.size b0 b1 b2 b3 b4 N rc bg ss hs up ch wr o1 o2 tu qq g1 g2 hch (by omega) (by omega) h4t (fun h9 => by rw [← hTtu, h9]; exact hT0) hhs hbg (by omega)) (cwV 0 hts g_law_BlockDeskModel_snapshot rfl rfl rfl (by decide +kernel) ⟨Nat.le_of_ble_eq_true rfl, Nat.le_of_ble_eq_true rfl⟩) ⟨fun a U g mk q => by obtain ⟨q0, q1, qP, qK, qD⟩ := q; exact ⟨q0, q1, qP, va_K.moved (u := U) (U := U.calling g mk a) (Vm.Alike.refl U.vm) qK, qD⟩, va_recv hKc hPc (ci := 1) (q0 := 0) rfl rfl, fun U hU hW => ⟨rfl, by rw [hU], by rw [hU]; exact hPc, va_K.moved hW.alike hKc, hDc.weaken (fun _ _ _ _ => trivial)⟩⟩ rfl rfl hl.1 rfl (lv_room (Nat.le_of_ble_eq_true rfl)) d_law_210 ⟨Nat.le_of_ble_eq_true rfl, Nat.le_of_ble_eq_true rfl⟩) hS (fun q _ h => hFc q h) hFc (fun r2 u t H1 locs ht hvm hw hB hz1 hk1 hS => ?_)
  obtain ⟨rcy, bgy, eny, ssy, upy, hsy, chy, wry, gx⟩ := u
  obtain ⟨hP1, hK1, hD1⟩ := hB
  rw [ht] at hP1
  try dsimp only at hw
  obtain ⟨hP, hD⟩ := va_join (wr := [(a1, .inl (k1, (500 * N), .inl f1)), (a3, .inl (k3, 8000, .inl f3)), (a4, .inl (k4, 8000, .inl f4)), (b3, .inl (o3, 16000, .inl g3)), (b4, .inl (o4, 4001, .inl g4)), (a0, .inr (0, [.ref a1, .ref a2, .int (nI rcx), .int (nI bgx), .ref ax3, .int (nI ssx), .ref ax4, .int (nI hsx), .int upx, .int chx, .int wrx])), (a2, .inl (k2, (125 * N + 1), .inl f2))]) (w1 := [(b0, .inr (1, [.int (nI N), .int upy, .int chy, .int wry, .int (nI bgy), .int (nI eny), .ref b1, .int (nI hsy), .ref b2, .int (nI ssy), .ref b3, .ref b4, .int (nI rcy)])), (b1, .inl (o1, 8000, .inl g1)), (b2, .inl (o2, 8000, .inl gx))]) hP hD [3, 4, 5] [0, 1, 2, 6, 7, 8, 9] rfl rfl (by decide) (by decide) hk1 hFc hP1 hD1
  generalize H1 = H at hP hS ⊢
  have hP : va_P (dC, dI) classes [(a1, .inl (k1, (500 * N), .inl f1)), (a3, .inl (k3, 8000, .inl f3)), (a4, .inl (k4, 8000, .inl f4)), (b3, .inl (o3, 16000, .inl g3)), (b4, .inl (o4, 4001, .inl g4)), (a0, .inr (0, [.ref a1, .ref a2, .int (nI rcx), .int (nI bgx), .ref ax3, .int (nI ssx), .ref ax4, .int (nI hsx), .int upx, .int chx, .int wrx])), (a2, .inl (k2, (125 * N + 1), .inl f2)), (b0, .inr (1, [.int (nI N), .int upy, .int chy, .int wry, .int (nI bgy), .int (nI eny), .ref b1, .int (nI hsy), .ref b2, .int (nI ssy), .ref b3, .ref b4, .int (nI rcy)])), (b1, .inl (o1, 8000, .inl g1)), (b2, .inl (o2, 8000, .inl gx))] H := hP
  have hD : va_D (fun q : Nat => s.heap.size ≤ q) [(a1, .inl (k1, (500 * N), .inl f1)), (a3, .inl (k3, 8000, .inl f3)), (a4, .inl (k4, 8000, .inl f4)), (b3, .inl (o3, 16000, .inl g3)), (b4, .inl (o4, 4001, .inl g4)), (a0, .inr (0, [.ref a1, .ref a2, .int (nI rcx), .int (nI bgx), .ref ax3, .int (nI ssx), .ref ax4, .int (nI hsx), .int upx, .int chx, .int wrx])), (a2, .inl (k2, (125 * N + 1), .inl f2)), (b0, .inr (1, [.int (nI N), .int upy, .int chy, .int wry, .int (nI bgy), .int (nI eny), .ref b1, .int (nI hsy), .ref b2, .int (nI ssy), .ref b3, .ref b4, .int (nI rcy)])), (b1, .inl (o1, 8000, .inl g1)), (b2, .inl (o2, 8000, .inl gx))] := hD
  have hw_r2 := hw
  obtain ⟨er, e1, e2, e3, e4, e5, e6, e7, T', tu', e8, hI⟩ := zq_p_snap hI hw_r1 hw_r2
  subst er; subst e1; subst e2; subst e3; subst e4; subst e5; subst e6; subst e7; subst e8
  have hP : va_P (dC, dI) classes [(a1, .inl (k1, (500 * N), .inl f1)), (a3, .inl (k3, 8000, .inl f3)), (a4, .inl (k4, 8000, .inl f4)), (b3, .inl (o3, 16000, .inl g3)), (b4, .inl (o4, 4001, .inl g4)), (a0, .inr (0, [.ref a1, .ref a2, .int (nI rcx), .int (nI bgx), .ref ax3, .int (nI ssx), .ref ax4, .int (nI hsx), .int upx, .int chx, .int wrx])), (a2, .inl (k2, (125 * N + 1), .inl f2)), (b0, .inr (1, [.int (nI N), .int upx, .int chx, .int wrx, .int (nI bgx), .int (nI (bgx + tu')), .ref b1, .int (nI hsx), .ref b2, .int (nI ssx), .ref b3, .ref b4, .int (nI rcx)])), (b1, .inl (o1, 8000, .inl g1)), (b2, .inl (o2, 8000, .inl gx))] H := hP
  have hD : va_D (fun q : Nat => s.heap.size ≤ q) [(a1, .inl (k1, (500 * N), .inl f1)), (a3, .inl (k3, 8000, .inl f3)), (a4, .inl (k4, 8000, .inl f4)), (b3, .inl (o3, 16000, .inl g3)), (b4, .inl (o4, 4001, .inl g4)), (a0, .inr (0, [.ref a1, .ref a2, .int (nI rcx), .int (nI bgx), .ref ax3, .int (nI ssx), .ref ax4, .int (nI hsx), .int upx, .int chx, .int wrx])), (a2, .inl (k2, (125 * N + 1), .inl f2)), (b0, .inr (1, [.int (nI N), .int upx, .int chx, .int wrx, .int (nI bgx), .int (nI (bgx + tu')), .ref b1, .int (nI hsx), .ref b2, .int (nI ssx), .ref b3, .ref b4, .int (nI rcx)])), (b1, .inl (o1, 8000, .inl g1)), (b2, .inl (o2, 8000, .inl gx))] := hD
  rcases hI with ⟨x1, x2, hI⟩ | ⟨x1, x2, hI⟩
  · subst x1; subst x2
    have hP : va_P (dC, dI) classes [(a1, .inl (k1, (500 * N), .inl f1)), (a3, .inl (k3, 8000, .inl f3)), (a4, .inl (k4, 8000, .inl f4)), (b3, .inl (o3, 16000, .inl g3)), (b4, .inl (o4, 4001, .inl g4)), (a0, .inr (0, [.ref a1, .ref a2, .int (nI rcx), .int (nI bgx), .ref a3, .int (nI ssx), .ref a4, .int (nI hsx), .int upx, .int chx, .int wrx])), (a2, .inl (k2, (125 * N + 1), .inl f2)), (b0, .inr (1, [.int (nI N), .int upx, .int chx, .int wrx, .int (nI bgx), .int (nI (bgx + tu')), .ref b1, .int (nI hsx), .ref b2, .int (nI ssx), .ref b3, .ref b4, .int (nI rcx)])), (b1, .inl (o1, 8000, .inl g1)), (b2, .inl (o2, 8000, .inl gx))] H := hP
    have hD : va_D (fun q : Nat => s.heap.size ≤ q) [(a1, .inl (k1, (500 * N), .inl f1)), (a3, .inl (k3, 8000, .inl f3)), (a4, .inl (k4, 8000, .inl f4)), (b3, .inl (o3, 16000, .inl g3)), (b4, .inl (o4, 4001, .inl g4)), (a0, .inr (0, [.ref a1, .ref a2, .int (nI rcx), .int (nI bgx), .ref a3, .int (nI ssx), .ref a4, .int (nI hsx), .int upx, .int chx, .int wrx])), (a2, .inl (k2, (125 * N + 1), .inl f2)), (b0, .inr (1, [.int (nI N), .int upx, .int chx, .int wrx, .int (nI bgx), .int (nI (bgx + tu')), .ref b1, .int (nI hsx), .ref b2, .int (nI ssx), .ref b3, .ref b4, .int (nI rcx)])), (b1, .inl (o1, 8000, .inl g1)), (b2, .inl (o2, 8000, .inl gx))] := hD
    refine lv_icmp_eq (tgt := 346) hx hb d_law_213 (by decide) (fun c_213 => ?_) (fun c_213 => ?_)
    · exact KK T' rcx bgx ssx hsx tu' upx chx wrx f1 f2 f3 f4 g1 gx g3 g4 a3 a4 k3 k4 _ _ hI hK (hP.sub [5, 0, 6, 1, 2, 7, 8, 9, 3, 4] rfl) (hD.sub [5, 0, 6, 1, 2, 7, 8, 9, 3, 4] (by decide) rfl) hS
    · exact absurd rfl c_213
  · subst x1; subst x2
    have hP : va_P (dC, dI) classes [(a1, .inl (k1, (500 * N), .inl f1)), (a3, .inl (k3, 8000, .inl f3)), (a4, .inl (k4, 8000, .inl f4)), (b3, .inl (o3, 16000, .inl g3)), (b4, .inl (o4, 4001, .inl g4)), (a0, .inr (0, [.ref a1, .ref a2, .int (nI rcx), .int (nI bgx), .ref a4, .int (nI ssx), .ref a3, .int (nI hsx), .int upx, .int chx, .int wrx])), (a2, .inl (k2, (125 * N + 1), .inl f2)), (b0, .inr (1, [.int (nI N), .int upx, .int chx, .int wrx, .int (nI bgx), .int (nI (bgx + tu')), .ref b1, .int (nI hsx), .ref b2, .int (nI ssx), .ref b3, .ref b4, .int (nI rcx)])), (b1, .inl (o1, 8000, .inl g1)), (b2, .inl (o2, 8000, .inl gx))] H := hP
    have hD : va_D (fun q : Nat => s.heap.size ≤ q) [(a1, .inl (k1, (500 * N), .inl f1)), (a3, .inl (k3, 8000, .inl f3)), (a4, .inl (k4, 8000, .inl f4)), (b3, .inl (o3, 16000, .inl g3)), (b4, .inl (o4, 4001, .inl g4)), (a0, .inr (0, [.ref a1, .ref a2, .int (nI rcx), .int (nI bgx), .ref a4, .int (nI ssx), .ref a3, .int (nI hsx), .int upx, .int chx, .int wrx])), (a2, .inl (k2, (125 * N + 1), .inl f2)), (b0, .inr (1, [.int (nI N), .int upx, .int chx, .int wrx, .int (nI bgx), .int (nI (bgx + tu')), .ref b1, .int (nI hsx), .ref b2, .int (nI ssx), .ref b3, .ref b4, .int (nI rcx)])), (b1, .inl (o1, 8000, .inl g1)), (b2, .inl (o2, 8000, .inl gx))] := hD
    refine lv_icmp_eq (tgt := 346) hx hb d_law_213 (by decide) (fun c_213 => ?_) (fun c_213 => ?_)
    · exact KK T' rcx bgx ssx hsx tu' upx chx wrx f1 f2 f4 f3 g1 gx g3 g4 a4 a3 k4 k3 _ _ hI (hK.sub [0, 1, 3, 2, 4, 5, 6, 7] rfl) (hP.sub [5, 0, 6, 2, 1, 7, 8, 9, 3, 4] rfl) (hD.sub [5, 0, 6, 2, 1, 7, 8, 9, 3, 4] (by decide) rfl) hS
    · exact absurd rfl c_213
end
section
set_option maxHeartbeats 4000000 in
set_option maxRecDepth 100000 in
theorem law_4 {p : Program} {l : Launch} {e : Env} {s : State} {m : MethodId} {below : List Frame} {meth : Method} {c : Code} {dC : Nat → ClassId} {dI : Nat → Nat → Nat} {b L : Nat} {xs : Nat → Int32} (hL : L ≤ 2049) (C0 : lw_At p s m meth c b L xs) (N a0 a1 a2 b0 b1 b2 b3 b4 : Nat) (k1 k2 o1 o2 o3 o4 : ClassId) (i : Nat) (hi : 1 ≤ i) (hi4 : i + 4 ≤ L) (ls : Array Slot) (hl : lv_has ls 4 [(0, .ref b), (1, .ref a0), (2, .ref b0), (3, .int (nI i))]) (KK : ∀ (T : Nat → Nat) (rc bg ss hs tu : Nat) (up ch wr : Int32) (f1 f2 f3 f4 g1 g2 g3 g4 : Nat → Int32) (a3 a4 : Nat) (k3 k4 : ClassId) (H : Heap) (locs : List Loc), zq_I N T (i + 4) rc bg ss hs tu ch f1 f2 f3 f4 g1 g2 g3 g4 → va_K (dC, dI) classes [(k1, .byte), (k2, .int), (k3, .byte), (k4, .byte), (o1, .int), (o2, .int), (o3, .int), (o4, .int)] s → va_P (dC, dI) classes [(a0, .inr (0, [.ref a1, .ref a2, .int (nI rc), .int (nI bg), .ref a3, .int (nI ss), .ref a4, .int (nI hs), .int up, .int ch, .int wr])), (a1, .inl (k1, (500 * N), .inl f1)), (a2, .inl (k2, (125 * N + 1), .inl f2)), (a3, .inl (k3, 8000, .inl f3)), (a4, .inl (k4, 8000, .inl f4)), (b0, .inr (1, [.int (nI N), .int up, .int ch, .int wr, .int (nI bg), .int (nI (bg + tu)), .ref b1, .int (nI hs), .ref b2, .int (nI ss), .ref b3, .ref b4, .int (nI rc)])), (b1, .inl (o1, 8000, .inl g1)), (b2, .inl (o2, 8000, .inl g2)), (b3, .inl (o3, 16000, .inl g3)), (b4, .inl (o4, 4001, .inl g4))] H → va_D (fun q : Nat => s.heap.size ≤ q) [(a0, .inr (0, [.ref a1, .ref a2, .int (nI rc), .int (nI bg), .ref a3, .int (nI ss), .ref a4, .int (nI hs), .int up, .int ch, .int wr])), (a1, .inl (k1, (500 * N), .inl f1)), (a2, .inl (k2, (125 * N + 1), .inl f2)), (a3, .inl (k3, 8000, .inl f3)), (a4, .inl (k4, 8000, .inl f4)), (b0, .inr (1, [.int (nI N), .int up, .int ch, .int wr, .int (nI bg), .int (nI (bg + tu)), .ref b1, .int (nI hs), .ref b2, .int (nI ss), .ref b3, .ref b4, .int (nI rc)])), (b1, .inl (o1, 8000, .inl g1)), (b2, .inl (o2, 8000, .inl g2)), (b3, .inl (o3, 16000, .inl g3)), (b4, .inl (o4, 4001, .inl g4))] → va_S (fun q : Nat => s.heap.size ≤ q) s.heap H locs → W p l e room_1 s m #[Value.ref b] below meth c H locs 600000 7302250 (lw_Z below #[Value.ref b] s) (F0 m 346 ls [])) : ∀ (T : Nat → Nat) (rc bg ss hs tu : Nat) (up ch wr : Int32) (f1 f2 f3 f4 g1 g2 g3 g4 : Nat → Int32) (a3 a4 : Nat) (k3 k4 : ClassId) (H : Heap) (locs : List Loc), zq_I N T i rc bg ss hs tu ch f1 f2 f3 f4 g1 g2 g3 g4 → va_K (dC, dI) classes [(k1, .byte), (k2, .int), (k3, .byte), (k4, .byte), (o1, .int), (o2, .int), (o3, .int), (o4, .int)] s → va_P (dC, dI) classes [(a0, .inr (0, [.ref a1, .ref a2, .int (nI rc), .int (nI bg), .ref a3, .int (nI ss), .ref a4, .int (nI hs), .int up, .int ch, .int wr])), (a1, .inl (k1, (500 * N), .inl f1)), (a2, .inl (k2, (125 * N + 1), .inl f2)), (a3, .inl (k3, 8000, .inl f3)), (a4, .inl (k4, 8000, .inl f4)), (b0, .inr (1, [.int (nI N), .int up, .int ch, .int wr, .int (nI bg), .int (nI (bg + tu)), .ref b1, .int (nI hs), .ref b2, .int (nI ss), .ref b3, .ref b4, .int (nI rc)])), (b1, .inl (o1, 8000, .inl g1)), (b2, .inl (o2, 8000, .inl g2)), (b3, .inl (o3, 16000, .inl g3)), (b4, .inl (o4, 4001, .inl g4))] H → va_D (fun q : Nat => s.heap.size ≤ q) [(a0, .inr (0, [.ref a1, .ref a2, .int (nI rc), .int (nI bg), .ref a3, .int (nI ss), .ref a4, .int (nI hs), .int up, .int ch, .int wr])), (a1, .inl (k1, (500 * N), .inl f1)), (a2, .inl (k2, (125 * N + 1), .inl f2)), (a3, .inl (k3, 8000, .inl f3)), (a4, .inl (k4, 8000, .inl f4)), (b0, .inr (1, [.int (nI N), .int up, .int ch, .int wr, .int (nI bg), .int (nI (bg + tu)), .ref b1, .int (nI hs), .ref b2, .int (nI ss), .ref b3, .ref b4, .int (nI rc)])), (b1, .inl (o1, 8000, .inl g1)), (b2, .inl (o2, 8000, .inl g2)), (b3, .inl (o3, 16000, .inl g3)), (b4, .inl (o4, 4001, .inl g4))] → va_S (fun q : Nat => s.heap.size ≤ q) s.heap H locs → W p l e room_1 s m #[Value.ref b] below meth c H locs 600000 7302250 (lw_Z below #[Value.ref b] s) (F0 m 218 ls []) := by
  intro T rc bg ss hs tu up ch wr f1 f2 f3 f4 g1 g2 g3 g4 a3 a4 k3 k4 H locs hI hK hP hD hS
  obtain ⟨hx, hb, hr, hml, hown, hts, hX, hbl, hlocks, hgv⟩ := C0
  have hA : ∀ q : Nat, s.heap.size ≤ q → (fun q : Nat => s.heap.size ≤ q) q := fun _ h => h
  have hbA : ¬ (fun q : Nat => s.heap.size ≤ q) b := Nat.not_le.mpr hbl
  obtain ⟨⟨hN2, hN⟩, ⟨hT0, hM, hTtu, htb⟩, ⟨⟨qq, hbg⟩, hbi⟩, ⟨hss, hhs⟩, hch, ⟨hT2, hT4⟩, hjr, hsn, hRB⟩ := id hI
  have h4 := zq_T4 hT0 hM
  have hTm := zq_Tle hM hTtu
  have h4t := h4 rc (Nat.le_refl _)
  rw [hTtu] at h4t
  have htu2 : f2 rc = nI tu := by rw [hT2 rc (Nat.le_refl _), hTtu]
  have hba : g4 rc = nI (tu - 4 * rc) := by rw [hT4 rc (Nat.le_refl _), hTtu]
  refine lv_aload_n hx hb d_law_218 rfl (lv_at hl 1 rfl) ?_
  have hPc := hP.sub (ws' := [(a0, .inr (0, [.ref a1, .ref a2, .int (nI rc), .int (nI bg), .ref a3, .int (nI ss), .ref a4, .int (nI hs), .int up, .int ch, .int wr]))]) [0] rfl
  have hDc := hD.sub (ws' := [(a0, .inr (0, [.ref a1, .ref a2, .int (nI rc), .int (nI bg), .ref a3, .int (nI ss), .ref a4, .int (nI hs), .int up, .int ch, .int wr]))]) [0] (by decide) rfl
  have hKc := hK.sub (tys' := []) [] rfl
  have hFc := va_free (wc := [(a0, .inr (0, [.ref a1, .ref a2, .int (nI rc), .int (nI bg), .ref a3, .int (nI ss), .ref a4, .int (nI hs), .int up, .int ch, .int wr]))]) hD hS hA [0] rfl
  refine va_calli (va_runV (As := []) (rest := []) ⟨hx, hb, hml, hown, hts⟩ (c_BlockDesk_cut l dC dI H.size a0 a1 a2 a3 a4 rc bg ss hs up ch wr ) (cwV 0 hts g_law_BlockDesk_cut rfl rfl rfl (by decide +kernel) ⟨Nat.le_of_ble_eq_true rfl, Nat.le_of_ble_eq_true rfl⟩) ⟨fun a U g mk q => by obtain ⟨q0, q1, qP, qK, qD⟩ := q; exact ⟨q0, q1, qP, va_K.moved (u := U) (U := U.calling g mk a) (Vm.Alike.refl U.vm) qK, qD⟩, va_recv hKc hPc (ci := 0) (q0 := 0) rfl rfl, fun U hU hW => ⟨rfl, by rw [hU], by rw [hU]; exact hPc, va_K.moved hW.alike hKc, hDc.weaken (fun _ _ _ _ => trivial)⟩⟩ rfl rfl hl.1 rfl (lv_room (Nat.le_of_ble_eq_true rfl)) d_law_219 ⟨Nat.le_of_ble_eq_true rfl, Nat.le_of_ble_eq_true rfl⟩) hS (fun q _ h => hFc q h) hFc (fun r1 u t H1 locs ht hvm hw hB hz1 hk1 hS => ?_)
  obtain ⟨upx, hsx, chx, wrx⟩ := u
  obtain ⟨hP1, hK1, hD1⟩ := hB
  rw [ht] at hP1
  try dsimp only at hw
  obtain ⟨hP, hD⟩ := va_join (wr := [(a1, .inl (k1, (500 * N), .inl f1)), (a2, .inl (k2, (125 * N + 1), .inl f2)), (a3, .inl (k3, 8000, .inl f3)), (a4, .inl (k4, 8000, .inl f4)), (b0, .inr (1, [.int (nI N), .int up, .int ch, .int wr, .int (nI bg), .int (nI (bg + tu)), .ref b1, .int (nI hs), .ref b2, .int (nI ss), .ref b3, .ref b4, .int (nI rc)])), (b1, .inl (o1, 8000, .inl g1)), (b2, .inl (o2, 8000, .inl g2)), (b3, .inl (o3, 16000, .inl g3)), (b4, .inl (o4, 4001, .inl g4))]) (w1 := [(a0, .inr (0, [.ref a1, .ref a2, .int (nI rc), .int (nI bg), .ref a3, .int (nI ss), .ref a4, .int (nI hsx), .int upx, .int chx, .int wrx]))]) hP hD [0] [1, 2, 3, 4, 5, 6, 7, 8, 9] rfl rfl (by decide) (by decide) hk1 hFc hP1 hD1
  generalize H1 = H at hP hS ⊢
  have hP : va_P (dC, dI) classes [(a1, .inl (k1, (500 * N), .inl f1)), (a2, .inl (k2, (125 * N + 1), .inl f2)), (a3, .inl (k3, 8000, .inl f3)), (a4, .inl (k4, 8000, .inl f4)), (b0, .inr (1, [.int (nI N), .int up, .int ch, .int wr, .int (nI bg), .int (nI (bg + tu)), .ref b1, .int (nI hs), .ref b2, .int (nI ss), .ref b3, .ref b4, .int (nI rc)])), (b1, .inl (o1, 8000, .inl g1)), (b2, .inl (o2, 8000, .inl g2)), (b3, .inl (o3, 16000, .inl g3)), (b4, .inl (o4, 4001, .inl g4)), (a0, .inr (0, [.ref a1, .ref a2, .int (nI rc), .int (nI bg), .ref a3, .int (nI ss), .ref a4, .int (nI hsx), .int upx, .int chx, .int wrx]))] H := hP
  have hD : va_D (fun q : Nat => s.heap.size ≤ q) [(a1, .inl (k1, (500 * N), .inl f1)), (a2, .inl (k2, (125 * N + 1), .inl f2)), (a3, .inl (k3, 8000, .inl f3)), (a4, .inl (k4, 8000, .inl f4)), (b0, .inr (1, [.int (nI N), .int up, .int ch, .int wr, .int (nI bg), .int (nI (bg + tu)), .ref b1, .int (nI hs), .ref b2, .int (nI ss), .ref b3, .ref b4, .int (nI rc)])), (b1, .inl (o1, 8000, .inl g1)), (b2, .inl (o2, 8000, .inl g2)), (b3, .inl (o3, 16000, .inl g3)), (b4, .inl (o4, 4001, .inl g4)), (a0, .inr (0, [.ref a1, .ref a2, .int (nI rc), .int (nI bg), .ref a3, .int (nI ss), .ref a4, .int (nI hsx), .int upx, .int chx, .int wrx]))] := hD
  have hw_r1 := hw
  refine lv_aload_n hx hb d_law_222 rfl (lv_at hl 2 rfl) ?_
  have hPc := hP.sub (ws' := [(b0, .inr (1, [.int (nI N), .int up, .int ch, .int wr, .int (nI bg), .int (nI (bg + tu)), .ref b1, .int (nI hs), .ref b2, .int (nI ss), .ref b3, .ref b4, .int (nI rc)]))]) [4] rfl
  have hDc := hD.sub (ws' := [(b0, .inr (1, [.int (nI N), .int up, .int ch, .int wr, .int (nI bg), .int (nI (bg + tu)), .ref b1, .int (nI hs), .ref b2, .int (nI ss), .ref b3, .ref b4, .int (nI rc)]))]) [4] (by decide) rfl
  have hKc := hK.sub (tys' := []) [] rfl
  have hFc := va_free (wc := [(b0, .inr (1, [.int (nI N), .int up, .int ch, .int wr, .int (nI bg), .int (nI (bg + tu)), .ref b1, .int (nI hs), .ref b2, .int (nI ss), .ref b3, .ref b4, .int (nI rc)]))]) hD hS hA [4] rfl
  refine va_calli (va_runV (As := []) (rest := [.int r1]) ⟨hx, hb, hml, hown, hts⟩ (c_BlockDeskModel_cut l dC dI H.size b0 b1 b2 b3 b4 N rc bg (bg + tu) ss hs up ch wr ) (cwV 0 hts g_law_BlockDeskModel_cut rfl rfl rfl (by decide +kernel) ⟨Nat.le_of_ble_eq_true rfl, Nat.le_of_ble_eq_true rfl⟩) ⟨fun a U g mk q => by obtain ⟨q0, q1, qP, qK, qD⟩ := q; exact ⟨q0, q1, qP, va_K.moved (u := U) (U := U.calling g mk a) (Vm.Alike.refl U.vm) qK, qD⟩, va_recv hKc hPc (ci := 1) (q0 := 0) rfl rfl, fun U hU hW => ⟨rfl, by rw [hU], by rw [hU]; exact hPc, va_K.moved hW.alike hKc, hDc.weaken (fun _ _ _ _ => trivial)⟩⟩ rfl rfl hl.1 rfl (lv_room (Nat.le_of_ble_eq_true rfl)) d_law_223 ⟨Nat.le_of_ble_eq_true rfl, Nat.le_of_ble_eq_true rfl⟩) hS (fun q _ h => hFc q h) hFc (fun r2 u t H1 locs ht hvm hw hB hz1 hk1 hS => ?_)
  obtain ⟨upy, hsy, chy, wry⟩ := u
  obtain ⟨hP1, hK1, hD1⟩ := hB
  rw [ht] at hP1
  try dsimp only at hw
  obtain ⟨hP, hD⟩ := va_join (wr := [(a1, .inl (k1, (500 * N), .inl f1)), (a2, .inl (k2, (125 * N + 1), .inl f2)), (a3, .inl (k3, 8000, .inl f3)), (a4, .inl (k4, 8000, .inl f4)), (b1, .inl (o1, 8000, .inl g1)), (b2, .inl (o2, 8000, .inl g2)), (b3, .inl (o3, 16000, .inl g3)), (b4, .inl (o4, 4001, .inl g4)), (a0, .inr (0, [.ref a1, .ref a2, .int (nI rc), .int (nI bg), .ref a3, .int (nI ss), .ref a4, .int (nI hsx), .int upx, .int chx, .int wrx]))]) (w1 := [(b0, .inr (1, [.int (nI N), .int upy, .int chy, .int wry, .int (nI bg), .int (nI (bg + tu)), .ref b1, .int (nI hsy), .ref b2, .int (nI ss), .ref b3, .ref b4, .int (nI rc)]))]) hP hD [4] [0, 1, 2, 3, 5, 6, 7, 8, 9] rfl rfl (by decide) (by decide) hk1 hFc hP1 hD1
  generalize H1 = H at hP hS ⊢
  have hP : va_P (dC, dI) classes [(a1, .inl (k1, (500 * N), .inl f1)), (a2, .inl (k2, (125 * N + 1), .inl f2)), (a3, .inl (k3, 8000, .inl f3)), (a4, .inl (k4, 8000, .inl f4)), (b1, .inl (o1, 8000, .inl g1)), (b2, .inl (o2, 8000, .inl g2)), (b3, .inl (o3, 16000, .inl g3)), (b4, .inl (o4, 4001, .inl g4)), (a0, .inr (0, [.ref a1, .ref a2, .int (nI rc), .int (nI bg), .ref a3, .int (nI ss), .ref a4, .int (nI hsx), .int upx, .int chx, .int wrx])), (b0, .inr (1, [.int (nI N), .int upy, .int chy, .int wry, .int (nI bg), .int (nI (bg + tu)), .ref b1, .int (nI hsy), .ref b2, .int (nI ss), .ref b3, .ref b4, .int (nI rc)]))] H := hP
  have hD : va_D (fun q : Nat => s.heap.size ≤ q) [(a1, .inl (k1, (500 * N), .inl f1)), (a2, .inl (k2, (125 * N + 1), .inl f2)), (a3, .inl (k3, 8000, .inl f3)), (a4, .inl (k4, 8000, .inl f4)), (b1, .inl (o1, 8000, .inl g1)), (b2, .inl (o2, 8000, .inl g2)), (b3, .inl (o3, 16000, .inl g3)), (b4, .inl (o4, 4001, .inl g4)), (a0, .inr (0, [.ref a1, .ref a2, .int (nI rc), .int (nI bg), .ref a3, .int (nI ss), .ref a4, .int (nI hsx), .int upx, .int chx, .int wrx])), (b0, .inr (1, [.int (nI N), .int upy, .int chy, .int wry, .int (nI bg), .int (nI (bg + tu)), .ref b1, .int (nI hsy), .ref b2, .int (nI ss), .ref b3, .ref b4, .int (nI rc)]))] := hD
  have hw_r2 := hw
  obtain ⟨er, e1, e2, e3, e4, hI⟩ := zq_p_cut hI hw_r1 hw_r2
  subst er; subst e1; subst e2; subst e3; subst e4
  have hP : va_P (dC, dI) classes [(a1, .inl (k1, (500 * N), .inl f1)), (a2, .inl (k2, (125 * N + 1), .inl f2)), (a3, .inl (k3, 8000, .inl f3)), (a4, .inl (k4, 8000, .inl f4)), (b1, .inl (o1, 8000, .inl g1)), (b2, .inl (o2, 8000, .inl g2)), (b3, .inl (o3, 16000, .inl g3)), (b4, .inl (o4, 4001, .inl g4)), (a0, .inr (0, [.ref a1, .ref a2, .int (nI rc), .int (nI bg), .ref a3, .int (nI ss), .ref a4, .int (nI hsx), .int upx, .int chx, .int wrx])), (b0, .inr (1, [.int (nI N), .int upx, .int chx, .int wrx, .int (nI bg), .int (nI (bg + tu)), .ref b1, .int (nI hsx), .ref b2, .int (nI ss), .ref b3, .ref b4, .int (nI rc)]))] H := hP
  have hD : va_D (fun q : Nat => s.heap.size ≤ q) [(a1, .inl (k1, (500 * N), .inl f1)), (a2, .inl (k2, (125 * N + 1), .inl f2)), (a3, .inl (k3, 8000, .inl f3)), (a4, .inl (k4, 8000, .inl f4)), (b1, .inl (o1, 8000, .inl g1)), (b2, .inl (o2, 8000, .inl g2)), (b3, .inl (o3, 16000, .inl g3)), (b4, .inl (o4, 4001, .inl g4)), (a0, .inr (0, [.ref a1, .ref a2, .int (nI rc), .int (nI bg), .ref a3, .int (nI ss), .ref a4, .int (nI hsx), .int upx, .int chx, .int wrx])), (b0, .inr (1, [.int (nI N), .int upx, .int chx, .int wrx, .int (nI bg), .int (nI (bg + tu)), .ref b1, .int (nI hsx), .ref b2, .int (nI ss), .ref b3, .ref b4, .int (nI rc)]))] := hD
  refine lv_icmp_eq (tgt := 346) hx hb d_law_226 (by decide) (fun c_226 => ?_) (fun c_226 => ?_)
  · exact KK T rc bg ss hsx tu upx chx wrx f1 f2 f3 f4 g1 g2 g3 g4 a3 a4 k3 k4 _ _ hI hK (hP.sub [8, 0, 1, 2, 3, 9, 4, 5, 6, 7] rfl) (hD.sub [8, 0, 1, 2, 3, 9, 4, 5, 6, 7] (by decide) rfl) hS
  · exact absurd rfl c_226
set_option maxHeartbeats 4000000 in
set_option maxRecDepth 100000 in
theorem law_5 {p : Program} {l : Launch} {e : Env} {s : State} {m : MethodId} {below : List Frame} {meth : Method} {c : Code} {dC : Nat → ClassId} {dI : Nat → Nat → Nat} {b L : Nat} {xs : Nat → Int32} (hL : L ≤ 2049) (C0 : lw_At p s m meth c b L xs) (N a0 a1 a2 b0 b1 b2 b3 b4 : Nat) (k1 k2 o1 o2 o3 o4 : ClassId) (i : Nat) (hi : 1 ≤ i) (hi4 : i + 4 ≤ L) (ls : Array Slot) (hl : lv_has ls 4 [(0, .ref b), (1, .ref a0), (2, .ref b0), (3, .int (nI i))]) (KK : ∀ (T : Nat → Nat) (rc bg ss hs tu : Nat) (up ch wr : Int32) (f1 f2 f3 f4 g1 g2 g3 g4 : Nat → Int32) (a3 a4 : Nat) (k3 k4 : ClassId) (H : Heap) (locs : List Loc), zq_I N T (i + 4) rc bg ss hs tu ch f1 f2 f3 f4 g1 g2 g3 g4 → va_K (dC, dI) classes [(k1, .byte), (k2, .int), (k3, .byte), (k4, .byte), (o1, .int), (o2, .int), (o3, .int), (o4, .int)] s → va_P (dC, dI) classes [(a0, .inr (0, [.ref a1, .ref a2, .int (nI rc), .int (nI bg), .ref a3, .int (nI ss), .ref a4, .int (nI hs), .int up, .int ch, .int wr])), (a1, .inl (k1, (500 * N), .inl f1)), (a2, .inl (k2, (125 * N + 1), .inl f2)), (a3, .inl (k3, 8000, .inl f3)), (a4, .inl (k4, 8000, .inl f4)), (b0, .inr (1, [.int (nI N), .int up, .int ch, .int wr, .int (nI bg), .int (nI (bg + tu)), .ref b1, .int (nI hs), .ref b2, .int (nI ss), .ref b3, .ref b4, .int (nI rc)])), (b1, .inl (o1, 8000, .inl g1)), (b2, .inl (o2, 8000, .inl g2)), (b3, .inl (o3, 16000, .inl g3)), (b4, .inl (o4, 4001, .inl g4))] H → va_D (fun q : Nat => s.heap.size ≤ q) [(a0, .inr (0, [.ref a1, .ref a2, .int (nI rc), .int (nI bg), .ref a3, .int (nI ss), .ref a4, .int (nI hs), .int up, .int ch, .int wr])), (a1, .inl (k1, (500 * N), .inl f1)), (a2, .inl (k2, (125 * N + 1), .inl f2)), (a3, .inl (k3, 8000, .inl f3)), (a4, .inl (k4, 8000, .inl f4)), (b0, .inr (1, [.int (nI N), .int up, .int ch, .int wr, .int (nI bg), .int (nI (bg + tu)), .ref b1, .int (nI hs), .ref b2, .int (nI ss), .ref b3, .ref b4, .int (nI rc)])), (b1, .inl (o1, 8000, .inl g1)), (b2, .inl (o2, 8000, .inl g2)), (b3, .inl (o3, 16000, .inl g3)), (b4, .inl (o4, 4001, .inl g4))] → va_S (fun q : Nat => s.heap.size ≤ q) s.heap H locs → W p l e room_1 s m #[Value.ref b] below meth c H locs 600000 7302250 (lw_Z below #[Value.ref b] s) (F0 m 346 ls [])) : ∀ (T : Nat → Nat) (rc bg ss hs tu : Nat) (up ch wr : Int32) (f1 f2 f3 f4 g1 g2 g3 g4 : Nat → Int32) (a3 a4 : Nat) (k3 k4 : ClassId) (H : Heap) (locs : List Loc), zq_I N T i rc bg ss hs tu ch f1 f2 f3 f4 g1 g2 g3 g4 → va_K (dC, dI) classes [(k1, .byte), (k2, .int), (k3, .byte), (k4, .byte), (o1, .int), (o2, .int), (o3, .int), (o4, .int)] s → va_P (dC, dI) classes [(a0, .inr (0, [.ref a1, .ref a2, .int (nI rc), .int (nI bg), .ref a3, .int (nI ss), .ref a4, .int (nI hs), .int up, .int ch, .int wr])), (a1, .inl (k1, (500 * N), .inl f1)), (a2, .inl (k2, (125 * N + 1), .inl f2)), (a3, .inl (k3, 8000, .inl f3)), (a4, .inl (k4, 8000, .inl f4)), (b0, .inr (1, [.int (nI N), .int up, .int ch, .int wr, .int (nI bg), .int (nI (bg + tu)), .ref b1, .int (nI hs), .ref b2, .int (nI ss), .ref b3, .ref b4, .int (nI rc)])), (b1, .inl (o1, 8000, .inl g1)), (b2, .inl (o2, 8000, .inl g2)), (b3, .inl (o3, 16000, .inl g3)), (b4, .inl (o4, 4001, .inl g4))] H → va_D (fun q : Nat => s.heap.size ≤ q) [(a0, .inr (0, [.ref a1, .ref a2, .int (nI rc), .int (nI bg), .ref a3, .int (nI ss), .ref a4, .int (nI hs), .int up, .int ch, .int wr])), (a1, .inl (k1, (500 * N), .inl f1)), (a2, .inl (k2, (125 * N + 1), .inl f2)), (a3, .inl (k3, 8000, .inl f3)), (a4, .inl (k4, 8000, .inl f4)), (b0, .inr (1, [.int (nI N), .int up, .int ch, .int wr, .int (nI bg), .int (nI (bg + tu)), .ref b1, .int (nI hs), .ref b2, .int (nI ss), .ref b3, .ref b4, .int (nI rc)])), (b1, .inl (o1, 8000, .inl g1)), (b2, .inl (o2, 8000, .inl g2)), (b3, .inl (o3, 16000, .inl g3)), (b4, .inl (o4, 4001, .inl g4))] → va_S (fun q : Nat => s.heap.size ≤ q) s.heap H locs → W p l e room_1 s m #[Value.ref b] below meth c H locs 600000 7302250 (lw_Z below #[Value.ref b] s) (F0 m 231 ls []) := by
  intro T rc bg ss hs tu up ch wr f1 f2 f3 f4 g1 g2 g3 g4 a3 a4 k3 k4 H locs hI hK hP hD hS
  obtain ⟨hx, hb, hr, hml, hown, hts, hX, hbl, hlocks, hgv⟩ := C0
  have hA : ∀ q : Nat, s.heap.size ≤ q → (fun q : Nat => s.heap.size ≤ q) q := fun _ h => h
  have hbA : ¬ (fun q : Nat => s.heap.size ≤ q) b := Nat.not_le.mpr hbl
  obtain ⟨⟨hN2, hN⟩, ⟨hT0, hM, hTtu, htb⟩, ⟨⟨qq, hbg⟩, hbi⟩, ⟨hss, hhs⟩, hch, ⟨hT2, hT4⟩, hjr, hsn, hRB⟩ := id hI
  have h4 := zq_T4 hT0 hM
  have hTm := zq_Tle hM hTtu
  have h4t := h4 rc (Nat.le_refl _)
  rw [hTtu] at h4t
  have htu2 : f2 rc = nI tu := by rw [hT2 rc (Nat.le_refl _), hTtu]
  have hba : g4 rc = nI (tu - 4 * rc) := by rw [hT4 rc (Nat.le_refl _), hTtu]
  refine lv_aload_n hx hb d_law_231 rfl (lv_at hl 1 rfl) ?_
  have hPc := hP.sub (ws' := [(a0, .inr (0, [.ref a1, .ref a2, .int (nI rc), .int (nI bg), .ref a3, .int (nI ss), .ref a4, .int (nI hs), .int up, .int ch, .int wr]))]) [0] rfl
  have hDc := hD.sub (ws' := [(a0, .inr (0, [.ref a1, .ref a2, .int (nI rc), .int (nI bg), .ref a3, .int (nI ss), .ref a4, .int (nI hs), .int up, .int ch, .int wr]))]) [0] (by decide) rfl
  have hKc := hK.sub (tys' := []) [] rfl
  have hFc := va_free (wc := [(a0, .inr (0, [.ref a1, .ref a2, .int (nI rc), .int (nI bg), .ref a3, .int (nI ss), .ref a4, .int (nI hs), .int up, .int ch, .int wr]))]) hD hS hA [0] rfl
  refine va_calli (va_runV (As := []) (rest := []) ⟨hx, hb, hml, hown, hts⟩ (c_BlockDesk_start l dC dI H.size a0 a1 a2 a3 a4 rc bg ss hs up ch wr ) (cwV 0 hts g_law_BlockDesk_start rfl rfl rfl (by decide +kernel) ⟨Nat.le_of_ble_eq_true rfl, Nat.le_of_ble_eq_true rfl⟩) ⟨fun a U g mk q => by obtain ⟨q0, q1, qP, qK, qD⟩ := q; exact ⟨q0, q1, qP, va_K.moved (u := U) (U := U.calling g mk a) (Vm.Alike.refl U.vm) qK, qD⟩, va_recv hKc hPc (ci := 0) (q0 := 0) rfl rfl, fun U hU hW => ⟨rfl, by rw [hU], by rw [hU]; exact hPc, va_K.moved hW.alike hKc, hDc.weaken (fun _ _ _ _ => trivial)⟩⟩ rfl rfl hl.1 rfl (lv_room (Nat.le_of_ble_eq_true rfl)) d_law_232 ⟨Nat.le_of_ble_eq_true rfl, Nat.le_of_ble_eq_true rfl⟩) hS (fun q _ h => hFc q h) hFc (fun r1 u t H1 locs ht hvm hw hB hz1 hk1 hS => ?_)
  obtain ⟨upx, hsx, chx, wrx⟩ := u
  obtain ⟨hP1, hK1, hD1⟩ := hB
  rw [ht] at hP1
  try dsimp only at hw
  obtain ⟨hP, hD⟩ := va_join (wr := [(a1, .inl (k1, (500 * N), .inl f1)), (a2, .inl (k2, (125 * N + 1), .inl f2)), (a3, .inl (k3, 8000, .inl f3)), (a4, .inl (k4, 8000, .inl f4)), (b0, .inr (1, [.int (nI N), .int up, .int ch, .int wr, .int (nI bg), .int (nI (bg + tu)), .ref b1, .int (nI hs), .ref b2, .int (nI ss), .ref b3, .ref b4, .int (nI rc)])), (b1, .inl (o1, 8000, .inl g1)), (b2, .inl (o2, 8000, .inl g2)), (b3, .inl (o3, 16000, .inl g3)), (b4, .inl (o4, 4001, .inl g4))]) (w1 := [(a0, .inr (0, [.ref a1, .ref a2, .int (nI rc), .int (nI bg), .ref a3, .int (nI ss), .ref a4, .int (nI hsx), .int upx, .int chx, .int wrx]))]) hP hD [0] [1, 2, 3, 4, 5, 6, 7, 8, 9] rfl rfl (by decide) (by decide) hk1 hFc hP1 hD1
  generalize H1 = H at hP hS ⊢
  have hP : va_P (dC, dI) classes [(a1, .inl (k1, (500 * N), .inl f1)), (a2, .inl (k2, (125 * N + 1), .inl f2)), (a3, .inl (k3, 8000, .inl f3)), (a4, .inl (k4, 8000, .inl f4)), (b0, .inr (1, [.int (nI N), .int up, .int ch, .int wr, .int (nI bg), .int (nI (bg + tu)), .ref b1, .int (nI hs), .ref b2, .int (nI ss), .ref b3, .ref b4, .int (nI rc)])), (b1, .inl (o1, 8000, .inl g1)), (b2, .inl (o2, 8000, .inl g2)), (b3, .inl (o3, 16000, .inl g3)), (b4, .inl (o4, 4001, .inl g4)), (a0, .inr (0, [.ref a1, .ref a2, .int (nI rc), .int (nI bg), .ref a3, .int (nI ss), .ref a4, .int (nI hsx), .int upx, .int chx, .int wrx]))] H := hP
  have hD : va_D (fun q : Nat => s.heap.size ≤ q) [(a1, .inl (k1, (500 * N), .inl f1)), (a2, .inl (k2, (125 * N + 1), .inl f2)), (a3, .inl (k3, 8000, .inl f3)), (a4, .inl (k4, 8000, .inl f4)), (b0, .inr (1, [.int (nI N), .int up, .int ch, .int wr, .int (nI bg), .int (nI (bg + tu)), .ref b1, .int (nI hs), .ref b2, .int (nI ss), .ref b3, .ref b4, .int (nI rc)])), (b1, .inl (o1, 8000, .inl g1)), (b2, .inl (o2, 8000, .inl g2)), (b3, .inl (o3, 16000, .inl g3)), (b4, .inl (o4, 4001, .inl g4)), (a0, .inr (0, [.ref a1, .ref a2, .int (nI rc), .int (nI bg), .ref a3, .int (nI ss), .ref a4, .int (nI hsx), .int upx, .int chx, .int wrx]))] := hD
  have hw_r1 := hw
  refine lv_aload_n hx hb d_law_235 rfl (lv_at hl 2 rfl) ?_
  have hPc := hP.sub (ws' := [(b0, .inr (1, [.int (nI N), .int up, .int ch, .int wr, .int (nI bg), .int (nI (bg + tu)), .ref b1, .int (nI hs), .ref b2, .int (nI ss), .ref b3, .ref b4, .int (nI rc)]))]) [4] rfl
  have hDc := hD.sub (ws' := [(b0, .inr (1, [.int (nI N), .int up, .int ch, .int wr, .int (nI bg), .int (nI (bg + tu)), .ref b1, .int (nI hs), .ref b2, .int (nI ss), .ref b3, .ref b4, .int (nI rc)]))]) [4] (by decide) rfl
  have hKc := hK.sub (tys' := []) [] rfl
  have hFc := va_free (wc := [(b0, .inr (1, [.int (nI N), .int up, .int ch, .int wr, .int (nI bg), .int (nI (bg + tu)), .ref b1, .int (nI hs), .ref b2, .int (nI ss), .ref b3, .ref b4, .int (nI rc)]))]) hD hS hA [4] rfl
  refine va_calli (va_runV (As := []) (rest := [.int r1]) ⟨hx, hb, hml, hown, hts⟩ (c_BlockDeskModel_start l dC dI H.size b0 b1 b2 b3 b4 N rc bg (bg + tu) ss hs up ch wr hch) (cwV 0 hts g_law_BlockDeskModel_start rfl rfl rfl (by decide +kernel) ⟨Nat.le_of_ble_eq_true rfl, Nat.le_of_ble_eq_true rfl⟩) ⟨fun a U g mk q => by obtain ⟨q0, q1, qP, qK, qD⟩ := q; exact ⟨q0, q1, qP, va_K.moved (u := U) (U := U.calling g mk a) (Vm.Alike.refl U.vm) qK, qD⟩, va_recv hKc hPc (ci := 1) (q0 := 0) rfl rfl, fun U hU hW => ⟨rfl, by rw [hU], by rw [hU]; exact hPc, va_K.moved hW.alike hKc, hDc.weaken (fun _ _ _ _ => trivial)⟩⟩ rfl rfl hl.1 rfl (lv_room (Nat.le_of_ble_eq_true rfl)) d_law_236 ⟨Nat.le_of_ble_eq_true rfl, Nat.le_of_ble_eq_true rfl⟩) hS (fun q _ h => hFc q h) hFc (fun r2 u t H1 locs ht hvm hw hB hz1 hk1 hS => ?_)
  obtain ⟨upy, hsy, chy, wry⟩ := u
  obtain ⟨hP1, hK1, hD1⟩ := hB
  rw [ht] at hP1
  try dsimp only at hw
  obtain ⟨hP, hD⟩ := va_join (wr := [(a1, .inl (k1, (500 * N), .inl f1)), (a2, .inl (k2, (125 * N + 1), .inl f2)), (a3, .inl (k3, 8000, .inl f3)), (a4, .inl (k4, 8000, .inl f4)), (b1, .inl (o1, 8000, .inl g1)), (b2, .inl (o2, 8000, .inl g2)), (b3, .inl (o3, 16000, .inl g3)), (b4, .inl (o4, 4001, .inl g4)), (a0, .inr (0, [.ref a1, .ref a2, .int (nI rc), .int (nI bg), .ref a3, .int (nI ss), .ref a4, .int (nI hsx), .int upx, .int chx, .int wrx]))]) (w1 := [(b0, .inr (1, [.int (nI N), .int upy, .int chy, .int wry, .int (nI bg), .int (nI (bg + tu)), .ref b1, .int (nI hsy), .ref b2, .int (nI ss), .ref b3, .ref b4, .int (nI rc)]))]) hP hD [4] [0, 1, 2, 3, 5, 6, 7, 8, 9] rfl rfl (by decide) (by decide) hk1 hFc hP1 hD1
  generalize H1 = H at hP hS ⊢
  have hP : va_P (dC, dI) classes [(a1, .inl (k1, (500 * N), .inl f1)), (a2, .inl (k2, (125 * N + 1), .inl f2)), (a3, .inl (k3, 8000, .inl f3)), (a4, .inl (k4, 8000, .inl f4)), (b1, .inl (o1, 8000, .inl g1)), (b2, .inl (o2, 8000, .inl g2)), (b3, .inl (o3, 16000, .inl g3)), (b4, .inl (o4, 4001, .inl g4)), (a0, .inr (0, [.ref a1, .ref a2, .int (nI rc), .int (nI bg), .ref a3, .int (nI ss), .ref a4, .int (nI hsx), .int upx, .int chx, .int wrx])), (b0, .inr (1, [.int (nI N), .int upy, .int chy, .int wry, .int (nI bg), .int (nI (bg + tu)), .ref b1, .int (nI hsy), .ref b2, .int (nI ss), .ref b3, .ref b4, .int (nI rc)]))] H := hP
  have hD : va_D (fun q : Nat => s.heap.size ≤ q) [(a1, .inl (k1, (500 * N), .inl f1)), (a2, .inl (k2, (125 * N + 1), .inl f2)), (a3, .inl (k3, 8000, .inl f3)), (a4, .inl (k4, 8000, .inl f4)), (b1, .inl (o1, 8000, .inl g1)), (b2, .inl (o2, 8000, .inl g2)), (b3, .inl (o3, 16000, .inl g3)), (b4, .inl (o4, 4001, .inl g4)), (a0, .inr (0, [.ref a1, .ref a2, .int (nI rc), .int (nI bg), .ref a3, .int (nI ss), .ref a4, .int (nI hsx), .int upx, .int chx, .int wrx])), (b0, .inr (1, [.int (nI N), .int upy, .int chy, .int wry, .int (nI bg), .int (nI (bg + tu)), .ref b1, .int (nI hsy), .ref b2, .int (nI ss), .ref b3, .ref b4, .int (nI rc)]))] := hD
  have hw_r2 := hw
  obtain ⟨er, e1, e2, e3, e4, hI⟩ := zq_p_start hI hw_r1 hw_r2
  subst er; subst e1; subst e2; subst e3; subst e4
  have hP : va_P (dC, dI) classes [(a1, .inl (k1, (500 * N), .inl f1)), (a2, .inl (k2, (125 * N + 1), .inl f2)), (a3, .inl (k3, 8000, .inl f3)), (a4, .inl (k4, 8000, .inl f4)), (b1, .inl (o1, 8000, .inl g1)), (b2, .inl (o2, 8000, .inl g2)), (b3, .inl (o3, 16000, .inl g3)), (b4, .inl (o4, 4001, .inl g4)), (a0, .inr (0, [.ref a1, .ref a2, .int (nI rc), .int (nI bg), .ref a3, .int (nI ss), .ref a4, .int (nI hsx), .int upx, .int chx, .int wrx])), (b0, .inr (1, [.int (nI N), .int upx, .int chx, .int wrx, .int (nI bg), .int (nI (bg + tu)), .ref b1, .int (nI hsx), .ref b2, .int (nI ss), .ref b3, .ref b4, .int (nI rc)]))] H := hP
  have hD : va_D (fun q : Nat => s.heap.size ≤ q) [(a1, .inl (k1, (500 * N), .inl f1)), (a2, .inl (k2, (125 * N + 1), .inl f2)), (a3, .inl (k3, 8000, .inl f3)), (a4, .inl (k4, 8000, .inl f4)), (b1, .inl (o1, 8000, .inl g1)), (b2, .inl (o2, 8000, .inl g2)), (b3, .inl (o3, 16000, .inl g3)), (b4, .inl (o4, 4001, .inl g4)), (a0, .inr (0, [.ref a1, .ref a2, .int (nI rc), .int (nI bg), .ref a3, .int (nI ss), .ref a4, .int (nI hsx), .int upx, .int chx, .int wrx])), (b0, .inr (1, [.int (nI N), .int upx, .int chx, .int wrx, .int (nI bg), .int (nI (bg + tu)), .ref b1, .int (nI hsx), .ref b2, .int (nI ss), .ref b3, .ref b4, .int (nI rc)]))] := hD
  refine lv_icmp_eq (tgt := 346) hx hb d_law_239 (by decide) (fun c_239 => ?_) (fun c_239 => ?_)
  · exact KK T rc bg ss hsx tu upx chx wrx f1 f2 f3 f4 g1 g2 g3 g4 a3 a4 k3 k4 _ _ hI hK (hP.sub [8, 0, 1, 2, 3, 9, 4, 5, 6, 7] rfl) (hD.sub [8, 0, 1, 2, 3, 9, 4, 5, 6, 7] (by decide) rfl) hS
  · exact absurd rfl c_239
set_option maxHeartbeats 4000000 in
set_option maxRecDepth 100000 in
theorem law_6 {p : Program} {l : Launch} {e : Env} {s : State} {m : MethodId} {below : List Frame} {meth : Method} {c : Code} {dC : Nat → ClassId} {dI : Nat → Nat → Nat} {b L : Nat} {xs : Nat → Int32} (hL : L ≤ 2049) (C0 : lw_At p s m meth c b L xs) (N a0 a1 a2 b0 b1 b2 b3 b4 : Nat) (k1 k2 o1 o2 o3 o4 : ClassId) (i : Nat) (hi : 1 ≤ i) (hi4 : i + 4 ≤ L) (ls : Array Slot) (hl : lv_has ls 4 [(0, .ref b), (1, .ref a0), (2, .ref b0), (3, .int (nI i))]) (KK : ∀ (T : Nat → Nat) (rc bg ss hs tu : Nat) (up ch wr : Int32) (f1 f2 f3 f4 g1 g2 g3 g4 : Nat → Int32) (a3 a4 : Nat) (k3 k4 : ClassId) (H : Heap) (locs : List Loc), zq_I N T (i + 4) rc bg ss hs tu ch f1 f2 f3 f4 g1 g2 g3 g4 → va_K (dC, dI) classes [(k1, .byte), (k2, .int), (k3, .byte), (k4, .byte), (o1, .int), (o2, .int), (o3, .int), (o4, .int)] s → va_P (dC, dI) classes [(a0, .inr (0, [.ref a1, .ref a2, .int (nI rc), .int (nI bg), .ref a3, .int (nI ss), .ref a4, .int (nI hs), .int up, .int ch, .int wr])), (a1, .inl (k1, (500 * N), .inl f1)), (a2, .inl (k2, (125 * N + 1), .inl f2)), (a3, .inl (k3, 8000, .inl f3)), (a4, .inl (k4, 8000, .inl f4)), (b0, .inr (1, [.int (nI N), .int up, .int ch, .int wr, .int (nI bg), .int (nI (bg + tu)), .ref b1, .int (nI hs), .ref b2, .int (nI ss), .ref b3, .ref b4, .int (nI rc)])), (b1, .inl (o1, 8000, .inl g1)), (b2, .inl (o2, 8000, .inl g2)), (b3, .inl (o3, 16000, .inl g3)), (b4, .inl (o4, 4001, .inl g4))] H → va_D (fun q : Nat => s.heap.size ≤ q) [(a0, .inr (0, [.ref a1, .ref a2, .int (nI rc), .int (nI bg), .ref a3, .int (nI ss), .ref a4, .int (nI hs), .int up, .int ch, .int wr])), (a1, .inl (k1, (500 * N), .inl f1)), (a2, .inl (k2, (125 * N + 1), .inl f2)), (a3, .inl (k3, 8000, .inl f3)), (a4, .inl (k4, 8000, .inl f4)), (b0, .inr (1, [.int (nI N), .int up, .int ch, .int wr, .int (nI bg), .int (nI (bg + tu)), .ref b1, .int (nI hs), .ref b2, .int (nI ss), .ref b3, .ref b4, .int (nI rc)])), (b1, .inl (o1, 8000, .inl g1)), (b2, .inl (o2, 8000, .inl g2)), (b3, .inl (o3, 16000, .inl g3)), (b4, .inl (o4, 4001, .inl g4))] → va_S (fun q : Nat => s.heap.size ≤ q) s.heap H locs → W p l e room_1 s m #[Value.ref b] below meth c H locs 600000 7302250 (lw_Z below #[Value.ref b] s) (F0 m 346 ls [])) : ∀ (T : Nat → Nat) (rc bg ss hs tu : Nat) (up ch wr : Int32) (f1 f2 f3 f4 g1 g2 g3 g4 : Nat → Int32) (a3 a4 : Nat) (k3 k4 : ClassId) (H : Heap) (locs : List Loc), zq_I N T i rc bg ss hs tu ch f1 f2 f3 f4 g1 g2 g3 g4 → va_K (dC, dI) classes [(k1, .byte), (k2, .int), (k3, .byte), (k4, .byte), (o1, .int), (o2, .int), (o3, .int), (o4, .int)] s → va_P (dC, dI) classes [(a0, .inr (0, [.ref a1, .ref a2, .int (nI rc), .int (nI bg), .ref a3, .int (nI ss), .ref a4, .int (nI hs), .int up, .int ch, .int wr])), (a1, .inl (k1, (500 * N), .inl f1)), (a2, .inl (k2, (125 * N + 1), .inl f2)), (a3, .inl (k3, 8000, .inl f3)), (a4, .inl (k4, 8000, .inl f4)), (b0, .inr (1, [.int (nI N), .int up, .int ch, .int wr, .int (nI bg), .int (nI (bg + tu)), .ref b1, .int (nI hs), .ref b2, .int (nI ss), .ref b3, .ref b4, .int (nI rc)])), (b1, .inl (o1, 8000, .inl g1)), (b2, .inl (o2, 8000, .inl g2)), (b3, .inl (o3, 16000, .inl g3)), (b4, .inl (o4, 4001, .inl g4))] H → va_D (fun q : Nat => s.heap.size ≤ q) [(a0, .inr (0, [.ref a1, .ref a2, .int (nI rc), .int (nI bg), .ref a3, .int (nI ss), .ref a4, .int (nI hs), .int up, .int ch, .int wr])), (a1, .inl (k1, (500 * N), .inl f1)), (a2, .inl (k2, (125 * N + 1), .inl f2)), (a3, .inl (k3, 8000, .inl f3)), (a4, .inl (k4, 8000, .inl f4)), (b0, .inr (1, [.int (nI N), .int up, .int ch, .int wr, .int (nI bg), .int (nI (bg + tu)), .ref b1, .int (nI hs), .ref b2, .int (nI ss), .ref b3, .ref b4, .int (nI rc)])), (b1, .inl (o1, 8000, .inl g1)), (b2, .inl (o2, 8000, .inl g2)), (b3, .inl (o3, 16000, .inl g3)), (b4, .inl (o4, 4001, .inl g4))] → va_S (fun q : Nat => s.heap.size ≤ q) s.heap H locs → W p l e room_1 s m #[Value.ref b] below meth c H locs 600000 7302250 (lw_Z below #[Value.ref b] s) (F0 m 244 ls []) := by
  intro T rc bg ss hs tu up ch wr f1 f2 f3 f4 g1 g2 g3 g4 a3 a4 k3 k4 H locs hI hK hP hD hS
  obtain ⟨hx, hb, hr, hml, hown, hts, hX, hbl, hlocks, hgv⟩ := C0
  have hA : ∀ q : Nat, s.heap.size ≤ q → (fun q : Nat => s.heap.size ≤ q) q := fun _ h => h
  have hbA : ¬ (fun q : Nat => s.heap.size ≤ q) b := Nat.not_le.mpr hbl
  obtain ⟨⟨hN2, hN⟩, ⟨hT0, hM, hTtu, htb⟩, ⟨⟨qq, hbg⟩, hbi⟩, ⟨hss, hhs⟩, hch, ⟨hT2, hT4⟩, hjr, hsn, hRB⟩ := id hI
  have h4 := zq_T4 hT0 hM
  have hTm := zq_Tle hM hTtu
  have h4t := h4 rc (Nat.le_refl _)
  rw [hTtu] at h4t
  have htu2 : f2 rc = nI tu := by rw [hT2 rc (Nat.le_refl _), hTtu]
  have hba : g4 rc = nI (tu - 4 * rc) := by rw [hT4 rc (Nat.le_refl _), hTtu]
  refine lv_aload_n hx hb d_law_244 rfl (lv_at hl 1 rfl) ?_
  refine lv_aload_n hx hb d_law_245 rfl (lv_at hl 0 rfl) ?_
  refine lv_iload_n hx hb d_law_246 rfl (lv_at hl 3 rfl) ?_
  refine lv_iconst (v := nI 1) hx hb d_law_247 (by decide +kernel) ?_
  refine lv_iadd hx hb d_law_248 ?_
  refine xq_top (nI (i + 1)) (nI_add _ _) ?_
  refine va_sld hx hb hX hbl hbA hS (vp_in_nI (by omega) (by omega)) d_law_249 ?_
  refine xq_top (xs (i + 1)) (by rw [nI_clamp (by omega)]) ?_
  have hPc := hP.sub (ws' := [(a0, .inr (0, [.ref a1, .ref a2, .int (nI rc), .int (nI bg), .ref a3, .int (nI ss), .ref a4, .int (nI hs), .int up, .int ch, .int wr]))]) [0] rfl
  have hDc := hD.sub (ws' := [(a0, .inr (0, [.ref a1, .ref a2, .int (nI rc), .int (nI bg), .ref a3, .int (nI ss), .ref a4, .int (nI hs), .int up, .int ch, .int wr]))]) [0] (by decide) rfl
  have hKc := hK.sub (tys' := []) [] rfl
  have hFc := va_free (wc := [(a0, .inr (0, [.ref a1, .ref a2, .int (nI rc), .int (nI bg), .ref a3, .int (nI ss), .ref a4, .int (nI hs), .int up, .int ch, .int wr]))]) hD hS hA [0] rfl
  refine va_calli (va_runV (As := [.int (xs (i + 1))]) (rest := []) ⟨hx, hb, hml, hown, hts⟩ (c_BlockDesk_charge l dC dI H.size a0 a1 a2 a3 a4 rc bg ss hs up ch wr (xs (i + 1)) ) (cwV 1 hts g_law_BlockDesk_charge rfl rfl rfl (by decide +kernel) ⟨Nat.le_of_ble_eq_true rfl, Nat.le_of_ble_eq_true rfl⟩) ⟨fun a U g mk q => by obtain ⟨q0, q1, qP, qK, qD⟩ := q; exact ⟨q0, q1, qP, va_K.moved (u := U) (U := U.calling g mk a) (Vm.Alike.refl U.vm) qK, qD⟩, va_recv hKc hPc (ci := 0) (q0 := 0) rfl rfl, fun U hU hW => ⟨rfl, by rw [hU], by rw [hU]; exact hPc, va_K.moved hW.alike hKc, hDc.weaken (fun _ _ _ _ => trivial)⟩⟩ rfl rfl hl.1 rfl (lv_room (Nat.le_of_ble_eq_true rfl)) d_law_250 ⟨Nat.le_of_ble_eq_true rfl, Nat.le_of_ble_eq_true rfl⟩) hS (fun q _ h => hFc q h) hFc (fun r1 u t H1 locs ht hvm hw hB hz1 hk1 hS => ?_)
  obtain ⟨chx, rfl⟩ : ∃ z, z = u := ⟨_, rfl⟩
  obtain ⟨hP1, hK1, hD1⟩ := hB
  rw [ht] at hP1
  try dsimp only at hw
  obtain ⟨hP, hD⟩ := va_join (wr := [(a1, .inl (k1, (500 * N), .inl f1)), (a2, .inl (k2, (125 * N + 1), .inl f2)), (a3, .inl (k3, 8000, .inl f3)), (a4, .inl (k4, 8000, .inl f4)), (b0, .inr (1, [.int (nI N), .int up, .int ch, .int wr, .int (nI bg), .int (nI (bg + tu)), .ref b1, .int (nI hs), .ref b2, .int (nI ss), .ref b3, .ref b4, .int (nI rc)])), (b1, .inl (o1, 8000, .inl g1)), (b2, .inl (o2, 8000, .inl g2)), (b3, .inl (o3, 16000, .inl g3)), (b4, .inl (o4, 4001, .inl g4))]) (w1 := [(a0, .inr (0, [.ref a1, .ref a2, .int (nI rc), .int (nI bg), .ref a3, .int (nI ss), .ref a4, .int (nI hs), .int up, .int chx, .int wr]))]) hP hD [0] [1, 2, 3, 4, 5, 6, 7, 8, 9] rfl rfl (by decide) (by decide) hk1 hFc hP1 hD1
  generalize H1 = H at hP hS ⊢
  have hP : va_P (dC, dI) classes [(a1, .inl (k1, (500 * N), .inl f1)), (a2, .inl (k2, (125 * N + 1), .inl f2)), (a3, .inl (k3, 8000, .inl f3)), (a4, .inl (k4, 8000, .inl f4)), (b0, .inr (1, [.int (nI N), .int up, .int ch, .int wr, .int (nI bg), .int (nI (bg + tu)), .ref b1, .int (nI hs), .ref b2, .int (nI ss), .ref b3, .ref b4, .int (nI rc)])), (b1, .inl (o1, 8000, .inl g1)), (b2, .inl (o2, 8000, .inl g2)), (b3, .inl (o3, 16000, .inl g3)), (b4, .inl (o4, 4001, .inl g4)), (a0, .inr (0, [.ref a1, .ref a2, .int (nI rc), .int (nI bg), .ref a3, .int (nI ss), .ref a4, .int (nI hs), .int up, .int chx, .int wr]))] H := hP
  have hD : va_D (fun q : Nat => s.heap.size ≤ q) [(a1, .inl (k1, (500 * N), .inl f1)), (a2, .inl (k2, (125 * N + 1), .inl f2)), (a3, .inl (k3, 8000, .inl f3)), (a4, .inl (k4, 8000, .inl f4)), (b0, .inr (1, [.int (nI N), .int up, .int ch, .int wr, .int (nI bg), .int (nI (bg + tu)), .ref b1, .int (nI hs), .ref b2, .int (nI ss), .ref b3, .ref b4, .int (nI rc)])), (b1, .inl (o1, 8000, .inl g1)), (b2, .inl (o2, 8000, .inl g2)), (b3, .inl (o3, 16000, .inl g3)), (b4, .inl (o4, 4001, .inl g4)), (a0, .inr (0, [.ref a1, .ref a2, .int (nI rc), .int (nI bg), .ref a3, .int (nI ss), .ref a4, .int (nI hs), .int up, .int chx, .int wr]))] := hD
  have hw_r1 := hw
  refine lv_aload_n hx hb d_law_253 rfl (lv_at hl 2 rfl) ?_
  refine lv_aload_n hx hb d_law_254 rfl (lv_at hl 0 rfl) ?_
  refine lv_iload_n hx hb d_law_255 rfl (lv_at hl 3 rfl) ?_
  refine lv_iconst (v := nI 1) hx hb d_law_256 (by decide +kernel) ?_
  refine lv_iadd hx hb d_law_257 ?_
  refine xq_top (nI (i + 1)) (nI_add _ _) ?_
  refine va_sld hx hb hX hbl hbA hS (vp_in_nI (by omega) (by omega)) d_law_258 ?_
  refine xq_top (xs (i + 1)) (by rw [nI_clamp (by omega)]) ?_
  have hPc := hP.sub (ws' := [(b0, .inr (1, [.int (nI N), .int up, .int ch, .int wr, .int (nI bg), .int (nI (bg + tu)), .ref b1, .int (nI hs), .ref b2, .int (nI ss), .ref b3, .ref b4, .int (nI rc)]))]) [4] rfl
  have hDc := hD.sub (ws' := [(b0, .inr (1, [.int (nI N), .int up, .int ch, .int wr, .int (nI bg), .int (nI (bg + tu)), .ref b1, .int (nI hs), .ref b2, .int (nI ss), .ref b3, .ref b4, .int (nI rc)]))]) [4] (by decide) rfl
  have hKc := hK.sub (tys' := []) [] rfl
  have hFc := va_free (wc := [(b0, .inr (1, [.int (nI N), .int up, .int ch, .int wr, .int (nI bg), .int (nI (bg + tu)), .ref b1, .int (nI hs), .ref b2, .int (nI ss), .ref b3, .ref b4, .int (nI rc)]))]) hD hS hA [4] rfl
  refine va_calli (va_runV (As := [.int (xs (i + 1))]) (rest := [.int r1]) ⟨hx, hb, hml, hown, hts⟩ (c_BlockDeskModel_charge l dC dI H.size b0 b1 b2 b3 b4 N rc bg (bg + tu) ss hs up ch wr (xs (i + 1)) ) (cwV 1 hts g_law_BlockDeskModel_charge rfl rfl rfl (by decide +kernel) ⟨Nat.le_of_ble_eq_true rfl, Nat.le_of_ble_eq_true rfl⟩) ⟨fun a U g mk q => by obtain ⟨q0, q1, qP, qK, qD⟩ := q; exact ⟨q0, q1, qP, va_K.moved (u := U) (U := U.calling g mk a) (Vm.Alike.refl U.vm) qK, qD⟩, va_recv hKc hPc (ci := 1) (q0 := 0) rfl rfl, fun U hU hW => ⟨rfl, by rw [hU], by rw [hU]; exact hPc, va_K.moved hW.alike hKc, hDc.weaken (fun _ _ _ _ => trivial)⟩⟩ rfl rfl hl.1 rfl (lv_room (Nat.le_of_ble_eq_true rfl)) d_law_259 ⟨Nat.le_of_ble_eq_true rfl, Nat.le_of_ble_eq_true rfl⟩) hS (fun q _ h => hFc q h) hFc (fun r2 u t H1 locs ht hvm hw hB hz1 hk1 hS => ?_)
  obtain ⟨chy, rfl⟩ : ∃ z, z = u := ⟨_, rfl⟩
  obtain ⟨hP1, hK1, hD1⟩ := hB
  rw [ht] at hP1
  try dsimp only at hw
  obtain ⟨hP, hD⟩ := va_join (wr := [(a1, .inl (k1, (500 * N), .inl f1)), (a2, .inl (k2, (125 * N + 1), .inl f2)), (a3, .inl (k3, 8000, .inl f3)), (a4, .inl (k4, 8000, .inl f4)), (b1, .inl (o1, 8000, .inl g1)), (b2, .inl (o2, 8000, .inl g2)), (b3, .inl (o3, 16000, .inl g3)), (b4, .inl (o4, 4001, .inl g4)), (a0, .inr (0, [.ref a1, .ref a2, .int (nI rc), .int (nI bg), .ref a3, .int (nI ss), .ref a4, .int (nI hs), .int up, .int chx, .int wr]))]) (w1 := [(b0, .inr (1, [.int (nI N), .int up, .int chy, .int wr, .int (nI bg), .int (nI (bg + tu)), .ref b1, .int (nI hs), .ref b2, .int (nI ss), .ref b3, .ref b4, .int (nI rc)]))]) hP hD [4] [0, 1, 2, 3, 5, 6, 7, 8, 9] rfl rfl (by decide) (by decide) hk1 hFc hP1 hD1
  generalize H1 = H at hP hS ⊢
  have hP : va_P (dC, dI) classes [(a1, .inl (k1, (500 * N), .inl f1)), (a2, .inl (k2, (125 * N + 1), .inl f2)), (a3, .inl (k3, 8000, .inl f3)), (a4, .inl (k4, 8000, .inl f4)), (b1, .inl (o1, 8000, .inl g1)), (b2, .inl (o2, 8000, .inl g2)), (b3, .inl (o3, 16000, .inl g3)), (b4, .inl (o4, 4001, .inl g4)), (a0, .inr (0, [.ref a1, .ref a2, .int (nI rc), .int (nI bg), .ref a3, .int (nI ss), .ref a4, .int (nI hs), .int up, .int chx, .int wr])), (b0, .inr (1, [.int (nI N), .int up, .int chy, .int wr, .int (nI bg), .int (nI (bg + tu)), .ref b1, .int (nI hs), .ref b2, .int (nI ss), .ref b3, .ref b4, .int (nI rc)]))] H := hP
  have hD : va_D (fun q : Nat => s.heap.size ≤ q) [(a1, .inl (k1, (500 * N), .inl f1)), (a2, .inl (k2, (125 * N + 1), .inl f2)), (a3, .inl (k3, 8000, .inl f3)), (a4, .inl (k4, 8000, .inl f4)), (b1, .inl (o1, 8000, .inl g1)), (b2, .inl (o2, 8000, .inl g2)), (b3, .inl (o3, 16000, .inl g3)), (b4, .inl (o4, 4001, .inl g4)), (a0, .inr (0, [.ref a1, .ref a2, .int (nI rc), .int (nI bg), .ref a3, .int (nI ss), .ref a4, .int (nI hs), .int up, .int chx, .int wr])), (b0, .inr (1, [.int (nI N), .int up, .int chy, .int wr, .int (nI bg), .int (nI (bg + tu)), .ref b1, .int (nI hs), .ref b2, .int (nI ss), .ref b3, .ref b4, .int (nI rc)]))] := hD
  have hw_r2 := hw
  obtain ⟨er, e1, hI⟩ := zq_p_charge hI hw_r1 hw_r2
  subst er; subst e1
  have hP : va_P (dC, dI) classes [(a1, .inl (k1, (500 * N), .inl f1)), (a2, .inl (k2, (125 * N + 1), .inl f2)), (a3, .inl (k3, 8000, .inl f3)), (a4, .inl (k4, 8000, .inl f4)), (b1, .inl (o1, 8000, .inl g1)), (b2, .inl (o2, 8000, .inl g2)), (b3, .inl (o3, 16000, .inl g3)), (b4, .inl (o4, 4001, .inl g4)), (a0, .inr (0, [.ref a1, .ref a2, .int (nI rc), .int (nI bg), .ref a3, .int (nI ss), .ref a4, .int (nI hs), .int up, .int chx, .int wr])), (b0, .inr (1, [.int (nI N), .int up, .int chx, .int wr, .int (nI bg), .int (nI (bg + tu)), .ref b1, .int (nI hs), .ref b2, .int (nI ss), .ref b3, .ref b4, .int (nI rc)]))] H := hP
  have hD : va_D (fun q : Nat => s.heap.size ≤ q) [(a1, .inl (k1, (500 * N), .inl f1)), (a2, .inl (k2, (125 * N + 1), .inl f2)), (a3, .inl (k3, 8000, .inl f3)), (a4, .inl (k4, 8000, .inl f4)), (b1, .inl (o1, 8000, .inl g1)), (b2, .inl (o2, 8000, .inl g2)), (b3, .inl (o3, 16000, .inl g3)), (b4, .inl (o4, 4001, .inl g4)), (a0, .inr (0, [.ref a1, .ref a2, .int (nI rc), .int (nI bg), .ref a3, .int (nI ss), .ref a4, .int (nI hs), .int up, .int chx, .int wr])), (b0, .inr (1, [.int (nI N), .int up, .int chx, .int wr, .int (nI bg), .int (nI (bg + tu)), .ref b1, .int (nI hs), .ref b2, .int (nI ss), .ref b3, .ref b4, .int (nI rc)]))] := hD
  refine lv_icmp_eq (tgt := 346) hx hb d_law_262 (by decide) (fun c_262 => ?_) (fun c_262 => ?_)
  · exact KK T rc bg ss hs tu up chx wr f1 f2 f3 f4 g1 g2 g3 g4 a3 a4 k3 k4 _ _ hI hK (hP.sub [8, 0, 1, 2, 3, 9, 4, 5, 6, 7] rfl) (hD.sub [8, 0, 1, 2, 3, 9, 4, 5, 6, 7] (by decide) rfl) hS
  · exact absurd rfl c_262
set_option maxHeartbeats 4000000 in
set_option maxRecDepth 100000 in
theorem law_7 {p : Program} {l : Launch} {e : Env} {s : State} {m : MethodId} {below : List Frame} {meth : Method} {c : Code} {dC : Nat → ClassId} {dI : Nat → Nat → Nat} {b L : Nat} {xs : Nat → Int32} (hL : L ≤ 2049) (C0 : lw_At p s m meth c b L xs) (N a0 a1 a2 b0 b1 b2 b3 b4 : Nat) (k1 k2 o1 o2 o3 o4 : ClassId) (i : Nat) (hi : 1 ≤ i) (hi4 : i + 4 ≤ L) (ls : Array Slot) (hl : lv_has ls 4 [(0, .ref b), (1, .ref a0), (2, .ref b0), (3, .int (nI i))]) (KK : ∀ (T : Nat → Nat) (rc bg ss hs tu : Nat) (up ch wr : Int32) (f1 f2 f3 f4 g1 g2 g3 g4 : Nat → Int32) (a3 a4 : Nat) (k3 k4 : ClassId) (H : Heap) (locs : List Loc), zq_I N T (i + 4) rc bg ss hs tu ch f1 f2 f3 f4 g1 g2 g3 g4 → va_K (dC, dI) classes [(k1, .byte), (k2, .int), (k3, .byte), (k4, .byte), (o1, .int), (o2, .int), (o3, .int), (o4, .int)] s → va_P (dC, dI) classes [(a0, .inr (0, [.ref a1, .ref a2, .int (nI rc), .int (nI bg), .ref a3, .int (nI ss), .ref a4, .int (nI hs), .int up, .int ch, .int wr])), (a1, .inl (k1, (500 * N), .inl f1)), (a2, .inl (k2, (125 * N + 1), .inl f2)), (a3, .inl (k3, 8000, .inl f3)), (a4, .inl (k4, 8000, .inl f4)), (b0, .inr (1, [.int (nI N), .int up, .int ch, .int wr, .int (nI bg), .int (nI (bg + tu)), .ref b1, .int (nI hs), .ref b2, .int (nI ss), .ref b3, .ref b4, .int (nI rc)])), (b1, .inl (o1, 8000, .inl g1)), (b2, .inl (o2, 8000, .inl g2)), (b3, .inl (o3, 16000, .inl g3)), (b4, .inl (o4, 4001, .inl g4))] H → va_D (fun q : Nat => s.heap.size ≤ q) [(a0, .inr (0, [.ref a1, .ref a2, .int (nI rc), .int (nI bg), .ref a3, .int (nI ss), .ref a4, .int (nI hs), .int up, .int ch, .int wr])), (a1, .inl (k1, (500 * N), .inl f1)), (a2, .inl (k2, (125 * N + 1), .inl f2)), (a3, .inl (k3, 8000, .inl f3)), (a4, .inl (k4, 8000, .inl f4)), (b0, .inr (1, [.int (nI N), .int up, .int ch, .int wr, .int (nI bg), .int (nI (bg + tu)), .ref b1, .int (nI hs), .ref b2, .int (nI ss), .ref b3, .ref b4, .int (nI rc)])), (b1, .inl (o1, 8000, .inl g1)), (b2, .inl (o2, 8000, .inl g2)), (b3, .inl (o3, 16000, .inl g3)), (b4, .inl (o4, 4001, .inl g4))] → va_S (fun q : Nat => s.heap.size ≤ q) s.heap H locs → W p l e room_1 s m #[Value.ref b] below meth c H locs 600000 7302250 (lw_Z below #[Value.ref b] s) (F0 m 346 ls [])) : ∀ (T : Nat → Nat) (rc bg ss hs tu : Nat) (up ch wr : Int32) (f1 f2 f3 f4 g1 g2 g3 g4 : Nat → Int32) (a3 a4 : Nat) (k3 k4 : ClassId) (H : Heap) (locs : List Loc), zq_I N T i rc bg ss hs tu ch f1 f2 f3 f4 g1 g2 g3 g4 → va_K (dC, dI) classes [(k1, .byte), (k2, .int), (k3, .byte), (k4, .byte), (o1, .int), (o2, .int), (o3, .int), (o4, .int)] s → va_P (dC, dI) classes [(a0, .inr (0, [.ref a1, .ref a2, .int (nI rc), .int (nI bg), .ref a3, .int (nI ss), .ref a4, .int (nI hs), .int up, .int ch, .int wr])), (a1, .inl (k1, (500 * N), .inl f1)), (a2, .inl (k2, (125 * N + 1), .inl f2)), (a3, .inl (k3, 8000, .inl f3)), (a4, .inl (k4, 8000, .inl f4)), (b0, .inr (1, [.int (nI N), .int up, .int ch, .int wr, .int (nI bg), .int (nI (bg + tu)), .ref b1, .int (nI hs), .ref b2, .int (nI ss), .ref b3, .ref b4, .int (nI rc)])), (b1, .inl (o1, 8000, .inl g1)), (b2, .inl (o2, 8000, .inl g2)), (b3, .inl (o3, 16000, .inl g3)), (b4, .inl (o4, 4001, .inl g4))] H → va_D (fun q : Nat => s.heap.size ≤ q) [(a0, .inr (0, [.ref a1, .ref a2, .int (nI rc), .int (nI bg), .ref a3, .int (nI ss), .ref a4, .int (nI hs), .int up, .int ch, .int wr])), (a1, .inl (k1, (500 * N), .inl f1)), (a2, .inl (k2, (125 * N + 1), .inl f2)), (a3, .inl (k3, 8000, .inl f3)), (a4, .inl (k4, 8000, .inl f4)), (b0, .inr (1, [.int (nI N), .int up, .int ch, .int wr, .int (nI bg), .int (nI (bg + tu)), .ref b1, .int (nI hs), .ref b2, .int (nI ss), .ref b3, .ref b4, .int (nI rc)])), (b1, .inl (o1, 8000, .inl g1)), (b2, .inl (o2, 8000, .inl g2)), (b3, .inl (o3, 16000, .inl g3)), (b4, .inl (o4, 4001, .inl g4))] → va_S (fun q : Nat => s.heap.size ≤ q) s.heap H locs → W p l e room_1 s m #[Value.ref b] below meth c H locs 600000 7302250 (lw_Z below #[Value.ref b] s) (F0 m 267 ls []) := by
  intro T rc bg ss hs tu up ch wr f1 f2 f3 f4 g1 g2 g3 g4 a3 a4 k3 k4 H locs hI hK hP hD hS
  obtain ⟨hx, hb, hr, hml, hown, hts, hX, hbl, hlocks, hgv⟩ := C0
  have hA : ∀ q : Nat, s.heap.size ≤ q → (fun q : Nat => s.heap.size ≤ q) q := fun _ h => h
  have hbA : ¬ (fun q : Nat => s.heap.size ≤ q) b := Nat.not_le.mpr hbl
  obtain ⟨⟨hN2, hN⟩, ⟨hT0, hM, hTtu, htb⟩, ⟨⟨qq, hbg⟩, hbi⟩, ⟨hss, hhs⟩, hch, ⟨hT2, hT4⟩, hjr, hsn, hRB⟩ := id hI
  have h4 := zq_T4 hT0 hM
  have hTm := zq_Tle hM hTtu
  have h4t := h4 rc (Nat.le_refl _)
  rw [hTtu] at h4t
  have htu2 : f2 rc = nI tu := by rw [hT2 rc (Nat.le_refl _), hTtu]
  have hba : g4 rc = nI (tu - 4 * rc) := by rw [hT4 rc (Nat.le_refl _), hTtu]
  refine lv_aload_n hx hb d_law_267 rfl (lv_at hl 1 rfl) ?_
  refine lv_aload_n hx hb d_law_268 rfl (lv_at hl 0 rfl) ?_
  refine lv_iload_n hx hb d_law_269 rfl (lv_at hl 3 rfl) ?_
  refine lv_iconst (v := nI 1) hx hb d_law_270 (by decide +kernel) ?_
  refine lv_iadd hx hb d_law_271 ?_
  refine xq_top (nI (i + 1)) (nI_add _ _) ?_
  refine va_sld hx hb hX hbl hbA hS (vp_in_nI (by omega) (by omega)) d_law_272 ?_
  refine xq_top (xs (i + 1)) (by rw [nI_clamp (by omega)]) ?_
  have hPc := hP.sub (ws' := [(a0, .inr (0, [.ref a1, .ref a2, .int (nI rc), .int (nI bg), .ref a3, .int (nI ss), .ref a4, .int (nI hs), .int up, .int ch, .int wr])), (a2, .inl (k2, (125 * N + 1), .inl f2))]) [0, 2] rfl
  have hDc := hD.sub (ws' := [(a0, .inr (0, [.ref a1, .ref a2, .int (nI rc), .int (nI bg), .ref a3, .int (nI ss), .ref a4, .int (nI hs), .int up, .int ch, .int wr])), (a2, .inl (k2, (125 * N + 1), .inl f2))]) [0, 2] (by decide) rfl
  have hKc := hK.sub (tys' := [(k2, .int)]) [1] rfl
  have hFc := va_free (wc := [(a0, .inr (0, [.ref a1, .ref a2, .int (nI rc), .int (nI bg), .ref a3, .int (nI ss), .ref a4, .int (nI hs), .int up, .int ch, .int wr])), (a2, .inl (k2, (125 * N + 1), .inl f2))]) hD hS hA [0, 2] rfl
  refine va_calli (va_runV (As := [.int (xs (i + 1))]) (rest := []) ⟨hx, hb, hml, hown, hts⟩ (c_BlockDesk_size l dC dI H.size a0 a1 a2 a3 a4 rc bg ss hs up ch wr k2 (125 * N + 1) f2 T (xs (i + 1)) (by omega) (by omega) hT2 hM) (cwV 1 hts g_law_BlockDesk_size rfl rfl rfl (by decide +kernel) ⟨Nat.le_of_ble_eq_true rfl, Nat.le_of_ble_eq_true rfl⟩) ⟨fun a U g mk q => by obtain ⟨q0, q1, qP, qK, qD⟩ := q; exact ⟨q0, q1, qP, va_K.moved (u := U) (U := U.calling g mk a) (Vm.Alike.refl U.vm) qK, qD⟩, va_recv hKc hPc (ci := 0) (q0 := 0) rfl rfl, fun U hU hW => ⟨rfl, by rw [hU], by rw [hU]; exact hPc, va_K.moved hW.alike hKc, hDc.weaken (fun _ _ _ _ => trivial)⟩⟩ rfl rfl hl.1 rfl (lv_room (Nat.le_of_ble_eq_true rfl)) d_law_273 ⟨Nat.le_of_ble_eq_true rfl, Nat.le_of_ble_eq_true rfl⟩) hS (fun q _ h => hFc q h) hFc (fun r1 u t H1 locs ht hvm hw hB hz1 hk1 hS => ?_)
  obtain ⟨hP1, hK1, hD1⟩ := hB
  rw [ht] at hP1
  try dsimp only at hw
  obtain ⟨hP, hD⟩ := va_join (wr := [(a1, .inl (k1, (500 * N), .inl f1)), (a3, .inl (k3, 8000, .inl f3)), (a4, .inl (k4, 8000, .inl f4)), (b0, .inr (1, [.int (nI N), .int up, .int ch, .int wr, .int (nI bg), .int (nI (bg + tu)), .ref b1, .int (nI hs), .ref b2, .int (nI ss), .ref b3, .ref b4, .int (nI rc)])), (b1, .inl (o1, 8000, .inl g1)), (b2, .inl (o2, 8000, .inl g2)), (b3, .inl (o3, 16000, .inl g3)), (b4, .inl (o4, 4001, .inl g4))]) (w1 := [(a0, .inr (0, [.ref a1, .ref a2, .int (nI rc), .int (nI bg), .ref a3, .int (nI ss), .ref a4, .int (nI hs), .int up, .int ch, .int wr])), (a2, .inl (k2, (125 * N + 1), .inl f2))]) hP hD [0, 2] [1, 3, 4, 5, 6, 7, 8, 9] rfl rfl (by decide) (by decide) hk1 hFc hP1 hD1
  generalize H1 = H at hP hS ⊢
  have hP : va_P (dC, dI) classes [(a1, .inl (k1, (500 * N), .inl f1)), (a3, .inl (k3, 8000, .inl f3)), (a4, .inl (k4, 8000, .inl f4)), (b0, .inr (1, [.int (nI N), .int up, .int ch, .int wr, .int (nI bg), .int (nI (bg + tu)), .ref b1, .int (nI hs), .ref b2, .int (nI ss), .ref b3, .ref b4, .int (nI rc)])), (b1, .inl (o1, 8000, .inl g1)), (b2, .inl (o2, 8000, .inl g2)), (b3, .inl (o3, 16000, .inl g3)), (b4, .inl (o4, 4001, .inl g4)), (a0, .inr (0, [.ref a1, .ref a2, .int (nI rc), .int (nI bg), .ref a3, .int (nI ss), .ref a4, .int (nI hs), .int up, .int ch, .int wr])), (a2, .inl (k2, (125 * N + 1), .inl f2))] H := hP
  have hD : va_D (fun q : Nat => s.heap.size ≤ q) [(a1, .inl (k1, (500 * N), .inl f1)), (a3, .inl (k3, 8000, .inl f3)), (a4, .inl (k4, 8000, .inl f4)), (b0, .inr (1, [.int (nI N), .int up, .int ch, .int wr, .int (nI bg), .int (nI (bg + tu)), .ref b1, .int (nI hs), .ref b2, .int (nI ss), .ref b3, .ref b4, .int (nI rc)])), (b1, .inl (o1, 8000, .inl g1)), (b2, .inl (o2, 8000, .inl g2)), (b3, .inl (o3, 16000, .inl g3)), (b4, .inl (o4, 4001, .inl g4)), (a0, .inr (0, [.ref a1, .ref a2, .int (nI rc), .int (nI bg), .ref a3, .int (nI ss), .ref a4, .int (nI hs), .int up, .int ch, .int wr])), (a2, .inl (k2, (125 * N + 1), .inl f2))] := hD
  have hw_r1 := hw
  refine lv_aload_n hx hb d_law_276 rfl (lv_at hl 2 rfl) ?_
  refine lv_aload_n hx hb d_law_277 rfl (lv_at hl 0 rfl) ?_
  refine lv_iload_n hx hb d_law_278 rfl (lv_at hl 3 rfl) ?_
  refine lv_iconst (v := nI 1) hx hb d_law_279 (by decide +kernel) ?_
  refine lv_iadd hx hb d_law_280 ?_
  refine xq_top (nI (i + 1)) (nI_add _ _) ?_
  refine va_sld hx hb hX hbl hbA hS (vp_in_nI (by omega) (by omega)) d_law_281 ?_
  refine xq_top (xs (i + 1)) (by rw [nI_clamp (by omega)]) ?_
  have hPc := hP.sub (ws' := [(b0, .inr (1, [.int (nI N), .int up, .int ch, .int wr, .int (nI bg), .int (nI (bg + tu)), .ref b1, .int (nI hs), .ref b2, .int (nI ss), .ref b3, .ref b4, .int (nI rc)])), (b4, .inl (o4, 4001, .inl g4))]) [3, 7] rfl
  have hDc := hD.sub (ws' := [(b0, .inr (1, [.int (nI N), .int up, .int ch, .int wr, .int (nI bg), .int (nI (bg + tu)), .ref b1, .int (nI hs), .ref b2, .int (nI ss), .ref b3, .ref b4, .int (nI rc)])), (b4, .inl (o4, 4001, .inl g4))]) [3, 7] (by decide) rfl
  have hKc := hK.sub (tys' := [(o4, .int)]) [7] rfl
  have hFc := va_free (wc := [(b0, .inr (1, [.int (nI N), .int up, .int ch, .int wr, .int (nI bg), .int (nI (bg + tu)), .ref b1, .int (nI hs), .ref b2, .int (nI ss), .ref b3, .ref b4, .int (nI rc)])), (b4, .inl (o4, 4001, .inl g4))]) hD hS hA [3, 7] rfl
  refine va_calli (va_runV (As := [.int (xs (i + 1))]) (rest := [.int r1]) ⟨hx, hb, hml, hown, hts⟩ (c_BlockDeskModel_size l dC dI H.size b0 b1 b2 b3 b4 N rc bg (bg + tu) ss hs up ch wr o4 g4 T (xs (i + 1)) (by omega) hT4 hM h4) (cwV 1 hts g_law_BlockDeskModel_size rfl rfl rfl (by decide +kernel) ⟨Nat.le_of_ble_eq_true rfl, Nat.le_of_ble_eq_true rfl⟩) ⟨fun a U g mk q => by obtain ⟨q0, q1, qP, qK, qD⟩ := q; exact ⟨q0, q1, qP, va_K.moved (u := U) (U := U.calling g mk a) (Vm.Alike.refl U.vm) qK, qD⟩, va_recv hKc hPc (ci := 1) (q0 := 0) rfl rfl, fun U hU hW => ⟨rfl, by rw [hU], by rw [hU]; exact hPc, va_K.moved hW.alike hKc, hDc.weaken (fun _ _ _ _ => trivial)⟩⟩ rfl rfl hl.1 rfl (lv_room (Nat.le_of_ble_eq_true rfl)) d_law_282 ⟨Nat.le_of_ble_eq_true rfl, Nat.le_of_ble_eq_true rfl⟩) hS (fun q _ h => hFc q h) hFc (fun r2 u t H1 locs ht hvm hw hB hz1 hk1 hS => ?_)
  obtain ⟨hP1, hK1, hD1⟩ := hB
  rw [ht] at hP1
  try dsimp only at hw
  obtain ⟨hP, hD⟩ := va_join (wr := [(a1, .inl (k1, (500 * N), .inl f1)), (a3, .inl (k3, 8000, .inl f3)), (a4, .inl (k4, 8000, .inl f4)), (b1, .inl (o1, 8000, .inl g1)), (b2, .inl (o2, 8000, .inl g2)), (b3, .inl (o3, 16000, .inl g3)), (a0, .inr (0, [.ref a1, .ref a2, .int (nI rc), .int (nI bg), .ref a3, .int (nI ss), .ref a4, .int (nI hs), .int up, .int ch, .int wr])), (a2, .inl (k2, (125 * N + 1), .inl f2))]) (w1 := [(b0, .inr (1, [.int (nI N), .int up, .int ch, .int wr, .int (nI bg), .int (nI (bg + tu)), .ref b1, .int (nI hs), .ref b2, .int (nI ss), .ref b3, .ref b4, .int (nI rc)])), (b4, .inl (o4, 4001, .inl g4))]) hP hD [3, 7] [0, 1, 2, 4, 5, 6, 8, 9] rfl rfl (by decide) (by decide) hk1 hFc hP1 hD1
  generalize H1 = H at hP hS ⊢
  have hP : va_P (dC, dI) classes [(a1, .inl (k1, (500 * N), .inl f1)), (a3, .inl (k3, 8000, .inl f3)), (a4, .inl (k4, 8000, .inl f4)), (b1, .inl (o1, 8000, .inl g1)), (b2, .inl (o2, 8000, .inl g2)), (b3, .inl (o3, 16000, .inl g3)), (a0, .inr (0, [.ref a1, .ref a2, .int (nI rc), .int (nI bg), .ref a3, .int (nI ss), .ref a4, .int (nI hs), .int up, .int ch, .int wr])), (a2, .inl (k2, (125 * N + 1), .inl f2)), (b0, .inr (1, [.int (nI N), .int up, .int ch, .int wr, .int (nI bg), .int (nI (bg + tu)), .ref b1, .int (nI hs), .ref b2, .int (nI ss), .ref b3, .ref b4, .int (nI rc)])), (b4, .inl (o4, 4001, .inl g4))] H := hP
  have hD : va_D (fun q : Nat => s.heap.size ≤ q) [(a1, .inl (k1, (500 * N), .inl f1)), (a3, .inl (k3, 8000, .inl f3)), (a4, .inl (k4, 8000, .inl f4)), (b1, .inl (o1, 8000, .inl g1)), (b2, .inl (o2, 8000, .inl g2)), (b3, .inl (o3, 16000, .inl g3)), (a0, .inr (0, [.ref a1, .ref a2, .int (nI rc), .int (nI bg), .ref a3, .int (nI ss), .ref a4, .int (nI hs), .int up, .int ch, .int wr])), (a2, .inl (k2, (125 * N + 1), .inl f2)), (b0, .inr (1, [.int (nI N), .int up, .int ch, .int wr, .int (nI bg), .int (nI (bg + tu)), .ref b1, .int (nI hs), .ref b2, .int (nI ss), .ref b3, .ref b4, .int (nI rc)])), (b4, .inl (o4, 4001, .inl g4))] := hD
  have hw_r2 := hw
  have er : r1 = r2 := hw_r1.trans hw_r2.symm
  subst er
  refine lv_icmp_eq (tgt := 346) hx hb d_law_285 (by decide) (fun c_285 => ?_) (fun c_285 => ?_)
  · exact KK T rc bg ss hs tu up ch wr f1 f2 f3 f4 g1 g2 g3 g4 a3 a4 k3 k4 _ _ (zq_I_i hI) hK (hP.sub [6, 0, 7, 1, 2, 8, 3, 4, 5, 9] rfl) (hD.sub [6, 0, 7, 1, 2, 8, 3, 4, 5, 9] (by decide) rfl) hS
  · exact absurd rfl c_285
end
section
set_option maxHeartbeats 4000000 in
set_option maxRecDepth 100000 in
theorem law_8 {p : Program} {l : Launch} {e : Env} {s : State} {m : MethodId} {below : List Frame} {meth : Method} {c : Code} {dC : Nat → ClassId} {dI : Nat → Nat → Nat} {b L : Nat} {xs : Nat → Int32} (hL : L ≤ 2049) (C0 : lw_At p s m meth c b L xs) (N a0 a1 a2 b0 b1 b2 b3 b4 : Nat) (k1 k2 o1 o2 o3 o4 : ClassId) (i : Nat) (hi : 1 ≤ i) (hi4 : i + 4 ≤ L) (ls : Array Slot) (hl : lv_has ls 4 [(0, .ref b), (1, .ref a0), (2, .ref b0), (3, .int (nI i))]) (KK : ∀ (T : Nat → Nat) (rc bg ss hs tu : Nat) (up ch wr : Int32) (f1 f2 f3 f4 g1 g2 g3 g4 : Nat → Int32) (a3 a4 : Nat) (k3 k4 : ClassId) (H : Heap) (locs : List Loc), zq_I N T (i + 4) rc bg ss hs tu ch f1 f2 f3 f4 g1 g2 g3 g4 → va_K (dC, dI) classes [(k1, .byte), (k2, .int), (k3, .byte), (k4, .byte), (o1, .int), (o2, .int), (o3, .int), (o4, .int)] s → va_P (dC, dI) classes [(a0, .inr (0, [.ref a1, .ref a2, .int (nI rc), .int (nI bg), .ref a3, .int (nI ss), .ref a4, .int (nI hs), .int up, .int ch, .int wr])), (a1, .inl (k1, (500 * N), .inl f1)), (a2, .inl (k2, (125 * N + 1), .inl f2)), (a3, .inl (k3, 8000, .inl f3)), (a4, .inl (k4, 8000, .inl f4)), (b0, .inr (1, [.int (nI N), .int up, .int ch, .int wr, .int (nI bg), .int (nI (bg + tu)), .ref b1, .int (nI hs), .ref b2, .int (nI ss), .ref b3, .ref b4, .int (nI rc)])), (b1, .inl (o1, 8000, .inl g1)), (b2, .inl (o2, 8000, .inl g2)), (b3, .inl (o3, 16000, .inl g3)), (b4, .inl (o4, 4001, .inl g4))] H → va_D (fun q : Nat => s.heap.size ≤ q) [(a0, .inr (0, [.ref a1, .ref a2, .int (nI rc), .int (nI bg), .ref a3, .int (nI ss), .ref a4, .int (nI hs), .int up, .int ch, .int wr])), (a1, .inl (k1, (500 * N), .inl f1)), (a2, .inl (k2, (125 * N + 1), .inl f2)), (a3, .inl (k3, 8000, .inl f3)), (a4, .inl (k4, 8000, .inl f4)), (b0, .inr (1, [.int (nI N), .int up, .int ch, .int wr, .int (nI bg), .int (nI (bg + tu)), .ref b1, .int (nI hs), .ref b2, .int (nI ss), .ref b3, .ref b4, .int (nI rc)])), (b1, .inl (o1, 8000, .inl g1)), (b2, .inl (o2, 8000, .inl g2)), (b3, .inl (o3, 16000, .inl g3)), (b4, .inl (o4, 4001, .inl g4))] → va_S (fun q : Nat => s.heap.size ≤ q) s.heap H locs → W p l e room_1 s m #[Value.ref b] below meth c H locs 600000 7302250 (lw_Z below #[Value.ref b] s) (F0 m 346 ls [])) : ∀ (T : Nat → Nat) (rc bg ss hs tu : Nat) (up ch wr : Int32) (f1 f2 f3 f4 g1 g2 g3 g4 : Nat → Int32) (a3 a4 : Nat) (k3 k4 : ClassId) (H : Heap) (locs : List Loc), zq_I N T i rc bg ss hs tu ch f1 f2 f3 f4 g1 g2 g3 g4 → va_K (dC, dI) classes [(k1, .byte), (k2, .int), (k3, .byte), (k4, .byte), (o1, .int), (o2, .int), (o3, .int), (o4, .int)] s → va_P (dC, dI) classes [(a0, .inr (0, [.ref a1, .ref a2, .int (nI rc), .int (nI bg), .ref a3, .int (nI ss), .ref a4, .int (nI hs), .int up, .int ch, .int wr])), (a1, .inl (k1, (500 * N), .inl f1)), (a2, .inl (k2, (125 * N + 1), .inl f2)), (a3, .inl (k3, 8000, .inl f3)), (a4, .inl (k4, 8000, .inl f4)), (b0, .inr (1, [.int (nI N), .int up, .int ch, .int wr, .int (nI bg), .int (nI (bg + tu)), .ref b1, .int (nI hs), .ref b2, .int (nI ss), .ref b3, .ref b4, .int (nI rc)])), (b1, .inl (o1, 8000, .inl g1)), (b2, .inl (o2, 8000, .inl g2)), (b3, .inl (o3, 16000, .inl g3)), (b4, .inl (o4, 4001, .inl g4))] H → va_D (fun q : Nat => s.heap.size ≤ q) [(a0, .inr (0, [.ref a1, .ref a2, .int (nI rc), .int (nI bg), .ref a3, .int (nI ss), .ref a4, .int (nI hs), .int up, .int ch, .int wr])), (a1, .inl (k1, (500 * N), .inl f1)), (a2, .inl (k2, (125 * N + 1), .inl f2)), (a3, .inl (k3, 8000, .inl f3)), (a4, .inl (k4, 8000, .inl f4)), (b0, .inr (1, [.int (nI N), .int up, .int ch, .int wr, .int (nI bg), .int (nI (bg + tu)), .ref b1, .int (nI hs), .ref b2, .int (nI ss), .ref b3, .ref b4, .int (nI rc)])), (b1, .inl (o1, 8000, .inl g1)), (b2, .inl (o2, 8000, .inl g2)), (b3, .inl (o3, 16000, .inl g3)), (b4, .inl (o4, 4001, .inl g4))] → va_S (fun q : Nat => s.heap.size ≤ q) s.heap H locs → W p l e room_1 s m #[Value.ref b] below meth c H locs 600000 7302250 (lw_Z below #[Value.ref b] s) (F0 m 290 ls []) := by
  intro T rc bg ss hs tu up ch wr f1 f2 f3 f4 g1 g2 g3 g4 a3 a4 k3 k4 H locs hI hK hP hD hS
  obtain ⟨hx, hb, hr, hml, hown, hts, hX, hbl, hlocks, hgv⟩ := C0
  have hA : ∀ q : Nat, s.heap.size ≤ q → (fun q : Nat => s.heap.size ≤ q) q := fun _ h => h
  have hbA : ¬ (fun q : Nat => s.heap.size ≤ q) b := Nat.not_le.mpr hbl
  obtain ⟨⟨hN2, hN⟩, ⟨hT0, hM, hTtu, htb⟩, ⟨⟨qq, hbg⟩, hbi⟩, ⟨hss, hhs⟩, hch, ⟨hT2, hT4⟩, hjr, hsn, hRB⟩ := id hI
  have h4 := zq_T4 hT0 hM
  have hTm := zq_Tle hM hTtu
  have h4t := h4 rc (Nat.le_refl _)
  rw [hTtu] at h4t
  have htu2 : f2 rc = nI tu := by rw [hT2 rc (Nat.le_refl _), hTtu]
  have hba : g4 rc = nI (tu - 4 * rc) := by rw [hT4 rc (Nat.le_refl _), hTtu]
  refine lv_aload_n hx hb d_law_290 rfl (lv_at hl 1 rfl) ?_
  refine lv_aload_n hx hb d_law_291 rfl (lv_at hl 0 rfl) ?_
  refine lv_iload_n hx hb d_law_292 rfl (lv_at hl 3 rfl) ?_
  refine lv_iconst (v := nI 1) hx hb d_law_293 (by decide +kernel) ?_
  refine lv_iadd hx hb d_law_294 ?_
  refine xq_top (nI (i + 1)) (nI_add _ _) ?_
  refine va_sld hx hb hX hbl hbA hS (vp_in_nI (by omega) (by omega)) d_law_295 ?_
  refine xq_top (xs (i + 1)) (by rw [nI_clamp (by omega)]) ?_
  refine lv_aload_n hx hb d_law_296 rfl (lv_at hl 0 rfl) ?_
  refine lv_iload_n hx hb d_law_297 rfl (lv_at hl 3 rfl) ?_
  refine lv_iconst (v := nI 2) hx hb d_law_298 (by decide +kernel) ?_
  refine lv_iadd hx hb d_law_299 ?_
  refine xq_top (nI (i + 2)) (nI_add _ _) ?_
  refine va_sld hx hb hX hbl hbA hS (vp_in_nI (by omega) (by omega)) d_law_300 ?_
  refine xq_top (xs (i + 2)) (by rw [nI_clamp (by omega)]) ?_
  have hPc := hP.sub (ws' := [(a0, .inr (0, [.ref a1, .ref a2, .int (nI rc), .int (nI bg), .ref a3, .int (nI ss), .ref a4, .int (nI hs), .int up, .int ch, .int wr])), (a1, .inl (k1, (500 * N), .inl f1)), (a2, .inl (k2, (125 * N + 1), .inl f2)), (a3, .inl (k3, 8000, .inl f3))]) [0, 1, 2, 3] rfl
  have hDc := hD.sub (ws' := [(a0, .inr (0, [.ref a1, .ref a2, .int (nI rc), .int (nI bg), .ref a3, .int (nI ss), .ref a4, .int (nI hs), .int up, .int ch, .int wr])), (a1, .inl (k1, (500 * N), .inl f1)), (a2, .inl (k2, (125 * N + 1), .inl f2)), (a3, .inl (k3, 8000, .inl f3))]) [0, 1, 2, 3] (by decide) rfl
  have hKc := hK.sub (tys' := [(k1, .byte), (k2, .int), (k3, .byte)]) [0, 1, 2] rfl
  have hFc := va_free (wc := [(a0, .inr (0, [.ref a1, .ref a2, .int (nI rc), .int (nI bg), .ref a3, .int (nI ss), .ref a4, .int (nI hs), .int up, .int ch, .int wr])), (a1, .inl (k1, (500 * N), .inl f1)), (a2, .inl (k2, (125 * N + 1), .inl f2)), (a3, .inl (k3, 8000, .inl f3))]) hD hS hA [0, 1, 2, 3] rfl
  refine va_calli (va_runV (As := [.int (xs (i + 1)), .int (xs (i + 2))]) (rest := []) ⟨hx, hb, hml, hown, hts⟩ (c_BlockDesk_byteOf l dC dI H.size a0 a1 a2 a3 a4 rc bg ss hs up ch wr k2 (125 * N + 1) f2 T k1 k3 (500 * N) f1 f3 g2 g3 (xs (i + 1)) (xs (i + 2)) (by omega) (by omega) hT2 hM hss (fun z hz => by have h9 := hTm z hz; omega) (fun z hz => by have h9 := hTm z hz; omega) (by omega) hsn hjr) (cwV 2 hts g_law_BlockDesk_byteOf rfl rfl rfl (by decide +kernel) ⟨Nat.le_of_ble_eq_true rfl, Nat.le_of_ble_eq_true rfl⟩) ⟨fun a U g mk q => by obtain ⟨q0, q1, qP, qK, qD⟩ := q; exact ⟨q0, q1, qP, va_K.moved (u := U) (U := U.calling g mk a) (Vm.Alike.refl U.vm) qK, qD⟩, va_recv hKc hPc (ci := 0) (q0 := 0) rfl rfl, fun U hU hW => ⟨rfl, by rw [hU], by rw [hU]; exact hPc, va_K.moved hW.alike hKc, hDc.weaken (fun _ _ _ _ => trivial)⟩⟩ rfl rfl hl.1 rfl (lv_room (Nat.le_of_ble_eq_true rfl)) d_law_301 ⟨Nat.le_of_ble_eq_true rfl, Nat.le_of_ble_eq_true rfl⟩) hS (fun q _ h => hFc q h) hFc (fun r1 u t H1 locs ht hvm hw hB hz1 hk1 hS => ?_)
  obtain ⟨hP1, hK1, hD1⟩ := hB
  rw [ht] at hP1
  try dsimp only at hw
  obtain ⟨hP, hD⟩ := va_join (wr := [(a4, .inl (k4, 8000, .inl f4)), (b0, .inr (1, [.int (nI N), .int up, .int ch, .int wr, .int (nI bg), .int (nI (bg + tu)), .ref b1, .int (nI hs), .ref b2, .int (nI ss), .ref b3, .ref b4, .int (nI rc)])), (b1, .inl (o1, 8000, .inl g1)), (b2, .inl (o2, 8000, .inl g2)), (b3, .inl (o3, 16000, .inl g3)), (b4, .inl (o4, 4001, .inl g4))]) (w1 := [(a0, .inr (0, [.ref a1, .ref a2, .int (nI rc), .int (nI bg), .ref a3, .int (nI ss), .ref a4, .int (nI hs), .int up, .int ch, .int wr])), (a1, .inl (k1, (500 * N), .inl f1)), (a2, .inl (k2, (125 * N + 1), .inl f2)), (a3, .inl (k3, 8000, .inl f3))]) hP hD [0, 1, 2, 3] [4, 5, 6, 7, 8, 9] rfl rfl (by decide) (by decide) hk1 hFc hP1 hD1
  generalize H1 = H at hP hS ⊢
  have hP : va_P (dC, dI) classes [(a4, .inl (k4, 8000, .inl f4)), (b0, .inr (1, [.int (nI N), .int up, .int ch, .int wr, .int (nI bg), .int (nI (bg + tu)), .ref b1, .int (nI hs), .ref b2, .int (nI ss), .ref b3, .ref b4, .int (nI rc)])), (b1, .inl (o1, 8000, .inl g1)), (b2, .inl (o2, 8000, .inl g2)), (b3, .inl (o3, 16000, .inl g3)), (b4, .inl (o4, 4001, .inl g4)), (a0, .inr (0, [.ref a1, .ref a2, .int (nI rc), .int (nI bg), .ref a3, .int (nI ss), .ref a4, .int (nI hs), .int up, .int ch, .int wr])), (a1, .inl (k1, (500 * N), .inl f1)), (a2, .inl (k2, (125 * N + 1), .inl f2)), (a3, .inl (k3, 8000, .inl f3))] H := hP
  have hD : va_D (fun q : Nat => s.heap.size ≤ q) [(a4, .inl (k4, 8000, .inl f4)), (b0, .inr (1, [.int (nI N), .int up, .int ch, .int wr, .int (nI bg), .int (nI (bg + tu)), .ref b1, .int (nI hs), .ref b2, .int (nI ss), .ref b3, .ref b4, .int (nI rc)])), (b1, .inl (o1, 8000, .inl g1)), (b2, .inl (o2, 8000, .inl g2)), (b3, .inl (o3, 16000, .inl g3)), (b4, .inl (o4, 4001, .inl g4)), (a0, .inr (0, [.ref a1, .ref a2, .int (nI rc), .int (nI bg), .ref a3, .int (nI ss), .ref a4, .int (nI hs), .int up, .int ch, .int wr])), (a1, .inl (k1, (500 * N), .inl f1)), (a2, .inl (k2, (125 * N + 1), .inl f2)), (a3, .inl (k3, 8000, .inl f3))] := hD
  have hw_r1 := hw
  refine lv_aload_n hx hb d_law_304 rfl (lv_at hl 2 rfl) ?_
  refine lv_aload_n hx hb d_law_305 rfl (lv_at hl 0 rfl) ?_
  refine lv_iload_n hx hb d_law_306 rfl (lv_at hl 3 rfl) ?_
  refine lv_iconst (v := nI 1) hx hb d_law_307 (by decide +kernel) ?_
  refine lv_iadd hx hb d_law_308 ?_
  refine xq_top (nI (i + 1)) (nI_add _ _) ?_
  refine va_sld hx hb hX hbl hbA hS (vp_in_nI (by omega) (by omega)) d_law_309 ?_
  refine xq_top (xs (i + 1)) (by rw [nI_clamp (by omega)]) ?_
  refine lv_aload_n hx hb d_law_310 rfl (lv_at hl 0 rfl) ?_
  refine lv_iload_n hx hb d_law_311 rfl (lv_at hl 3 rfl) ?_
  refine lv_iconst (v := nI 2) hx hb d_law_312 (by decide +kernel) ?_
  refine lv_iadd hx hb d_law_313 ?_
  refine xq_top (nI (i + 2)) (nI_add _ _) ?_
  refine va_sld hx hb hX hbl hbA hS (vp_in_nI (by omega) (by omega)) d_law_314 ?_
  refine xq_top (xs (i + 2)) (by rw [nI_clamp (by omega)]) ?_
  have hPc := hP.sub (ws' := [(b0, .inr (1, [.int (nI N), .int up, .int ch, .int wr, .int (nI bg), .int (nI (bg + tu)), .ref b1, .int (nI hs), .ref b2, .int (nI ss), .ref b3, .ref b4, .int (nI rc)])), (b2, .inl (o2, 8000, .inl g2)), (b3, .inl (o3, 16000, .inl g3)), (b4, .inl (o4, 4001, .inl g4))]) [1, 3, 4, 5] rfl
  have hDc := hD.sub (ws' := [(b0, .inr (1, [.int (nI N), .int up, .int ch, .int wr, .int (nI bg), .int (nI (bg + tu)), .ref b1, .int (nI hs), .ref b2, .int (nI ss), .ref b3, .ref b4, .int (nI rc)])), (b2, .inl (o2, 8000, .inl g2)), (b3, .inl (o3, 16000, .inl g3)), (b4, .inl (o4, 4001, .inl g4))]) [1, 3, 4, 5] (by decide) rfl
  have hKc := hK.sub (tys' := [(o2, .int), (o3, .int), (o4, .int)]) [5, 6, 7] rfl
  have hFc := va_free (wc := [(b0, .inr (1, [.int (nI N), .int up, .int ch, .int wr, .int (nI bg), .int (nI (bg + tu)), .ref b1, .int (nI hs), .ref b2, .int (nI ss), .ref b3, .ref b4, .int (nI rc)])), (b2, .inl (o2, 8000, .inl g2)), (b3, .inl (o3, 16000, .inl g3)), (b4, .inl (o4, 4001, .inl g4))]) hD hS hA [1, 3, 4, 5] rfl
  refine va_calli (va_runV (As := [.int (xs (i + 1)), .int (xs (i + 2))]) (rest := [.int r1]) ⟨hx, hb, hml, hown, hts⟩ (c_BlockDeskModel_byteOf l dC dI H.size b0 b1 b2 b3 b4 N rc bg (bg + tu) ss hs up ch wr o4 g4 T o2 o3 g2 g3 (xs (i + 1)) (xs (i + 2)) (by omega) hT4 hM h4 hss (fun z hz => by have h9 := hTm z hz; omega)) (cwV 2 hts g_law_BlockDeskModel_byteOf rfl rfl rfl (by decide +kernel) ⟨Nat.le_of_ble_eq_true rfl, Nat.le_of_ble_eq_true rfl⟩) ⟨fun a U g mk q => by obtain ⟨q0, q1, qP, qK, qD⟩ := q; exact ⟨q0, q1, qP, va_K.moved (u := U) (U := U.calling g mk a) (Vm.Alike.refl U.vm) qK, qD⟩, va_recv hKc hPc (ci := 1) (q0 := 0) rfl rfl, fun U hU hW => ⟨rfl, by rw [hU], by rw [hU]; exact hPc, va_K.moved hW.alike hKc, hDc.weaken (fun _ _ _ _ => trivial)⟩⟩ rfl rfl hl.1 rfl (lv_room (Nat.le_of_ble_eq_true rfl)) d_law_315 ⟨Nat.le_of_ble_eq_true rfl, Nat.le_of_ble_eq_true rfl⟩) hS (fun q _ h => hFc q h) hFc (fun r2 u t H1 locs ht hvm hw hB hz1 hk1 hS => ?_)
  obtain ⟨hP1, hK1, hD1⟩ := hB
  rw [ht] at hP1
  try dsimp only at hw
  obtain ⟨hP, hD⟩ := va_join (wr := [(a4, .inl (k4, 8000, .inl f4)), (b1, .inl (o1, 8000, .inl g1)), (a0, .inr (0, [.ref a1, .ref a2, .int (nI rc), .int (nI bg), .ref a3, .int (nI ss), .ref a4, .int (nI hs), .int up, .int ch, .int wr])), (a1, .inl (k1, (500 * N), .inl f1)), (a2, .inl (k2, (125 * N + 1), .inl f2)), (a3, .inl (k3, 8000, .inl f3))]) (w1 := [(b0, .inr (1, [.int (nI N), .int up, .int ch, .int wr, .int (nI bg), .int (nI (bg + tu)), .ref b1, .int (nI hs), .ref b2, .int (nI ss), .ref b3, .ref b4, .int (nI rc)])), (b2, .inl (o2, 8000, .inl g2)), (b3, .inl (o3, 16000, .inl g3)), (b4, .inl (o4, 4001, .inl g4))]) hP hD [1, 3, 4, 5] [0, 2, 6, 7, 8, 9] rfl rfl (by decide) (by decide) hk1 hFc hP1 hD1
  generalize H1 = H at hP hS ⊢
  have hP : va_P (dC, dI) classes [(a4, .inl (k4, 8000, .inl f4)), (b1, .inl (o1, 8000, .inl g1)), (a0, .inr (0, [.ref a1, .ref a2, .int (nI rc), .int (nI bg), .ref a3, .int (nI ss), .ref a4, .int (nI hs), .int up, .int ch, .int wr])), (a1, .inl (k1, (500 * N), .inl f1)), (a2, .inl (k2, (125 * N + 1), .inl f2)), (a3, .inl (k3, 8000, .inl f3)), (b0, .inr (1, [.int (nI N), .int up, .int ch, .int wr, .int (nI bg), .int (nI (bg + tu)), .ref b1, .int (nI hs), .ref b2, .int (nI ss), .ref b3, .ref b4, .int (nI rc)])), (b2, .inl (o2, 8000, .inl g2)), (b3, .inl (o3, 16000, .inl g3)), (b4, .inl (o4, 4001, .inl g4))] H := hP
  have hD : va_D (fun q : Nat => s.heap.size ≤ q) [(a4, .inl (k4, 8000, .inl f4)), (b1, .inl (o1, 8000, .inl g1)), (a0, .inr (0, [.ref a1, .ref a2, .int (nI rc), .int (nI bg), .ref a3, .int (nI ss), .ref a4, .int (nI hs), .int up, .int ch, .int wr])), (a1, .inl (k1, (500 * N), .inl f1)), (a2, .inl (k2, (125 * N + 1), .inl f2)), (a3, .inl (k3, 8000, .inl f3)), (b0, .inr (1, [.int (nI N), .int up, .int ch, .int wr, .int (nI bg), .int (nI (bg + tu)), .ref b1, .int (nI hs), .ref b2, .int (nI ss), .ref b3, .ref b4, .int (nI rc)])), (b2, .inl (o2, 8000, .inl g2)), (b3, .inl (o3, 16000, .inl g3)), (b4, .inl (o4, 4001, .inl g4))] := hD
  have hw_r2 := hw
  have er : r1 = r2 := hw_r1.trans hw_r2.symm
  subst er
  refine lv_icmp_eq (tgt := 346) hx hb d_law_318 (by decide) (fun c_318 => ?_) (fun c_318 => ?_)
  · exact KK T rc bg ss hs tu up ch wr f1 f2 f3 f4 g1 g2 g3 g4 a3 a4 k3 k4 _ _ (zq_I_i hI) hK (hP.sub [2, 3, 4, 5, 0, 6, 1, 7, 8, 9] rfl) (hD.sub [2, 3, 4, 5, 0, 6, 1, 7, 8, 9] (by decide) rfl) hS
  · exact absurd rfl c_318
set_option maxHeartbeats 4000000 in
set_option maxRecDepth 100000 in
theorem law_9 {p : Program} {l : Launch} {e : Env} {s : State} {m : MethodId} {below : List Frame} {meth : Method} {c : Code} {dC : Nat → ClassId} {dI : Nat → Nat → Nat} {b L : Nat} {xs : Nat → Int32} (hL : L ≤ 2049) (C0 : lw_At p s m meth c b L xs) (N a0 a1 a2 b0 b1 b2 b3 b4 : Nat) (k1 k2 o1 o2 o3 o4 : ClassId) (i : Nat) (hi : 1 ≤ i) (hi4 : i + 4 ≤ L) (ls : Array Slot) (hl : lv_has ls 4 [(0, .ref b), (1, .ref a0), (2, .ref b0), (3, .int (nI i))]) (KK : ∀ (T : Nat → Nat) (rc bg ss hs tu : Nat) (up ch wr : Int32) (f1 f2 f3 f4 g1 g2 g3 g4 : Nat → Int32) (a3 a4 : Nat) (k3 k4 : ClassId) (H : Heap) (locs : List Loc), zq_I N T (i + 4) rc bg ss hs tu ch f1 f2 f3 f4 g1 g2 g3 g4 → va_K (dC, dI) classes [(k1, .byte), (k2, .int), (k3, .byte), (k4, .byte), (o1, .int), (o2, .int), (o3, .int), (o4, .int)] s → va_P (dC, dI) classes [(a0, .inr (0, [.ref a1, .ref a2, .int (nI rc), .int (nI bg), .ref a3, .int (nI ss), .ref a4, .int (nI hs), .int up, .int ch, .int wr])), (a1, .inl (k1, (500 * N), .inl f1)), (a2, .inl (k2, (125 * N + 1), .inl f2)), (a3, .inl (k3, 8000, .inl f3)), (a4, .inl (k4, 8000, .inl f4)), (b0, .inr (1, [.int (nI N), .int up, .int ch, .int wr, .int (nI bg), .int (nI (bg + tu)), .ref b1, .int (nI hs), .ref b2, .int (nI ss), .ref b3, .ref b4, .int (nI rc)])), (b1, .inl (o1, 8000, .inl g1)), (b2, .inl (o2, 8000, .inl g2)), (b3, .inl (o3, 16000, .inl g3)), (b4, .inl (o4, 4001, .inl g4))] H → va_D (fun q : Nat => s.heap.size ≤ q) [(a0, .inr (0, [.ref a1, .ref a2, .int (nI rc), .int (nI bg), .ref a3, .int (nI ss), .ref a4, .int (nI hs), .int up, .int ch, .int wr])), (a1, .inl (k1, (500 * N), .inl f1)), (a2, .inl (k2, (125 * N + 1), .inl f2)), (a3, .inl (k3, 8000, .inl f3)), (a4, .inl (k4, 8000, .inl f4)), (b0, .inr (1, [.int (nI N), .int up, .int ch, .int wr, .int (nI bg), .int (nI (bg + tu)), .ref b1, .int (nI hs), .ref b2, .int (nI ss), .ref b3, .ref b4, .int (nI rc)])), (b1, .inl (o1, 8000, .inl g1)), (b2, .inl (o2, 8000, .inl g2)), (b3, .inl (o3, 16000, .inl g3)), (b4, .inl (o4, 4001, .inl g4))] → va_S (fun q : Nat => s.heap.size ≤ q) s.heap H locs → W p l e room_1 s m #[Value.ref b] below meth c H locs 600000 7302250 (lw_Z below #[Value.ref b] s) (F0 m 346 ls [])) : ∀ (T : Nat → Nat) (rc bg ss hs tu : Nat) (up ch wr : Int32) (f1 f2 f3 f4 g1 g2 g3 g4 : Nat → Int32) (a3 a4 : Nat) (k3 k4 : ClassId) (H : Heap) (locs : List Loc), zq_I N T i rc bg ss hs tu ch f1 f2 f3 f4 g1 g2 g3 g4 → va_K (dC, dI) classes [(k1, .byte), (k2, .int), (k3, .byte), (k4, .byte), (o1, .int), (o2, .int), (o3, .int), (o4, .int)] s → va_P (dC, dI) classes [(a0, .inr (0, [.ref a1, .ref a2, .int (nI rc), .int (nI bg), .ref a3, .int (nI ss), .ref a4, .int (nI hs), .int up, .int ch, .int wr])), (a1, .inl (k1, (500 * N), .inl f1)), (a2, .inl (k2, (125 * N + 1), .inl f2)), (a3, .inl (k3, 8000, .inl f3)), (a4, .inl (k4, 8000, .inl f4)), (b0, .inr (1, [.int (nI N), .int up, .int ch, .int wr, .int (nI bg), .int (nI (bg + tu)), .ref b1, .int (nI hs), .ref b2, .int (nI ss), .ref b3, .ref b4, .int (nI rc)])), (b1, .inl (o1, 8000, .inl g1)), (b2, .inl (o2, 8000, .inl g2)), (b3, .inl (o3, 16000, .inl g3)), (b4, .inl (o4, 4001, .inl g4))] H → va_D (fun q : Nat => s.heap.size ≤ q) [(a0, .inr (0, [.ref a1, .ref a2, .int (nI rc), .int (nI bg), .ref a3, .int (nI ss), .ref a4, .int (nI hs), .int up, .int ch, .int wr])), (a1, .inl (k1, (500 * N), .inl f1)), (a2, .inl (k2, (125 * N + 1), .inl f2)), (a3, .inl (k3, 8000, .inl f3)), (a4, .inl (k4, 8000, .inl f4)), (b0, .inr (1, [.int (nI N), .int up, .int ch, .int wr, .int (nI bg), .int (nI (bg + tu)), .ref b1, .int (nI hs), .ref b2, .int (nI ss), .ref b3, .ref b4, .int (nI rc)])), (b1, .inl (o1, 8000, .inl g1)), (b2, .inl (o2, 8000, .inl g2)), (b3, .inl (o3, 16000, .inl g3)), (b4, .inl (o4, 4001, .inl g4))] → va_S (fun q : Nat => s.heap.size ≤ q) s.heap H locs → W p l e room_1 s m #[Value.ref b] below meth c H locs 600000 7302250 (lw_Z below #[Value.ref b] s) (F0 m 323 ls []) := by
  intro T rc bg ss hs tu up ch wr f1 f2 f3 f4 g1 g2 g3 g4 a3 a4 k3 k4 H locs hI hK hP hD hS
  obtain ⟨hx, hb, hr, hml, hown, hts, hX, hbl, hlocks, hgv⟩ := C0
  have hA : ∀ q : Nat, s.heap.size ≤ q → (fun q : Nat => s.heap.size ≤ q) q := fun _ h => h
  have hbA : ¬ (fun q : Nat => s.heap.size ≤ q) b := Nat.not_le.mpr hbl
  obtain ⟨⟨hN2, hN⟩, ⟨hT0, hM, hTtu, htb⟩, ⟨⟨qq, hbg⟩, hbi⟩, ⟨hss, hhs⟩, hch, ⟨hT2, hT4⟩, hjr, hsn, hRB⟩ := id hI
  have h4 := zq_T4 hT0 hM
  have hTm := zq_Tle hM hTtu
  have h4t := h4 rc (Nat.le_refl _)
  rw [hTtu] at h4t
  have htu2 : f2 rc = nI tu := by rw [hT2 rc (Nat.le_refl _), hTtu]
  have hba : g4 rc = nI (tu - 4 * rc) := by rw [hT4 rc (Nat.le_refl _), hTtu]
  refine lv_aload_n hx hb d_law_323 rfl (lv_at hl 1 rfl) ?_
  refine lv_aload_n hx hb d_law_324 rfl (lv_at hl 0 rfl) ?_
  refine lv_iload_n hx hb d_law_325 rfl (lv_at hl 3 rfl) ?_
  refine lv_iconst (v := nI 1) hx hb d_law_326 (by decide +kernel) ?_
  refine lv_iadd hx hb d_law_327 ?_
  refine xq_top (nI (i + 1)) (nI_add _ _) ?_
  refine va_sld hx hb hX hbl hbA hS (vp_in_nI (by omega) (by omega)) d_law_328 ?_
  refine xq_top (xs (i + 1)) (by rw [nI_clamp (by omega)]) ?_
  have hPc := hP.sub (ws' := [(a0, .inr (0, [.ref a1, .ref a2, .int (nI rc), .int (nI bg), .ref a3, .int (nI ss), .ref a4, .int (nI hs), .int up, .int ch, .int wr])), (a2, .inl (k2, (125 * N + 1), .inl f2))]) [0, 2] rfl
  have hDc := hD.sub (ws' := [(a0, .inr (0, [.ref a1, .ref a2, .int (nI rc), .int (nI bg), .ref a3, .int (nI ss), .ref a4, .int (nI hs), .int up, .int ch, .int wr])), (a2, .inl (k2, (125 * N + 1), .inl f2))]) [0, 2] (by decide) rfl
  have hKc := hK.sub (tys' := [(k2, .int)]) [1] rfl
  have hFc := va_free (wc := [(a0, .inr (0, [.ref a1, .ref a2, .int (nI rc), .int (nI bg), .ref a3, .int (nI ss), .ref a4, .int (nI hs), .int up, .int ch, .int wr])), (a2, .inl (k2, (125 * N + 1), .inl f2))]) hD hS hA [0, 2] rfl
  refine va_calli (va_runV (As := [.int (xs (i + 1))]) (rest := []) ⟨hx, hb, hml, hown, hts⟩ (c_BlockDesk_state l dC dI H.size a0 a1 a2 a3 a4 rc bg ss hs up ch wr k2 (125 * N + 1) tu f2 (xs (i + 1)) (by omega) (by omega) htu2) (cwV 1 hts g_law_BlockDesk_state rfl rfl rfl (by decide +kernel) ⟨Nat.le_of_ble_eq_true rfl, Nat.le_of_ble_eq_true rfl⟩) ⟨fun a U g mk q => by obtain ⟨q0, q1, qP, qK, qD⟩ := q; exact ⟨q0, q1, qP, va_K.moved (u := U) (U := U.calling g mk a) (Vm.Alike.refl U.vm) qK, qD⟩, va_recv hKc hPc (ci := 0) (q0 := 0) rfl rfl, fun U hU hW => ⟨rfl, by rw [hU], by rw [hU]; exact hPc, va_K.moved hW.alike hKc, hDc.weaken (fun _ _ _ _ => trivial)⟩⟩ rfl rfl hl.1 rfl (lv_room (Nat.le_of_ble_eq_true rfl)) d_law_329 ⟨Nat.le_of_ble_eq_true rfl, Nat.le_of_ble_eq_true rfl⟩) hS (fun q _ h => hFc q h) hFc (fun r1 u t H1 locs ht hvm hw hB hz1 hk1 hS => ?_)
  obtain ⟨hP1, hK1, hD1⟩ := hB
  rw [ht] at hP1
  try dsimp only at hw
  obtain ⟨hP, hD⟩ := va_join (wr := [(a1, .inl (k1, (500 * N), .inl f1)), (a3, .inl (k3, 8000, .inl f3)), (a4, .inl (k4, 8000, .inl f4)), (b0, .inr (1, [.int (nI N), .int up, .int ch, .int wr, .int (nI bg), .int (nI (bg + tu)), .ref b1, .int (nI hs), .ref b2, .int (nI ss), .ref b3, .ref b4, .int (nI rc)])), (b1, .inl (o1, 8000, .inl g1)), (b2, .inl (o2, 8000, .inl g2)), (b3, .inl (o3, 16000, .inl g3)), (b4, .inl (o4, 4001, .inl g4))]) (w1 := [(a0, .inr (0, [.ref a1, .ref a2, .int (nI rc), .int (nI bg), .ref a3, .int (nI ss), .ref a4, .int (nI hs), .int up, .int ch, .int wr])), (a2, .inl (k2, (125 * N + 1), .inl f2))]) hP hD [0, 2] [1, 3, 4, 5, 6, 7, 8, 9] rfl rfl (by decide) (by decide) hk1 hFc hP1 hD1
  generalize H1 = H at hP hS ⊢
  have hP : va_P (dC, dI) classes [(a1, .inl (k1, (500 * N), .inl f1)), (a3, .inl (k3, 8000, .inl f3)), (a4, .inl (k4, 8000, .inl f4)), (b0, .inr (1, [.int (nI N), .int up, .int ch, .int wr, .int (nI bg), .int (nI (bg + tu)), .ref b1, .int (nI hs), .ref b2, .int (nI ss), .ref b3, .ref b4, .int (nI rc)])), (b1, .inl (o1, 8000, .inl g1)), (b2, .inl (o2, 8000, .inl g2)), (b3, .inl (o3, 16000, .inl g3)), (b4, .inl (o4, 4001, .inl g4)), (a0, .inr (0, [.ref a1, .ref a2, .int (nI rc), .int (nI bg), .ref a3, .int (nI ss), .ref a4, .int (nI hs), .int up, .int ch, .int wr])), (a2, .inl (k2, (125 * N + 1), .inl f2))] H := hP
  have hD : va_D (fun q : Nat => s.heap.size ≤ q) [(a1, .inl (k1, (500 * N), .inl f1)), (a3, .inl (k3, 8000, .inl f3)), (a4, .inl (k4, 8000, .inl f4)), (b0, .inr (1, [.int (nI N), .int up, .int ch, .int wr, .int (nI bg), .int (nI (bg + tu)), .ref b1, .int (nI hs), .ref b2, .int (nI ss), .ref b3, .ref b4, .int (nI rc)])), (b1, .inl (o1, 8000, .inl g1)), (b2, .inl (o2, 8000, .inl g2)), (b3, .inl (o3, 16000, .inl g3)), (b4, .inl (o4, 4001, .inl g4)), (a0, .inr (0, [.ref a1, .ref a2, .int (nI rc), .int (nI bg), .ref a3, .int (nI ss), .ref a4, .int (nI hs), .int up, .int ch, .int wr])), (a2, .inl (k2, (125 * N + 1), .inl f2))] := hD
  have hw_r1 := hw
  refine lv_aload_n hx hb d_law_332 rfl (lv_at hl 2 rfl) ?_
  refine lv_aload_n hx hb d_law_333 rfl (lv_at hl 0 rfl) ?_
  refine lv_iload_n hx hb d_law_334 rfl (lv_at hl 3 rfl) ?_
  refine lv_iconst (v := nI 1) hx hb d_law_335 (by decide +kernel) ?_
  refine lv_iadd hx hb d_law_336 ?_
  refine xq_top (nI (i + 1)) (nI_add _ _) ?_
  refine va_sld hx hb hX hbl hbA hS (vp_in_nI (by omega) (by omega)) d_law_337 ?_
  refine xq_top (xs (i + 1)) (by rw [nI_clamp (by omega)]) ?_
  have hPc := hP.sub (ws' := [(b0, .inr (1, [.int (nI N), .int up, .int ch, .int wr, .int (nI bg), .int (nI (bg + tu)), .ref b1, .int (nI hs), .ref b2, .int (nI ss), .ref b3, .ref b4, .int (nI rc)]))]) [3] rfl
  have hDc := hD.sub (ws' := [(b0, .inr (1, [.int (nI N), .int up, .int ch, .int wr, .int (nI bg), .int (nI (bg + tu)), .ref b1, .int (nI hs), .ref b2, .int (nI ss), .ref b3, .ref b4, .int (nI rc)]))]) [3] (by decide) rfl
  have hKc := hK.sub (tys' := []) [] rfl
  have hFc := va_free (wc := [(b0, .inr (1, [.int (nI N), .int up, .int ch, .int wr, .int (nI bg), .int (nI (bg + tu)), .ref b1, .int (nI hs), .ref b2, .int (nI ss), .ref b3, .ref b4, .int (nI rc)]))]) hD hS hA [3] rfl
  refine va_calli (va_runV (As := [.int (xs (i + 1))]) (rest := [.int r1]) ⟨hx, hb, hml, hown, hts⟩ (c_BlockDeskModel_state l dC dI H.size b0 b1 b2 b3 b4 N rc bg (bg + tu) ss hs up ch wr (xs (i + 1)) ) (cwV 1 hts g_law_BlockDeskModel_state rfl rfl rfl (by decide +kernel) ⟨Nat.le_of_ble_eq_true rfl, Nat.le_of_ble_eq_true rfl⟩) ⟨fun a U g mk q => by obtain ⟨q0, q1, qP, qK, qD⟩ := q; exact ⟨q0, q1, qP, va_K.moved (u := U) (U := U.calling g mk a) (Vm.Alike.refl U.vm) qK, qD⟩, va_recv hKc hPc (ci := 1) (q0 := 0) rfl rfl, fun U hU hW => ⟨rfl, by rw [hU], by rw [hU]; exact hPc, va_K.moved hW.alike hKc, hDc.weaken (fun _ _ _ _ => trivial)⟩⟩ rfl rfl hl.1 rfl (lv_room (Nat.le_of_ble_eq_true rfl)) d_law_338 ⟨Nat.le_of_ble_eq_true rfl, Nat.le_of_ble_eq_true rfl⟩) hS (fun q _ h => hFc q h) hFc (fun r2 u t H1 locs ht hvm hw hB hz1 hk1 hS => ?_)
  obtain ⟨hP1, hK1, hD1⟩ := hB
  rw [ht] at hP1
  try dsimp only at hw
  obtain ⟨hP, hD⟩ := va_join (wr := [(a1, .inl (k1, (500 * N), .inl f1)), (a3, .inl (k3, 8000, .inl f3)), (a4, .inl (k4, 8000, .inl f4)), (b1, .inl (o1, 8000, .inl g1)), (b2, .inl (o2, 8000, .inl g2)), (b3, .inl (o3, 16000, .inl g3)), (b4, .inl (o4, 4001, .inl g4)), (a0, .inr (0, [.ref a1, .ref a2, .int (nI rc), .int (nI bg), .ref a3, .int (nI ss), .ref a4, .int (nI hs), .int up, .int ch, .int wr])), (a2, .inl (k2, (125 * N + 1), .inl f2))]) (w1 := [(b0, .inr (1, [.int (nI N), .int up, .int ch, .int wr, .int (nI bg), .int (nI (bg + tu)), .ref b1, .int (nI hs), .ref b2, .int (nI ss), .ref b3, .ref b4, .int (nI rc)]))]) hP hD [3] [0, 1, 2, 4, 5, 6, 7, 8, 9] rfl rfl (by decide) (by decide) hk1 hFc hP1 hD1
  generalize H1 = H at hP hS ⊢
  have hP : va_P (dC, dI) classes [(a1, .inl (k1, (500 * N), .inl f1)), (a3, .inl (k3, 8000, .inl f3)), (a4, .inl (k4, 8000, .inl f4)), (b1, .inl (o1, 8000, .inl g1)), (b2, .inl (o2, 8000, .inl g2)), (b3, .inl (o3, 16000, .inl g3)), (b4, .inl (o4, 4001, .inl g4)), (a0, .inr (0, [.ref a1, .ref a2, .int (nI rc), .int (nI bg), .ref a3, .int (nI ss), .ref a4, .int (nI hs), .int up, .int ch, .int wr])), (a2, .inl (k2, (125 * N + 1), .inl f2)), (b0, .inr (1, [.int (nI N), .int up, .int ch, .int wr, .int (nI bg), .int (nI (bg + tu)), .ref b1, .int (nI hs), .ref b2, .int (nI ss), .ref b3, .ref b4, .int (nI rc)]))] H := hP
  have hD : va_D (fun q : Nat => s.heap.size ≤ q) [(a1, .inl (k1, (500 * N), .inl f1)), (a3, .inl (k3, 8000, .inl f3)), (a4, .inl (k4, 8000, .inl f4)), (b1, .inl (o1, 8000, .inl g1)), (b2, .inl (o2, 8000, .inl g2)), (b3, .inl (o3, 16000, .inl g3)), (b4, .inl (o4, 4001, .inl g4)), (a0, .inr (0, [.ref a1, .ref a2, .int (nI rc), .int (nI bg), .ref a3, .int (nI ss), .ref a4, .int (nI hs), .int up, .int ch, .int wr])), (a2, .inl (k2, (125 * N + 1), .inl f2)), (b0, .inr (1, [.int (nI N), .int up, .int ch, .int wr, .int (nI bg), .int (nI (bg + tu)), .ref b1, .int (nI hs), .ref b2, .int (nI ss), .ref b3, .ref b4, .int (nI rc)]))] := hD
  have hw_r2 := hw
  have er : r1 = r2 := hw_r1.trans hw_r2.symm
  subst er
  refine lv_icmp_eq (tgt := 346) hx hb d_law_341 (by decide) (fun c_341 => ?_) (fun c_341 => ?_)
  · exact KK T rc bg ss hs tu up ch wr f1 f2 f3 f4 g1 g2 g3 g4 a3 a4 k3 k4 _ _ (zq_I_i hI) hK (hP.sub [7, 0, 8, 1, 2, 9, 3, 4, 5, 6] rfl) (hD.sub [7, 0, 8, 1, 2, 9, 3, 4, 5, 6] (by decide) rfl) hS
  · exact absurd rfl c_341
end
section
set_option maxHeartbeats 4000000 in
set_option maxRecDepth 100000 in
theorem law_loop {p : Program} {l : Launch} {e : Env} {s : State} {m : MethodId} {below : List Frame} {meth : Method} {c : Code} {dC : Nat → ClassId} {dI : Nat → Nat → Nat} {b L : Nat} {xs : Nat → Int32} (hL : L ≤ 2049) (C0 : lw_At p s m meth c b L xs) (N a0 a1 a2 b0 b1 b2 b3 b4 : Nat) (k1 k2 o1 o2 o3 o4 : ClassId) : ∀ (n i : Nat), 1 ≤ i → i + 4 ≤ L + 4 + 4 → L + 4 ≤ i + n → ∀ (T : Nat → Nat) (rc bg ss hs tu : Nat) (up ch wr : Int32) (f1 f2 f3 f4 g1 g2 g3 g4 : Nat → Int32) (a3 a4 : Nat) (k3 k4 : ClassId) (H : Heap) (locs : List Loc), zq_I N T i rc bg ss hs tu ch f1 f2 f3 f4 g1 g2 g3 g4 → va_K (dC, dI) classes [(k1, .byte), (k2, .int), (k3, .byte), (k4, .byte), (o1, .int), (o2, .int), (o3, .int), (o4, .int)] s → va_P (dC, dI) classes [(a0, .inr (0, [.ref a1, .ref a2, .int (nI rc), .int (nI bg), .ref a3, .int (nI ss), .ref a4, .int (nI hs), .int up, .int ch, .int wr])), (a1, .inl (k1, (500 * N), .inl f1)), (a2, .inl (k2, (125 * N + 1), .inl f2)), (a3, .inl (k3, 8000, .inl f3)), (a4, .inl (k4, 8000, .inl f4)), (b0, .inr (1, [.int (nI N), .int up, .int ch, .int wr, .int (nI bg), .int (nI (bg + tu)), .ref b1, .int (nI hs), .ref b2, .int (nI ss), .ref b3, .ref b4, .int (nI rc)])), (b1, .inl (o1, 8000, .inl g1)), (b2, .inl (o2, 8000, .inl g2)), (b3, .inl (o3, 16000, .inl g3)), (b4, .inl (o4, 4001, .inl g4))] H → va_D (fun q : Nat => s.heap.size ≤ q) [(a0, .inr (0, [.ref a1, .ref a2, .int (nI rc), .int (nI bg), .ref a3, .int (nI ss), .ref a4, .int (nI hs), .int up, .int ch, .int wr])), (a1, .inl (k1, (500 * N), .inl f1)), (a2, .inl (k2, (125 * N + 1), .inl f2)), (a3, .inl (k3, 8000, .inl f3)), (a4, .inl (k4, 8000, .inl f4)), (b0, .inr (1, [.int (nI N), .int up, .int ch, .int wr, .int (nI bg), .int (nI (bg + tu)), .ref b1, .int (nI hs), .ref b2, .int (nI ss), .ref b3, .ref b4, .int (nI rc)])), (b1, .inl (o1, 8000, .inl g1)), (b2, .inl (o2, 8000, .inl g2)), (b3, .inl (o3, 16000, .inl g3)), (b4, .inl (o4, 4001, .inl g4))] → va_S (fun q : Nat => s.heap.size ≤ q) s.heap H locs → ∀ ls : Array Slot, lv_has ls 4 [(0, .ref b), (1, .ref a0), (2, .ref b0), (3, .int (nI i))] → W p l e room_1 s m #[Value.ref b] below meth c H locs 600000 7302250 (lw_Z below #[Value.ref b] s) (F0 m 28 ls []) := by
  obtain ⟨hx, hb, hr, hml, hown, hts, hX, hbl, hlocks, hgv⟩ := id C0
  have hbA : ¬ (fun q : Nat => s.heap.size ≤ q) b := Nat.not_le.mpr hbl
  intro n
  induction n with
  | zero =>
    intro i h1 h2 h3 T rc bg ss hs tu up ch wr f1 f2 f3 f4 g1 g2 g3 g4 a3 a4 k3 k4 H locs hI hK hP hD hS ls hl
    refine lv_iload_n hx hb d_law_28 rfl (lv_at hl 3 rfl) ?_
    refine lv_aload_n hx hb d_law_29 rfl (lv_at hl 0 rfl) ?_
    refine va_slen hx hb hX hbl hbA hS d_law_30 ?_
    refine xq_top (nI L) (rfl) ?_
    refine lv_iconst (v := nI 4) hx hb d_law_31 (by decide +kernel) ?_
    refine lv_isub hx hb d_law_32 ?_
    refine lv_icmp_gt (tgt := 352) hx hb d_law_33 (by decide) (fun c_33 => ?_) (fun c_33 => ?_)
    · have c_33 : (nI L - nI 4).toInt < ((i : Nat) : Int) := (xq_lt_r (by omega)).mp c_33
      rw [pk_sub_toInt (by omega) (by omega)] at c_33
      refine lv_iconst (v := 1) hx hb d_law_352 (by decide) ?_
      refine va_forget (fun q hq => hS.2.2 q hq) ?_
      refine W.widen (k := 600000) (n := 7302250) (Nat.le_refl _) (Nat.le_refl _) ?_
      exact lw_ret hx hb hr hlocks d_law_353
    · have c_33 : ¬ ((nI L - nI 4).toInt < ((i : Nat) : Int)) := fun h9 => c_33 ((xq_lt_r (by omega)).mpr h9)
      rw [pk_sub_toInt (by omega) (by omega)] at c_33
      exact absurd (show (i : Int) + 4 ≤ (L : Int) by omega) (by omega)
  | succ n ih =>
    intro i h1 h2 h3 T rc bg ss hs tu up ch wr f1 f2 f3 f4 g1 g2 g3 g4 a3 a4 k3 k4 H locs hI hK hP hD hS ls hl
    refine lv_iload_n hx hb d_law_28 rfl (lv_at hl 3 rfl) ?_
    refine lv_aload_n hx hb d_law_29 rfl (lv_at hl 0 rfl) ?_
    refine va_slen hx hb hX hbl hbA hS d_law_30 ?_
    refine xq_top (nI L) (rfl) ?_
    refine lv_iconst (v := nI 4) hx hb d_law_31 (by decide +kernel) ?_
    refine lv_isub hx hb d_law_32 ?_
    refine lv_icmp_gt (tgt := 352) hx hb d_law_33 (by decide) (fun c_33 => ?_) (fun c_33 => ?_)
    · have c_33 : (nI L - nI 4).toInt < ((i : Nat) : Int) := (xq_lt_r (by omega)).mp c_33
      rw [pk_sub_toInt (by omega) (by omega)] at c_33
      refine lv_iconst (v := 1) hx hb d_law_352 (by decide) ?_
      refine va_forget (fun q hq => hS.2.2 q hq) ?_
      refine W.widen (k := 600000) (n := 7302250) (Nat.le_refl _) (Nat.le_refl _) ?_
      exact lw_ret hx hb hr hlocks d_law_353
    · have c_33 : ¬ ((nI L - nI 4).toInt < ((i : Nat) : Int)) := fun h9 => c_33 ((xq_lt_r (by omega)).mpr h9)
      rw [pk_sub_toInt (by omega) (by omega)] at c_33
      have hi4 : i + 4 ≤ L := by omega
      have KK : ∀ (T : Nat → Nat) (rc bg ss hs tu : Nat) (up ch wr : Int32) (f1 f2 f3 f4 g1 g2 g3 g4 : Nat → Int32) (a3 a4 : Nat) (k3 k4 : ClassId) (H : Heap) (locs : List Loc), zq_I N T (i + 4) rc bg ss hs tu ch f1 f2 f3 f4 g1 g2 g3 g4 → va_K (dC, dI) classes [(k1, .byte), (k2, .int), (k3, .byte), (k4, .byte), (o1, .int), (o2, .int), (o3, .int), (o4, .int)] s → va_P (dC, dI) classes [(a0, .inr (0, [.ref a1, .ref a2, .int (nI rc), .int (nI bg), .ref a3, .int (nI ss), .ref a4, .int (nI hs), .int up, .int ch, .int wr])), (a1, .inl (k1, (500 * N), .inl f1)), (a2, .inl (k2, (125 * N + 1), .inl f2)), (a3, .inl (k3, 8000, .inl f3)), (a4, .inl (k4, 8000, .inl f4)), (b0, .inr (1, [.int (nI N), .int up, .int ch, .int wr, .int (nI bg), .int (nI (bg + tu)), .ref b1, .int (nI hs), .ref b2, .int (nI ss), .ref b3, .ref b4, .int (nI rc)])), (b1, .inl (o1, 8000, .inl g1)), (b2, .inl (o2, 8000, .inl g2)), (b3, .inl (o3, 16000, .inl g3)), (b4, .inl (o4, 4001, .inl g4))] H → va_D (fun q : Nat => s.heap.size ≤ q) [(a0, .inr (0, [.ref a1, .ref a2, .int (nI rc), .int (nI bg), .ref a3, .int (nI ss), .ref a4, .int (nI hs), .int up, .int ch, .int wr])), (a1, .inl (k1, (500 * N), .inl f1)), (a2, .inl (k2, (125 * N + 1), .inl f2)), (a3, .inl (k3, 8000, .inl f3)), (a4, .inl (k4, 8000, .inl f4)), (b0, .inr (1, [.int (nI N), .int up, .int ch, .int wr, .int (nI bg), .int (nI (bg + tu)), .ref b1, .int (nI hs), .ref b2, .int (nI ss), .ref b3, .ref b4, .int (nI rc)])), (b1, .inl (o1, 8000, .inl g1)), (b2, .inl (o2, 8000, .inl g2)), (b3, .inl (o3, 16000, .inl g3)), (b4, .inl (o4, 4001, .inl g4))] → va_S (fun q : Nat => s.heap.size ≤ q) s.heap H locs → W p l e room_1 s m #[Value.ref b] below meth c H locs 600000 7302250 (lw_Z below #[Value.ref b] s) (F0 m 346 ls []) := by
        intro T rc bg ss hs tu up ch wr f1 f2 f3 f4 g1 g2 g3 g4 a3 a4 k3 k4 H locs hI hK hP hD hS
        refine lv_iinc (v := nI (i + 4)) (lv' := [(3, .int (nI (i + 4))), (0, .ref b), (1, .ref a0), (2, .ref b0)]) hx hb d_law_346 hl (k := 3) rfl (show nI i + nI 4 = nI (i + 4) from nI_add _ _) (by decide) rfl (fun ls hl => ?_)
        refine lv_goto (tgt := 28) hx hb d_law_349 (by decide) ?_
        exact ih (i + 4) (by omega) (by omega) (by omega) T rc bg ss hs tu up ch wr f1 f2 f3 f4 g1 g2 g3 g4 a3 a4 k3 k4 H locs hI hK hP hD hS ls (lv_sub hl [1, 2, 3, 0] rfl)
      refine lv_aload_n hx hb d_law_36 rfl (lv_at hl 0 rfl) ?_
      refine lv_iload_n hx hb d_law_37 rfl (lv_at hl 3 rfl) ?_
      refine va_sld hx hb hX hbl hbA hS (vp_in_nI (by omega) (by omega)) d_law_38 ?_
      refine xq_top (xs i) (by rw [nI_clamp (by omega)]) ?_
      refine lv_bipush (v := nI 15) hx hb d_law_39 (by decide +kernel) ?_
      refine lv_iand hx hb d_law_41 ?_
      obtain ⟨j, hj, ej⟩ := pk_andE (xs i) (m := nI 15) 4 (by decide +kernel)
      refine xq_top (nI j) ej ?_
      by_cases h_0 : j = 0
      · subst h_0
        refine lv_tableIn (off := 54) (tgt := 96) hx hb d_law_42 (by decide +kernel) (by decide +kernel) (by decide +kernel) (by decide) ?_
        exact law_0 hL C0 N a0 a1 a2 b0 b1 b2 b3 b4 k1 k2 o1 o2 o3 o4 i h1 hi4 ls hl KK T rc bg ss hs tu up ch wr f1 f2 f3 f4 g1 g2 g3 g4 a3 a4 k3 k4 H locs hI hK hP hD hS
      · by_cases h_1 : j = 1
        · subst h_1
          refine lv_tableIn (off := 117) (tgt := 159) hx hb d_law_42 (by decide +kernel) (by decide +kernel) (by decide +kernel) (by decide) ?_
          exact law_1 hL C0 N a0 a1 a2 b0 b1 b2 b3 b4 k1 k2 o1 o2 o3 o4 i h1 hi4 ls hl KK T rc bg ss hs tu up ch wr f1 f2 f3 f4 g1 g2 g3 g4 a3 a4 k3 k4 H locs hI hK hP hD hS
        · by_cases h_2 : j = 2
          · subst h_2
            refine lv_tableIn (off := 150) (tgt := 192) hx hb d_law_42 (by decide +kernel) (by decide +kernel) (by decide +kernel) (by decide) ?_
            exact law_2 hL C0 N a0 a1 a2 b0 b1 b2 b3 b4 k1 k2 o1 o2 o3 o4 i h1 hi4 ls hl KK T rc bg ss hs tu up ch wr f1 f2 f3 f4 g1 g2 g3 g4 a3 a4 k3 k4 H locs hI hK hP hD hS
          · by_cases h_3 : j = 3
            · subst h_3
              refine lv_tableIn (off := 163) (tgt := 205) hx hb d_law_42 (by decide +kernel) (by decide +kernel) (by decide +kernel) (by decide) ?_
              exact law_3 hL C0 N a0 a1 a2 b0 b1 b2 b3 b4 k1 k2 o1 o2 o3 o4 i h1 hi4 ls hl KK T rc bg ss hs tu up ch wr f1 f2 f3 f4 g1 g2 g3 g4 a3 a4 k3 k4 H locs hI hK hP hD hS
            · by_cases h_4 : j = 4
              · subst h_4
                refine lv_tableIn (off := 176) (tgt := 218) hx hb d_law_42 (by decide +kernel) (by decide +kernel) (by decide +kernel) (by decide) ?_
                exact law_4 hL C0 N a0 a1 a2 b0 b1 b2 b3 b4 k1 k2 o1 o2 o3 o4 i h1 hi4 ls hl KK T rc bg ss hs tu up ch wr f1 f2 f3 f4 g1 g2 g3 g4 a3 a4 k3 k4 H locs hI hK hP hD hS
              · by_cases h_5 : j = 5
                · subst h_5
                  refine lv_tableIn (off := 189) (tgt := 231) hx hb d_law_42 (by decide +kernel) (by decide +kernel) (by decide +kernel) (by decide) ?_
                  exact law_5 hL C0 N a0 a1 a2 b0 b1 b2 b3 b4 k1 k2 o1 o2 o3 o4 i h1 hi4 ls hl KK T rc bg ss hs tu up ch wr f1 f2 f3 f4 g1 g2 g3 g4 a3 a4 k3 k4 H locs hI hK hP hD hS
                · by_cases h_6 : j = 6
                  · subst h_6
                    refine lv_tableIn (off := 202) (tgt := 244) hx hb d_law_42 (by decide +kernel) (by decide +kernel) (by decide +kernel) (by decide) ?_
                    exact law_6 hL C0 N a0 a1 a2 b0 b1 b2 b3 b4 k1 k2 o1 o2 o3 o4 i h1 hi4 ls hl KK T rc bg ss hs tu up ch wr f1 f2 f3 f4 g1 g2 g3 g4 a3 a4 k3 k4 H locs hI hK hP hD hS
                  · by_cases h_7 : j = 7
                    · subst h_7
                      refine lv_tableIn (off := 225) (tgt := 267) hx hb d_law_42 (by decide +kernel) (by decide +kernel) (by decide +kernel) (by decide) ?_
                      exact law_7 hL C0 N a0 a1 a2 b0 b1 b2 b3 b4 k1 k2 o1 o2 o3 o4 i h1 hi4 ls hl KK T rc bg ss hs tu up ch wr f1 f2 f3 f4 g1 g2 g3 g4 a3 a4 k3 k4 H locs hI hK hP hD hS
                    · by_cases h_8 : j = 8
                      · subst h_8
                        refine lv_tableIn (off := 248) (tgt := 290) hx hb d_law_42 (by decide +kernel) (by decide +kernel) (by decide +kernel) (by decide) ?_
                        exact law_8 hL C0 N a0 a1 a2 b0 b1 b2 b3 b4 k1 k2 o1 o2 o3 o4 i h1 hi4 ls hl KK T rc bg ss hs tu up ch wr f1 f2 f3 f4 g1 g2 g3 g4 a3 a4 k3 k4 H locs hI hK hP hD hS
                      · by_cases h_9 : j = 9
                        · subst h_9
                          refine lv_tableIn (off := 281) (tgt := 323) hx hb d_law_42 (by decide +kernel) (by decide +kernel) (by decide +kernel) (by decide) ?_
                          exact law_9 hL C0 N a0 a1 a2 b0 b1 b2 b3 b4 k1 k2 o1 o2 o3 o4 i h1 hi4 ls hl KK T rc bg ss hs tu up ch wr f1 f2 f3 f4 g1 g2 g3 g4 a3 a4 k3 k4 H locs hI hK hP hD hS
                        · refine lv_tableOut (tgt := 346) hx hb d_law_42 (by rw [nI_toInt (by omega)]; omega) (by decide) ?_
                          exact KK T rc bg ss hs tu up ch wr f1 f2 f3 f4 g1 g2 g3 g4 a3 a4 k3 k4 H locs (zq_I_i hI) hK hP hD hS
end
section
set_option maxHeartbeats 4000000 in
set_option maxRecDepth 100000 in
theorem whole_start {p : Program} {e : Env} {s : State} {m : MethodId} {below : List Frame} {meth : Method} {c : Code} (l : Launch) {b L : Nat} {xs : Nat → Int32} (hL : L ≤ 2049) (C0 : lw_At p s m meth c b L xs) : W p l e room_1 s m #[Value.ref b] below meth c s.heap [] 0 0 (lw_Z below #[Value.ref b] s) (entryFrame m ([Value.ref b] : List Value).toArray 4) := by
  obtain ⟨hx, hb, hr, hml, hown, hts, hX, hbl, hlocks, hgv⟩ := id C0
  have hA : ∀ q : Nat, s.heap.size ≤ q → (fun q : Nat => s.heap.size ≤ q) q := fun _ h => h
  have hbA : ¬ (fun q : Nat => s.heap.size ≤ q) b := Nat.not_le.mpr hbl
  obtain ⟨c0, iS0, hKn0⟩ := u_known (C := R_BlockDesk) (T := F_BlockDesk) (N := 11) (n := 11) hts i_BlockDesk (hts (.instantiable R_BlockDesk 11) (by decide +kernel))
  obtain ⟨c1, iS1, hKn1⟩ := u_known (C := R_BlockDeskModel) (T := F_BlockDeskModel) (N := 13) (n := 13) hts i_BlockDeskModel (hts (.instantiable R_BlockDeskModel 13) (by decide +kernel))
  obtain ⟨dC, dI, hKc⟩ : ∃ (dC : Nat → ClassId) (dI : Nat → Nat → Nat), ∀ (k : Nat) (q : vw_C), classes[k]? = some q → u_Kn s q.1 q.2.1 q.2.2 (dC k) (dI k) := by
    refine ⟨fun k => if k = 0 then c0 else c1, fun k => if k = 0 then iS0 else iS1, ?_⟩
    intro k q hq
    match k, hq with
    | 0, hq => cases hq; exact hKn0
    | 1, hq => cases hq; exact hKn1
    | k + 2, hq => simp [classes] at hq
  have hS : va_S (fun q : Nat => s.heap.size ≤ q) s.heap s.heap [] := va_S.rf
  have hK : va_K (dC, dI) classes [] s := ⟨hKc, fun k q h => by simp at h⟩
  have hP : va_P (dC, dI) classes [] s.heap := fun k q h => by simp at h
  have hD : va_D (fun q : Nat => s.heap.size ≤ q) [] := ⟨fun i j p q h => by simp at h, fun k q h => by simp at h⟩
  have hl := lv_entry ([.ref b]) (n := 4) (Nat.le_of_ble_eq_true rfl)
  rw [lg_entry_eq]
  generalize (lg_sl ([.ref b]) ++ List.replicate (4 - (lg_sl ([.ref b])).length) Slot.unset).toArray = ls at hl ⊢
  have hl : lv_has ls 4 [(0, .ref b)] := hl
  refine va_new (ci := 0) (fs := [.null, .null, .int (nI 0), .int (nI 0), .null, .int (nI 0), .null, .int (nI 0), .int (nI 0), .int (nI 0), .int (nI 0)]) (C := R_BlockDesk) (T := F_BlockDesk) (N := 11) hx hb hts i_BlockDesk t_BlockDesk t_BlockDesk_ok hown (hts (.classLink R_law 7 R_BlockDesk) (by decide +kernel)) (hts (.instantiable R_BlockDesk 11) (by decide +kernel)) (hts (.initialized R_BlockDesk) (by decide +kernel)) hK hP hD hS hA rfl (fun j hj => by rcases (show j = 0 ∨ j = 1 ∨ j = 2 ∨ j = 3 ∨ j = 4 ∨ j = 5 ∨ j = 6 ∨ j = 7 ∨ j = 8 ∨ j = 9 ∨ j = 10 by omega) with rfl | rfl | rfl | rfl | rfl | rfl | rfl | rfl | rfl | rfl | rfl <;> rfl) (Nat.le_of_ble_eq_true rfl) (Nat.le_of_ble_eq_true rfl) d_law_0 (fun a0 H hP hD hS => ?_)
  have hP : va_P (dC, dI) classes [(a0, .inr (0, [.null, .null, .int (nI 0), .int (nI 0), .null, .int (nI 0), .null, .int (nI 0), .int (nI 0), .int (nI 0), .int (nI 0)]))] H := hP
  have hD : va_D (fun q : Nat => s.heap.size ≤ q) [(a0, .inr (0, [.null, .null, .int (nI 0), .int (nI 0), .null, .int (nI 0), .null, .int (nI 0), .int (nI 0), .int (nI 0), .int (nI 0)]))] := hD
  refine W.widen (k := 1) (n := 11) (by omega) (by omega) ?_
  refine lv_dup hx hb d_law_3 rfl ?_
  refine lv_aload_n hx hb d_law_4 rfl (lv_at hl 0 rfl) ?_
  refine lv_iconst (v := nI 0) hx hb d_law_5 (by decide +kernel) ?_
  have hF0 := va_free (wc := []) hD hS hA [] rfl
  refine va_calli (va_runS (As := [.ref b, .int (nI 0)]) (rest := [.ref a0, .ref a0]) ⟨hx, hb, hml, hown, hts⟩ (c_law_cell l b L xs H.size hL) (va_cwS 2 hts g_law_law_cell rfl rfl rfl (by decide +kernel) ⟨Nat.le_of_ble_eq_true rfl, Nat.le_of_ble_eq_true rfl⟩) ⟨fun a U g mk q => by obtain ⟨q0, q1, q2, q3⟩ := q; exact ⟨q0, q1, q2, va_X.moved (u := U) (U := U.calling g mk a) (Vm.Alike.refl U.vm) q3⟩, fun U hU hW => ⟨rfl, by rw [hU], Nat.lt_of_lt_of_le hbl hS.1, by rw [hU]; exact (hX.kept (hS.2.1 b hbl hbA)).moved hW.alike⟩⟩ rfl rfl hl.1 rfl (lv_room (Nat.le_of_ble_eq_true rfl)) d_law_6 ⟨Nat.le_of_ble_eq_true rfl, Nat.le_of_ble_eq_true rfl⟩) hS (fun q _ h => hF0 q h) hF0 (fun r_6 u t H1 locs ht hvm hw_r_6 hB hz1 hk1 hS => ?_)
  obtain ⟨hP, hD⟩ := va_join (wr := [(a0, .inr (0, [.null, .null, .int (nI 0), .int (nI 0), .null, .int (nI 0), .null, .int (nI 0), .int (nI 0), .int (nI 0), .int (nI 0)]))]) (w1 := []) hP hD [] [0] rfl rfl (by decide) (by decide) hk1 hF0 (fun k q h => by simp at h) ⟨fun i j p q h => by simp at h, fun k q h => by simp at h⟩
  generalize H1 = H at hP hS ⊢
  have hP : va_P (dC, dI) classes [(a0, .inr (0, [.null, .null, .int (nI 0), .int (nI 0), .null, .int (nI 0), .null, .int (nI 0), .int (nI 0), .int (nI 0), .int (nI 0)]))] H := hP
  have hD : va_D (fun q : Nat => s.heap.size ≤ q) [(a0, .inr (0, [.null, .null, .int (nI 0), .int (nI 0), .null, .int (nI 0), .null, .int (nI 0), .int (nI 0), .int (nI 0), .int (nI 0)]))] := hD
  have hPc := hP.sub (ws' := [(a0, .inr (0, [.null, .null, .int (nI 0), .int (nI 0), .null, .int (nI 0), .null, .int (nI 0), .int (nI 0), .int (nI 0), .int (nI 0)]))]) [0] rfl
  have hDc := hD.sub (ws' := [(a0, .inr (0, [.null, .null, .int (nI 0), .int (nI 0), .null, .int (nI 0), .null, .int (nI 0), .int (nI 0), .int (nI 0), .int (nI 0)]))]) [0] (by decide) rfl
  have hKc := hK.sub (tys' := []) [] rfl
  have hFc := va_free (wc := [(a0, .inr (0, [.null, .null, .int (nI 0), .int (nI 0), .null, .int (nI 0), .null, .int (nI 0), .int (nI 0), .int (nI 0), .int (nI 0)]))]) hD hS hA [0] rfl
  refine va_callv (va_runI (As := [.int r_6]) (rest := [.ref a0]) ⟨hx, hb, hml, hown, hts⟩ (c_BlockDesk_init l dC dI H.size a0 r_6 ) (cwI 1 hts g_law_BlockDesk_init rfl rfl rfl (hts (.initialized R_BlockDesk) (by decide +kernel)) (hts (.methodLink R_law 15 y_BlockDesk_init) (by decide +kernel)) (hts (.instanceMethod y_BlockDesk_init) (by decide +kernel)) rfl (by decide +kernel) ⟨Nat.le_of_ble_eq_true rfl, Nat.le_of_ble_eq_true rfl⟩) ⟨fun a U g mk q => by obtain ⟨q0, q1, qP, qK, qD⟩ := q; exact ⟨q0, q1, qP, va_K.moved (u := U) (U := U.calling g mk a) (Vm.Alike.refl U.vm) qK, qD⟩, fun U hU hW => ⟨rfl, by rw [hU], by rw [hU]; exact hPc, va_K.moved hW.alike hKc, hDc.weaken (fun _ _ _ _ => trivial)⟩⟩ rfl rfl hl.1 rfl (lv_room (Nat.le_of_ble_eq_true rfl)) d_law_9 ⟨Nat.le_of_ble_eq_true rfl, Nat.le_of_ble_eq_true rfl⟩) hS (fun q _ h => hFc q h) hFc (fun u t H1 locs ht hvm hw hB hz1 hk1 hS => ?_)
  obtain ⟨a1, a2, a3, a4, k1, k2, k3, k4⟩ := u
  obtain ⟨hP1, hK1, hD1⟩ := hB
  rw [ht] at hP1
  try dsimp only at hw
  obtain ⟨hP, hD⟩ := va_join (wr := []) (w1 := [(a0, .inr (0, [.ref a1, .ref a2, .int (nI 0), .int (nI 0), .ref a3, .int (nI 0), .ref a4, .int (nI 0), .int (nI 1), .int (-1), .int (nI 0)])), (a1, .inl (k1, 500 * zq_nN r_6, .inl (fun _ => 0))), (a2, .inl (k2, 125 * zq_nN r_6 + 1, .inl (fun _ => 0))), (a3, .inl (k3, 8000, .inl (fun _ => 0))), (a4, .inl (k4, 8000, .inl (fun _ => 0)))]) hP hD [0] [] rfl rfl (by decide) (by decide) hk1 hFc hP1 hD1
  have hK1 := va_K.moved hvm.symm hK1
  have hK := hK.app hK1
  have hK : va_K (dC, dI) classes [(k1, .byte), (k2, .int), (k3, .byte), (k4, .byte)] s := hK
  generalize H1 = H at hP hS ⊢
  have hP : va_P (dC, dI) classes [(a0, .inr (0, [.ref a1, .ref a2, .int (nI 0), .int (nI 0), .ref a3, .int (nI 0), .ref a4, .int (nI 0), .int (nI 1), .int (-1), .int (nI 0)])), (a1, .inl (k1, 500 * zq_nN r_6, .inl (fun _ => 0))), (a2, .inl (k2, 125 * zq_nN r_6 + 1, .inl (fun _ => 0))), (a3, .inl (k3, 8000, .inl (fun _ => 0))), (a4, .inl (k4, 8000, .inl (fun _ => 0)))] H := hP
  have hD : va_D (fun q : Nat => s.heap.size ≤ q) [(a0, .inr (0, [.ref a1, .ref a2, .int (nI 0), .int (nI 0), .ref a3, .int (nI 0), .ref a4, .int (nI 0), .int (nI 1), .int (-1), .int (nI 0)])), (a1, .inl (k1, 500 * zq_nN r_6, .inl (fun _ => 0))), (a2, .inl (k2, 125 * zq_nN r_6 + 1, .inl (fun _ => 0))), (a3, .inl (k3, 8000, .inl (fun _ => 0))), (a4, .inl (k4, 8000, .inl (fun _ => 0)))] := hD
  refine W.widen (k := 5) (n := 36012) (by omega) (by omega) ?_
  refine lv_astore_n (lv' := [(1, .ref a0), (0, .ref b)]) hx hb d_law_12 rfl hl (by decide) rfl (fun ls hl => ?_)
  refine va_new (ci := 1) (fs := [.int (nI 0), .int (nI 0), .int (nI 0), .int (nI 0), .int (nI 0), .int (nI 0), .null, .int (nI 0), .null, .int (nI 0), .null, .null, .int (nI 0)]) (C := R_BlockDeskModel) (T := F_BlockDeskModel) (N := 13) hx hb hts i_BlockDeskModel t_BlockDeskModel t_BlockDeskModel_ok hown (hts (.classLink R_law 18 R_BlockDeskModel) (by decide +kernel)) (hts (.instantiable R_BlockDeskModel 13) (by decide +kernel)) (hts (.initialized R_BlockDeskModel) (by decide +kernel)) hK hP hD hS hA rfl (fun j hj => by rcases (show j = 0 ∨ j = 1 ∨ j = 2 ∨ j = 3 ∨ j = 4 ∨ j = 5 ∨ j = 6 ∨ j = 7 ∨ j = 8 ∨ j = 9 ∨ j = 10 ∨ j = 11 ∨ j = 12 by omega) with rfl | rfl | rfl | rfl | rfl | rfl | rfl | rfl | rfl | rfl | rfl | rfl | rfl <;> rfl) (Nat.le_of_ble_eq_true rfl) (Nat.le_of_ble_eq_true rfl) d_law_13 (fun b0 H hP hD hS => ?_)
  have hP : va_P (dC, dI) classes [(a0, .inr (0, [.ref a1, .ref a2, .int (nI 0), .int (nI 0), .ref a3, .int (nI 0), .ref a4, .int (nI 0), .int (nI 1), .int (-1), .int (nI 0)])), (a1, .inl (k1, 500 * zq_nN r_6, .inl (fun _ => 0))), (a2, .inl (k2, 125 * zq_nN r_6 + 1, .inl (fun _ => 0))), (a3, .inl (k3, 8000, .inl (fun _ => 0))), (a4, .inl (k4, 8000, .inl (fun _ => 0))), (b0, .inr (1, [.int (nI 0), .int (nI 0), .int (nI 0), .int (nI 0), .int (nI 0), .int (nI 0), .null, .int (nI 0), .null, .int (nI 0), .null, .null, .int (nI 0)]))] H := hP
  have hD : va_D (fun q : Nat => s.heap.size ≤ q) [(a0, .inr (0, [.ref a1, .ref a2, .int (nI 0), .int (nI 0), .ref a3, .int (nI 0), .ref a4, .int (nI 0), .int (nI 1), .int (-1), .int (nI 0)])), (a1, .inl (k1, 500 * zq_nN r_6, .inl (fun _ => 0))), (a2, .inl (k2, 125 * zq_nN r_6 + 1, .inl (fun _ => 0))), (a3, .inl (k3, 8000, .inl (fun _ => 0))), (a4, .inl (k4, 8000, .inl (fun _ => 0))), (b0, .inr (1, [.int (nI 0), .int (nI 0), .int (nI 0), .int (nI 0), .int (nI 0), .int (nI 0), .null, .int (nI 0), .null, .int (nI 0), .null, .null, .int (nI 0)]))] := hD
  refine W.widen (k := 6) (n := 36025) (by omega) (by omega) ?_
  refine lv_dup hx hb d_law_16 rfl ?_
  refine lv_aload_n hx hb d_law_17 rfl (lv_at hl 1 rfl) ?_
  refine lv_iconst (v := nI 0) hx hb d_law_18 (by decide +kernel) ?_
  have hF0 := va_free (wc := []) hD hS hA [] rfl
  refine va_calli (va_runS (As := [.ref b, .int (nI 0)]) (rest := [.ref b0, .ref b0]) ⟨hx, hb, hml, hown, hts⟩ (c_law_cell l b L xs H.size hL) (va_cwS 2 hts g_law_law_cell rfl rfl rfl (by decide +kernel) ⟨Nat.le_of_ble_eq_true rfl, Nat.le_of_ble_eq_true rfl⟩) ⟨fun a U g mk q => by obtain ⟨q0, q1, q2, q3⟩ := q; exact ⟨q0, q1, q2, va_X.moved (u := U) (U := U.calling g mk a) (Vm.Alike.refl U.vm) q3⟩, fun U hU hW => ⟨rfl, by rw [hU], Nat.lt_of_lt_of_le hbl hS.1, by rw [hU]; exact (hX.kept (hS.2.1 b hbl hbA)).moved hW.alike⟩⟩ rfl rfl hl.1 rfl (lv_room (Nat.le_of_ble_eq_true rfl)) d_law_19 ⟨Nat.le_of_ble_eq_true rfl, Nat.le_of_ble_eq_true rfl⟩) hS (fun q _ h => hF0 q h) hF0 (fun r_19 u t H1 locs ht hvm hw_r_19 hB hz1 hk1 hS => ?_)
  obtain ⟨hP, hD⟩ := va_join (wr := [(a0, .inr (0, [.ref a1, .ref a2, .int (nI 0), .int (nI 0), .ref a3, .int (nI 0), .ref a4, .int (nI 0), .int (nI 1), .int (-1), .int (nI 0)])), (a1, .inl (k1, 500 * zq_nN r_6, .inl (fun _ => 0))), (a2, .inl (k2, 125 * zq_nN r_6 + 1, .inl (fun _ => 0))), (a3, .inl (k3, 8000, .inl (fun _ => 0))), (a4, .inl (k4, 8000, .inl (fun _ => 0))), (b0, .inr (1, [.int (nI 0), .int (nI 0), .int (nI 0), .int (nI 0), .int (nI 0), .int (nI 0), .null, .int (nI 0), .null, .int (nI 0), .null, .null, .int (nI 0)]))]) (w1 := []) hP hD [] [0, 1, 2, 3, 4, 5] rfl rfl (by decide) (by decide) hk1 hF0 (fun k q h => by simp at h) ⟨fun i j p q h => by simp at h, fun k q h => by simp at h⟩
  generalize H1 = H at hP hS ⊢
  have hP : va_P (dC, dI) classes [(a0, .inr (0, [.ref a1, .ref a2, .int (nI 0), .int (nI 0), .ref a3, .int (nI 0), .ref a4, .int (nI 0), .int (nI 1), .int (-1), .int (nI 0)])), (a1, .inl (k1, 500 * zq_nN r_6, .inl (fun _ => 0))), (a2, .inl (k2, 125 * zq_nN r_6 + 1, .inl (fun _ => 0))), (a3, .inl (k3, 8000, .inl (fun _ => 0))), (a4, .inl (k4, 8000, .inl (fun _ => 0))), (b0, .inr (1, [.int (nI 0), .int (nI 0), .int (nI 0), .int (nI 0), .int (nI 0), .int (nI 0), .null, .int (nI 0), .null, .int (nI 0), .null, .null, .int (nI 0)]))] H := hP
  have hD : va_D (fun q : Nat => s.heap.size ≤ q) [(a0, .inr (0, [.ref a1, .ref a2, .int (nI 0), .int (nI 0), .ref a3, .int (nI 0), .ref a4, .int (nI 0), .int (nI 1), .int (-1), .int (nI 0)])), (a1, .inl (k1, 500 * zq_nN r_6, .inl (fun _ => 0))), (a2, .inl (k2, 125 * zq_nN r_6 + 1, .inl (fun _ => 0))), (a3, .inl (k3, 8000, .inl (fun _ => 0))), (a4, .inl (k4, 8000, .inl (fun _ => 0))), (b0, .inr (1, [.int (nI 0), .int (nI 0), .int (nI 0), .int (nI 0), .int (nI 0), .int (nI 0), .null, .int (nI 0), .null, .int (nI 0), .null, .null, .int (nI 0)]))] := hD
  have e19 : r_6 = r_19 := hw_r_6.trans hw_r_19.symm
  subst e19
  have hPc := hP.sub (ws' := [(b0, .inr (1, [.int (nI 0), .int (nI 0), .int (nI 0), .int (nI 0), .int (nI 0), .int (nI 0), .null, .int (nI 0), .null, .int (nI 0), .null, .null, .int (nI 0)]))]) [5] rfl
  have hDc := hD.sub (ws' := [(b0, .inr (1, [.int (nI 0), .int (nI 0), .int (nI 0), .int (nI 0), .int (nI 0), .int (nI 0), .null, .int (nI 0), .null, .int (nI 0), .null, .null, .int (nI 0)]))]) [5] (by decide) rfl
  have hKc := hK.sub (tys' := []) [] rfl
  have hFc := va_free (wc := [(b0, .inr (1, [.int (nI 0), .int (nI 0), .int (nI 0), .int (nI 0), .int (nI 0), .int (nI 0), .null, .int (nI 0), .null, .int (nI 0), .null, .null, .int (nI 0)]))]) hD hS hA [5] rfl
  refine va_callv (va_runI (As := [.int r_6]) (rest := [.ref b0]) ⟨hx, hb, hml, hown, hts⟩ (c_BlockDeskModel_init l dC dI H.size b0 r_6 ) (cwI 1 hts g_law_BlockDeskModel_init rfl rfl rfl (hts (.initialized R_BlockDeskModel) (by decide +kernel)) (hts (.methodLink R_law 20 y_BlockDeskModel_init) (by decide +kernel)) (hts (.instanceMethod y_BlockDeskModel_init) (by decide +kernel)) rfl (by decide +kernel) ⟨Nat.le_of_ble_eq_true rfl, Nat.le_of_ble_eq_true rfl⟩) ⟨fun a U g mk q => by obtain ⟨q0, q1, qP, qK, qD⟩ := q; exact ⟨q0, q1, qP, va_K.moved (u := U) (U := U.calling g mk a) (Vm.Alike.refl U.vm) qK, qD⟩, fun U hU hW => ⟨rfl, by rw [hU], by rw [hU]; exact hPc, va_K.moved hW.alike hKc, hDc.weaken (fun _ _ _ _ => trivial)⟩⟩ rfl rfl hl.1 rfl (lv_room (Nat.le_of_ble_eq_true rfl)) d_law_22 ⟨Nat.le_of_ble_eq_true rfl, Nat.le_of_ble_eq_true rfl⟩) hS (fun q _ h => hFc q h) hFc (fun u t H1 locs ht hvm hw hB hz1 hk1 hS => ?_)
  obtain ⟨b1, b2, b3, b4, o1, o2, o3, o4⟩ := u
  obtain ⟨hP1, hK1, hD1⟩ := hB
  rw [ht] at hP1
  try dsimp only at hw
  obtain ⟨hP, hD⟩ := va_join (wr := [(a0, .inr (0, [.ref a1, .ref a2, .int (nI 0), .int (nI 0), .ref a3, .int (nI 0), .ref a4, .int (nI 0), .int (nI 1), .int (-1), .int (nI 0)])), (a1, .inl (k1, 500 * zq_nN r_6, .inl (fun _ => 0))), (a2, .inl (k2, 125 * zq_nN r_6 + 1, .inl (fun _ => 0))), (a3, .inl (k3, 8000, .inl (fun _ => 0))), (a4, .inl (k4, 8000, .inl (fun _ => 0)))]) (w1 := [(b0, .inr (1, [.int (nI (zq_nN r_6)), .int (nI 1), .int (-1), .int (nI 0), .int (nI 0), .int (nI 0), .ref b1, .int (nI 0), .ref b2, .int (nI 0), .ref b3, .ref b4, .int (nI 0)])), (b1, .inl (o1, 8000, .inl (fun _ => 0))), (b2, .inl (o2, 8000, .inl (fun _ => 0))), (b3, .inl (o3, 16000, .inl (fun _ => 0))), (b4, .inl (o4, 4001, .inl (fun _ => 0)))]) hP hD [5] [0, 1, 2, 3, 4] rfl rfl (by decide) (by decide) hk1 hFc hP1 hD1
  have hK1 := va_K.moved hvm.symm hK1
  have hK := hK.app hK1
  have hK : va_K (dC, dI) classes [(k1, .byte), (k2, .int), (k3, .byte), (k4, .byte), (o1, .int), (o2, .int), (o3, .int), (o4, .int)] s := hK
  generalize H1 = H at hP hS ⊢
  have hP : va_P (dC, dI) classes [(a0, .inr (0, [.ref a1, .ref a2, .int (nI 0), .int (nI 0), .ref a3, .int (nI 0), .ref a4, .int (nI 0), .int (nI 1), .int (-1), .int (nI 0)])), (a1, .inl (k1, 500 * zq_nN r_6, .inl (fun _ => 0))), (a2, .inl (k2, 125 * zq_nN r_6 + 1, .inl (fun _ => 0))), (a3, .inl (k3, 8000, .inl (fun _ => 0))), (a4, .inl (k4, 8000, .inl (fun _ => 0))), (b0, .inr (1, [.int (nI (zq_nN r_6)), .int (nI 1), .int (-1), .int (nI 0), .int (nI 0), .int (nI 0), .ref b1, .int (nI 0), .ref b2, .int (nI 0), .ref b3, .ref b4, .int (nI 0)])), (b1, .inl (o1, 8000, .inl (fun _ => 0))), (b2, .inl (o2, 8000, .inl (fun _ => 0))), (b3, .inl (o3, 16000, .inl (fun _ => 0))), (b4, .inl (o4, 4001, .inl (fun _ => 0)))] H := hP
  have hD : va_D (fun q : Nat => s.heap.size ≤ q) [(a0, .inr (0, [.ref a1, .ref a2, .int (nI 0), .int (nI 0), .ref a3, .int (nI 0), .ref a4, .int (nI 0), .int (nI 1), .int (-1), .int (nI 0)])), (a1, .inl (k1, 500 * zq_nN r_6, .inl (fun _ => 0))), (a2, .inl (k2, 125 * zq_nN r_6 + 1, .inl (fun _ => 0))), (a3, .inl (k3, 8000, .inl (fun _ => 0))), (a4, .inl (k4, 8000, .inl (fun _ => 0))), (b0, .inr (1, [.int (nI (zq_nN r_6)), .int (nI 1), .int (-1), .int (nI 0), .int (nI 0), .int (nI 0), .ref b1, .int (nI 0), .ref b2, .int (nI 0), .ref b3, .ref b4, .int (nI 0)])), (b1, .inl (o1, 8000, .inl (fun _ => 0))), (b2, .inl (o2, 8000, .inl (fun _ => 0))), (b3, .inl (o3, 16000, .inl (fun _ => 0))), (b4, .inl (o4, 4001, .inl (fun _ => 0)))] := hD
  refine W.widen (k := 10) (n := 72026) (by omega) (by omega) ?_
  refine lv_astore_n (lv' := [(2, .ref b0), (1, .ref a0), (0, .ref b)]) hx hb d_law_25 rfl hl (by decide) rfl (fun ls hl => ?_)
  refine lv_iconst (v := nI 1) hx hb d_law_26 (by decide +kernel) ?_
  refine lv_istore_n (lv' := [(3, .int (nI 1)), (2, .ref b0), (1, .ref a0), (0, .ref b)]) hx hb d_law_27 rfl hl (by decide) rfl (fun ls hl => ?_)
  refine W.widen (k := 600000) (n := 7302250) (by omega) (by omega) ?_
  exact law_loop hL C0 (zq_nN r_6) a0 a1 a2 b0 b1 b2 b3 b4 k1 k2 o1 o2 o3 o4 (L + 3) 1 (Nat.le_refl 1) (by omega) (by omega) (fun _ => 0) 0 0 0 0 0 (nI 1) (-1) (nI 0) (fun _ => 0) (fun _ => 0) (fun _ => 0) (fun _ => 0) (fun _ => 0) (fun _ => 0) (fun _ => 0) (fun _ => 0) a3 a4 k3 k4 _ _ (zq_I_init (zq_nN_in r_6)) (hK.sub [0, 1, 2, 3, 4, 5, 6, 7] rfl) (hP.sub [0, 1, 2, 3, 4, 5, 6, 7, 8, 9] rfl) (hD.sub [0, 1, 2, 3, 4, 5, 6, 7, 8, 9] (by decide) rfl) hS ls (lv_sub hl [3, 2, 1, 0] rfl)
end
section
set_option maxHeartbeats 4000000 in
theorem lw_walk (l : Launch) (b : Addr) (xs : List Int32) : MetFree l x (headSpec (Jvm.Cond.code x code maxLocals ret :: tables_1) room_1) (lw_P b xs) (fun _ _ _ _ _ => True) lw_Q := by
  refine MetFree.of_bodyS (code := code) (maxLocals := maxLocals) (ret := ret) (by decide) ?_ ?_
  · intro args s m h hn
    obtain ⟨meth, c, h1, h2, h3, h4, h5, h6, -, -⟩ := Cond.code_spec hn (atoms_spec (ws := Jvm.Cond.code x code maxLocals ret :: tables_1) h _ List.mem_cons_self)
    exact ⟨meth, c, h1, h2, h3, h4, h5, h6⟩
  · intro p e s m args below meth c s₁ B hml0 hP _
    obtain ⟨rfl, hx, hbd, hgv⟩ := hP
    obtain ⟨scr, harrAt, hlist, hof, hsmall⟩ := hx
    obtain ⟨hcb, hkn, -, -⟩ := State.arrayAt?_spec harrAt
    have hown : s.vm.findClass R_law = some m.cls := findClass_of_methodNamed B.named
    have hts0 : ∀ c ∈ (Jvm.Cond.code x code maxLocals ret :: tables_1), c.before #[Value.ref b] s = true := atoms_spec (ws := Jvm.Cond.code x code maxLocals ret :: tables_1) B.pre
    have hts : ∀ w ∈ lw_tbl, w.before #[Value.ref b] s = true := k2_hts_sels lw_privs (fun w hw => hts0 w (List.mem_cons_of_mem _ hw)) lw_privs_ok
    have hml : c.maxLocals = 4 := B.maxLocals_eq (hts0 _ List.mem_cons_self)
    have X₀ : Stand p l e room_1 s m #[Value.ref b] below meth c s₁ [] 0 0 := Stand.of_body B
    have hh0 : s₁.heap = s.heap := by rw [B.state]; rfl
    have hsz : scr.slots.size = xs.length := by rw [← Array.length_toList, hlist, List.length_map]
    have hval : ∀ j : Nat, j < xs.length → scr.slots[j]? = some (.int (xs.getD j 0)) := fun j hj => by
      rw [← Array.getElem?_toList, hlist]
      simp [hj]
    have hbl : b < s.heap.size := (Array.getElem?_eq_some_iff.mp hcb).1
    have hX : va_X b xs.length (fun j => xs.getD j 0) s s.heap := ⟨scr, hcb, hof, hkn, hsz, hval⟩
    have K : W p l e room_1 s m #[Value.ref b] below meth c s₁.heap [] 0 0 (lw_Z below #[Value.ref b] s) (entryFrame m ([Value.ref b] : List Value).toArray 4) := by
      rw [hh0]
      exact whole_start l hbd ⟨B.exec, B.bytes, B.returns, hml, hown, hts, hX, hbl, B.notSynchronized, hgv⟩
    obtain ⟨t, a1, o, b1, b2, b3⟩ := K s₁ rfl X₀
    exact ⟨t, o, a1, b1, b2, b3⟩
theorem lw_pre_spec {args : Array Value} {s : State} (h : (Jvm.Cond.and given_1 narrow_1).before args s = true) (hr : rest_1_c.before args s = true) : ∃ (b : Addr) (xs : List Int32), lw_P b xs args s := by
  have hs := flat_of_before _ h
  have hq := flat_of_before _ hr
  have hc : (Cond.count 1).before args s = true := hs _ (by decide +kernel)
  have harr : (Cond.arrayOf (.arg 0) .int).before args s = true := hs _ (by decide +kernel)
  have hle : (Cond.le (.length (.arg 0)) (.int 2049)).before args s = true := hs _ (by decide +kernel)
  have hlen : (Cond.isInt (.length (.arg 0))).before args s = true := hq _ (by decide +kernel)
  have hall : (Cond.all (.arg 0) (.isInt (.elem (.arg 0) (.index 0)))).before args s = true := hq _ (by decide +kernel)
  obtain ⟨b, xs, hb, hx⟩ := State.ints_of_pre rfl harr hlen hall
  have hsm : xs.length < 2 ^ 31 := hx.choose_spec.2.2.2
  have hev : (Term.length (.arg 0)).eval args s none [] s = some (.int xs.length.toInt32) := hx.length_eval hb
  have hv := Cond.le_ints hev (show (Term.int 2049).eval args s none [] s = some (.int 2049) from rfl)
  have hd : xs.length.toInt32 ≤ 2049 := by
    simpa [Cond.before, Cond.holds, hv] using hle
  have hN : xs.length ≤ 2049 := (Int32.ofNat_le_ofNat hsm (by decide)).mp (show Int32.ofNat xs.length ≤ Int32.ofNat 2049 from hd)
  exact ⟨b, xs, Cond.one_arg hc (show args[0]? = some (.ref b) from hb), hx, hN, h⟩
theorem lw_comes (l : Launch) : Comes l x (Jvm.Cond.code x code maxLocals ret :: tables_1) room_1 (fun tb e args s => Calls_1 tb e args s ∧ rest_1 tb e args s ∧ Pre_1 tb e args s)
    (fun _ _ args s o t => lw_Q args s o t) := by
  intro p e ha hc hk s m args below hf hfit hheap happ hpre
  obtain ⟨b, xs, hP⟩ := lw_pre_spec hpre.2.2 hpre.2.1
  obtain ⟨k, o, h1, h2, h3, hQ⟩ := lw_walk l b xs p e ha hc hk s m args below hf ((Spec.applies_iff_loose hf).mp happ).1 hP trivial
  exact ⟨k, o, h1, h2, h3, hQ⟩
theorem lw_frame {s t : State} {o : Outcome} {args : Array Value} (h : Framed s o t [] 600000 7302250) :
    Framed s o t (fieldLocs frame_1_writes args s ++ arrayLocs frame_1_arrays args s ++ staticLocs frame_1_statics s) 600000 7302250 := h
theorem lw_limb (L : Cond) (hL : ∀ (args : Array Value) (s t : State), L.after args s (.returned (some (.int 1))) t = true) :
    ArmFor flags0 classFile x code maxLocals ret World_1 tables_1 room_1 Calls_1 rest_1 Pre_1
      (fun tb e a s o t => postC L tb e a s o t ∧ Framed s o t (fieldLocs frame_1_writes a s ++ arrayLocs frame_1_arrays a s ++ staticLocs frame_1_statics s) 600000 7302250) := by
  intro l _ _ _ p e ha hc hk s m args below hf hfit hheap happ hpre
  obtain ⟨k, o, h1, h2, h3, rfl, hF⟩ := lw_comes l p e ha hc hk s m args below hf hfit hheap happ hpre
  exact ⟨k, _, h1, h2, h3, hL args s _, lw_frame hF⟩
theorem i_vc : Claimed_1_1 ∧ Claimed_1_2 := ⟨lw_limb limb_1_1 (fun args s t => by simp [limb_1_1, Cond.after, Cond.holds, Cond.value]), lw_limb limb_1_2 (fun args s t => Cond.after_iff.mpr (by
  first | (rw [show limb_1_2 = Cond.eq .result (.int 1) from rfl, Cond.eq_ints (x := 1) (y := 1) rfl rfl]; simp; done) | (simp [limb_1_2, Cond.value, Term.eval]; done)))⟩
end
