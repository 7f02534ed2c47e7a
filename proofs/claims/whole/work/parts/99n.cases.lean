/-! THE CLAIM OUT OF ONE WALK OF THE LAW'S BODY. Your part is whole_start (and what it stands on); all else here is the same for every law, but numbers. -/
def R_law : String := "RowCodeLaw"
def lw_P (b : Addr) (xs : List Int32) (args : Array Value) (s : State) : Prop := args = #[.ref b] ∧ s.IntsAt b xs ∧ xs.length ≤ 1536 ∧ (Jvm.Cond.and given_1 narrow_1).before args s = true
def lw_Q (_ : Array Value) (s : State) (o : Outcome) (t : State) : Prop := o = .returned (some (.int 1)) ∧ Framed s o t [] 601024 7293034
def lw_Z (below : List Frame) (a : Array Value) (s : State) : State → Prop := fun t => ∃ o, t.status = .running ∧ Ended t below o ∧ lw_Q a s o t
/-- the law's own end, with 1 on the stack, nothing written that was there before, its room as the claim has it -/
theorem lw_ret {p : Program} {l : Launch} {e : Env} {s : State} {m : MethodId} {below : List Frame} {meth : Method} {c : Code} {b : Nat} (hx : p.tables.exec = Jvm.exec) (hb : c.code = code) (hr : meth.sig.returnType = ret) (hlocks : meth.locks = false) {pc : Nat} {H : Heap} {ls : Array Slot} (hdg : decode code pc = .ok (.ireturn, 1)) : W p l e room_1 s m #[Value.ref b] below meth c H [] 601024 7293034 (lw_Z below #[Value.ref b] s) (F0 m pc ls [.int 1]) := by
  intro T hT X
  obtain ⟨fs, hret, hrun, hended, hW, hframe⟩ := X.leave (v := some (.int 1)) (hlocks := hlocks) (fun h => by rw [hr] at h; cases h)
  have hmeth' : T.vm.method? m = some meth := X.method'
  refine ⟨T.setFrames fs, ?_, .returned (some (.int 1)), hrun, hended, rfl, ⟨_, rfl⟩, hW, hframe⟩
  jvm_step X.here [X.here.top, hx, hb, hdg, hmeth', hr, ret, narrow_b1]
  (try refine ⟨rfl, ?_⟩); (try refine ⟨rfl, ?_⟩)
  first | (intro acts; rw [hret _ acts rfl rfl rfl]) | rw [hret _ _ rfl rfl rfl]
  exact Steps.refl _
/-- what holds at the law's entry: the machine, the code, the tables' words (any of lw_tbl by 'hts w (by decide +kernel)'), the script of L ints xs at the cell b, what the Statement gives of the start (any of its parts by flat_of_before) -/
def lw_At (p : Program) (s : State) (m : MethodId) (meth : Method) (c : Code) (b L : Nat) (xs : Nat → Int32) : Prop :=
  p.tables.exec = Jvm.exec ∧ c.code = code ∧ meth.sig.returnType = ret ∧ c.maxLocals = 7 ∧ s.vm.findClass R_law = some m.cls ∧ (∀ w ∈ lw_tbl, w.before #[Value.ref b] s = true) ∧ va_X b L xs s s.heap ∧ b < s.heap.size ∧ meth.locks = false ∧ (Jvm.Cond.and given_1 narrow_1).before #[Value.ref b] s = true
set_option maxRecDepth 100000 in
theorem tx_314 : Cond.code ⟨"RowCode", "add", "(II)I"⟩ prog_1_method_2_code 3 (some .int) ∈ mx_tb := mx_tb_in (List.mem_of_getElem? (i := 314) rfl) (by decide +kernel)
theorem tx_312 : Cond.instanceMethod ⟨"RowCode", "add", "(II)I"⟩ ∈ mx_tb := mx_tb_in (List.mem_of_getElem? (i := 312) (by decide +kernel)) (by decide +kernel)
theorem tx_313 : Cond.selects "RowCode" ⟨"RowCode", "add", "(II)I"⟩ ⟨"RowCode", "add", "(II)I"⟩ ∈ mx_tb := mx_tb_in (List.mem_of_getElem? (i := 313) (by decide +kernel)) (by decide +kernel)
theorem tx_311 : Cond.methodLink "RowCodeLaw" 22 ⟨"RowCode", "add", "(II)I"⟩ ∈ mx_tb := mx_tb_in (List.mem_of_getElem? (i := 311) (by decide +kernel)) (by decide +kernel)
set_option maxRecDepth 100000 in
theorem tx_904 : Cond.code ⟨"RowCodeModel", "add", "(II)I"⟩ prog_12_method_3_code 3 (some .int) ∈ mx_tb := mx_tb_in (List.mem_of_getElem? (i := 904) rfl) (by decide +kernel)
theorem tx_902 : Cond.instanceMethod ⟨"RowCodeModel", "add", "(II)I"⟩ ∈ mx_tb := mx_tb_in (List.mem_of_getElem? (i := 902) (by decide +kernel)) (by decide +kernel)
theorem tx_903 : Cond.selects "RowCodeModel" ⟨"RowCodeModel", "add", "(II)I"⟩ ⟨"RowCodeModel", "add", "(II)I"⟩ ∈ mx_tb := mx_tb_in (List.mem_of_getElem? (i := 903) (by decide +kernel)) (by decide +kernel)
theorem tx_901 : Cond.methodLink "RowCodeLaw" 26 ⟨"RowCodeModel", "add", "(II)I"⟩ ∈ mx_tb := mx_tb_in (List.mem_of_getElem? (i := 901) (by decide +kernel)) (by decide +kernel)
set_option maxRecDepth 100000 in
theorem tx_339 : Cond.code ⟨"RowCode", "clear", "()V"⟩ prog_1_method_3_code 1 none ∈ mx_tb := mx_tb_in (List.mem_of_getElem? (i := 339) rfl) (by decide +kernel)
theorem tx_337 : Cond.instanceMethod ⟨"RowCode", "clear", "()V"⟩ ∈ mx_tb := mx_tb_in (List.mem_of_getElem? (i := 337) (by decide +kernel)) (by decide +kernel)
theorem tx_338 : Cond.selects "RowCode" ⟨"RowCode", "clear", "()V"⟩ ⟨"RowCode", "clear", "()V"⟩ ∈ mx_tb := mx_tb_in (List.mem_of_getElem? (i := 338) (by decide +kernel)) (by decide +kernel)
theorem tx_336 : Cond.methodLink "RowCodeLaw" 27 ⟨"RowCode", "clear", "()V"⟩ ∈ mx_tb := mx_tb_in (List.mem_of_getElem? (i := 336) (by decide +kernel)) (by decide +kernel)
set_option maxRecDepth 100000 in
theorem tx_908 : Cond.code ⟨"RowCodeModel", "clear", "()V"⟩ prog_12_method_4_code 1 none ∈ mx_tb := mx_tb_in (List.mem_of_getElem? (i := 908) rfl) (by decide +kernel)
theorem tx_906 : Cond.instanceMethod ⟨"RowCodeModel", "clear", "()V"⟩ ∈ mx_tb := mx_tb_in (List.mem_of_getElem? (i := 906) (by decide +kernel)) (by decide +kernel)
theorem tx_907 : Cond.selects "RowCodeModel" ⟨"RowCodeModel", "clear", "()V"⟩ ⟨"RowCodeModel", "clear", "()V"⟩ ∈ mx_tb := mx_tb_in (List.mem_of_getElem? (i := 907) (by decide +kernel)) (by decide +kernel)
theorem tx_905 : Cond.methodLink "RowCodeLaw" 30 ⟨"RowCodeModel", "clear", "()V"⟩ ∈ mx_tb := mx_tb_in (List.mem_of_getElem? (i := 905) (by decide +kernel)) (by decide +kernel)
set_option maxRecDepth 100000 in
theorem tx_351 : Cond.code ⟨"RowCode", "build", "()Z"⟩ prog_1_method_4_code 1 (some .boolean) ∈ mx_tb := mx_tb_in (List.mem_of_getElem? (i := 351) rfl) (by decide +kernel)
theorem tx_349 : Cond.instanceMethod ⟨"RowCode", "build", "()Z"⟩ ∈ mx_tb := mx_tb_in (List.mem_of_getElem? (i := 349) (by decide +kernel)) (by decide +kernel)
theorem tx_350 : Cond.selects "RowCode" ⟨"RowCode", "build", "()Z"⟩ ⟨"RowCode", "build", "()Z"⟩ ∈ mx_tb := mx_tb_in (List.mem_of_getElem? (i := 350) (by decide +kernel)) (by decide +kernel)
theorem tx_348 : Cond.methodLink "RowCodeLaw" 31 ⟨"RowCode", "build", "()Z"⟩ ∈ mx_tb := mx_tb_in (List.mem_of_getElem? (i := 348) (by decide +kernel)) (by decide +kernel)
theorem tx_909 : Cond.methodLink "RowCodeLaw" 35 ⟨"RowCodeModel", "build", "()Z"⟩ ∈ mx_tb := mx_tb_in (List.mem_of_getElem? (i := 909) (by decide +kernel)) (by decide +kernel)
set_option maxRecDepth 100000 in
theorem tx_448 : Cond.code ⟨"RowCode", "run", "(I)I"⟩ prog_1_method_5_code 3 (some .int) ∈ mx_tb := mx_tb_in (List.mem_of_getElem? (i := 448) rfl) (by decide +kernel)
theorem tx_446 : Cond.instanceMethod ⟨"RowCode", "run", "(I)I"⟩ ∈ mx_tb := mx_tb_in (List.mem_of_getElem? (i := 446) (by decide +kernel)) (by decide +kernel)
theorem tx_447 : Cond.selects "RowCode" ⟨"RowCode", "run", "(I)I"⟩ ⟨"RowCode", "run", "(I)I"⟩ ∈ mx_tb := mx_tb_in (List.mem_of_getElem? (i := 447) (by decide +kernel)) (by decide +kernel)
theorem tx_445 : Cond.methodLink "RowCodeLaw" 36 ⟨"RowCode", "run", "(I)I"⟩ ∈ mx_tb := mx_tb_in (List.mem_of_getElem? (i := 445) (by decide +kernel)) (by decide +kernel)
set_option maxRecDepth 100000 in
theorem tx_952 : Cond.code ⟨"RowCodeModel", "run", "(I)I"⟩ prog_12_method_24_code 5 (some .int) ∈ mx_tb := mx_tb_in (List.mem_of_getElem? (i := 952) rfl) (by decide +kernel)
theorem tx_950 : Cond.instanceMethod ⟨"RowCodeModel", "run", "(I)I"⟩ ∈ mx_tb := mx_tb_in (List.mem_of_getElem? (i := 950) (by decide +kernel)) (by decide +kernel)
theorem tx_951 : Cond.selects "RowCodeModel" ⟨"RowCodeModel", "run", "(I)I"⟩ ⟨"RowCodeModel", "run", "(I)I"⟩ ∈ mx_tb := mx_tb_in (List.mem_of_getElem? (i := 951) (by decide +kernel)) (by decide +kernel)
theorem tx_949 : Cond.methodLink "RowCodeLaw" 39 ⟨"RowCodeModel", "run", "(I)I"⟩ ∈ mx_tb := mx_tb_in (List.mem_of_getElem? (i := 949) (by decide +kernel)) (by decide +kernel)
set_option maxRecDepth 100000 in
theorem tx_752 : Cond.code ⟨"RowCode", "value", "()I"⟩ prog_1_method_6_code 1 (some .int) ∈ mx_tb := mx_tb_in (List.mem_of_getElem? (i := 752) rfl) (by decide +kernel)
theorem tx_750 : Cond.instanceMethod ⟨"RowCode", "value", "()I"⟩ ∈ mx_tb := mx_tb_in (List.mem_of_getElem? (i := 750) (by decide +kernel)) (by decide +kernel)
theorem tx_751 : Cond.selects "RowCode" ⟨"RowCode", "value", "()I"⟩ ⟨"RowCode", "value", "()I"⟩ ∈ mx_tb := mx_tb_in (List.mem_of_getElem? (i := 751) (by decide +kernel)) (by decide +kernel)
theorem tx_749 : Cond.methodLink "RowCodeLaw" 40 ⟨"RowCode", "value", "()I"⟩ ∈ mx_tb := mx_tb_in (List.mem_of_getElem? (i := 749) (by decide +kernel)) (by decide +kernel)
set_option maxRecDepth 100000 in
theorem tx_987 : Cond.code ⟨"RowCodeModel", "value", "()I"⟩ prog_12_method_25_code 1 (some .int) ∈ mx_tb := mx_tb_in (List.mem_of_getElem? (i := 987) rfl) (by decide +kernel)
theorem tx_985 : Cond.instanceMethod ⟨"RowCodeModel", "value", "()I"⟩ ∈ mx_tb := mx_tb_in (List.mem_of_getElem? (i := 985) (by decide +kernel)) (by decide +kernel)
theorem tx_986 : Cond.selects "RowCodeModel" ⟨"RowCodeModel", "value", "()I"⟩ ⟨"RowCodeModel", "value", "()I"⟩ ∈ mx_tb := mx_tb_in (List.mem_of_getElem? (i := 986) (by decide +kernel)) (by decide +kernel)
theorem tx_984 : Cond.methodLink "RowCodeLaw" 44 ⟨"RowCodeModel", "value", "()I"⟩ ∈ mx_tb := mx_tb_in (List.mem_of_getElem? (i := 984) (by decide +kernel)) (by decide +kernel)
set_option maxRecDepth 100000 in
theorem tx_756 : Cond.code ⟨"RowCode", "fuel", "()I"⟩ prog_1_method_7_code 1 (some .int) ∈ mx_tb := mx_tb_in (List.mem_of_getElem? (i := 756) rfl) (by decide +kernel)
theorem tx_754 : Cond.instanceMethod ⟨"RowCode", "fuel", "()I"⟩ ∈ mx_tb := mx_tb_in (List.mem_of_getElem? (i := 754) (by decide +kernel)) (by decide +kernel)
theorem tx_755 : Cond.selects "RowCode" ⟨"RowCode", "fuel", "()I"⟩ ⟨"RowCode", "fuel", "()I"⟩ ∈ mx_tb := mx_tb_in (List.mem_of_getElem? (i := 755) (by decide +kernel)) (by decide +kernel)
theorem tx_753 : Cond.methodLink "RowCodeLaw" 45 ⟨"RowCode", "fuel", "()I"⟩ ∈ mx_tb := mx_tb_in (List.mem_of_getElem? (i := 753) (by decide +kernel)) (by decide +kernel)
set_option maxRecDepth 100000 in
theorem tx_991 : Cond.code ⟨"RowCodeModel", "fuel", "()I"⟩ prog_12_method_26_code 1 (some .int) ∈ mx_tb := mx_tb_in (List.mem_of_getElem? (i := 991) rfl) (by decide +kernel)
theorem tx_989 : Cond.instanceMethod ⟨"RowCodeModel", "fuel", "()I"⟩ ∈ mx_tb := mx_tb_in (List.mem_of_getElem? (i := 989) (by decide +kernel)) (by decide +kernel)
theorem tx_990 : Cond.selects "RowCodeModel" ⟨"RowCodeModel", "fuel", "()I"⟩ ⟨"RowCodeModel", "fuel", "()I"⟩ ∈ mx_tb := mx_tb_in (List.mem_of_getElem? (i := 990) (by decide +kernel)) (by decide +kernel)
theorem tx_988 : Cond.methodLink "RowCodeLaw" 48 ⟨"RowCodeModel", "fuel", "()I"⟩ ∈ mx_tb := mx_tb_in (List.mem_of_getElem? (i := 988) (by decide +kernel)) (by decide +kernel)
set_option maxRecDepth 100000 in
theorem tx_760 : Cond.code ⟨"RowCode", "set", "(II)I"⟩ prog_1_method_8_code 4 (some .int) ∈ mx_tb := mx_tb_in (List.mem_of_getElem? (i := 760) rfl) (by decide +kernel)
theorem tx_758 : Cond.instanceMethod ⟨"RowCode", "set", "(II)I"⟩ ∈ mx_tb := mx_tb_in (List.mem_of_getElem? (i := 758) (by decide +kernel)) (by decide +kernel)
theorem tx_759 : Cond.selects "RowCode" ⟨"RowCode", "set", "(II)I"⟩ ⟨"RowCode", "set", "(II)I"⟩ ∈ mx_tb := mx_tb_in (List.mem_of_getElem? (i := 759) (by decide +kernel)) (by decide +kernel)
theorem tx_757 : Cond.methodLink "RowCodeLaw" 49 ⟨"RowCode", "set", "(II)I"⟩ ∈ mx_tb := mx_tb_in (List.mem_of_getElem? (i := 757) (by decide +kernel)) (by decide +kernel)
set_option maxRecDepth 100000 in
theorem tx_995 : Cond.code ⟨"RowCodeModel", "set", "(II)I"⟩ prog_12_method_27_code 4 (some .int) ∈ mx_tb := mx_tb_in (List.mem_of_getElem? (i := 995) rfl) (by decide +kernel)
theorem tx_993 : Cond.instanceMethod ⟨"RowCodeModel", "set", "(II)I"⟩ ∈ mx_tb := mx_tb_in (List.mem_of_getElem? (i := 993) (by decide +kernel)) (by decide +kernel)
theorem tx_994 : Cond.selects "RowCodeModel" ⟨"RowCodeModel", "set", "(II)I"⟩ ⟨"RowCodeModel", "set", "(II)I"⟩ ∈ mx_tb := mx_tb_in (List.mem_of_getElem? (i := 994) (by decide +kernel)) (by decide +kernel)
theorem tx_992 : Cond.methodLink "RowCodeLaw" 52 ⟨"RowCodeModel", "set", "(II)I"⟩ ∈ mx_tb := mx_tb_in (List.mem_of_getElem? (i := 992) (by decide +kernel)) (by decide +kernel)
set_option maxRecDepth 100000 in
theorem tx_999 : Cond.code ⟨"RowCodeModel", "local", "(I)I"⟩ prog_12_method_28_code 2 (some .int) ∈ mx_tb := mx_tb_in (List.mem_of_getElem? (i := 999) rfl) (by decide +kernel)
theorem tx_997 : Cond.instanceMethod ⟨"RowCodeModel", "local", "(I)I"⟩ ∈ mx_tb := mx_tb_in (List.mem_of_getElem? (i := 997) (by decide +kernel)) (by decide +kernel)
theorem tx_998 : Cond.selects "RowCodeModel" ⟨"RowCodeModel", "local", "(I)I"⟩ ⟨"RowCodeModel", "local", "(I)I"⟩ ∈ mx_tb := mx_tb_in (List.mem_of_getElem? (i := 998) (by decide +kernel)) (by decide +kernel)
theorem tx_996 : Cond.methodLink "RowCodeLaw" 58 ⟨"RowCodeModel", "local", "(I)I"⟩ ∈ mx_tb := mx_tb_in (List.mem_of_getElem? (i := 996) (by decide +kernel)) (by decide +kernel)
set_option maxRecDepth 100000 in
theorem tx_900 : Cond.code ⟨"RowCodeModel", "thrown", "()I"⟩ prog_12_method_2_code 1 (some .int) ∈ mx_tb := mx_tb_in (List.mem_of_getElem? (i := 900) rfl) (by decide +kernel)
theorem tx_898 : Cond.instanceMethod ⟨"RowCodeModel", "thrown", "()I"⟩ ∈ mx_tb := mx_tb_in (List.mem_of_getElem? (i := 898) (by decide +kernel)) (by decide +kernel)
theorem tx_899 : Cond.selects "RowCodeModel" ⟨"RowCodeModel", "thrown", "()I"⟩ ⟨"RowCodeModel", "thrown", "()I"⟩ ∈ mx_tb := mx_tb_in (List.mem_of_getElem? (i := 899) (by decide +kernel)) (by decide +kernel)
theorem tx_897 : Cond.methodLink "RowCodeLaw" 59 ⟨"RowCodeModel", "thrown", "()I"⟩ ∈ mx_tb := mx_tb_in (List.mem_of_getElem? (i := 897) (by decide +kernel)) (by decide +kernel)
set_option maxRecDepth 100000 in
theorem tx_766 : Cond.code ⟨"RowCode", "put", "(II)I"⟩ prog_1_method_10_code 4 (some .int) ∈ mx_tb := mx_tb_in (List.mem_of_getElem? (i := 766) rfl) (by decide +kernel)
theorem tx_764 : Cond.instanceMethod ⟨"RowCode", "put", "(II)I"⟩ ∈ mx_tb := mx_tb_in (List.mem_of_getElem? (i := 764) (by decide +kernel)) (by decide +kernel)
theorem tx_765 : Cond.selects "RowCode" ⟨"RowCode", "put", "(II)I"⟩ ⟨"RowCode", "put", "(II)I"⟩ ∈ mx_tb := mx_tb_in (List.mem_of_getElem? (i := 765) (by decide +kernel)) (by decide +kernel)
theorem tx_763 : Cond.methodLink "RowCodeLaw" 62 ⟨"RowCode", "put", "(II)I"⟩ ∈ mx_tb := mx_tb_in (List.mem_of_getElem? (i := 763) (by decide +kernel)) (by decide +kernel)
set_option maxRecDepth 100000 in
theorem tx_1003 : Cond.code ⟨"RowCodeModel", "put", "(II)I"⟩ prog_12_method_29_code 4 (some .int) ∈ mx_tb := mx_tb_in (List.mem_of_getElem? (i := 1003) rfl) (by decide +kernel)
theorem tx_1001 : Cond.instanceMethod ⟨"RowCodeModel", "put", "(II)I"⟩ ∈ mx_tb := mx_tb_in (List.mem_of_getElem? (i := 1001) (by decide +kernel)) (by decide +kernel)
theorem tx_1002 : Cond.selects "RowCodeModel" ⟨"RowCodeModel", "put", "(II)I"⟩ ⟨"RowCodeModel", "put", "(II)I"⟩ ∈ mx_tb := mx_tb_in (List.mem_of_getElem? (i := 1002) (by decide +kernel)) (by decide +kernel)
theorem tx_1000 : Cond.methodLink "RowCodeLaw" 65 ⟨"RowCodeModel", "put", "(II)I"⟩ ∈ mx_tb := mx_tb_in (List.mem_of_getElem? (i := 1000) (by decide +kernel)) (by decide +kernel)
set_option maxRecDepth 100000 in
theorem tx_1007 : Cond.code ⟨"RowCodeModel", "word", "(I)I"⟩ prog_12_method_30_code 2 (some .int) ∈ mx_tb := mx_tb_in (List.mem_of_getElem? (i := 1007) rfl) (by decide +kernel)
theorem tx_1005 : Cond.instanceMethod ⟨"RowCodeModel", "word", "(I)I"⟩ ∈ mx_tb := mx_tb_in (List.mem_of_getElem? (i := 1005) (by decide +kernel)) (by decide +kernel)
theorem tx_1006 : Cond.selects "RowCodeModel" ⟨"RowCodeModel", "word", "(I)I"⟩ ⟨"RowCodeModel", "word", "(I)I"⟩ ∈ mx_tb := mx_tb_in (List.mem_of_getElem? (i := 1006) (by decide +kernel)) (by decide +kernel)
theorem tx_1004 : Cond.methodLink "RowCodeLaw" 68 ⟨"RowCodeModel", "word", "(I)I"⟩ ∈ mx_tb := mx_tb_in (List.mem_of_getElem? (i := 1004) (by decide +kernel)) (by decide +kernel)
set_option maxRecDepth 100000 in
theorem tx_88 : Cond.code ⟨"RowCode", "<init>", "()V"⟩ prog_1_method_1_code 1 none ∈ mx_tb := mx_tb_in (List.mem_of_getElem? (i := 88) rfl) (by decide +kernel)
theorem tx_87 : Cond.instanceMethod ⟨"RowCode", "<init>", "()V"⟩ ∈ mx_tb := mx_tb_in (List.mem_of_getElem? (i := 87) (by decide +kernel)) (by decide +kernel)
theorem tx_86 : Cond.methodLink "RowCodeLaw" 18 ⟨"RowCode", "<init>", "()V"⟩ ∈ mx_tb := mx_tb_in (List.mem_of_getElem? (i := 86) (by decide +kernel)) (by decide +kernel)
set_option maxRecDepth 100000 in
theorem tx_857 : Cond.code ⟨"RowCodeModel", "<init>", "()V"⟩ prog_12_method_1_code 1 none ∈ mx_tb := mx_tb_in (List.mem_of_getElem? (i := 857) rfl) (by decide +kernel)
theorem tx_856 : Cond.instanceMethod ⟨"RowCodeModel", "<init>", "()V"⟩ ∈ mx_tb := mx_tb_in (List.mem_of_getElem? (i := 856) (by decide +kernel)) (by decide +kernel)
theorem tx_855 : Cond.methodLink "RowCodeLaw" 21 ⟨"RowCodeModel", "<init>", "()V"⟩ ∈ mx_tb := mx_tb_in (List.mem_of_getElem? (i := 855) (by decide +kernel)) (by decide +kernel)
theorem cv_104 : mx_calV i_104 2 := ⟨⟨tx_314, tw_66, ⟨by decide +kernel, by decide +kernel⟩, by decide +kernel⟩, tx_312, tx_313⟩
theorem cv_118 : mx_calV i_118 2 := ⟨⟨tx_904, tw_78, ⟨by decide +kernel, by decide +kernel⟩, by decide +kernel⟩, tx_902, tx_903⟩
theorem cv_105 : mx_calV i_105 0 := ⟨⟨tx_339, tw_66, ⟨by decide +kernel, by decide +kernel⟩, by decide +kernel⟩, tx_337, tx_338⟩
theorem cv_119 : mx_calV i_119 0 := ⟨⟨tx_908, tw_78, ⟨by decide +kernel, by decide +kernel⟩, by decide +kernel⟩, tx_906, tx_907⟩
theorem cv_106 : mx_calV i_106 0 := ⟨⟨tx_351, tw_66, ⟨by decide +kernel, by decide +kernel⟩, by decide +kernel⟩, tx_349, tx_350⟩
theorem cv_107 : mx_calV i_107 1 := ⟨⟨tx_448, tw_66, ⟨by decide +kernel, by decide +kernel⟩, by decide +kernel⟩, tx_446, tx_447⟩
theorem cv_139 : mx_calV i_139 1 := ⟨⟨tx_952, tw_78, ⟨by decide +kernel, by decide +kernel⟩, by decide +kernel⟩, tx_950, tx_951⟩
theorem cv_108 : mx_calV i_108 0 := ⟨⟨tx_752, tw_66, ⟨by decide +kernel, by decide +kernel⟩, by decide +kernel⟩, tx_750, tx_751⟩
theorem cv_140 : mx_calV i_140 0 := ⟨⟨tx_987, tw_78, ⟨by decide +kernel, by decide +kernel⟩, by decide +kernel⟩, tx_985, tx_986⟩
theorem cv_109 : mx_calV i_109 0 := ⟨⟨tx_756, tw_66, ⟨by decide +kernel, by decide +kernel⟩, by decide +kernel⟩, tx_754, tx_755⟩
theorem cv_141 : mx_calV i_141 0 := ⟨⟨tx_991, tw_78, ⟨by decide +kernel, by decide +kernel⟩, by decide +kernel⟩, tx_989, tx_990⟩
theorem cv_110 : mx_calV i_110 2 := ⟨⟨tx_760, tw_66, ⟨by decide +kernel, by decide +kernel⟩, by decide +kernel⟩, tx_758, tx_759⟩
theorem cv_142 : mx_calV i_142 2 := ⟨⟨tx_995, tw_78, ⟨by decide +kernel, by decide +kernel⟩, by decide +kernel⟩, tx_993, tx_994⟩
theorem cv_143 : mx_calV i_143 1 := ⟨⟨tx_999, tw_78, ⟨by decide +kernel, by decide +kernel⟩, by decide +kernel⟩, tx_997, tx_998⟩
theorem cv_117 : mx_calV i_117 0 := ⟨⟨tx_900, tw_78, ⟨by decide +kernel, by decide +kernel⟩, by decide +kernel⟩, tx_898, tx_899⟩
theorem cv_111 : mx_calV i_111 2 := ⟨⟨tx_766, tw_66, ⟨by decide +kernel, by decide +kernel⟩, by decide +kernel⟩, tx_764, tx_765⟩
theorem cv_144 : mx_calV i_144 2 := ⟨⟨tx_1003, tw_78, ⟨by decide +kernel, by decide +kernel⟩, by decide +kernel⟩, tx_1001, tx_1002⟩
theorem cv_145 : mx_calV i_145 1 := ⟨⟨tx_1007, tw_78, ⟨by decide +kernel, by decide +kernel⟩, by decide +kernel⟩, tx_1005, tx_1006⟩
theorem ci_103 : mx_calI i_103 0 := ⟨⟨tx_88, tw_66, ⟨by decide +kernel, by decide +kernel⟩, by decide +kernel⟩, rfl, rfl, tx_87⟩
theorem ci_116 : mx_calI i_116 0 := ⟨⟨tx_857, tw_78, ⟨by decide +kernel, by decide +kernel⟩, by decide +kernel⟩, rfl, rfl, tx_856⟩
/-! THE LAW'S CASES (written by wip/gen99n.py) -/
theorem lawR_0 {z : Nat} {S : xS} {c : List II} {va fu : Int32} {lo wo : Nat → Int32} (h : lawR z S c va fu lo wo) : ∃ fs, S 0 = some (.inr (.inr (9, fs))) := by
  obtain ⟨pj, ds, cm, wt, jd, b, pl, us, fs, ga, ns, as, t, gg, m, ld, hO, -⟩ := h
  exact ⟨_, hO.1⟩
theorem lawM_52 {z : Nat} {S : xS} {c : List II} {th va fu : Int32} {lo wo : Nat → Int32} (h : lawM z S c th va fu lo wo) : ∃ fs, S 52 = some (.inr (.inr (10, fs))) := by
  obtain ⟨hg, nu, ag, he, go, ro, hM, -⟩ := h
  exact ⟨_, hM.1⟩
theorem LH_up {s : State} {D : va_G} {cI cZ cJ : ClassId} {g : mx_G} {z zM w j : Nat} {H : Heap} {locs : List Loc} {cells slots : Nat} {SR SM : xS} {x : Int64} (h : LH s D cI cZ cJ g z zM w j H locs cells slots SR SM x) : LH s D cI cZ cJ g z zM w (j + 1) H locs cells slots SR SM x := by
  obtain ⟨hR, hM, cR, cM, r1, r2, vs, i1, i2, dj, w1, w2, w3, nm, b1, b2⟩ := h
  exact ⟨hR, hM, cR, cM, r1, r2, vs, i1, i2, dj, w1, w2, w3, nm, by omega, by omega⟩
theorem LH_vs {s : State} {D : va_G} {cI cZ cJ : ClassId} {g : mx_G} {z zM w j : Nat} {H : Heap} {locs : List Loc} {cells slots : Nat} {SR SM : xS} {x : Int64} (h : LH s D cI cZ cJ g z zM w j H locs cells slots SR SM x) : va_S (lwA s) s.heap H locs ∧ H[w]? = some (arrV cJ 1 (fun _ => .long x)) ∧ cells ≤ 1000 + j ∧ slots ≤ 5000000 + 6 * j := by
  obtain ⟨hR, hM, cR, cM, r1, r2, vs, i1, i2, dj, w1, w2, w3, nm, b1, b2⟩ := h
  exact ⟨vs, w3, by omega, by omega⟩
abbrev LVl (b z zM w j : Nat) : mx_L := [(0, .ref b), (1, .ref z), (2, .ref (zM + 52)), (3, .ref w), (4, .int (nI (3 * j)))]
section LAWC
variable {p : Program} {l : Launch} {e : Env} {s : State} {m : MethodId} {below : List Frame} {meth : Method} {c : Code} {H : Heap} {locs : List Loc} {cells slots pc : Nat} {Q : State → Prop} {ls : Array Slot} {lv : mx_L} {D : va_G} {cI cZ cJ : ClassId} {g : mx_G} {z zM w b j L : Nat} {xs : Nat → Int32} {SR SM : xS} {x : Int64} {cc : List II} {th va fu : Int32} {lo wo : Nat → Int32}
theorem lw_ld {d : Nat} {n : Int} {st : List Value} (hC : LK p l s m meth c D cI cZ cJ g b z w) (hX : va_X b L xs s s.heap) (hbl : b < s.heap.size) (vs : va_S (lwA s) s.heap H locs) (hl : lv_has ls 7 lv) (h0 : mx_lget lv 0 = some (.ref b)) (h4 : mx_lget lv 4 = some (.int (nI (3 * j)))) (hd : 3 * j + d < L) (hL : L ≤ 1536) (hn : Int32.ofInt n = nI d) (d0 : decode code pc = .ok (.aload_n 0, 1)) (d1 : decode code (pc + 1) = .ok (.iload 4, 2)) (d3 : decode code (pc + 3) = .ok (.iconst n, 1)) (d4 : decode code (pc + 4) = .ok (.iadd, 1)) (d5 : decode code (pc + 5) = .ok (.iaload, 1))
    (kk : W p l e room_1 s m #[Value.ref b] below meth c H locs cells slots Q (F0 m (pc + 6) ls (.int (xs (3 * j + d)) :: st))) : W p l e room_1 s m #[Value.ref b] below meth c H locs cells slots Q (F0 m pc ls st) := by
  obtain ⟨⟨hx, hb, -⟩, -⟩ := hC
  refine lv_aload_n (k := 0) hx hb d0 rfl (mx_lget_at hl h0) ?_
  refine lv_iload hx hb d1 (mx_lget_at hl h4) ?_
  refine lv_iconst hx hb d3 hn ?_
  refine lv_iadd hx hb d4 ?_
  rw [nI_add]
  refine va_sld hx hb hX hbl (Nat.not_le.mpr hbl) vs (nI_in hd (by omega)) d5 ?_
  rw [nI_clamp (by omega)]
  exact kk
/-- what comes behind a case -/
abbrev NX (p : Program) (l : Launch) (e : Env) (s : State) (m : MethodId) (below : List Frame) (meth : Method) (c : Code) (D : va_G) (cI cZ cJ : ClassId) (g : mx_G) (z zM w b j : Nat) (Q : State → Prop) : Prop :=
  ∀ (H : Heap) (locs : List Loc) (cells slots : Nat) (SR SM : xS) (x : Int64) (cc : List II) (th va fu : Int32) (lo wo : Nat → Int32) (ls : Array Slot), LH s D cI cZ cJ g z zM w (j + 1) H locs cells slots SR SM x → lawR z SR cc va fu lo wo → lawM zM SM cc th va fu lo wo → cc.length ≤ 400 → lv_has ls 7 (LVl b z zM w j) → W p l e room_1 s m #[Value.ref b] below meth c H locs cells slots Q (F0 m 390 ls [])
theorem law_c0 (hC : LK p l s m meth c D cI cZ cJ g b z w) (hX : va_X b L xs s s.heap) (hbl : b < s.heap.size) (hL : L ≤ 1536) (hj : 3 * j + 3 ≤ L) (hLH : LH s D cI cZ cJ g z zM w j H locs cells slots SR SM x) (hr : lawR z SR cc va fu lo wo) (hm : lawM zM SM cc th va fu lo wo) (hc : cc.length ≤ 400) (hl : lv_has ls 7 (LVl b z zM w j)) (kk : NX p l e s m below meth c D cI cZ cJ g z zM w b j Q) : W p l e room_1 s m #[Value.ref b] below meth c H locs cells slots Q (F0 m 92 ls []) := by
  obtain ⟨⟨hx, hb, -⟩, -⟩ := id hC
  have key : ∃ (r : Int32) (cc' : List II) (va' fu' : Int32) (lo' wo' : Nat → Int32), xw z NK0 g 104 0 [(0, .ref (z + 0)), (1, .int (xs (3 * j + 1))), (2, .int (xs (3 * j + 2)))] [] SR (fun v S' => v = some (.int r) ∧ lawR z S' cc' va' fu' lo' wo') ∧ xw zM [] g 118 0 [(0, .ref (zM + 52)), (1, .int (xs (3 * j + 1))), (2, .int (xs (3 * j + 2)))] [] SM (fun v S' => v = some (.int r) ∧ lawM zM S' cc' 0 va' fu' lo' wo') ∧ cc'.length ≤ 400 := by
    by_cases h4 : cc.length < 400
    · exact ⟨_, _, va, fu, lo, wo, r_add hr h4, lq_add hm h4, by rw [List.length_append, List.length_singleton]; omega⟩
    · exact ⟨_, cc, va, fu, lo, wo, r_add0 hr (by omega), lq_add0 hm (by omega), hc⟩
  obtain ⟨r, cc', va', fu', lo', wo', xR, xM, hc'⟩ := key
  refine lv_aload_n (k := 1) hx hb (by decide +kernel) rfl (mx_lget_at hl rfl) ?_
  refine lw_ld (d := 1) (n := 1) hC hX hbl (LH_vs hLH).1 hl rfl rfl (by omega) hL (by decide) (by decide +kernel) (by decide +kernel) (by decide +kernel) (by decide +kernel) (by decide +kernel) ?_
  refine lw_ld (d := 2) (n := 2) hC hX hbl (LH_vs hLH).1 hl rfl rfl (by omega) hL (by decide) (by decide +kernel) (by decide +kernel) (by decide +kernel) (by decide +kernel) (by decide +kernel) ?_
  refine lw_R (cl := (104, 3, some (some 9), 3)) (j := i_104) (lv := LVl b z zM w j) hC rfl (mk_callV (by decide) (by decide) cv_104 (Or.inl tx_311) rfl (by decide +kernel)) rfl rfl ⟨_, rfl⟩ rfl rfl (lawR_0 hr) (by omega) hl xR (fun v S' h => lawR_nums h.2) hLH (fun v S' H1 locs1 c1 s1 hP hLH1 => ?_)
  obtain ⟨rfl, hr1⟩ := hP
  show W p l e room_1 s m #[Value.ref b] below meth c H1 locs1 c1 s1 Q (F0 m 108 ls [.int r])
  refine lv_aload_n (k := 2) hx hb (by decide +kernel) rfl (mx_lget_at hl rfl) ?_
  refine lw_ld (d := 1) (n := 1) hC hX hbl (LH_vs hLH1).1 hl rfl rfl (by omega) hL (by decide) (by decide +kernel) (by decide +kernel) (by decide +kernel) (by decide +kernel) (by decide +kernel) ?_
  refine lw_ld (d := 2) (n := 2) hC hX hbl (LH_vs hLH1).1 hl rfl rfl (by omega) hL (by decide) (by decide +kernel) (by decide +kernel) (by decide +kernel) (by decide +kernel) (by decide +kernel) ?_
  refine lw_M (cl := (118, 3, some (some 10), 3)) (j := i_118) (lv := LVl b z zM w j) hC rfl (mk_callV (by decide) (by decide) cv_118 (Or.inl tx_901) rfl (by decide +kernel)) rfl rfl ⟨_, rfl⟩ rfl rfl (lawM_52 hm) (by omega) hl xM hLH1 (fun v S'' H2 locs2 c2 s2 hP hLH2 => ?_)
  obtain ⟨rfl, hm1⟩ := hP
  show W p l e room_1 s m #[Value.ref b] below meth c H2 locs2 c2 s2 Q (F0 m 124 ls [.int r, .int r])
  exact lv_icmp_eq (off := 266) (tgt := 390) hx hb (by decide +kernel) (by decide) (fun _ => kk H2 locs2 c2 s2 S' S'' x cc' 0 va' fu' lo' wo' ls (LH_up hLH2) hr1 hm1 hc' hl) (fun h => absurd rfl h)
theorem law_c1 (hC : LK p l s m meth c D cI cZ cJ g b z w) (hX : va_X b L xs s s.heap) (hbl : b < s.heap.size) (hL : L ≤ 1536) (hj : 3 * j + 3 ≤ L) (hLH : LH s D cI cZ cJ g z zM w j H locs cells slots SR SM x) (hr : lawR z SR cc va fu lo wo) (hm : lawM zM SM cc th va fu lo wo) (hc : cc.length ≤ 400) (hl : lv_has ls 7 (LVl b z zM w j)) (kk : NX p l e s m below meth c D cI cZ cJ g z zM w b j Q) : W p l e room_1 s m #[Value.ref b] below meth c H locs cells slots Q (F0 m 129 ls []) := by
  obtain ⟨⟨hx, hb, -⟩, -⟩ := id hC
  have key : ∃ (r : Int32) (cc' : List II) (va' fu' : Int32) (lo' wo' : Nat → Int32), xw z NK0 g 105 0 [(0, .ref (z + 0))] [] SR (fun v S' => v = none ∧ lawR z S' cc' va' fu' lo' wo') ∧ xw zM [] g 119 0 [(0, .ref (zM + 52))] [] SM (fun v S' => v = none ∧ lawM zM S' cc' 0 va' fu' lo' wo') ∧ cc'.length ≤ 400 := by
    exact ⟨0, [], va, fu, lo, wo, r_clear hr, lq_clear hm, Nat.zero_le _⟩
  obtain ⟨r, cc', va', fu', lo', wo', xR, xM, hc'⟩ := key
  refine lv_aload_n (k := 1) hx hb (by decide +kernel) rfl (mx_lget_at hl rfl) ?_
  refine lw_R (cl := (105, 1, some (some 9), 1)) (j := i_105) (lv := LVl b z zM w j) hC rfl (mk_callV (by decide) (by decide) cv_105 (Or.inl tx_336) rfl (by decide +kernel)) rfl rfl ⟨_, rfl⟩ rfl rfl (lawR_0 hr) (by omega) hl xR (fun v S' h => lawR_nums h.2) hLH (fun v S' H1 locs1 c1 s1 hP hLH1 => ?_)
  obtain ⟨rfl, hr1⟩ := hP
  show W p l e room_1 s m #[Value.ref b] below meth c H1 locs1 c1 s1 Q (F0 m 133 ls [])
  refine lv_aload_n (k := 2) hx hb (by decide +kernel) rfl (mx_lget_at hl rfl) ?_
  refine lw_M (cl := (119, 1, some (some 10), 1)) (j := i_119) (lv := LVl b z zM w j) hC rfl (mk_callV (by decide) (by decide) cv_119 (Or.inl tx_905) rfl (by decide +kernel)) rfl rfl ⟨_, rfl⟩ rfl rfl (lawM_52 hm) (by omega) hl xM hLH1 (fun v S'' H2 locs2 c2 s2 hP hLH2 => ?_)
  obtain ⟨rfl, hm1⟩ := hP
  show W p l e room_1 s m #[Value.ref b] below meth c H2 locs2 c2 s2 Q (F0 m 137 ls [])
  exact lv_goto (off := 253) (tgt := 390) hx hb (by decide +kernel) (by decide) (kk H2 locs2 c2 s2 S' S'' x cc' 0 va' fu' lo' wo' ls (LH_up hLH2) hr1 hm1 hc' hl)
theorem law_c2 (hC : LK p l s m meth c D cI cZ cJ g b z w) (hX : va_X b L xs s s.heap) (hbl : b < s.heap.size) (hL : L ≤ 1536) (hj : 3 * j + 3 ≤ L) (hLH : LH s D cI cZ cJ g z zM w j H locs cells slots SR SM x) (hr : lawR z SR cc va fu lo wo) (hm : lawM zM SM cc th va fu lo wo) (hc : cc.length ≤ 400) (hl : lv_has ls 7 (LVl b z zM w j)) (kk : NX p l e s m below meth c D cI cZ cJ g z zM w b j Q) : W p l e room_1 s m #[Value.ref b] below meth c H locs cells slots Q (F0 m 140 ls []) := by
  obtain ⟨⟨hx, hb, -⟩, -⟩ := id hC
  have key : ∃ (r : Int32) (cc' : List II) (va' fu' : Int32) (lo' wo' : Nat → Int32), xw z NK0 g 106 0 [(0, .ref (z + 0))] [] SR (fun v S' => v = some (.int r) ∧ lawR z S' cc' va' fu' lo' wo') ∧ xw zM [] g 130 0 [(0, .ref (zM + 52))] [] SM (fun v S' => v = some (.int r) ∧ lawM zM S' cc' 0 va' fu' lo' wo') ∧ cc'.length ≤ 400 := by
    by_cases hR : Right cc
    · refine ⟨1, cc, va, fu, lo, wo, (r_build hr hc).imp (fun v S' h => ?_), (lq_build hm hc).imp (fun v S' h => ?_), hc⟩
      · obtain ⟨b, rfl, hb, h2⟩ := h; rw [hb.mpr hR]; exact ⟨rfl, h2⟩
      · obtain ⟨b, rfl, hb, h2⟩ := h; rw [hb.mpr hR]; exact ⟨rfl, h2⟩
    · refine ⟨0, cc, va, fu, lo, wo, (r_build hr hc).imp (fun v S' h => ?_), (lq_build hm hc).imp (fun v S' h => ?_), hc⟩
      · obtain ⟨b, rfl, hb, h2⟩ := h; cases b with | true => exact absurd (hb.mp rfl) hR | false => exact ⟨rfl, h2⟩
      · obtain ⟨b, rfl, hb, h2⟩ := h; cases b with | true => exact absurd (hb.mp rfl) hR | false => exact ⟨rfl, h2⟩
  obtain ⟨r, cc', va', fu', lo', wo', xR, xM, hc'⟩ := key
  refine lv_aload_n (k := 1) hx hb (by decide +kernel) rfl (mx_lget_at hl rfl) ?_
  refine lw_R (cl := (106, 1, some (some 9), 1)) (j := i_106) (lv := LVl b z zM w j) hC rfl (mk_callV (by decide) (by decide) cv_106 (Or.inl tx_348) rfl (by decide +kernel)) rfl rfl ⟨_, rfl⟩ rfl rfl (lawR_0 hr) (by omega) hl xR (fun v S' h => lawR_nums h.2) hLH (fun v S' H1 locs1 c1 s1 hP hLH1 => ?_)
  obtain ⟨rfl, hr1⟩ := hP
  show W p l e room_1 s m #[Value.ref b] below meth c H1 locs1 c1 s1 Q (F0 m 144 ls [.int r])
  refine lv_aload_n (k := 2) hx hb (by decide +kernel) rfl (mx_lget_at hl rfl) ?_
  refine lw_M (cl := (130, 1, some (some 10), 1)) (j := i_130) (lv := LVl b z zM w j) hC rfl (mk_callV (by decide) (by decide) cv_130 (Or.inl tx_909) rfl (by decide +kernel)) rfl rfl ⟨_, rfl⟩ rfl rfl (lawM_52 hm) (by omega) hl xM hLH1 (fun v S'' H2 locs2 c2 s2 hP hLH2 => ?_)
  obtain ⟨rfl, hm1⟩ := hP
  show W p l e room_1 s m #[Value.ref b] below meth c H2 locs2 c2 s2 Q (F0 m 148 ls [.int r, .int r])
  exact lv_icmp_eq (off := 242) (tgt := 390) hx hb (by decide +kernel) (by decide) (fun _ => kk H2 locs2 c2 s2 S' S'' x cc' 0 va' fu' lo' wo' ls (LH_up hLH2) hr1 hm1 hc' hl) (fun h => absurd rfl h)
theorem law_c3 (hC : LK p l s m meth c D cI cZ cJ g b z w) (hX : va_X b L xs s s.heap) (hbl : b < s.heap.size) (hL : L ≤ 1536) (hj : 3 * j + 3 ≤ L) (hLH : LH s D cI cZ cJ g z zM w j H locs cells slots SR SM x) (hr : lawR z SR cc va fu lo wo) (hm : lawM zM SM cc th va fu lo wo) (hc : cc.length ≤ 400) (hl : lv_has ls 7 (LVl b z zM w j)) (kk : NX p l e s m below meth c D cI cZ cJ g z zM w b j Q) : W p l e room_1 s m #[Value.ref b] below meth c H locs cells slots Q (F0 m 153 ls []) := by
  obtain ⟨⟨hx, hb, -⟩, -⟩ := id hC
  have key : ∃ (r : Int32) (cc' : List II) (va' fu' : Int32) (lo' wo' : Nat → Int32), xw z NK0 g 107 0 [(0, .ref (z + 0)), (1, .int (xs (3 * j + 1)))] [] SR (fun v S' => v = some (.int r) ∧ lawR z S' cc' va' fu' lo' wo') ∧ xw zM [] g 139 0 [(0, .ref (zM + 52)), (1, .int (xs (3 * j + 1)))] [] SM (fun v S' => v = some (.int r) ∧ lawM zM S' cc' 0 va' fu' lo' wo') ∧ cc'.length ≤ 400 := by
    by_cases hno : (xs (3 * j + 1)) < 0 ∨ 20000 < (xs (3 * j + 1)) ∨ ¬ Right cc
    · exact ⟨_, cc, va, fu, lo, wo, r_run_no hr hc hno, lq_run_no hm hc hno, hc⟩
    · have h1 : ¬ (xs (3 * j + 1)) < 0 ∧ ¬ 20000 < (xs (3 * j + 1)) := ⟨fun w => hno (.inl w), fun w => hno (.inr (.inl w))⟩
      have h2 : Right cc := Classical.byContradiction (fun w => hno (.inr (.inr w)))
      obtain ⟨n, R, hF⟩ := run_has (lo := lo) (wo := wo) h1 h2
      exact ⟨_, cc, _, _, _, _, r_run_yes hr hc h1 h2 hF, lq_run_yes hm hc h1 h2 hF, hc⟩
  obtain ⟨r, cc', va', fu', lo', wo', xR, xM, hc'⟩ := key
  refine lv_aload_n (k := 1) hx hb (by decide +kernel) rfl (mx_lget_at hl rfl) ?_
  refine lw_ld (d := 1) (n := 1) hC hX hbl (LH_vs hLH).1 hl rfl rfl (by omega) hL (by decide) (by decide +kernel) (by decide +kernel) (by decide +kernel) (by decide +kernel) (by decide +kernel) ?_
  refine lw_R (cl := (107, 2, some (some 9), 3)) (j := i_107) (lv := LVl b z zM w j) hC rfl (mk_callV (by decide) (by decide) cv_107 (Or.inl tx_445) rfl (by decide +kernel)) rfl rfl ⟨_, rfl⟩ rfl rfl (lawR_0 hr) (by omega) hl xR (fun v S' h => lawR_nums h.2) hLH (fun v S' H1 locs1 c1 s1 hP hLH1 => ?_)
  obtain ⟨rfl, hr1⟩ := hP
  show W p l e room_1 s m #[Value.ref b] below meth c H1 locs1 c1 s1 Q (F0 m 163 ls [.int r])
  refine lv_aload_n (k := 2) hx hb (by decide +kernel) rfl (mx_lget_at hl rfl) ?_
  refine lw_ld (d := 1) (n := 1) hC hX hbl (LH_vs hLH1).1 hl rfl rfl (by omega) hL (by decide) (by decide +kernel) (by decide +kernel) (by decide +kernel) (by decide +kernel) (by decide +kernel) ?_
  refine lw_M (cl := (139, 2, some (some 10), 5)) (j := i_139) (lv := LVl b z zM w j) hC rfl (mk_callV (by decide) (by decide) cv_139 (Or.inl tx_949) rfl (by decide +kernel)) rfl rfl ⟨_, rfl⟩ rfl rfl (lawM_52 hm) (by omega) hl xM hLH1 (fun v S'' H2 locs2 c2 s2 hP hLH2 => ?_)
  obtain ⟨rfl, hm1⟩ := hP
  show W p l e room_1 s m #[Value.ref b] below meth c H2 locs2 c2 s2 Q (F0 m 173 ls [.int r, .int r])
  exact lv_icmp_eq (off := 217) (tgt := 390) hx hb (by decide +kernel) (by decide) (fun _ => kk H2 locs2 c2 s2 S' S'' x cc' 0 va' fu' lo' wo' ls (LH_up hLH2) hr1 hm1 hc' hl) (fun h => absurd rfl h)
theorem law_c4 (hC : LK p l s m meth c D cI cZ cJ g b z w) (hX : va_X b L xs s s.heap) (hbl : b < s.heap.size) (hL : L ≤ 1536) (hj : 3 * j + 3 ≤ L) (hLH : LH s D cI cZ cJ g z zM w j H locs cells slots SR SM x) (hr : lawR z SR cc va fu lo wo) (hm : lawM zM SM cc th va fu lo wo) (hc : cc.length ≤ 400) (hl : lv_has ls 7 (LVl b z zM w j)) (kk : NX p l e s m below meth c D cI cZ cJ g z zM w b j Q) : W p l e room_1 s m #[Value.ref b] below meth c H locs cells slots Q (F0 m 178 ls []) := by
  obtain ⟨⟨hx, hb, -⟩, -⟩ := id hC
  have key : ∃ (r : Int32) (cc' : List II) (va' fu' : Int32) (lo' wo' : Nat → Int32), xw z NK0 g 108 0 [(0, .ref (z + 0))] [] SR (fun v S' => v = some (.int r) ∧ lawR z S' cc' va' fu' lo' wo') ∧ xw zM [] g 140 0 [(0, .ref (zM + 52))] [] SM (fun v S' => v = some (.int r) ∧ lawM zM S' cc' 0 va' fu' lo' wo') ∧ cc'.length ≤ 400 := by
    exact ⟨_, cc, va, fu, lo, wo, r_value hr, lq_value hm, hc⟩
  obtain ⟨r, cc', va', fu', lo', wo', xR, xM, hc'⟩ := key
  refine lv_aload_n (k := 1) hx hb (by decide +kernel) rfl (mx_lget_at hl rfl) ?_
  refine lw_R (cl := (108, 1, some (some 9), 1)) (j := i_108) (lv := LVl b z zM w j) hC rfl (mk_callV (by decide) (by decide) cv_108 (Or.inl tx_749) rfl (by decide +kernel)) rfl rfl ⟨_, rfl⟩ rfl rfl (lawR_0 hr) (by omega) hl xR (fun v S' h => lawR_nums h.2) hLH (fun v S' H1 locs1 c1 s1 hP hLH1 => ?_)
  obtain ⟨rfl, hr1⟩ := hP
  show W p l e room_1 s m #[Value.ref b] below meth c H1 locs1 c1 s1 Q (F0 m 182 ls [.int r])
  refine lv_aload_n (k := 2) hx hb (by decide +kernel) rfl (mx_lget_at hl rfl) ?_
  refine lw_M (cl := (140, 1, some (some 10), 1)) (j := i_140) (lv := LVl b z zM w j) hC rfl (mk_callV (by decide) (by decide) cv_140 (Or.inl tx_984) rfl (by decide +kernel)) rfl rfl ⟨_, rfl⟩ rfl rfl (lawM_52 hm) (by omega) hl xM hLH1 (fun v S'' H2 locs2 c2 s2 hP hLH2 => ?_)
  obtain ⟨rfl, hm1⟩ := hP
  show W p l e room_1 s m #[Value.ref b] below meth c H2 locs2 c2 s2 Q (F0 m 186 ls [.int r, .int r])
  exact lv_icmp_eq (off := 204) (tgt := 390) hx hb (by decide +kernel) (by decide) (fun _ => kk H2 locs2 c2 s2 S' S'' x cc' 0 va' fu' lo' wo' ls (LH_up hLH2) hr1 hm1 hc' hl) (fun h => absurd rfl h)
theorem law_c5 (hC : LK p l s m meth c D cI cZ cJ g b z w) (hX : va_X b L xs s s.heap) (hbl : b < s.heap.size) (hL : L ≤ 1536) (hj : 3 * j + 3 ≤ L) (hLH : LH s D cI cZ cJ g z zM w j H locs cells slots SR SM x) (hr : lawR z SR cc va fu lo wo) (hm : lawM zM SM cc th va fu lo wo) (hc : cc.length ≤ 400) (hl : lv_has ls 7 (LVl b z zM w j)) (kk : NX p l e s m below meth c D cI cZ cJ g z zM w b j Q) : W p l e room_1 s m #[Value.ref b] below meth c H locs cells slots Q (F0 m 191 ls []) := by
  obtain ⟨⟨hx, hb, -⟩, -⟩ := id hC
  have key : ∃ (r : Int32) (cc' : List II) (va' fu' : Int32) (lo' wo' : Nat → Int32), xw z NK0 g 109 0 [(0, .ref (z + 0))] [] SR (fun v S' => v = some (.int r) ∧ lawR z S' cc' va' fu' lo' wo') ∧ xw zM [] g 141 0 [(0, .ref (zM + 52))] [] SM (fun v S' => v = some (.int r) ∧ lawM zM S' cc' 0 va' fu' lo' wo') ∧ cc'.length ≤ 400 := by
    exact ⟨_, cc, va, fu, lo, wo, r_fuel hr, lq_fuel hm, hc⟩
  obtain ⟨r, cc', va', fu', lo', wo', xR, xM, hc'⟩ := key
  refine lv_aload_n (k := 1) hx hb (by decide +kernel) rfl (mx_lget_at hl rfl) ?_
  refine lw_R (cl := (109, 1, some (some 9), 1)) (j := i_109) (lv := LVl b z zM w j) hC rfl (mk_callV (by decide) (by decide) cv_109 (Or.inl tx_753) rfl (by decide +kernel)) rfl rfl ⟨_, rfl⟩ rfl rfl (lawR_0 hr) (by omega) hl xR (fun v S' h => lawR_nums h.2) hLH (fun v S' H1 locs1 c1 s1 hP hLH1 => ?_)
  obtain ⟨rfl, hr1⟩ := hP
  show W p l e room_1 s m #[Value.ref b] below meth c H1 locs1 c1 s1 Q (F0 m 195 ls [.int r])
  refine lv_aload_n (k := 2) hx hb (by decide +kernel) rfl (mx_lget_at hl rfl) ?_
  refine lw_M (cl := (141, 1, some (some 10), 1)) (j := i_141) (lv := LVl b z zM w j) hC rfl (mk_callV (by decide) (by decide) cv_141 (Or.inl tx_988) rfl (by decide +kernel)) rfl rfl ⟨_, rfl⟩ rfl rfl (lawM_52 hm) (by omega) hl xM hLH1 (fun v S'' H2 locs2 c2 s2 hP hLH2 => ?_)
  obtain ⟨rfl, hm1⟩ := hP
  show W p l e room_1 s m #[Value.ref b] below meth c H2 locs2 c2 s2 Q (F0 m 199 ls [.int r, .int r])
  exact lv_icmp_eq (off := 191) (tgt := 390) hx hb (by decide +kernel) (by decide) (fun _ => kk H2 locs2 c2 s2 S' S'' x cc' 0 va' fu' lo' wo' ls (LH_up hLH2) hr1 hm1 hc' hl) (fun h => absurd rfl h)
theorem law_c6 (hC : LK p l s m meth c D cI cZ cJ g b z w) (hX : va_X b L xs s s.heap) (hbl : b < s.heap.size) (hL : L ≤ 1536) (hj : 3 * j + 3 ≤ L) (hLH : LH s D cI cZ cJ g z zM w j H locs cells slots SR SM x) (hr : lawR z SR cc va fu lo wo) (hm : lawM zM SM cc th va fu lo wo) (hc : cc.length ≤ 400) (hl : lv_has ls 7 (LVl b z zM w j)) (kk : NX p l e s m below meth c D cI cZ cJ g z zM w b j Q) : W p l e room_1 s m #[Value.ref b] below meth c H locs cells slots Q (F0 m 204 ls []) := by
  obtain ⟨⟨hx, hb, -⟩, -⟩ := id hC
  have key : ∃ (r : Int32) (cc' : List II) (va' fu' : Int32) (lo' wo' : Nat → Int32), xw z NK0 g 110 0 [(0, .ref (z + 0)), (1, .int (xs (3 * j + 1))), (2, .int (xs (3 * j + 2)))] [] SR (fun v S' => v = some (.int r) ∧ lawR z S' cc' va' fu' lo' wo') ∧ xw zM [] g 142 0 [(0, .ref (zM + 52)), (1, .int (xs (3 * j + 1))), (2, .int (xs (3 * j + 2)))] [] SM (fun v S' => v = some (.int r) ∧ lawM zM S' cc' 0 va' fu' lo' wo') ∧ cc'.length ≤ 400 := by
    exact ⟨_, cc, va, fu, _, wo, r_set hr, lq_set hm, hc⟩
  obtain ⟨r, cc', va', fu', lo', wo', xR, xM, hc'⟩ := key
  refine lv_aload_n (k := 1) hx hb (by decide +kernel) rfl (mx_lget_at hl rfl) ?_
  refine lw_ld (d := 1) (n := 1) hC hX hbl (LH_vs hLH).1 hl rfl rfl (by omega) hL (by decide) (by decide +kernel) (by decide +kernel) (by decide +kernel) (by decide +kernel) (by decide +kernel) ?_
  refine lw_ld (d := 2) (n := 2) hC hX hbl (LH_vs hLH).1 hl rfl rfl (by omega) hL (by decide) (by decide +kernel) (by decide +kernel) (by decide +kernel) (by decide +kernel) (by decide +kernel) ?_
  refine lw_R (cl := (110, 3, some (some 9), 4)) (j := i_110) (lv := LVl b z zM w j) hC rfl (mk_callV (by decide) (by decide) cv_110 (Or.inl tx_757) rfl (by decide +kernel)) rfl rfl ⟨_, rfl⟩ rfl rfl (lawR_0 hr) (by omega) hl xR (fun v S' h => lawR_nums h.2) hLH (fun v S' H1 locs1 c1 s1 hP hLH1 => ?_)
  obtain ⟨rfl, hr1⟩ := hP
  show W p l e room_1 s m #[Value.ref b] below meth c H1 locs1 c1 s1 Q (F0 m 220 ls [.int r])
  refine lv_aload_n (k := 2) hx hb (by decide +kernel) rfl (mx_lget_at hl rfl) ?_
  refine lw_ld (d := 1) (n := 1) hC hX hbl (LH_vs hLH1).1 hl rfl rfl (by omega) hL (by decide) (by decide +kernel) (by decide +kernel) (by decide +kernel) (by decide +kernel) (by decide +kernel) ?_
  refine lw_ld (d := 2) (n := 2) hC hX hbl (LH_vs hLH1).1 hl rfl rfl (by omega) hL (by decide) (by decide +kernel) (by decide +kernel) (by decide +kernel) (by decide +kernel) (by decide +kernel) ?_
  refine lw_M (cl := (142, 3, some (some 10), 4)) (j := i_142) (lv := LVl b z zM w j) hC rfl (mk_callV (by decide) (by decide) cv_142 (Or.inl tx_992) rfl (by decide +kernel)) rfl rfl ⟨_, rfl⟩ rfl rfl (lawM_52 hm) (by omega) hl xM hLH1 (fun v S'' H2 locs2 c2 s2 hP hLH2 => ?_)
  obtain ⟨rfl, hm1⟩ := hP
  show W p l e room_1 s m #[Value.ref b] below meth c H2 locs2 c2 s2 Q (F0 m 236 ls [.int r, .int r])
  exact lv_icmp_eq (off := 154) (tgt := 390) hx hb (by decide +kernel) (by decide) (fun _ => kk H2 locs2 c2 s2 S' S'' x cc' 0 va' fu' lo' wo' ls (LH_up hLH2) hr1 hm1 hc' hl) (fun h => absurd rfl h)
theorem law_c8 (hC : LK p l s m meth c D cI cZ cJ g b z w) (hX : va_X b L xs s s.heap) (hbl : b < s.heap.size) (hL : L ≤ 1536) (hj : 3 * j + 3 ≤ L) (hLH : LH s D cI cZ cJ g z zM w j H locs cells slots SR SM x) (hr : lawR z SR cc va fu lo wo) (hm : lawM zM SM cc th va fu lo wo) (hc : cc.length ≤ 400) (hl : lv_has ls 7 (LVl b z zM w j)) (kk : NX p l e s m below meth c D cI cZ cJ g z zM w b j Q) : W p l e room_1 s m #[Value.ref b] below meth c H locs cells slots Q (F0 m 297 ls []) := by
  obtain ⟨⟨hx, hb, -⟩, -⟩ := id hC
  have key : ∃ (r : Int32) (cc' : List II) (va' fu' : Int32) (lo' wo' : Nat → Int32), xw z NK0 g 111 0 [(0, .ref (z + 0)), (1, .int (xs (3 * j + 1))), (2, .int (xs (3 * j + 2)))] [] SR (fun v S' => v = some (.int r) ∧ lawR z S' cc' va' fu' lo' wo') ∧ xw zM [] g 144 0 [(0, .ref (zM + 52)), (1, .int (xs (3 * j + 1))), (2, .int (xs (3 * j + 2)))] [] SM (fun v S' => v = some (.int r) ∧ lawM zM S' cc' 0 va' fu' lo' wo') ∧ cc'.length ≤ 400 := by
    exact ⟨_, cc, va, fu, lo, _, r_put hr, lq_put hm, hc⟩
  obtain ⟨r, cc', va', fu', lo', wo', xR, xM, hc'⟩ := key
  refine lv_aload_n (k := 1) hx hb (by decide +kernel) rfl (mx_lget_at hl rfl) ?_
  refine lw_ld (d := 1) (n := 1) hC hX hbl (LH_vs hLH).1 hl rfl rfl (by omega) hL (by decide) (by decide +kernel) (by decide +kernel) (by decide +kernel) (by decide +kernel) (by decide +kernel) ?_
  refine lw_ld (d := 2) (n := 2) hC hX hbl (LH_vs hLH).1 hl rfl rfl (by omega) hL (by decide) (by decide +kernel) (by decide +kernel) (by decide +kernel) (by decide +kernel) (by decide +kernel) ?_
  refine lw_R (cl := (111, 3, some (some 9), 4)) (j := i_111) (lv := LVl b z zM w j) hC rfl (mk_callV (by decide) (by decide) cv_111 (Or.inl tx_763) rfl (by decide +kernel)) rfl rfl ⟨_, rfl⟩ rfl rfl (lawR_0 hr) (by omega) hl xR (fun v S' h => lawR_nums h.2) hLH (fun v S' H1 locs1 c1 s1 hP hLH1 => ?_)
  obtain ⟨rfl, hr1⟩ := hP
  show W p l e room_1 s m #[Value.ref b] below meth c H1 locs1 c1 s1 Q (F0 m 313 ls [.int r])
  refine lv_aload_n (k := 2) hx hb (by decide +kernel) rfl (mx_lget_at hl rfl) ?_
  refine lw_ld (d := 1) (n := 1) hC hX hbl (LH_vs hLH1).1 hl rfl rfl (by omega) hL (by decide) (by decide +kernel) (by decide +kernel) (by decide +kernel) (by decide +kernel) (by decide +kernel) ?_
  refine lw_ld (d := 2) (n := 2) hC hX hbl (LH_vs hLH1).1 hl rfl rfl (by omega) hL (by decide) (by decide +kernel) (by decide +kernel) (by decide +kernel) (by decide +kernel) (by decide +kernel) ?_
  refine lw_M (cl := (144, 3, some (some 10), 4)) (j := i_144) (lv := LVl b z zM w j) hC rfl (mk_callV (by decide) (by decide) cv_144 (Or.inl tx_1000) rfl (by decide +kernel)) rfl rfl ⟨_, rfl⟩ rfl rfl (lawM_52 hm) (by omega) hl xM hLH1 (fun v S'' H2 locs2 c2 s2 hP hLH2 => ?_)
  obtain ⟨rfl, hm1⟩ := hP
  show W p l e room_1 s m #[Value.ref b] below meth c H2 locs2 c2 s2 Q (F0 m 329 ls [.int r, .int r])
  exact lv_icmp_eq (off := 61) (tgt := 390) hx hb (by decide +kernel) (by decide) (fun _ => kk H2 locs2 c2 s2 S' S'' x cc' 0 va' fu' lo' wo' ls (LH_up hLH2) hr1 hm1 hc' hl) (fun h => absurd rfl h)
end LAWC
